section
-- ===== PART A: goes FIRST, ahead of the names: the tables' words, and 'selects' of the private methods out of them =====
/-- a private method of a class that the tables say can be made, by its rows of tables_1 -/
def lw_okq (q : MethodName × Nat) : Prop := (q.1.cls ≠ "java/lang/invoke/MethodHandle" ∧ q.1.cls ≠ "java/lang/invoke/VarHandle") ∧ Cond.instantiable q.1.cls q.2 ∈ tables_1 ∧ Cond.privateMethod q.1 ∈ tables_1 ∧ Cond.instanceMethod q.1 ∈ tables_1
theorem lw_p0 : lw_okq (⟨"MatrixDesk$Whole", "widen", "(I)V"⟩, 3) := ⟨⟨by decide +kernel, by decide +kernel⟩, List.mem_of_getElem? (i := 74) (by decide +kernel), List.mem_of_getElem? (i := 107) (by decide +kernel), List.mem_of_getElem? (i := 108) (by decide +kernel)⟩
theorem lw_p1 : lw_okq (⟨"MatrixDesk$Whole", "trim", "(I)V"⟩, 3) := ⟨⟨by decide +kernel, by decide +kernel⟩, List.mem_of_getElem? (i := 74) (by decide +kernel), List.mem_of_getElem? (i := 137) (by decide +kernel), List.mem_of_getElem? (i := 138) (by decide +kernel)⟩
theorem lw_p2 : lw_okq (⟨"MatrixDesk", "matrix", "(I)LMatrixDesk$Matrix;"⟩, 9) := ⟨⟨by decide +kernel, by decide +kernel⟩, List.mem_of_getElem? (i := 20) (by decide +kernel), List.mem_of_getElem? (i := 272) (by decide +kernel), List.mem_of_getElem? (i := 273) (by decide +kernel)⟩
theorem lw_p3 : lw_okq (⟨"java/lang/Throwable", "fillInStackTrace", "(I)Ljava/lang/Throwable;"⟩, 6) := ⟨⟨by decide +kernel, by decide +kernel⟩, List.mem_of_getElem? (i := 313) (by decide +kernel), List.mem_of_getElem? (i := 311) (by decide +kernel), List.mem_of_getElem? (i := 312) (by decide +kernel)⟩
theorem lw_p4 : lw_okq (⟨"MatrixDesk", "matrixWith", "(III)LMatrixDesk$Matrix;"⟩, 9) := ⟨⟨by decide +kernel, by decide +kernel⟩, List.mem_of_getElem? (i := 20) (by decide +kernel), List.mem_of_getElem? (i := 373) (by decide +kernel), List.mem_of_getElem? (i := 374) (by decide +kernel)⟩
theorem lw_p5 : lw_okq (⟨"MatrixDesk", "addToSum", "(JJ)V"⟩, 9) := ⟨⟨by decide +kernel, by decide +kernel⟩, List.mem_of_getElem? (i := 20) (by decide +kernel), List.mem_of_getElem? (i := 409) (by decide +kernel), List.mem_of_getElem? (i := 410) (by decide +kernel)⟩
theorem lw_p6 : lw_okq (⟨"MatrixDesk$Whole", "addLine", "(LMatrixDesk$Whole;JII)V"⟩, 3) := ⟨⟨by decide +kernel, by decide +kernel⟩, List.mem_of_getElem? (i := 74) (by decide +kernel), List.mem_of_getElem? (i := 421) (by decide +kernel), List.mem_of_getElem? (i := 422) (by decide +kernel)⟩
theorem lw_p7 : lw_okq (⟨"MatrixDesk$Whole", "straighten", "(I)V"⟩, 3) := ⟨⟨by decide +kernel, by decide +kernel⟩, List.mem_of_getElem? (i := 74) (by decide +kernel), List.mem_of_getElem? (i := 427) (by decide +kernel), List.mem_of_getElem? (i := 428) (by decide +kernel)⟩
theorem lw_p8 : lw_okq (⟨"MatrixDesk$Minors", "takeRow", "(III)V"⟩, 5) := ⟨⟨by decide +kernel, by decide +kernel⟩, List.mem_of_getElem? (i := 157) (by decide +kernel), List.mem_of_getElem? (i := 478) (by decide +kernel), List.mem_of_getElem? (i := 479) (by decide +kernel)⟩
theorem lw_p9 : lw_okq (⟨"MatrixDesk$Minors", "hasMinor", "(I)Z"⟩, 5) := ⟨⟨by decide +kernel, by decide +kernel⟩, List.mem_of_getElem? (i := 157) (by decide +kernel), List.mem_of_getElem? (i := 490) (by decide +kernel), List.mem_of_getElem? (i := 491) (by decide +kernel)⟩
theorem lw_p10 : lw_okq (⟨"MatrixDesk$Staircase", "meet", "(I)V"⟩, 6) := ⟨⟨by decide +kernel, by decide +kernel⟩, List.mem_of_getElem? (i := 183) (by decide +kernel), List.mem_of_getElem? (i := 525) (by decide +kernel), List.mem_of_getElem? (i := 526) (by decide +kernel)⟩
theorem lw_p11 : lw_okq (⟨"MatrixDesk$Staircase", "lower", "(LMatrixDesk$Row;LMatrixDesk$Row;I)V"⟩, 6) := ⟨⟨by decide +kernel, by decide +kernel⟩, List.mem_of_getElem? (i := 183) (by decide +kernel), List.mem_of_getElem? (i := 529) (by decide +kernel), List.mem_of_getElem? (i := 530) (by decide +kernel)⟩
theorem lw_p12 : lw_okq (⟨"MatrixDesk$Whole", "overDigit", "(J)J"⟩, 3) := ⟨⟨by decide +kernel, by decide +kernel⟩, List.mem_of_getElem? (i := 74) (by decide +kernel), List.mem_of_getElem? (i := 544) (by decide +kernel), List.mem_of_getElem? (i := 545) (by decide +kernel)⟩
theorem lw_p13 : lw_okq (⟨"MatrixDesk$Division", "divideLong", "(LMatrixDesk$Whole;LMatrixDesk$Whole;LMatrixDesk$Whole;)V"⟩, 5) := ⟨⟨by decide +kernel, by decide +kernel⟩, List.mem_of_getElem? (i := 68) (by decide +kernel), List.mem_of_getElem? (i := 552) (by decide +kernel), List.mem_of_getElem? (i := 553) (by decide +kernel)⟩
theorem lw_p14 : lw_okq (⟨"MatrixDesk$Whole", "timesDigit", "(J)V"⟩, 3) := ⟨⟨by decide +kernel, by decide +kernel⟩, List.mem_of_getElem? (i := 74) (by decide +kernel), List.mem_of_getElem? (i := 558) (by decide +kernel), List.mem_of_getElem? (i := 559) (by decide +kernel)⟩
theorem lw_p15 : lw_okq (⟨"MatrixDesk$Division", "guess", "(LMatrixDesk$Whole;I)J"⟩, 5) := ⟨⟨by decide +kernel, by decide +kernel⟩, List.mem_of_getElem? (i := 68) (by decide +kernel), List.mem_of_getElem? (i := 562) (by decide +kernel), List.mem_of_getElem? (i := 563) (by decide +kernel)⟩
def lw_privs_1 : List (MethodName × Nat) := [(⟨"MatrixDesk$Whole", "widen", "(I)V"⟩, 3), (⟨"MatrixDesk$Whole", "trim", "(I)V"⟩, 3), (⟨"MatrixDesk", "matrix", "(I)LMatrixDesk$Matrix;"⟩, 9), (⟨"java/lang/Throwable", "fillInStackTrace", "(I)Ljava/lang/Throwable;"⟩, 6), (⟨"MatrixDesk", "matrixWith", "(III)LMatrixDesk$Matrix;"⟩, 9), (⟨"MatrixDesk", "addToSum", "(JJ)V"⟩, 9), (⟨"MatrixDesk$Whole", "addLine", "(LMatrixDesk$Whole;JII)V"⟩, 3), (⟨"MatrixDesk$Whole", "straighten", "(I)V"⟩, 3), (⟨"MatrixDesk$Minors", "takeRow", "(III)V"⟩, 5), (⟨"MatrixDesk$Minors", "hasMinor", "(I)Z"⟩, 5), (⟨"MatrixDesk$Staircase", "meet", "(I)V"⟩, 6), (⟨"MatrixDesk$Staircase", "lower", "(LMatrixDesk$Row;LMatrixDesk$Row;I)V"⟩, 6), (⟨"MatrixDesk$Whole", "overDigit", "(J)J"⟩, 3), (⟨"MatrixDesk$Division", "divideLong", "(LMatrixDesk$Whole;LMatrixDesk$Whole;LMatrixDesk$Whole;)V"⟩, 5), (⟨"MatrixDesk$Whole", "timesDigit", "(J)V"⟩, 3), (⟨"MatrixDesk$Division", "guess", "(LMatrixDesk$Whole;I)J"⟩, 5)]
theorem lw_r1 : ∀ q ∈ lw_privs_1, lw_okq q := List.forall_mem_cons.mpr ⟨lw_p0, List.forall_mem_cons.mpr ⟨lw_p1, List.forall_mem_cons.mpr ⟨lw_p2, List.forall_mem_cons.mpr ⟨lw_p3, List.forall_mem_cons.mpr ⟨lw_p4, List.forall_mem_cons.mpr ⟨lw_p5, List.forall_mem_cons.mpr ⟨lw_p6, List.forall_mem_cons.mpr ⟨lw_p7, List.forall_mem_cons.mpr ⟨lw_p8, List.forall_mem_cons.mpr ⟨lw_p9, List.forall_mem_cons.mpr ⟨lw_p10, List.forall_mem_cons.mpr ⟨lw_p11, List.forall_mem_cons.mpr ⟨lw_p12, List.forall_mem_cons.mpr ⟨lw_p13, List.forall_mem_cons.mpr ⟨lw_p14, List.forall_mem_cons.mpr ⟨lw_p15, fun _ h => absurd h List.not_mem_nil⟩⟩⟩⟩⟩⟩⟩⟩⟩⟩⟩⟩⟩⟩⟩⟩
theorem lw_p16 : lw_okq (⟨"MatrixDesk$Staircase", "keepSpare", "(I)V"⟩, 6) := ⟨⟨by decide +kernel, by decide +kernel⟩, List.mem_of_getElem? (i := 183) (by decide +kernel), List.mem_of_getElem? (i := 583) (by decide +kernel), List.mem_of_getElem? (i := 584) (by decide +kernel)⟩
theorem lw_p17 : lw_okq (⟨"MatrixDesk", "copyStairs", "(II)Z"⟩, 9) := ⟨⟨by decide +kernel, by decide +kernel⟩, List.mem_of_getElem? (i := 20) (by decide +kernel), List.mem_of_getElem? (i := 592) (by decide +kernel), List.mem_of_getElem? (i := 593) (by decide +kernel)⟩
theorem lw_p18 : lw_okq (⟨"MatrixDesk$Minors", "takeRows", "(II)V"⟩, 5) := ⟨⟨by decide +kernel, by decide +kernel⟩, List.mem_of_getElem? (i := 157) (by decide +kernel), List.mem_of_getElem? (i := 636) (by decide +kernel), List.mem_of_getElem? (i := 637) (by decide +kernel)⟩
theorem lw_p19 : lw_okq (⟨"MatrixDesk", "printWhole", "(LMatrixDesk$Whole;)I"⟩, 9) := ⟨⟨by decide +kernel, by decide +kernel⟩, List.mem_of_getElem? (i := 20) (by decide +kernel), List.mem_of_getElem? (i := 640) (by decide +kernel), List.mem_of_getElem? (i := 641) (by decide +kernel)⟩
theorem lw_p20 : lw_okq (⟨"MatrixDesk", "printFraction", "()V"⟩, 9) := ⟨⟨by decide +kernel, by decide +kernel⟩, List.mem_of_getElem? (i := 20) (by decide +kernel), List.mem_of_getElem? (i := 699) (by decide +kernel), List.mem_of_getElem? (i := 700) (by decide +kernel)⟩
theorem lw_p21 : lw_okq (⟨"MatrixDesk$Division", "lower", "(LMatrixDesk$Whole;)V"⟩, 5) := ⟨⟨by decide +kernel, by decide +kernel⟩, List.mem_of_getElem? (i := 68) (by decide +kernel), List.mem_of_getElem? (i := 708) (by decide +kernel), List.mem_of_getElem? (i := 709) (by decide +kernel)⟩
theorem lw_p22 : lw_okq (⟨"MatrixDesk$Staircase", "isLead", "(II)Z"⟩, 6) := ⟨⟨by decide +kernel, by decide +kernel⟩, List.mem_of_getElem? (i := 183) (by decide +kernel), List.mem_of_getElem? (i := 748) (by decide +kernel), List.mem_of_getElem? (i := 749) (by decide +kernel)⟩
theorem lw_p23 : lw_okq (⟨"MatrixDesk", "stepsComeToForm", "(LMatrixDesk$Matrix;)Z"⟩, 9) := ⟨⟨by decide +kernel, by decide +kernel⟩, List.mem_of_getElem? (i := 20) (by decide +kernel), List.mem_of_getElem? (i := 754) (by decide +kernel), List.mem_of_getElem? (i := 755) (by decide +kernel)⟩
theorem lw_p24 : lw_okq (⟨"MatrixDesk", "stepsGoBack", "(LMatrixDesk$Matrix;)Z"⟩, 9) := ⟨⟨by decide +kernel, by decide +kernel⟩, List.mem_of_getElem? (i := 20) (by decide +kernel), List.mem_of_getElem? (i := 759) (by decide +kernel), List.mem_of_getElem? (i := 760) (by decide +kernel)⟩
theorem lw_p25 : lw_okq (⟨"MatrixDesk", "stepsHaveUnitDeterminant", "(LMatrixDesk$Matrix;)Z"⟩, 9) := ⟨⟨by decide +kernel, by decide +kernel⟩, List.mem_of_getElem? (i := 20) (by decide +kernel), List.mem_of_getElem? (i := 764) (by decide +kernel), List.mem_of_getElem? (i := 765) (by decide +kernel)⟩
theorem lw_p26 : lw_okq (⟨"MatrixDeskModel", "isMatrix", "(I)Z"⟩, 17) := ⟨⟨by decide +kernel, by decide +kernel⟩, List.mem_of_getElem? (i := 774) (by decide +kernel), List.mem_of_getElem? (i := 842) (by decide +kernel), List.mem_of_getElem? (i := 843) (by decide +kernel)⟩
theorem lw_p27 : lw_okq (⟨"MatrixDeskModel", "clear", "(III)V"⟩, 17) := ⟨⟨by decide +kernel, by decide +kernel⟩, List.mem_of_getElem? (i := 774) (by decide +kernel), List.mem_of_getElem? (i := 846) (by decide +kernel), List.mem_of_getElem? (i := 847) (by decide +kernel)⟩
theorem lw_p28 : lw_okq (⟨"MatrixDeskModel", "isPlace", "(III)Z"⟩, 17) := ⟨⟨by decide +kernel, by decide +kernel⟩, List.mem_of_getElem? (i := 774) (by decide +kernel), List.mem_of_getElem? (i := 854) (by decide +kernel), List.mem_of_getElem? (i := 855) (by decide +kernel)⟩
theorem lw_p29 : lw_okq (⟨"MatrixDeskModel", "number", "(III)J"⟩, 17) := ⟨⟨by decide +kernel, by decide +kernel⟩, List.mem_of_getElem? (i := 774) (by decide +kernel), List.mem_of_getElem? (i := 864) (by decide +kernel), List.mem_of_getElem? (i := 865) (by decide +kernel)⟩
theorem lw_p30 : lw_okq (⟨"MatrixDeskModel", "areThere", "(III)Z"⟩, 17) := ⟨⟨by decide +kernel, by decide +kernel⟩, List.mem_of_getElem? (i := 774) (by decide +kernel), List.mem_of_getElem? (i := 876) (by decide +kernel), List.mem_of_getElem? (i := 877) (by decide +kernel)⟩
theorem lw_p31 : lw_okq (⟨"MatrixDeskModel", "result", "(II)I"⟩, 17) := ⟨⟨by decide +kernel, by decide +kernel⟩, List.mem_of_getElem? (i := 774) (by decide +kernel), List.mem_of_getElem? (i := 880) (by decide +kernel), List.mem_of_getElem? (i := 881) (by decide +kernel)⟩
def lw_privs_2 : List (MethodName × Nat) := [(⟨"MatrixDesk$Staircase", "keepSpare", "(I)V"⟩, 6), (⟨"MatrixDesk", "copyStairs", "(II)Z"⟩, 9), (⟨"MatrixDesk$Minors", "takeRows", "(II)V"⟩, 5), (⟨"MatrixDesk", "printWhole", "(LMatrixDesk$Whole;)I"⟩, 9), (⟨"MatrixDesk", "printFraction", "()V"⟩, 9), (⟨"MatrixDesk$Division", "lower", "(LMatrixDesk$Whole;)V"⟩, 5), (⟨"MatrixDesk$Staircase", "isLead", "(II)Z"⟩, 6), (⟨"MatrixDesk", "stepsComeToForm", "(LMatrixDesk$Matrix;)Z"⟩, 9), (⟨"MatrixDesk", "stepsGoBack", "(LMatrixDesk$Matrix;)Z"⟩, 9), (⟨"MatrixDesk", "stepsHaveUnitDeterminant", "(LMatrixDesk$Matrix;)Z"⟩, 9), (⟨"MatrixDeskModel", "isMatrix", "(I)Z"⟩, 17), (⟨"MatrixDeskModel", "clear", "(III)V"⟩, 17), (⟨"MatrixDeskModel", "isPlace", "(III)Z"⟩, 17), (⟨"MatrixDeskModel", "number", "(III)J"⟩, 17), (⟨"MatrixDeskModel", "areThere", "(III)Z"⟩, 17), (⟨"MatrixDeskModel", "result", "(II)I"⟩, 17)]
theorem lw_r2 : ∀ q ∈ lw_privs_2, lw_okq q := List.forall_mem_cons.mpr ⟨lw_p16, List.forall_mem_cons.mpr ⟨lw_p17, List.forall_mem_cons.mpr ⟨lw_p18, List.forall_mem_cons.mpr ⟨lw_p19, List.forall_mem_cons.mpr ⟨lw_p20, List.forall_mem_cons.mpr ⟨lw_p21, List.forall_mem_cons.mpr ⟨lw_p22, List.forall_mem_cons.mpr ⟨lw_p23, List.forall_mem_cons.mpr ⟨lw_p24, List.forall_mem_cons.mpr ⟨lw_p25, List.forall_mem_cons.mpr ⟨lw_p26, List.forall_mem_cons.mpr ⟨lw_p27, List.forall_mem_cons.mpr ⟨lw_p28, List.forall_mem_cons.mpr ⟨lw_p29, List.forall_mem_cons.mpr ⟨lw_p30, List.forall_mem_cons.mpr ⟨lw_p31, fun _ h => absurd h List.not_mem_nil⟩⟩⟩⟩⟩⟩⟩⟩⟩⟩⟩⟩⟩⟩⟩⟩
theorem lw_p32 : lw_okq (⟨"MatrixDeskModel", "bigSet", "(IJ)V"⟩, 17) := ⟨⟨by decide +kernel, by decide +kernel⟩, List.mem_of_getElem? (i := 774) (by decide +kernel), List.mem_of_getElem? (i := 884) (by decide +kernel), List.mem_of_getElem? (i := 885) (by decide +kernel)⟩
theorem lw_p33 : lw_okq (⟨"MatrixDeskModel", "addTimes", "(IJJ)V"⟩, 17) := ⟨⟨by decide +kernel, by decide +kernel⟩, List.mem_of_getElem? (i := 774) (by decide +kernel), List.mem_of_getElem? (i := 889) (by decide +kernel), List.mem_of_getElem? (i := 890) (by decide +kernel)⟩
theorem lw_p34 : lw_okq (⟨"MatrixDeskModel", "bigProduct", "(III)V"⟩, 17) := ⟨⟨by decide +kernel, by decide +kernel⟩, List.mem_of_getElem? (i := 774) (by decide +kernel), List.mem_of_getElem? (i := 893) (by decide +kernel), List.mem_of_getElem? (i := 894) (by decide +kernel)⟩
theorem lw_p35 : lw_okq (⟨"MatrixDeskModel", "bigTrim", "(I)V"⟩, 17) := ⟨⟨by decide +kernel, by decide +kernel⟩, List.mem_of_getElem? (i := 774) (by decide +kernel), List.mem_of_getElem? (i := 898) (by decide +kernel), List.mem_of_getElem? (i := 899) (by decide +kernel)⟩
theorem lw_p36 : lw_okq (⟨"MatrixDeskModel", "bigAdd", "(IIZ)V"⟩, 17) := ⟨⟨by decide +kernel, by decide +kernel⟩, List.mem_of_getElem? (i := 774) (by decide +kernel), List.mem_of_getElem? (i := 902) (by decide +kernel), List.mem_of_getElem? (i := 903) (by decide +kernel)⟩
theorem lw_p37 : lw_okq (⟨"MatrixDeskModel", "bigMore", "(II)V"⟩, 17) := ⟨⟨by decide +kernel, by decide +kernel⟩, List.mem_of_getElem? (i := 774) (by decide +kernel), List.mem_of_getElem? (i := 906) (by decide +kernel), List.mem_of_getElem? (i := 907) (by decide +kernel)⟩
theorem lw_p38 : lw_okq (⟨"MatrixDeskModel", "bigAt", "(II)I"⟩, 17) := ⟨⟨by decide +kernel, by decide +kernel⟩, List.mem_of_getElem? (i := 774) (by decide +kernel), List.mem_of_getElem? (i := 910) (by decide +kernel), List.mem_of_getElem? (i := 911) (by decide +kernel)⟩
theorem lw_p39 : lw_okq (⟨"MatrixDeskModel", "bigSizes", "(II)I"⟩, 17) := ⟨⟨by decide +kernel, by decide +kernel⟩, List.mem_of_getElem? (i := 774) (by decide +kernel), List.mem_of_getElem? (i := 915) (by decide +kernel), List.mem_of_getElem? (i := 916) (by decide +kernel)⟩
theorem lw_p40 : lw_okq (⟨"MatrixDeskModel", "bigDiffer", "(IIZ)V"⟩, 17) := ⟨⟨by decide +kernel, by decide +kernel⟩, List.mem_of_getElem? (i := 774) (by decide +kernel), List.mem_of_getElem? (i := 919) (by decide +kernel), List.mem_of_getElem? (i := 920) (by decide +kernel)⟩
theorem lw_p41 : lw_okq (⟨"MatrixDeskModel", "give", "(III)Z"⟩, 17) := ⟨⟨by decide +kernel, by decide +kernel⟩, List.mem_of_getElem? (i := 774) (by decide +kernel), List.mem_of_getElem? (i := 923) (by decide +kernel), List.mem_of_getElem? (i := 924) (by decide +kernel)⟩
theorem lw_p42 : lw_okq (⟨"MatrixDeskModel", "bigValue", "(I)J"⟩, 17) := ⟨⟨by decide +kernel, by decide +kernel⟩, List.mem_of_getElem? (i := 774) (by decide +kernel), List.mem_of_getElem? (i := 927) (by decide +kernel), List.mem_of_getElem? (i := 928) (by decide +kernel)⟩
theorem lw_p43 : lw_okq (⟨"MatrixDeskModel", "lookAt", "(I)V"⟩, 17) := ⟨⟨by decide +kernel, by decide +kernel⟩, List.mem_of_getElem? (i := 774) (by decide +kernel), List.mem_of_getElem? (i := 943) (by decide +kernel), List.mem_of_getElem? (i := 944) (by decide +kernel)⟩
theorem lw_p44 : lw_okq (⟨"MatrixDeskModel", "rankOf", "()I"⟩, 17) := ⟨⟨by decide +kernel, by decide +kernel⟩, List.mem_of_getElem? (i := 774) (by decide +kernel), List.mem_of_getElem? (i := 947) (by decide +kernel), List.mem_of_getElem? (i := 948) (by decide +kernel)⟩
theorem lw_p45 : lw_okq (⟨"MatrixDeskModel", "least", "(II)I"⟩, 17) := ⟨⟨by decide +kernel, by decide +kernel⟩, List.mem_of_getElem? (i := 774) (by decide +kernel), List.mem_of_getElem? (i := 951) (by decide +kernel), List.mem_of_getElem? (i := 952) (by decide +kernel)⟩
theorem lw_p46 : lw_okq (⟨"MatrixDeskModel", "divisorOf", "(II)Z"⟩, 17) := ⟨⟨by decide +kernel, by decide +kernel⟩, List.mem_of_getElem? (i := 774) (by decide +kernel), List.mem_of_getElem? (i := 955) (by decide +kernel), List.mem_of_getElem? (i := 956) (by decide +kernel)⟩
theorem lw_p47 : lw_okq (⟨"MatrixDeskModel", "pick", "(I)I"⟩, 17) := ⟨⟨by decide +kernel, by decide +kernel⟩, List.mem_of_getElem? (i := 774) (by decide +kernel), List.mem_of_getElem? (i := 962) (by decide +kernel), List.mem_of_getElem? (i := 963) (by decide +kernel)⟩
def lw_privs_3 : List (MethodName × Nat) := [(⟨"MatrixDeskModel", "bigSet", "(IJ)V"⟩, 17), (⟨"MatrixDeskModel", "addTimes", "(IJJ)V"⟩, 17), (⟨"MatrixDeskModel", "bigProduct", "(III)V"⟩, 17), (⟨"MatrixDeskModel", "bigTrim", "(I)V"⟩, 17), (⟨"MatrixDeskModel", "bigAdd", "(IIZ)V"⟩, 17), (⟨"MatrixDeskModel", "bigMore", "(II)V"⟩, 17), (⟨"MatrixDeskModel", "bigAt", "(II)I"⟩, 17), (⟨"MatrixDeskModel", "bigSizes", "(II)I"⟩, 17), (⟨"MatrixDeskModel", "bigDiffer", "(IIZ)V"⟩, 17), (⟨"MatrixDeskModel", "give", "(III)Z"⟩, 17), (⟨"MatrixDeskModel", "bigValue", "(I)J"⟩, 17), (⟨"MatrixDeskModel", "lookAt", "(I)V"⟩, 17), (⟨"MatrixDeskModel", "rankOf", "()I"⟩, 17), (⟨"MatrixDeskModel", "least", "(II)I"⟩, 17), (⟨"MatrixDeskModel", "divisorOf", "(II)Z"⟩, 17), (⟨"MatrixDeskModel", "pick", "(I)I"⟩, 17)]
theorem lw_r3 : ∀ q ∈ lw_privs_3, lw_okq q := List.forall_mem_cons.mpr ⟨lw_p32, List.forall_mem_cons.mpr ⟨lw_p33, List.forall_mem_cons.mpr ⟨lw_p34, List.forall_mem_cons.mpr ⟨lw_p35, List.forall_mem_cons.mpr ⟨lw_p36, List.forall_mem_cons.mpr ⟨lw_p37, List.forall_mem_cons.mpr ⟨lw_p38, List.forall_mem_cons.mpr ⟨lw_p39, List.forall_mem_cons.mpr ⟨lw_p40, List.forall_mem_cons.mpr ⟨lw_p41, List.forall_mem_cons.mpr ⟨lw_p42, List.forall_mem_cons.mpr ⟨lw_p43, List.forall_mem_cons.mpr ⟨lw_p44, List.forall_mem_cons.mpr ⟨lw_p45, List.forall_mem_cons.mpr ⟨lw_p46, List.forall_mem_cons.mpr ⟨lw_p47, fun _ h => absurd h List.not_mem_nil⟩⟩⟩⟩⟩⟩⟩⟩⟩⟩⟩⟩⟩⟩⟩⟩
theorem lw_p48 : lw_okq (⟨"MatrixDeskModel", "findMinors", "(I)V"⟩, 17) := ⟨⟨by decide +kernel, by decide +kernel⟩, List.mem_of_getElem? (i := 774) (by decide +kernel), List.mem_of_getElem? (i := 966) (by decide +kernel), List.mem_of_getElem? (i := 967) (by decide +kernel)⟩
theorem lw_p49 : lw_okq (⟨"MatrixDeskModel", "bigIsZero", "(I)Z"⟩, 17) := ⟨⟨by decide +kernel, by decide +kernel⟩, List.mem_of_getElem? (i := 774) (by decide +kernel), List.mem_of_getElem? (i := 970) (by decide +kernel), List.mem_of_getElem? (i := 971) (by decide +kernel)⟩
theorem lw_p50 : lw_okq (⟨"MatrixDeskModel", "divide", "(II)V"⟩, 17) := ⟨⟨by decide +kernel, by decide +kernel⟩, List.mem_of_getElem? (i := 774) (by decide +kernel), List.mem_of_getElem? (i := 974) (by decide +kernel), List.mem_of_getElem? (i := 975) (by decide +kernel)⟩
theorem lw_p51 : lw_okq (⟨"MatrixDeskModel", "bigCopy", "(II)V"⟩, 17) := ⟨⟨by decide +kernel, by decide +kernel⟩, List.mem_of_getElem? (i := 774) (by decide +kernel), List.mem_of_getElem? (i := 978) (by decide +kernel), List.mem_of_getElem? (i := 979) (by decide +kernel)⟩
theorem lw_p52 : lw_okq (⟨"MatrixDeskModel", "bigDivide", "(III)V"⟩, 17) := ⟨⟨by decide +kernel, by decide +kernel⟩, List.mem_of_getElem? (i := 774) (by decide +kernel), List.mem_of_getElem? (i := 982) (by decide +kernel), List.mem_of_getElem? (i := 983) (by decide +kernel)⟩
theorem lw_p53 : lw_okq (⟨"MatrixDeskModel", "bigHolds", "(III)Z"⟩, 17) := ⟨⟨by decide +kernel, by decide +kernel⟩, List.mem_of_getElem? (i := 774) (by decide +kernel), List.mem_of_getElem? (i := 986) (by decide +kernel), List.mem_of_getElem? (i := 987) (by decide +kernel)⟩
theorem lw_p54 : lw_okq (⟨"MatrixDeskModel", "bigLose", "(IIJI)V"⟩, 17) := ⟨⟨by decide +kernel, by decide +kernel⟩, List.mem_of_getElem? (i := 774) (by decide +kernel), List.mem_of_getElem? (i := 990) (by decide +kernel), List.mem_of_getElem? (i := 991) (by decide +kernel)⟩
theorem lw_p55 : lw_okq (⟨"MatrixDeskModel", "findForm", "()V"⟩, 17) := ⟨⟨by decide +kernel, by decide +kernel⟩, List.mem_of_getElem? (i := 774) (by decide +kernel), List.mem_of_getElem? (i := 998) (by decide +kernel), List.mem_of_getElem? (i := 999) (by decide +kernel)⟩
theorem lw_p56 : lw_okq (⟨"MatrixDeskModel", "findLeads", "()V"⟩, 17) := ⟨⟨by decide +kernel, by decide +kernel⟩, List.mem_of_getElem? (i := 774) (by decide +kernel), List.mem_of_getElem? (i := 1002) (by decide +kernel), List.mem_of_getElem? (i := 1003) (by decide +kernel)⟩
theorem lw_p57 : lw_okq (⟨"MatrixDeskModel", "bring", "()V"⟩, 17) := ⟨⟨by decide +kernel, by decide +kernel⟩, List.mem_of_getElem? (i := 774) (by decide +kernel), List.mem_of_getElem? (i := 1006) (by decide +kernel), List.mem_of_getElem? (i := 1007) (by decide +kernel)⟩
theorem lw_p58 : lw_okq (⟨"MatrixDeskModel", "cell", "(II)I"⟩, 17) := ⟨⟨by decide +kernel, by decide +kernel⟩, List.mem_of_getElem? (i := 774) (by decide +kernel), List.mem_of_getElem? (i := 1010) (by decide +kernel), List.mem_of_getElem? (i := 1011) (by decide +kernel)⟩
theorem lw_p59 : lw_okq (⟨"MatrixDeskModel", "remain", "(I)V"⟩, 17) := ⟨⟨by decide +kernel, by decide +kernel⟩, List.mem_of_getElem? (i := 774) (by decide +kernel), List.mem_of_getElem? (i := 1014) (by decide +kernel), List.mem_of_getElem? (i := 1015) (by decide +kernel)⟩
theorem lw_p60 : lw_okq (⟨"MatrixDeskModel", "gather", "(I)I"⟩, 17) := ⟨⟨by decide +kernel, by decide +kernel⟩, List.mem_of_getElem? (i := 774) (by decide +kernel), List.mem_of_getElem? (i := 1018) (by decide +kernel), List.mem_of_getElem? (i := 1019) (by decide +kernel)⟩
theorem lw_p61 : lw_okq (⟨"MatrixDeskModel", "lose", "(III)V"⟩, 17) := ⟨⟨by decide +kernel, by decide +kernel⟩, List.mem_of_getElem? (i := 774) (by decide +kernel), List.mem_of_getElem? (i := 1022) (by decide +kernel), List.mem_of_getElem? (i := 1023) (by decide +kernel)⟩
theorem lw_p62 : lw_okq (⟨"MatrixDeskModel", "shorten", "()V"⟩, 17) := ⟨⟨by decide +kernel, by decide +kernel⟩, List.mem_of_getElem? (i := 774) (by decide +kernel), List.mem_of_getElem? (i := 1026) (by decide +kernel), List.mem_of_getElem? (i := 1027) (by decide +kernel)⟩
theorem lw_p63 : lw_okq (⟨"MatrixDeskModel", "floor", "(II)V"⟩, 17) := ⟨⟨by decide +kernel, by decide +kernel⟩, List.mem_of_getElem? (i := 774) (by decide +kernel), List.mem_of_getElem? (i := 1030) (by decide +kernel), List.mem_of_getElem? (i := 1031) (by decide +kernel)⟩
def lw_privs_4 : List (MethodName × Nat) := [(⟨"MatrixDeskModel", "findMinors", "(I)V"⟩, 17), (⟨"MatrixDeskModel", "bigIsZero", "(I)Z"⟩, 17), (⟨"MatrixDeskModel", "divide", "(II)V"⟩, 17), (⟨"MatrixDeskModel", "bigCopy", "(II)V"⟩, 17), (⟨"MatrixDeskModel", "bigDivide", "(III)V"⟩, 17), (⟨"MatrixDeskModel", "bigHolds", "(III)Z"⟩, 17), (⟨"MatrixDeskModel", "bigLose", "(IIJI)V"⟩, 17), (⟨"MatrixDeskModel", "findForm", "()V"⟩, 17), (⟨"MatrixDeskModel", "findLeads", "()V"⟩, 17), (⟨"MatrixDeskModel", "bring", "()V"⟩, 17), (⟨"MatrixDeskModel", "cell", "(II)I"⟩, 17), (⟨"MatrixDeskModel", "remain", "(I)V"⟩, 17), (⟨"MatrixDeskModel", "gather", "(I)I"⟩, 17), (⟨"MatrixDeskModel", "lose", "(III)V"⟩, 17), (⟨"MatrixDeskModel", "shorten", "()V"⟩, 17), (⟨"MatrixDeskModel", "floor", "(II)V"⟩, 17)]
theorem lw_r4 : ∀ q ∈ lw_privs_4, lw_okq q := List.forall_mem_cons.mpr ⟨lw_p48, List.forall_mem_cons.mpr ⟨lw_p49, List.forall_mem_cons.mpr ⟨lw_p50, List.forall_mem_cons.mpr ⟨lw_p51, List.forall_mem_cons.mpr ⟨lw_p52, List.forall_mem_cons.mpr ⟨lw_p53, List.forall_mem_cons.mpr ⟨lw_p54, List.forall_mem_cons.mpr ⟨lw_p55, List.forall_mem_cons.mpr ⟨lw_p56, List.forall_mem_cons.mpr ⟨lw_p57, List.forall_mem_cons.mpr ⟨lw_p58, List.forall_mem_cons.mpr ⟨lw_p59, List.forall_mem_cons.mpr ⟨lw_p60, List.forall_mem_cons.mpr ⟨lw_p61, List.forall_mem_cons.mpr ⟨lw_p62, List.forall_mem_cons.mpr ⟨lw_p63, fun _ h => absurd h List.not_mem_nil⟩⟩⟩⟩⟩⟩⟩⟩⟩⟩⟩⟩⟩⟩⟩⟩
theorem lw_p64 : lw_okq (⟨"MatrixDeskModel", "fill", "()V"⟩, 17) := ⟨⟨by decide +kernel, by decide +kernel⟩, List.mem_of_getElem? (i := 774) (by decide +kernel), List.mem_of_getElem? (i := 1034) (by decide +kernel), List.mem_of_getElem? (i := 1035) (by decide +kernel)⟩
theorem lw_p65 : lw_okq (⟨"MatrixDeskModel", "lookBeside", "(I)V"⟩, 17) := ⟨⟨by decide +kernel, by decide +kernel⟩, List.mem_of_getElem? (i := 774) (by decide +kernel), List.mem_of_getElem? (i := 1042) (by decide +kernel), List.mem_of_getElem? (i := 1043) (by decide +kernel)⟩
theorem lw_p66 : lw_okq (⟨"MatrixDeskModel", "kernelFrom", "(I)I"⟩, 17) := ⟨⟨by decide +kernel, by decide +kernel⟩, List.mem_of_getElem? (i := 774) (by decide +kernel), List.mem_of_getElem? (i := 1046) (by decide +kernel), List.mem_of_getElem? (i := 1047) (by decide +kernel)⟩
theorem lw_p67 : lw_okq (⟨"MatrixDeskModel", "say", "(I)I"⟩, 17) := ⟨⟨by decide +kernel, by decide +kernel⟩, List.mem_of_getElem? (i := 774) (by decide +kernel), List.mem_of_getElem? (i := 1058) (by decide +kernel), List.mem_of_getElem? (i := 1059) (by decide +kernel)⟩
theorem lw_p68 : lw_okq (⟨"MatrixDeskModel", "bigSign", "(I)I"⟩, 17) := ⟨⟨by decide +kernel, by decide +kernel⟩, List.mem_of_getElem? (i := 774) (by decide +kernel), List.mem_of_getElem? (i := 1062) (by decide +kernel), List.mem_of_getElem? (i := 1063) (by decide +kernel)⟩
theorem lw_p69 : lw_okq (⟨"MatrixDeskModel", "sayMore", "(I)V"⟩, 17) := ⟨⟨by decide +kernel, by decide +kernel⟩, List.mem_of_getElem? (i := 774) (by decide +kernel), List.mem_of_getElem? (i := 1066) (by decide +kernel), List.mem_of_getElem? (i := 1067) (by decide +kernel)⟩
theorem lw_p70 : lw_okq (⟨"MatrixDeskModel", "bigTenth", "(I)I"⟩, 17) := ⟨⟨by decide +kernel, by decide +kernel⟩, List.mem_of_getElem? (i := 774) (by decide +kernel), List.mem_of_getElem? (i := 1070) (by decide +kernel), List.mem_of_getElem? (i := 1071) (by decide +kernel)⟩
theorem lw_p71 : lw_okq (⟨"MatrixDeskModel", "bigIsOne", "(I)Z"⟩, 17) := ⟨⟨by decide +kernel, by decide +kernel⟩, List.mem_of_getElem? (i := 774) (by decide +kernel), List.mem_of_getElem? (i := 1086) (by decide +kernel), List.mem_of_getElem? (i := 1087) (by decide +kernel)⟩
def lw_privs_5 : List (MethodName × Nat) := [(⟨"MatrixDeskModel", "fill", "()V"⟩, 17), (⟨"MatrixDeskModel", "lookBeside", "(I)V"⟩, 17), (⟨"MatrixDeskModel", "kernelFrom", "(I)I"⟩, 17), (⟨"MatrixDeskModel", "say", "(I)I"⟩, 17), (⟨"MatrixDeskModel", "bigSign", "(I)I"⟩, 17), (⟨"MatrixDeskModel", "sayMore", "(I)V"⟩, 17), (⟨"MatrixDeskModel", "bigTenth", "(I)I"⟩, 17), (⟨"MatrixDeskModel", "bigIsOne", "(I)Z"⟩, 17)]
theorem lw_r5 : ∀ q ∈ lw_privs_5, lw_okq q := List.forall_mem_cons.mpr ⟨lw_p64, List.forall_mem_cons.mpr ⟨lw_p65, List.forall_mem_cons.mpr ⟨lw_p66, List.forall_mem_cons.mpr ⟨lw_p67, List.forall_mem_cons.mpr ⟨lw_p68, List.forall_mem_cons.mpr ⟨lw_p69, List.forall_mem_cons.mpr ⟨lw_p70, List.forall_mem_cons.mpr ⟨lw_p71, fun _ h => absurd h List.not_mem_nil⟩⟩⟩⟩⟩⟩⟩⟩
def lw_privs : List (MethodName × Nat) := lw_privs_1 ++ (lw_privs_2 ++ (lw_privs_3 ++ (lw_privs_4 ++ (lw_privs_5))))
def lw_tbl : List Cond := k2_sels lw_privs ++ tables_1
theorem lw_privs_ok : ∀ q ∈ lw_privs, lw_okq q := by
  show ∀ q ∈ lw_privs_1 ++ (lw_privs_2 ++ (lw_privs_3 ++ (lw_privs_4 ++ (lw_privs_5)))), lw_okq q
  exact List.forall_mem_append.mpr ⟨lw_r1, List.forall_mem_append.mpr ⟨lw_r2, List.forall_mem_append.mpr ⟨lw_r3, List.forall_mem_append.mpr ⟨lw_r4, lw_r5⟩⟩⟩⟩
-- ===== end of PART A
end
section
-- written by wip/gen/tables.py: the classes whose objects the worlds hold
def R_De : String := "MatrixDesk"
def R_Di : String := "MatrixDesk$Division"
def R_Ma : String := "MatrixDesk$Matrix"
def R_Mi : String := "MatrixDesk$Minors"
def R_Pr : String := "MatrixDesk$Print"
def R_Ro : String := "MatrixDesk$Row"
def R_St : String := "MatrixDesk$Staircase"
def R_Wh : String := "MatrixDesk$Whole"
def R_Mo : String := "MatrixDeskModel"
def R_La : String := "MatrixDeskLaw"
def R_Ob : String := "java/lang/Object"
def R_Th : String := "java/lang/Throwable"
def R_Ex : String := "java/lang/Exception"
def R_Re : String := "java/lang/RuntimeException"
def R_Io : String := "java/lang/IndexOutOfBoundsException"
def R_Ia : String := "java/lang/IllegalArgumentException"
def R_In : String := "java/lang/Integer"
def R_Mt : String := "java/lang/Math"
def R_Sy : String := "java/lang/System"
def R_Ar : String := "java/util/Arrays"
def F_De : u_T := fun k => match k with
  | 0 => ("MatrixDesk", "matrices", "[LMatrixDesk$Matrix;", true)
  | 1 => ("MatrixDesk", "result", "LMatrixDesk$Matrix;", true)
  | 2 => ("MatrixDesk", "print", "LMatrixDesk$Print;", true)
  | 3 => ("MatrixDesk", "division", "LMatrixDesk$Division;", true)
  | 4 => ("MatrixDesk", "minors", "LMatrixDesk$Minors;", true)
  | 5 => ("MatrixDesk", "stairs", "LMatrixDesk$Staircase;", true)
  | 6 => ("MatrixDesk", "sum", "LMatrixDesk$Whole;", true)
  | 7 => ("MatrixDesk", "left", "LMatrixDesk$Whole;", true)
  | _ => ("MatrixDesk", "right", "LMatrixDesk$Whole;", true)
def t_De : Nat → FieldType := fun k => match k with
  | 0 => .array (.object "MatrixDesk$Matrix")
  | 1 => .object "MatrixDesk$Matrix"
  | 2 => .object "MatrixDesk$Print"
  | 3 => .object "MatrixDesk$Division"
  | 4 => .object "MatrixDesk$Minors"
  | 5 => .object "MatrixDesk$Staircase"
  | 6 => .object "MatrixDesk$Whole"
  | 7 => .object "MatrixDesk$Whole"
  | _ => .object "MatrixDesk$Whole"
theorem n_De : ∀ a, a < 9 → ∀ b, b < 9 → a ≠ b → (F_De a).2.1 ≠ (F_De b).2.1 := by decide +kernel
theorem t_De_ok : ∀ k, k < 9 → parseFieldDescriptor (F_De k).2.2.1 = some (t_De k) := by decide +kernel
def F_Di : u_T := fun k => match k with
  | 0 => ("MatrixDesk$Division", "scaled", "LMatrixDesk$Whole;", true)
  | 1 => ("MatrixDesk$Division", "quotient", "LMatrixDesk$Whole;", true)
  | 2 => ("MatrixDesk$Division", "common", "LMatrixDesk$Whole;", true)
  | 3 => ("MatrixDesk$Division", "other", "LMatrixDesk$Whole;", true)
  | _ => ("MatrixDesk$Division", "one", "LMatrixDesk$Whole;", true)
def t_Di : Nat → FieldType := fun k => match k with
  | 0 => .object "MatrixDesk$Whole"
  | 1 => .object "MatrixDesk$Whole"
  | 2 => .object "MatrixDesk$Whole"
  | 3 => .object "MatrixDesk$Whole"
  | _ => .object "MatrixDesk$Whole"
theorem n_Di : ∀ a, a < 5 → ∀ b, b < 5 → a ≠ b → (F_Di a).2.1 ≠ (F_Di b).2.1 := by decide +kernel
theorem t_Di_ok : ∀ k, k < 5 → parseFieldDescriptor (F_Di k).2.2.1 = some (t_Di k) := by decide +kernel
def F_Ma : u_T := fun k => match k with
  | 0 => ("MatrixDesk$Matrix", "numbers", "[J", true)
  | 1 => ("MatrixDesk$Matrix", "rows", "I", false)
  | _ => ("MatrixDesk$Matrix", "columns", "I", false)
def t_Ma : Nat → FieldType := fun k => match k with
  | 0 => .array .long
  | 1 => .int
  | _ => .int
theorem n_Ma : ∀ a, a < 3 → ∀ b, b < 3 → a ≠ b → (F_Ma a).2.1 ≠ (F_Ma b).2.1 := by decide +kernel
theorem t_Ma_ok : ∀ k, k < 3 → parseFieldDescriptor (F_Ma k).2.2.1 = some (t_Ma k) := by decide +kernel
def F_Mi : u_T := fun k => match k with
  | 0 => ("MatrixDesk$Minors", "division", "LMatrixDesk$Division;", true)
  | 1 => ("MatrixDesk$Minors", "numbers", "[LMatrixDesk$Whole;", true)
  | 2 => ("MatrixDesk$Minors", "minorIn", "[LMatrixDesk$Whole;", true)
  | 3 => ("MatrixDesk$Minors", "rows", "I", false)
  | _ => ("MatrixDesk$Minors", "columns", "I", false)
def t_Mi : Nat → FieldType := fun k => match k with
  | 0 => .object "MatrixDesk$Division"
  | 1 => .array (.object "MatrixDesk$Whole")
  | 2 => .array (.object "MatrixDesk$Whole")
  | 3 => .int
  | _ => .int
theorem n_Mi : ∀ a, a < 5 → ∀ b, b < 5 → a ≠ b → (F_Mi a).2.1 ≠ (F_Mi b).2.1 := by decide +kernel
theorem t_Mi_ok : ∀ k, k < 5 → parseFieldDescriptor (F_Mi k).2.2.1 = some (t_Mi k) := by decide +kernel
def F_Pr : u_T := fun k => match k with
  | 0 => ("MatrixDesk$Print", "letters", "[C", true)
  | _ => ("MatrixDesk$Print", "length", "I", false)
def t_Pr : Nat → FieldType := fun k => match k with
  | 0 => .array .char
  | _ => .int
theorem n_Pr : ∀ a, a < 2 → ∀ b, b < 2 → a ≠ b → (F_Pr a).2.1 ≠ (F_Pr b).2.1 := by decide +kernel
theorem t_Pr_ok : ∀ k, k < 2 → parseFieldDescriptor (F_Pr k).2.2.1 = some (t_Pr k) := by decide +kernel
def F_Ro : u_T := fun k => match k with
  | _ => ("MatrixDesk$Row", "numbers", "[LMatrixDesk$Whole;", true)
def t_Ro : Nat → FieldType := fun k => match k with
  | _ => .array (.object "MatrixDesk$Whole")
theorem n_Ro : ∀ a, a < 1 → ∀ b, b < 1 → a ≠ b → (F_Ro a).2.1 ≠ (F_Ro b).2.1 := by decide +kernel
theorem t_Ro_ok : ∀ k, k < 1 → parseFieldDescriptor (F_Ro k).2.2.1 = some (t_Ro k) := by decide +kernel
def F_St : u_T := fun k => match k with
  | 0 => ("MatrixDesk$Staircase", "division", "LMatrixDesk$Division;", true)
  | 1 => ("MatrixDesk$Staircase", "quotient", "LMatrixDesk$Whole;", true)
  | 2 => ("MatrixDesk$Staircase", "rows", "[LMatrixDesk$Row;", true)
  | 3 => ("MatrixDesk$Staircase", "leads", "[I", true)
  | 4 => ("MatrixDesk$Staircase", "count", "I", false)
  | _ => ("MatrixDesk$Staircase", "width", "I", false)
def t_St : Nat → FieldType := fun k => match k with
  | 0 => .object "MatrixDesk$Division"
  | 1 => .object "MatrixDesk$Whole"
  | 2 => .array (.object "MatrixDesk$Row")
  | 3 => .array .int
  | 4 => .int
  | _ => .int
theorem n_St : ∀ a, a < 6 → ∀ b, b < 6 → a ≠ b → (F_St a).2.1 ≠ (F_St b).2.1 := by decide +kernel
theorem t_St_ok : ∀ k, k < 6 → parseFieldDescriptor (F_St k).2.2.1 = some (t_St k) := by decide +kernel
def F_Wh : u_T := fun k => match k with
  | 0 => ("MatrixDesk$Whole", "digits", "[I", false)
  | 1 => ("MatrixDesk$Whole", "length", "I", false)
  | _ => ("MatrixDesk$Whole", "below", "Z", false)
def t_Wh : Nat → FieldType := fun k => match k with
  | 0 => .array .int
  | 1 => .int
  | _ => .boolean
theorem n_Wh : ∀ a, a < 3 → ∀ b, b < 3 → a ≠ b → (F_Wh a).2.1 ≠ (F_Wh b).2.1 := by decide +kernel
theorem t_Wh_ok : ∀ k, k < 3 → parseFieldDescriptor (F_Wh k).2.2.1 = some (t_Wh k) := by decide +kernel
def F_Mo : u_T := fun k => match k with
  | 0 => ("MatrixDeskModel", "parts", "[I", true)
  | 1 => ("MatrixDeskModel", "lengths", "[I", true)
  | 2 => ("MatrixDeskModel", "minus", "[Z", true)
  | 3 => ("MatrixDeskModel", "thrown", "I", false)
  | 4 => ("MatrixDeskModel", "numbers", "[J", true)
  | 5 => ("MatrixDeskModel", "rows", "[I", true)
  | 6 => ("MatrixDeskModel", "columns", "[I", true)
  | 7 => ("MatrixDeskModel", "grid", "[J", true)
  | 8 => ("MatrixDeskModel", "gridRows", "I", false)
  | 9 => ("MatrixDeskModel", "gridColumns", "I", false)
  | 10 => ("MatrixDeskModel", "picked", "[I", true)
  | 11 => ("MatrixDeskModel", "formRows", "I", false)
  | 12 => ("MatrixDeskModel", "leads", "[I", true)
  | 13 => ("MatrixDeskModel", "base", "I", false)
  | 14 => ("MatrixDeskModel", "printed", "[I", true)
  | 15 => ("MatrixDeskModel", "printedSize", "I", false)
  | _ => ("MatrixDeskModel", "digits", "[I", true)
def t_Mo : Nat → FieldType := fun k => match k with
  | 0 => .array .int
  | 1 => .array .int
  | 2 => .array .boolean
  | 3 => .int
  | 4 => .array .long
  | 5 => .array .int
  | 6 => .array .int
  | 7 => .array .long
  | 8 => .int
  | 9 => .int
  | 10 => .array .int
  | 11 => .int
  | 12 => .array .int
  | 13 => .int
  | 14 => .array .int
  | 15 => .int
  | _ => .array .int
theorem n_Mo : ∀ a, a < 17 → ∀ b, b < 17 → a ≠ b → (F_Mo a).2.1 ≠ (F_Mo b).2.1 := by decide +kernel
theorem t_Mo_ok : ∀ k, k < 17 → parseFieldDescriptor (F_Mo k).2.2.1 = some (t_Mo k) := by decide +kernel
def F_Io : u_T := fun k => match k with
  | 0 => ("java/lang/Throwable", "cause", "Ljava/lang/Throwable;", false)
  | 1 => ("java/lang/Throwable", "stackTrace", "[Ljava/lang/StackTraceElement;", false)
  | 2 => ("java/lang/Throwable", "suppressedExceptions", "Ljava/util/List;", false)
  | 3 => ("java/lang/Throwable", "detailMessage", "Ljava/lang/String;", false)
  | 4 => ("java/lang/Throwable", "backtrace", "Ljava/lang/Object;", false)
  | _ => ("java/lang/Throwable", "depth", "I", false)
def t_Io : Nat → FieldType := fun k => match k with
  | 0 => .object "java/lang/Throwable"
  | 1 => .array (.object "java/lang/StackTraceElement")
  | 2 => .object "java/util/List"
  | 3 => .object "java/lang/String"
  | 4 => .object "java/lang/Object"
  | _ => .int
theorem n_Io : ∀ a, a < 6 → ∀ b, b < 6 → a ≠ b → (F_Io a).2.1 ≠ (F_Io b).2.1 := by decide +kernel
theorem t_Io_ok : ∀ k, k < 6 → parseFieldDescriptor (F_Io k).2.2.1 = some (t_Io k) := by decide +kernel
def F_Ia : u_T := fun k => match k with
  | 0 => ("java/lang/Throwable", "cause", "Ljava/lang/Throwable;", false)
  | 1 => ("java/lang/Throwable", "stackTrace", "[Ljava/lang/StackTraceElement;", false)
  | 2 => ("java/lang/Throwable", "suppressedExceptions", "Ljava/util/List;", false)
  | 3 => ("java/lang/Throwable", "detailMessage", "Ljava/lang/String;", false)
  | 4 => ("java/lang/Throwable", "backtrace", "Ljava/lang/Object;", false)
  | _ => ("java/lang/Throwable", "depth", "I", false)
def t_Ia : Nat → FieldType := fun k => match k with
  | 0 => .object "java/lang/Throwable"
  | 1 => .array (.object "java/lang/StackTraceElement")
  | 2 => .object "java/util/List"
  | 3 => .object "java/lang/String"
  | 4 => .object "java/lang/Object"
  | _ => .int
theorem n_Ia : ∀ a, a < 6 → ∀ b, b < 6 → a ≠ b → (F_Ia a).2.1 ≠ (F_Ia b).2.1 := by decide +kernel
theorem t_Ia_ok : ∀ k, k < 6 → parseFieldDescriptor (F_Ia k).2.2.1 = some (t_Ia k) := by decide +kernel
/-- the classes whose objects the worlds hold: an object names its class by its place here -/
abbrev cls_all : List vw_C := [(R_De, F_De, 9), (R_Di, F_Di, 5), (R_Ma, F_Ma, 3), (R_Mi, F_Mi, 5), (R_Pr, F_Pr, 2), (R_Ro, F_Ro, 1), (R_St, F_St, 6), (R_Wh, F_Wh, 3), (R_Mo, F_Mo, 17), (R_Io, F_Io, 6), (R_Ia, F_Ia, 6)]
end
section
/-! THE ABSTRACT MACHINE. Its values are the model's own: .ref i stands for the i-th cell that was made since the law's entry, .retAddr k for the k-th thing that was there before
    (0: the script; 1: the static array UNITS; from 2 on: the texts of the exceptions). Its world is the list of the cells made: (tag, contents). Tags: 0 to 10 an object of that class of cls_all,
    20 int[], 21 long[], 22 char[], 23 boolean[], 30 + k an array of references to class k. -/
abbrev ax_W : Type := List (Nat × List Value)
abbrev ax_E : Type := Instr × Nat × Nat × Nat × Nat
abbrev ax_M : Type := List (Option ax_E) × Nat × Nat × List (Nat × Nat × Nat × Nat)
def ax_v (B : Nat) (X : Nat → Value) : Value → Value
  | .ref i => .ref (B + i)
  | .retAddr k => X k
  | .int x => .int x
  | .long x => .long x
  | .null => .null
  | .float x => .float x
  | .double x => .double x
def ax_lI (o : Option (Option Value)) (st : List Value) : Option (List Value) := match o with
  | some (some (.int x)) => some (.int x :: st)
  | _ => none
def ax_lL (o : Option (Option Value)) (st : List Value) : Option (List Value) := match o with
  | some (some (.long x)) => some (.long x :: st)
  | _ => none
def ax_lA (o : Option (Option Value)) (st : List Value) : Option (List Value) := match o with
  | some (some (.ref x)) => some (.ref x :: st)
  | some (some (.retAddr x)) => some (.retAddr x :: st)
  | some (some .null) => some (.null :: st)
  | _ => none
def ax_ii (f : Int32 → Int32 → Int32) (st : List Value) : Option (List Value) := match st with
  | .int y :: .int x :: r => some (.int (f x y) :: r)
  | _ => none
def ax_iz (f : Int32 → Int32 → Int32) (st : List Value) : Option (List Value) := match st with
  | .int y :: .int x :: r => if y = 0 then none else some (.int (f x y) :: r)
  | _ => none
def ax_i1 (f : Int32 → Int32) (st : List Value) : Option (List Value) := match st with
  | .int x :: r => some (.int (f x) :: r)
  | _ => none
def ax_ll (f : Int64 → Int64 → Int64) (st : List Value) : Option (List Value) := match st with
  | .long y :: .long x :: r => some (.long (f x y) :: r)
  | _ => none
def ax_lz (f : Int64 → Int64 → Int64) (st : List Value) : Option (List Value) := match st with
  | .long y :: .long x :: r => if y = 0 then none else some (.long (f x y) :: r)
  | _ => none
def ax_l1 (f : Int64 → Int64) (st : List Value) : Option (List Value) := match st with
  | .long x :: r => some (.long (f x) :: r)
  | _ => none
def ax_li (f : Int64 → Int32 → Int64) (st : List Value) : Option (List Value) := match st with
  | .int y :: .long x :: r => some (.long (f x y) :: r)
  | _ => none
def ax_i2l (st : List Value) : Option (List Value) := match st with
  | .int x :: r => some (.long x.toInt64 :: r)
  | _ => none
def ax_l2i (st : List Value) : Option (List Value) := match st with
  | .long x :: r => some (.int x.toInt32 :: r)
  | _ => none
def ax_lc (st : List Value) : Option (List Value) := match st with
  | .long y :: .long x :: r => some (.int (lg_cmp x y) :: r)
  | _ => none
/-- a value of one slot -/
def ax_c1 : Value → Bool
  | .long _ => false
  | .double _ => false
  | _ => true
def ax_dup (st : List Value) : Option (List Value) := match st with
  | v :: r => if ax_c1 v then some (v :: v :: r) else none
  | _ => none
def ax_pop (st : List Value) : Option (List Value) := match st with
  | v :: r => if ax_c1 v then some r else none
  | _ => none
def ax_dup2 (st : List Value) : Option (List Value) := match st with
  | .long x :: r => some (.long x :: .long x :: r)
  | v :: u :: r => if ax_c1 v && ax_c1 u then some (v :: u :: v :: u :: r) else none
  | _ => none
def ax_pop2 (st : List Value) : Option (List Value) := match st with
  | .long _ :: r => some r
  | v :: u :: r => if ax_c1 v && ax_c1 u then some r else none
  | _ => none
/-- instructions that change the operand stack alone, and may read locals -/
def ax_st (i : Instr) (ls : List (Option Value)) (st : List Value) : Option (List Value) := match i with
  | .iconst n => some (.int (Int32.ofInt n) :: st)
  | .bipush n => some (.int ((Int8.ofInt n).toInt32) :: st)
  | .sipush n => some (.int ((Int16.ofInt n).toInt32) :: st)
  | .lconst n => some (.long (Int64.ofNat (n : Nat)) :: st)
  | .iload n => ax_lI ls[n]? st
  | .iload_n n => ax_lI ls[(n : Nat)]? st
  | .lload n => ax_lL ls[n]? st
  | .lload_n n => ax_lL ls[(n : Nat)]? st
  | .aload n => ax_lA ls[n]? st
  | .aload_n n => ax_lA ls[(n : Nat)]? st
  | .iadd => ax_ii (fun x y => x + y) st
  | .isub => ax_ii (fun x y => x - y) st
  | .imul => ax_ii (fun x y => x * y) st
  | .iand => ax_ii (fun x y => x &&& y) st
  | .ixor => ax_ii (fun x y => x ^^^ y) st
  | .idiv => ax_iz (fun x y => x / y) st
  | .irem => ax_iz (fun x y => x - x / y * y) st
  | .ineg => ax_i1 (fun x => -x) st
  | .ishl => ax_ii (fun x y => x <<< (y &&& 31)) st
  | .ishr => ax_ii (fun x y => x >>> (y &&& 31)) st
  | .iushr => ax_ii (fun x y => (x.toUInt32 >>> (y.toUInt32 &&& Int32.toUInt32 31)).toInt32) st
  | .ladd => ax_ll (fun x y => x + y) st
  | .lsub => ax_ll (fun x y => x - y) st
  | .lmul => ax_ll (fun x y => x * y) st
  | .land => ax_ll (fun x y => x &&& y) st
  | .lor => ax_ll (fun x y => x ||| y) st
  | .ldiv => ax_lz (fun x y => x / y) st
  | .lrem => ax_lz (fun x y => x - x / y * y) st
  | .lneg => ax_l1 (fun x => -x) st
  | .lshl => ax_li (fun x y => x <<< (y.toInt64 &&& 63)) st
  | .lshr => ax_li (fun x y => x >>> (y.toInt64 &&& 63)) st
  | .lushr => ax_li (fun x y => (x.toUInt64 >>> (y.toInt64.toUInt64 &&& Int64.toUInt64 63)).toInt64) st
  | .i2l => ax_i2l st
  | .l2i => ax_l2i st
  | .i2c => ax_i1 (fun x => (x.toUInt32 % 65536).toInt32) st
  | .lcmp => ax_lc st
  | .dup => ax_dup st
  | .dup2 => ax_dup2 st
  | .pop => ax_pop st
  | .pop2 => ax_pop2 st
  | _ => none
/-- a store at n ends a value of two slots that began at n - 1 -/
def ax_clr (ls : List (Option Value)) (n : Nat) : List (Option Value) := match n with
  | 0 => ls
  | k + 1 => match ls[k]? with
    | some (some v) => if ax_c1 v then ls else ls.set k none
    | _ => ls
def ax_set1 (ls : List (Option Value)) (n : Nat) (v : Value) : List (Option Value) := (ax_clr ls n).set n (some v)
def ax_set2 (ls : List (Option Value)) (n : Nat) (v : Value) : List (Option Value) := ((ax_clr ls n).set n (some v)).set (n + 1) none
def ax_sI (n : Nat) (ls : List (Option Value)) (st : List Value) : Option (List (Option Value) × List Value) := match st with
  | .int x :: r => if n < ls.length then some (ax_set1 ls n (.int x), r) else none
  | _ => none
def ax_sL (n : Nat) (ls : List (Option Value)) (st : List Value) : Option (List (Option Value) × List Value) := match st with
  | .long x :: r => if n + 1 < ls.length then some (ax_set2 ls n (.long x), r) else none
  | _ => none
def ax_sA (n : Nat) (ls : List (Option Value)) (st : List Value) : Option (List (Option Value) × List Value) := match st with
  | .ref x :: r => if n < ls.length then some (ax_set1 ls n (.ref x), r) else none
  | _ => none
def ax_inc (n : Nat) (k : Int) (ls : List (Option Value)) (st : List Value) : Option (List (Option Value) × List Value) := match ls[n]? with
  | some (some (.int x)) => some (ax_set1 ls n (.int (x + Int32.ofInt k)), st)
  | _ => none
/-- instructions that write a local -/
def ax_sto (i : Instr) (ls : List (Option Value)) (st : List Value) : Option (List (Option Value) × List Value) := match i with
  | .istore n => ax_sI n ls st
  | .istore_n n => ax_sI n ls st
  | .lstore n => ax_sL n ls st
  | .lstore_n n => ax_sL n ls st
  | .astore n => ax_sA n ls st
  | .astore_n n => ax_sA n ls st
  | .iinc n k => ax_inc n k ls st
  | _ => none
def ax_cmp : Jvm.ClassFile.Cond → Int32 → Int32 → Bool
  | .eq, x, y => decide (x = y)
  | .ne, x, y => !decide (x = y)
  | .lt, x, y => decide (x < y)
  | .ge, x, y => decide (y ≤ x)
  | .gt, x, y => decide (y < x)
  | .le, x, y => decide (x ≤ y)
/-- where a branch goes: t its target, n the next instruction -/
def ax_br (i : Instr) (t n : Nat) (pc : Nat) (st : List Value) : Option (Nat × List Value) := match i with
  | .goto _ => some (t, st)
  | .ifCond c _ => (match st with
    | .int x :: r => some (if ax_cmp c x 0 then t else n, r)
    | _ => none)
  | .if_icmp c _ => (match st with
    | .int y :: .int x :: r => some (if ax_cmp c x y then t else n, r)
    | _ => none)
  | .tableswitch d lo hi offs => (match st with
    | .int x :: r => if x.toInt < lo || hi < x.toInt then some (((pc : Int) + d).toNat, r) else (match offs[(x.toInt - lo).toNat]? with
      | some off => some (((pc : Int) + off).toNat, r)
      | none => none)
    | _ => none)
  | _ => none
/-- the kinds of fields: 0 int, 1 boolean, 2 reference -/
def ax_fit (k : Nat) (v : Value) : Bool := match k, v with
  | 0, .int _ => true
  | 1, .int x => x == 0 || x == 1
  | 2, .ref _ => true
  | 2, .null => true
  | _, _ => false
def ax_rd (w : ax_W) (i t : Nat) (j : Int32) : Option Value := match w[i]? with
  | some (t', vs) => if t' = t then (if j < 0 then none else vs[j.toNatClampNeg]?) else none
  | none => none
def ax_wr (w : ax_W) (i t : Nat) (j : Int32) (v : Value) : Option ax_W := match w[i]? with
  | some (t', vs) => if t' = t then (if j < 0 then none else if j.toNatClampNeg < vs.length then some (w.set i (t, vs.set j.toNatClampNeg v)) else none) else none
  | none => none
/-- what is read outside: the script's numbers, the nine units -/
def ax_units : List Int32 := [100000000, 10000000, 1000000, 100000, 10000, 1000, 100, 10, 1]
def ax_ext (xs : List Int32) (k : Nat) : Option (List Int32) := match k with
  | 0 => some xs
  | 1 => some ax_units
  | _ => none
def ax_ald (t : Nat) (xs : List Int32) (st : List Value) (w : ax_W) : Option (List Value) := match st with
  | .int j :: .ref i :: r => (match ax_rd w i t j with
    | some v => some (v :: r)
    | none => none)
  | .int j :: .retAddr k :: r => if t = 20 then (match ax_ext xs k with
    | some ys => if j < 0 then none else (match ys[j.toNatClampNeg]? with
      | some y => some (.int y :: r)
      | none => none)
    | none => none) else none
  | _ => none
/-- an array of references: any tag from 30 on -/
def ax_aald (st : List Value) (w : ax_W) : Option (List Value) := match st with
  | .int j :: .ref i :: r => (match w[i]? with
    | some (t, vs) => if t < 30 then none else if j < 0 then none else (match vs[j.toNatClampNeg]? with
      | some v => some (v :: r)
      | none => none)
    | none => none)
  | _ => none
def ax_ast (t : Nat) (st : List Value) (w : ax_W) : Option (List Value × ax_W) := match st with
  | .int x :: .int j :: .ref i :: r => (match ax_wr w i t j (.int x) with
    | some w' => some (r, w')
    | none => none)
  | _ => none
def ax_last (st : List Value) (w : ax_W) : Option (List Value × ax_W) := match st with
  | .long x :: .int j :: .ref i :: r => (match ax_wr w i 21 j (.long x) with
    | some w' => some (r, w')
    | none => none)
  | _ => none
/-- a char is from 0 to 65535, a boolean 0 or 1 -/
def ax_cast (t : Nat) (hi : Int32) (st : List Value) (w : ax_W) : Option (List Value × ax_W) := match st with
  | .int x :: _ => if x < 0 || hi < x then none else ax_ast t st w
  | _ => none
def ax_aast (st : List Value) (w : ax_W) : Option (List Value × ax_W) := match st with
  | .ref x :: .int j :: .ref i :: r => (match w[x]? with
    | some (c, _) => (match ax_wr w i (30 + c) j (.ref x) with
      | some w' => some (r, w')
      | none => none)
    | none => none)
  | _ => none
def ax_alen (xs : List Int32) (st : List Value) (w : ax_W) : Option (List Value) := match st with
  | .ref i :: r => (match w[i]? with
    | some (t, vs) => if t < 20 then none else some (.int vs.length.toInt32 :: r)
    | none => none)
  | .retAddr k :: r => (match ax_ext xs k with
    | some ys => some (.int ys.length.toInt32 :: r)
    | none => none)
  | _ => none
def ax_get (c k : Nat) (st : List Value) (w : ax_W) : Option (List Value) := match st with
  | .ref i :: r => (match w[i]? with
    | some (c', fs) => if c' = c then (match fs[k]? with
      | some v => some (v :: r)
      | none => none) else none
    | none => none)
  | _ => none
/-- fk: the kind of the field -/
def ax_put (c k fk : Nat) (st : List Value) (w : ax_W) : Option (List Value × ax_W) := match st with
  | v :: .ref i :: r => if ax_fit fk v then (match w[i]? with
    | some (c', fs) => if c' = c then (if k < fs.length then some (r, w.set i (c, fs.set k v)) else none) else none
    | none => none) else none
  | _ => none
/-- how many slots a cell takes: an exception's are not followed, but counted -/
def ax_cs (q : Nat × List Value) : Nat := if q.1 = 9 then 6 else if q.1 = 10 then 6 else q.2.length
def ax_sz (w : ax_W) : Nat := (w.map ax_cs).sum
/-- the first contents of an object of a class: by the kinds of its fields -/
def ax_dfl (k : Nat) : Value := if k = 2 then .null else .int 0
def ax_newa (t : Nat) (d : Value) (st : List Value) (w : ax_W) : Option (List Value × ax_W) := match st with
  | .int n :: r => if n < 0 || 100000 < n then none else some (.ref w.length :: r, w ++ [(t, List.replicate n.toNatClampNeg d)])
  | _ => none
/-- fields of class c: their kinds -/
def ax_new (kinds : List (List Nat)) (c : Nat) (st : List Value) (w : ax_W) : Option (List Value × ax_W) := match kinds[c]? with
  | some ks => some (.ref w.length :: st, w ++ [(c, ks.map ax_dfl)])
  | none => none
def ax_at (t : ArrayType) : Option (Nat × Value) := match t with
  | .int => some (20, .int 0)
  | .long => some (21, .long 0)
  | .char => some (22, .int 0)
  | .boolean => some (23, .int 0)
  | _ => none
/-- one entry: the instruction, its length, and a, b, j: what the pool gives -/
def ax_hp (kinds : List (List Nat)) (kI : List Int32) (kJ : List Int64) (xs : List Int32) (e : ax_E) (st : List Value) (w : ax_W) : Option (List Value × ax_W) := match e.1 with
  | .iaload => (ax_ald 20 xs st w).map (fun r => (r, w))
  | .laload => (ax_ald 21 xs st w).map (fun r => (r, w))
  | .caload => (ax_ald 22 xs st w).map (fun r => (r, w))
  | .baload => (ax_ald 23 xs st w).map (fun r => (r, w))
  | .aaload => (ax_aald st w).map (fun r => (r, w))
  | .arraylength => (ax_alen xs st w).map (fun r => (r, w))
  | .getfield _ => (ax_get e.2.2.1 e.2.2.2.1 st w).map (fun r => (r, w))
  | .getstatic _ => some (.retAddr e.2.2.1 :: st, w)
  | .ldc _ => if e.2.2.2.1 = 0 then (match kI[e.2.2.1]? with
    | some x => some (.int x :: st, w)
    | none => none) else some (.retAddr e.2.2.1 :: st, w)
  | .ldc_w _ => if e.2.2.2.1 = 0 then (match kI[e.2.2.1]? with
    | some x => some (.int x :: st, w)
    | none => none) else some (.retAddr e.2.2.1 :: st, w)
  | .ldc2_w _ => (match kJ[e.2.2.1]? with
    | some x => some (.long x :: st, w)
    | none => none)
  | .iastore => ax_ast 20 st w
  | .lastore => ax_last st w
  | .castore => ax_cast 22 65535 st w
  | .bastore => ax_cast 23 1 st w
  | .aastore => ax_aast st w
  | .putfield _ => (match kinds[e.2.2.1]? with
    | some ks => (match ks[e.2.2.2.1]? with
      | some fk => ax_put e.2.2.1 e.2.2.2.1 fk st w
      | none => none)
    | none => none)
  | .new _ => ax_new kinds e.2.2.1 st w
  | .newarray t => (match ax_at t with
    | some (tg, d) => ax_newa tg d st w
    | none => none)
  | .anewarray _ => ax_newa (30 + e.2.2.1) .null st w
  | _ => none
/-- one step that is no call, no return, no throw -/
def ax_step (kinds : List (List Nat)) (kI : List Int32) (kJ : List Int64) (xs : List Int32) (e : ax_E) (pc : Nat) (ls : List (Option Value)) (st : List Value) (w : ax_W) : Option (Nat × List (Option Value) × List Value × ax_W) :=
  match ax_st e.1 ls st with
  | some st' => some (pc + e.2.1, ls, st', w)
  | none => match ax_sto e.1 ls st with
    | some (ls', st') => some (pc + e.2.1, ls', st', w)
    | none => match ax_br e.1 e.2.2.1 (pc + e.2.1) pc st with
      | some (pc', st') => some (pc', ls, st', w)
      | none => match ax_hp kinds kI kJ xs e st w with
        | some (st', w') => some (pc + e.2.1, ls, st', w')
        | none => none
/-- the end of a method: rk 0 void, 1 int, 2 boolean, 3 long, 4 a reference -/
def ax_ret (rk : Nat) (i : Instr) (st : List Value) : Option (Option Value) := match i with
  | .return_ => (match st with
    | [] => if rk = 0 then some none else none
    | _ => none)
  | .ireturn => (match st with
    | [.int x] => if rk = 1 then some (some (.int x)) else if rk = 2 then (if x = 0 then some (some (.int x)) else if x = 1 then some (some (.int x)) else none) else none
    | _ => none)
  | .lreturn => (match st with
    | [.long x] => if rk = 3 then some (some (.long x)) else none
    | _ => none)
  | .areturn => (match st with
    | [.ref x] => if rk = 4 then some (some (.ref x)) else none
    | _ => none)
  | _ => none
def ax_sl : List Value → List (Option Value)
  | [] => []
  | v :: vs => if ax_c1 v then some v :: ax_sl vs else some v :: none :: ax_sl vs
def ax_ent (as : List Value) (n : Nat) : List (Option Value) := ax_sl as ++ List.replicate (n - (ax_sl as).length) none
def ax_wt (v : Value) : Nat := if ax_c1 v then 1 else 2
def ax_hdl (tab : List (Nat × Nat × Nat × Nat)) (pc t : Nat) : Option Nat := match tab with
  | [] => none
  | (s, e, h, c) :: r => if s ≤ pc && pc < e && c == t then some h else ax_hdl r pc t
def ax_rcv (rc : Nat) (as : List Value) (w : ax_W) : Bool := match rc with
  | 0 => true
  | t + 1 => match as with
    | .ref i :: _ => (match w[i]? with
      | some (t', _) => t' == t
      | none => false)
    | _ => false
def ax_is (t : Nat) (v : Value) : Bool := match v with
  | .int _ => t == 20
  | .long _ => t == 21
  | _ => false
def ax_cpy (st : List Value) (w : ax_W) : Option (List Value × ax_W) := match st with
  | .int n :: .int dp :: .ref b :: .int sp :: .ref a :: r => (match w[a]?, w[b]? with
    | some (t, us), some (t', vs) => if t = t' && (t == 20 || t == 21) && !(decide (n < 0)) && !(decide (dp < 0)) && !(decide (sp < 0)) && decide (sp.toNatClampNeg + n.toNatClampNeg ≤ us.length) && decide (dp.toNatClampNeg + n.toNatClampNeg ≤ vs.length) && ((us.drop sp.toNatClampNeg).take n.toNatClampNeg).all (ax_is t) then
        some (r, w.set b (t, vs.take dp.toNatClampNeg ++ (us.drop sp.toNatClampNeg).take n.toNatClampNeg ++ vs.drop (dp.toNatClampNeg + n.toNatClampNeg))) else none
    | _, _ => none)
  | _ => none
/-- an exception's fields before its constructor: cause, stackTrace, suppressedExceptions, detailMessage, backtrace, depth; afterwards they are not followed any more -/
def ax_xf : List Value := [.null, .null, .null, .null, .null, .int 0]
/-- calls that are laws of the library: 1000 Object's constructor, 1001 the constructor of an exception with a text, 1002 System.arraycopy -/
def ax_spc (fr lo a : Nat) (st : List Value) (w : ax_W) : Option (List Value × ax_W) := match a with
  | 1000 => (match st with
    | .ref _ :: r => if fr = 0 then none else if lo < 30 then none else if 8 < (r.map ax_wt).sum then none else some (r, w)
    | _ => none)
  | 1001 => (match st with
    | .retAddr k :: .ref i :: r => if fr < 7 then none else if lo < 200 then none else if 8 < (r.map ax_wt).sum then none else if k < 2 then none else (match w[i]? with
      | some (t, fs) => if fs = ax_xf then (if t = 9 then some (r, w.set i (t, [])) else if t = 10 then some (r, w.set i (t, [])) else none) else none
      | none => none)
    | _ => none)
  | 1002 => if fr = 0 then none else if lo < 100 then none else if 18 < (st.map ax_wt).sum then none else ax_cpy st w
  | _ => none
/-- THE MACHINE: method z at pc, with fr frames and lo words of stack left; calls have their number in a, and in b what they take: the number of values, and 100 times (1 + the receiver's class) -/
def ax_ex (P : Nat → Option ax_M) (kinds : List (List Nat)) (kI : List Int32) (kJ : List Int64) (xs : List Int32) : Nat → Nat → Nat → Nat → Nat → List (Option Value) → List Value → ax_W → Option (Outcome × ax_W)
  | 0, _, _, _, _, _, _, _ => none
  | f + 1, fr, lo, z, pc, ls, st, w =>
    match P z with
    | none => none
    | some M =>
      match M.1[pc]? with
      | some (some e) =>
        match ax_ret M.2.2.1 e.1 st with
        | some v => some (.returned v, w)
        | none =>
          match e.1 with
          | .athrow =>
            match st with
            | .ref i :: _ => if M.2.2.2.isEmpty then some (.threw i, w) else none
            | _ => none
          | .invokevirtual _ | .invokestatic _ | .invokespecial _ =>
            if 1000 ≤ e.2.2.1 then
              match ax_spc fr lo e.2.2.1 st w with
              | some (st', w') => ax_ex P kinds kI kJ xs f fr lo z (pc + 3) ls st' w'
              | none => none
            else
              match P e.2.2.1 with
              | none => none
              | some M' =>
                if fr = 0 then none else if lo < M'.2.1 + 19 then none else if st.length < e.2.2.2.1 % 100 then none else if 8 < ((st.drop (e.2.2.2.1 % 100)).map ax_wt).sum then none else if M'.2.1 < (ax_sl (st.take (e.2.2.2.1 % 100)).reverse).length then none else
                if ax_rcv (e.2.2.2.1 / 100) (st.take (e.2.2.2.1 % 100)).reverse w then
                  match ax_ex P kinds kI kJ xs f (fr - 1) (lo - (M'.2.1 + 19)) e.2.2.1 0 (ax_ent (st.take (e.2.2.2.1 % 100)).reverse M'.2.1) [] w with
                  | none => none
                  | some (.returned v, w') => ax_ex P kinds kI kJ xs f fr lo z (pc + 3) ls (v.toList ++ st.drop (e.2.2.2.1 % 100)) w'
                  | some (.threw i, w') =>
                    match w'[i]? with
                    | none => none
                    | some (t, _) =>
                      match ax_hdl M.2.2.2 pc t with
                      | some h => ax_ex P kinds kI kJ xs f fr lo z h ls [.ref i] w'
                      | none => if M.2.2.2.isEmpty then some (.threw i, w') else none
                else none
          | _ =>
            match ax_step kinds kI kJ xs e pc ls st w with
            | some (pc', ls', st', w') => ax_ex P kinds kI kJ xs f fr lo z pc' ls' st' w'
            | none => none
      | _ => none
/-- the length of an instruction of fixed length -/
def ax_len (i : Instr) : Nat := match i with
  | .bipush _ => 2
  | .sipush _ => 3
  | .iload _ => 2
  | .lload _ => 2
  | .aload _ => 2
  | .istore _ => 2
  | .lstore _ => 2
  | .astore _ => 2
  | .iinc _ _ => 3
  | .goto _ => 3
  | .ifCond _ _ => 3
  | .if_icmp _ _ => 3
  | .getfield _ => 3
  | .putfield _ => 3
  | .getstatic _ => 3
  | .ldc _ => 2
  | .ldc_w _ => 3
  | .ldc2_w _ => 3
  | .new _ => 3
  | .newarray _ => 2
  | .anewarray _ => 3
  | .invokevirtual _ => 3
  | .invokestatic _ => 3
  | .invokespecial _ => 3
  | _ => 1
def ax_ty (t : Nat) : Option FieldType := match t with
  | 20 => some .int
  | 21 => some .long
  | 22 => some .char
  | 23 => some .boolean
  | 32 => some (.object "MatrixDesk$Matrix")
  | 35 => some (.object "MatrixDesk$Row")
  | 37 => some (.object "MatrixDesk$Whole")
  | _ => none
end
section
-- written by wip/gen/tables.py: the methods as tables for the abstract machine
def k_De_init : List (Option ax_E) := [some (.aload_n 0, 1, 0, 0, 0), some (.invokespecial 1, 3, 1000, 0, 0), none, none, some (.aload_n 0, 1, 0, 0, 0), some (.bipush 6, 2, 0, 0, 0), none, some (.anewarray 9, 3, 2, 0, 1), none, none, some (.putfield 11, 3, 0, 0, 2), none, none, some (.iconst 0, 1, 0, 0, 0), some (.istore_n 1, 1, 0, 0, 0), some (.iload_n 1, 1, 0, 0, 0), some (.bipush 6, 2, 0, 0, 0), none, some (.if_icmp .ge 22, 3, 40, 0, 0), none, none, some (.aload_n 0, 1, 0, 0, 0), some (.getfield 11, 3, 0, 0, 2), none, none, some (.iload_n 1, 1, 0, 0, 0), some (.new 9, 3, 2, 0, 3), none, none, some (.dup, 1, 0, 0, 0), some (.invokespecial 15, 3, 1, 301, 4), none, none, some (.aastore, 1, 0, 0, 0), some (.iinc 1 1, 3, 0, 0, 0), none, none, some (.goto (-22), 3, 15, 0, 0), none, none, some (.aload_n 0, 1, 0, 0, 0), some (.new 9, 3, 2, 0, 3), none, none, some (.dup, 1, 0, 0, 0), some (.invokespecial 15, 3, 1, 301, 4), none, none, some (.putfield 16, 3, 0, 1, 5), none, none, some (.aload_n 0, 1, 0, 0, 0), some (.new 20, 3, 4, 0, 6), none, none, some (.dup, 1, 0, 0, 0), some (.invokespecial 22, 3, 2, 501, 7), none, none, some (.putfield 23, 3, 0, 2, 8), none, none, some (.aload_n 0, 1, 0, 0, 0), some (.new 27, 3, 1, 0, 9), none, none, some (.dup, 1, 0, 0, 0), some (.invokespecial 29, 3, 3, 201, 10), none, none, some (.putfield 30, 3, 0, 3, 11), none, none, some (.aload_n 0, 1, 0, 0, 0), some (.new 34, 3, 3, 0, 12), none, none, some (.dup, 1, 0, 0, 0), some (.aload_n 0, 1, 0, 0, 0), some (.getfield 30, 3, 0, 3, 11), none, none, some (.invokespecial 36, 3, 14, 402, 13), none, none, some (.putfield 39, 3, 0, 4, 14), none, none, some (.aload_n 0, 1, 0, 0, 0), some (.new 43, 3, 6, 0, 15), none, none, some (.dup, 1, 0, 0, 0), some (.aload_n 0, 1, 0, 0, 0), some (.getfield 30, 3, 0, 3, 11), none, none, some (.invokespecial 45, 3, 15, 702, 16), none, none, some (.putfield 46, 3, 0, 5, 17), none, none, some (.aload_n 0, 1, 0, 0, 0), some (.new 50, 3, 7, 0, 18), none, none, some (.dup, 1, 0, 0, 0), some (.invokespecial 52, 3, 4, 801, 19), none, none, some (.putfield 53, 3, 0, 6, 20), none, none, some (.aload_n 0, 1, 0, 0, 0), some (.new 50, 3, 7, 0, 18), none, none, some (.dup, 1, 0, 0, 0), some (.invokespecial 52, 3, 4, 801, 19), none, none, some (.putfield 57, 3, 0, 7, 21), none, none, some (.aload_n 0, 1, 0, 0, 0), some (.new 50, 3, 7, 0, 18), none, none, some (.dup, 1, 0, 0, 0), some (.invokespecial 52, 3, 4, 801, 19), none, none, some (.putfield 60, 3, 0, 8, 22), none, none, some (.return_, 1, 0, 0, 0)]
def k_Ma_init : List (Option ax_E) := [some (.aload_n 0, 1, 0, 0, 0), some (.invokespecial 3, 3, 1000, 0, 23), none, none, some (.aload_n 0, 1, 0, 0, 0), some (.bipush 36, 2, 0, 0, 0), none, some (.newarray .long, 2, 0, 0, 0), none, some (.putfield 9, 3, 2, 0, 24), none, none, some (.aload_n 0, 1, 0, 0, 0), some (.iconst 1, 1, 0, 0, 0), some (.putfield 15, 3, 2, 1, 25), none, none, some (.aload_n 0, 1, 0, 0, 0), some (.iconst 1, 1, 0, 0, 0), some (.putfield 19, 3, 2, 2, 26), none, none, some (.return_, 1, 0, 0, 0)]
def k_Pr_init : List (Option ax_E) := [some (.aload_n 0, 1, 0, 0, 0), some (.invokespecial 3, 3, 1000, 0, 27), none, none, some (.aload_n 0, 1, 0, 0, 0), some (.sipush 256, 3, 0, 0, 0), none, none, some (.newarray .char, 2, 0, 0, 0), none, some (.putfield 9, 3, 4, 0, 28), none, none, some (.return_, 1, 0, 0, 0)]
def k_Di_init : List (Option ax_E) := [some (.aload_n 0, 1, 0, 0, 0), some (.invokespecial 3, 3, 1000, 0, 29), none, none, some (.aload_n 0, 1, 0, 0, 0), some (.new 9, 3, 7, 0, 30), none, none, some (.dup, 1, 0, 0, 0), some (.invokespecial 11, 3, 4, 801, 31), none, none, some (.putfield 12, 3, 1, 0, 32), none, none, some (.aload_n 0, 1, 0, 0, 0), some (.new 9, 3, 7, 0, 30), none, none, some (.dup, 1, 0, 0, 0), some (.invokespecial 11, 3, 4, 801, 31), none, none, some (.putfield 18, 3, 1, 1, 33), none, none, some (.aload_n 0, 1, 0, 0, 0), some (.new 9, 3, 7, 0, 30), none, none, some (.dup, 1, 0, 0, 0), some (.invokespecial 11, 3, 4, 801, 31), none, none, some (.putfield 21, 3, 1, 2, 34), none, none, some (.aload_n 0, 1, 0, 0, 0), some (.new 9, 3, 7, 0, 30), none, none, some (.dup, 1, 0, 0, 0), some (.invokespecial 11, 3, 4, 801, 31), none, none, some (.putfield 24, 3, 1, 3, 35), none, none, some (.aload_n 0, 1, 0, 0, 0), some (.new 9, 3, 7, 0, 30), none, none, some (.dup, 1, 0, 0, 0), some (.invokespecial 11, 3, 4, 801, 31), none, none, some (.putfield 27, 3, 1, 4, 36), none, none, some (.aload_n 0, 1, 0, 0, 0), some (.getfield 27, 3, 1, 4, 36), none, none, some (.lconst 1, 1, 0, 0, 0), some (.invokevirtual 30, 3, 5, 802, 37), none, none, some (.return_, 1, 0, 0, 0)]
def k_Wh_init : List (Option ax_E) := [some (.aload_n 0, 1, 0, 0, 0), some (.invokespecial 5, 3, 1000, 0, 38), none, none, some (.aload_n 0, 1, 0, 0, 0), some (.bipush 32, 2, 0, 0, 0), none, some (.newarray .int, 2, 0, 0, 0), none, some (.putfield 11, 3, 7, 0, 39), none, none, some (.return_, 1, 0, 0, 0)]
def k_Wh_becomeJ : List (Option ax_E) := [some (.aload_n 0, 1, 0, 0, 0), some (.invokevirtual 23, 3, 6, 801, 40), none, none, some (.aload_n 0, 1, 0, 0, 0), some (.iconst 3, 1, 0, 0, 0), some (.invokevirtual 26, 3, 7, 802, 41), none, none, some (.lload_n 1, 1, 0, 0, 0), some (.lstore_n 3, 1, 0, 0, 0), some (.iconst 0, 1, 0, 0, 0), some (.istore 5, 2, 0, 0, 0), none, some (.iload 5, 2, 0, 0, 0), none, some (.iconst 3, 1, 0, 0, 0), some (.if_icmp .ge 31, 3, 48, 0, 0), none, none, some (.aload_n 0, 1, 0, 0, 0), some (.getfield 11, 3, 7, 0, 39), none, none, some (.iload 5, 2, 0, 0, 0), none, some (.lload_n 3, 1, 0, 0, 0), some (.ldc2_w 30, 3, 0, 0, 42), none, none, some (.lrem, 1, 0, 0, 0), some (.invokestatic 32, 3, 12, 1, 43), none, none, some (.l2i, 1, 0, 0, 0), some (.iastore, 1, 0, 0, 0), some (.lload_n 3, 1, 0, 0, 0), some (.ldc2_w 30, 3, 0, 0, 42), none, none, some (.ldiv, 1, 0, 0, 0), some (.lstore_n 3, 1, 0, 0, 0), some (.iinc 5 1, 3, 0, 0, 0), none, none, some (.goto (-31), 3, 14, 0, 0), none, none, some (.aload_n 0, 1, 0, 0, 0), some (.iconst 3, 1, 0, 0, 0), some (.invokevirtual 38, 3, 13, 802, 44), none, none, some (.aload_n 0, 1, 0, 0, 0), some (.lload_n 1, 1, 0, 0, 0), some (.lconst 0, 1, 0, 0, 0), some (.lcmp, 1, 0, 0, 0), some (.ifCond .ge 7, 3, 64, 0, 0), none, none, some (.iconst 1, 1, 0, 0, 0), some (.goto 4, 3, 65, 0, 0), none, none, some (.iconst 0, 1, 0, 0, 0), some (.putfield 19, 3, 7, 2, 45), none, none, some (.return_, 1, 0, 0, 0)]
def k_Wh_clear : List (Option ax_E) := [some (.aload_n 0, 1, 0, 0, 0), some (.iconst 0, 1, 0, 0, 0), some (.putfield 15, 3, 7, 1, 46), none, none, some (.aload_n 0, 1, 0, 0, 0), some (.iconst 0, 1, 0, 0, 0), some (.putfield 19, 3, 7, 2, 45), none, none, some (.return_, 1, 0, 0, 0)]
def k_Wh_widen : List (Option ax_E) := [some (.iload_n 1, 1, 0, 0, 0), some (.aload_n 0, 1, 0, 0, 0), some (.getfield 11, 3, 7, 0, 39), none, none, some (.arraylength, 1, 0, 0, 0), some (.if_icmp .le 18, 3, 24, 0, 0), none, none, some (.aload_n 0, 1, 0, 0, 0), some (.aload_n 0, 1, 0, 0, 0), some (.getfield 11, 3, 7, 0, 39), none, none, some (.iload_n 1, 1, 0, 0, 0), some (.bipush 32, 2, 0, 0, 0), none, some (.iadd, 1, 0, 0, 0), some (.invokestatic 64, 3, 8, 2, 47), none, none, some (.putfield 11, 3, 7, 0, 39), none, none, some (.iload_n 1, 1, 0, 0, 0), some (.aload_n 0, 1, 0, 0, 0), some (.getfield 15, 3, 7, 1, 46), none, none, some (.if_icmp .le 16, 3, 45, 0, 0), none, none, some (.aload_n 0, 1, 0, 0, 0), some (.getfield 11, 3, 7, 0, 39), none, none, some (.aload_n 0, 1, 0, 0, 0), some (.getfield 15, 3, 7, 1, 46), none, none, some (.iload_n 1, 1, 0, 0, 0), some (.iconst 0, 1, 0, 0, 0), some (.invokestatic 70, 3, 10, 4, 48), none, none, some (.return_, 1, 0, 0, 0)]
def k_Ar_copyOf : List (Option ax_E) := [some (.iload_n 1, 1, 0, 0, 0), some (.aload_n 0, 1, 0, 0, 0), some (.arraylength, 1, 0, 0, 0), some (.if_icmp .ne 11, 3, 14, 0, 0), none, none, some (.aload_n 0, 1, 0, 0, 0), none, none, none, none, none, none, some (.areturn, 1, 0, 0, 0), some (.iload_n 1, 1, 0, 0, 0), some (.newarray .int, 2, 0, 0, 0), none, some (.astore_n 2, 1, 0, 0, 0), some (.aload_n 0, 1, 0, 0, 0), some (.iconst 0, 1, 0, 0, 0), some (.aload_n 2, 1, 0, 0, 0), some (.iconst 0, 1, 0, 0, 0), some (.aload_n 0, 1, 0, 0, 0), some (.arraylength, 1, 0, 0, 0), some (.iload_n 1, 1, 0, 0, 0), some (.invokestatic 304, 3, 9, 2, 49), none, none, some (.invokestatic 150, 3, 1002, 0, 50), none, none, some (.aload_n 2, 1, 0, 0, 0), some (.areturn, 1, 0, 0, 0)]
def k_Mt_min : List (Option ax_E) := [some (.iload_n 0, 1, 0, 0, 0), some (.iload_n 1, 1, 0, 0, 0), some (.if_icmp .gt 7, 3, 9, 0, 0), none, none, some (.iload_n 0, 1, 0, 0, 0), some (.goto 4, 3, 10, 0, 0), none, none, some (.iload_n 1, 1, 0, 0, 0), some (.ireturn, 1, 0, 0, 0)]
def k_Ar_fillI : List (Option ax_E) := [some (.aload_n 0, 1, 0, 0, 0), some (.arraylength, 1, 0, 0, 0), some (.iload_n 1, 1, 0, 0, 0), some (.iload_n 2, 1, 0, 0, 0), some (.invokestatic 13, 3, 11, 3, 51), none, none, some (.iload_n 1, 1, 0, 0, 0), some (.istore 4, 2, 0, 0, 0), none, some (.iload 4, 2, 0, 0, 0), none, some (.iload_n 2, 1, 0, 0, 0), some (.if_icmp .ge 14, 3, 27, 0, 0), none, none, some (.aload_n 0, 1, 0, 0, 0), some (.iload 4, 2, 0, 0, 0), none, some (.iload_n 3, 1, 0, 0, 0), some (.iastore, 1, 0, 0, 0), some (.iinc 4 1, 3, 0, 0, 0), none, none, some (.goto (-14), 3, 10, 0, 0), none, none, some (.return_, 1, 0, 0, 0)]
def k_Ar_rangeCheck : List (Option ax_E) := [some (.iload_n 1, 1, 0, 0, 0), some (.iload_n 2, 1, 0, 0, 0), some (.if_icmp .le 44, 3, 46, 0, 0), none, none, none, none, none, some (.dup, 1, 0, 0, 0), none, none, none, some (.dup, 1, 0, 0, 0), none, none, none, none, none, none, none, none, some (.iload_n 1, 1, 0, 0, 0), none, none, none, none, none, none, none, none, some (.iload_n 2, 1, 0, 0, 0), none, none, none, none, none, none, none, none, none, none, none, none, none, none, some (.athrow, 1, 0, 0, 0), some (.iload_n 1, 1, 0, 0, 0), some (.ifCond .ge 12, 3, 59, 0, 0), none, none, none, none, none, some (.dup, 1, 0, 0, 0), some (.iload_n 1, 1, 0, 0, 0), none, none, none, some (.athrow, 1, 0, 0, 0), some (.iload_n 2, 1, 0, 0, 0), some (.iload_n 0, 1, 0, 0, 0), some (.if_icmp .le 12, 3, 73, 0, 0), none, none, none, none, none, some (.dup, 1, 0, 0, 0), some (.iload_n 2, 1, 0, 0, 0), none, none, none, some (.athrow, 1, 0, 0, 0), some (.return_, 1, 0, 0, 0)]
def k_Mt_abs : List (Option ax_E) := [some (.lload_n 0, 1, 0, 0, 0), some (.lconst 0, 1, 0, 0, 0), some (.lcmp, 1, 0, 0, 0), some (.ifCond .ge 8, 3, 11, 0, 0), none, none, some (.lload_n 0, 1, 0, 0, 0), some (.lneg, 1, 0, 0, 0), some (.goto 4, 3, 12, 0, 0), none, none, some (.lload_n 0, 1, 0, 0, 0), some (.lreturn, 1, 0, 0, 0)]
def k_Wh_trim : List (Option ax_E) := [some (.aload_n 0, 1, 0, 0, 0), some (.iload_n 1, 1, 0, 0, 0), some (.putfield 15, 3, 7, 1, 46), none, none, some (.aload_n 0, 1, 0, 0, 0), some (.getfield 15, 3, 7, 1, 46), none, none, some (.ifCond .le 30, 3, 39, 0, 0), none, none, some (.aload_n 0, 1, 0, 0, 0), some (.getfield 11, 3, 7, 0, 39), none, none, some (.aload_n 0, 1, 0, 0, 0), some (.getfield 15, 3, 7, 1, 46), none, none, some (.iconst 1, 1, 0, 0, 0), some (.isub, 1, 0, 0, 0), some (.iaload, 1, 0, 0, 0), some (.ifCond .ne 16, 3, 39, 0, 0), none, none, some (.aload_n 0, 1, 0, 0, 0), some (.dup, 1, 0, 0, 0), some (.getfield 15, 3, 7, 1, 46), none, none, some (.iconst 1, 1, 0, 0, 0), some (.isub, 1, 0, 0, 0), some (.putfield 15, 3, 7, 1, 46), none, none, some (.goto (-31), 3, 5, 0, 0), none, none, some (.aload_n 0, 1, 0, 0, 0), some (.aload_n 0, 1, 0, 0, 0), some (.getfield 19, 3, 7, 2, 45), none, none, some (.ifCond .eq 14, 3, 58, 0, 0), none, none, some (.aload_n 0, 1, 0, 0, 0), some (.getfield 15, 3, 7, 1, 46), none, none, some (.ifCond .le 7, 3, 58, 0, 0), none, none, some (.iconst 1, 1, 0, 0, 0), some (.goto 4, 3, 59, 0, 0), none, none, some (.iconst 0, 1, 0, 0, 0), some (.putfield 19, 3, 7, 2, 45), none, none, some (.return_, 1, 0, 0, 0)]
def k_Mi_init : List (Option ax_E) := [some (.aload_n 0, 1, 0, 0, 0), some (.invokespecial 3, 3, 1000, 0, 52), none, none, some (.aload_n 0, 1, 0, 0, 0), some (.aload_n 1, 1, 0, 0, 0), some (.putfield 9, 3, 3, 0, 53), none, none, some (.aload_n 0, 1, 0, 0, 0), some (.bipush 36, 2, 0, 0, 0), none, some (.anewarray 15, 3, 7, 0, 54), none, none, some (.putfield 17, 3, 3, 1, 55), none, none, some (.iconst 0, 1, 0, 0, 0), some (.istore_n 2, 1, 0, 0, 0), some (.iload_n 2, 1, 0, 0, 0), some (.aload_n 0, 1, 0, 0, 0), some (.getfield 17, 3, 3, 1, 55), none, none, some (.arraylength, 1, 0, 0, 0), some (.if_icmp .ge 22, 3, 48, 0, 0), none, none, some (.aload_n 0, 1, 0, 0, 0), some (.getfield 17, 3, 3, 1, 55), none, none, some (.iload_n 2, 1, 0, 0, 0), some (.new 15, 3, 7, 0, 56), none, none, some (.dup, 1, 0, 0, 0), some (.invokespecial 21, 3, 4, 801, 57), none, none, some (.aastore, 1, 0, 0, 0), some (.iinc 2 1, 3, 0, 0, 0), none, none, some (.goto (-25), 3, 20, 0, 0), none, none, some (.aload_n 0, 1, 0, 0, 0), some (.bipush 64, 2, 0, 0, 0), none, some (.anewarray 15, 3, 7, 0, 54), none, none, some (.putfield 22, 3, 3, 2, 58), none, none, some (.iconst 0, 1, 0, 0, 0), some (.istore_n 2, 1, 0, 0, 0), some (.iload_n 2, 1, 0, 0, 0), some (.aload_n 0, 1, 0, 0, 0), some (.getfield 22, 3, 3, 2, 58), none, none, some (.arraylength, 1, 0, 0, 0), some (.if_icmp .ge 22, 3, 87, 0, 0), none, none, some (.aload_n 0, 1, 0, 0, 0), some (.getfield 22, 3, 3, 2, 58), none, none, some (.iload_n 2, 1, 0, 0, 0), some (.new 15, 3, 7, 0, 56), none, none, some (.dup, 1, 0, 0, 0), some (.invokespecial 21, 3, 4, 801, 57), none, none, some (.aastore, 1, 0, 0, 0), some (.iinc 2 1, 3, 0, 0, 0), none, none, some (.goto (-25), 3, 59, 0, 0), none, none, some (.aload_n 0, 1, 0, 0, 0), some (.getfield 22, 3, 3, 2, 58), none, none, some (.iconst 0, 1, 0, 0, 0), some (.aaload, 1, 0, 0, 0), some (.lconst 1, 1, 0, 0, 0), some (.invokevirtual 25, 3, 5, 802, 59), none, none, some (.return_, 1, 0, 0, 0)]
def k_St_init : List (Option ax_E) := [some (.aload_n 0, 1, 0, 0, 0), some (.invokespecial 3, 3, 1000, 0, 60), none, none, some (.aload_n 0, 1, 0, 0, 0), some (.aload_n 1, 1, 0, 0, 0), some (.putfield 9, 3, 6, 0, 61), none, none, some (.aload_n 0, 1, 0, 0, 0), some (.new 15, 3, 7, 0, 62), none, none, some (.dup, 1, 0, 0, 0), some (.invokespecial 17, 3, 4, 801, 63), none, none, some (.putfield 18, 3, 6, 1, 64), none, none, some (.aload_n 0, 1, 0, 0, 0), some (.bipush 7, 2, 0, 0, 0), none, some (.anewarray 22, 3, 5, 0, 65), none, none, some (.putfield 24, 3, 6, 2, 66), none, none, some (.iconst 0, 1, 0, 0, 0), some (.istore_n 2, 1, 0, 0, 0), some (.iload_n 2, 1, 0, 0, 0), some (.aload_n 0, 1, 0, 0, 0), some (.getfield 24, 3, 6, 2, 66), none, none, some (.arraylength, 1, 0, 0, 0), some (.if_icmp .ge 22, 3, 59, 0, 0), none, none, some (.aload_n 0, 1, 0, 0, 0), some (.getfield 24, 3, 6, 2, 66), none, none, some (.iload_n 2, 1, 0, 0, 0), some (.new 22, 3, 5, 0, 67), none, none, some (.dup, 1, 0, 0, 0), some (.invokespecial 28, 3, 16, 601, 68), none, none, some (.aastore, 1, 0, 0, 0), some (.iinc 2 1, 3, 0, 0, 0), none, none, some (.goto (-25), 3, 31, 0, 0), none, none, some (.aload_n 0, 1, 0, 0, 0), some (.bipush 7, 2, 0, 0, 0), none, some (.newarray .int, 2, 0, 0, 0), none, some (.putfield 29, 3, 6, 3, 69), none, none, some (.return_, 1, 0, 0, 0)]
def k_Ro_init : List (Option ax_E) := [some (.aload_n 0, 1, 0, 0, 0), some (.invokespecial 3, 3, 1000, 0, 70), none, none, some (.aload_n 0, 1, 0, 0, 0), some (.bipush 12, 2, 0, 0, 0), none, some (.anewarray 9, 3, 7, 0, 71), none, none, some (.putfield 11, 3, 5, 0, 72), none, none, some (.iconst 0, 1, 0, 0, 0), some (.istore_n 1, 1, 0, 0, 0), some (.iload_n 1, 1, 0, 0, 0), some (.aload_n 0, 1, 0, 0, 0), some (.getfield 11, 3, 5, 0, 72), none, none, some (.arraylength, 1, 0, 0, 0), some (.if_icmp .ge 22, 3, 43, 0, 0), none, none, some (.aload_n 0, 1, 0, 0, 0), some (.getfield 11, 3, 5, 0, 72), none, none, some (.iload_n 1, 1, 0, 0, 0), some (.new 9, 3, 7, 0, 73), none, none, some (.dup, 1, 0, 0, 0), some (.invokespecial 17, 3, 4, 801, 74), none, none, some (.aastore, 1, 0, 0, 0), some (.iinc 1 1, 3, 0, 0, 0), none, none, some (.goto (-25), 3, 15, 0, 0), none, none, some (.return_, 1, 0, 0, 0)]
def k_De_size : List (Option ax_E) := [some (.iload_n 1, 1, 0, 0, 0), some (.ifCond .lt 9, 3, 10, 0, 0), none, none, some (.iload_n 1, 1, 0, 0, 0), some (.bipush 6, 2, 0, 0, 0), none, some (.if_icmp .lt 5, 3, 12, 0, 0), none, none, some (.iconst (-1), 1, 0, 0, 0), some (.ireturn, 1, 0, 0, 0), some (.iload_n 2, 1, 0, 0, 0), some (.ifCond .ne 15, 3, 28, 0, 0), none, none, some (.aload_n 0, 1, 0, 0, 0), some (.getfield 11, 3, 0, 0, 2), none, none, some (.iload_n 1, 1, 0, 0, 0), some (.aaload, 1, 0, 0, 0), some (.getfield 96, 3, 2, 1, 75), none, none, some (.goto 21, 3, 46, 0, 0), none, none, some (.iload_n 2, 1, 0, 0, 0), some (.iconst 1, 1, 0, 0, 0), some (.if_icmp .ne 15, 3, 45, 0, 0), none, none, some (.aload_n 0, 1, 0, 0, 0), some (.getfield 11, 3, 0, 0, 2), none, none, some (.iload_n 1, 1, 0, 0, 0), some (.aaload, 1, 0, 0, 0), some (.getfield 100, 3, 2, 2, 76), none, none, some (.goto 4, 3, 46, 0, 0), none, none, some (.iconst (-1), 1, 0, 0, 0), some (.ireturn, 1, 0, 0, 0)]
def k_De_character : List (Option ax_E) := [some (.iload_n 1, 1, 0, 0, 0), some (.ifCond .lt 14, 3, 15, 0, 0), none, none, some (.iload_n 1, 1, 0, 0, 0), some (.aload_n 0, 1, 0, 0, 0), some (.getfield 23, 3, 0, 2, 8), none, none, some (.getfield 198, 3, 4, 1, 77), none, none, some (.if_icmp .lt 7, 3, 19, 0, 0), none, none, some (.iconst (-1), 1, 0, 0, 0), some (.goto 12, 3, 28, 0, 0), none, none, some (.aload_n 0, 1, 0, 0, 0), some (.getfield 23, 3, 0, 2, 8), none, none, some (.getfield 204, 3, 4, 0, 78), none, none, some (.iload_n 1, 1, 0, 0, 0), some (.caload, 1, 0, 0, 0), some (.ireturn, 1, 0, 0, 0)]
def k_La_make : List (Option ax_E) := [some (.aload_n 0, 1, 0, 0, 0), some (.iload_n 1, 1, 0, 0, 0), some (.iload_n 2, 1, 0, 0, 0), some (.iload_n 3, 1, 0, 0, 0), some (.invokevirtual 7, 3, 20, 104, 79), none, none, some (.goto 11, 3, 18, 0, 0), none, none, some (.astore 4, 2, 0, 0, 0), none, some (.iconst 1, 1, 0, 0, 0), some (.ireturn, 1, 0, 0, 0), some (.astore 4, 2, 0, 0, 0), none, some (.iconst 2, 1, 0, 0, 0), some (.ireturn, 1, 0, 0, 0), some (.iconst 0, 1, 0, 0, 0), some (.ireturn, 1, 0, 0, 0)]
def k_De_make : List (Option ax_E) := [some (.aload_n 0, 1, 0, 0, 0), some (.iload_n 1, 1, 0, 0, 0), some (.invokevirtual 63, 3, 21, 102, 80), none, none, some (.astore 4, 2, 0, 0, 0), none, some (.iload_n 2, 1, 0, 0, 0), some (.iconst 1, 1, 0, 0, 0), some (.if_icmp .lt 20, 3, 29, 0, 0), none, none, some (.iload_n 2, 1, 0, 0, 0), some (.bipush 6, 2, 0, 0, 0), none, some (.if_icmp .gt 14, 3, 29, 0, 0), none, none, some (.iload_n 3, 1, 0, 0, 0), some (.iconst 1, 1, 0, 0, 0), some (.if_icmp .lt 9, 3, 29, 0, 0), none, none, some (.iload_n 3, 1, 0, 0, 0), some (.bipush 6, 2, 0, 0, 0), none, some (.if_icmp .le 13, 3, 39, 0, 0), none, none, some (.new 67, 3, 10, 0, 81), none, none, some (.dup, 1, 0, 0, 0), some (.ldc 69, 2, 3, 1, 82), none, some (.invokespecial 71, 3, 1001, 0, 83), none, none, some (.athrow, 1, 0, 0, 0), some (.aload 4, 2, 0, 0, 0), none, some (.iload_n 2, 1, 0, 0, 0), some (.iload_n 3, 1, 0, 0, 0), some (.invokevirtual 74, 3, 22, 303, 84), none, none, some (.return_, 1, 0, 0, 0)]
def k_De_matrix : List (Option ax_E) := [some (.iload_n 1, 1, 0, 0, 0), some (.ifCond .lt 9, 3, 10, 0, 0), none, none, some (.iload_n 1, 1, 0, 0, 0), some (.bipush 6, 2, 0, 0, 0), none, some (.if_icmp .lt 13, 3, 20, 0, 0), none, none, some (.new 221, 3, 9, 0, 85), none, none, some (.dup, 1, 0, 0, 0), some (.ldc 223, 2, 2, 1, 86), none, some (.invokespecial 225, 3, 1001, 0, 87), none, none, some (.athrow, 1, 0, 0, 0), some (.aload_n 0, 1, 0, 0, 0), some (.getfield 11, 3, 0, 0, 2), none, none, some (.iload_n 1, 1, 0, 0, 0), some (.aaload, 1, 0, 0, 0), some (.areturn, 1, 0, 0, 0)]
def k_Ma_reset : List (Option ax_E) := [some (.aload_n 0, 1, 0, 0, 0), some (.iload_n 1, 1, 0, 0, 0), some (.putfield 15, 3, 2, 1, 25), none, none, some (.aload_n 0, 1, 0, 0, 0), some (.iload_n 2, 1, 0, 0, 0), some (.putfield 19, 3, 2, 2, 26), none, none, some (.aload_n 0, 1, 0, 0, 0), some (.getfield 9, 3, 2, 0, 24), none, none, some (.lconst 0, 1, 0, 0, 0), some (.invokestatic 22, 3, 23, 2, 88), none, none, some (.return_, 1, 0, 0, 0)]
def k_Ar_fillJ : List (Option ax_E) := [some (.iconst 0, 1, 0, 0, 0), some (.istore_n 3, 1, 0, 0, 0), some (.aload_n 0, 1, 0, 0, 0), some (.arraylength, 1, 0, 0, 0), some (.istore 4, 2, 0, 0, 0), none, some (.iload_n 3, 1, 0, 0, 0), some (.iload 4, 2, 0, 0, 0), none, some (.if_icmp .ge 13, 3, 22, 0, 0), none, none, some (.aload_n 0, 1, 0, 0, 0), some (.iload_n 3, 1, 0, 0, 0), some (.lload_n 1, 1, 0, 0, 0), some (.lastore, 1, 0, 0, 0), some (.iinc 3 1, 3, 0, 0, 0), none, none, some (.goto (-13), 3, 6, 0, 0), none, none, some (.return_, 1, 0, 0, 0)]
def k_La_put : List (Option ax_E) := [some (.aload_n 0, 1, 0, 0, 0), some (.iload_n 1, 1, 0, 0, 0), some (.iload_n 2, 1, 0, 0, 0), some (.iload_n 3, 1, 0, 0, 0), some (.lload 4, 2, 0, 0, 0), none, some (.invokevirtual 17, 3, 25, 105, 89), none, none, some (.goto 11, 3, 20, 0, 0), none, none, some (.astore 6, 2, 0, 0, 0), none, some (.iconst 1, 1, 0, 0, 0), some (.ireturn, 1, 0, 0, 0), some (.astore 6, 2, 0, 0, 0), none, some (.iconst 2, 1, 0, 0, 0), some (.ireturn, 1, 0, 0, 0), some (.iconst 0, 1, 0, 0, 0), some (.ireturn, 1, 0, 0, 0)]
def k_De_put : List (Option ax_E) := [some (.aload_n 0, 1, 0, 0, 0), some (.iload_n 1, 1, 0, 0, 0), some (.iload_n 2, 1, 0, 0, 0), some (.iload_n 3, 1, 0, 0, 0), some (.invokevirtual 78, 3, 26, 104, 90), none, none, some (.astore 6, 2, 0, 0, 0), none, some (.lload 4, 2, 0, 0, 0), none, some (.ldc2_w 82, 3, 1, 0, 91), none, none, some (.lcmp, 1, 0, 0, 0), some (.ifCond .ge 12, 3, 27, 0, 0), none, none, some (.lload 4, 2, 0, 0, 0), none, some (.ldc2_w 84, 3, 2, 0, 92), none, none, some (.lcmp, 1, 0, 0, 0), some (.ifCond .gt 13, 3, 37, 0, 0), none, none, some (.new 67, 3, 10, 0, 81), none, none, some (.dup, 1, 0, 0, 0), some (.ldc 86, 2, 5, 1, 93), none, some (.invokespecial 71, 3, 1001, 0, 83), none, none, some (.athrow, 1, 0, 0, 0), some (.aload 6, 2, 0, 0, 0), none, some (.iload_n 2, 1, 0, 0, 0), some (.iload_n 3, 1, 0, 0, 0), some (.lload 4, 2, 0, 0, 0), none, some (.invokevirtual 88, 3, 28, 304, 94), none, none, some (.return_, 1, 0, 0, 0)]
def k_De_matrixWith : List (Option ax_E) := [some (.aload_n 0, 1, 0, 0, 0), some (.iload_n 1, 1, 0, 0, 0), some (.invokevirtual 63, 3, 21, 102, 80), none, none, some (.astore 4, 2, 0, 0, 0), none, some (.aload 4, 2, 0, 0, 0), none, some (.iload_n 2, 1, 0, 0, 0), some (.iload_n 3, 1, 0, 0, 0), some (.invokevirtual 186, 3, 27, 303, 95), none, none, some (.ifCond .ne 13, 3, 27, 0, 0), none, none, some (.new 221, 3, 9, 0, 85), none, none, some (.dup, 1, 0, 0, 0), some (.ldc 226, 2, 4, 1, 96), none, some (.invokespecial 225, 3, 1001, 0, 87), none, none, some (.athrow, 1, 0, 0, 0), some (.aload 4, 2, 0, 0, 0), none, some (.areturn, 1, 0, 0, 0)]
def k_Ma_has : List (Option ax_E) := [some (.iload_n 1, 1, 0, 0, 0), some (.ifCond .lt 27, 3, 28, 0, 0), none, none, some (.iload_n 1, 1, 0, 0, 0), some (.aload_n 0, 1, 0, 0, 0), some (.getfield 15, 3, 2, 1, 25), none, none, some (.if_icmp .ge 19, 3, 28, 0, 0), none, none, some (.iload_n 2, 1, 0, 0, 0), some (.ifCond .lt 15, 3, 28, 0, 0), none, none, some (.iload_n 2, 1, 0, 0, 0), some (.aload_n 0, 1, 0, 0, 0), some (.getfield 19, 3, 2, 2, 26), none, none, some (.if_icmp .ge 7, 3, 28, 0, 0), none, none, some (.iconst 1, 1, 0, 0, 0), some (.goto 4, 3, 29, 0, 0), none, none, some (.iconst 0, 1, 0, 0, 0), some (.ireturn, 1, 0, 0, 0)]
def k_Ma_write : List (Option ax_E) := [some (.aload_n 0, 1, 0, 0, 0), some (.iload_n 1, 1, 0, 0, 0), some (.iload_n 2, 1, 0, 0, 0), some (.invokevirtual 40, 3, 27, 303, 97), none, none, some (.ifCond .eq 15, 3, 21, 0, 0), none, none, some (.aload_n 0, 1, 0, 0, 0), some (.getfield 9, 3, 2, 0, 24), none, none, some (.iload_n 1, 1, 0, 0, 0), some (.bipush 6, 2, 0, 0, 0), none, some (.imul, 1, 0, 0, 0), some (.iload_n 2, 1, 0, 0, 0), some (.iadd, 1, 0, 0, 0), some (.lload_n 3, 1, 0, 0, 0), some (.lastore, 1, 0, 0, 0), some (.return_, 1, 0, 0, 0)]
def k_La_at : List (Option ax_E) := [some (.aload 4, 2, 0, 0, 0), none, some (.iconst 0, 1, 0, 0, 0), some (.aload_n 0, 1, 0, 0, 0), some (.iload_n 1, 1, 0, 0, 0), some (.iload_n 2, 1, 0, 0, 0), some (.iload_n 3, 1, 0, 0, 0), some (.invokevirtual 21, 3, 30, 104, 98), none, none, some (.lastore, 1, 0, 0, 0), some (.goto 7, 3, 18, 0, 0), none, none, some (.astore 5, 2, 0, 0, 0), none, some (.iconst 1, 1, 0, 0, 0), some (.ireturn, 1, 0, 0, 0), some (.iconst 0, 1, 0, 0, 0), some (.ireturn, 1, 0, 0, 0)]
def k_De_at : List (Option ax_E) := [some (.aload_n 0, 1, 0, 0, 0), some (.iload_n 1, 1, 0, 0, 0), some (.iload_n 2, 1, 0, 0, 0), some (.iload_n 3, 1, 0, 0, 0), some (.invokevirtual 78, 3, 26, 104, 90), none, none, some (.iload_n 2, 1, 0, 0, 0), some (.iload_n 3, 1, 0, 0, 0), some (.invokevirtual 92, 3, 31, 303, 99), none, none, some (.lreturn, 1, 0, 0, 0)]
def k_Ma_number : List (Option ax_E) := [some (.aload_n 0, 1, 0, 0, 0), some (.iload_n 1, 1, 0, 0, 0), some (.iload_n 2, 1, 0, 0, 0), some (.invokevirtual 40, 3, 27, 303, 97), none, none, some (.ifCond .eq 17, 3, 23, 0, 0), none, none, some (.aload_n 0, 1, 0, 0, 0), some (.getfield 9, 3, 2, 0, 24), none, none, some (.iload_n 1, 1, 0, 0, 0), some (.bipush 6, 2, 0, 0, 0), none, some (.imul, 1, 0, 0, 0), some (.iload_n 2, 1, 0, 0, 0), some (.iadd, 1, 0, 0, 0), some (.laload, 1, 0, 0, 0), some (.goto 4, 3, 24, 0, 0), none, none, some (.lconst 0, 1, 0, 0, 0), some (.lreturn, 1, 0, 0, 0)]
def k_La_combine : List (Option ax_E) := [some (.aload 6, 2, 0, 0, 0), none, some (.iconst 0, 1, 0, 0, 0), some (.aload_n 0, 1, 0, 0, 0), some (.iload_n 1, 1, 0, 0, 0), some (.iload_n 2, 1, 0, 0, 0), some (.iload_n 3, 1, 0, 0, 0), some (.iload 4, 2, 0, 0, 0), none, some (.iload 5, 2, 0, 0, 0), none, some (.invokevirtual 25, 3, 33, 106, 100), none, none, some (.i2l, 1, 0, 0, 0), some (.lastore, 1, 0, 0, 0), some (.goto 7, 3, 23, 0, 0), none, none, some (.astore 7, 2, 0, 0, 0), none, some (.iconst 1, 1, 0, 0, 0), some (.ireturn, 1, 0, 0, 0), some (.iconst 0, 1, 0, 0, 0), some (.ireturn, 1, 0, 0, 0)]
def k_De_combine : List (Option ax_E) := [some (.aload_n 0, 1, 0, 0, 0), some (.iload_n 1, 1, 0, 0, 0), some (.invokevirtual 63, 3, 21, 102, 80), none, none, some (.astore 6, 2, 0, 0, 0), none, some (.aload_n 0, 1, 0, 0, 0), some (.iload_n 2, 1, 0, 0, 0), some (.invokevirtual 63, 3, 21, 102, 80), none, none, some (.astore 7, 2, 0, 0, 0), none, some (.aload_n 0, 1, 0, 0, 0), some (.iload 4, 2, 0, 0, 0), none, some (.invokevirtual 63, 3, 21, 102, 80), none, none, some (.astore 8, 2, 0, 0, 0), none, some (.aload 7, 2, 0, 0, 0), none, some (.getfield 96, 3, 2, 1, 75), none, none, some (.aload 8, 2, 0, 0, 0), none, some (.getfield 96, 3, 2, 1, 75), none, none, some (.if_icmp .ne 16, 3, 48, 0, 0), none, none, some (.aload 7, 2, 0, 0, 0), none, some (.getfield 100, 3, 2, 2, 76), none, none, some (.aload 8, 2, 0, 0, 0), none, some (.getfield 100, 3, 2, 2, 76), none, none, some (.if_icmp .eq 6, 3, 51, 0, 0), none, none, some (.bipush (-2), 2, 0, 0, 0), none, some (.ireturn, 1, 0, 0, 0), some (.aload_n 0, 1, 0, 0, 0), some (.getfield 16, 3, 0, 1, 5), none, none, some (.aload 7, 2, 0, 0, 0), none, some (.getfield 96, 3, 2, 1, 75), none, none, some (.aload 7, 2, 0, 0, 0), none, some (.getfield 100, 3, 2, 2, 76), none, none, some (.invokevirtual 74, 3, 22, 303, 84), none, none, some (.iconst 0, 1, 0, 0, 0), some (.istore 9, 2, 0, 0, 0), none, some (.iload 9, 2, 0, 0, 0), none, some (.aload 7, 2, 0, 0, 0), none, some (.getfield 96, 3, 2, 1, 75), none, none, some (.if_icmp .ge 97, 3, 175, 0, 0), none, none, some (.iconst 0, 1, 0, 0, 0), some (.istore 10, 2, 0, 0, 0), none, some (.iload 10, 2, 0, 0, 0), none, some (.aload 7, 2, 0, 0, 0), none, some (.getfield 100, 3, 2, 2, 76), none, none, some (.if_icmp .ge 78, 3, 169, 0, 0), none, none, some (.aload_n 0, 1, 0, 0, 0), some (.getfield 53, 3, 0, 6, 20), none, none, some (.invokevirtual 103, 3, 6, 801, 101), none, none, some (.aload_n 0, 1, 0, 0, 0), some (.aload 7, 2, 0, 0, 0), none, some (.iload 9, 2, 0, 0, 0), none, some (.iload 10, 2, 0, 0, 0), none, some (.invokevirtual 92, 3, 31, 303, 99), none, none, some (.iload_n 3, 1, 0, 0, 0), some (.i2l, 1, 0, 0, 0), some (.invokevirtual 106, 3, 34, 103, 102), none, none, some (.aload_n 0, 1, 0, 0, 0), some (.aload 8, 2, 0, 0, 0), none, some (.iload 9, 2, 0, 0, 0), none, some (.iload 10, 2, 0, 0, 0), none, some (.invokevirtual 92, 3, 31, 303, 99), none, none, some (.iload 5, 2, 0, 0, 0), none, some (.i2l, 1, 0, 0, 0), some (.invokevirtual 106, 3, 34, 103, 102), none, none, some (.aload_n 0, 1, 0, 0, 0), some (.getfield 53, 3, 0, 6, 20), none, none, some (.invokevirtual 110, 3, 39, 801, 103), none, none, some (.ifCond .ne 6, 3, 145, 0, 0), none, none, some (.bipush (-3), 2, 0, 0, 0), none, some (.ireturn, 1, 0, 0, 0), some (.aload_n 0, 1, 0, 0, 0), some (.getfield 16, 3, 0, 1, 5), none, none, some (.iload 9, 2, 0, 0, 0), none, some (.iload 10, 2, 0, 0, 0), none, some (.aload_n 0, 1, 0, 0, 0), some (.getfield 53, 3, 0, 6, 20), none, none, some (.invokevirtual 114, 3, 40, 801, 104), none, none, some (.invokevirtual 88, 3, 28, 304, 94), none, none, some (.iinc 10 1, 3, 0, 0, 0), none, none, some (.goto (-82), 3, 84, 0, 0), none, none, some (.iinc 9 1, 3, 0, 0, 0), none, none, some (.goto (-101), 3, 71, 0, 0), none, none, some (.aload 6, 2, 0, 0, 0), none, some (.aload_n 0, 1, 0, 0, 0), some (.getfield 16, 3, 0, 1, 5), none, none, some (.invokevirtual 118, 3, 41, 302, 105), none, none, some (.iconst 0, 1, 0, 0, 0), some (.ireturn, 1, 0, 0, 0)]
def k_De_addToSum : List (Option ax_E) := [some (.aload_n 0, 1, 0, 0, 0), some (.getfield 57, 3, 0, 7, 21), none, none, some (.lload_n 1, 1, 0, 0, 0), some (.invokevirtual 151, 3, 5, 802, 106), none, none, some (.aload_n 0, 1, 0, 0, 0), some (.getfield 60, 3, 0, 8, 22), none, none, some (.lload_n 3, 1, 0, 0, 0), some (.invokevirtual 151, 3, 5, 802, 106), none, none, some (.aload_n 0, 1, 0, 0, 0), some (.getfield 53, 3, 0, 6, 20), none, none, some (.aload_n 0, 1, 0, 0, 0), some (.getfield 57, 3, 0, 7, 21), none, none, some (.aload_n 0, 1, 0, 0, 0), some (.getfield 60, 3, 0, 8, 22), none, none, some (.iconst 1, 1, 0, 0, 0), some (.invokevirtual 228, 3, 35, 804, 107), none, none, some (.return_, 1, 0, 0, 0)]
def k_Wh_addProduct : List (Option ax_E) := [some (.aload_n 1, 1, 0, 0, 0), some (.getfield 15, 3, 7, 1, 46), none, none, some (.ifCond .eq 10, 3, 14, 0, 0), none, none, some (.aload_n 2, 1, 0, 0, 0), some (.getfield 15, 3, 7, 1, 46), none, none, some (.ifCond .ne 4, 3, 15, 0, 0), none, none, some (.return_, 1, 0, 0, 0), some (.aload_n 0, 1, 0, 0, 0), some (.getfield 15, 3, 7, 1, 46), none, none, some (.aload_n 1, 1, 0, 0, 0), some (.getfield 15, 3, 7, 1, 46), none, none, some (.aload_n 2, 1, 0, 0, 0), some (.getfield 15, 3, 7, 1, 46), none, none, some (.iadd, 1, 0, 0, 0), some (.invokestatic 47, 3, 36, 2, 108), none, none, some (.iconst 1, 1, 0, 0, 0), some (.iadd, 1, 0, 0, 0), some (.istore 4, 2, 0, 0, 0), none, some (.aload_n 0, 1, 0, 0, 0), some (.iload 4, 2, 0, 0, 0), none, some (.invokevirtual 26, 3, 7, 802, 41), none, none, some (.aload_n 1, 1, 0, 0, 0), some (.getfield 19, 3, 7, 2, 45), none, none, some (.aload_n 2, 1, 0, 0, 0), some (.getfield 19, 3, 7, 2, 45), none, none, some (.if_icmp .ne 7, 3, 56, 0, 0), none, none, some (.iconst 1, 1, 0, 0, 0), some (.goto 4, 3, 57, 0, 0), none, none, some (.iconst 0, 1, 0, 0, 0), some (.aload_n 0, 1, 0, 0, 0), some (.getfield 19, 3, 7, 2, 45), none, none, some (.if_icmp .eq 7, 3, 68, 0, 0), none, none, some (.iconst 1, 1, 0, 0, 0), some (.goto 4, 3, 69, 0, 0), none, none, some (.iconst 0, 1, 0, 0, 0), some (.istore 5, 2, 0, 0, 0), none, some (.iload 5, 2, 0, 0, 0), none, some (.ifCond .eq 8, 3, 81, 0, 0), none, none, some (.iload_n 3, 1, 0, 0, 0), some (.i2l, 1, 0, 0, 0), some (.goto 6, 3, 84, 0, 0), none, none, some (.iload_n 3, 1, 0, 0, 0), some (.ineg, 1, 0, 0, 0), some (.i2l, 1, 0, 0, 0), some (.lstore 6, 2, 0, 0, 0), none, some (.iconst 0, 1, 0, 0, 0), some (.istore 8, 2, 0, 0, 0), none, some (.iload 8, 2, 0, 0, 0), none, some (.aload_n 1, 1, 0, 0, 0), some (.getfield 15, 3, 7, 1, 46), none, none, some (.if_icmp .ge 29, 3, 124, 0, 0), none, none, some (.aload_n 0, 1, 0, 0, 0), some (.aload_n 2, 1, 0, 0, 0), some (.lload 6, 2, 0, 0, 0), none, some (.aload_n 1, 1, 0, 0, 0), some (.getfield 11, 3, 7, 0, 39), none, none, some (.iload 8, 2, 0, 0, 0), none, some (.iaload, 1, 0, 0, 0), some (.i2l, 1, 0, 0, 0), some (.lmul, 1, 0, 0, 0), some (.iload 8, 2, 0, 0, 0), none, some (.iload 4, 2, 0, 0, 0), none, some (.invokevirtual 51, 3, 37, 805, 109), none, none, some (.iinc 8 1, 3, 0, 0, 0), none, none, some (.goto (-32), 3, 89, 0, 0), none, none, some (.aload_n 0, 1, 0, 0, 0), some (.iload 4, 2, 0, 0, 0), none, some (.invokevirtual 55, 3, 38, 802, 110), none, none, some (.return_, 1, 0, 0, 0)]
def k_Mt_max : List (Option ax_E) := [some (.iload_n 0, 1, 0, 0, 0), some (.iload_n 1, 1, 0, 0, 0), some (.if_icmp .lt 7, 3, 9, 0, 0), none, none, some (.iload_n 0, 1, 0, 0, 0), some (.goto 4, 3, 10, 0, 0), none, none, some (.iload_n 1, 1, 0, 0, 0), some (.ireturn, 1, 0, 0, 0)]
def k_Wh_addLine : List (Option ax_E) := [some (.lconst 0, 1, 0, 0, 0), some (.lstore 6, 2, 0, 0, 0), none, some (.iload 4, 2, 0, 0, 0), none, some (.istore 8, 2, 0, 0, 0), none, some (.iconst 0, 1, 0, 0, 0), some (.istore 9, 2, 0, 0, 0), none, some (.iload 9, 2, 0, 0, 0), none, some (.aload_n 1, 1, 0, 0, 0), some (.getfield 15, 3, 7, 1, 46), none, none, some (.if_icmp .ge 73, 3, 89, 0, 0), none, none, some (.aload_n 0, 1, 0, 0, 0), some (.getfield 11, 3, 7, 0, 39), none, none, some (.iload 8, 2, 0, 0, 0), none, some (.iaload, 1, 0, 0, 0), some (.i2l, 1, 0, 0, 0), some (.lload_n 2, 1, 0, 0, 0), some (.aload_n 1, 1, 0, 0, 0), some (.getfield 11, 3, 7, 0, 39), none, none, some (.iload 9, 2, 0, 0, 0), none, some (.iaload, 1, 0, 0, 0), some (.i2l, 1, 0, 0, 0), some (.lmul, 1, 0, 0, 0), some (.ladd, 1, 0, 0, 0), some (.lload 6, 2, 0, 0, 0), none, some (.ladd, 1, 0, 0, 0), some (.ldc2_w 58, 3, 3, 0, 111), none, none, some (.ladd, 1, 0, 0, 0), some (.lstore 10, 2, 0, 0, 0), none, some (.lload 10, 2, 0, 0, 0), none, some (.ldc2_w 30, 3, 0, 0, 42), none, none, some (.ldiv, 1, 0, 0, 0), some (.lstore 12, 2, 0, 0, 0), none, some (.aload_n 0, 1, 0, 0, 0), some (.getfield 11, 3, 7, 0, 39), none, none, some (.iload 8, 2, 0, 0, 0), none, some (.lload 10, 2, 0, 0, 0), none, some (.lload 12, 2, 0, 0, 0), none, some (.ldc2_w 30, 3, 0, 0, 42), none, none, some (.lmul, 1, 0, 0, 0), some (.lsub, 1, 0, 0, 0), some (.l2i, 1, 0, 0, 0), some (.iastore, 1, 0, 0, 0), some (.lload 12, 2, 0, 0, 0), none, some (.ldc2_w 60, 3, 4, 0, 112), none, none, some (.lsub, 1, 0, 0, 0), some (.lstore 6, 2, 0, 0, 0), none, some (.iinc 8 1, 3, 0, 0, 0), none, none, some (.iinc 9 1, 3, 0, 0, 0), none, none, some (.goto (-76), 3, 10, 0, 0), none, none, some (.lload 6, 2, 0, 0, 0), none, some (.lconst 0, 1, 0, 0, 0), some (.lcmp, 1, 0, 0, 0), some (.ifCond .eq 68, 3, 161, 0, 0), none, none, some (.iload 8, 2, 0, 0, 0), none, some (.iload 5, 2, 0, 0, 0), none, some (.iconst 1, 1, 0, 0, 0), some (.isub, 1, 0, 0, 0), some (.if_icmp .ge 59, 3, 161, 0, 0), none, none, some (.aload_n 0, 1, 0, 0, 0), some (.getfield 11, 3, 7, 0, 39), none, none, some (.iload 8, 2, 0, 0, 0), none, some (.iaload, 1, 0, 0, 0), some (.i2l, 1, 0, 0, 0), some (.lload 6, 2, 0, 0, 0), none, some (.ladd, 1, 0, 0, 0), some (.ldc2_w 58, 3, 3, 0, 111), none, none, some (.ladd, 1, 0, 0, 0), some (.lstore 9, 2, 0, 0, 0), none, some (.lload 9, 2, 0, 0, 0), none, some (.ldc2_w 30, 3, 0, 0, 42), none, none, some (.ldiv, 1, 0, 0, 0), some (.lstore 11, 2, 0, 0, 0), none, some (.aload_n 0, 1, 0, 0, 0), some (.getfield 11, 3, 7, 0, 39), none, none, some (.iload 8, 2, 0, 0, 0), none, some (.lload 9, 2, 0, 0, 0), none, some (.lload 11, 2, 0, 0, 0), none, some (.ldc2_w 30, 3, 0, 0, 42), none, none, some (.lmul, 1, 0, 0, 0), some (.lsub, 1, 0, 0, 0), some (.l2i, 1, 0, 0, 0), some (.iastore, 1, 0, 0, 0), some (.lload 11, 2, 0, 0, 0), none, some (.ldc2_w 60, 3, 4, 0, 112), none, none, some (.lsub, 1, 0, 0, 0), some (.lstore 6, 2, 0, 0, 0), none, some (.iinc 8 1, 3, 0, 0, 0), none, none, some (.goto (-69), 3, 89, 0, 0), none, none, some (.aload_n 0, 1, 0, 0, 0), some (.getfield 11, 3, 7, 0, 39), none, none, some (.iload 5, 2, 0, 0, 0), none, some (.iconst 1, 1, 0, 0, 0), some (.isub, 1, 0, 0, 0), some (.dup2, 1, 0, 0, 0), some (.iaload, 1, 0, 0, 0), some (.lload 6, 2, 0, 0, 0), none, some (.l2i, 1, 0, 0, 0), some (.iadd, 1, 0, 0, 0), some (.iastore, 1, 0, 0, 0), some (.return_, 1, 0, 0, 0)]
def k_Wh_straighten : List (Option ax_E) := [some (.aload_n 0, 1, 0, 0, 0), some (.getfield 11, 3, 7, 0, 39), none, none, some (.iload_n 1, 1, 0, 0, 0), some (.iconst 1, 1, 0, 0, 0), some (.isub, 1, 0, 0, 0), some (.iaload, 1, 0, 0, 0), some (.ifCond .ge 89, 3, 97, 0, 0), none, none, some (.aload_n 0, 1, 0, 0, 0), some (.aload_n 0, 1, 0, 0, 0), some (.getfield 19, 3, 7, 2, 45), none, none, some (.ifCond .ne 7, 3, 23, 0, 0), none, none, some (.iconst 1, 1, 0, 0, 0), some (.goto 4, 3, 24, 0, 0), none, none, some (.iconst 0, 1, 0, 0, 0), some (.putfield 19, 3, 7, 2, 45), none, none, some (.lconst 0, 1, 0, 0, 0), some (.lstore_n 2, 1, 0, 0, 0), some (.iconst 0, 1, 0, 0, 0), some (.istore 4, 2, 0, 0, 0), none, some (.iload 4, 2, 0, 0, 0), none, some (.iload_n 1, 1, 0, 0, 0), some (.if_icmp .ge 62, 3, 97, 0, 0), none, none, some (.lload_n 2, 1, 0, 0, 0), some (.aload_n 0, 1, 0, 0, 0), some (.getfield 11, 3, 7, 0, 39), none, none, some (.iload 4, 2, 0, 0, 0), none, some (.iaload, 1, 0, 0, 0), some (.i2l, 1, 0, 0, 0), some (.lsub, 1, 0, 0, 0), some (.lstore 5, 2, 0, 0, 0), none, some (.lload 5, 2, 0, 0, 0), none, some (.lconst 0, 1, 0, 0, 0), some (.lcmp, 1, 0, 0, 0), some (.ifCond .ge 9, 3, 63, 0, 0), none, none, some (.ldc2_w 62, 3, 5, 0, 113), none, none, some (.goto 4, 3, 64, 0, 0), none, none, some (.lconst 0, 1, 0, 0, 0), some (.lstore_n 2, 1, 0, 0, 0), some (.aload_n 0, 1, 0, 0, 0), some (.getfield 11, 3, 7, 0, 39), none, none, some (.iload 4, 2, 0, 0, 0), none, some (.lload 5, 2, 0, 0, 0), none, some (.lconst 0, 1, 0, 0, 0), some (.lcmp, 1, 0, 0, 0), some (.ifCond .ge 12, 3, 87, 0, 0), none, none, some (.lload 5, 2, 0, 0, 0), none, some (.ldc2_w 30, 3, 0, 0, 42), none, none, some (.ladd, 1, 0, 0, 0), some (.goto 5, 3, 89, 0, 0), none, none, some (.lload 5, 2, 0, 0, 0), none, some (.l2i, 1, 0, 0, 0), some (.iastore, 1, 0, 0, 0), some (.iinc 4 1, 3, 0, 0, 0), none, none, some (.goto (-62), 3, 32, 0, 0), none, none, some (.aload_n 0, 1, 0, 0, 0), some (.iload_n 1, 1, 0, 0, 0), some (.invokevirtual 38, 3, 13, 802, 44), none, none, some (.return_, 1, 0, 0, 0)]
def k_Wh_fits : List (Option ax_E) := [some (.aload_n 0, 1, 0, 0, 0), some (.getfield 15, 3, 7, 1, 46), none, none, some (.iconst 2, 1, 0, 0, 0), some (.if_icmp .gt 7, 3, 12, 0, 0), none, none, some (.iconst 1, 1, 0, 0, 0), some (.goto 4, 3, 13, 0, 0), none, none, some (.iconst 0, 1, 0, 0, 0), some (.ireturn, 1, 0, 0, 0)]
def k_Wh_value : List (Option ax_E) := [some (.aload_n 0, 1, 0, 0, 0), some (.getfield 15, 3, 7, 1, 46), none, none, some (.ifCond .le 13, 3, 17, 0, 0), none, none, some (.aload_n 0, 1, 0, 0, 0), some (.getfield 11, 3, 7, 0, 39), none, none, some (.iconst 0, 1, 0, 0, 0), some (.iaload, 1, 0, 0, 0), some (.i2l, 1, 0, 0, 0), some (.goto 4, 3, 18, 0, 0), none, none, some (.lconst 0, 1, 0, 0, 0), some (.lstore_n 1, 1, 0, 0, 0), some (.aload_n 0, 1, 0, 0, 0), some (.getfield 15, 3, 7, 1, 46), none, none, some (.iconst 1, 1, 0, 0, 0), some (.if_icmp .le 17, 3, 41, 0, 0), none, none, some (.lload_n 1, 1, 0, 0, 0), some (.aload_n 0, 1, 0, 0, 0), some (.getfield 11, 3, 7, 0, 39), none, none, some (.iconst 1, 1, 0, 0, 0), some (.iaload, 1, 0, 0, 0), some (.i2l, 1, 0, 0, 0), some (.ldc2_w 30, 3, 0, 0, 42), none, none, some (.lmul, 1, 0, 0, 0), some (.ladd, 1, 0, 0, 0), some (.lstore_n 1, 1, 0, 0, 0), some (.aload_n 0, 1, 0, 0, 0), some (.getfield 19, 3, 7, 2, 45), none, none, some (.ifCond .eq 8, 3, 53, 0, 0), none, none, some (.lload_n 1, 1, 0, 0, 0), some (.lneg, 1, 0, 0, 0), some (.goto 4, 3, 54, 0, 0), none, none, some (.lload_n 1, 1, 0, 0, 0), some (.lreturn, 1, 0, 0, 0)]
def k_Ma_become : List (Option ax_E) := [some (.aload_n 0, 1, 0, 0, 0), some (.aload_n 1, 1, 0, 0, 0), some (.getfield 15, 3, 2, 1, 25), none, none, some (.putfield 15, 3, 2, 1, 25), none, none, some (.aload_n 0, 1, 0, 0, 0), some (.aload_n 1, 1, 0, 0, 0), some (.getfield 19, 3, 2, 2, 26), none, none, some (.putfield 19, 3, 2, 2, 26), none, none, some (.aload_n 1, 1, 0, 0, 0), some (.getfield 9, 3, 2, 0, 24), none, none, some (.iconst 0, 1, 0, 0, 0), some (.aload_n 0, 1, 0, 0, 0), some (.getfield 9, 3, 2, 0, 24), none, none, some (.iconst 0, 1, 0, 0, 0), some (.aload_n 0, 1, 0, 0, 0), some (.getfield 9, 3, 2, 0, 24), none, none, some (.arraylength, 1, 0, 0, 0), some (.invokestatic 28, 3, 1002, 0, 114), none, none, some (.return_, 1, 0, 0, 0)]
def k_La_multiply : List (Option ax_E) := [some (.aload 4, 2, 0, 0, 0), none, some (.iconst 0, 1, 0, 0, 0), some (.aload_n 0, 1, 0, 0, 0), some (.iload_n 1, 1, 0, 0, 0), some (.iload_n 2, 1, 0, 0, 0), some (.iload_n 3, 1, 0, 0, 0), some (.invokevirtual 29, 3, 43, 104, 115), none, none, some (.i2l, 1, 0, 0, 0), some (.lastore, 1, 0, 0, 0), some (.goto 7, 3, 19, 0, 0), none, none, some (.astore 5, 2, 0, 0, 0), none, some (.iconst 1, 1, 0, 0, 0), some (.ireturn, 1, 0, 0, 0), some (.iconst 0, 1, 0, 0, 0), some (.ireturn, 1, 0, 0, 0)]
def k_De_multiply : List (Option ax_E) := [some (.aload_n 0, 1, 0, 0, 0), some (.iload_n 1, 1, 0, 0, 0), some (.invokevirtual 63, 3, 21, 102, 80), none, none, some (.astore 4, 2, 0, 0, 0), none, some (.aload_n 0, 1, 0, 0, 0), some (.iload_n 2, 1, 0, 0, 0), some (.invokevirtual 63, 3, 21, 102, 80), none, none, some (.astore 5, 2, 0, 0, 0), none, some (.aload_n 0, 1, 0, 0, 0), some (.iload_n 3, 1, 0, 0, 0), some (.invokevirtual 63, 3, 21, 102, 80), none, none, some (.astore 6, 2, 0, 0, 0), none, some (.aload 5, 2, 0, 0, 0), none, some (.getfield 100, 3, 2, 2, 76), none, none, some (.aload 6, 2, 0, 0, 0), none, some (.getfield 96, 3, 2, 1, 75), none, none, some (.if_icmp .eq 6, 3, 37, 0, 0), none, none, some (.bipush (-2), 2, 0, 0, 0), none, some (.ireturn, 1, 0, 0, 0), some (.aload_n 0, 1, 0, 0, 0), some (.getfield 16, 3, 0, 1, 5), none, none, some (.aload 5, 2, 0, 0, 0), none, some (.getfield 96, 3, 2, 1, 75), none, none, some (.aload 6, 2, 0, 0, 0), none, some (.getfield 100, 3, 2, 2, 76), none, none, some (.invokevirtual 74, 3, 22, 303, 84), none, none, some (.iconst 0, 1, 0, 0, 0), some (.istore 7, 2, 0, 0, 0), none, some (.iload 7, 2, 0, 0, 0), none, some (.aload 5, 2, 0, 0, 0), none, some (.getfield 96, 3, 2, 1, 75), none, none, some (.if_icmp .ge 107, 3, 171, 0, 0), none, none, some (.iconst 0, 1, 0, 0, 0), some (.istore 8, 2, 0, 0, 0), none, some (.iload 8, 2, 0, 0, 0), none, some (.aload 6, 2, 0, 0, 0), none, some (.getfield 100, 3, 2, 2, 76), none, none, some (.if_icmp .ge 88, 3, 165, 0, 0), none, none, some (.aload_n 0, 1, 0, 0, 0), some (.getfield 53, 3, 0, 6, 20), none, none, some (.invokevirtual 103, 3, 6, 801, 101), none, none, some (.iconst 0, 1, 0, 0, 0), some (.istore 9, 2, 0, 0, 0), none, some (.iload 9, 2, 0, 0, 0), none, some (.aload 5, 2, 0, 0, 0), none, some (.getfield 100, 3, 2, 2, 76), none, none, some (.if_icmp .ge 31, 3, 128, 0, 0), none, none, some (.aload_n 0, 1, 0, 0, 0), some (.aload 5, 2, 0, 0, 0), none, some (.iload 7, 2, 0, 0, 0), none, some (.iload 9, 2, 0, 0, 0), none, some (.invokevirtual 92, 3, 31, 303, 99), none, none, some (.aload 6, 2, 0, 0, 0), none, some (.iload 9, 2, 0, 0, 0), none, some (.iload 8, 2, 0, 0, 0), none, some (.invokevirtual 92, 3, 31, 303, 99), none, none, some (.invokevirtual 106, 3, 34, 103, 102), none, none, some (.iinc 9 1, 3, 0, 0, 0), none, none, some (.goto (-35), 3, 90, 0, 0), none, none, some (.aload_n 0, 1, 0, 0, 0), some (.getfield 53, 3, 0, 6, 20), none, none, some (.invokevirtual 110, 3, 39, 801, 103), none, none, some (.ifCond .ne 6, 3, 141, 0, 0), none, none, some (.bipush (-3), 2, 0, 0, 0), none, some (.ireturn, 1, 0, 0, 0), some (.aload_n 0, 1, 0, 0, 0), some (.getfield 16, 3, 0, 1, 5), none, none, some (.iload 7, 2, 0, 0, 0), none, some (.iload 8, 2, 0, 0, 0), none, some (.aload_n 0, 1, 0, 0, 0), some (.getfield 53, 3, 0, 6, 20), none, none, some (.invokevirtual 114, 3, 40, 801, 104), none, none, some (.invokevirtual 88, 3, 28, 304, 94), none, none, some (.iinc 8 1, 3, 0, 0, 0), none, none, some (.goto (-92), 3, 70, 0, 0), none, none, some (.iinc 7 1, 3, 0, 0, 0), none, none, some (.goto (-111), 3, 57, 0, 0), none, none, some (.aload 4, 2, 0, 0, 0), none, some (.aload_n 0, 1, 0, 0, 0), some (.getfield 16, 3, 0, 1, 5), none, none, some (.invokevirtual 118, 3, 41, 302, 105), none, none, some (.iconst 0, 1, 0, 0, 0), some (.ireturn, 1, 0, 0, 0)]
def k_La_turn : List (Option ax_E) := [some (.aload_n 0, 1, 0, 0, 0), some (.iload_n 1, 1, 0, 0, 0), some (.iload_n 2, 1, 0, 0, 0), some (.invokevirtual 33, 3, 45, 103, 116), none, none, some (.goto 6, 3, 12, 0, 0), none, none, some (.astore_n 3, 1, 0, 0, 0), some (.iconst 1, 1, 0, 0, 0), some (.ireturn, 1, 0, 0, 0), some (.iconst 0, 1, 0, 0, 0), some (.ireturn, 1, 0, 0, 0)]
def k_De_turn : List (Option ax_E) := [some (.aload_n 0, 1, 0, 0, 0), some (.iload_n 1, 1, 0, 0, 0), some (.invokevirtual 63, 3, 21, 102, 80), none, none, some (.astore_n 3, 1, 0, 0, 0), some (.aload_n 0, 1, 0, 0, 0), some (.iload_n 2, 1, 0, 0, 0), some (.invokevirtual 63, 3, 21, 102, 80), none, none, some (.astore 4, 2, 0, 0, 0), none, some (.aload_n 0, 1, 0, 0, 0), some (.getfield 16, 3, 0, 1, 5), none, none, some (.aload 4, 2, 0, 0, 0), none, some (.getfield 100, 3, 2, 2, 76), none, none, some (.aload 4, 2, 0, 0, 0), none, some (.getfield 96, 3, 2, 1, 75), none, none, some (.invokevirtual 74, 3, 22, 303, 84), none, none, some (.iconst 0, 1, 0, 0, 0), some (.istore 5, 2, 0, 0, 0), none, some (.iload 5, 2, 0, 0, 0), none, some (.aload 4, 2, 0, 0, 0), none, some (.getfield 96, 3, 2, 1, 75), none, none, some (.if_icmp .ge 48, 3, 88, 0, 0), none, none, some (.iconst 0, 1, 0, 0, 0), some (.istore 6, 2, 0, 0, 0), none, some (.iload 6, 2, 0, 0, 0), none, some (.aload 4, 2, 0, 0, 0), none, some (.getfield 100, 3, 2, 2, 76), none, none, some (.if_icmp .ge 29, 3, 82, 0, 0), none, none, some (.aload_n 0, 1, 0, 0, 0), some (.getfield 16, 3, 0, 1, 5), none, none, some (.iload 6, 2, 0, 0, 0), none, some (.iload 5, 2, 0, 0, 0), none, some (.aload 4, 2, 0, 0, 0), none, some (.iload 5, 2, 0, 0, 0), none, some (.iload 6, 2, 0, 0, 0), none, some (.invokevirtual 92, 3, 31, 303, 99), none, none, some (.invokevirtual 88, 3, 28, 304, 94), none, none, some (.iinc 6 1, 3, 0, 0, 0), none, none, some (.goto (-33), 3, 46, 0, 0), none, none, some (.iinc 5 1, 3, 0, 0, 0), none, none, some (.goto (-52), 3, 33, 0, 0), none, none, some (.aload_n 3, 1, 0, 0, 0), some (.aload_n 0, 1, 0, 0, 0), some (.getfield 16, 3, 0, 1, 5), none, none, some (.invokevirtual 118, 3, 41, 302, 105), none, none, some (.return_, 1, 0, 0, 0)]
def k_La_rank : List (Option ax_E) := [some (.aload_n 2, 1, 0, 0, 0), some (.iconst 0, 1, 0, 0, 0), some (.aload_n 0, 1, 0, 0, 0), some (.iload_n 1, 1, 0, 0, 0), some (.invokevirtual 37, 3, 47, 102, 117), none, none, some (.i2l, 1, 0, 0, 0), some (.lastore, 1, 0, 0, 0), some (.goto 6, 3, 15, 0, 0), none, none, some (.astore_n 3, 1, 0, 0, 0), some (.iconst 1, 1, 0, 0, 0), some (.ireturn, 1, 0, 0, 0), some (.iconst 0, 1, 0, 0, 0), some (.ireturn, 1, 0, 0, 0)]
def k_De_rank : List (Option ax_E) := [some (.aload_n 0, 1, 0, 0, 0), some (.getfield 39, 3, 0, 4, 14), none, none, some (.aload_n 0, 1, 0, 0, 0), some (.iload_n 1, 1, 0, 0, 0), some (.invokevirtual 63, 3, 21, 102, 80), none, none, some (.invokevirtual 122, 3, 48, 402, 118), none, none, some (.aload_n 0, 1, 0, 0, 0), some (.getfield 39, 3, 0, 4, 14), none, none, some (.invokevirtual 125, 3, 49, 401, 119), none, none, some (.ireturn, 1, 0, 0, 0)]
def k_Mi_read : List (Option ax_E) := [some (.aload_n 0, 1, 0, 0, 0), some (.aload_n 1, 1, 0, 0, 0), some (.getfield 29, 3, 2, 1, 120), none, none, some (.putfield 35, 3, 3, 3, 121), none, none, some (.aload_n 0, 1, 0, 0, 0), some (.aload_n 1, 1, 0, 0, 0), some (.getfield 36, 3, 2, 2, 122), none, none, some (.putfield 39, 3, 3, 4, 123), none, none, some (.iconst 0, 1, 0, 0, 0), some (.istore_n 2, 1, 0, 0, 0), some (.iload_n 2, 1, 0, 0, 0), some (.aload_n 0, 1, 0, 0, 0), some (.getfield 35, 3, 3, 3, 121), none, none, some (.if_icmp .ge 45, 3, 68, 0, 0), none, none, some (.iconst 0, 1, 0, 0, 0), some (.istore_n 3, 1, 0, 0, 0), some (.iload_n 3, 1, 0, 0, 0), some (.aload_n 0, 1, 0, 0, 0), some (.getfield 39, 3, 3, 4, 123), none, none, some (.if_icmp .ge 29, 3, 62, 0, 0), none, none, some (.aload_n 0, 1, 0, 0, 0), some (.getfield 17, 3, 3, 1, 55), none, none, some (.iload_n 2, 1, 0, 0, 0), some (.bipush 6, 2, 0, 0, 0), none, some (.imul, 1, 0, 0, 0), some (.iload_n 3, 1, 0, 0, 0), some (.iadd, 1, 0, 0, 0), some (.aaload, 1, 0, 0, 0), some (.aload_n 1, 1, 0, 0, 0), some (.iload_n 2, 1, 0, 0, 0), some (.iload_n 3, 1, 0, 0, 0), some (.invokevirtual 40, 3, 31, 303, 124), none, none, some (.invokevirtual 25, 3, 5, 802, 59), none, none, some (.iinc 3 1, 3, 0, 0, 0), none, none, some (.goto (-31), 3, 28, 0, 0), none, none, some (.iinc 2 1, 3, 0, 0, 0), none, none, some (.goto (-47), 3, 18, 0, 0), none, none, some (.return_, 1, 0, 0, 0)]
def k_Mi_independentRows : List (Option ax_E) := [some (.aload_n 0, 1, 0, 0, 0), some (.getfield 39, 3, 3, 4, 123), none, none, some (.invokestatic 56, 3, 50, 1, 125), none, none, some (.istore_n 1, 1, 0, 0, 0), some (.iconst 0, 1, 0, 0, 0), some (.istore_n 2, 1, 0, 0, 0), some (.iconst 0, 1, 0, 0, 0), some (.istore_n 3, 1, 0, 0, 0), some (.iload_n 3, 1, 0, 0, 0), some (.aload_n 0, 1, 0, 0, 0), some (.getfield 35, 3, 3, 3, 121), none, none, some (.if_icmp .ge 39, 3, 56, 0, 0), none, none, some (.iload_n 2, 1, 0, 0, 0), some (.aload_n 0, 1, 0, 0, 0), some (.getfield 39, 3, 3, 4, 123), none, none, some (.if_icmp .ge 31, 3, 56, 0, 0), none, none, some (.aload_n 0, 1, 0, 0, 0), some (.iload_n 3, 1, 0, 0, 0), some (.iload_n 2, 1, 0, 0, 0), some (.iconst 1, 1, 0, 0, 0), some (.iadd, 1, 0, 0, 0), some (.iload_n 1, 1, 0, 0, 0), some (.invokevirtual 60, 3, 51, 404, 126), none, none, some (.aload_n 0, 1, 0, 0, 0), some (.iload_n 2, 1, 0, 0, 0), some (.iconst 1, 1, 0, 0, 0), some (.iadd, 1, 0, 0, 0), some (.invokevirtual 64, 3, 53, 402, 127), none, none, some (.ifCond .eq 6, 3, 50, 0, 0), none, none, some (.iinc 2 1, 3, 0, 0, 0), none, none, some (.iinc 3 1, 3, 0, 0, 0), none, none, some (.goto (-41), 3, 12, 0, 0), none, none, some (.iload_n 2, 1, 0, 0, 0), some (.ireturn, 1, 0, 0, 0)]
def k_De_all : List (Option ax_E) := [some (.iconst 1, 1, 0, 0, 0), some (.iload_n 0, 1, 0, 0, 0), some (.ishl, 1, 0, 0, 0), some (.iconst 1, 1, 0, 0, 0), some (.isub, 1, 0, 0, 0), some (.ireturn, 1, 0, 0, 0)]
def k_Mi_takeRow : List (Option ax_E) := [some (.iconst 1, 1, 0, 0, 0), some (.istore 4, 2, 0, 0, 0), none, some (.iload 4, 2, 0, 0, 0), none, some (.iload_n 3, 1, 0, 0, 0), some (.if_icmp .gt 125, 3, 131, 0, 0), none, none, some (.iload 4, 2, 0, 0, 0), none, some (.iload_n 3, 1, 0, 0, 0), some (.iconst (-1), 1, 0, 0, 0), some (.ixor, 1, 0, 0, 0), some (.iand, 1, 0, 0, 0), some (.ifCond .ne 110, 3, 125, 0, 0), none, none, some (.iload 4, 2, 0, 0, 0), none, some (.invokestatic 68, 3, 52, 1, 128), none, none, some (.iload_n 2, 1, 0, 0, 0), some (.if_icmp .eq 6, 3, 30, 0, 0), none, none, some (.goto 98, 3, 125, 0, 0), none, none, some (.aload_n 0, 1, 0, 0, 0), some (.getfield 22, 3, 3, 2, 58), none, none, some (.iload 4, 2, 0, 0, 0), none, some (.aaload, 1, 0, 0, 0), some (.invokevirtual 86, 3, 6, 801, 129), none, none, some (.iload_n 2, 1, 0, 0, 0), some (.iconst 2, 1, 0, 0, 0), some (.irem, 1, 0, 0, 0), some (.iconst 1, 1, 0, 0, 0), some (.if_icmp .ne 7, 3, 51, 0, 0), none, none, some (.iconst 1, 1, 0, 0, 0), some (.goto 4, 3, 52, 0, 0), none, none, some (.iconst (-1), 1, 0, 0, 0), some (.istore 5, 2, 0, 0, 0), none, some (.iconst 0, 1, 0, 0, 0), some (.istore 6, 2, 0, 0, 0), none, some (.iload 6, 2, 0, 0, 0), none, some (.aload_n 0, 1, 0, 0, 0), some (.getfield 39, 3, 3, 4, 123), none, none, some (.if_icmp .ge 62, 3, 125, 0, 0), none, none, some (.iconst 1, 1, 0, 0, 0), some (.iload 6, 2, 0, 0, 0), none, some (.ishl, 1, 0, 0, 0), some (.istore 7, 2, 0, 0, 0), none, some (.iload 4, 2, 0, 0, 0), none, some (.iload 7, 2, 0, 0, 0), none, some (.iand, 1, 0, 0, 0), some (.ifCond .eq 42, 3, 119, 0, 0), none, none, some (.aload_n 0, 1, 0, 0, 0), some (.getfield 22, 3, 3, 2, 58), none, none, some (.iload 4, 2, 0, 0, 0), none, some (.aaload, 1, 0, 0, 0), some (.aload_n 0, 1, 0, 0, 0), some (.getfield 17, 3, 3, 1, 55), none, none, some (.iload_n 1, 1, 0, 0, 0), some (.bipush 6, 2, 0, 0, 0), none, some (.imul, 1, 0, 0, 0), some (.iload 6, 2, 0, 0, 0), none, some (.iadd, 1, 0, 0, 0), some (.aaload, 1, 0, 0, 0), some (.aload_n 0, 1, 0, 0, 0), some (.getfield 22, 3, 3, 2, 58), none, none, some (.iload 4, 2, 0, 0, 0), none, some (.iload 7, 2, 0, 0, 0), none, some (.ixor, 1, 0, 0, 0), some (.aaload, 1, 0, 0, 0), some (.iload 5, 2, 0, 0, 0), none, some (.invokevirtual 89, 3, 35, 804, 130), none, none, some (.iload 5, 2, 0, 0, 0), none, some (.ineg, 1, 0, 0, 0), some (.istore 5, 2, 0, 0, 0), none, some (.iinc 6 1, 3, 0, 0, 0), none, none, some (.goto (-65), 3, 57, 0, 0), none, none, some (.iinc 4 1, 3, 0, 0, 0), none, none, some (.goto (-125), 3, 3, 0, 0), none, none, some (.return_, 1, 0, 0, 0)]
def k_In_bitCount : List (Option ax_E) := [some (.iload_n 0, 1, 0, 0, 0), some (.iload_n 0, 1, 0, 0, 0), some (.iconst 1, 1, 0, 0, 0), some (.iushr, 1, 0, 0, 0), some (.ldc_w 265, 3, 0, 0, 131), none, none, some (.iand, 1, 0, 0, 0), some (.isub, 1, 0, 0, 0), some (.istore_n 0, 1, 0, 0, 0), some (.iload_n 0, 1, 0, 0, 0), some (.ldc_w 266, 3, 1, 0, 132), none, none, some (.iand, 1, 0, 0, 0), some (.iload_n 0, 1, 0, 0, 0), some (.iconst 2, 1, 0, 0, 0), some (.iushr, 1, 0, 0, 0), some (.ldc_w 266, 3, 1, 0, 132), none, none, some (.iand, 1, 0, 0, 0), some (.iadd, 1, 0, 0, 0), some (.istore_n 0, 1, 0, 0, 0), some (.iload_n 0, 1, 0, 0, 0), some (.iload_n 0, 1, 0, 0, 0), some (.iconst 4, 1, 0, 0, 0), some (.iushr, 1, 0, 0, 0), some (.iadd, 1, 0, 0, 0), some (.ldc_w 267, 3, 2, 0, 133), none, none, some (.iand, 1, 0, 0, 0), some (.istore_n 0, 1, 0, 0, 0), some (.iload_n 0, 1, 0, 0, 0), some (.iload_n 0, 1, 0, 0, 0), some (.bipush 8, 2, 0, 0, 0), none, some (.iushr, 1, 0, 0, 0), some (.iadd, 1, 0, 0, 0), some (.istore_n 0, 1, 0, 0, 0), some (.iload_n 0, 1, 0, 0, 0), some (.iload_n 0, 1, 0, 0, 0), some (.bipush 16, 2, 0, 0, 0), none, some (.iushr, 1, 0, 0, 0), some (.iadd, 1, 0, 0, 0), some (.istore_n 0, 1, 0, 0, 0), some (.iload_n 0, 1, 0, 0, 0), some (.bipush 63, 2, 0, 0, 0), none, some (.iand, 1, 0, 0, 0), some (.ireturn, 1, 0, 0, 0)]
def k_Mi_hasMinor : List (Option ax_E) := [some (.iconst 1, 1, 0, 0, 0), some (.istore_n 2, 1, 0, 0, 0), some (.iload_n 2, 1, 0, 0, 0), some (.aload_n 0, 1, 0, 0, 0), some (.getfield 39, 3, 3, 4, 123), none, none, some (.invokestatic 56, 3, 50, 1, 125), none, none, some (.if_icmp .gt 31, 3, 41, 0, 0), none, none, some (.iload_n 2, 1, 0, 0, 0), some (.invokestatic 68, 3, 52, 1, 128), none, none, some (.iload_n 1, 1, 0, 0, 0), some (.if_icmp .ne 17, 3, 35, 0, 0), none, none, some (.aload_n 0, 1, 0, 0, 0), some (.getfield 22, 3, 3, 2, 58), none, none, some (.iload_n 2, 1, 0, 0, 0), some (.aaload, 1, 0, 0, 0), some (.invokevirtual 93, 3, 54, 801, 134), none, none, some (.ifCond .ne 5, 3, 35, 0, 0), none, none, some (.iconst 1, 1, 0, 0, 0), some (.ireturn, 1, 0, 0, 0), some (.iinc 2 1, 3, 0, 0, 0), none, none, some (.goto (-36), 3, 2, 0, 0), none, none, some (.iconst 0, 1, 0, 0, 0), some (.ireturn, 1, 0, 0, 0)]
def k_Wh_isZero : List (Option ax_E) := [some (.aload_n 0, 1, 0, 0, 0), some (.getfield 15, 3, 7, 1, 46), none, none, some (.ifCond .ne 7, 3, 11, 0, 0), none, none, some (.iconst 1, 1, 0, 0, 0), some (.goto 4, 3, 12, 0, 0), none, none, some (.iconst 0, 1, 0, 0, 0), some (.ireturn, 1, 0, 0, 0)]
def k_La_hermite : List (Option ax_E) := [some (.aload_n 3, 1, 0, 0, 0), some (.iconst 0, 1, 0, 0, 0), some (.aload_n 0, 1, 0, 0, 0), some (.iload_n 1, 1, 0, 0, 0), some (.iload_n 2, 1, 0, 0, 0), some (.invokevirtual 41, 3, 56, 103, 135), none, none, some (.i2l, 1, 0, 0, 0), some (.lastore, 1, 0, 0, 0), some (.goto 7, 3, 17, 0, 0), none, none, some (.astore 4, 2, 0, 0, 0), none, some (.iconst 1, 1, 0, 0, 0), some (.ireturn, 1, 0, 0, 0), some (.iconst 0, 1, 0, 0, 0), some (.ireturn, 1, 0, 0, 0)]
def k_De_hermite : List (Option ax_E) := [some (.aload_n 0, 1, 0, 0, 0), some (.iload_n 1, 1, 0, 0, 0), some (.invokevirtual 63, 3, 21, 102, 80), none, none, some (.astore_n 3, 1, 0, 0, 0), some (.aload_n 0, 1, 0, 0, 0), some (.iload_n 2, 1, 0, 0, 0), some (.invokevirtual 63, 3, 21, 102, 80), none, none, some (.astore 4, 2, 0, 0, 0), none, some (.aload_n 0, 1, 0, 0, 0), some (.getfield 46, 3, 0, 5, 17), none, none, some (.aload 4, 2, 0, 0, 0), none, some (.iconst 0, 1, 0, 0, 0), some (.invokevirtual 129, 3, 57, 703, 136), none, none, some (.aload_n 0, 1, 0, 0, 0), some (.getfield 16, 3, 0, 1, 5), none, none, some (.aload 4, 2, 0, 0, 0), none, some (.getfield 96, 3, 2, 1, 75), none, none, some (.aload 4, 2, 0, 0, 0), none, some (.getfield 100, 3, 2, 2, 76), none, none, some (.invokevirtual 74, 3, 22, 303, 84), none, none, some (.aload_n 0, 1, 0, 0, 0), some (.iconst 0, 1, 0, 0, 0), some (.iconst 0, 1, 0, 0, 0), some (.invokevirtual 133, 3, 75, 103, 137), none, none, some (.ifCond .ne 6, 3, 52, 0, 0), none, none, some (.bipush (-3), 2, 0, 0, 0), none, some (.ireturn, 1, 0, 0, 0), some (.aload_n 0, 1, 0, 0, 0), some (.getfield 46, 3, 0, 5, 17), none, none, some (.aload 4, 2, 0, 0, 0), none, some (.getfield 100, 3, 2, 2, 76), none, none, some (.invokevirtual 137, 3, 77, 702, 138), none, none, some (.istore 5, 2, 0, 0, 0), none, some (.aload_n 3, 1, 0, 0, 0), some (.aload_n 0, 1, 0, 0, 0), some (.getfield 16, 3, 0, 1, 5), none, none, some (.invokevirtual 118, 3, 41, 302, 105), none, none, some (.iload 5, 2, 0, 0, 0), none, some (.ireturn, 1, 0, 0, 0)]
def k_St_climb : List (Option ax_E) := [some (.iload_n 2, 1, 0, 0, 0), some (.ifCond .eq 10, 3, 11, 0, 0), none, none, some (.aload_n 1, 1, 0, 0, 0), some (.getfield 33, 3, 2, 2, 139), none, none, some (.goto 7, 3, 15, 0, 0), none, none, some (.aload_n 1, 1, 0, 0, 0), some (.getfield 39, 3, 2, 1, 140), none, none, some (.istore_n 3, 1, 0, 0, 0), some (.aload_n 0, 1, 0, 0, 0), some (.aload_n 1, 1, 0, 0, 0), some (.getfield 39, 3, 2, 1, 140), none, none, some (.aload_n 1, 1, 0, 0, 0), some (.getfield 33, 3, 2, 2, 139), none, none, some (.iadd, 1, 0, 0, 0), some (.putfield 41, 3, 6, 5, 141), none, none, some (.aload_n 0, 1, 0, 0, 0), some (.iconst 0, 1, 0, 0, 0), some (.putfield 44, 3, 6, 4, 142), none, none, some (.iconst 0, 1, 0, 0, 0), some (.istore 4, 2, 0, 0, 0), none, some (.iload 4, 2, 0, 0, 0), none, some (.iload_n 3, 1, 0, 0, 0), some (.if_icmp .ge 148, 3, 188, 0, 0), none, none, some (.aload_n 0, 1, 0, 0, 0), some (.aload_n 0, 1, 0, 0, 0), some (.getfield 24, 3, 6, 2, 66), none, none, some (.aload_n 0, 1, 0, 0, 0), some (.getfield 44, 3, 6, 4, 142), none, none, some (.aaload, 1, 0, 0, 0), some (.aload_n 1, 1, 0, 0, 0), some (.iload 4, 2, 0, 0, 0), none, some (.iload_n 2, 1, 0, 0, 0), some (.invokevirtual 47, 3, 58, 705, 143), none, none, some (.iconst 0, 1, 0, 0, 0), some (.istore 5, 2, 0, 0, 0), none, some (.iload 5, 2, 0, 0, 0), none, some (.aload_n 0, 1, 0, 0, 0), some (.getfield 44, 3, 6, 4, 142), none, none, some (.if_icmp .ge 73, 3, 142, 0, 0), none, none, some (.aload_n 0, 1, 0, 0, 0), some (.getfield 29, 3, 6, 3, 69), none, none, some (.iload 5, 2, 0, 0, 0), none, some (.iaload, 1, 0, 0, 0), some (.aload_n 0, 1, 0, 0, 0), some (.getfield 24, 3, 6, 2, 66), none, none, some (.aload_n 0, 1, 0, 0, 0), some (.getfield 44, 3, 6, 4, 142), none, none, some (.aaload, 1, 0, 0, 0), some (.aload_n 0, 1, 0, 0, 0), some (.getfield 41, 3, 6, 5, 141), none, none, some (.invokevirtual 51, 3, 60, 602, 144), none, none, some (.if_icmp .gt 47, 3, 142, 0, 0), none, none, some (.aload_n 0, 1, 0, 0, 0), some (.iload 5, 2, 0, 0, 0), none, some (.invokevirtual 55, 3, 61, 702, 145), none, none, some (.aload_n 0, 1, 0, 0, 0), some (.aload_n 0, 1, 0, 0, 0), some (.getfield 24, 3, 6, 2, 66), none, none, some (.iload 5, 2, 0, 0, 0), none, some (.aaload, 1, 0, 0, 0), some (.iload 5, 2, 0, 0, 0), none, some (.iconst 1, 1, 0, 0, 0), some (.iadd, 1, 0, 0, 0), some (.invokevirtual 59, 3, 72, 703, 146), none, none, some (.aload_n 0, 1, 0, 0, 0), some (.aload_n 0, 1, 0, 0, 0), some (.getfield 24, 3, 6, 2, 66), none, none, some (.aload_n 0, 1, 0, 0, 0), some (.getfield 44, 3, 6, 4, 142), none, none, some (.aaload, 1, 0, 0, 0), some (.iload 5, 2, 0, 0, 0), none, some (.iconst 1, 1, 0, 0, 0), some (.iadd, 1, 0, 0, 0), some (.invokevirtual 59, 3, 72, 703, 146), none, none, some (.iinc 5 1, 3, 0, 0, 0), none, none, some (.goto (-76), 3, 63, 0, 0), none, none, some (.aload_n 0, 1, 0, 0, 0), some (.iload 5, 2, 0, 0, 0), none, some (.invokevirtual 63, 3, 73, 702, 147), none, none, some (.aload_n 0, 1, 0, 0, 0), some (.getfield 44, 3, 6, 4, 142), none, none, some (.iconst 2, 1, 0, 0, 0), some (.isub, 1, 0, 0, 0), some (.istore 6, 2, 0, 0, 0), none, some (.iload 6, 2, 0, 0, 0), none, some (.ifCond .lt 24, 3, 182, 0, 0), none, none, some (.aload_n 0, 1, 0, 0, 0), some (.aload_n 0, 1, 0, 0, 0), some (.getfield 24, 3, 6, 2, 66), none, none, some (.iload 6, 2, 0, 0, 0), none, some (.aaload, 1, 0, 0, 0), some (.iload 6, 2, 0, 0, 0), none, some (.iconst 1, 1, 0, 0, 0), some (.iadd, 1, 0, 0, 0), some (.invokevirtual 59, 3, 72, 703, 146), none, none, some (.iinc 6 (-1), 3, 0, 0, 0), none, none, some (.goto (-23), 3, 156, 0, 0), none, none, some (.iinc 4 1, 3, 0, 0, 0), none, none, some (.goto (-148), 3, 37, 0, 0), none, none, some (.return_, 1, 0, 0, 0)]
def k_St_load : List (Option ax_E) := [some (.iload 4, 2, 0, 0, 0), none, some (.ifCond .eq 10, 3, 12, 0, 0), none, none, some (.aload_n 2, 1, 0, 0, 0), some (.getfield 39, 3, 2, 1, 140), none, none, some (.goto 7, 3, 16, 0, 0), none, none, some (.aload_n 2, 1, 0, 0, 0), some (.getfield 33, 3, 2, 2, 139), none, none, some (.istore 5, 2, 0, 0, 0), none, some (.aload_n 1, 1, 0, 0, 0), some (.invokevirtual 66, 3, 59, 601, 148), none, none, some (.iconst 0, 1, 0, 0, 0), some (.istore 6, 2, 0, 0, 0), none, some (.iload 6, 2, 0, 0, 0), none, some (.iload 5, 2, 0, 0, 0), none, some (.if_icmp .ge 41, 3, 70, 0, 0), none, none, some (.aload_n 1, 1, 0, 0, 0), some (.getfield 69, 3, 5, 0, 149), none, none, some (.iload 6, 2, 0, 0, 0), none, some (.aaload, 1, 0, 0, 0), some (.iload 4, 2, 0, 0, 0), none, some (.ifCond .eq 13, 3, 54, 0, 0), none, none, some (.aload_n 2, 1, 0, 0, 0), some (.iload 6, 2, 0, 0, 0), none, some (.iload_n 3, 1, 0, 0, 0), some (.invokevirtual 73, 3, 31, 303, 150), none, none, some (.goto 10, 3, 61, 0, 0), none, none, some (.aload_n 2, 1, 0, 0, 0), some (.iload_n 3, 1, 0, 0, 0), some (.iload 6, 2, 0, 0, 0), none, some (.invokevirtual 73, 3, 31, 303, 150), none, none, some (.invokevirtual 77, 3, 5, 802, 151), none, none, some (.iinc 6 1, 3, 0, 0, 0), none, none, some (.goto (-42), 3, 25, 0, 0), none, none, some (.aload_n 1, 1, 0, 0, 0), some (.getfield 69, 3, 5, 0, 149), none, none, some (.iload 5, 2, 0, 0, 0), none, some (.iload_n 3, 1, 0, 0, 0), some (.iadd, 1, 0, 0, 0), some (.aaload, 1, 0, 0, 0), some (.lconst 1, 1, 0, 0, 0), some (.invokevirtual 77, 3, 5, 802, 151), none, none, some (.return_, 1, 0, 0, 0)]
def k_Ro_clear : List (Option ax_E) := [some (.iconst 0, 1, 0, 0, 0), some (.istore_n 1, 1, 0, 0, 0), some (.iload_n 1, 1, 0, 0, 0), some (.aload_n 0, 1, 0, 0, 0), some (.getfield 11, 3, 5, 0, 72), none, none, some (.arraylength, 1, 0, 0, 0), some (.if_icmp .ge 18, 3, 26, 0, 0), none, none, some (.aload_n 0, 1, 0, 0, 0), some (.getfield 11, 3, 5, 0, 72), none, none, some (.iload_n 1, 1, 0, 0, 0), some (.aaload, 1, 0, 0, 0), some (.invokevirtual 18, 3, 6, 801, 152), none, none, some (.iinc 1 1, 3, 0, 0, 0), none, none, some (.goto (-21), 3, 2, 0, 0), none, none, some (.return_, 1, 0, 0, 0)]
def k_Ro_lead : List (Option ax_E) := [some (.iconst 0, 1, 0, 0, 0), some (.istore_n 2, 1, 0, 0, 0), some (.iload_n 2, 1, 0, 0, 0), some (.iload_n 1, 1, 0, 0, 0), some (.if_icmp .ge 21, 3, 25, 0, 0), none, none, some (.aload_n 0, 1, 0, 0, 0), some (.getfield 11, 3, 5, 0, 72), none, none, some (.iload_n 2, 1, 0, 0, 0), some (.aaload, 1, 0, 0, 0), some (.invokevirtual 24, 3, 54, 801, 153), none, none, some (.ifCond .eq 9, 3, 25, 0, 0), none, none, some (.iinc 2 1, 3, 0, 0, 0), none, none, some (.goto (-20), 3, 2, 0, 0), none, none, some (.iload_n 2, 1, 0, 0, 0), some (.ireturn, 1, 0, 0, 0)]
def k_St_meet : List (Option ax_E) := [some (.aload_n 0, 1, 0, 0, 0), some (.getfield 29, 3, 6, 3, 69), none, none, some (.iload_n 1, 1, 0, 0, 0), some (.iaload, 1, 0, 0, 0), some (.istore_n 2, 1, 0, 0, 0), some (.aload_n 0, 1, 0, 0, 0), some (.aload_n 0, 1, 0, 0, 0), some (.getfield 24, 3, 6, 2, 66), none, none, some (.aload_n 0, 1, 0, 0, 0), some (.getfield 44, 3, 6, 4, 142), none, none, some (.aaload, 1, 0, 0, 0), some (.aload_n 0, 1, 0, 0, 0), some (.getfield 24, 3, 6, 2, 66), none, none, some (.iload_n 1, 1, 0, 0, 0), some (.aaload, 1, 0, 0, 0), some (.iload_n 2, 1, 0, 0, 0), some (.invokevirtual 81, 3, 62, 704, 154), none, none, some (.iconst 0, 1, 0, 0, 0), some (.istore_n 3, 1, 0, 0, 0), some (.iload_n 3, 1, 0, 0, 0), some (.ldc 100, 2, 3, 0, 155), none, some (.if_icmp .ge 83, 3, 115, 0, 0), none, none, some (.aload_n 0, 1, 0, 0, 0), some (.getfield 24, 3, 6, 2, 66), none, none, some (.aload_n 0, 1, 0, 0, 0), some (.getfield 44, 3, 6, 4, 142), none, none, some (.aaload, 1, 0, 0, 0), some (.getfield 69, 3, 5, 0, 149), none, none, some (.iload_n 2, 1, 0, 0, 0), some (.aaload, 1, 0, 0, 0), some (.invokevirtual 101, 3, 54, 801, 156), none, none, some (.ifCond .ne 63, 3, 115, 0, 0), none, none, some (.aload_n 0, 1, 0, 0, 0), some (.getfield 24, 3, 6, 2, 66), none, none, some (.aload_n 0, 1, 0, 0, 0), some (.getfield 44, 3, 6, 4, 142), none, none, some (.aaload, 1, 0, 0, 0), some (.astore 4, 2, 0, 0, 0), none, some (.aload_n 0, 1, 0, 0, 0), some (.getfield 24, 3, 6, 2, 66), none, none, some (.aload_n 0, 1, 0, 0, 0), some (.getfield 44, 3, 6, 4, 142), none, none, some (.aload_n 0, 1, 0, 0, 0), some (.getfield 24, 3, 6, 2, 66), none, none, some (.iload_n 1, 1, 0, 0, 0), some (.aaload, 1, 0, 0, 0), some (.aastore, 1, 0, 0, 0), some (.aload_n 0, 1, 0, 0, 0), some (.getfield 24, 3, 6, 2, 66), none, none, some (.iload_n 1, 1, 0, 0, 0), some (.aload 4, 2, 0, 0, 0), none, some (.aastore, 1, 0, 0, 0), some (.aload_n 0, 1, 0, 0, 0), some (.aload_n 0, 1, 0, 0, 0), some (.getfield 24, 3, 6, 2, 66), none, none, some (.aload_n 0, 1, 0, 0, 0), some (.getfield 44, 3, 6, 4, 142), none, none, some (.aaload, 1, 0, 0, 0), some (.aload_n 0, 1, 0, 0, 0), some (.getfield 24, 3, 6, 2, 66), none, none, some (.iload_n 1, 1, 0, 0, 0), some (.aaload, 1, 0, 0, 0), some (.iload_n 2, 1, 0, 0, 0), some (.invokevirtual 81, 3, 62, 704, 154), none, none, some (.iinc 3 1, 3, 0, 0, 0), none, none, some (.goto (-83), 3, 29, 0, 0), none, none, some (.return_, 1, 0, 0, 0)]
def k_St_lower : List (Option ax_E) := [some (.aload_n 0, 1, 0, 0, 0), some (.getfield 9, 3, 6, 0, 61), none, none, some (.aload_n 1, 1, 0, 0, 0), some (.getfield 69, 3, 5, 0, 149), none, none, some (.iload_n 3, 1, 0, 0, 0), some (.aaload, 1, 0, 0, 0), some (.aload_n 2, 1, 0, 0, 0), some (.getfield 69, 3, 5, 0, 149), none, none, some (.iload_n 3, 1, 0, 0, 0), some (.aaload, 1, 0, 0, 0), some (.aload_n 0, 1, 0, 0, 0), some (.getfield 18, 3, 6, 1, 64), none, none, some (.invokevirtual 108, 3, 63, 204, 157), none, none, some (.aload_n 0, 1, 0, 0, 0), some (.getfield 18, 3, 6, 1, 64), none, none, some (.invokevirtual 101, 3, 54, 801, 156), none, none, some (.ifCond .ne 45, 3, 75, 0, 0), none, none, some (.iload_n 3, 1, 0, 0, 0), some (.iconst 1, 1, 0, 0, 0), some (.iadd, 1, 0, 0, 0), some (.istore 4, 2, 0, 0, 0), none, some (.iload 4, 2, 0, 0, 0), none, some (.aload_n 0, 1, 0, 0, 0), some (.getfield 41, 3, 6, 5, 141), none, none, some (.if_icmp .ge 31, 3, 75, 0, 0), none, none, some (.aload_n 1, 1, 0, 0, 0), some (.getfield 69, 3, 5, 0, 149), none, none, some (.iload 4, 2, 0, 0, 0), none, some (.aaload, 1, 0, 0, 0), some (.aload_n 0, 1, 0, 0, 0), some (.getfield 18, 3, 6, 1, 64), none, none, some (.aload_n 2, 1, 0, 0, 0), some (.getfield 69, 3, 5, 0, 149), none, none, some (.iload 4, 2, 0, 0, 0), none, some (.aaload, 1, 0, 0, 0), some (.iconst (-1), 1, 0, 0, 0), some (.invokevirtual 114, 3, 35, 804, 158), none, none, some (.iinc 4 1, 3, 0, 0, 0), none, none, some (.goto (-34), 3, 38, 0, 0), none, none, some (.return_, 1, 0, 0, 0)]
def k_Di_divide : List (Option ax_E) := [some (.aload_n 3, 1, 0, 0, 0), some (.invokevirtual 34, 3, 6, 801, 159), none, none, some (.aload_n 2, 1, 0, 0, 0), some (.invokevirtual 37, 3, 54, 801, 160), none, none, some (.ifCond .eq 4, 3, 12, 0, 0), none, none, some (.return_, 1, 0, 0, 0), some (.aload_n 1, 1, 0, 0, 0), some (.getfield 41, 3, 7, 2, 161), none, none, some (.istore 4, 2, 0, 0, 0), none, some (.aload_n 1, 1, 0, 0, 0), some (.iconst 0, 1, 0, 0, 0), some (.putfield 41, 3, 7, 2, 161), none, none, some (.aload_n 2, 1, 0, 0, 0), some (.getfield 45, 3, 7, 1, 162), none, none, some (.iconst 1, 1, 0, 0, 0), some (.if_icmp .ne 26, 3, 54, 0, 0), none, none, some (.aload_n 3, 1, 0, 0, 0), some (.aload_n 1, 1, 0, 0, 0), some (.invokevirtual 49, 3, 64, 802, 163), none, none, some (.aload_n 1, 1, 0, 0, 0), some (.aload_n 3, 1, 0, 0, 0), some (.aload_n 2, 1, 0, 0, 0), some (.getfield 52, 3, 7, 0, 164), none, none, some (.iconst 0, 1, 0, 0, 0), some (.iaload, 1, 0, 0, 0), some (.i2l, 1, 0, 0, 0), some (.invokevirtual 56, 3, 65, 802, 165), none, none, some (.invokevirtual 30, 3, 5, 802, 37), none, none, some (.goto 18, 3, 69, 0, 0), none, none, some (.aload_n 1, 1, 0, 0, 0), some (.aload_n 2, 1, 0, 0, 0), some (.invokevirtual 60, 3, 66, 802, 166), none, none, some (.ifCond .ne 10, 3, 69, 0, 0), none, none, some (.aload_n 0, 1, 0, 0, 0), some (.aload_n 1, 1, 0, 0, 0), some (.aload_n 2, 1, 0, 0, 0), some (.aload_n 3, 1, 0, 0, 0), some (.invokevirtual 64, 3, 67, 204, 167), none, none, some (.iload 4, 2, 0, 0, 0), none, some (.ifCond .eq 29, 3, 100, 0, 0), none, none, some (.aload_n 1, 1, 0, 0, 0), some (.invokevirtual 37, 3, 54, 801, 160), none, none, some (.ifCond .ne 22, 3, 100, 0, 0), none, none, some (.aload_n 1, 1, 0, 0, 0), some (.invokevirtual 68, 3, 70, 801, 168), none, none, some (.aload_n 1, 1, 0, 0, 0), some (.aload_n 2, 1, 0, 0, 0), some (.iconst 1, 1, 0, 0, 0), some (.invokevirtual 71, 3, 71, 803, 169), none, none, some (.aload_n 3, 1, 0, 0, 0), some (.aload_n 0, 1, 0, 0, 0), some (.getfield 27, 3, 1, 4, 36), none, none, some (.iconst 1, 1, 0, 0, 0), some (.invokevirtual 71, 3, 71, 803, 169), none, none, some (.iload 4, 2, 0, 0, 0), none, some (.ifCond .eq 7, 3, 109, 0, 0), none, none, some (.aload_n 3, 1, 0, 0, 0), some (.invokevirtual 68, 3, 70, 801, 168), none, none, some (.return_, 1, 0, 0, 0)]
def k_Wh_becomeW : List (Option ax_E) := [some (.aload_n 1, 1, 0, 0, 0), some (.getfield 15, 3, 7, 1, 46), none, none, some (.aload_n 0, 1, 0, 0, 0), some (.getfield 11, 3, 7, 0, 39), none, none, some (.arraylength, 1, 0, 0, 0), some (.if_icmp .le 16, 3, 25, 0, 0), none, none, some (.aload_n 0, 1, 0, 0, 0), some (.aload_n 1, 1, 0, 0, 0), some (.getfield 15, 3, 7, 1, 46), none, none, some (.bipush 32, 2, 0, 0, 0), none, some (.iadd, 1, 0, 0, 0), some (.newarray .int, 2, 0, 0, 0), none, some (.putfield 11, 3, 7, 0, 39), none, none, some (.aload_n 1, 1, 0, 0, 0), some (.getfield 11, 3, 7, 0, 39), none, none, some (.iconst 0, 1, 0, 0, 0), some (.aload_n 0, 1, 0, 0, 0), some (.getfield 11, 3, 7, 0, 39), none, none, some (.iconst 0, 1, 0, 0, 0), some (.aload_n 1, 1, 0, 0, 0), some (.getfield 15, 3, 7, 1, 46), none, none, some (.invokestatic 41, 3, 1002, 0, 170), none, none, some (.aload_n 0, 1, 0, 0, 0), some (.aload_n 1, 1, 0, 0, 0), some (.getfield 15, 3, 7, 1, 46), none, none, some (.putfield 15, 3, 7, 1, 46), none, none, some (.aload_n 0, 1, 0, 0, 0), some (.aload_n 1, 1, 0, 0, 0), some (.getfield 19, 3, 7, 2, 45), none, none, some (.putfield 19, 3, 7, 2, 45), none, none, some (.return_, 1, 0, 0, 0)]
def k_Wh_overDigit : List (Option ax_E) := [some (.lconst 0, 1, 0, 0, 0), some (.lstore_n 3, 1, 0, 0, 0), some (.aload_n 0, 1, 0, 0, 0), some (.getfield 15, 3, 7, 1, 46), none, none, some (.iconst 1, 1, 0, 0, 0), some (.isub, 1, 0, 0, 0), some (.istore 5, 2, 0, 0, 0), none, some (.iload 5, 2, 0, 0, 0), none, some (.ifCond .lt 39, 3, 51, 0, 0), none, none, some (.lload_n 3, 1, 0, 0, 0), some (.ldc2_w 30, 3, 0, 0, 42), none, none, some (.lmul, 1, 0, 0, 0), some (.aload_n 0, 1, 0, 0, 0), some (.getfield 11, 3, 7, 0, 39), none, none, some (.iload 5, 2, 0, 0, 0), none, some (.iaload, 1, 0, 0, 0), some (.i2l, 1, 0, 0, 0), some (.ladd, 1, 0, 0, 0), some (.lstore_n 3, 1, 0, 0, 0), some (.aload_n 0, 1, 0, 0, 0), some (.getfield 11, 3, 7, 0, 39), none, none, some (.iload 5, 2, 0, 0, 0), none, some (.lload_n 3, 1, 0, 0, 0), some (.lload_n 1, 1, 0, 0, 0), some (.ldiv, 1, 0, 0, 0), some (.l2i, 1, 0, 0, 0), some (.iastore, 1, 0, 0, 0), some (.lload_n 3, 1, 0, 0, 0), some (.lload_n 1, 1, 0, 0, 0), some (.lrem, 1, 0, 0, 0), some (.lstore_n 3, 1, 0, 0, 0), some (.iinc 5 (-1), 3, 0, 0, 0), none, none, some (.goto (-38), 3, 10, 0, 0), none, none, some (.aload_n 0, 1, 0, 0, 0), some (.aload_n 0, 1, 0, 0, 0), some (.getfield 15, 3, 7, 1, 46), none, none, some (.invokevirtual 38, 3, 13, 802, 44), none, none, some (.lload_n 3, 1, 0, 0, 0), some (.lreturn, 1, 0, 0, 0)]
def k_Wh_isSmallerThan : List (Option ax_E) := [some (.aload_n 0, 1, 0, 0, 0), some (.getfield 15, 3, 7, 1, 46), none, none, some (.aload_n 1, 1, 0, 0, 0), some (.getfield 15, 3, 7, 1, 46), none, none, some (.if_icmp .eq 20, 3, 28, 0, 0), none, none, some (.aload_n 0, 1, 0, 0, 0), some (.getfield 15, 3, 7, 1, 46), none, none, some (.aload_n 1, 1, 0, 0, 0), some (.getfield 15, 3, 7, 1, 46), none, none, some (.if_icmp .ge 7, 3, 26, 0, 0), none, none, some (.iconst 1, 1, 0, 0, 0), some (.goto 4, 3, 27, 0, 0), none, none, some (.iconst 0, 1, 0, 0, 0), some (.ireturn, 1, 0, 0, 0), some (.aload_n 0, 1, 0, 0, 0), some (.getfield 15, 3, 7, 1, 46), none, none, some (.iconst 1, 1, 0, 0, 0), some (.isub, 1, 0, 0, 0), some (.istore_n 2, 1, 0, 0, 0), some (.iload_n 2, 1, 0, 0, 0), some (.ifCond .lt 45, 3, 81, 0, 0), none, none, some (.aload_n 0, 1, 0, 0, 0), some (.getfield 11, 3, 7, 0, 39), none, none, some (.iload_n 2, 1, 0, 0, 0), some (.iaload, 1, 0, 0, 0), some (.aload_n 1, 1, 0, 0, 0), some (.getfield 11, 3, 7, 0, 39), none, none, some (.iload_n 2, 1, 0, 0, 0), some (.iaload, 1, 0, 0, 0), some (.if_icmp .eq 24, 3, 75, 0, 0), none, none, some (.aload_n 0, 1, 0, 0, 0), some (.getfield 11, 3, 7, 0, 39), none, none, some (.iload_n 2, 1, 0, 0, 0), some (.iaload, 1, 0, 0, 0), some (.aload_n 1, 1, 0, 0, 0), some (.getfield 11, 3, 7, 0, 39), none, none, some (.iload_n 2, 1, 0, 0, 0), some (.iaload, 1, 0, 0, 0), some (.if_icmp .ge 7, 3, 73, 0, 0), none, none, some (.iconst 1, 1, 0, 0, 0), some (.goto 4, 3, 74, 0, 0), none, none, some (.iconst 0, 1, 0, 0, 0), some (.ireturn, 1, 0, 0, 0), some (.iinc 2 (-1), 3, 0, 0, 0), none, none, some (.goto (-43), 3, 35, 0, 0), none, none, some (.iconst 0, 1, 0, 0, 0), some (.ireturn, 1, 0, 0, 0)]
def k_Di_divideLong : List (Option ax_E) := [some (.aload_n 2, 1, 0, 0, 0), some (.getfield 45, 3, 7, 1, 162), none, none, some (.istore 4, 2, 0, 0, 0), none, some (.ldc2_w 75, 3, 0, 0, 171), none, none, some (.aload_n 2, 1, 0, 0, 0), some (.getfield 52, 3, 7, 0, 164), none, none, some (.iload 4, 2, 0, 0, 0), none, some (.iconst 1, 1, 0, 0, 0), some (.isub, 1, 0, 0, 0), some (.iaload, 1, 0, 0, 0), some (.i2l, 1, 0, 0, 0), some (.lconst 1, 1, 0, 0, 0), some (.ladd, 1, 0, 0, 0), some (.ldiv, 1, 0, 0, 0), some (.lstore 5, 2, 0, 0, 0), none, some (.aload_n 0, 1, 0, 0, 0), some (.getfield 12, 3, 1, 0, 32), none, none, some (.aload_n 2, 1, 0, 0, 0), some (.invokevirtual 49, 3, 64, 802, 163), none, none, some (.aload_n 0, 1, 0, 0, 0), some (.getfield 12, 3, 1, 0, 32), none, none, some (.iload 4, 2, 0, 0, 0), none, some (.iconst 1, 1, 0, 0, 0), some (.iadd, 1, 0, 0, 0), some (.invokevirtual 77, 3, 7, 802, 172), none, none, some (.aload_n 0, 1, 0, 0, 0), some (.getfield 12, 3, 1, 0, 32), none, none, some (.lload 5, 2, 0, 0, 0), none, some (.invokevirtual 81, 3, 68, 802, 173), none, none, some (.aload_n 1, 1, 0, 0, 0), some (.aload_n 1, 1, 0, 0, 0), some (.getfield 45, 3, 7, 1, 162), none, none, some (.iconst 2, 1, 0, 0, 0), some (.iadd, 1, 0, 0, 0), some (.invokevirtual 77, 3, 7, 802, 172), none, none, some (.aload_n 1, 1, 0, 0, 0), some (.lload 5, 2, 0, 0, 0), none, some (.invokevirtual 81, 3, 68, 802, 173), none, none, some (.aload_n 1, 1, 0, 0, 0), some (.getfield 45, 3, 7, 1, 162), none, none, some (.iload 4, 2, 0, 0, 0), none, some (.isub, 1, 0, 0, 0), some (.istore 7, 2, 0, 0, 0), none, some (.aload_n 3, 1, 0, 0, 0), some (.iload 7, 2, 0, 0, 0), none, some (.iconst 1, 1, 0, 0, 0), some (.iadd, 1, 0, 0, 0), some (.invokevirtual 77, 3, 7, 802, 172), none, none, some (.iload 7, 2, 0, 0, 0), none, some (.istore 8, 2, 0, 0, 0), none, some (.iload 8, 2, 0, 0, 0), none, some (.ifCond .lt 88, 3, 179, 0, 0), none, none, some (.aload_n 0, 1, 0, 0, 0), some (.aload_n 1, 1, 0, 0, 0), some (.iload 8, 2, 0, 0, 0), none, some (.iload 4, 2, 0, 0, 0), none, some (.iadd, 1, 0, 0, 0), some (.invokevirtual 84, 3, 69, 203, 174), none, none, some (.lstore 9, 2, 0, 0, 0), none, some (.aload_n 1, 1, 0, 0, 0), some (.aload_n 0, 1, 0, 0, 0), some (.getfield 12, 3, 1, 0, 32), none, none, some (.lload 9, 2, 0, 0, 0), none, some (.lneg, 1, 0, 0, 0), some (.iload 8, 2, 0, 0, 0), none, some (.iload 8, 2, 0, 0, 0), none, some (.iload 4, 2, 0, 0, 0), none, some (.iadd, 1, 0, 0, 0), some (.iconst 1, 1, 0, 0, 0), some (.iadd, 1, 0, 0, 0), some (.invokevirtual 88, 3, 37, 805, 175), none, none, some (.aload_n 1, 1, 0, 0, 0), some (.getfield 52, 3, 7, 0, 164), none, none, some (.iload 8, 2, 0, 0, 0), none, some (.iload 4, 2, 0, 0, 0), none, some (.iadd, 1, 0, 0, 0), some (.iaload, 1, 0, 0, 0), some (.ifCond .ge 27, 3, 163, 0, 0), none, none, some (.aload_n 1, 1, 0, 0, 0), some (.aload_n 0, 1, 0, 0, 0), some (.getfield 12, 3, 1, 0, 32), none, none, some (.lconst 1, 1, 0, 0, 0), some (.iload 8, 2, 0, 0, 0), none, some (.iload 8, 2, 0, 0, 0), none, some (.iload 4, 2, 0, 0, 0), none, some (.iadd, 1, 0, 0, 0), some (.iconst 1, 1, 0, 0, 0), some (.iadd, 1, 0, 0, 0), some (.invokevirtual 88, 3, 37, 805, 175), none, none, some (.lload 9, 2, 0, 0, 0), none, some (.lconst 1, 1, 0, 0, 0), some (.lsub, 1, 0, 0, 0), some (.lstore 9, 2, 0, 0, 0), none, some (.aload_n 3, 1, 0, 0, 0), some (.getfield 52, 3, 7, 0, 164), none, none, some (.iload 8, 2, 0, 0, 0), none, some (.lload 9, 2, 0, 0, 0), none, some (.l2i, 1, 0, 0, 0), some (.iastore, 1, 0, 0, 0), some (.iinc 8 (-1), 3, 0, 0, 0), none, none, some (.goto (-87), 3, 89, 0, 0), none, none, some (.aload_n 3, 1, 0, 0, 0), some (.iload 7, 2, 0, 0, 0), none, some (.iconst 1, 1, 0, 0, 0), some (.iadd, 1, 0, 0, 0), some (.invokevirtual 92, 3, 13, 802, 176), none, none, some (.aload_n 1, 1, 0, 0, 0), some (.iload 4, 2, 0, 0, 0), none, some (.invokevirtual 92, 3, 13, 802, 176), none, none, some (.aload_n 1, 1, 0, 0, 0), some (.lload 5, 2, 0, 0, 0), none, some (.invokevirtual 56, 3, 65, 802, 165), none, none, some (.pop2, 1, 0, 0, 0), some (.return_, 1, 0, 0, 0)]
def k_Wh_timesDigit : List (Option ax_E) := [some (.lconst 0, 1, 0, 0, 0), some (.lstore_n 3, 1, 0, 0, 0), some (.iconst 0, 1, 0, 0, 0), some (.istore 5, 2, 0, 0, 0), none, some (.iload 5, 2, 0, 0, 0), none, some (.aload_n 0, 1, 0, 0, 0), some (.getfield 15, 3, 7, 1, 46), none, none, some (.if_icmp .gt 41, 3, 52, 0, 0), none, none, some (.lload_n 3, 1, 0, 0, 0), some (.aload_n 0, 1, 0, 0, 0), some (.getfield 11, 3, 7, 0, 39), none, none, some (.iload 5, 2, 0, 0, 0), none, some (.iaload, 1, 0, 0, 0), some (.i2l, 1, 0, 0, 0), some (.lload_n 1, 1, 0, 0, 0), some (.lmul, 1, 0, 0, 0), some (.ladd, 1, 0, 0, 0), some (.lstore_n 3, 1, 0, 0, 0), some (.aload_n 0, 1, 0, 0, 0), some (.getfield 11, 3, 7, 0, 39), none, none, some (.iload 5, 2, 0, 0, 0), none, some (.lload_n 3, 1, 0, 0, 0), some (.ldc2_w 30, 3, 0, 0, 42), none, none, some (.lrem, 1, 0, 0, 0), some (.l2i, 1, 0, 0, 0), some (.iastore, 1, 0, 0, 0), some (.lload_n 3, 1, 0, 0, 0), some (.ldc2_w 30, 3, 0, 0, 42), none, none, some (.ldiv, 1, 0, 0, 0), some (.lstore_n 3, 1, 0, 0, 0), some (.iinc 5 1, 3, 0, 0, 0), none, none, some (.goto (-44), 3, 5, 0, 0), none, none, some (.aload_n 0, 1, 0, 0, 0), some (.aload_n 0, 1, 0, 0, 0), some (.getfield 15, 3, 7, 1, 46), none, none, some (.iconst 1, 1, 0, 0, 0), some (.iadd, 1, 0, 0, 0), some (.invokevirtual 38, 3, 13, 802, 44), none, none, some (.return_, 1, 0, 0, 0)]
def k_Di_guess : List (Option ax_E) := [some (.aload_n 0, 1, 0, 0, 0), some (.getfield 12, 3, 1, 0, 32), none, none, some (.getfield 52, 3, 7, 0, 164), none, none, some (.aload_n 0, 1, 0, 0, 0), some (.getfield 12, 3, 1, 0, 32), none, none, some (.getfield 45, 3, 7, 1, 162), none, none, some (.iconst 1, 1, 0, 0, 0), some (.isub, 1, 0, 0, 0), some (.iaload, 1, 0, 0, 0), some (.i2l, 1, 0, 0, 0), some (.lstore_n 3, 1, 0, 0, 0), some (.aload_n 0, 1, 0, 0, 0), some (.getfield 12, 3, 1, 0, 32), none, none, some (.getfield 52, 3, 7, 0, 164), none, none, some (.aload_n 0, 1, 0, 0, 0), some (.getfield 12, 3, 1, 0, 32), none, none, some (.getfield 45, 3, 7, 1, 162), none, none, some (.iconst 2, 1, 0, 0, 0), some (.isub, 1, 0, 0, 0), some (.iaload, 1, 0, 0, 0), some (.i2l, 1, 0, 0, 0), some (.lstore 5, 2, 0, 0, 0), none, some (.aload_n 1, 1, 0, 0, 0), some (.getfield 52, 3, 7, 0, 164), none, none, some (.iload_n 2, 1, 0, 0, 0), some (.iaload, 1, 0, 0, 0), some (.i2l, 1, 0, 0, 0), some (.ldc2_w 75, 3, 0, 0, 171), none, none, some (.lmul, 1, 0, 0, 0), some (.aload_n 1, 1, 0, 0, 0), some (.getfield 52, 3, 7, 0, 164), none, none, some (.iload_n 2, 1, 0, 0, 0), some (.iconst 1, 1, 0, 0, 0), some (.isub, 1, 0, 0, 0), some (.iaload, 1, 0, 0, 0), some (.i2l, 1, 0, 0, 0), some (.ladd, 1, 0, 0, 0), some (.lstore 7, 2, 0, 0, 0), none, some (.lload 7, 2, 0, 0, 0), none, some (.lload_n 3, 1, 0, 0, 0), some (.ldiv, 1, 0, 0, 0), some (.lstore 9, 2, 0, 0, 0), none, some (.lload 7, 2, 0, 0, 0), none, some (.lload_n 3, 1, 0, 0, 0), some (.lrem, 1, 0, 0, 0), some (.lstore 11, 2, 0, 0, 0), none, some (.iconst 0, 1, 0, 0, 0), some (.istore 13, 2, 0, 0, 0), none, some (.iload 13, 2, 0, 0, 0), none, some (.iconst 2, 1, 0, 0, 0), some (.if_icmp .ge 64, 3, 144, 0, 0), none, none, some (.lload 11, 2, 0, 0, 0), none, some (.ldc2_w 75, 3, 0, 0, 171), none, none, some (.lcmp, 1, 0, 0, 0), some (.ifCond .ge 55, 3, 144, 0, 0), none, none, some (.lload 9, 2, 0, 0, 0), none, some (.ldc2_w 75, 3, 0, 0, 171), none, none, some (.lcmp, 1, 0, 0, 0), some (.ifCond .ge 28, 3, 126, 0, 0), none, none, some (.lload 9, 2, 0, 0, 0), none, some (.lload 5, 2, 0, 0, 0), none, some (.lmul, 1, 0, 0, 0), some (.lload 11, 2, 0, 0, 0), none, some (.ldc2_w 75, 3, 0, 0, 171), none, none, some (.lmul, 1, 0, 0, 0), some (.aload_n 1, 1, 0, 0, 0), some (.getfield 52, 3, 7, 0, 164), none, none, some (.iload_n 2, 1, 0, 0, 0), some (.iconst 2, 1, 0, 0, 0), some (.isub, 1, 0, 0, 0), some (.iaload, 1, 0, 0, 0), some (.i2l, 1, 0, 0, 0), some (.ladd, 1, 0, 0, 0), some (.lcmp, 1, 0, 0, 0), some (.ifCond .le 15, 3, 138, 0, 0), none, none, some (.lload 9, 2, 0, 0, 0), none, some (.lconst 1, 1, 0, 0, 0), some (.lsub, 1, 0, 0, 0), some (.lstore 9, 2, 0, 0, 0), none, some (.lload 11, 2, 0, 0, 0), none, some (.lload_n 3, 1, 0, 0, 0), some (.ladd, 1, 0, 0, 0), some (.lstore 11, 2, 0, 0, 0), none, some (.iinc 13 1, 3, 0, 0, 0), none, none, some (.goto (-64), 3, 77, 0, 0), none, none, some (.lload 9, 2, 0, 0, 0), none, some (.lreturn, 1, 0, 0, 0)]
def k_Wh_negate : List (Option ax_E) := [some (.aload_n 0, 1, 0, 0, 0), some (.aload_n 0, 1, 0, 0, 0), some (.getfield 15, 3, 7, 1, 46), none, none, some (.ifCond .le 14, 3, 19, 0, 0), none, none, some (.aload_n 0, 1, 0, 0, 0), some (.getfield 19, 3, 7, 2, 45), none, none, some (.ifCond .ne 7, 3, 19, 0, 0), none, none, some (.iconst 1, 1, 0, 0, 0), some (.goto 4, 3, 20, 0, 0), none, none, some (.iconst 0, 1, 0, 0, 0), some (.putfield 19, 3, 7, 2, 45), none, none, some (.return_, 1, 0, 0, 0)]
def k_Wh_add : List (Option ax_E) := [some (.aload_n 0, 1, 0, 0, 0), some (.getfield 15, 3, 7, 1, 46), none, none, some (.aload_n 1, 1, 0, 0, 0), some (.getfield 15, 3, 7, 1, 46), none, none, some (.invokestatic 47, 3, 36, 2, 108), none, none, some (.iconst 2, 1, 0, 0, 0), some (.iadd, 1, 0, 0, 0), some (.istore_n 3, 1, 0, 0, 0), some (.aload_n 0, 1, 0, 0, 0), some (.iload_n 3, 1, 0, 0, 0), some (.invokevirtual 26, 3, 7, 802, 41), none, none, some (.aload_n 0, 1, 0, 0, 0), some (.aload_n 1, 1, 0, 0, 0), some (.aload_n 0, 1, 0, 0, 0), some (.getfield 19, 3, 7, 2, 45), none, none, some (.aload_n 1, 1, 0, 0, 0), some (.getfield 19, 3, 7, 2, 45), none, none, some (.if_icmp .ne 8, 3, 37, 0, 0), none, none, some (.iload_n 2, 1, 0, 0, 0), some (.i2l, 1, 0, 0, 0), some (.goto 6, 3, 40, 0, 0), none, none, some (.iload_n 2, 1, 0, 0, 0), some (.ineg, 1, 0, 0, 0), some (.i2l, 1, 0, 0, 0), some (.iconst 0, 1, 0, 0, 0), some (.iload_n 3, 1, 0, 0, 0), some (.invokevirtual 51, 3, 37, 805, 109), none, none, some (.aload_n 0, 1, 0, 0, 0), some (.iload_n 3, 1, 0, 0, 0), some (.invokevirtual 55, 3, 38, 802, 110), none, none, some (.return_, 1, 0, 0, 0)]
def k_St_settle : List (Option ax_E) := [some (.iload_n 2, 1, 0, 0, 0), some (.istore_n 3, 1, 0, 0, 0), some (.iload_n 3, 1, 0, 0, 0), some (.aload_n 0, 1, 0, 0, 0), some (.getfield 44, 3, 6, 4, 142), none, none, some (.if_icmp .ge 26, 3, 33, 0, 0), none, none, some (.aload_n 0, 1, 0, 0, 0), some (.aload_n 1, 1, 0, 0, 0), some (.aload_n 0, 1, 0, 0, 0), some (.getfield 24, 3, 6, 2, 66), none, none, some (.iload_n 3, 1, 0, 0, 0), some (.aaload, 1, 0, 0, 0), some (.aload_n 0, 1, 0, 0, 0), some (.getfield 29, 3, 6, 3, 69), none, none, some (.iload_n 3, 1, 0, 0, 0), some (.iaload, 1, 0, 0, 0), some (.invokevirtual 81, 3, 62, 704, 154), none, none, some (.iinc 3 1, 3, 0, 0, 0), none, none, some (.goto (-28), 3, 2, 0, 0), none, none, some (.return_, 1, 0, 0, 0)]
def k_St_keepSpare : List (Option ax_E) := [some (.aload_n 0, 1, 0, 0, 0), some (.getfield 24, 3, 6, 2, 66), none, none, some (.aload_n 0, 1, 0, 0, 0), some (.getfield 44, 3, 6, 4, 142), none, none, some (.aaload, 1, 0, 0, 0), some (.astore_n 2, 1, 0, 0, 0), some (.aload_n 2, 1, 0, 0, 0), some (.aload_n 0, 1, 0, 0, 0), some (.getfield 41, 3, 6, 5, 141), none, none, some (.invokevirtual 51, 3, 60, 602, 144), none, none, some (.istore_n 3, 1, 0, 0, 0), some (.iload_n 3, 1, 0, 0, 0), some (.aload_n 0, 1, 0, 0, 0), some (.getfield 41, 3, 6, 5, 141), none, none, some (.if_icmp .ne 4, 3, 28, 0, 0), none, none, some (.return_, 1, 0, 0, 0), some (.aload_n 2, 1, 0, 0, 0), some (.getfield 69, 3, 5, 0, 149), none, none, some (.iload_n 3, 1, 0, 0, 0), some (.aaload, 1, 0, 0, 0), some (.getfield 92, 3, 7, 2, 177), none, none, some (.ifCond .eq 7, 3, 44, 0, 0), none, none, some (.aload_n 2, 1, 0, 0, 0), some (.invokevirtual 105, 3, 74, 601, 178), none, none, some (.aload_n 0, 1, 0, 0, 0), some (.getfield 44, 3, 6, 4, 142), none, none, some (.istore 4, 2, 0, 0, 0), none, some (.iload 4, 2, 0, 0, 0), none, some (.iload_n 1, 1, 0, 0, 0), some (.if_icmp .le 41, 3, 94, 0, 0), none, none, some (.aload_n 0, 1, 0, 0, 0), some (.getfield 24, 3, 6, 2, 66), none, none, some (.iload 4, 2, 0, 0, 0), none, some (.aload_n 0, 1, 0, 0, 0), some (.getfield 24, 3, 6, 2, 66), none, none, some (.iload 4, 2, 0, 0, 0), none, some (.iconst 1, 1, 0, 0, 0), some (.isub, 1, 0, 0, 0), some (.aaload, 1, 0, 0, 0), some (.aastore, 1, 0, 0, 0), some (.aload_n 0, 1, 0, 0, 0), some (.getfield 29, 3, 6, 3, 69), none, none, some (.iload 4, 2, 0, 0, 0), none, some (.aload_n 0, 1, 0, 0, 0), some (.getfield 29, 3, 6, 3, 69), none, none, some (.iload 4, 2, 0, 0, 0), none, some (.iconst 1, 1, 0, 0, 0), some (.isub, 1, 0, 0, 0), some (.iaload, 1, 0, 0, 0), some (.iastore, 1, 0, 0, 0), some (.iinc 4 (-1), 3, 0, 0, 0), none, none, some (.goto (-41), 3, 50, 0, 0), none, none, some (.aload_n 0, 1, 0, 0, 0), some (.getfield 24, 3, 6, 2, 66), none, none, some (.iload_n 1, 1, 0, 0, 0), some (.aload_n 2, 1, 0, 0, 0), some (.aastore, 1, 0, 0, 0), some (.aload_n 0, 1, 0, 0, 0), some (.getfield 29, 3, 6, 3, 69), none, none, some (.iload_n 1, 1, 0, 0, 0), some (.iload_n 3, 1, 0, 0, 0), some (.iastore, 1, 0, 0, 0), some (.aload_n 0, 1, 0, 0, 0), some (.dup, 1, 0, 0, 0), some (.getfield 44, 3, 6, 4, 142), none, none, some (.iconst 1, 1, 0, 0, 0), some (.iadd, 1, 0, 0, 0), some (.putfield 44, 3, 6, 4, 142), none, none, some (.return_, 1, 0, 0, 0)]
def k_Ro_turnSigns : List (Option ax_E) := [some (.iconst 0, 1, 0, 0, 0), some (.istore_n 1, 1, 0, 0, 0), some (.iload_n 1, 1, 0, 0, 0), some (.aload_n 0, 1, 0, 0, 0), some (.getfield 11, 3, 5, 0, 72), none, none, some (.arraylength, 1, 0, 0, 0), some (.if_icmp .ge 18, 3, 26, 0, 0), none, none, some (.aload_n 0, 1, 0, 0, 0), some (.getfield 11, 3, 5, 0, 72), none, none, some (.iload_n 1, 1, 0, 0, 0), some (.aaload, 1, 0, 0, 0), some (.invokevirtual 21, 3, 70, 801, 179), none, none, some (.iinc 1 1, 3, 0, 0, 0), none, none, some (.goto (-21), 3, 2, 0, 0), none, none, some (.return_, 1, 0, 0, 0)]
def k_De_copyStairs : List (Option ax_E) := [some (.iconst 0, 1, 0, 0, 0), some (.istore_n 3, 1, 0, 0, 0), some (.iload_n 3, 1, 0, 0, 0), some (.aload_n 0, 1, 0, 0, 0), some (.getfield 16, 3, 0, 1, 5), none, none, some (.getfield 96, 3, 2, 1, 75), none, none, some (.if_icmp .ge 71, 3, 81, 0, 0), none, none, some (.iconst 0, 1, 0, 0, 0), some (.istore 4, 2, 0, 0, 0), none, some (.iload 4, 2, 0, 0, 0), none, some (.aload_n 0, 1, 0, 0, 0), some (.getfield 16, 3, 0, 1, 5), none, none, some (.getfield 100, 3, 2, 2, 76), none, none, some (.if_icmp .ge 50, 3, 75, 0, 0), none, none, some (.aload_n 0, 1, 0, 0, 0), some (.getfield 46, 3, 0, 5, 17), none, none, some (.iload_n 1, 1, 0, 0, 0), some (.iload_n 3, 1, 0, 0, 0), some (.iadd, 1, 0, 0, 0), some (.iload_n 2, 1, 0, 0, 0), some (.iload 4, 2, 0, 0, 0), none, some (.iadd, 1, 0, 0, 0), some (.invokevirtual 251, 3, 76, 703, 180), none, none, some (.astore 5, 2, 0, 0, 0), none, some (.aload 5, 2, 0, 0, 0), none, some (.invokevirtual 110, 3, 39, 801, 103), none, none, some (.ifCond .ne 5, 3, 54, 0, 0), none, none, some (.iconst 0, 1, 0, 0, 0), some (.ireturn, 1, 0, 0, 0), some (.aload_n 0, 1, 0, 0, 0), some (.getfield 16, 3, 0, 1, 5), none, none, some (.iload_n 3, 1, 0, 0, 0), some (.iload 4, 2, 0, 0, 0), none, some (.aload 5, 2, 0, 0, 0), none, some (.invokevirtual 114, 3, 40, 801, 104), none, none, some (.invokevirtual 88, 3, 28, 304, 94), none, none, some (.iinc 4 1, 3, 0, 0, 0), none, none, some (.goto (-56), 3, 16, 0, 0), none, none, some (.iinc 3 1, 3, 0, 0, 0), none, none, some (.goto (-76), 3, 2, 0, 0), none, none, some (.iconst 1, 1, 0, 0, 0), some (.ireturn, 1, 0, 0, 0)]
def k_St_number : List (Option ax_E) := [some (.aload_n 0, 1, 0, 0, 0), some (.getfield 24, 3, 6, 2, 66), none, none, some (.iload_n 1, 1, 0, 0, 0), some (.aaload, 1, 0, 0, 0), some (.getfield 69, 3, 5, 0, 149), none, none, some (.iload_n 2, 1, 0, 0, 0), some (.aaload, 1, 0, 0, 0), some (.areturn, 1, 0, 0, 0)]
def k_St_leadsBefore : List (Option ax_E) := [some (.iconst 0, 1, 0, 0, 0), some (.istore_n 2, 1, 0, 0, 0), some (.iconst 0, 1, 0, 0, 0), some (.istore_n 3, 1, 0, 0, 0), some (.iload_n 3, 1, 0, 0, 0), some (.aload_n 0, 1, 0, 0, 0), some (.getfield 44, 3, 6, 4, 142), none, none, some (.if_icmp .ge 22, 3, 31, 0, 0), none, none, some (.aload_n 0, 1, 0, 0, 0), some (.getfield 29, 3, 6, 3, 69), none, none, some (.iload_n 3, 1, 0, 0, 0), some (.iaload, 1, 0, 0, 0), some (.iload_n 1, 1, 0, 0, 0), some (.if_icmp .ge 6, 3, 25, 0, 0), none, none, some (.iinc 2 1, 3, 0, 0, 0), none, none, some (.iinc 3 1, 3, 0, 0, 0), none, none, some (.goto (-24), 3, 4, 0, 0), none, none, some (.iload_n 2, 1, 0, 0, 0), some (.ireturn, 1, 0, 0, 0)]
def k_La_kernel : List (Option ax_E) := [some (.aload_n 3, 1, 0, 0, 0), some (.iconst 0, 1, 0, 0, 0), some (.aload_n 0, 1, 0, 0, 0), some (.iload_n 1, 1, 0, 0, 0), some (.iload_n 2, 1, 0, 0, 0), some (.invokevirtual 45, 3, 79, 103, 181), none, none, some (.i2l, 1, 0, 0, 0), some (.lastore, 1, 0, 0, 0), some (.goto 7, 3, 17, 0, 0), none, none, some (.astore 4, 2, 0, 0, 0), none, some (.iconst 1, 1, 0, 0, 0), some (.ireturn, 1, 0, 0, 0), some (.iconst 0, 1, 0, 0, 0), some (.ireturn, 1, 0, 0, 0)]
def k_De_kernel : List (Option ax_E) := [some (.aload_n 0, 1, 0, 0, 0), some (.iload_n 1, 1, 0, 0, 0), some (.invokevirtual 63, 3, 21, 102, 80), none, none, some (.astore_n 3, 1, 0, 0, 0), some (.aload_n 0, 1, 0, 0, 0), some (.iload_n 2, 1, 0, 0, 0), some (.invokevirtual 63, 3, 21, 102, 80), none, none, some (.astore 4, 2, 0, 0, 0), none, some (.aload_n 0, 1, 0, 0, 0), some (.getfield 46, 3, 0, 5, 17), none, none, some (.aload 4, 2, 0, 0, 0), none, some (.iconst 1, 1, 0, 0, 0), some (.invokevirtual 129, 3, 57, 703, 136), none, none, some (.aload_n 0, 1, 0, 0, 0), some (.getfield 46, 3, 0, 5, 17), none, none, some (.aload 4, 2, 0, 0, 0), none, some (.getfield 96, 3, 2, 1, 75), none, none, some (.invokevirtual 137, 3, 77, 702, 138), none, none, some (.istore 5, 2, 0, 0, 0), none, some (.aload 4, 2, 0, 0, 0), none, some (.getfield 100, 3, 2, 2, 76), none, none, some (.iload 5, 2, 0, 0, 0), none, some (.isub, 1, 0, 0, 0), some (.istore 6, 2, 0, 0, 0), none, some (.iload 6, 2, 0, 0, 0), none, some (.iconst 1, 1, 0, 0, 0), some (.if_icmp .ge 5, 3, 55, 0, 0), none, none, some (.iconst 0, 1, 0, 0, 0), some (.ireturn, 1, 0, 0, 0), some (.aload_n 0, 1, 0, 0, 0), some (.getfield 16, 3, 0, 1, 5), none, none, some (.iload 6, 2, 0, 0, 0), none, some (.aload 4, 2, 0, 0, 0), none, some (.getfield 100, 3, 2, 2, 76), none, none, some (.invokevirtual 74, 3, 22, 303, 84), none, none, some (.aload_n 0, 1, 0, 0, 0), some (.iload 5, 2, 0, 0, 0), none, some (.aload 4, 2, 0, 0, 0), none, some (.getfield 96, 3, 2, 1, 75), none, none, some (.invokevirtual 133, 3, 75, 103, 137), none, none, some (.ifCond .ne 6, 3, 86, 0, 0), none, none, some (.bipush (-3), 2, 0, 0, 0), none, some (.ireturn, 1, 0, 0, 0), some (.aload_n 3, 1, 0, 0, 0), some (.aload_n 0, 1, 0, 0, 0), some (.getfield 16, 3, 0, 1, 5), none, none, some (.invokevirtual 118, 3, 41, 302, 105), none, none, some (.iload 6, 2, 0, 0, 0), none, some (.ireturn, 1, 0, 0, 0)]
def k_La_solve : List (Option ax_E) := [some (.aload 4, 2, 0, 0, 0), none, some (.iconst 0, 1, 0, 0, 0), some (.aload_n 0, 1, 0, 0, 0), some (.iload_n 1, 1, 0, 0, 0), some (.iload_n 2, 1, 0, 0, 0), some (.iload_n 3, 1, 0, 0, 0), some (.invokevirtual 48, 3, 81, 104, 182), none, none, some (.i2l, 1, 0, 0, 0), some (.lastore, 1, 0, 0, 0), some (.goto 7, 3, 19, 0, 0), none, none, some (.astore 5, 2, 0, 0, 0), none, some (.iconst 1, 1, 0, 0, 0), some (.ireturn, 1, 0, 0, 0), some (.iconst 0, 1, 0, 0, 0), some (.ireturn, 1, 0, 0, 0)]
def k_De_solve : List (Option ax_E) := [some (.aload_n 0, 1, 0, 0, 0), some (.iload_n 1, 1, 0, 0, 0), some (.invokevirtual 63, 3, 21, 102, 80), none, none, some (.astore 4, 2, 0, 0, 0), none, some (.aload_n 0, 1, 0, 0, 0), some (.iload_n 2, 1, 0, 0, 0), some (.invokevirtual 63, 3, 21, 102, 80), none, none, some (.astore 5, 2, 0, 0, 0), none, some (.aload_n 0, 1, 0, 0, 0), some (.iload_n 3, 1, 0, 0, 0), some (.invokevirtual 63, 3, 21, 102, 80), none, none, some (.astore 6, 2, 0, 0, 0), none, some (.aload 6, 2, 0, 0, 0), none, some (.getfield 100, 3, 2, 2, 76), none, none, some (.iconst 1, 1, 0, 0, 0), some (.if_icmp .ne 16, 3, 43, 0, 0), none, none, some (.aload 6, 2, 0, 0, 0), none, some (.getfield 96, 3, 2, 1, 75), none, none, some (.aload 5, 2, 0, 0, 0), none, some (.getfield 96, 3, 2, 1, 75), none, none, some (.if_icmp .eq 6, 3, 46, 0, 0), none, none, some (.bipush (-2), 2, 0, 0, 0), none, some (.ireturn, 1, 0, 0, 0), some (.aload_n 0, 1, 0, 0, 0), some (.getfield 46, 3, 0, 5, 17), none, none, some (.aload 5, 2, 0, 0, 0), none, some (.iconst 1, 1, 0, 0, 0), some (.invokevirtual 129, 3, 57, 703, 136), none, none, some (.aload_n 0, 1, 0, 0, 0), some (.getfield 46, 3, 0, 5, 17), none, none, some (.invokevirtual 141, 3, 82, 701, 183), none, none, some (.astore 7, 2, 0, 0, 0), none, some (.iconst 0, 1, 0, 0, 0), some (.istore 8, 2, 0, 0, 0), none, some (.iload 8, 2, 0, 0, 0), none, some (.aload 6, 2, 0, 0, 0), none, some (.getfield 96, 3, 2, 1, 75), none, none, some (.if_icmp .ge 29, 3, 104, 0, 0), none, none, some (.aload 7, 2, 0, 0, 0), none, some (.getfield 145, 3, 5, 0, 184), none, none, some (.iload 8, 2, 0, 0, 0), none, some (.aaload, 1, 0, 0, 0), some (.aload 6, 2, 0, 0, 0), none, some (.iload 8, 2, 0, 0, 0), none, some (.iconst 0, 1, 0, 0, 0), some (.invokevirtual 92, 3, 31, 303, 99), none, none, some (.lneg, 1, 0, 0, 0), some (.invokevirtual 151, 3, 5, 802, 106), none, none, some (.iinc 8 1, 3, 0, 0, 0), none, none, some (.goto (-33), 3, 68, 0, 0), none, none, some (.aload_n 0, 1, 0, 0, 0), some (.getfield 46, 3, 0, 5, 17), none, none, some (.aload 7, 2, 0, 0, 0), none, some (.iconst 0, 1, 0, 0, 0), some (.invokevirtual 154, 3, 72, 703, 185), none, none, some (.aload 7, 2, 0, 0, 0), none, some (.aload 5, 2, 0, 0, 0), none, some (.getfield 96, 3, 2, 1, 75), none, none, some (.invokevirtual 158, 3, 60, 602, 186), none, none, some (.aload 5, 2, 0, 0, 0), none, some (.getfield 96, 3, 2, 1, 75), none, none, some (.if_icmp .ge 5, 3, 134, 0, 0), none, none, some (.iconst 0, 1, 0, 0, 0), some (.ireturn, 1, 0, 0, 0), some (.aload_n 0, 1, 0, 0, 0), some (.getfield 16, 3, 0, 1, 5), none, none, some (.aload 5, 2, 0, 0, 0), none, some (.getfield 100, 3, 2, 2, 76), none, none, some (.iconst 1, 1, 0, 0, 0), some (.invokevirtual 74, 3, 22, 303, 84), none, none, some (.iconst 0, 1, 0, 0, 0), some (.istore 8, 2, 0, 0, 0), none, some (.iload 8, 2, 0, 0, 0), none, some (.aload 5, 2, 0, 0, 0), none, some (.getfield 100, 3, 2, 2, 76), none, none, some (.if_icmp .ge 51, 3, 208, 0, 0), none, none, some (.aload 7, 2, 0, 0, 0), none, some (.getfield 145, 3, 5, 0, 184), none, none, some (.aload 5, 2, 0, 0, 0), none, some (.getfield 96, 3, 2, 1, 75), none, none, some (.iload 8, 2, 0, 0, 0), none, some (.iadd, 1, 0, 0, 0), some (.aaload, 1, 0, 0, 0), some (.astore 9, 2, 0, 0, 0), none, some (.aload 9, 2, 0, 0, 0), none, some (.invokevirtual 110, 3, 39, 801, 103), none, none, some (.ifCond .ne 6, 3, 187, 0, 0), none, none, some (.bipush (-3), 2, 0, 0, 0), none, some (.ireturn, 1, 0, 0, 0), some (.aload_n 0, 1, 0, 0, 0), some (.getfield 16, 3, 0, 1, 5), none, none, some (.iload 8, 2, 0, 0, 0), none, some (.iconst 0, 1, 0, 0, 0), some (.aload 9, 2, 0, 0, 0), none, some (.invokevirtual 114, 3, 40, 801, 104), none, none, some (.invokevirtual 88, 3, 28, 304, 94), none, none, some (.iinc 8 1, 3, 0, 0, 0), none, none, some (.goto (-55), 3, 150, 0, 0), none, none, some (.aload 4, 2, 0, 0, 0), none, some (.aload_n 0, 1, 0, 0, 0), some (.getfield 16, 3, 0, 1, 5), none, none, some (.invokevirtual 118, 3, 41, 302, 105), none, none, some (.iconst 1, 1, 0, 0, 0), some (.ireturn, 1, 0, 0, 0)]
def k_St_spareRow : List (Option ax_E) := [some (.aload_n 0, 1, 0, 0, 0), some (.getfield 24, 3, 6, 2, 66), none, none, some (.aload_n 0, 1, 0, 0, 0), some (.getfield 44, 3, 6, 4, 142), none, none, some (.aaload, 1, 0, 0, 0), some (.invokevirtual 66, 3, 59, 601, 148), none, none, some (.aload_n 0, 1, 0, 0, 0), some (.getfield 24, 3, 6, 2, 66), none, none, some (.aload_n 0, 1, 0, 0, 0), some (.getfield 44, 3, 6, 4, 142), none, none, some (.aaload, 1, 0, 0, 0), some (.areturn, 1, 0, 0, 0)]
def k_La_determinant : List (Option ax_E) := [some (.aload_n 2, 1, 0, 0, 0), some (.iconst 0, 1, 0, 0, 0), some (.aload_n 0, 1, 0, 0, 0), some (.iload_n 1, 1, 0, 0, 0), some (.invokevirtual 51, 3, 84, 102, 187), none, none, some (.i2l, 1, 0, 0, 0), some (.lastore, 1, 0, 0, 0), some (.goto 6, 3, 15, 0, 0), none, none, some (.astore_n 3, 1, 0, 0, 0), some (.iconst 1, 1, 0, 0, 0), some (.ireturn, 1, 0, 0, 0), some (.iconst 0, 1, 0, 0, 0), some (.ireturn, 1, 0, 0, 0)]
def k_De_determinant : List (Option ax_E) := [some (.aload_n 0, 1, 0, 0, 0), some (.iload_n 1, 1, 0, 0, 0), some (.invokevirtual 63, 3, 21, 102, 80), none, none, some (.astore_n 2, 1, 0, 0, 0), some (.aload_n 2, 1, 0, 0, 0), some (.getfield 96, 3, 2, 1, 75), none, none, some (.aload_n 2, 1, 0, 0, 0), some (.getfield 100, 3, 2, 2, 76), none, none, some (.if_icmp .eq 6, 3, 20, 0, 0), none, none, some (.bipush (-2), 2, 0, 0, 0), none, some (.ireturn, 1, 0, 0, 0), some (.aload_n 0, 1, 0, 0, 0), some (.getfield 39, 3, 0, 4, 14), none, none, some (.aload_n 2, 1, 0, 0, 0), some (.invokevirtual 122, 3, 48, 402, 118), none, none, some (.aload_n 0, 1, 0, 0, 0), some (.aload_n 0, 1, 0, 0, 0), some (.getfield 39, 3, 0, 4, 14), none, none, some (.aload_n 2, 1, 0, 0, 0), some (.getfield 96, 3, 2, 1, 75), none, none, some (.invokestatic 161, 3, 50, 1, 188), none, none, some (.aload_n 2, 1, 0, 0, 0), some (.getfield 96, 3, 2, 1, 75), none, none, some (.invokestatic 161, 3, 50, 1, 188), none, none, some (.invokevirtual 164, 3, 85, 403, 189), none, none, some (.invokevirtual 168, 3, 87, 102, 190), none, none, some (.ireturn, 1, 0, 0, 0)]
def k_Mi_minor : List (Option ax_E) := [some (.aload_n 0, 1, 0, 0, 0), some (.iload_n 1, 1, 0, 0, 0), some (.iload_n 2, 1, 0, 0, 0), some (.invokevirtual 52, 3, 86, 403, 191), none, none, some (.aload_n 0, 1, 0, 0, 0), some (.getfield 22, 3, 3, 2, 58), none, none, some (.iload_n 2, 1, 0, 0, 0), some (.aaload, 1, 0, 0, 0), some (.areturn, 1, 0, 0, 0)]
def k_Mi_takeRows : List (Option ax_E) := [some (.iconst 0, 1, 0, 0, 0), some (.istore_n 3, 1, 0, 0, 0), some (.iconst 0, 1, 0, 0, 0), some (.istore 4, 2, 0, 0, 0), none, some (.iload 4, 2, 0, 0, 0), none, some (.aload_n 0, 1, 0, 0, 0), some (.getfield 35, 3, 3, 3, 121), none, none, some (.if_icmp .ge 30, 3, 41, 0, 0), none, none, some (.iload_n 1, 1, 0, 0, 0), some (.iload 4, 2, 0, 0, 0), none, some (.ishr, 1, 0, 0, 0), some (.iconst 1, 1, 0, 0, 0), some (.iand, 1, 0, 0, 0), some (.iconst 1, 1, 0, 0, 0), some (.if_icmp .ne 14, 3, 35, 0, 0), none, none, some (.iinc 3 1, 3, 0, 0, 0), none, none, some (.aload_n 0, 1, 0, 0, 0), some (.iload 4, 2, 0, 0, 0), none, some (.iload_n 3, 1, 0, 0, 0), some (.iload_n 2, 1, 0, 0, 0), some (.invokevirtual 60, 3, 51, 404, 126), none, none, some (.iinc 4 1, 3, 0, 0, 0), none, none, some (.goto (-33), 3, 5, 0, 0), none, none, some (.return_, 1, 0, 0, 0)]
def k_De_printWhole : List (Option ax_E) := [some (.aload_n 0, 1, 0, 0, 0), some (.getfield 23, 3, 0, 2, 8), none, none, some (.invokevirtual 232, 3, 88, 501, 192), none, none, some (.aload_n 0, 1, 0, 0, 0), some (.getfield 23, 3, 0, 2, 8), none, none, some (.aload_n 1, 1, 0, 0, 0), some (.invokevirtual 233, 3, 89, 502, 193), none, none, some (.aload_n 0, 1, 0, 0, 0), some (.getfield 23, 3, 0, 2, 8), none, none, some (.getfield 198, 3, 4, 1, 77), none, none, some (.ireturn, 1, 0, 0, 0)]
def k_Pr_clear : List (Option ax_E) := [some (.aload_n 0, 1, 0, 0, 0), some (.iconst 0, 1, 0, 0, 0), some (.putfield 15, 3, 4, 1, 194), none, none, some (.return_, 1, 0, 0, 0)]
def k_Pr_whole : List (Option ax_E) := [some (.aload_n 1, 1, 0, 0, 0), some (.getfield 19, 3, 7, 2, 195), none, none, some (.ifCond .eq 9, 3, 13, 0, 0), none, none, some (.aload_n 0, 1, 0, 0, 0), some (.bipush 45, 2, 0, 0, 0), none, some (.invokevirtual 25, 3, 90, 502, 196), none, none, some (.aload_n 1, 1, 0, 0, 0), some (.invokevirtual 29, 3, 54, 801, 197), none, none, some (.ifCond .eq 9, 3, 26, 0, 0), none, none, some (.aload_n 0, 1, 0, 0, 0), some (.bipush 48, 2, 0, 0, 0), none, some (.invokevirtual 25, 3, 90, 502, 196), none, none, some (.iconst 0, 1, 0, 0, 0), some (.istore_n 2, 1, 0, 0, 0), some (.aload_n 1, 1, 0, 0, 0), some (.getfield 33, 3, 7, 1, 198), none, none, some (.iconst 1, 1, 0, 0, 0), some (.isub, 1, 0, 0, 0), some (.istore_n 3, 1, 0, 0, 0), some (.iload_n 3, 1, 0, 0, 0), some (.ifCond .lt 85, 3, 121, 0, 0), none, none, some (.getstatic 34, 3, 1, 0, 199), none, none, some (.astore 4, 2, 0, 0, 0), none, some (.aload 4, 2, 0, 0, 0), none, some (.arraylength, 1, 0, 0, 0), some (.istore 5, 2, 0, 0, 0), none, some (.iconst 0, 1, 0, 0, 0), some (.istore 6, 2, 0, 0, 0), none, some (.iload 6, 2, 0, 0, 0), none, some (.iload 5, 2, 0, 0, 0), none, some (.if_icmp .ge 59, 3, 115, 0, 0), none, none, some (.aload 4, 2, 0, 0, 0), none, some (.iload 6, 2, 0, 0, 0), none, some (.iaload, 1, 0, 0, 0), some (.istore 7, 2, 0, 0, 0), none, some (.aload_n 1, 1, 0, 0, 0), some (.getfield 38, 3, 7, 0, 200), none, none, some (.iload_n 3, 1, 0, 0, 0), some (.iaload, 1, 0, 0, 0), some (.iload 7, 2, 0, 0, 0), none, some (.idiv, 1, 0, 0, 0), some (.bipush 10, 2, 0, 0, 0), none, some (.irem, 1, 0, 0, 0), some (.istore 8, 2, 0, 0, 0), none, some (.iload_n 2, 1, 0, 0, 0), some (.ifCond .ne 8, 3, 89, 0, 0), none, none, some (.iload 8, 2, 0, 0, 0), none, some (.ifCond .eq 7, 3, 93, 0, 0), none, none, some (.iconst 1, 1, 0, 0, 0), some (.goto 4, 3, 94, 0, 0), none, none, some (.iconst 0, 1, 0, 0, 0), some (.istore_n 2, 1, 0, 0, 0), some (.iload_n 2, 1, 0, 0, 0), some (.ifCond .eq 13, 3, 109, 0, 0), none, none, some (.aload_n 0, 1, 0, 0, 0), some (.bipush 48, 2, 0, 0, 0), none, some (.iload 8, 2, 0, 0, 0), none, some (.iadd, 1, 0, 0, 0), some (.i2c, 1, 0, 0, 0), some (.invokevirtual 25, 3, 90, 502, 196), none, none, some (.iinc 6 1, 3, 0, 0, 0), none, none, some (.goto (-60), 3, 52, 0, 0), none, none, some (.iinc 3 (-1), 3, 0, 0, 0), none, none, some (.goto (-83), 3, 35, 0, 0), none, none, some (.return_, 1, 0, 0, 0)]
def k_Pr_letter : List (Option ax_E) := [some (.aload_n 0, 1, 0, 0, 0), some (.getfield 15, 3, 4, 1, 194), none, none, some (.aload_n 0, 1, 0, 0, 0), some (.getfield 9, 3, 4, 0, 28), none, none, some (.arraylength, 1, 0, 0, 0), some (.if_icmp .ge 23, 3, 32, 0, 0), none, none, some (.aload_n 0, 1, 0, 0, 0), some (.getfield 9, 3, 4, 0, 28), none, none, some (.aload_n 0, 1, 0, 0, 0), some (.getfield 15, 3, 4, 1, 194), none, none, some (.iload_n 1, 1, 0, 0, 0), some (.castore, 1, 0, 0, 0), some (.aload_n 0, 1, 0, 0, 0), some (.dup, 1, 0, 0, 0), some (.getfield 15, 3, 4, 1, 194), none, none, some (.iconst 1, 1, 0, 0, 0), some (.iadd, 1, 0, 0, 0), some (.putfield 15, 3, 4, 1, 194), none, none, some (.return_, 1, 0, 0, 0)]
def k_La_divisor : List (Option ax_E) := [some (.aload_n 3, 1, 0, 0, 0), some (.iconst 0, 1, 0, 0, 0), some (.aload_n 0, 1, 0, 0, 0), some (.iload_n 1, 1, 0, 0, 0), some (.iload_n 2, 1, 0, 0, 0), some (.invokevirtual 54, 3, 92, 103, 201), none, none, some (.i2l, 1, 0, 0, 0), some (.lastore, 1, 0, 0, 0), some (.goto 7, 3, 17, 0, 0), none, none, some (.astore 4, 2, 0, 0, 0), none, some (.iconst 1, 1, 0, 0, 0), some (.ireturn, 1, 0, 0, 0), some (.iconst 0, 1, 0, 0, 0), some (.ireturn, 1, 0, 0, 0)]
def k_De_divisor : List (Option ax_E) := [some (.aload_n 0, 1, 0, 0, 0), some (.iload_n 1, 1, 0, 0, 0), some (.invokevirtual 63, 3, 21, 102, 80), none, none, some (.astore_n 3, 1, 0, 0, 0), some (.iload_n 2, 1, 0, 0, 0), some (.iconst 1, 1, 0, 0, 0), some (.if_icmp .lt 11, 3, 19, 0, 0), none, none, some (.iload_n 2, 1, 0, 0, 0), some (.aload_n 3, 1, 0, 0, 0), some (.invokevirtual 172, 3, 93, 301, 202), none, none, some (.if_icmp .le 5, 3, 21, 0, 0), none, none, some (.iconst (-1), 1, 0, 0, 0), some (.ireturn, 1, 0, 0, 0), some (.aload_n 0, 1, 0, 0, 0), some (.getfield 39, 3, 0, 4, 14), none, none, some (.aload_n 3, 1, 0, 0, 0), some (.invokevirtual 122, 3, 48, 402, 118), none, none, some (.aload_n 0, 1, 0, 0, 0), some (.getfield 39, 3, 0, 4, 14), none, none, some (.iload_n 2, 1, 0, 0, 0), some (.aload_n 0, 1, 0, 0, 0), some (.getfield 53, 3, 0, 6, 20), none, none, some (.invokevirtual 175, 3, 94, 403, 203), none, none, some (.aload_n 0, 1, 0, 0, 0), some (.aload_n 0, 1, 0, 0, 0), some (.getfield 53, 3, 0, 6, 20), none, none, some (.invokevirtual 168, 3, 87, 102, 190), none, none, some (.ireturn, 1, 0, 0, 0)]
def k_Ma_lesserSide : List (Option ax_E) := [some (.aload_n 0, 1, 0, 0, 0), some (.getfield 15, 3, 2, 1, 25), none, none, some (.aload_n 0, 1, 0, 0, 0), some (.getfield 19, 3, 2, 2, 26), none, none, some (.invokestatic 34, 3, 9, 2, 204), none, none, some (.ireturn, 1, 0, 0, 0)]
def k_Mi_commonDivisor : List (Option ax_E) := [some (.aload_n 2, 1, 0, 0, 0), some (.iload_n 1, 1, 0, 0, 0), some (.ifCond .ne 7, 3, 9, 0, 0), none, none, some (.lconst 1, 1, 0, 0, 0), some (.goto 4, 3, 10, 0, 0), none, none, some (.lconst 0, 1, 0, 0, 0), some (.invokevirtual 25, 3, 5, 802, 59), none, none, some (.aload_n 0, 1, 0, 0, 0), some (.getfield 39, 3, 3, 4, 123), none, none, some (.invokestatic 56, 3, 50, 1, 125), none, none, some (.istore_n 3, 1, 0, 0, 0), some (.iconst 1, 1, 0, 0, 0), some (.istore 4, 2, 0, 0, 0), none, some (.iload 4, 2, 0, 0, 0), none, some (.aload_n 0, 1, 0, 0, 0), some (.getfield 35, 3, 3, 3, 121), none, none, some (.invokestatic 56, 3, 50, 1, 125), none, none, some (.if_icmp .gt 64, 3, 97, 0, 0), none, none, some (.iload 4, 2, 0, 0, 0), none, some (.invokestatic 68, 3, 52, 1, 128), none, none, some (.iload_n 1, 1, 0, 0, 0), some (.if_icmp .ne 49, 3, 91, 0, 0), none, none, some (.aload_n 0, 1, 0, 0, 0), some (.iload 4, 2, 0, 0, 0), none, some (.iload_n 3, 1, 0, 0, 0), some (.invokevirtual 52, 3, 86, 403, 191), none, none, some (.iconst 1, 1, 0, 0, 0), some (.istore 5, 2, 0, 0, 0), none, some (.iload 5, 2, 0, 0, 0), none, some (.iload_n 3, 1, 0, 0, 0), some (.if_icmp .gt 33, 3, 91, 0, 0), none, none, some (.iload 5, 2, 0, 0, 0), none, some (.invokestatic 68, 3, 52, 1, 128), none, none, some (.iload_n 1, 1, 0, 0, 0), some (.if_icmp .ne 18, 3, 85, 0, 0), none, none, some (.aload_n 0, 1, 0, 0, 0), some (.getfield 9, 3, 3, 0, 53), none, none, some (.aload_n 2, 1, 0, 0, 0), some (.aload_n 0, 1, 0, 0, 0), some (.getfield 22, 3, 3, 2, 58), none, none, some (.iload 5, 2, 0, 0, 0), none, some (.aaload, 1, 0, 0, 0), some (.invokevirtual 73, 3, 95, 203, 205), none, none, some (.iinc 5 1, 3, 0, 0, 0), none, none, some (.goto (-33), 3, 55, 0, 0), none, none, some (.iinc 4 1, 3, 0, 0, 0), none, none, some (.goto (-70), 3, 24, 0, 0), none, none, some (.return_, 1, 0, 0, 0)]
def k_Di_commonDivisor : List (Option ax_E) := [some (.aload_n 1, 1, 0, 0, 0), some (.iconst 0, 1, 0, 0, 0), some (.putfield 41, 3, 7, 2, 161), none, none, some (.aload_n 2, 1, 0, 0, 0), some (.iconst 0, 1, 0, 0, 0), some (.putfield 41, 3, 7, 2, 161), none, none, some (.aload_n 1, 1, 0, 0, 0), some (.astore_n 3, 1, 0, 0, 0), some (.aload_n 2, 1, 0, 0, 0), some (.astore 4, 2, 0, 0, 0), none, some (.iconst 0, 1, 0, 0, 0), some (.istore 5, 2, 0, 0, 0), none, some (.iload 5, 2, 0, 0, 0), none, some (.ldc 95, 2, 3, 0, 206), none, some (.if_icmp .ge 38, 3, 60, 0, 0), none, none, some (.aload 4, 2, 0, 0, 0), none, some (.invokevirtual 37, 3, 54, 801, 160), none, none, some (.ifCond .ne 30, 3, 60, 0, 0), none, none, some (.aload_n 0, 1, 0, 0, 0), some (.aload_n 3, 1, 0, 0, 0), some (.aload 4, 2, 0, 0, 0), none, some (.aload_n 0, 1, 0, 0, 0), some (.getfield 18, 3, 1, 1, 33), none, none, some (.invokevirtual 96, 3, 63, 204, 207), none, none, some (.aload_n 3, 1, 0, 0, 0), some (.astore 6, 2, 0, 0, 0), none, some (.aload 4, 2, 0, 0, 0), none, some (.astore_n 3, 1, 0, 0, 0), some (.aload 6, 2, 0, 0, 0), none, some (.astore 4, 2, 0, 0, 0), none, some (.iinc 5 1, 3, 0, 0, 0), none, none, some (.goto (-39), 3, 18, 0, 0), none, none, some (.aload_n 1, 1, 0, 0, 0), some (.aload_n 3, 1, 0, 0, 0), some (.invokevirtual 49, 3, 64, 802, 163), none, none, some (.return_, 1, 0, 0, 0)]
def k_La_factor : List (Option ax_E) := [some (.aload_n 3, 1, 0, 0, 0), some (.iconst 0, 1, 0, 0, 0), some (.aload_n 0, 1, 0, 0, 0), some (.iload_n 1, 1, 0, 0, 0), some (.iload_n 2, 1, 0, 0, 0), some (.invokevirtual 57, 3, 97, 103, 208), none, none, some (.i2l, 1, 0, 0, 0), some (.lastore, 1, 0, 0, 0), some (.goto 7, 3, 17, 0, 0), none, none, some (.astore 4, 2, 0, 0, 0), none, some (.iconst 1, 1, 0, 0, 0), some (.ireturn, 1, 0, 0, 0), some (.iconst 0, 1, 0, 0, 0), some (.ireturn, 1, 0, 0, 0)]
def k_De_factor : List (Option ax_E) := [some (.aload_n 0, 1, 0, 0, 0), some (.iload_n 1, 1, 0, 0, 0), some (.invokevirtual 63, 3, 21, 102, 80), none, none, some (.astore_n 3, 1, 0, 0, 0), some (.iload_n 2, 1, 0, 0, 0), some (.iconst 1, 1, 0, 0, 0), some (.if_icmp .lt 11, 3, 19, 0, 0), none, none, some (.iload_n 2, 1, 0, 0, 0), some (.aload_n 3, 1, 0, 0, 0), some (.invokevirtual 172, 3, 93, 301, 202), none, none, some (.if_icmp .le 5, 3, 21, 0, 0), none, none, some (.iconst (-1), 1, 0, 0, 0), some (.ireturn, 1, 0, 0, 0), some (.aload_n 0, 1, 0, 0, 0), some (.getfield 39, 3, 0, 4, 14), none, none, some (.aload_n 3, 1, 0, 0, 0), some (.invokevirtual 122, 3, 48, 402, 118), none, none, some (.aload_n 0, 1, 0, 0, 0), some (.getfield 39, 3, 0, 4, 14), none, none, some (.iload_n 2, 1, 0, 0, 0), some (.aload_n 0, 1, 0, 0, 0), some (.getfield 57, 3, 0, 7, 21), none, none, some (.invokevirtual 175, 3, 94, 403, 203), none, none, some (.aload_n 0, 1, 0, 0, 0), some (.getfield 57, 3, 0, 7, 21), none, none, some (.invokevirtual 179, 3, 54, 801, 209), none, none, some (.ifCond .eq 5, 3, 53, 0, 0), none, none, some (.iconst (-1), 1, 0, 0, 0), some (.ireturn, 1, 0, 0, 0), some (.aload_n 0, 1, 0, 0, 0), some (.getfield 39, 3, 0, 4, 14), none, none, some (.iload_n 2, 1, 0, 0, 0), some (.iconst 1, 1, 0, 0, 0), some (.isub, 1, 0, 0, 0), some (.aload_n 0, 1, 0, 0, 0), some (.getfield 60, 3, 0, 8, 22), none, none, some (.invokevirtual 175, 3, 94, 403, 203), none, none, some (.aload_n 0, 1, 0, 0, 0), some (.getfield 30, 3, 0, 3, 11), none, none, some (.aload_n 0, 1, 0, 0, 0), some (.getfield 57, 3, 0, 7, 21), none, none, some (.aload_n 0, 1, 0, 0, 0), some (.getfield 60, 3, 0, 8, 22), none, none, some (.aload_n 0, 1, 0, 0, 0), some (.getfield 53, 3, 0, 6, 20), none, none, some (.invokevirtual 182, 3, 63, 204, 210), none, none, some (.aload_n 0, 1, 0, 0, 0), some (.aload_n 0, 1, 0, 0, 0), some (.getfield 53, 3, 0, 6, 20), none, none, some (.invokevirtual 168, 3, 87, 102, 190), none, none, some (.ireturn, 1, 0, 0, 0)]
def k_La_inverse : List (Option ax_E) := [some (.aload 4, 2, 0, 0, 0), none, some (.iconst 0, 1, 0, 0, 0), some (.aload_n 0, 1, 0, 0, 0), some (.iload_n 1, 1, 0, 0, 0), some (.iload_n 2, 1, 0, 0, 0), some (.iload_n 3, 1, 0, 0, 0), some (.invokevirtual 60, 3, 99, 104, 211), none, none, some (.i2l, 1, 0, 0, 0), some (.lastore, 1, 0, 0, 0), some (.goto 7, 3, 19, 0, 0), none, none, some (.astore 5, 2, 0, 0, 0), none, some (.iconst 1, 1, 0, 0, 0), some (.ireturn, 1, 0, 0, 0), some (.iconst 0, 1, 0, 0, 0), some (.ireturn, 1, 0, 0, 0)]
def k_De_inverse : List (Option ax_E) := [some (.aload_n 0, 1, 0, 0, 0), some (.iload_n 1, 1, 0, 0, 0), some (.invokevirtual 63, 3, 21, 102, 80), none, none, some (.astore 4, 2, 0, 0, 0), none, some (.aload 4, 2, 0, 0, 0), none, some (.getfield 96, 3, 2, 1, 75), none, none, some (.aload 4, 2, 0, 0, 0), none, some (.getfield 100, 3, 2, 2, 76), none, none, some (.if_icmp .eq 6, 3, 23, 0, 0), none, none, some (.bipush (-2), 2, 0, 0, 0), none, some (.ireturn, 1, 0, 0, 0), some (.aload 4, 2, 0, 0, 0), none, some (.iload_n 2, 1, 0, 0, 0), some (.iload_n 3, 1, 0, 0, 0), some (.invokevirtual 186, 3, 27, 303, 95), none, none, some (.ifCond .ne 5, 3, 35, 0, 0), none, none, some (.iconst (-1), 1, 0, 0, 0), some (.ireturn, 1, 0, 0, 0), some (.aload_n 0, 1, 0, 0, 0), some (.getfield 39, 3, 0, 4, 14), none, none, some (.aload 4, 2, 0, 0, 0), none, some (.invokevirtual 122, 3, 48, 402, 118), none, none, some (.aload 4, 2, 0, 0, 0), none, some (.getfield 96, 3, 2, 1, 75), none, none, some (.invokestatic 161, 3, 50, 1, 188), none, none, some (.istore 5, 2, 0, 0, 0), none, some (.aload_n 0, 1, 0, 0, 0), some (.getfield 60, 3, 0, 8, 22), none, none, some (.aload_n 0, 1, 0, 0, 0), some (.getfield 39, 3, 0, 4, 14), none, none, some (.iload 5, 2, 0, 0, 0), none, some (.iload 5, 2, 0, 0, 0), none, some (.invokevirtual 164, 3, 85, 403, 189), none, none, some (.invokevirtual 189, 3, 64, 802, 212), none, none, some (.aload_n 0, 1, 0, 0, 0), some (.getfield 60, 3, 0, 8, 22), none, none, some (.invokevirtual 179, 3, 54, 801, 209), none, none, some (.ifCond .eq 5, 3, 84, 0, 0), none, none, some (.iconst (-1), 1, 0, 0, 0), some (.ireturn, 1, 0, 0, 0), some (.aload_n 0, 1, 0, 0, 0), some (.getfield 57, 3, 0, 7, 21), none, none, some (.aload_n 0, 1, 0, 0, 0), some (.getfield 39, 3, 0, 4, 14), none, none, some (.iload 5, 2, 0, 0, 0), none, some (.iconst 1, 1, 0, 0, 0), some (.iload_n 3, 1, 0, 0, 0), some (.ishl, 1, 0, 0, 0), some (.iconst (-1), 1, 0, 0, 0), some (.ixor, 1, 0, 0, 0), some (.iand, 1, 0, 0, 0), some (.iload 5, 2, 0, 0, 0), none, some (.iconst 1, 1, 0, 0, 0), some (.iload_n 2, 1, 0, 0, 0), some (.ishl, 1, 0, 0, 0), some (.iconst (-1), 1, 0, 0, 0), some (.ixor, 1, 0, 0, 0), some (.iand, 1, 0, 0, 0), some (.invokevirtual 164, 3, 85, 403, 189), none, none, some (.invokevirtual 189, 3, 64, 802, 212), none, none, some (.iload_n 2, 1, 0, 0, 0), some (.iload_n 3, 1, 0, 0, 0), some (.iadd, 1, 0, 0, 0), some (.iconst 2, 1, 0, 0, 0), some (.irem, 1, 0, 0, 0), some (.iconst 1, 1, 0, 0, 0), some (.if_icmp .ne 10, 3, 130, 0, 0), none, none, some (.aload_n 0, 1, 0, 0, 0), some (.getfield 57, 3, 0, 7, 21), none, none, some (.invokevirtual 192, 3, 70, 801, 213), none, none, some (.aload_n 0, 1, 0, 0, 0), some (.invokevirtual 195, 3, 100, 101, 214), none, none, some (.aload_n 0, 1, 0, 0, 0), some (.getfield 23, 3, 0, 2, 8), none, none, some (.getfield 198, 3, 4, 1, 77), none, none, some (.ireturn, 1, 0, 0, 0)]
def k_De_printFraction : List (Option ax_E) := [some (.aload_n 0, 1, 0, 0, 0), some (.getfield 57, 3, 0, 7, 21), none, none, some (.getfield 236, 3, 7, 2, 215), none, none, some (.aload_n 0, 1, 0, 0, 0), some (.getfield 60, 3, 0, 8, 22), none, none, some (.getfield 236, 3, 7, 2, 215), none, none, some (.if_icmp .eq 17, 3, 31, 0, 0), none, none, some (.aload_n 0, 1, 0, 0, 0), some (.getfield 57, 3, 0, 7, 21), none, none, some (.invokevirtual 179, 3, 54, 801, 209), none, none, some (.ifCond .ne 7, 3, 31, 0, 0), none, none, some (.iconst 1, 1, 0, 0, 0), some (.goto 4, 3, 32, 0, 0), none, none, some (.iconst 0, 1, 0, 0, 0), some (.istore_n 1, 1, 0, 0, 0), some (.aload_n 0, 1, 0, 0, 0), some (.getfield 30, 3, 0, 3, 11), none, none, some (.aload_n 0, 1, 0, 0, 0), some (.getfield 57, 3, 0, 7, 21), none, none, some (.aload_n 0, 1, 0, 0, 0), some (.getfield 60, 3, 0, 8, 22), none, none, some (.invokevirtual 240, 3, 101, 203, 216), none, none, some (.aload_n 0, 1, 0, 0, 0), some (.getfield 23, 3, 0, 2, 8), none, none, some (.invokevirtual 232, 3, 88, 501, 192), none, none, some (.iload_n 1, 1, 0, 0, 0), some (.ifCond .eq 12, 3, 68, 0, 0), none, none, some (.aload_n 0, 1, 0, 0, 0), some (.getfield 23, 3, 0, 2, 8), none, none, some (.bipush 45, 2, 0, 0, 0), none, some (.invokevirtual 244, 3, 90, 502, 217), none, none, some (.aload_n 0, 1, 0, 0, 0), some (.getfield 23, 3, 0, 2, 8), none, none, some (.aload_n 0, 1, 0, 0, 0), some (.getfield 57, 3, 0, 7, 21), none, none, some (.invokevirtual 233, 3, 89, 502, 193), none, none, some (.aload_n 0, 1, 0, 0, 0), some (.getfield 60, 3, 0, 8, 22), none, none, some (.invokevirtual 248, 3, 103, 801, 218), none, none, some (.ifCond .ne 23, 3, 109, 0, 0), none, none, some (.aload_n 0, 1, 0, 0, 0), some (.getfield 23, 3, 0, 2, 8), none, none, some (.bipush 47, 2, 0, 0, 0), none, some (.invokevirtual 244, 3, 90, 502, 217), none, none, some (.aload_n 0, 1, 0, 0, 0), some (.getfield 23, 3, 0, 2, 8), none, none, some (.aload_n 0, 1, 0, 0, 0), some (.getfield 60, 3, 0, 8, 22), none, none, some (.invokevirtual 233, 3, 89, 502, 193), none, none, some (.return_, 1, 0, 0, 0)]
def k_Di_lowerTerms : List (Option ax_E) := [some (.aload_n 0, 1, 0, 0, 0), some (.getfield 21, 3, 1, 2, 34), none, none, some (.aload_n 1, 1, 0, 0, 0), some (.invokevirtual 49, 3, 64, 802, 163), none, none, some (.aload_n 0, 1, 0, 0, 0), some (.getfield 24, 3, 1, 3, 35), none, none, some (.aload_n 2, 1, 0, 0, 0), some (.invokevirtual 49, 3, 64, 802, 163), none, none, some (.aload_n 0, 1, 0, 0, 0), some (.aload_n 0, 1, 0, 0, 0), some (.getfield 21, 3, 1, 2, 34), none, none, some (.aload_n 0, 1, 0, 0, 0), some (.getfield 24, 3, 1, 3, 35), none, none, some (.invokevirtual 99, 3, 95, 203, 219), none, none, some (.aload_n 0, 1, 0, 0, 0), some (.aload_n 1, 1, 0, 0, 0), some (.invokevirtual 103, 3, 102, 202, 220), none, none, some (.aload_n 0, 1, 0, 0, 0), some (.aload_n 2, 1, 0, 0, 0), some (.invokevirtual 103, 3, 102, 202, 220), none, none, some (.return_, 1, 0, 0, 0)]
def k_Di_lower : List (Option ax_E) := [some (.aload_n 1, 1, 0, 0, 0), some (.iconst 0, 1, 0, 0, 0), some (.putfield 41, 3, 7, 2, 161), none, none, some (.aload_n 0, 1, 0, 0, 0), some (.aload_n 1, 1, 0, 0, 0), some (.aload_n 0, 1, 0, 0, 0), some (.getfield 21, 3, 1, 2, 34), none, none, some (.aload_n 0, 1, 0, 0, 0), some (.getfield 18, 3, 1, 1, 33), none, none, some (.invokevirtual 96, 3, 63, 204, 207), none, none, some (.aload_n 1, 1, 0, 0, 0), some (.aload_n 0, 1, 0, 0, 0), some (.getfield 18, 3, 1, 1, 33), none, none, some (.invokevirtual 49, 3, 64, 802, 163), none, none, some (.return_, 1, 0, 0, 0)]
def k_Wh_isOne : List (Option ax_E) := [some (.aload_n 0, 1, 0, 0, 0), some (.getfield 15, 3, 7, 1, 46), none, none, some (.iconst 1, 1, 0, 0, 0), some (.if_icmp .ne 24, 3, 29, 0, 0), none, none, some (.aload_n 0, 1, 0, 0, 0), some (.getfield 11, 3, 7, 0, 39), none, none, some (.iconst 0, 1, 0, 0, 0), some (.iaload, 1, 0, 0, 0), some (.iconst 1, 1, 0, 0, 0), some (.if_icmp .ne 14, 3, 29, 0, 0), none, none, some (.aload_n 0, 1, 0, 0, 0), some (.getfield 19, 3, 7, 2, 45), none, none, some (.ifCond .ne 7, 3, 29, 0, 0), none, none, some (.iconst 1, 1, 0, 0, 0), some (.goto 4, 3, 30, 0, 0), none, none, some (.iconst 0, 1, 0, 0, 0), some (.ireturn, 1, 0, 0, 0)]
def k_La_characteristic : List (Option ax_E) := [some (.aload_n 3, 1, 0, 0, 0), some (.iconst 0, 1, 0, 0, 0), some (.aload_n 0, 1, 0, 0, 0), some (.iload_n 1, 1, 0, 0, 0), some (.iload_n 2, 1, 0, 0, 0), some (.invokevirtual 63, 3, 105, 103, 221), none, none, some (.i2l, 1, 0, 0, 0), some (.lastore, 1, 0, 0, 0), some (.goto 7, 3, 17, 0, 0), none, none, some (.astore 4, 2, 0, 0, 0), none, some (.iconst 1, 1, 0, 0, 0), some (.ireturn, 1, 0, 0, 0), some (.iconst 0, 1, 0, 0, 0), some (.ireturn, 1, 0, 0, 0)]
def k_De_characteristic : List (Option ax_E) := [some (.aload_n 0, 1, 0, 0, 0), some (.iload_n 1, 1, 0, 0, 0), some (.invokevirtual 63, 3, 21, 102, 80), none, none, some (.astore_n 3, 1, 0, 0, 0), some (.aload_n 3, 1, 0, 0, 0), some (.getfield 96, 3, 2, 1, 75), none, none, some (.aload_n 3, 1, 0, 0, 0), some (.getfield 100, 3, 2, 2, 76), none, none, some (.if_icmp .eq 6, 3, 20, 0, 0), none, none, some (.bipush (-2), 2, 0, 0, 0), none, some (.ireturn, 1, 0, 0, 0), some (.iload_n 2, 1, 0, 0, 0), some (.ifCond .lt 11, 3, 32, 0, 0), none, none, some (.iload_n 2, 1, 0, 0, 0), some (.aload_n 3, 1, 0, 0, 0), some (.getfield 96, 3, 2, 1, 75), none, none, some (.if_icmp .le 5, 3, 34, 0, 0), none, none, some (.iconst (-1), 1, 0, 0, 0), some (.ireturn, 1, 0, 0, 0), some (.aload_n 0, 1, 0, 0, 0), some (.getfield 39, 3, 0, 4, 14), none, none, some (.aload_n 3, 1, 0, 0, 0), some (.invokevirtual 122, 3, 48, 402, 118), none, none, some (.aload_n 3, 1, 0, 0, 0), some (.getfield 96, 3, 2, 1, 75), none, none, some (.iload_n 2, 1, 0, 0, 0), some (.isub, 1, 0, 0, 0), some (.istore 4, 2, 0, 0, 0), none, some (.aload_n 0, 1, 0, 0, 0), some (.getfield 39, 3, 0, 4, 14), none, none, some (.iload 4, 2, 0, 0, 0), none, some (.aload_n 0, 1, 0, 0, 0), some (.getfield 53, 3, 0, 6, 20), none, none, some (.invokevirtual 201, 3, 106, 403, 222), none, none, some (.iload 4, 2, 0, 0, 0), none, some (.iconst 2, 1, 0, 0, 0), some (.irem, 1, 0, 0, 0), some (.iconst 1, 1, 0, 0, 0), some (.if_icmp .ne 10, 3, 78, 0, 0), none, none, some (.aload_n 0, 1, 0, 0, 0), some (.getfield 53, 3, 0, 6, 20), none, none, some (.invokevirtual 192, 3, 70, 801, 213), none, none, some (.aload_n 0, 1, 0, 0, 0), some (.aload_n 0, 1, 0, 0, 0), some (.getfield 53, 3, 0, 6, 20), none, none, some (.invokevirtual 168, 3, 87, 102, 190), none, none, some (.ireturn, 1, 0, 0, 0)]
def k_Mi_principalSum : List (Option ax_E) := [some (.aload_n 2, 1, 0, 0, 0), some (.iload_n 1, 1, 0, 0, 0), some (.ifCond .ne 7, 3, 9, 0, 0), none, none, some (.lconst 1, 1, 0, 0, 0), some (.goto 4, 3, 10, 0, 0), none, none, some (.lconst 0, 1, 0, 0, 0), some (.invokevirtual 25, 3, 5, 802, 59), none, none, some (.iconst 1, 1, 0, 0, 0), some (.istore_n 3, 1, 0, 0, 0), some (.iload_n 3, 1, 0, 0, 0), some (.aload_n 0, 1, 0, 0, 0), some (.getfield 35, 3, 3, 3, 121), none, none, some (.invokestatic 56, 3, 50, 1, 125), none, none, some (.if_icmp .gt 28, 3, 51, 0, 0), none, none, some (.iload_n 3, 1, 0, 0, 0), some (.invokestatic 68, 3, 52, 1, 128), none, none, some (.iload_n 1, 1, 0, 0, 0), some (.if_icmp .ne 14, 3, 45, 0, 0), none, none, some (.aload_n 2, 1, 0, 0, 0), some (.aload_n 0, 1, 0, 0, 0), some (.iload_n 3, 1, 0, 0, 0), some (.iload_n 3, 1, 0, 0, 0), some (.invokevirtual 79, 3, 85, 403, 223), none, none, some (.iconst 1, 1, 0, 0, 0), some (.invokevirtual 82, 3, 71, 803, 224), none, none, some (.iinc 3 1, 3, 0, 0, 0), none, none, some (.goto (-33), 3, 15, 0, 0), none, none, some (.return_, 1, 0, 0, 0)]
def k_La_same : List (Option ax_E) := [some (.aload_n 3, 1, 0, 0, 0), some (.iconst 0, 1, 0, 0, 0), some (.aload_n 0, 1, 0, 0, 0), some (.iload_n 1, 1, 0, 0, 0), some (.iload_n 2, 1, 0, 0, 0), some (.invokevirtual 66, 3, 108, 103, 225), none, none, some (.ifCond .eq 7, 3, 15, 0, 0), none, none, some (.lconst 1, 1, 0, 0, 0), some (.goto 4, 3, 16, 0, 0), none, none, some (.lconst 0, 1, 0, 0, 0), some (.lastore, 1, 0, 0, 0), some (.goto 7, 3, 24, 0, 0), none, none, some (.astore 4, 2, 0, 0, 0), none, some (.iconst 1, 1, 0, 0, 0), some (.ireturn, 1, 0, 0, 0), some (.iconst 0, 1, 0, 0, 0), some (.ireturn, 1, 0, 0, 0)]
def k_De_same : List (Option ax_E) := [some (.aload_n 0, 1, 0, 0, 0), some (.iload_n 1, 1, 0, 0, 0), some (.invokevirtual 63, 3, 21, 102, 80), none, none, some (.astore_n 3, 1, 0, 0, 0), some (.aload_n 0, 1, 0, 0, 0), some (.iload_n 2, 1, 0, 0, 0), some (.invokevirtual 63, 3, 21, 102, 80), none, none, some (.astore 4, 2, 0, 0, 0), none, some (.aload_n 3, 1, 0, 0, 0), some (.getfield 96, 3, 2, 1, 75), none, none, some (.aload 4, 2, 0, 0, 0), none, some (.getfield 96, 3, 2, 1, 75), none, none, some (.if_icmp .ne 15, 3, 37, 0, 0), none, none, some (.aload_n 3, 1, 0, 0, 0), some (.getfield 100, 3, 2, 2, 76), none, none, some (.aload 4, 2, 0, 0, 0), none, some (.getfield 100, 3, 2, 2, 76), none, none, some (.if_icmp .eq 5, 3, 39, 0, 0), none, none, some (.iconst 0, 1, 0, 0, 0), some (.ireturn, 1, 0, 0, 0), some (.iconst 0, 1, 0, 0, 0), some (.istore 5, 2, 0, 0, 0), none, some (.iload 5, 2, 0, 0, 0), none, some (.aload_n 3, 1, 0, 0, 0), some (.getfield 96, 3, 2, 1, 75), none, none, some (.if_icmp .ge 50, 3, 98, 0, 0), none, none, some (.iconst 0, 1, 0, 0, 0), some (.istore 6, 2, 0, 0, 0), none, some (.iload 6, 2, 0, 0, 0), none, some (.aload_n 3, 1, 0, 0, 0), some (.getfield 100, 3, 2, 2, 76), none, none, some (.if_icmp .ge 32, 3, 92, 0, 0), none, none, some (.aload_n 3, 1, 0, 0, 0), some (.iload 5, 2, 0, 0, 0), none, some (.iload 6, 2, 0, 0, 0), none, some (.invokevirtual 92, 3, 31, 303, 99), none, none, some (.aload 4, 2, 0, 0, 0), none, some (.iload 5, 2, 0, 0, 0), none, some (.iload 6, 2, 0, 0, 0), none, some (.invokevirtual 92, 3, 31, 303, 99), none, none, some (.lcmp, 1, 0, 0, 0), some (.ifCond .eq 5, 3, 86, 0, 0), none, none, some (.iconst 0, 1, 0, 0, 0), some (.ireturn, 1, 0, 0, 0), some (.iinc 6 1, 3, 0, 0, 0), none, none, some (.goto (-35), 3, 54, 0, 0), none, none, some (.iinc 5 1, 3, 0, 0, 0), none, none, some (.goto (-53), 3, 42, 0, 0), none, none, some (.iconst 1, 1, 0, 0, 0), some (.ireturn, 1, 0, 0, 0)]
def k_La_check : List (Option ax_E) := [some (.aload_n 2, 1, 0, 0, 0), some (.iconst 0, 1, 0, 0, 0), some (.aload_n 0, 1, 0, 0, 0), some (.iload_n 1, 1, 0, 0, 0), some (.invokevirtual 70, 3, 110, 102, 226), none, none, some (.i2l, 1, 0, 0, 0), some (.lastore, 1, 0, 0, 0), some (.goto 6, 3, 15, 0, 0), none, none, some (.astore_n 3, 1, 0, 0, 0), some (.iconst 1, 1, 0, 0, 0), some (.ireturn, 1, 0, 0, 0), some (.iconst 0, 1, 0, 0, 0), some (.ireturn, 1, 0, 0, 0)]
def k_De_check : List (Option ax_E) := [some (.aload_n 0, 1, 0, 0, 0), some (.iload_n 1, 1, 0, 0, 0), some (.invokevirtual 63, 3, 21, 102, 80), none, none, some (.astore_n 2, 1, 0, 0, 0), some (.aload_n 0, 1, 0, 0, 0), some (.getfield 46, 3, 0, 5, 17), none, none, some (.aload_n 2, 1, 0, 0, 0), some (.iconst 0, 1, 0, 0, 0), some (.invokevirtual 129, 3, 57, 703, 136), none, none, some (.aload_n 0, 1, 0, 0, 0), some (.getfield 46, 3, 0, 5, 17), none, none, some (.aload_n 2, 1, 0, 0, 0), some (.getfield 96, 3, 2, 1, 75), none, none, some (.aload_n 2, 1, 0, 0, 0), some (.getfield 100, 3, 2, 2, 76), none, none, some (.invokevirtual 208, 3, 111, 703, 227), none, none, some (.ifCond .eq 31, 3, 61, 0, 0), none, none, some (.aload_n 0, 1, 0, 0, 0), some (.aload_n 2, 1, 0, 0, 0), some (.invokevirtual 211, 3, 113, 102, 228), none, none, some (.ifCond .eq 23, 3, 61, 0, 0), none, none, some (.aload_n 0, 1, 0, 0, 0), some (.aload_n 2, 1, 0, 0, 0), some (.invokevirtual 215, 3, 114, 102, 229), none, none, some (.ifCond .eq 15, 3, 61, 0, 0), none, none, some (.aload_n 0, 1, 0, 0, 0), some (.aload_n 2, 1, 0, 0, 0), some (.invokevirtual 218, 3, 115, 102, 230), none, none, some (.ifCond .eq 7, 3, 61, 0, 0), none, none, some (.iconst 1, 1, 0, 0, 0), some (.goto 4, 3, 62, 0, 0), none, none, some (.iconst 0, 1, 0, 0, 0), some (.ireturn, 1, 0, 0, 0)]
def k_St_isHermite : List (Option ax_E) := [some (.iconst (-1), 1, 0, 0, 0), some (.istore_n 3, 1, 0, 0, 0), some (.iconst 0, 1, 0, 0, 0), some (.istore 4, 2, 0, 0, 0), none, some (.iload 4, 2, 0, 0, 0), none, some (.iload_n 1, 1, 0, 0, 0), some (.if_icmp .ge 50, 3, 58, 0, 0), none, none, some (.aload_n 0, 1, 0, 0, 0), some (.getfield 24, 3, 6, 2, 66), none, none, some (.iload 4, 2, 0, 0, 0), none, some (.aaload, 1, 0, 0, 0), some (.iload_n 2, 1, 0, 0, 0), some (.invokevirtual 51, 3, 60, 602, 144), none, none, some (.istore 5, 2, 0, 0, 0), none, some (.iload 5, 2, 0, 0, 0), none, some (.iload_n 2, 1, 0, 0, 0), some (.if_icmp .ge 22, 3, 49, 0, 0), none, none, some (.iload 5, 2, 0, 0, 0), none, some (.iload_n 3, 1, 0, 0, 0), some (.if_icmp .le 14, 3, 47, 0, 0), none, none, some (.aload_n 0, 1, 0, 0, 0), some (.iload 4, 2, 0, 0, 0), none, some (.iload 5, 2, 0, 0, 0), none, some (.invokevirtual 85, 3, 112, 703, 231), none, none, some (.ifCond .ne 5, 3, 49, 0, 0), none, none, some (.iconst 0, 1, 0, 0, 0), some (.ireturn, 1, 0, 0, 0), some (.iload 5, 2, 0, 0, 0), none, some (.istore_n 3, 1, 0, 0, 0), some (.iinc 4 1, 3, 0, 0, 0), none, none, some (.goto (-50), 3, 5, 0, 0), none, none, some (.iconst 1, 1, 0, 0, 0), some (.ireturn, 1, 0, 0, 0)]
def k_St_isLead : List (Option ax_E) := [some (.aload_n 0, 1, 0, 0, 0), some (.iload_n 1, 1, 0, 0, 0), some (.iload_n 2, 1, 0, 0, 0), some (.invokevirtual 89, 3, 76, 703, 232), none, none, some (.astore_n 3, 1, 0, 0, 0), some (.aload_n 3, 1, 0, 0, 0), some (.getfield 92, 3, 7, 2, 177), none, none, some (.ifCond .eq 5, 3, 16, 0, 0), none, none, some (.iconst 0, 1, 0, 0, 0), some (.ireturn, 1, 0, 0, 0), some (.iconst 0, 1, 0, 0, 0), some (.istore 4, 2, 0, 0, 0), none, some (.iload 4, 2, 0, 0, 0), none, some (.iload_n 1, 1, 0, 0, 0), some (.if_icmp .ge 37, 3, 59, 0, 0), none, none, some (.aload_n 0, 1, 0, 0, 0), some (.iload 4, 2, 0, 0, 0), none, some (.iload_n 2, 1, 0, 0, 0), some (.invokevirtual 89, 3, 76, 703, 232), none, none, some (.astore 5, 2, 0, 0, 0), none, some (.aload 5, 2, 0, 0, 0), none, some (.getfield 92, 3, 7, 2, 177), none, none, some (.ifCond .ne 12, 3, 51, 0, 0), none, none, some (.aload 5, 2, 0, 0, 0), none, some (.aload_n 3, 1, 0, 0, 0), some (.invokevirtual 96, 3, 66, 802, 233), none, none, some (.ifCond .ne 5, 3, 53, 0, 0), none, none, some (.iconst 0, 1, 0, 0, 0), some (.ireturn, 1, 0, 0, 0), some (.iinc 4 1, 3, 0, 0, 0), none, none, some (.goto (-37), 3, 19, 0, 0), none, none, some (.iconst 1, 1, 0, 0, 0), some (.ireturn, 1, 0, 0, 0)]
def k_De_stepsComeToForm : List (Option ax_E) := [some (.iconst 0, 1, 0, 0, 0), some (.istore_n 2, 1, 0, 0, 0), some (.iload_n 2, 1, 0, 0, 0), some (.aload_n 1, 1, 0, 0, 0), some (.getfield 96, 3, 2, 1, 75), none, none, some (.if_icmp .ge 120, 3, 127, 0, 0), none, none, some (.iconst 0, 1, 0, 0, 0), some (.istore_n 3, 1, 0, 0, 0), some (.iload_n 3, 1, 0, 0, 0), some (.aload_n 1, 1, 0, 0, 0), some (.getfield 100, 3, 2, 2, 76), none, none, some (.if_icmp .ge 104, 3, 121, 0, 0), none, none, some (.aload_n 0, 1, 0, 0, 0), some (.getfield 53, 3, 0, 6, 20), none, none, some (.invokevirtual 103, 3, 6, 801, 101), none, none, some (.iconst 0, 1, 0, 0, 0), some (.istore 4, 2, 0, 0, 0), none, some (.iload 4, 2, 0, 0, 0), none, some (.aload_n 1, 1, 0, 0, 0), some (.getfield 96, 3, 2, 1, 75), none, none, some (.if_icmp .ge 50, 3, 86, 0, 0), none, none, some (.aload_n 0, 1, 0, 0, 0), some (.getfield 57, 3, 0, 7, 21), none, none, some (.aload_n 1, 1, 0, 0, 0), some (.iload 4, 2, 0, 0, 0), none, some (.iload_n 3, 1, 0, 0, 0), some (.invokevirtual 92, 3, 31, 303, 99), none, none, some (.invokevirtual 151, 3, 5, 802, 106), none, none, some (.aload_n 0, 1, 0, 0, 0), some (.getfield 53, 3, 0, 6, 20), none, none, some (.aload_n 0, 1, 0, 0, 0), some (.getfield 57, 3, 0, 7, 21), none, none, some (.aload_n 0, 1, 0, 0, 0), some (.getfield 46, 3, 0, 5, 17), none, none, some (.iload_n 2, 1, 0, 0, 0), some (.aload_n 1, 1, 0, 0, 0), some (.getfield 100, 3, 2, 2, 76), none, none, some (.iload 4, 2, 0, 0, 0), none, some (.iadd, 1, 0, 0, 0), some (.invokevirtual 251, 3, 76, 703, 180), none, none, some (.iconst 1, 1, 0, 0, 0), some (.invokevirtual 228, 3, 35, 804, 107), none, none, some (.iinc 4 1, 3, 0, 0, 0), none, none, some (.goto (-53), 3, 30, 0, 0), none, none, some (.aload_n 0, 1, 0, 0, 0), some (.getfield 53, 3, 0, 6, 20), none, none, some (.aload_n 0, 1, 0, 0, 0), some (.getfield 46, 3, 0, 5, 17), none, none, some (.iload_n 2, 1, 0, 0, 0), some (.iload_n 3, 1, 0, 0, 0), some (.invokevirtual 251, 3, 76, 703, 180), none, none, some (.iconst (-1), 1, 0, 0, 0), some (.invokevirtual 253, 3, 71, 803, 234), none, none, some (.aload_n 0, 1, 0, 0, 0), some (.getfield 53, 3, 0, 6, 20), none, none, some (.invokevirtual 179, 3, 54, 801, 209), none, none, some (.ifCond .ne 5, 3, 115, 0, 0), none, none, some (.iconst 0, 1, 0, 0, 0), some (.ireturn, 1, 0, 0, 0), some (.iinc 3 1, 3, 0, 0, 0), none, none, some (.goto (-106), 3, 12, 0, 0), none, none, some (.iinc 2 1, 3, 0, 0, 0), none, none, some (.goto (-122), 3, 2, 0, 0), none, none, some (.iconst 1, 1, 0, 0, 0), some (.ireturn, 1, 0, 0, 0)]
def k_De_stepsGoBack : List (Option ax_E) := [some (.aload_n 1, 1, 0, 0, 0), some (.getfield 100, 3, 2, 2, 76), none, none, some (.aload_n 1, 1, 0, 0, 0), some (.getfield 96, 3, 2, 1, 75), none, none, some (.iadd, 1, 0, 0, 0), some (.istore_n 2, 1, 0, 0, 0), some (.iconst 0, 1, 0, 0, 0), some (.istore_n 3, 1, 0, 0, 0), some (.iload_n 3, 1, 0, 0, 0), some (.aload_n 1, 1, 0, 0, 0), some (.getfield 96, 3, 2, 1, 75), none, none, some (.if_icmp .ge 52, 3, 69, 0, 0), none, none, some (.aload_n 0, 1, 0, 0, 0), some (.getfield 46, 3, 0, 5, 17), none, none, some (.invokevirtual 141, 3, 82, 701, 183), none, none, some (.astore 4, 2, 0, 0, 0), none, some (.aload_n 0, 1, 0, 0, 0), some (.getfield 46, 3, 0, 5, 17), none, none, some (.aload 4, 2, 0, 0, 0), none, some (.aload_n 1, 1, 0, 0, 0), some (.iload_n 3, 1, 0, 0, 0), some (.iconst 0, 1, 0, 0, 0), some (.invokevirtual 257, 3, 58, 705, 235), none, none, some (.aload_n 0, 1, 0, 0, 0), some (.getfield 46, 3, 0, 5, 17), none, none, some (.aload 4, 2, 0, 0, 0), none, some (.iconst 0, 1, 0, 0, 0), some (.invokevirtual 154, 3, 72, 703, 185), none, none, some (.aload 4, 2, 0, 0, 0), none, some (.iload_n 2, 1, 0, 0, 0), some (.invokevirtual 158, 3, 60, 602, 186), none, none, some (.iload_n 2, 1, 0, 0, 0), some (.if_icmp .ge 5, 3, 63, 0, 0), none, none, some (.iconst 0, 1, 0, 0, 0), some (.ireturn, 1, 0, 0, 0), some (.iinc 3 1, 3, 0, 0, 0), none, none, some (.goto (-54), 3, 12, 0, 0), none, none, some (.iconst 1, 1, 0, 0, 0), some (.ireturn, 1, 0, 0, 0)]
def k_De_stepsHaveUnitDeterminant : List (Option ax_E) := [some (.aload_n 0, 1, 0, 0, 0), some (.getfield 39, 3, 0, 4, 14), none, none, some (.aload_n 0, 1, 0, 0, 0), some (.getfield 46, 3, 0, 5, 17), none, none, some (.aload_n 1, 1, 0, 0, 0), some (.getfield 100, 3, 2, 2, 76), none, none, some (.aload_n 1, 1, 0, 0, 0), some (.getfield 96, 3, 2, 1, 75), none, none, some (.invokevirtual 261, 3, 116, 404, 236), none, none, some (.aload_n 0, 1, 0, 0, 0), some (.getfield 53, 3, 0, 6, 20), none, none, some (.aload_n 0, 1, 0, 0, 0), some (.getfield 39, 3, 0, 4, 14), none, none, some (.aload_n 1, 1, 0, 0, 0), some (.getfield 96, 3, 2, 1, 75), none, none, some (.invokestatic 161, 3, 50, 1, 188), none, none, some (.aload_n 1, 1, 0, 0, 0), some (.getfield 96, 3, 2, 1, 75), none, none, some (.invokestatic 161, 3, 50, 1, 188), none, none, some (.invokevirtual 164, 3, 85, 403, 189), none, none, some (.invokevirtual 189, 3, 64, 802, 212), none, none, some (.aload_n 0, 1, 0, 0, 0), some (.getfield 53, 3, 0, 6, 20), none, none, some (.iconst 0, 1, 0, 0, 0), some (.putfield 236, 3, 7, 2, 215), none, none, some (.aload_n 0, 1, 0, 0, 0), some (.getfield 53, 3, 0, 6, 20), none, none, some (.invokevirtual 248, 3, 103, 801, 218), none, none, some (.ireturn, 1, 0, 0, 0)]
def k_Mi_readSquare : List (Option ax_E) := [some (.aload_n 0, 1, 0, 0, 0), some (.iload_n 3, 1, 0, 0, 0), some (.putfield 35, 3, 3, 3, 121), none, none, some (.aload_n 0, 1, 0, 0, 0), some (.iload_n 3, 1, 0, 0, 0), some (.putfield 39, 3, 3, 4, 123), none, none, some (.iconst 0, 1, 0, 0, 0), some (.istore 4, 2, 0, 0, 0), none, some (.iload 4, 2, 0, 0, 0), none, some (.aload_n 0, 1, 0, 0, 0), some (.getfield 35, 3, 3, 3, 121), none, none, some (.if_icmp .ge 53, 3, 72, 0, 0), none, none, some (.iconst 0, 1, 0, 0, 0), some (.istore 5, 2, 0, 0, 0), none, some (.iload 5, 2, 0, 0, 0), none, some (.aload_n 0, 1, 0, 0, 0), some (.getfield 39, 3, 3, 4, 123), none, none, some (.if_icmp .ge 35, 3, 66, 0, 0), none, none, some (.aload_n 0, 1, 0, 0, 0), some (.getfield 17, 3, 3, 1, 55), none, none, some (.iload 4, 2, 0, 0, 0), none, some (.bipush 6, 2, 0, 0, 0), none, some (.imul, 1, 0, 0, 0), some (.iload 5, 2, 0, 0, 0), none, some (.iadd, 1, 0, 0, 0), some (.aaload, 1, 0, 0, 0), some (.aload_n 1, 1, 0, 0, 0), some (.iload 4, 2, 0, 0, 0), none, some (.iload_n 2, 1, 0, 0, 0), some (.iload 5, 2, 0, 0, 0), none, some (.iadd, 1, 0, 0, 0), some (.invokevirtual 44, 3, 76, 703, 237), none, none, some (.invokevirtual 49, 3, 64, 802, 238), none, none, some (.iinc 5 1, 3, 0, 0, 0), none, none, some (.goto (-38), 3, 25, 0, 0), none, none, some (.iinc 4 1, 3, 0, 0, 0), none, none, some (.goto (-56), 3, 13, 0, 0), none, none, some (.return_, 1, 0, 0, 0)]
def k_Mo_init : List (Option ax_E) := [some (.aload_n 0, 1, 0, 0, 0), some (.invokespecial 46, 3, 1000, 0, 239), none, none, some (.aload_n 0, 1, 0, 0, 0), some (.ldc 52, 2, 4, 0, 240), none, some (.newarray .int, 2, 0, 0, 0), none, some (.putfield 7, 3, 8, 0, 241), none, none, some (.aload_n 0, 1, 0, 0, 0), some (.sipush 277, 3, 0, 0, 0), none, none, some (.newarray .int, 2, 0, 0, 0), none, some (.putfield 13, 3, 8, 1, 242), none, none, some (.aload_n 0, 1, 0, 0, 0), some (.sipush 277, 3, 0, 0, 0), none, none, some (.newarray .boolean, 2, 0, 0, 0), none, some (.putfield 1, 3, 8, 2, 243), none, none, some (.aload_n 0, 1, 0, 0, 0), some (.sipush 216, 3, 0, 0, 0), none, none, some (.newarray .long, 2, 0, 0, 0), none, some (.putfield 53, 3, 8, 4, 244), none, none, some (.aload_n 0, 1, 0, 0, 0), some (.bipush 6, 2, 0, 0, 0), none, some (.newarray .int, 2, 0, 0, 0), none, some (.putfield 57, 3, 8, 5, 245), none, none, some (.aload_n 0, 1, 0, 0, 0), some (.bipush 6, 2, 0, 0, 0), none, some (.newarray .int, 2, 0, 0, 0), none, some (.putfield 60, 3, 8, 6, 246), none, none, some (.aload_n 0, 1, 0, 0, 0), some (.bipush 72, 2, 0, 0, 0), none, some (.newarray .long, 2, 0, 0, 0), none, some (.putfield 63, 3, 8, 7, 247), none, none, some (.aload_n 0, 1, 0, 0, 0), some (.bipush 6, 2, 0, 0, 0), none, some (.newarray .int, 2, 0, 0, 0), none, some (.putfield 66, 3, 8, 10, 248), none, none, some (.aload_n 0, 1, 0, 0, 0), some (.bipush 6, 2, 0, 0, 0), none, some (.newarray .int, 2, 0, 0, 0), none, some (.putfield 69, 3, 8, 12, 249), none, none, some (.aload_n 0, 1, 0, 0, 0), some (.sipush 1200, 3, 0, 0, 0), none, none, some (.newarray .int, 2, 0, 0, 0), none, some (.putfield 72, 3, 8, 14, 250), none, none, some (.aload_n 0, 1, 0, 0, 0), some (.sipush 600, 3, 0, 0, 0), none, none, some (.newarray .int, 2, 0, 0, 0), none, some (.putfield 75, 3, 8, 16, 251), none, none, some (.iconst 0, 1, 0, 0, 0), some (.istore_n 1, 1, 0, 0, 0), some (.iload_n 1, 1, 0, 0, 0), some (.bipush 6, 2, 0, 0, 0), none, some (.if_icmp .ge 23, 3, 125, 0, 0), none, none, some (.aload_n 0, 1, 0, 0, 0), some (.getfield 57, 3, 8, 5, 245), none, none, some (.iload_n 1, 1, 0, 0, 0), some (.iconst 1, 1, 0, 0, 0), some (.iastore, 1, 0, 0, 0), some (.aload_n 0, 1, 0, 0, 0), some (.getfield 60, 3, 8, 6, 246), none, none, some (.iload_n 1, 1, 0, 0, 0), some (.iconst 1, 1, 0, 0, 0), some (.iastore, 1, 0, 0, 0), some (.iinc 1 1, 3, 0, 0, 0), none, none, some (.goto (-23), 3, 99, 0, 0), none, none, some (.return_, 1, 0, 0, 0)]
def k_Mo_thrown : List (Option ax_E) := [some (.aload_n 0, 1, 0, 0, 0), some (.getfield 78, 3, 8, 3, 252), none, none, some (.ireturn, 1, 0, 0, 0)]
def k_Mo_make : List (Option ax_E) := [some (.aload_n 0, 1, 0, 0, 0), some (.aload_n 0, 1, 0, 0, 0), some (.iload_n 1, 1, 0, 0, 0), some (.invokevirtual 82, 3, 120, 902, 253), none, none, some (.ifCond .ne 7, 3, 13, 0, 0), none, none, some (.iconst 1, 1, 0, 0, 0), some (.goto 30, 3, 40, 0, 0), none, none, some (.iload_n 2, 1, 0, 0, 0), some (.iconst 1, 1, 0, 0, 0), some (.if_icmp .lt 20, 3, 35, 0, 0), none, none, some (.iload_n 2, 1, 0, 0, 0), some (.bipush 6, 2, 0, 0, 0), none, some (.if_icmp .gt 14, 3, 35, 0, 0), none, none, some (.iload_n 3, 1, 0, 0, 0), some (.iconst 1, 1, 0, 0, 0), some (.if_icmp .lt 9, 3, 35, 0, 0), none, none, some (.iload_n 3, 1, 0, 0, 0), some (.bipush 6, 2, 0, 0, 0), none, some (.if_icmp .le 7, 3, 39, 0, 0), none, none, some (.iconst 2, 1, 0, 0, 0), some (.goto 4, 3, 40, 0, 0), none, none, some (.iconst 0, 1, 0, 0, 0), some (.putfield 78, 3, 8, 3, 252), none, none, some (.aload_n 0, 1, 0, 0, 0), some (.getfield 78, 3, 8, 3, 252), none, none, some (.ifCond .ne 10, 3, 57, 0, 0), none, none, some (.aload_n 0, 1, 0, 0, 0), some (.iload_n 1, 1, 0, 0, 0), some (.iload_n 2, 1, 0, 0, 0), some (.iload_n 3, 1, 0, 0, 0), some (.invokevirtual 86, 3, 121, 904, 254), none, none, some (.return_, 1, 0, 0, 0)]
def k_Mo_isMatrix : List (Option ax_E) := [some (.iload_n 1, 1, 0, 0, 0), some (.ifCond .lt 13, 3, 14, 0, 0), none, none, some (.iload_n 1, 1, 0, 0, 0), some (.bipush 6, 2, 0, 0, 0), none, some (.if_icmp .ge 7, 3, 14, 0, 0), none, none, some (.iconst 1, 1, 0, 0, 0), some (.goto 4, 3, 15, 0, 0), none, none, some (.iconst 0, 1, 0, 0, 0), some (.ireturn, 1, 0, 0, 0)]
def k_Mo_clear : List (Option ax_E) := [some (.aload_n 0, 1, 0, 0, 0), some (.getfield 57, 3, 8, 5, 245), none, none, some (.iload_n 1, 1, 0, 0, 0), some (.iload_n 2, 1, 0, 0, 0), some (.iastore, 1, 0, 0, 0), some (.aload_n 0, 1, 0, 0, 0), some (.getfield 60, 3, 8, 6, 246), none, none, some (.iload_n 1, 1, 0, 0, 0), some (.iload_n 3, 1, 0, 0, 0), some (.iastore, 1, 0, 0, 0), some (.bipush 36, 2, 0, 0, 0), none, some (.iload_n 1, 1, 0, 0, 0), some (.imul, 1, 0, 0, 0), some (.istore 4, 2, 0, 0, 0), none, some (.iload 4, 2, 0, 0, 0), none, some (.bipush 36, 2, 0, 0, 0), none, some (.iload_n 1, 1, 0, 0, 0), some (.imul, 1, 0, 0, 0), some (.bipush 36, 2, 0, 0, 0), none, some (.iadd, 1, 0, 0, 0), some (.if_icmp .ge 17, 3, 46, 0, 0), none, none, some (.aload_n 0, 1, 0, 0, 0), some (.getfield 53, 3, 8, 4, 244), none, none, some (.iload 4, 2, 0, 0, 0), none, some (.lconst 0, 1, 0, 0, 0), some (.lastore, 1, 0, 0, 0), some (.iinc 4 1, 3, 0, 0, 0), none, none, some (.goto (-23), 3, 20, 0, 0), none, none, some (.return_, 1, 0, 0, 0)]
def k_Mo_put : List (Option ax_E) := [some (.aload_n 0, 1, 0, 0, 0), some (.aload_n 0, 1, 0, 0, 0), some (.iload_n 1, 1, 0, 0, 0), some (.iload_n 2, 1, 0, 0, 0), some (.iload_n 3, 1, 0, 0, 0), some (.invokevirtual 90, 3, 123, 904, 255), none, none, some (.ifCond .ne 7, 3, 15, 0, 0), none, none, some (.iconst 1, 1, 0, 0, 0), some (.goto 26, 3, 38, 0, 0), none, none, some (.lload 4, 2, 0, 0, 0), none, some (.ldc2_w 93, 3, 2, 0, 256), none, none, some (.lcmp, 1, 0, 0, 0), some (.ifCond .le 12, 3, 33, 0, 0), none, none, some (.lload 4, 2, 0, 0, 0), none, some (.ldc2_w 95, 3, 1, 0, 257), none, none, some (.lcmp, 1, 0, 0, 0), some (.ifCond .lt 7, 3, 37, 0, 0), none, none, some (.iconst 2, 1, 0, 0, 0), some (.goto 4, 3, 38, 0, 0), none, none, some (.iconst 0, 1, 0, 0, 0), some (.putfield 78, 3, 8, 3, 252), none, none, some (.aload_n 0, 1, 0, 0, 0), some (.getfield 78, 3, 8, 3, 252), none, none, some (.ifCond .ne 21, 3, 66, 0, 0), none, none, some (.aload_n 0, 1, 0, 0, 0), some (.getfield 53, 3, 8, 4, 244), none, none, some (.bipush 36, 2, 0, 0, 0), none, some (.iload_n 1, 1, 0, 0, 0), some (.imul, 1, 0, 0, 0), some (.bipush 6, 2, 0, 0, 0), none, some (.iload_n 2, 1, 0, 0, 0), some (.imul, 1, 0, 0, 0), some (.iadd, 1, 0, 0, 0), some (.iload_n 3, 1, 0, 0, 0), some (.iadd, 1, 0, 0, 0), some (.lload 4, 2, 0, 0, 0), none, some (.lastore, 1, 0, 0, 0), some (.return_, 1, 0, 0, 0)]
def k_Mo_isPlace : List (Option ax_E) := [some (.aload_n 0, 1, 0, 0, 0), some (.iload_n 1, 1, 0, 0, 0), some (.invokevirtual 82, 3, 120, 902, 253), none, none, some (.ifCond .eq 35, 3, 40, 0, 0), none, none, some (.iload_n 2, 1, 0, 0, 0), some (.ifCond .lt 31, 3, 40, 0, 0), none, none, some (.iload_n 2, 1, 0, 0, 0), some (.aload_n 0, 1, 0, 0, 0), some (.getfield 57, 3, 8, 5, 245), none, none, some (.iload_n 1, 1, 0, 0, 0), some (.iaload, 1, 0, 0, 0), some (.if_icmp .ge 21, 3, 40, 0, 0), none, none, some (.iload_n 3, 1, 0, 0, 0), some (.ifCond .lt 17, 3, 40, 0, 0), none, none, some (.iload_n 3, 1, 0, 0, 0), some (.aload_n 0, 1, 0, 0, 0), some (.getfield 60, 3, 8, 6, 246), none, none, some (.iload_n 1, 1, 0, 0, 0), some (.iaload, 1, 0, 0, 0), some (.if_icmp .ge 7, 3, 40, 0, 0), none, none, some (.iconst 1, 1, 0, 0, 0), some (.goto 4, 3, 41, 0, 0), none, none, some (.iconst 0, 1, 0, 0, 0), some (.ireturn, 1, 0, 0, 0)]
def k_Mo_at : List (Option ax_E) := [some (.aload_n 0, 1, 0, 0, 0), some (.aload_n 0, 1, 0, 0, 0), some (.iload_n 1, 1, 0, 0, 0), some (.iload_n 2, 1, 0, 0, 0), some (.iload_n 3, 1, 0, 0, 0), some (.invokevirtual 90, 3, 123, 904, 255), none, none, some (.ifCond .eq 7, 3, 15, 0, 0), none, none, some (.iconst 0, 1, 0, 0, 0), some (.goto 4, 3, 16, 0, 0), none, none, some (.iconst 1, 1, 0, 0, 0), some (.putfield 78, 3, 8, 3, 252), none, none, some (.aload_n 0, 1, 0, 0, 0), some (.getfield 78, 3, 8, 3, 252), none, none, some (.ifCond .le 7, 3, 30, 0, 0), none, none, some (.lconst 0, 1, 0, 0, 0), some (.goto 10, 3, 37, 0, 0), none, none, some (.aload_n 0, 1, 0, 0, 0), some (.iload_n 1, 1, 0, 0, 0), some (.iload_n 2, 1, 0, 0, 0), some (.iload_n 3, 1, 0, 0, 0), some (.invokevirtual 97, 3, 125, 904, 258), none, none, some (.lreturn, 1, 0, 0, 0)]
def k_Mo_number : List (Option ax_E) := [some (.aload_n 0, 1, 0, 0, 0), some (.getfield 53, 3, 8, 4, 244), none, none, some (.bipush 36, 2, 0, 0, 0), none, some (.iload_n 1, 1, 0, 0, 0), some (.imul, 1, 0, 0, 0), some (.bipush 6, 2, 0, 0, 0), none, some (.iload_n 2, 1, 0, 0, 0), some (.imul, 1, 0, 0, 0), some (.iadd, 1, 0, 0, 0), some (.iload_n 3, 1, 0, 0, 0), some (.iadd, 1, 0, 0, 0), some (.laload, 1, 0, 0, 0), some (.lreturn, 1, 0, 0, 0)]
def k_Mo_size : List (Option ax_E) := [some (.aload_n 0, 1, 0, 0, 0), some (.iconst 0, 1, 0, 0, 0), some (.putfield 78, 3, 8, 3, 252), none, none, some (.aload_n 0, 1, 0, 0, 0), some (.iload_n 1, 1, 0, 0, 0), some (.invokevirtual 82, 3, 120, 902, 253), none, none, some (.ifCond .ne 7, 3, 17, 0, 0), none, none, some (.iconst (-1), 1, 0, 0, 0), some (.goto 31, 3, 45, 0, 0), none, none, some (.iload_n 2, 1, 0, 0, 0), some (.ifCond .ne 12, 3, 30, 0, 0), none, none, some (.aload_n 0, 1, 0, 0, 0), some (.getfield 57, 3, 8, 5, 245), none, none, some (.iload_n 1, 1, 0, 0, 0), some (.iaload, 1, 0, 0, 0), some (.goto 18, 3, 45, 0, 0), none, none, some (.iload_n 2, 1, 0, 0, 0), some (.iconst 1, 1, 0, 0, 0), some (.if_icmp .ne 12, 3, 44, 0, 0), none, none, some (.aload_n 0, 1, 0, 0, 0), some (.getfield 60, 3, 8, 6, 246), none, none, some (.iload_n 1, 1, 0, 0, 0), some (.iaload, 1, 0, 0, 0), some (.goto 4, 3, 45, 0, 0), none, none, some (.iconst (-1), 1, 0, 0, 0), some (.ireturn, 1, 0, 0, 0)]
def k_Mo_combine : List (Option ax_E) := [some (.aload_n 0, 1, 0, 0, 0), some (.iload_n 1, 1, 0, 0, 0), some (.iload_n 2, 1, 0, 0, 0), some (.iload 4, 2, 0, 0, 0), none, some (.invokevirtual 118, 3, 128, 904, 259), none, none, some (.ifCond .ne 5, 3, 13, 0, 0), none, none, some (.iconst 0, 1, 0, 0, 0), some (.ireturn, 1, 0, 0, 0), some (.aload_n 0, 1, 0, 0, 0), some (.getfield 57, 3, 8, 5, 245), none, none, some (.iload_n 2, 1, 0, 0, 0), some (.iaload, 1, 0, 0, 0), some (.aload_n 0, 1, 0, 0, 0), some (.getfield 57, 3, 8, 5, 245), none, none, some (.iload 4, 2, 0, 0, 0), none, some (.iaload, 1, 0, 0, 0), some (.if_icmp .ne 19, 3, 45, 0, 0), none, none, some (.aload_n 0, 1, 0, 0, 0), some (.getfield 60, 3, 8, 6, 246), none, none, some (.iload_n 2, 1, 0, 0, 0), some (.iaload, 1, 0, 0, 0), some (.aload_n 0, 1, 0, 0, 0), some (.getfield 60, 3, 8, 6, 246), none, none, some (.iload 4, 2, 0, 0, 0), none, some (.iaload, 1, 0, 0, 0), some (.if_icmp .eq 6, 3, 48, 0, 0), none, none, some (.bipush (-2), 2, 0, 0, 0), none, some (.ireturn, 1, 0, 0, 0), some (.iconst 0, 1, 0, 0, 0), some (.istore 6, 2, 0, 0, 0), none, some (.iload 6, 2, 0, 0, 0), none, some (.aload_n 0, 1, 0, 0, 0), some (.getfield 57, 3, 8, 5, 245), none, none, some (.iload_n 2, 1, 0, 0, 0), some (.iaload, 1, 0, 0, 0), some (.if_icmp .ge 90, 3, 149, 0, 0), none, none, some (.iconst 0, 1, 0, 0, 0), some (.istore 7, 2, 0, 0, 0), none, some (.iload 7, 2, 0, 0, 0), none, some (.aload_n 0, 1, 0, 0, 0), some (.getfield 60, 3, 8, 6, 246), none, none, some (.iload_n 2, 1, 0, 0, 0), some (.iaload, 1, 0, 0, 0), some (.if_icmp .ge 70, 3, 143, 0, 0), none, none, some (.aload_n 0, 1, 0, 0, 0), some (.aload_n 0, 1, 0, 0, 0), some (.iload 6, 2, 0, 0, 0), none, some (.iload 7, 2, 0, 0, 0), none, some (.invokevirtual 105, 3, 129, 903, 260), none, none, some (.lconst 0, 1, 0, 0, 0), some (.invokevirtual 101, 3, 130, 903, 261), none, none, some (.aload_n 0, 1, 0, 0, 0), some (.aload_n 0, 1, 0, 0, 0), some (.iload 6, 2, 0, 0, 0), none, some (.iload 7, 2, 0, 0, 0), none, some (.invokevirtual 105, 3, 129, 903, 260), none, none, some (.aload_n 0, 1, 0, 0, 0), some (.iload_n 2, 1, 0, 0, 0), some (.iload 6, 2, 0, 0, 0), none, some (.iload 7, 2, 0, 0, 0), none, some (.invokevirtual 97, 3, 125, 904, 258), none, none, some (.iload_n 3, 1, 0, 0, 0), some (.i2l, 1, 0, 0, 0), some (.invokevirtual 121, 3, 131, 904, 262), none, none, some (.aload_n 0, 1, 0, 0, 0), some (.aload_n 0, 1, 0, 0, 0), some (.iload 6, 2, 0, 0, 0), none, some (.iload 7, 2, 0, 0, 0), none, some (.invokevirtual 105, 3, 129, 903, 260), none, none, some (.aload_n 0, 1, 0, 0, 0), some (.iload 4, 2, 0, 0, 0), none, some (.iload 6, 2, 0, 0, 0), none, some (.iload 7, 2, 0, 0, 0), none, some (.invokevirtual 97, 3, 125, 904, 258), none, none, some (.iload 5, 2, 0, 0, 0), none, some (.i2l, 1, 0, 0, 0), some (.invokevirtual 121, 3, 131, 904, 262), none, none, some (.iinc 7 1, 3, 0, 0, 0), none, none, some (.goto (-75), 3, 65, 0, 0), none, none, some (.iinc 6 1, 3, 0, 0, 0), none, none, some (.goto (-95), 3, 51, 0, 0), none, none, some (.aload_n 0, 1, 0, 0, 0), some (.iload_n 1, 1, 0, 0, 0), some (.aload_n 0, 1, 0, 0, 0), some (.getfield 57, 3, 8, 5, 245), none, none, some (.iload_n 2, 1, 0, 0, 0), some (.iaload, 1, 0, 0, 0), some (.aload_n 0, 1, 0, 0, 0), some (.getfield 60, 3, 8, 6, 246), none, none, some (.iload_n 2, 1, 0, 0, 0), some (.iaload, 1, 0, 0, 0), some (.invokevirtual 125, 3, 139, 904, 263), none, none, some (.ifCond .eq 7, 3, 173, 0, 0), none, none, some (.iconst 0, 1, 0, 0, 0), some (.goto 5, 3, 175, 0, 0), none, none, some (.bipush (-3), 2, 0, 0, 0), none, some (.ireturn, 1, 0, 0, 0)]
def k_Mo_areThere : List (Option ax_E) := [some (.aload_n 0, 1, 0, 0, 0), some (.aload_n 0, 1, 0, 0, 0), some (.iload_n 1, 1, 0, 0, 0), some (.invokevirtual 82, 3, 120, 902, 253), none, none, some (.ifCond .eq 23, 3, 29, 0, 0), none, none, some (.aload_n 0, 1, 0, 0, 0), some (.iload_n 2, 1, 0, 0, 0), some (.invokevirtual 82, 3, 120, 902, 253), none, none, some (.ifCond .eq 15, 3, 29, 0, 0), none, none, some (.aload_n 0, 1, 0, 0, 0), some (.iload_n 3, 1, 0, 0, 0), some (.invokevirtual 82, 3, 120, 902, 253), none, none, some (.ifCond .eq 7, 3, 29, 0, 0), none, none, some (.iconst 0, 1, 0, 0, 0), some (.goto 4, 3, 30, 0, 0), none, none, some (.iconst 1, 1, 0, 0, 0), some (.putfield 78, 3, 8, 3, 252), none, none, some (.aload_n 0, 1, 0, 0, 0), some (.getfield 78, 3, 8, 3, 252), none, none, some (.ifCond .ne 7, 3, 44, 0, 0), none, none, some (.iconst 1, 1, 0, 0, 0), some (.goto 4, 3, 45, 0, 0), none, none, some (.iconst 0, 1, 0, 0, 0), some (.ireturn, 1, 0, 0, 0)]
def k_Mo_result : List (Option ax_E) := [some (.iconst 0, 1, 0, 0, 0), some (.bipush 6, 2, 0, 0, 0), none, some (.iload_n 1, 1, 0, 0, 0), some (.imul, 1, 0, 0, 0), some (.iadd, 1, 0, 0, 0), some (.iload_n 2, 1, 0, 0, 0), some (.iadd, 1, 0, 0, 0), some (.ireturn, 1, 0, 0, 0)]
def k_Mo_bigSet : List (Option ax_E) := [some (.aload_n 0, 1, 0, 0, 0), some (.getfield 1, 3, 8, 2, 243), none, none, some (.iload_n 1, 1, 0, 0, 0), some (.lload_n 2, 1, 0, 0, 0), some (.lconst 0, 1, 0, 0, 0), some (.lcmp, 1, 0, 0, 0), some (.ifCond .ge 7, 3, 15, 0, 0), none, none, some (.iconst 1, 1, 0, 0, 0), some (.goto 4, 3, 16, 0, 0), none, none, some (.iconst 0, 1, 0, 0, 0), some (.bastore, 1, 0, 0, 0), some (.iconst 0, 1, 0, 0, 0), some (.istore 4, 2, 0, 0, 0), none, some (.lload_n 2, 1, 0, 0, 0), some (.lconst 0, 1, 0, 0, 0), some (.lcmp, 1, 0, 0, 0), some (.ifCond .ge 8, 3, 31, 0, 0), none, none, some (.lload_n 2, 1, 0, 0, 0), some (.lneg, 1, 0, 0, 0), some (.goto 4, 3, 32, 0, 0), none, none, some (.lload_n 2, 1, 0, 0, 0), some (.lstore 5, 2, 0, 0, 0), none, some (.lload 5, 2, 0, 0, 0), none, some (.lconst 0, 1, 0, 0, 0), some (.lcmp, 1, 0, 0, 0), some (.ifCond .eq 36, 3, 74, 0, 0), none, none, some (.aload_n 0, 1, 0, 0, 0), some (.getfield 7, 3, 8, 0, 241), none, none, some (.sipush 140, 3, 0, 0, 0), none, none, some (.iload_n 1, 1, 0, 0, 0), some (.imul, 1, 0, 0, 0), some (.iload 4, 2, 0, 0, 0), none, some (.iadd, 1, 0, 0, 0), some (.lload 5, 2, 0, 0, 0), none, some (.ldc2_w 11, 3, 6, 0, 264), none, none, some (.land, 1, 0, 0, 0), some (.l2i, 1, 0, 0, 0), some (.iastore, 1, 0, 0, 0), some (.iinc 4 1, 3, 0, 0, 0), none, none, some (.lload 5, 2, 0, 0, 0), none, some (.bipush 24, 2, 0, 0, 0), none, some (.lushr, 1, 0, 0, 0), some (.lstore 5, 2, 0, 0, 0), none, some (.goto (-37), 3, 34, 0, 0), none, none, some (.aload_n 0, 1, 0, 0, 0), some (.getfield 13, 3, 8, 1, 242), none, none, some (.iload_n 1, 1, 0, 0, 0), some (.iload 4, 2, 0, 0, 0), none, some (.iastore, 1, 0, 0, 0), some (.return_, 1, 0, 0, 0)]
def k_Mo_addTimes : List (Option ax_E) := [some (.aload_n 0, 1, 0, 0, 0), some (.sipush 268, 3, 0, 0, 0), none, none, some (.lload_n 2, 1, 0, 0, 0), some (.invokevirtual 101, 3, 130, 903, 261), none, none, some (.aload_n 0, 1, 0, 0, 0), some (.sipush 269, 3, 0, 0, 0), none, none, some (.lload 4, 2, 0, 0, 0), none, some (.invokevirtual 101, 3, 130, 903, 261), none, none, some (.aload_n 0, 1, 0, 0, 0), some (.sipush 270, 3, 0, 0, 0), none, none, some (.sipush 268, 3, 0, 0, 0), none, none, some (.sipush 269, 3, 0, 0, 0), none, none, some (.invokevirtual 112, 3, 132, 904, 265), none, none, some (.aload_n 0, 1, 0, 0, 0), some (.iload_n 1, 1, 0, 0, 0), some (.sipush 270, 3, 0, 0, 0), none, none, some (.iconst 0, 1, 0, 0, 0), some (.invokevirtual 115, 3, 134, 904, 266), none, none, some (.return_, 1, 0, 0, 0)]
def k_Mo_bigProduct : List (Option ax_E) := [some (.aload_n 0, 1, 0, 0, 0), some (.getfield 13, 3, 8, 1, 242), none, none, some (.iload_n 1, 1, 0, 0, 0), some (.aload_n 0, 1, 0, 0, 0), some (.getfield 13, 3, 8, 1, 242), none, none, some (.iload_n 2, 1, 0, 0, 0), some (.iaload, 1, 0, 0, 0), some (.aload_n 0, 1, 0, 0, 0), some (.getfield 13, 3, 8, 1, 242), none, none, some (.iload_n 3, 1, 0, 0, 0), some (.iaload, 1, 0, 0, 0), some (.iadd, 1, 0, 0, 0), some (.iastore, 1, 0, 0, 0), some (.iconst 0, 1, 0, 0, 0), some (.istore 4, 2, 0, 0, 0), none, some (.iload 4, 2, 0, 0, 0), none, some (.aload_n 0, 1, 0, 0, 0), some (.getfield 13, 3, 8, 1, 242), none, none, some (.iload_n 1, 1, 0, 0, 0), some (.iaload, 1, 0, 0, 0), some (.if_icmp .ge 23, 3, 53, 0, 0), none, none, some (.aload_n 0, 1, 0, 0, 0), some (.getfield 7, 3, 8, 0, 241), none, none, some (.sipush 140, 3, 0, 0, 0), none, none, some (.iload_n 1, 1, 0, 0, 0), some (.imul, 1, 0, 0, 0), some (.iload 4, 2, 0, 0, 0), none, some (.iadd, 1, 0, 0, 0), some (.iconst 0, 1, 0, 0, 0), some (.iastore, 1, 0, 0, 0), some (.iinc 4 1, 3, 0, 0, 0), none, none, some (.goto (-28), 3, 22, 0, 0), none, none, some (.iconst 0, 1, 0, 0, 0), some (.istore 4, 2, 0, 0, 0), none, some (.iload 4, 2, 0, 0, 0), none, some (.aload_n 0, 1, 0, 0, 0), some (.getfield 13, 3, 8, 1, 242), none, none, some (.iload_n 2, 1, 0, 0, 0), some (.iaload, 1, 0, 0, 0), some (.if_icmp .ge 133, 3, 197, 0, 0), none, none, some (.lconst 0, 1, 0, 0, 0), some (.lstore 5, 2, 0, 0, 0), none, some (.iconst 0, 1, 0, 0, 0), some (.istore 7, 2, 0, 0, 0), none, some (.iload 7, 2, 0, 0, 0), none, some (.aload_n 0, 1, 0, 0, 0), some (.getfield 13, 3, 8, 1, 242), none, none, some (.iload_n 3, 1, 0, 0, 0), some (.iaload, 1, 0, 0, 0), some (.if_icmp .ge 87, 3, 168, 0, 0), none, none, some (.sipush 140, 3, 0, 0, 0), none, none, some (.iload_n 1, 1, 0, 0, 0), some (.imul, 1, 0, 0, 0), some (.iload 4, 2, 0, 0, 0), none, some (.iadd, 1, 0, 0, 0), some (.iload 7, 2, 0, 0, 0), none, some (.iadd, 1, 0, 0, 0), some (.istore 8, 2, 0, 0, 0), none, some (.lload 5, 2, 0, 0, 0), none, some (.aload_n 0, 1, 0, 0, 0), some (.getfield 7, 3, 8, 0, 241), none, none, some (.iload 8, 2, 0, 0, 0), none, some (.iaload, 1, 0, 0, 0), some (.i2l, 1, 0, 0, 0), some (.ladd, 1, 0, 0, 0), some (.aload_n 0, 1, 0, 0, 0), some (.getfield 7, 3, 8, 0, 241), none, none, some (.sipush 140, 3, 0, 0, 0), none, none, some (.iload_n 2, 1, 0, 0, 0), some (.imul, 1, 0, 0, 0), some (.iload 4, 2, 0, 0, 0), none, some (.iadd, 1, 0, 0, 0), some (.iaload, 1, 0, 0, 0), some (.i2l, 1, 0, 0, 0), some (.aload_n 0, 1, 0, 0, 0), some (.getfield 7, 3, 8, 0, 241), none, none, some (.sipush 140, 3, 0, 0, 0), none, none, some (.iload_n 3, 1, 0, 0, 0), some (.imul, 1, 0, 0, 0), some (.iload 7, 2, 0, 0, 0), none, some (.iadd, 1, 0, 0, 0), some (.iaload, 1, 0, 0, 0), some (.i2l, 1, 0, 0, 0), some (.lmul, 1, 0, 0, 0), some (.ladd, 1, 0, 0, 0), some (.lstore 5, 2, 0, 0, 0), none, some (.aload_n 0, 1, 0, 0, 0), some (.getfield 7, 3, 8, 0, 241), none, none, some (.iload 8, 2, 0, 0, 0), none, some (.lload 5, 2, 0, 0, 0), none, some (.ldc2_w 36, 3, 7, 0, 267), none, none, some (.lrem, 1, 0, 0, 0), some (.l2i, 1, 0, 0, 0), some (.iastore, 1, 0, 0, 0), some (.lload 5, 2, 0, 0, 0), none, some (.ldc2_w 36, 3, 7, 0, 267), none, none, some (.ldiv, 1, 0, 0, 0), some (.lstore 5, 2, 0, 0, 0), none, some (.iinc 7 1, 3, 0, 0, 0), none, none, some (.goto (-92), 3, 73, 0, 0), none, none, some (.aload_n 0, 1, 0, 0, 0), some (.getfield 7, 3, 8, 0, 241), none, none, some (.sipush 140, 3, 0, 0, 0), none, none, some (.iload_n 1, 1, 0, 0, 0), some (.imul, 1, 0, 0, 0), some (.iload 4, 2, 0, 0, 0), none, some (.iadd, 1, 0, 0, 0), some (.aload_n 0, 1, 0, 0, 0), some (.getfield 13, 3, 8, 1, 242), none, none, some (.iload_n 3, 1, 0, 0, 0), some (.iaload, 1, 0, 0, 0), some (.iadd, 1, 0, 0, 0), some (.lload 5, 2, 0, 0, 0), none, some (.l2i, 1, 0, 0, 0), some (.iastore, 1, 0, 0, 0), some (.iinc 4 1, 3, 0, 0, 0), none, none, some (.goto (-138), 3, 56, 0, 0), none, none, some (.aload_n 0, 1, 0, 0, 0), some (.getfield 1, 3, 8, 2, 243), none, none, some (.iload_n 1, 1, 0, 0, 0), some (.aload_n 0, 1, 0, 0, 0), some (.getfield 1, 3, 8, 2, 243), none, none, some (.iload_n 2, 1, 0, 0, 0), some (.baload, 1, 0, 0, 0), some (.aload_n 0, 1, 0, 0, 0), some (.getfield 1, 3, 8, 2, 243), none, none, some (.iload_n 3, 1, 0, 0, 0), some (.baload, 1, 0, 0, 0), some (.if_icmp .eq 7, 3, 221, 0, 0), none, none, some (.iconst 1, 1, 0, 0, 0), some (.goto 4, 3, 222, 0, 0), none, none, some (.iconst 0, 1, 0, 0, 0), some (.bastore, 1, 0, 0, 0), some (.aload_n 0, 1, 0, 0, 0), some (.iload_n 1, 1, 0, 0, 0), some (.invokevirtual 21, 3, 133, 902, 268), none, none, some (.return_, 1, 0, 0, 0)]
def k_Mo_bigTrim : List (Option ax_E) := [some (.aload_n 0, 1, 0, 0, 0), some (.getfield 13, 3, 8, 1, 242), none, none, some (.iload_n 1, 1, 0, 0, 0), some (.iaload, 1, 0, 0, 0), some (.ifCond .le 38, 3, 44, 0, 0), none, none, some (.aload_n 0, 1, 0, 0, 0), some (.getfield 7, 3, 8, 0, 241), none, none, some (.sipush 140, 3, 0, 0, 0), none, none, some (.iload_n 1, 1, 0, 0, 0), some (.imul, 1, 0, 0, 0), some (.aload_n 0, 1, 0, 0, 0), some (.getfield 13, 3, 8, 1, 242), none, none, some (.iload_n 1, 1, 0, 0, 0), some (.iaload, 1, 0, 0, 0), some (.iadd, 1, 0, 0, 0), some (.iconst 1, 1, 0, 0, 0), some (.isub, 1, 0, 0, 0), some (.iaload, 1, 0, 0, 0), some (.ifCond .ne 16, 3, 44, 0, 0), none, none, some (.aload_n 0, 1, 0, 0, 0), some (.getfield 13, 3, 8, 1, 242), none, none, some (.iload_n 1, 1, 0, 0, 0), some (.dup2, 1, 0, 0, 0), some (.iaload, 1, 0, 0, 0), some (.iconst 1, 1, 0, 0, 0), some (.isub, 1, 0, 0, 0), some (.iastore, 1, 0, 0, 0), some (.goto (-41), 3, 0, 0, 0), none, none, some (.return_, 1, 0, 0, 0)]
def k_Mo_bigAdd : List (Option ax_E) := [some (.aload_n 0, 1, 0, 0, 0), some (.getfield 1, 3, 8, 2, 243), none, none, some (.iload_n 2, 1, 0, 0, 0), some (.baload, 1, 0, 0, 0), some (.iload_n 3, 1, 0, 0, 0), some (.if_icmp .eq 7, 3, 14, 0, 0), none, none, some (.iconst 1, 1, 0, 0, 0), some (.goto 4, 3, 15, 0, 0), none, none, some (.iconst 0, 1, 0, 0, 0), some (.istore 4, 2, 0, 0, 0), none, some (.aload_n 0, 1, 0, 0, 0), some (.getfield 1, 3, 8, 2, 243), none, none, some (.iload_n 1, 1, 0, 0, 0), some (.baload, 1, 0, 0, 0), some (.iload 4, 2, 0, 0, 0), none, some (.if_icmp .ne 12, 3, 37, 0, 0), none, none, some (.aload_n 0, 1, 0, 0, 0), some (.iload_n 1, 1, 0, 0, 0), some (.iload_n 2, 1, 0, 0, 0), some (.invokevirtual 25, 3, 135, 903, 269), none, none, some (.goto 37, 3, 71, 0, 0), none, none, some (.aload_n 0, 1, 0, 0, 0), some (.iload_n 1, 1, 0, 0, 0), some (.iload_n 2, 1, 0, 0, 0), some (.invokevirtual 29, 3, 137, 903, 270), none, none, some (.ifCond .lt 13, 3, 56, 0, 0), none, none, some (.aload_n 0, 1, 0, 0, 0), some (.iload_n 1, 1, 0, 0, 0), some (.iload_n 2, 1, 0, 0, 0), some (.iconst 0, 1, 0, 0, 0), some (.invokevirtual 32, 3, 138, 904, 271), none, none, some (.goto 18, 3, 71, 0, 0), none, none, some (.aload_n 0, 1, 0, 0, 0), some (.iload_n 1, 1, 0, 0, 0), some (.iload_n 2, 1, 0, 0, 0), some (.iconst 1, 1, 0, 0, 0), some (.invokevirtual 32, 3, 138, 904, 271), none, none, some (.aload_n 0, 1, 0, 0, 0), some (.getfield 1, 3, 8, 2, 243), none, none, some (.iload_n 1, 1, 0, 0, 0), some (.iload 4, 2, 0, 0, 0), none, some (.bastore, 1, 0, 0, 0), some (.return_, 1, 0, 0, 0)]
def k_Mo_bigMore : List (Option ax_E) := [some (.aload_n 0, 1, 0, 0, 0), some (.getfield 13, 3, 8, 1, 242), none, none, some (.iload_n 1, 1, 0, 0, 0), some (.iaload, 1, 0, 0, 0), some (.aload_n 0, 1, 0, 0, 0), some (.getfield 13, 3, 8, 1, 242), none, none, some (.iload_n 2, 1, 0, 0, 0), some (.iaload, 1, 0, 0, 0), some (.if_icmp .le 12, 3, 24, 0, 0), none, none, some (.aload_n 0, 1, 0, 0, 0), some (.getfield 13, 3, 8, 1, 242), none, none, some (.iload_n 1, 1, 0, 0, 0), some (.iaload, 1, 0, 0, 0), some (.goto 9, 3, 30, 0, 0), none, none, some (.aload_n 0, 1, 0, 0, 0), some (.getfield 13, 3, 8, 1, 242), none, none, some (.iload_n 2, 1, 0, 0, 0), some (.iaload, 1, 0, 0, 0), some (.istore_n 3, 1, 0, 0, 0), some (.iconst 0, 1, 0, 0, 0), some (.istore 4, 2, 0, 0, 0), none, some (.iconst 0, 1, 0, 0, 0), some (.istore 5, 2, 0, 0, 0), none, some (.iload 5, 2, 0, 0, 0), none, some (.iload_n 3, 1, 0, 0, 0), some (.if_icmp .ge 54, 3, 94, 0, 0), none, none, some (.aload_n 0, 1, 0, 0, 0), some (.iload_n 1, 1, 0, 0, 0), some (.iload 5, 2, 0, 0, 0), none, some (.invokevirtual 16, 3, 136, 903, 272), none, none, some (.aload_n 0, 1, 0, 0, 0), some (.iload_n 2, 1, 0, 0, 0), some (.iload 5, 2, 0, 0, 0), none, some (.invokevirtual 16, 3, 136, 903, 272), none, none, some (.iadd, 1, 0, 0, 0), some (.iload 4, 2, 0, 0, 0), none, some (.iadd, 1, 0, 0, 0), some (.istore 6, 2, 0, 0, 0), none, some (.aload_n 0, 1, 0, 0, 0), some (.getfield 7, 3, 8, 0, 241), none, none, some (.sipush 140, 3, 0, 0, 0), none, none, some (.iload_n 1, 1, 0, 0, 0), some (.imul, 1, 0, 0, 0), some (.iload 5, 2, 0, 0, 0), none, some (.iadd, 1, 0, 0, 0), some (.iload 6, 2, 0, 0, 0), none, some (.ldc 20, 2, 5, 0, 273), none, some (.irem, 1, 0, 0, 0), some (.iastore, 1, 0, 0, 0), some (.iload 6, 2, 0, 0, 0), none, some (.ldc 20, 2, 5, 0, 273), none, some (.idiv, 1, 0, 0, 0), some (.istore 4, 2, 0, 0, 0), none, some (.iinc 5 1, 3, 0, 0, 0), none, none, some (.goto (-54), 3, 37, 0, 0), none, none, some (.aload_n 0, 1, 0, 0, 0), some (.getfield 13, 3, 8, 1, 242), none, none, some (.iload_n 1, 1, 0, 0, 0), some (.iload_n 3, 1, 0, 0, 0), some (.iastore, 1, 0, 0, 0), some (.iload 4, 2, 0, 0, 0), none, some (.ifCond .le 26, 3, 129, 0, 0), none, none, some (.aload_n 0, 1, 0, 0, 0), some (.getfield 7, 3, 8, 0, 241), none, none, some (.sipush 140, 3, 0, 0, 0), none, none, some (.iload_n 1, 1, 0, 0, 0), some (.imul, 1, 0, 0, 0), some (.iload_n 3, 1, 0, 0, 0), some (.iadd, 1, 0, 0, 0), some (.iload 4, 2, 0, 0, 0), none, some (.iastore, 1, 0, 0, 0), some (.aload_n 0, 1, 0, 0, 0), some (.getfield 13, 3, 8, 1, 242), none, none, some (.iload_n 1, 1, 0, 0, 0), some (.iload_n 3, 1, 0, 0, 0), some (.iconst 1, 1, 0, 0, 0), some (.iadd, 1, 0, 0, 0), some (.iastore, 1, 0, 0, 0), some (.return_, 1, 0, 0, 0)]
def k_Mo_bigAt : List (Option ax_E) := [some (.iload_n 2, 1, 0, 0, 0), some (.aload_n 0, 1, 0, 0, 0), some (.getfield 13, 3, 8, 1, 242), none, none, some (.iload_n 1, 1, 0, 0, 0), some (.iaload, 1, 0, 0, 0), some (.if_icmp .ge 18, 3, 25, 0, 0), none, none, some (.aload_n 0, 1, 0, 0, 0), some (.getfield 7, 3, 8, 0, 241), none, none, some (.sipush 140, 3, 0, 0, 0), none, none, some (.iload_n 1, 1, 0, 0, 0), some (.imul, 1, 0, 0, 0), some (.iload_n 2, 1, 0, 0, 0), some (.iadd, 1, 0, 0, 0), some (.iaload, 1, 0, 0, 0), some (.goto 4, 3, 26, 0, 0), none, none, some (.iconst 0, 1, 0, 0, 0), some (.ireturn, 1, 0, 0, 0)]
def k_Mo_bigSizes : List (Option ax_E) := [some (.aload_n 0, 1, 0, 0, 0), some (.getfield 13, 3, 8, 1, 242), none, none, some (.iload_n 1, 1, 0, 0, 0), some (.iaload, 1, 0, 0, 0), some (.aload_n 0, 1, 0, 0, 0), some (.getfield 13, 3, 8, 1, 242), none, none, some (.iload_n 2, 1, 0, 0, 0), some (.iaload, 1, 0, 0, 0), some (.if_icmp .eq 24, 3, 36, 0, 0), none, none, some (.aload_n 0, 1, 0, 0, 0), some (.getfield 13, 3, 8, 1, 242), none, none, some (.iload_n 1, 1, 0, 0, 0), some (.iaload, 1, 0, 0, 0), some (.aload_n 0, 1, 0, 0, 0), some (.getfield 13, 3, 8, 1, 242), none, none, some (.iload_n 2, 1, 0, 0, 0), some (.iaload, 1, 0, 0, 0), some (.if_icmp .ge 7, 3, 34, 0, 0), none, none, some (.iconst (-1), 1, 0, 0, 0), some (.goto 4, 3, 35, 0, 0), none, none, some (.iconst 1, 1, 0, 0, 0), some (.ireturn, 1, 0, 0, 0), some (.aload_n 0, 1, 0, 0, 0), some (.getfield 13, 3, 8, 1, 242), none, none, some (.iload_n 1, 1, 0, 0, 0), some (.iaload, 1, 0, 0, 0), some (.iconst 1, 1, 0, 0, 0), some (.isub, 1, 0, 0, 0), some (.istore_n 3, 1, 0, 0, 0), some (.iload_n 3, 1, 0, 0, 0), some (.ifCond .lt 24, 3, 70, 0, 0), none, none, some (.aload_n 0, 1, 0, 0, 0), some (.iload_n 1, 1, 0, 0, 0), some (.iload_n 3, 1, 0, 0, 0), some (.invokevirtual 16, 3, 136, 903, 272), none, none, some (.aload_n 0, 1, 0, 0, 0), some (.iload_n 2, 1, 0, 0, 0), some (.iload_n 3, 1, 0, 0, 0), some (.invokevirtual 16, 3, 136, 903, 272), none, none, some (.if_icmp .ne 9, 3, 70, 0, 0), none, none, some (.iinc 3 (-1), 3, 0, 0, 0), none, none, some (.goto (-22), 3, 45, 0, 0), none, none, some (.iload_n 3, 1, 0, 0, 0), some (.ifCond .ge 7, 3, 78, 0, 0), none, none, some (.iconst 0, 1, 0, 0, 0), some (.goto 23, 3, 98, 0, 0), none, none, some (.aload_n 0, 1, 0, 0, 0), some (.iload_n 1, 1, 0, 0, 0), some (.iload_n 3, 1, 0, 0, 0), some (.invokevirtual 16, 3, 136, 903, 272), none, none, some (.aload_n 0, 1, 0, 0, 0), some (.iload_n 2, 1, 0, 0, 0), some (.iload_n 3, 1, 0, 0, 0), some (.invokevirtual 16, 3, 136, 903, 272), none, none, some (.if_icmp .ge 7, 3, 97, 0, 0), none, none, some (.iconst (-1), 1, 0, 0, 0), some (.goto 4, 3, 98, 0, 0), none, none, some (.iconst 1, 1, 0, 0, 0), some (.ireturn, 1, 0, 0, 0)]
def k_Mo_bigDiffer : List (Option ax_E) := [some (.aload_n 0, 1, 0, 0, 0), some (.getfield 13, 3, 8, 1, 242), none, none, some (.iload_n 1, 1, 0, 0, 0), some (.iaload, 1, 0, 0, 0), some (.aload_n 0, 1, 0, 0, 0), some (.getfield 13, 3, 8, 1, 242), none, none, some (.iload_n 2, 1, 0, 0, 0), some (.iaload, 1, 0, 0, 0), some (.if_icmp .le 12, 3, 24, 0, 0), none, none, some (.aload_n 0, 1, 0, 0, 0), some (.getfield 13, 3, 8, 1, 242), none, none, some (.iload_n 1, 1, 0, 0, 0), some (.iaload, 1, 0, 0, 0), some (.goto 9, 3, 30, 0, 0), none, none, some (.aload_n 0, 1, 0, 0, 0), some (.getfield 13, 3, 8, 1, 242), none, none, some (.iload_n 2, 1, 0, 0, 0), some (.iaload, 1, 0, 0, 0), some (.istore 4, 2, 0, 0, 0), none, some (.iconst 0, 1, 0, 0, 0), some (.istore 5, 2, 0, 0, 0), none, some (.iconst 0, 1, 0, 0, 0), some (.istore 6, 2, 0, 0, 0), none, some (.iload 6, 2, 0, 0, 0), none, some (.iload 4, 2, 0, 0, 0), none, some (.if_icmp .ge 91, 3, 133, 0, 0), none, none, some (.iload_n 3, 1, 0, 0, 0), some (.ifCond .eq 21, 3, 67, 0, 0), none, none, some (.aload_n 0, 1, 0, 0, 0), some (.iload_n 2, 1, 0, 0, 0), some (.iload 6, 2, 0, 0, 0), none, some (.invokevirtual 16, 3, 136, 903, 272), none, none, some (.aload_n 0, 1, 0, 0, 0), some (.iload_n 1, 1, 0, 0, 0), some (.iload 6, 2, 0, 0, 0), none, some (.invokevirtual 16, 3, 136, 903, 272), none, none, some (.isub, 1, 0, 0, 0), some (.goto 18, 3, 82, 0, 0), none, none, some (.aload_n 0, 1, 0, 0, 0), some (.iload_n 1, 1, 0, 0, 0), some (.iload 6, 2, 0, 0, 0), none, some (.invokevirtual 16, 3, 136, 903, 272), none, none, some (.aload_n 0, 1, 0, 0, 0), some (.iload_n 2, 1, 0, 0, 0), some (.iload 6, 2, 0, 0, 0), none, some (.invokevirtual 16, 3, 136, 903, 272), none, none, some (.isub, 1, 0, 0, 0), some (.iload 5, 2, 0, 0, 0), none, some (.isub, 1, 0, 0, 0), some (.istore 7, 2, 0, 0, 0), none, some (.iload 7, 2, 0, 0, 0), none, some (.ifCond .ge 7, 3, 96, 0, 0), none, none, some (.iconst 1, 1, 0, 0, 0), some (.goto 4, 3, 97, 0, 0), none, none, some (.iconst 0, 1, 0, 0, 0), some (.istore 5, 2, 0, 0, 0), none, some (.aload_n 0, 1, 0, 0, 0), some (.getfield 7, 3, 8, 0, 241), none, none, some (.sipush 140, 3, 0, 0, 0), none, none, some (.iload_n 1, 1, 0, 0, 0), some (.imul, 1, 0, 0, 0), some (.iload 6, 2, 0, 0, 0), none, some (.iadd, 1, 0, 0, 0), some (.iload 7, 2, 0, 0, 0), none, some (.ifCond .ge 11, 3, 124, 0, 0), none, none, some (.iload 7, 2, 0, 0, 0), none, some (.ldc 20, 2, 5, 0, 273), none, some (.iadd, 1, 0, 0, 0), some (.goto 5, 3, 126, 0, 0), none, none, some (.iload 7, 2, 0, 0, 0), none, some (.iastore, 1, 0, 0, 0), some (.iinc 6 1, 3, 0, 0, 0), none, none, some (.goto (-92), 3, 38, 0, 0), none, none, some (.aload_n 0, 1, 0, 0, 0), some (.getfield 13, 3, 8, 1, 242), none, none, some (.iload_n 1, 1, 0, 0, 0), some (.iload 4, 2, 0, 0, 0), none, some (.iastore, 1, 0, 0, 0), some (.aload_n 0, 1, 0, 0, 0), some (.iload_n 1, 1, 0, 0, 0), some (.invokevirtual 21, 3, 133, 902, 268), none, none, some (.return_, 1, 0, 0, 0)]
def k_Mo_give : List (Option ax_E) := [some (.aload_n 0, 1, 0, 0, 0), some (.sipush 271, 3, 0, 0, 0), none, none, some (.ldc2_w 95, 3, 1, 0, 257), none, none, some (.invokevirtual 101, 3, 130, 903, 261), none, none, some (.iconst 0, 1, 0, 0, 0), some (.istore 4, 2, 0, 0, 0), none, some (.iload 4, 2, 0, 0, 0), none, some (.iload_n 2, 1, 0, 0, 0), some (.if_icmp .ge 44, 3, 60, 0, 0), none, none, some (.iconst 0, 1, 0, 0, 0), some (.istore 5, 2, 0, 0, 0), none, some (.iload 5, 2, 0, 0, 0), none, some (.iload_n 3, 1, 0, 0, 0), some (.if_icmp .ge 29, 3, 54, 0, 0), none, none, some (.aload_n 0, 1, 0, 0, 0), some (.aload_n 0, 1, 0, 0, 0), some (.iload 4, 2, 0, 0, 0), none, some (.iload 5, 2, 0, 0, 0), none, some (.invokevirtual 105, 3, 129, 903, 260), none, none, some (.sipush 271, 3, 0, 0, 0), none, none, some (.invokevirtual 29, 3, 137, 903, 270), none, none, some (.ifCond .lt 5, 3, 48, 0, 0), none, none, some (.iconst 0, 1, 0, 0, 0), some (.ireturn, 1, 0, 0, 0), some (.iinc 5 1, 3, 0, 0, 0), none, none, some (.goto (-29), 3, 22, 0, 0), none, none, some (.iinc 4 1, 3, 0, 0, 0), none, none, some (.goto (-44), 3, 13, 0, 0), none, none, some (.aload_n 0, 1, 0, 0, 0), some (.iload_n 1, 1, 0, 0, 0), some (.iload_n 2, 1, 0, 0, 0), some (.iload_n 3, 1, 0, 0, 0), some (.invokevirtual 86, 3, 121, 904, 254), none, none, some (.iconst 0, 1, 0, 0, 0), some (.istore 4, 2, 0, 0, 0), none, some (.iload 4, 2, 0, 0, 0), none, some (.iload_n 2, 1, 0, 0, 0), some (.if_icmp .ge 54, 3, 127, 0, 0), none, none, some (.iconst 0, 1, 0, 0, 0), some (.istore 5, 2, 0, 0, 0), none, some (.iload 5, 2, 0, 0, 0), none, some (.iload_n 3, 1, 0, 0, 0), some (.if_icmp .ge 39, 3, 121, 0, 0), none, none, some (.aload_n 0, 1, 0, 0, 0), some (.getfield 53, 3, 8, 4, 244), none, none, some (.bipush 36, 2, 0, 0, 0), none, some (.iload_n 1, 1, 0, 0, 0), some (.imul, 1, 0, 0, 0), some (.bipush 6, 2, 0, 0, 0), none, some (.iload 4, 2, 0, 0, 0), none, some (.imul, 1, 0, 0, 0), some (.iadd, 1, 0, 0, 0), some (.iload 5, 2, 0, 0, 0), none, some (.iadd, 1, 0, 0, 0), some (.aload_n 0, 1, 0, 0, 0), some (.aload_n 0, 1, 0, 0, 0), some (.iload 4, 2, 0, 0, 0), none, some (.iload 5, 2, 0, 0, 0), none, some (.invokevirtual 105, 3, 129, 903, 260), none, none, some (.invokevirtual 108, 3, 140, 902, 274), none, none, some (.lastore, 1, 0, 0, 0), some (.iinc 5 1, 3, 0, 0, 0), none, none, some (.goto (-39), 3, 79, 0, 0), none, none, some (.iinc 4 1, 3, 0, 0, 0), none, none, some (.goto (-54), 3, 70, 0, 0), none, none, some (.iconst 1, 1, 0, 0, 0), some (.ireturn, 1, 0, 0, 0)]
def k_Mo_bigValue : List (Option ax_E) := [some (.lconst 0, 1, 0, 0, 0), some (.lstore_n 2, 1, 0, 0, 0), some (.aload_n 0, 1, 0, 0, 0), some (.getfield 13, 3, 8, 1, 242), none, none, some (.iload_n 1, 1, 0, 0, 0), some (.iaload, 1, 0, 0, 0), some (.iconst 1, 1, 0, 0, 0), some (.isub, 1, 0, 0, 0), some (.istore 4, 2, 0, 0, 0), none, some (.iload 4, 2, 0, 0, 0), none, some (.ifCond .lt 30, 3, 44, 0, 0), none, none, some (.lload_n 2, 1, 0, 0, 0), some (.ldc2_w 36, 3, 7, 0, 267), none, none, some (.lmul, 1, 0, 0, 0), some (.aload_n 0, 1, 0, 0, 0), some (.getfield 7, 3, 8, 0, 241), none, none, some (.sipush 140, 3, 0, 0, 0), none, none, some (.iload_n 1, 1, 0, 0, 0), some (.imul, 1, 0, 0, 0), some (.iload 4, 2, 0, 0, 0), none, some (.iadd, 1, 0, 0, 0), some (.iaload, 1, 0, 0, 0), some (.i2l, 1, 0, 0, 0), some (.ladd, 1, 0, 0, 0), some (.lstore_n 2, 1, 0, 0, 0), some (.iinc 4 (-1), 3, 0, 0, 0), none, none, some (.goto (-29), 3, 12, 0, 0), none, none, some (.aload_n 0, 1, 0, 0, 0), some (.getfield 1, 3, 8, 2, 243), none, none, some (.iload_n 1, 1, 0, 0, 0), some (.baload, 1, 0, 0, 0), some (.ifCond .eq 8, 3, 58, 0, 0), none, none, some (.lload_n 2, 1, 0, 0, 0), some (.lneg, 1, 0, 0, 0), some (.goto 4, 3, 59, 0, 0), none, none, some (.lload_n 2, 1, 0, 0, 0), some (.lreturn, 1, 0, 0, 0)]
def k_Mo_multiply : List (Option ax_E) := [some (.aload_n 0, 1, 0, 0, 0), some (.iload_n 1, 1, 0, 0, 0), some (.iload_n 2, 1, 0, 0, 0), some (.iload_n 3, 1, 0, 0, 0), some (.invokevirtual 118, 3, 128, 904, 259), none, none, some (.ifCond .ne 5, 3, 12, 0, 0), none, none, some (.iconst 0, 1, 0, 0, 0), some (.ireturn, 1, 0, 0, 0), some (.aload_n 0, 1, 0, 0, 0), some (.getfield 60, 3, 8, 6, 246), none, none, some (.iload_n 2, 1, 0, 0, 0), some (.iaload, 1, 0, 0, 0), some (.aload_n 0, 1, 0, 0, 0), some (.getfield 57, 3, 8, 5, 245), none, none, some (.iload_n 3, 1, 0, 0, 0), some (.iaload, 1, 0, 0, 0), some (.if_icmp .eq 6, 3, 30, 0, 0), none, none, some (.bipush (-2), 2, 0, 0, 0), none, some (.ireturn, 1, 0, 0, 0), some (.iconst 0, 1, 0, 0, 0), some (.istore 4, 2, 0, 0, 0), none, some (.iload 4, 2, 0, 0, 0), none, some (.aload_n 0, 1, 0, 0, 0), some (.getfield 57, 3, 8, 5, 245), none, none, some (.iload_n 2, 1, 0, 0, 0), some (.iaload, 1, 0, 0, 0), some (.if_icmp .ge 92, 3, 133, 0, 0), none, none, some (.iconst 0, 1, 0, 0, 0), some (.istore 5, 2, 0, 0, 0), none, some (.iload 5, 2, 0, 0, 0), none, some (.aload_n 0, 1, 0, 0, 0), some (.getfield 60, 3, 8, 6, 246), none, none, some (.iload_n 3, 1, 0, 0, 0), some (.iaload, 1, 0, 0, 0), some (.if_icmp .ge 72, 3, 127, 0, 0), none, none, some (.aload_n 0, 1, 0, 0, 0), some (.aload_n 0, 1, 0, 0, 0), some (.iload 4, 2, 0, 0, 0), none, some (.iload 5, 2, 0, 0, 0), none, some (.invokevirtual 105, 3, 129, 903, 260), none, none, some (.lconst 0, 1, 0, 0, 0), some (.invokevirtual 101, 3, 130, 903, 261), none, none, some (.iconst 0, 1, 0, 0, 0), some (.istore 6, 2, 0, 0, 0), none, some (.iload 6, 2, 0, 0, 0), none, some (.aload_n 0, 1, 0, 0, 0), some (.getfield 60, 3, 8, 6, 246), none, none, some (.iload_n 2, 1, 0, 0, 0), some (.iaload, 1, 0, 0, 0), some (.if_icmp .ge 39, 3, 121, 0, 0), none, none, some (.aload_n 0, 1, 0, 0, 0), some (.aload_n 0, 1, 0, 0, 0), some (.iload 4, 2, 0, 0, 0), none, some (.iload 5, 2, 0, 0, 0), none, some (.invokevirtual 105, 3, 129, 903, 260), none, none, some (.aload_n 0, 1, 0, 0, 0), some (.iload_n 2, 1, 0, 0, 0), some (.iload 4, 2, 0, 0, 0), none, some (.iload 6, 2, 0, 0, 0), none, some (.invokevirtual 97, 3, 125, 904, 258), none, none, some (.aload_n 0, 1, 0, 0, 0), some (.iload_n 3, 1, 0, 0, 0), some (.iload 6, 2, 0, 0, 0), none, some (.iload 5, 2, 0, 0, 0), none, some (.invokevirtual 97, 3, 125, 904, 258), none, none, some (.invokevirtual 121, 3, 131, 904, 262), none, none, some (.iinc 6 1, 3, 0, 0, 0), none, none, some (.goto (-44), 3, 74, 0, 0), none, none, some (.iinc 5 1, 3, 0, 0, 0), none, none, some (.goto (-77), 3, 47, 0, 0), none, none, some (.iinc 4 1, 3, 0, 0, 0), none, none, some (.goto (-97), 3, 33, 0, 0), none, none, some (.aload_n 0, 1, 0, 0, 0), some (.iload_n 1, 1, 0, 0, 0), some (.aload_n 0, 1, 0, 0, 0), some (.getfield 57, 3, 8, 5, 245), none, none, some (.iload_n 2, 1, 0, 0, 0), some (.iaload, 1, 0, 0, 0), some (.aload_n 0, 1, 0, 0, 0), some (.getfield 60, 3, 8, 6, 246), none, none, some (.iload_n 3, 1, 0, 0, 0), some (.iaload, 1, 0, 0, 0), some (.invokevirtual 125, 3, 139, 904, 263), none, none, some (.ifCond .eq 7, 3, 157, 0, 0), none, none, some (.iconst 0, 1, 0, 0, 0), some (.goto 5, 3, 159, 0, 0), none, none, some (.bipush (-3), 2, 0, 0, 0), none, some (.ireturn, 1, 0, 0, 0)]
def k_Mo_turn : List (Option ax_E) := [some (.aload_n 0, 1, 0, 0, 0), some (.iload_n 1, 1, 0, 0, 0), some (.iload_n 2, 1, 0, 0, 0), some (.iload_n 2, 1, 0, 0, 0), some (.invokevirtual 118, 3, 128, 904, 259), none, none, some (.ifCond .eq 78, 3, 85, 0, 0), none, none, some (.iconst 0, 1, 0, 0, 0), some (.istore_n 3, 1, 0, 0, 0), some (.iload_n 3, 1, 0, 0, 0), some (.aload_n 0, 1, 0, 0, 0), some (.getfield 57, 3, 8, 5, 245), none, none, some (.iload_n 2, 1, 0, 0, 0), some (.iaload, 1, 0, 0, 0), some (.if_icmp .ge 48, 3, 67, 0, 0), none, none, some (.iconst 0, 1, 0, 0, 0), some (.istore 4, 2, 0, 0, 0), none, some (.iload 4, 2, 0, 0, 0), none, some (.aload_n 0, 1, 0, 0, 0), some (.getfield 60, 3, 8, 6, 246), none, none, some (.iload_n 2, 1, 0, 0, 0), some (.iaload, 1, 0, 0, 0), some (.if_icmp .ge 28, 3, 61, 0, 0), none, none, some (.aload_n 0, 1, 0, 0, 0), some (.aload_n 0, 1, 0, 0, 0), some (.iload 4, 2, 0, 0, 0), none, some (.iload_n 3, 1, 0, 0, 0), some (.invokevirtual 105, 3, 129, 903, 260), none, none, some (.aload_n 0, 1, 0, 0, 0), some (.iload_n 2, 1, 0, 0, 0), some (.iload_n 3, 1, 0, 0, 0), some (.iload 4, 2, 0, 0, 0), none, some (.invokevirtual 97, 3, 125, 904, 258), none, none, some (.invokevirtual 101, 3, 130, 903, 261), none, none, some (.iinc 4 1, 3, 0, 0, 0), none, none, some (.goto (-33), 3, 25, 0, 0), none, none, some (.iinc 3 1, 3, 0, 0, 0), none, none, some (.goto (-52), 3, 12, 0, 0), none, none, some (.aload_n 0, 1, 0, 0, 0), some (.iload_n 1, 1, 0, 0, 0), some (.aload_n 0, 1, 0, 0, 0), some (.getfield 60, 3, 8, 6, 246), none, none, some (.iload_n 2, 1, 0, 0, 0), some (.iaload, 1, 0, 0, 0), some (.aload_n 0, 1, 0, 0, 0), some (.getfield 57, 3, 8, 5, 245), none, none, some (.iload_n 2, 1, 0, 0, 0), some (.iaload, 1, 0, 0, 0), some (.invokevirtual 125, 3, 139, 904, 263), none, none, some (.istore_n 3, 1, 0, 0, 0), some (.return_, 1, 0, 0, 0)]
def k_Mo_rank : List (Option ax_E) := [some (.aload_n 0, 1, 0, 0, 0), some (.aload_n 0, 1, 0, 0, 0), some (.iload_n 1, 1, 0, 0, 0), some (.invokevirtual 82, 3, 120, 902, 253), none, none, some (.ifCond .eq 7, 3, 13, 0, 0), none, none, some (.iconst 0, 1, 0, 0, 0), some (.goto 4, 3, 14, 0, 0), none, none, some (.iconst 1, 1, 0, 0, 0), some (.putfield 78, 3, 8, 3, 252), none, none, some (.aload_n 0, 1, 0, 0, 0), some (.getfield 78, 3, 8, 3, 252), none, none, some (.ifCond .le 5, 3, 26, 0, 0), none, none, some (.iconst 0, 1, 0, 0, 0), some (.ireturn, 1, 0, 0, 0), some (.aload_n 0, 1, 0, 0, 0), some (.iload_n 1, 1, 0, 0, 0), some (.invokevirtual 163, 3, 144, 902, 275), none, none, some (.aload_n 0, 1, 0, 0, 0), some (.invokevirtual 166, 3, 145, 901, 276), none, none, some (.ireturn, 1, 0, 0, 0)]
def k_Mo_lookAt : List (Option ax_E) := [some (.aload_n 0, 1, 0, 0, 0), some (.aload_n 0, 1, 0, 0, 0), some (.getfield 57, 3, 8, 5, 245), none, none, some (.iload_n 1, 1, 0, 0, 0), some (.iaload, 1, 0, 0, 0), some (.putfield 128, 3, 8, 8, 277), none, none, some (.aload_n 0, 1, 0, 0, 0), some (.aload_n 0, 1, 0, 0, 0), some (.getfield 60, 3, 8, 6, 246), none, none, some (.iload_n 1, 1, 0, 0, 0), some (.iaload, 1, 0, 0, 0), some (.putfield 131, 3, 8, 9, 278), none, none, some (.iconst 0, 1, 0, 0, 0), some (.istore_n 2, 1, 0, 0, 0), some (.iload_n 2, 1, 0, 0, 0), some (.aload_n 0, 1, 0, 0, 0), some (.getfield 128, 3, 8, 8, 277), none, none, some (.if_icmp .ge 43, 3, 70, 0, 0), none, none, some (.iconst 0, 1, 0, 0, 0), some (.istore_n 3, 1, 0, 0, 0), some (.iload_n 3, 1, 0, 0, 0), some (.aload_n 0, 1, 0, 0, 0), some (.getfield 131, 3, 8, 9, 278), none, none, some (.if_icmp .ge 27, 3, 64, 0, 0), none, none, some (.aload_n 0, 1, 0, 0, 0), some (.getfield 63, 3, 8, 7, 247), none, none, some (.bipush 12, 2, 0, 0, 0), none, some (.iload_n 2, 1, 0, 0, 0), some (.imul, 1, 0, 0, 0), some (.iload_n 3, 1, 0, 0, 0), some (.iadd, 1, 0, 0, 0), some (.aload_n 0, 1, 0, 0, 0), some (.iload_n 1, 1, 0, 0, 0), some (.iload_n 2, 1, 0, 0, 0), some (.iload_n 3, 1, 0, 0, 0), some (.invokevirtual 97, 3, 125, 904, 258), none, none, some (.lastore, 1, 0, 0, 0), some (.iinc 3 1, 3, 0, 0, 0), none, none, some (.goto (-29), 3, 32, 0, 0), none, none, some (.iinc 2 1, 3, 0, 0, 0), none, none, some (.goto (-45), 3, 22, 0, 0), none, none, some (.return_, 1, 0, 0, 0)]
def k_Mo_rankOf : List (Option ax_E) := [some (.aload_n 0, 1, 0, 0, 0), some (.aload_n 0, 1, 0, 0, 0), some (.getfield 128, 3, 8, 8, 277), none, none, some (.aload_n 0, 1, 0, 0, 0), some (.getfield 131, 3, 8, 9, 278), none, none, some (.invokevirtual 156, 3, 146, 903, 279), none, none, some (.istore_n 1, 1, 0, 0, 0), some (.iload_n 1, 1, 0, 0, 0), some (.ifCond .le 20, 3, 34, 0, 0), none, none, some (.aload_n 0, 1, 0, 0, 0), some (.iload_n 1, 1, 0, 0, 0), some (.sipush 273, 3, 0, 0, 0), none, none, some (.invokevirtual 159, 3, 147, 903, 280), none, none, some (.ifCond .ne 9, 3, 34, 0, 0), none, none, some (.iinc 1 (-1), 3, 0, 0, 0), none, none, some (.goto (-18), 3, 13, 0, 0), none, none, some (.iload_n 1, 1, 0, 0, 0), some (.ireturn, 1, 0, 0, 0)]
def k_Mo_least : List (Option ax_E) := [some (.iload_n 1, 1, 0, 0, 0), some (.iload_n 2, 1, 0, 0, 0), some (.if_icmp .ge 7, 3, 9, 0, 0), none, none, some (.iload_n 1, 1, 0, 0, 0), some (.goto 4, 3, 10, 0, 0), none, none, some (.iload_n 2, 1, 0, 0, 0), some (.ireturn, 1, 0, 0, 0)]
def k_Mo_divisorOf : List (Option ax_E) := [some (.aload_n 0, 1, 0, 0, 0), some (.iload_n 2, 1, 0, 0, 0), some (.lconst 0, 1, 0, 0, 0), some (.invokevirtual 101, 3, 130, 903, 261), none, none, some (.iconst 0, 1, 0, 0, 0), some (.istore_n 3, 1, 0, 0, 0), some (.iload_n 3, 1, 0, 0, 0), some (.iconst 1, 1, 0, 0, 0), some (.aload_n 0, 1, 0, 0, 0), some (.getfield 131, 3, 8, 9, 278), none, none, some (.ishl, 1, 0, 0, 0), some (.if_icmp .ge 81, 3, 96, 0, 0), none, none, some (.iload_n 3, 1, 0, 0, 0), some (.invokestatic 134, 3, 148, 1, 281), none, none, some (.iload_n 1, 1, 0, 0, 0), some (.if_icmp .ne 67, 3, 90, 0, 0), none, none, some (.aload_n 0, 1, 0, 0, 0), some (.iload_n 3, 1, 0, 0, 0), some (.invokevirtual 147, 3, 149, 902, 282), none, none, some (.istore 4, 2, 0, 0, 0), none, some (.aload_n 0, 1, 0, 0, 0), some (.iload 4, 2, 0, 0, 0), none, some (.invokevirtual 150, 3, 150, 902, 283), none, none, some (.iconst 0, 1, 0, 0, 0), some (.istore 5, 2, 0, 0, 0), none, some (.iload 5, 2, 0, 0, 0), none, some (.iconst 1, 1, 0, 0, 0), some (.aload_n 0, 1, 0, 0, 0), some (.getfield 128, 3, 8, 8, 277), none, none, some (.ishl, 1, 0, 0, 0), some (.if_icmp .ge 40, 3, 90, 0, 0), none, none, some (.iload 5, 2, 0, 0, 0), none, some (.invokestatic 134, 3, 148, 1, 281), none, none, some (.iload_n 1, 1, 0, 0, 0), some (.if_icmp .ne 25, 3, 84, 0, 0), none, none, some (.aload_n 0, 1, 0, 0, 0), some (.bipush 36, 2, 0, 0, 0), none, some (.iload 5, 2, 0, 0, 0), none, some (.iadd, 1, 0, 0, 0), some (.invokevirtual 141, 3, 151, 902, 284), none, none, some (.ifCond .ne 13, 3, 84, 0, 0), none, none, some (.aload_n 0, 1, 0, 0, 0), some (.iload_n 2, 1, 0, 0, 0), some (.bipush 36, 2, 0, 0, 0), none, some (.iload 5, 2, 0, 0, 0), none, some (.iadd, 1, 0, 0, 0), some (.invokevirtual 153, 3, 152, 903, 285), none, none, some (.iinc 5 1, 3, 0, 0, 0), none, none, some (.goto (-45), 3, 42, 0, 0), none, none, some (.iinc 3 1, 3, 0, 0, 0), none, none, some (.goto (-85), 3, 8, 0, 0), none, none, some (.aload_n 0, 1, 0, 0, 0), some (.iload_n 2, 1, 0, 0, 0), some (.invokevirtual 141, 3, 151, 902, 284), none, none, some (.ifCond .ne 7, 3, 108, 0, 0), none, none, some (.iconst 1, 1, 0, 0, 0), some (.goto 4, 3, 109, 0, 0), none, none, some (.iconst 0, 1, 0, 0, 0), some (.ireturn, 1, 0, 0, 0)]
def k_Mo_sizeOf : List (Option ax_E) := [some (.iconst 0, 1, 0, 0, 0), some (.istore_n 1, 1, 0, 0, 0), some (.iconst 0, 1, 0, 0, 0), some (.istore_n 2, 1, 0, 0, 0), some (.iload_n 2, 1, 0, 0, 0), some (.bipush 12, 2, 0, 0, 0), none, some (.if_icmp .ge 17, 3, 24, 0, 0), none, none, some (.iload_n 1, 1, 0, 0, 0), some (.iload_n 0, 1, 0, 0, 0), some (.iload_n 2, 1, 0, 0, 0), some (.ishr, 1, 0, 0, 0), some (.iconst 1, 1, 0, 0, 0), some (.iand, 1, 0, 0, 0), some (.iadd, 1, 0, 0, 0), some (.istore_n 1, 1, 0, 0, 0), some (.iinc 2 1, 3, 0, 0, 0), none, none, some (.goto (-17), 3, 4, 0, 0), none, none, some (.iload_n 1, 1, 0, 0, 0), some (.ireturn, 1, 0, 0, 0)]
def k_Mo_pick : List (Option ax_E) := [some (.iconst 0, 1, 0, 0, 0), some (.istore_n 2, 1, 0, 0, 0), some (.iconst 0, 1, 0, 0, 0), some (.istore_n 3, 1, 0, 0, 0), some (.iload_n 3, 1, 0, 0, 0), some (.aload_n 0, 1, 0, 0, 0), some (.getfield 131, 3, 8, 9, 278), none, none, some (.if_icmp .ge 28, 3, 37, 0, 0), none, none, some (.iload_n 1, 1, 0, 0, 0), some (.iload_n 3, 1, 0, 0, 0), some (.ishr, 1, 0, 0, 0), some (.iconst 1, 1, 0, 0, 0), some (.iand, 1, 0, 0, 0), some (.iconst 1, 1, 0, 0, 0), some (.if_icmp .ne 13, 3, 31, 0, 0), none, none, some (.aload_n 0, 1, 0, 0, 0), some (.getfield 66, 3, 8, 10, 248), none, none, some (.iload_n 2, 1, 0, 0, 0), some (.iload_n 3, 1, 0, 0, 0), some (.iastore, 1, 0, 0, 0), some (.iinc 2 1, 3, 0, 0, 0), none, none, some (.iinc 3 1, 3, 0, 0, 0), none, none, some (.goto (-30), 3, 4, 0, 0), none, none, some (.iload_n 2, 1, 0, 0, 0), some (.ireturn, 1, 0, 0, 0)]
def k_Mo_findMinors : List (Option ax_E) := [some (.iconst 0, 1, 0, 0, 0), some (.istore_n 2, 1, 0, 0, 0), some (.iload_n 2, 1, 0, 0, 0), some (.iconst 1, 1, 0, 0, 0), some (.aload_n 0, 1, 0, 0, 0), some (.getfield 128, 3, 8, 8, 277), none, none, some (.ishl, 1, 0, 0, 0), some (.if_icmp .ge 149, 3, 158, 0, 0), none, none, some (.iload_n 2, 1, 0, 0, 0), some (.invokestatic 134, 3, 148, 1, 281), none, none, some (.istore_n 3, 1, 0, 0, 0), some (.aload_n 0, 1, 0, 0, 0), some (.bipush 36, 2, 0, 0, 0), none, some (.iload_n 2, 1, 0, 0, 0), some (.iadd, 1, 0, 0, 0), some (.iload_n 3, 1, 0, 0, 0), some (.ifCond .ne 7, 3, 30, 0, 0), none, none, some (.lconst 1, 1, 0, 0, 0), some (.goto 4, 3, 31, 0, 0), none, none, some (.lconst 0, 1, 0, 0, 0), some (.invokevirtual 101, 3, 130, 903, 261), none, none, some (.iload_n 3, 1, 0, 0, 0), some (.ifCond .le 117, 3, 152, 0, 0), none, none, some (.iload_n 3, 1, 0, 0, 0), some (.iload_n 1, 1, 0, 0, 0), some (.if_icmp .gt 112, 3, 152, 0, 0), none, none, some (.iconst 0, 1, 0, 0, 0), some (.istore 4, 2, 0, 0, 0), none, some (.iconst 0, 1, 0, 0, 0), some (.istore 5, 2, 0, 0, 0), none, some (.iload 5, 2, 0, 0, 0), none, some (.aload_n 0, 1, 0, 0, 0), some (.getfield 128, 3, 8, 8, 277), none, none, some (.if_icmp .ge 97, 3, 152, 0, 0), none, none, some (.iload_n 2, 1, 0, 0, 0), some (.iload 5, 2, 0, 0, 0), none, some (.ishr, 1, 0, 0, 0), some (.iconst 1, 1, 0, 0, 0), some (.iand, 1, 0, 0, 0), some (.iconst 1, 1, 0, 0, 0), some (.if_icmp .ne 81, 3, 146, 0, 0), none, none, some (.aload_n 0, 1, 0, 0, 0), some (.sipush 268, 3, 0, 0, 0), none, none, some (.aload_n 0, 1, 0, 0, 0), some (.getfield 63, 3, 8, 7, 247), none, none, some (.bipush 12, 2, 0, 0, 0), none, some (.iload 5, 2, 0, 0, 0), none, some (.imul, 1, 0, 0, 0), some (.aload_n 0, 1, 0, 0, 0), some (.getfield 66, 3, 8, 10, 248), none, none, some (.iload_n 3, 1, 0, 0, 0), some (.iconst 1, 1, 0, 0, 0), some (.isub, 1, 0, 0, 0), some (.iaload, 1, 0, 0, 0), some (.iadd, 1, 0, 0, 0), some (.laload, 1, 0, 0, 0), some (.invokevirtual 101, 3, 130, 903, 261), none, none, some (.aload_n 0, 1, 0, 0, 0), some (.sipush 269, 3, 0, 0, 0), none, none, some (.sipush 268, 3, 0, 0, 0), none, none, some (.bipush 36, 2, 0, 0, 0), none, some (.iload_n 2, 1, 0, 0, 0), some (.iconst 1, 1, 0, 0, 0), some (.iload 5, 2, 0, 0, 0), none, some (.ishl, 1, 0, 0, 0), some (.iconst (-1), 1, 0, 0, 0), some (.ixor, 1, 0, 0, 0), some (.iand, 1, 0, 0, 0), some (.iadd, 1, 0, 0, 0), some (.invokevirtual 112, 3, 132, 904, 265), none, none, some (.aload_n 0, 1, 0, 0, 0), some (.bipush 36, 2, 0, 0, 0), none, some (.iload_n 2, 1, 0, 0, 0), some (.iadd, 1, 0, 0, 0), some (.sipush 269, 3, 0, 0, 0), none, none, some (.iload 4, 2, 0, 0, 0), none, some (.iload_n 3, 1, 0, 0, 0), some (.iadd, 1, 0, 0, 0), some (.iconst 1, 1, 0, 0, 0), some (.isub, 1, 0, 0, 0), some (.iconst 2, 1, 0, 0, 0), some (.irem, 1, 0, 0, 0), some (.iconst 1, 1, 0, 0, 0), some (.if_icmp .ne 7, 3, 139, 0, 0), none, none, some (.iconst 1, 1, 0, 0, 0), some (.goto 4, 3, 140, 0, 0), none, none, some (.iconst 0, 1, 0, 0, 0), some (.invokevirtual 115, 3, 134, 904, 266), none, none, some (.iinc 4 1, 3, 0, 0, 0), none, none, some (.iinc 5 1, 3, 0, 0, 0), none, none, some (.goto (-100), 3, 49, 0, 0), none, none, some (.iinc 2 1, 3, 0, 0, 0), none, none, some (.goto (-153), 3, 2, 0, 0), none, none, some (.return_, 1, 0, 0, 0)]
def k_Mo_bigIsZero : List (Option ax_E) := [some (.aload_n 0, 1, 0, 0, 0), some (.getfield 13, 3, 8, 1, 242), none, none, some (.iload_n 1, 1, 0, 0, 0), some (.iaload, 1, 0, 0, 0), some (.ifCond .ne 7, 3, 13, 0, 0), none, none, some (.iconst 1, 1, 0, 0, 0), some (.goto 4, 3, 14, 0, 0), none, none, some (.iconst 0, 1, 0, 0, 0), some (.ireturn, 1, 0, 0, 0)]
def k_Mo_divide : List (Option ax_E) := [some (.aload_n 0, 1, 0, 0, 0), some (.sipush 268, 3, 0, 0, 0), none, none, some (.iload_n 2, 1, 0, 0, 0), some (.invokevirtual 138, 3, 153, 903, 286), none, none, some (.aload_n 0, 1, 0, 0, 0), some (.getfield 1, 3, 8, 2, 243), none, none, some (.sipush 268, 3, 0, 0, 0), none, none, some (.iconst 0, 1, 0, 0, 0), some (.bastore, 1, 0, 0, 0), some (.aload_n 0, 1, 0, 0, 0), some (.getfield 1, 3, 8, 2, 243), none, none, some (.iload_n 1, 1, 0, 0, 0), some (.iconst 0, 1, 0, 0, 0), some (.bastore, 1, 0, 0, 0), some (.aload_n 0, 1, 0, 0, 0), some (.sipush 268, 3, 0, 0, 0), none, none, some (.invokevirtual 141, 3, 151, 902, 284), none, none, some (.ifCond .ne 53, 3, 84, 0, 0), none, none, some (.aload_n 0, 1, 0, 0, 0), some (.sipush 269, 3, 0, 0, 0), none, none, some (.sipush 268, 3, 0, 0, 0), none, none, some (.invokevirtual 138, 3, 153, 903, 286), none, none, some (.aload_n 0, 1, 0, 0, 0), some (.iload_n 1, 1, 0, 0, 0), some (.sipush 269, 3, 0, 0, 0), none, none, some (.sipush 272, 3, 0, 0, 0), none, none, some (.invokevirtual 144, 3, 154, 904, 287), none, none, some (.aload_n 0, 1, 0, 0, 0), some (.sipush 270, 3, 0, 0, 0), none, none, some (.iload_n 1, 1, 0, 0, 0), some (.invokevirtual 138, 3, 153, 903, 286), none, none, some (.aload_n 0, 1, 0, 0, 0), some (.iload_n 1, 1, 0, 0, 0), some (.sipush 268, 3, 0, 0, 0), none, none, some (.invokevirtual 138, 3, 153, 903, 286), none, none, some (.aload_n 0, 1, 0, 0, 0), some (.sipush 268, 3, 0, 0, 0), none, none, some (.sipush 270, 3, 0, 0, 0), none, none, some (.invokevirtual 138, 3, 153, 903, 286), none, none, some (.goto (-57), 3, 24, 0, 0), none, none, some (.return_, 1, 0, 0, 0)]
def k_Mo_bigCopy : List (Option ax_E) := [some (.aload_n 0, 1, 0, 0, 0), some (.getfield 1, 3, 8, 2, 243), none, none, some (.iload_n 1, 1, 0, 0, 0), some (.aload_n 0, 1, 0, 0, 0), some (.getfield 1, 3, 8, 2, 243), none, none, some (.iload_n 2, 1, 0, 0, 0), some (.baload, 1, 0, 0, 0), some (.bastore, 1, 0, 0, 0), some (.aload_n 0, 1, 0, 0, 0), some (.getfield 13, 3, 8, 1, 242), none, none, some (.iload_n 1, 1, 0, 0, 0), some (.aload_n 0, 1, 0, 0, 0), some (.getfield 13, 3, 8, 1, 242), none, none, some (.iload_n 2, 1, 0, 0, 0), some (.iaload, 1, 0, 0, 0), some (.iastore, 1, 0, 0, 0), some (.iconst 0, 1, 0, 0, 0), some (.istore_n 3, 1, 0, 0, 0), some (.iload_n 3, 1, 0, 0, 0), some (.aload_n 0, 1, 0, 0, 0), some (.getfield 13, 3, 8, 1, 242), none, none, some (.iload_n 2, 1, 0, 0, 0), some (.iaload, 1, 0, 0, 0), some (.if_icmp .ge 33, 3, 66, 0, 0), none, none, some (.aload_n 0, 1, 0, 0, 0), some (.getfield 7, 3, 8, 0, 241), none, none, some (.sipush 140, 3, 0, 0, 0), none, none, some (.iload_n 1, 1, 0, 0, 0), some (.imul, 1, 0, 0, 0), some (.iload_n 3, 1, 0, 0, 0), some (.iadd, 1, 0, 0, 0), some (.aload_n 0, 1, 0, 0, 0), some (.getfield 7, 3, 8, 0, 241), none, none, some (.sipush 140, 3, 0, 0, 0), none, none, some (.iload_n 2, 1, 0, 0, 0), some (.imul, 1, 0, 0, 0), some (.iload_n 3, 1, 0, 0, 0), some (.iadd, 1, 0, 0, 0), some (.iaload, 1, 0, 0, 0), some (.iastore, 1, 0, 0, 0), some (.iinc 3 1, 3, 0, 0, 0), none, none, some (.goto (-37), 3, 26, 0, 0), none, none, some (.return_, 1, 0, 0, 0)]
def k_Mo_bigDivide : List (Option ax_E) := [some (.aload_n 0, 1, 0, 0, 0), some (.getfield 1, 3, 8, 2, 243), none, none, some (.iload_n 1, 1, 0, 0, 0), some (.iconst 0, 1, 0, 0, 0), some (.bastore, 1, 0, 0, 0), some (.aload_n 0, 1, 0, 0, 0), some (.getfield 1, 3, 8, 2, 243), none, none, some (.iload_n 3, 1, 0, 0, 0), some (.iconst 0, 1, 0, 0, 0), some (.bastore, 1, 0, 0, 0), some (.aload_n 0, 1, 0, 0, 0), some (.getfield 13, 3, 8, 1, 242), none, none, some (.iload_n 1, 1, 0, 0, 0), some (.iaload, 1, 0, 0, 0), some (.aload_n 0, 1, 0, 0, 0), some (.getfield 13, 3, 8, 1, 242), none, none, some (.iload_n 2, 1, 0, 0, 0), some (.iaload, 1, 0, 0, 0), some (.isub, 1, 0, 0, 0), some (.istore 4, 2, 0, 0, 0), none, some (.aload_n 0, 1, 0, 0, 0), some (.getfield 13, 3, 8, 1, 242), none, none, some (.iload_n 3, 1, 0, 0, 0), some (.iload 4, 2, 0, 0, 0), none, some (.ifCond .ge 7, 3, 43, 0, 0), none, none, some (.iconst 0, 1, 0, 0, 0), some (.goto 7, 3, 47, 0, 0), none, none, some (.iload 4, 2, 0, 0, 0), none, some (.iconst 1, 1, 0, 0, 0), some (.iadd, 1, 0, 0, 0), some (.iastore, 1, 0, 0, 0), some (.aload_n 0, 1, 0, 0, 0), some (.iload_n 2, 1, 0, 0, 0), some (.aload_n 0, 1, 0, 0, 0), some (.getfield 13, 3, 8, 1, 242), none, none, some (.iload_n 2, 1, 0, 0, 0), some (.iaload, 1, 0, 0, 0), some (.iconst 1, 1, 0, 0, 0), some (.isub, 1, 0, 0, 0), some (.invokevirtual 16, 3, 136, 903, 272), none, none, some (.i2l, 1, 0, 0, 0), some (.lconst 1, 1, 0, 0, 0), some (.ladd, 1, 0, 0, 0), some (.lstore 5, 2, 0, 0, 0), none, some (.iload 4, 2, 0, 0, 0), none, some (.istore 7, 2, 0, 0, 0), none, some (.iload 7, 2, 0, 0, 0), none, some (.ifCond .lt 120, 3, 192, 0, 0), none, none, some (.lconst 0, 1, 0, 0, 0), some (.lstore 8, 2, 0, 0, 0), none, some (.aload_n 0, 1, 0, 0, 0), some (.iload_n 1, 1, 0, 0, 0), some (.iload_n 2, 1, 0, 0, 0), some (.iload 7, 2, 0, 0, 0), none, some (.invokevirtual 38, 3, 155, 904, 288), none, none, some (.ifCond .eq 84, 3, 170, 0, 0), none, none, some (.aload_n 0, 1, 0, 0, 0), some (.iload_n 1, 1, 0, 0, 0), some (.iload 7, 2, 0, 0, 0), none, some (.aload_n 0, 1, 0, 0, 0), some (.getfield 13, 3, 8, 1, 242), none, none, some (.iload_n 2, 1, 0, 0, 0), some (.iaload, 1, 0, 0, 0), some (.iadd, 1, 0, 0, 0), some (.invokevirtual 16, 3, 136, 903, 272), none, none, some (.i2l, 1, 0, 0, 0), some (.ldc2_w 36, 3, 7, 0, 267), none, none, some (.lmul, 1, 0, 0, 0), some (.aload_n 0, 1, 0, 0, 0), some (.iload_n 1, 1, 0, 0, 0), some (.iload 7, 2, 0, 0, 0), none, some (.aload_n 0, 1, 0, 0, 0), some (.getfield 13, 3, 8, 1, 242), none, none, some (.iload_n 2, 1, 0, 0, 0), some (.iaload, 1, 0, 0, 0), some (.iadd, 1, 0, 0, 0), some (.iconst 1, 1, 0, 0, 0), some (.isub, 1, 0, 0, 0), some (.invokevirtual 16, 3, 136, 903, 272), none, none, some (.i2l, 1, 0, 0, 0), some (.ladd, 1, 0, 0, 0), some (.lstore 10, 2, 0, 0, 0), none, some (.lload 10, 2, 0, 0, 0), none, some (.lload 5, 2, 0, 0, 0), none, some (.ldiv, 1, 0, 0, 0), some (.lstore 12, 2, 0, 0, 0), none, some (.lload 12, 2, 0, 0, 0), none, some (.lconst 1, 1, 0, 0, 0), some (.lcmp, 1, 0, 0, 0), some (.ifCond .ge 7, 3, 146, 0, 0), none, none, some (.lconst 1, 1, 0, 0, 0), some (.goto 5, 3, 148, 0, 0), none, none, some (.lload 12, 2, 0, 0, 0), none, some (.lstore 12, 2, 0, 0, 0), none, some (.aload_n 0, 1, 0, 0, 0), some (.iload_n 1, 1, 0, 0, 0), some (.iload_n 2, 1, 0, 0, 0), some (.lload 12, 2, 0, 0, 0), none, some (.iload 7, 2, 0, 0, 0), none, some (.invokevirtual 42, 3, 156, 905, 289), none, none, some (.lload 8, 2, 0, 0, 0), none, some (.lload 12, 2, 0, 0, 0), none, some (.ladd, 1, 0, 0, 0), some (.lstore 8, 2, 0, 0, 0), none, some (.goto (-89), 3, 78, 0, 0), none, none, some (.aload_n 0, 1, 0, 0, 0), some (.getfield 7, 3, 8, 0, 241), none, none, some (.sipush 140, 3, 0, 0, 0), none, none, some (.iload_n 3, 1, 0, 0, 0), some (.imul, 1, 0, 0, 0), some (.iload 7, 2, 0, 0, 0), none, some (.iadd, 1, 0, 0, 0), some (.lload 8, 2, 0, 0, 0), none, some (.l2i, 1, 0, 0, 0), some (.iastore, 1, 0, 0, 0), some (.iinc 7 (-1), 3, 0, 0, 0), none, none, some (.goto (-119), 3, 70, 0, 0), none, none, some (.aload_n 0, 1, 0, 0, 0), some (.iload_n 3, 1, 0, 0, 0), some (.invokevirtual 21, 3, 133, 902, 268), none, none, some (.return_, 1, 0, 0, 0)]
def k_Mo_bigHolds : List (Option ax_E) := [some (.aload_n 0, 1, 0, 0, 0), some (.getfield 13, 3, 8, 1, 242), none, none, some (.iload_n 1, 1, 0, 0, 0), some (.iaload, 1, 0, 0, 0), some (.aload_n 0, 1, 0, 0, 0), some (.getfield 13, 3, 8, 1, 242), none, none, some (.iload_n 2, 1, 0, 0, 0), some (.iaload, 1, 0, 0, 0), some (.iload_n 3, 1, 0, 0, 0), some (.iadd, 1, 0, 0, 0), some (.if_icmp .eq 26, 3, 40, 0, 0), none, none, some (.aload_n 0, 1, 0, 0, 0), some (.getfield 13, 3, 8, 1, 242), none, none, some (.iload_n 1, 1, 0, 0, 0), some (.iaload, 1, 0, 0, 0), some (.aload_n 0, 1, 0, 0, 0), some (.getfield 13, 3, 8, 1, 242), none, none, some (.iload_n 2, 1, 0, 0, 0), some (.iaload, 1, 0, 0, 0), some (.iload_n 3, 1, 0, 0, 0), some (.iadd, 1, 0, 0, 0), some (.if_icmp .le 7, 3, 38, 0, 0), none, none, some (.iconst 1, 1, 0, 0, 0), some (.goto 4, 3, 39, 0, 0), none, none, some (.iconst 0, 1, 0, 0, 0), some (.ireturn, 1, 0, 0, 0), some (.aload_n 0, 1, 0, 0, 0), some (.getfield 13, 3, 8, 1, 242), none, none, some (.iload_n 1, 1, 0, 0, 0), some (.iaload, 1, 0, 0, 0), some (.iconst 1, 1, 0, 0, 0), some (.isub, 1, 0, 0, 0), some (.istore 4, 2, 0, 0, 0), none, some (.iload 4, 2, 0, 0, 0), none, some (.iload_n 3, 1, 0, 0, 0), some (.if_icmp .lt 28, 3, 81, 0, 0), none, none, some (.aload_n 0, 1, 0, 0, 0), some (.iload_n 1, 1, 0, 0, 0), some (.iload 4, 2, 0, 0, 0), none, some (.invokevirtual 16, 3, 136, 903, 272), none, none, some (.aload_n 0, 1, 0, 0, 0), some (.iload_n 2, 1, 0, 0, 0), some (.iload 4, 2, 0, 0, 0), none, some (.iload_n 3, 1, 0, 0, 0), some (.isub, 1, 0, 0, 0), some (.invokevirtual 16, 3, 136, 903, 272), none, none, some (.if_icmp .ne 9, 3, 81, 0, 0), none, none, some (.iinc 4 (-1), 3, 0, 0, 0), none, none, some (.goto (-28), 3, 50, 0, 0), none, none, some (.iload 4, 2, 0, 0, 0), none, some (.iload_n 3, 1, 0, 0, 0), some (.if_icmp .lt 22, 3, 106, 0, 0), none, none, some (.aload_n 0, 1, 0, 0, 0), some (.iload_n 1, 1, 0, 0, 0), some (.iload 4, 2, 0, 0, 0), none, some (.invokevirtual 16, 3, 136, 903, 272), none, none, some (.aload_n 0, 1, 0, 0, 0), some (.iload_n 2, 1, 0, 0, 0), some (.iload 4, 2, 0, 0, 0), none, some (.iload_n 3, 1, 0, 0, 0), some (.isub, 1, 0, 0, 0), some (.invokevirtual 16, 3, 136, 903, 272), none, none, some (.if_icmp .le 7, 3, 110, 0, 0), none, none, some (.iconst 1, 1, 0, 0, 0), some (.goto 4, 3, 111, 0, 0), none, none, some (.iconst 0, 1, 0, 0, 0), some (.ireturn, 1, 0, 0, 0)]
def k_Mo_bigLose : List (Option ax_E) := [some (.lconst 0, 1, 0, 0, 0), some (.lstore 6, 2, 0, 0, 0), none, some (.iload 5, 2, 0, 0, 0), none, some (.istore 8, 2, 0, 0, 0), none, some (.iload 8, 2, 0, 0, 0), none, some (.aload_n 0, 1, 0, 0, 0), some (.getfield 13, 3, 8, 1, 242), none, none, some (.iload_n 1, 1, 0, 0, 0), some (.iaload, 1, 0, 0, 0), some (.if_icmp .ge 100, 3, 115, 0, 0), none, none, some (.aload_n 0, 1, 0, 0, 0), some (.getfield 7, 3, 8, 0, 241), none, none, some (.sipush 140, 3, 0, 0, 0), none, none, some (.iload_n 1, 1, 0, 0, 0), some (.imul, 1, 0, 0, 0), some (.iload 8, 2, 0, 0, 0), none, some (.iadd, 1, 0, 0, 0), some (.iaload, 1, 0, 0, 0), some (.i2l, 1, 0, 0, 0), some (.lload 6, 2, 0, 0, 0), none, some (.lsub, 1, 0, 0, 0), some (.iload 8, 2, 0, 0, 0), none, some (.iload 5, 2, 0, 0, 0), none, some (.isub, 1, 0, 0, 0), some (.aload_n 0, 1, 0, 0, 0), some (.getfield 13, 3, 8, 1, 242), none, none, some (.iload_n 2, 1, 0, 0, 0), some (.iaload, 1, 0, 0, 0), some (.if_icmp .ge 25, 3, 71, 0, 0), none, none, some (.lload_n 3, 1, 0, 0, 0), some (.aload_n 0, 1, 0, 0, 0), some (.getfield 7, 3, 8, 0, 241), none, none, some (.sipush 140, 3, 0, 0, 0), none, none, some (.iload_n 2, 1, 0, 0, 0), some (.imul, 1, 0, 0, 0), some (.iload 8, 2, 0, 0, 0), none, some (.iadd, 1, 0, 0, 0), some (.iload 5, 2, 0, 0, 0), none, some (.isub, 1, 0, 0, 0), some (.iaload, 1, 0, 0, 0), some (.i2l, 1, 0, 0, 0), some (.lmul, 1, 0, 0, 0), some (.goto 4, 3, 72, 0, 0), none, none, some (.lconst 0, 1, 0, 0, 0), some (.lsub, 1, 0, 0, 0), some (.lstore 9, 2, 0, 0, 0), none, some (.lload 9, 2, 0, 0, 0), none, some (.ldc2_w 11, 3, 6, 0, 264), none, none, some (.land, 1, 0, 0, 0), some (.lstore 11, 2, 0, 0, 0), none, some (.lload 11, 2, 0, 0, 0), none, some (.lload 9, 2, 0, 0, 0), none, some (.lsub, 1, 0, 0, 0), some (.bipush 24, 2, 0, 0, 0), none, some (.lshr, 1, 0, 0, 0), some (.lstore 6, 2, 0, 0, 0), none, some (.aload_n 0, 1, 0, 0, 0), some (.getfield 7, 3, 8, 0, 241), none, none, some (.sipush 140, 3, 0, 0, 0), none, none, some (.iload_n 1, 1, 0, 0, 0), some (.imul, 1, 0, 0, 0), some (.iload 8, 2, 0, 0, 0), none, some (.iadd, 1, 0, 0, 0), some (.lload 11, 2, 0, 0, 0), none, some (.l2i, 1, 0, 0, 0), some (.iastore, 1, 0, 0, 0), some (.iinc 8 1, 3, 0, 0, 0), none, none, some (.goto (-105), 3, 7, 0, 0), none, none, some (.aload_n 0, 1, 0, 0, 0), some (.iload_n 1, 1, 0, 0, 0), some (.invokevirtual 21, 3, 133, 902, 268), none, none, some (.return_, 1, 0, 0, 0)]
def k_Mo_hermite : List (Option ax_E) := [some (.aload_n 0, 1, 0, 0, 0), some (.iload_n 1, 1, 0, 0, 0), some (.iload_n 2, 1, 0, 0, 0), some (.iload_n 2, 1, 0, 0, 0), some (.invokevirtual 118, 3, 128, 904, 259), none, none, some (.ifCond .ne 5, 3, 12, 0, 0), none, none, some (.iconst 0, 1, 0, 0, 0), some (.ireturn, 1, 0, 0, 0), some (.aload_n 0, 1, 0, 0, 0), some (.iload_n 2, 1, 0, 0, 0), some (.invokevirtual 163, 3, 144, 902, 275), none, none, some (.aload_n 0, 1, 0, 0, 0), some (.invokevirtual 203, 3, 158, 901, 290), none, none, some (.iconst 0, 1, 0, 0, 0), some (.istore_n 3, 1, 0, 0, 0), some (.iload_n 3, 1, 0, 0, 0), some (.aload_n 0, 1, 0, 0, 0), some (.getfield 57, 3, 8, 5, 245), none, none, some (.iload_n 2, 1, 0, 0, 0), some (.iaload, 1, 0, 0, 0), some (.if_icmp .ge 71, 3, 101, 0, 0), none, none, some (.iconst 0, 1, 0, 0, 0), some (.istore 4, 2, 0, 0, 0), none, some (.iload 4, 2, 0, 0, 0), none, some (.aload_n 0, 1, 0, 0, 0), some (.getfield 60, 3, 8, 6, 246), none, none, some (.iload_n 2, 1, 0, 0, 0), some (.iaload, 1, 0, 0, 0), some (.if_icmp .ge 51, 3, 95, 0, 0), none, none, some (.aload_n 0, 1, 0, 0, 0), some (.aload_n 0, 1, 0, 0, 0), some (.iload_n 3, 1, 0, 0, 0), some (.iload 4, 2, 0, 0, 0), none, some (.invokevirtual 105, 3, 129, 903, 260), none, none, some (.lconst 0, 1, 0, 0, 0), some (.invokevirtual 101, 3, 130, 903, 261), none, none, some (.iload_n 3, 1, 0, 0, 0), some (.aload_n 0, 1, 0, 0, 0), some (.getfield 170, 3, 8, 11, 291), none, none, some (.if_icmp .ge 25, 3, 89, 0, 0), none, none, some (.aload_n 0, 1, 0, 0, 0), some (.aload_n 0, 1, 0, 0, 0), some (.iload_n 3, 1, 0, 0, 0), some (.iload 4, 2, 0, 0, 0), none, some (.invokevirtual 105, 3, 129, 903, 260), none, none, some (.sipush 184, 3, 0, 0, 0), none, none, some (.bipush 12, 2, 0, 0, 0), none, some (.iload_n 3, 1, 0, 0, 0), some (.imul, 1, 0, 0, 0), some (.iadd, 1, 0, 0, 0), some (.iload 4, 2, 0, 0, 0), none, some (.iadd, 1, 0, 0, 0), some (.invokevirtual 138, 3, 153, 903, 286), none, none, some (.iinc 4 1, 3, 0, 0, 0), none, none, some (.goto (-56), 3, 36, 0, 0), none, none, some (.iinc 3 1, 3, 0, 0, 0), none, none, some (.goto (-75), 3, 23, 0, 0), none, none, some (.aload_n 0, 1, 0, 0, 0), some (.iload_n 1, 1, 0, 0, 0), some (.aload_n 0, 1, 0, 0, 0), some (.getfield 57, 3, 8, 5, 245), none, none, some (.iload_n 2, 1, 0, 0, 0), some (.iaload, 1, 0, 0, 0), some (.aload_n 0, 1, 0, 0, 0), some (.getfield 60, 3, 8, 6, 246), none, none, some (.iload_n 2, 1, 0, 0, 0), some (.iaload, 1, 0, 0, 0), some (.invokevirtual 125, 3, 139, 904, 263), none, none, some (.ifCond .eq 10, 3, 128, 0, 0), none, none, some (.aload_n 0, 1, 0, 0, 0), some (.getfield 170, 3, 8, 11, 291), none, none, some (.goto 5, 3, 130, 0, 0), none, none, some (.bipush (-3), 2, 0, 0, 0), none, some (.ireturn, 1, 0, 0, 0)]
def k_Mo_findForm : List (Option ax_E) := [some (.aload_n 0, 1, 0, 0, 0), some (.invokevirtual 191, 3, 159, 901, 292), none, none, some (.iconst 0, 1, 0, 0, 0), some (.istore_n 1, 1, 0, 0, 0), some (.iload_n 1, 1, 0, 0, 0), some (.bipush 72, 2, 0, 0, 0), none, some (.if_icmp .ge 19, 3, 28, 0, 0), none, none, some (.aload_n 0, 1, 0, 0, 0), some (.sipush 184, 3, 0, 0, 0), none, none, some (.iload_n 1, 1, 0, 0, 0), some (.iadd, 1, 0, 0, 0), some (.lconst 0, 1, 0, 0, 0), some (.invokevirtual 101, 3, 130, 903, 261), none, none, some (.iinc 1 1, 3, 0, 0, 0), none, none, some (.goto (-19), 3, 6, 0, 0), none, none, some (.aload_n 0, 1, 0, 0, 0), some (.invokevirtual 194, 3, 160, 901, 293), none, none, some (.aload_n 0, 1, 0, 0, 0), some (.invokevirtual 197, 3, 165, 901, 294), none, none, some (.aload_n 0, 1, 0, 0, 0), some (.invokevirtual 200, 3, 167, 901, 295), none, none, some (.return_, 1, 0, 0, 0)]
def k_Mo_findLeads : List (Option ax_E) := [some (.aload_n 0, 1, 0, 0, 0), some (.iconst 0, 1, 0, 0, 0), some (.putfield 170, 3, 8, 11, 291), none, none, some (.aload_n 0, 1, 0, 0, 0), some (.iconst 0, 1, 0, 0, 0), some (.putfield 173, 3, 8, 13, 296), none, none, some (.aload_n 0, 1, 0, 0, 0), some (.sipush 275, 3, 0, 0, 0), none, none, some (.lconst 1, 1, 0, 0, 0), some (.invokevirtual 101, 3, 130, 903, 261), none, none, some (.aload_n 0, 1, 0, 0, 0), some (.sipush 276, 3, 0, 0, 0), none, none, some (.lconst 1, 1, 0, 0, 0), some (.invokevirtual 101, 3, 130, 903, 261), none, none, some (.iconst 0, 1, 0, 0, 0), some (.istore_n 1, 1, 0, 0, 0), some (.iload_n 1, 1, 0, 0, 0), some (.aload_n 0, 1, 0, 0, 0), some (.getfield 131, 3, 8, 9, 278), none, none, some (.if_icmp .ge 195, 3, 228, 0, 0), none, none, some (.aload_n 0, 1, 0, 0, 0), some (.getfield 170, 3, 8, 11, 291), none, none, some (.aload_n 0, 1, 0, 0, 0), some (.getfield 128, 3, 8, 8, 277), none, none, some (.if_icmp .ge 184, 3, 228, 0, 0), none, none, some (.iconst 0, 1, 0, 0, 0), some (.istore_n 2, 1, 0, 0, 0), some (.iload_n 2, 1, 0, 0, 0), some (.aload_n 0, 1, 0, 0, 0), some (.getfield 170, 3, 8, 11, 291), none, none, some (.if_icmp .ge 21, 3, 75, 0, 0), none, none, some (.aload_n 0, 1, 0, 0, 0), some (.getfield 66, 3, 8, 10, 248), none, none, some (.iload_n 2, 1, 0, 0, 0), some (.aload_n 0, 1, 0, 0, 0), some (.getfield 69, 3, 8, 12, 249), none, none, some (.iload_n 2, 1, 0, 0, 0), some (.iaload, 1, 0, 0, 0), some (.iastore, 1, 0, 0, 0), some (.iinc 2 1, 3, 0, 0, 0), none, none, some (.goto (-23), 3, 49, 0, 0), none, none, some (.aload_n 0, 1, 0, 0, 0), some (.getfield 66, 3, 8, 10, 248), none, none, some (.aload_n 0, 1, 0, 0, 0), some (.getfield 170, 3, 8, 11, 291), none, none, some (.iload_n 1, 1, 0, 0, 0), some (.iastore, 1, 0, 0, 0), some (.aload_n 0, 1, 0, 0, 0), some (.aload_n 0, 1, 0, 0, 0), some (.getfield 170, 3, 8, 11, 291), none, none, some (.iconst 1, 1, 0, 0, 0), some (.iadd, 1, 0, 0, 0), some (.invokevirtual 150, 3, 150, 902, 283), none, none, some (.aload_n 0, 1, 0, 0, 0), some (.sipush 273, 3, 0, 0, 0), none, none, some (.lconst 0, 1, 0, 0, 0), some (.invokevirtual 101, 3, 130, 903, 261), none, none, some (.iconst 0, 1, 0, 0, 0), some (.istore_n 2, 1, 0, 0, 0), some (.iload_n 2, 1, 0, 0, 0), some (.iconst 1, 1, 0, 0, 0), some (.aload_n 0, 1, 0, 0, 0), some (.getfield 128, 3, 8, 8, 277), none, none, some (.ishl, 1, 0, 0, 0), some (.if_icmp .ge 70, 3, 182, 0, 0), none, none, some (.iload_n 2, 1, 0, 0, 0), some (.invokestatic 134, 3, 148, 1, 281), none, none, some (.aload_n 0, 1, 0, 0, 0), some (.getfield 170, 3, 8, 11, 291), none, none, some (.iconst 1, 1, 0, 0, 0), some (.iadd, 1, 0, 0, 0), some (.if_icmp .ne 51, 3, 176, 0, 0), none, none, some (.aload_n 0, 1, 0, 0, 0), some (.bipush 36, 2, 0, 0, 0), none, some (.iload_n 2, 1, 0, 0, 0), some (.iadd, 1, 0, 0, 0), some (.invokevirtual 141, 3, 151, 902, 284), none, none, some (.ifCond .ne 40, 3, 176, 0, 0), none, none, some (.aload_n 0, 1, 0, 0, 0), some (.sipush 273, 3, 0, 0, 0), none, none, some (.invokevirtual 141, 3, 151, 902, 284), none, none, some (.ifCond .eq 19, 3, 165, 0, 0), none, none, some (.aload_n 0, 1, 0, 0, 0), some (.iload_n 2, 1, 0, 0, 0), some (.putfield 173, 3, 8, 13, 296), none, none, some (.aload_n 0, 1, 0, 0, 0), some (.sipush 275, 3, 0, 0, 0), none, none, some (.bipush 36, 2, 0, 0, 0), none, some (.iload_n 2, 1, 0, 0, 0), some (.iadd, 1, 0, 0, 0), some (.invokevirtual 138, 3, 153, 903, 286), none, none, some (.aload_n 0, 1, 0, 0, 0), some (.sipush 273, 3, 0, 0, 0), none, none, some (.bipush 36, 2, 0, 0, 0), none, some (.iload_n 2, 1, 0, 0, 0), some (.iadd, 1, 0, 0, 0), some (.invokevirtual 153, 3, 152, 903, 285), none, none, some (.iinc 2 1, 3, 0, 0, 0), none, none, some (.goto (-74), 3, 105, 0, 0), none, none, some (.aload_n 0, 1, 0, 0, 0), some (.sipush 273, 3, 0, 0, 0), none, none, some (.invokevirtual 141, 3, 151, 902, 284), none, none, some (.ifCond .ne 33, 3, 222, 0, 0), none, none, some (.aload_n 0, 1, 0, 0, 0), some (.getfield 69, 3, 8, 12, 249), none, none, some (.aload_n 0, 1, 0, 0, 0), some (.getfield 170, 3, 8, 11, 291), none, none, some (.iload_n 1, 1, 0, 0, 0), some (.iastore, 1, 0, 0, 0), some (.aload_n 0, 1, 0, 0, 0), some (.dup, 1, 0, 0, 0), some (.getfield 170, 3, 8, 11, 291), none, none, some (.iconst 1, 1, 0, 0, 0), some (.iadd, 1, 0, 0, 0), some (.putfield 170, 3, 8, 11, 291), none, none, some (.aload_n 0, 1, 0, 0, 0), some (.sipush 276, 3, 0, 0, 0), none, none, some (.sipush 273, 3, 0, 0, 0), none, none, some (.invokevirtual 138, 3, 153, 903, 286), none, none, some (.iinc 1 1, 3, 0, 0, 0), none, none, some (.goto (-197), 3, 28, 0, 0), none, none, some (.return_, 1, 0, 0, 0)]
def k_Mo_bring : List (Option ax_E) := [some (.iconst 0, 1, 0, 0, 0), some (.istore_n 1, 1, 0, 0, 0), some (.iload_n 1, 1, 0, 0, 0), some (.aload_n 0, 1, 0, 0, 0), some (.getfield 128, 3, 8, 8, 277), none, none, some (.if_icmp .ge 61, 3, 68, 0, 0), none, none, some (.iconst 0, 1, 0, 0, 0), some (.istore_n 2, 1, 0, 0, 0), some (.iload_n 2, 1, 0, 0, 0), some (.aload_n 0, 1, 0, 0, 0), some (.getfield 170, 3, 8, 11, 291), none, none, some (.if_icmp .ge 45, 3, 62, 0, 0), none, none, some (.aload_n 0, 1, 0, 0, 0), some (.aload_n 0, 1, 0, 0, 0), some (.iload_n 1, 1, 0, 0, 0), some (.iload_n 2, 1, 0, 0, 0), some (.invokevirtual 176, 3, 161, 903, 297), none, none, some (.aload_n 0, 1, 0, 0, 0), some (.getfield 63, 3, 8, 7, 247), none, none, some (.bipush 12, 2, 0, 0, 0), none, some (.iload_n 1, 1, 0, 0, 0), some (.imul, 1, 0, 0, 0), some (.aload_n 0, 1, 0, 0, 0), some (.getfield 69, 3, 8, 12, 249), none, none, some (.iload_n 2, 1, 0, 0, 0), some (.iaload, 1, 0, 0, 0), some (.iadd, 1, 0, 0, 0), some (.laload, 1, 0, 0, 0), some (.invokevirtual 101, 3, 130, 903, 261), none, none, some (.aload_n 0, 1, 0, 0, 0), some (.aload_n 0, 1, 0, 0, 0), some (.iload_n 1, 1, 0, 0, 0), some (.iload_n 2, 1, 0, 0, 0), some (.invokevirtual 176, 3, 161, 903, 297), none, none, some (.invokevirtual 179, 3, 162, 902, 298), none, none, some (.iinc 2 1, 3, 0, 0, 0), none, none, some (.goto (-47), 3, 12, 0, 0), none, none, some (.iinc 1 1, 3, 0, 0, 0), none, none, some (.goto (-63), 3, 2, 0, 0), none, none, some (.iconst 0, 1, 0, 0, 0), some (.istore_n 1, 1, 0, 0, 0), some (.iload_n 1, 1, 0, 0, 0), some (.aload_n 0, 1, 0, 0, 0), some (.getfield 170, 3, 8, 11, 291), none, none, some (.if_icmp .ge 121, 3, 196, 0, 0), none, none, some (.iconst 0, 1, 0, 0, 0), some (.istore_n 2, 1, 0, 0, 0), some (.iload_n 2, 1, 0, 0, 0), some (.aload_n 0, 1, 0, 0, 0), some (.getfield 170, 3, 8, 11, 291), none, none, some (.if_icmp .ge 23, 3, 108, 0, 0), none, none, some (.aload_n 0, 1, 0, 0, 0), some (.aload_n 0, 1, 0, 0, 0), some (.aload_n 0, 1, 0, 0, 0), some (.getfield 128, 3, 8, 8, 277), none, none, some (.iload_n 2, 1, 0, 0, 0), some (.invokevirtual 176, 3, 161, 903, 297), none, none, some (.lconst 0, 1, 0, 0, 0), some (.invokevirtual 101, 3, 130, 903, 261), none, none, some (.iinc 2 1, 3, 0, 0, 0), none, none, some (.goto (-25), 3, 80, 0, 0), none, none, some (.aload_n 0, 1, 0, 0, 0), some (.aload_n 0, 1, 0, 0, 0), some (.aload_n 0, 1, 0, 0, 0), some (.getfield 128, 3, 8, 8, 277), none, none, some (.iload_n 1, 1, 0, 0, 0), some (.invokevirtual 176, 3, 161, 903, 297), none, none, some (.sipush 276, 3, 0, 0, 0), none, none, some (.invokevirtual 138, 3, 153, 903, 286), none, none, some (.aload_n 0, 1, 0, 0, 0), some (.iload_n 1, 1, 0, 0, 0), some (.invokevirtual 182, 3, 163, 902, 299), none, none, some (.istore_n 2, 1, 0, 0, 0), some (.iconst 0, 1, 0, 0, 0), some (.istore_n 3, 1, 0, 0, 0), some (.iload_n 3, 1, 0, 0, 0), some (.aload_n 0, 1, 0, 0, 0), some (.getfield 170, 3, 8, 11, 291), none, none, some (.if_icmp .ge 53, 3, 190, 0, 0), none, none, some (.aload_n 0, 1, 0, 0, 0), some (.sipush 184, 3, 0, 0, 0), none, none, some (.bipush 12, 2, 0, 0, 0), none, some (.iload_n 1, 1, 0, 0, 0), some (.imul, 1, 0, 0, 0), some (.iadd, 1, 0, 0, 0), some (.aload_n 0, 1, 0, 0, 0), some (.getfield 69, 3, 8, 12, 249), none, none, some (.iload_n 3, 1, 0, 0, 0), some (.iaload, 1, 0, 0, 0), some (.iadd, 1, 0, 0, 0), some (.aload_n 0, 1, 0, 0, 0), some (.iload_n 2, 1, 0, 0, 0), some (.iload_n 3, 1, 0, 0, 0), some (.invokevirtual 176, 3, 161, 903, 297), none, none, some (.invokevirtual 138, 3, 153, 903, 286), none, none, some (.aload_n 0, 1, 0, 0, 0), some (.aload_n 0, 1, 0, 0, 0), some (.iload_n 2, 1, 0, 0, 0), some (.iload_n 3, 1, 0, 0, 0), some (.invokevirtual 176, 3, 161, 903, 297), none, none, some (.aload_n 0, 1, 0, 0, 0), some (.aload_n 0, 1, 0, 0, 0), some (.getfield 128, 3, 8, 8, 277), none, none, some (.iload_n 3, 1, 0, 0, 0), some (.invokevirtual 176, 3, 161, 903, 297), none, none, some (.invokevirtual 138, 3, 153, 903, 286), none, none, some (.iinc 3 1, 3, 0, 0, 0), none, none, some (.goto (-55), 3, 132, 0, 0), none, none, some (.iinc 1 1, 3, 0, 0, 0), none, none, some (.goto (-123), 3, 70, 0, 0), none, none, some (.return_, 1, 0, 0, 0)]
def k_Mo_cell : List (Option ax_E) := [some (.bipush 100, 2, 0, 0, 0), none, some (.bipush 6, 2, 0, 0, 0), none, some (.iload_n 1, 1, 0, 0, 0), some (.imul, 1, 0, 0, 0), some (.iadd, 1, 0, 0, 0), some (.iload_n 2, 1, 0, 0, 0), some (.iadd, 1, 0, 0, 0), some (.ireturn, 1, 0, 0, 0)]
def k_Mo_remain : List (Option ax_E) := [some (.aload_n 0, 1, 0, 0, 0), some (.getfield 1, 3, 8, 2, 243), none, none, some (.iload_n 1, 1, 0, 0, 0), some (.baload, 1, 0, 0, 0), some (.ifCond .eq 15, 3, 21, 0, 0), none, none, some (.aload_n 0, 1, 0, 0, 0), some (.iload_n 1, 1, 0, 0, 0), some (.invokevirtual 141, 3, 151, 902, 284), none, none, some (.ifCond .ne 7, 3, 21, 0, 0), none, none, some (.iconst 1, 1, 0, 0, 0), some (.goto 4, 3, 22, 0, 0), none, none, some (.iconst 0, 1, 0, 0, 0), some (.istore_n 2, 1, 0, 0, 0), some (.aload_n 0, 1, 0, 0, 0), some (.sipush 269, 3, 0, 0, 0), none, none, some (.sipush 276, 3, 0, 0, 0), none, none, some (.invokevirtual 138, 3, 153, 903, 286), none, none, some (.aload_n 0, 1, 0, 0, 0), some (.iload_n 1, 1, 0, 0, 0), some (.sipush 269, 3, 0, 0, 0), none, none, some (.sipush 272, 3, 0, 0, 0), none, none, some (.invokevirtual 144, 3, 154, 904, 287), none, none, some (.iload_n 2, 1, 0, 0, 0), some (.ifCond .eq 27, 3, 72, 0, 0), none, none, some (.aload_n 0, 1, 0, 0, 0), some (.iload_n 1, 1, 0, 0, 0), some (.invokevirtual 141, 3, 151, 902, 284), none, none, some (.ifCond .ne 19, 3, 72, 0, 0), none, none, some (.aload_n 0, 1, 0, 0, 0), some (.getfield 1, 3, 8, 2, 243), none, none, some (.iload_n 1, 1, 0, 0, 0), some (.iconst 1, 1, 0, 0, 0), some (.bastore, 1, 0, 0, 0), some (.aload_n 0, 1, 0, 0, 0), some (.iload_n 1, 1, 0, 0, 0), some (.sipush 276, 3, 0, 0, 0), none, none, some (.iconst 0, 1, 0, 0, 0), some (.invokevirtual 115, 3, 134, 904, 266), none, none, some (.return_, 1, 0, 0, 0)]
def k_Mo_gather : List (Option ax_E) := [some (.iconst (-1), 1, 0, 0, 0), some (.istore_n 2, 1, 0, 0, 0), some (.iconst 1, 1, 0, 0, 0), some (.istore_n 3, 1, 0, 0, 0), some (.iload_n 3, 1, 0, 0, 0), some (.ifCond .eq 139, 3, 144, 0, 0), none, none, some (.iconst (-1), 1, 0, 0, 0), some (.istore_n 2, 1, 0, 0, 0), some (.iconst 0, 1, 0, 0, 0), some (.istore 4, 2, 0, 0, 0), none, some (.iconst 0, 1, 0, 0, 0), some (.istore 5, 2, 0, 0, 0), none, some (.iload 5, 2, 0, 0, 0), none, some (.aload_n 0, 1, 0, 0, 0), some (.getfield 128, 3, 8, 8, 277), none, none, some (.if_icmp .gt 57, 3, 79, 0, 0), none, none, some (.aload_n 0, 1, 0, 0, 0), some (.aload_n 0, 1, 0, 0, 0), some (.iload 5, 2, 0, 0, 0), none, some (.iload_n 1, 1, 0, 0, 0), some (.invokevirtual 176, 3, 161, 903, 297), none, none, some (.invokevirtual 141, 3, 151, 902, 284), none, none, some (.ifCond .ne 37, 3, 73, 0, 0), none, none, some (.iinc 4 1, 3, 0, 0, 0), none, none, some (.iload_n 2, 1, 0, 0, 0), some (.ifCond .lt 23, 3, 66, 0, 0), none, none, some (.aload_n 0, 1, 0, 0, 0), some (.aload_n 0, 1, 0, 0, 0), some (.iload 5, 2, 0, 0, 0), none, some (.iload_n 1, 1, 0, 0, 0), some (.invokevirtual 176, 3, 161, 903, 297), none, none, some (.aload_n 0, 1, 0, 0, 0), some (.iload_n 2, 1, 0, 0, 0), some (.iload_n 1, 1, 0, 0, 0), some (.invokevirtual 176, 3, 161, 903, 297), none, none, some (.invokevirtual 29, 3, 137, 903, 270), none, none, some (.ifCond .ge 8, 3, 71, 0, 0), none, none, some (.iload 5, 2, 0, 0, 0), none, some (.goto 4, 3, 72, 0, 0), none, none, some (.iload_n 2, 1, 0, 0, 0), some (.istore_n 2, 1, 0, 0, 0), some (.iinc 5 1, 3, 0, 0, 0), none, none, some (.goto (-60), 3, 16, 0, 0), none, none, some (.iload 4, 2, 0, 0, 0), none, some (.iconst 1, 1, 0, 0, 0), some (.if_icmp .le 7, 3, 89, 0, 0), none, none, some (.iconst 1, 1, 0, 0, 0), some (.goto 4, 3, 90, 0, 0), none, none, some (.iconst 0, 1, 0, 0, 0), some (.istore_n 3, 1, 0, 0, 0), some (.iconst 0, 1, 0, 0, 0), some (.istore 5, 2, 0, 0, 0), none, some (.iload 5, 2, 0, 0, 0), none, some (.aload_n 0, 1, 0, 0, 0), some (.getfield 128, 3, 8, 8, 277), none, none, some (.if_icmp .gt 41, 3, 141, 0, 0), none, none, some (.iload_n 3, 1, 0, 0, 0), some (.ifCond .eq 37, 3, 141, 0, 0), none, none, some (.iload 5, 2, 0, 0, 0), none, some (.iload_n 2, 1, 0, 0, 0), some (.if_icmp .eq 25, 3, 135, 0, 0), none, none, some (.aload_n 0, 1, 0, 0, 0), some (.aload_n 0, 1, 0, 0, 0), some (.iload 5, 2, 0, 0, 0), none, some (.iload_n 1, 1, 0, 0, 0), some (.invokevirtual 176, 3, 161, 903, 297), none, none, some (.invokevirtual 141, 3, 151, 902, 284), none, none, some (.ifCond .ne 11, 3, 135, 0, 0), none, none, some (.aload_n 0, 1, 0, 0, 0), some (.iload 5, 2, 0, 0, 0), none, some (.iload_n 2, 1, 0, 0, 0), some (.iload_n 1, 1, 0, 0, 0), some (.invokevirtual 185, 3, 164, 904, 300), none, none, some (.iinc 5 1, 3, 0, 0, 0), none, none, some (.goto (-44), 3, 94, 0, 0), none, none, some (.goto (-137), 3, 4, 0, 0), none, none, some (.iload_n 2, 1, 0, 0, 0), some (.ireturn, 1, 0, 0, 0)]
def k_Mo_lose : List (Option ax_E) := [some (.aload_n 0, 1, 0, 0, 0), some (.sipush 269, 3, 0, 0, 0), none, none, some (.aload_n 0, 1, 0, 0, 0), some (.iload_n 2, 1, 0, 0, 0), some (.iload_n 3, 1, 0, 0, 0), some (.invokevirtual 176, 3, 161, 903, 297), none, none, some (.invokevirtual 138, 3, 153, 903, 286), none, none, some (.aload_n 0, 1, 0, 0, 0), some (.aload_n 0, 1, 0, 0, 0), some (.iload_n 1, 1, 0, 0, 0), some (.iload_n 3, 1, 0, 0, 0), some (.invokevirtual 176, 3, 161, 903, 297), none, none, some (.sipush 269, 3, 0, 0, 0), none, none, some (.sipush 272, 3, 0, 0, 0), none, none, some (.invokevirtual 144, 3, 154, 904, 287), none, none, some (.aload_n 0, 1, 0, 0, 0), some (.sipush 270, 3, 0, 0, 0), none, none, some (.sipush 272, 3, 0, 0, 0), none, none, some (.invokevirtual 138, 3, 153, 903, 286), none, none, some (.iload_n 3, 1, 0, 0, 0), some (.iconst 1, 1, 0, 0, 0), some (.iadd, 1, 0, 0, 0), some (.istore 4, 2, 0, 0, 0), none, some (.iload 4, 2, 0, 0, 0), none, some (.aload_n 0, 1, 0, 0, 0), some (.getfield 170, 3, 8, 11, 291), none, none, some (.if_icmp .ge 52, 3, 102, 0, 0), none, none, some (.aload_n 0, 1, 0, 0, 0), some (.sipush 268, 3, 0, 0, 0), none, none, some (.sipush 270, 3, 0, 0, 0), none, none, some (.aload_n 0, 1, 0, 0, 0), some (.iload_n 2, 1, 0, 0, 0), some (.iload 4, 2, 0, 0, 0), none, some (.invokevirtual 176, 3, 161, 903, 297), none, none, some (.invokevirtual 112, 3, 132, 904, 265), none, none, some (.aload_n 0, 1, 0, 0, 0), some (.aload_n 0, 1, 0, 0, 0), some (.iload_n 1, 1, 0, 0, 0), some (.iload 4, 2, 0, 0, 0), none, some (.invokevirtual 176, 3, 161, 903, 297), none, none, some (.sipush 268, 3, 0, 0, 0), none, none, some (.iconst 1, 1, 0, 0, 0), some (.invokevirtual 115, 3, 134, 904, 266), none, none, some (.aload_n 0, 1, 0, 0, 0), some (.aload_n 0, 1, 0, 0, 0), some (.iload_n 1, 1, 0, 0, 0), some (.iload 4, 2, 0, 0, 0), none, some (.invokevirtual 176, 3, 161, 903, 297), none, none, some (.invokevirtual 179, 3, 162, 902, 298), none, none, some (.iinc 4 1, 3, 0, 0, 0), none, none, some (.goto (-55), 3, 44, 0, 0), none, none, some (.return_, 1, 0, 0, 0)]
def k_Mo_shorten : List (Option ax_E) := [some (.aload_n 0, 1, 0, 0, 0), some (.getfield 170, 3, 8, 11, 291), none, none, some (.iconst 2, 1, 0, 0, 0), some (.isub, 1, 0, 0, 0), some (.istore_n 1, 1, 0, 0, 0), some (.iload_n 1, 1, 0, 0, 0), some (.ifCond .lt 135, 3, 143, 0, 0), none, none, some (.iload_n 1, 1, 0, 0, 0), some (.iconst 1, 1, 0, 0, 0), some (.iadd, 1, 0, 0, 0), some (.istore_n 2, 1, 0, 0, 0), some (.iload_n 2, 1, 0, 0, 0), some (.aload_n 0, 1, 0, 0, 0), some (.getfield 170, 3, 8, 11, 291), none, none, some (.if_icmp .ge 117, 3, 137, 0, 0), none, none, some (.aload_n 0, 1, 0, 0, 0), some (.sipush 184, 3, 0, 0, 0), none, none, some (.bipush 12, 2, 0, 0, 0), none, some (.iload_n 1, 1, 0, 0, 0), some (.imul, 1, 0, 0, 0), some (.iadd, 1, 0, 0, 0), some (.aload_n 0, 1, 0, 0, 0), some (.getfield 69, 3, 8, 12, 249), none, none, some (.iload_n 2, 1, 0, 0, 0), some (.iaload, 1, 0, 0, 0), some (.iadd, 1, 0, 0, 0), some (.sipush 184, 3, 0, 0, 0), none, none, some (.bipush 12, 2, 0, 0, 0), none, some (.iload_n 2, 1, 0, 0, 0), some (.imul, 1, 0, 0, 0), some (.iadd, 1, 0, 0, 0), some (.aload_n 0, 1, 0, 0, 0), some (.getfield 69, 3, 8, 12, 249), none, none, some (.iload_n 2, 1, 0, 0, 0), some (.iaload, 1, 0, 0, 0), some (.iadd, 1, 0, 0, 0), some (.invokevirtual 188, 3, 166, 903, 301), none, none, some (.aload_n 0, 1, 0, 0, 0), some (.sipush 270, 3, 0, 0, 0), none, none, some (.sipush 272, 3, 0, 0, 0), none, none, some (.invokevirtual 138, 3, 153, 903, 286), none, none, some (.iload_n 2, 1, 0, 0, 0), some (.istore_n 3, 1, 0, 0, 0), some (.iload_n 3, 1, 0, 0, 0), some (.aload_n 0, 1, 0, 0, 0), some (.getfield 170, 3, 8, 11, 291), none, none, some (.if_icmp .ge 57, 3, 131, 0, 0), none, none, some (.aload_n 0, 1, 0, 0, 0), some (.sipush 268, 3, 0, 0, 0), none, none, some (.sipush 270, 3, 0, 0, 0), none, none, some (.sipush 184, 3, 0, 0, 0), none, none, some (.bipush 12, 2, 0, 0, 0), none, some (.iload_n 2, 1, 0, 0, 0), some (.imul, 1, 0, 0, 0), some (.iadd, 1, 0, 0, 0), some (.aload_n 0, 1, 0, 0, 0), some (.getfield 69, 3, 8, 12, 249), none, none, some (.iload_n 3, 1, 0, 0, 0), some (.iaload, 1, 0, 0, 0), some (.iadd, 1, 0, 0, 0), some (.invokevirtual 112, 3, 132, 904, 265), none, none, some (.aload_n 0, 1, 0, 0, 0), some (.sipush 184, 3, 0, 0, 0), none, none, some (.bipush 12, 2, 0, 0, 0), none, some (.iload_n 1, 1, 0, 0, 0), some (.imul, 1, 0, 0, 0), some (.iadd, 1, 0, 0, 0), some (.aload_n 0, 1, 0, 0, 0), some (.getfield 69, 3, 8, 12, 249), none, none, some (.iload_n 3, 1, 0, 0, 0), some (.iaload, 1, 0, 0, 0), some (.iadd, 1, 0, 0, 0), some (.sipush 268, 3, 0, 0, 0), none, none, some (.iconst 1, 1, 0, 0, 0), some (.invokevirtual 115, 3, 134, 904, 266), none, none, some (.iinc 3 1, 3, 0, 0, 0), none, none, some (.goto (-59), 3, 69, 0, 0), none, none, some (.iinc 2 1, 3, 0, 0, 0), none, none, some (.goto (-119), 3, 15, 0, 0), none, none, some (.iinc 1 (-1), 3, 0, 0, 0), none, none, some (.goto (-133), 3, 7, 0, 0), none, none, some (.return_, 1, 0, 0, 0)]
def k_Mo_floor : List (Option ax_E) := [some (.aload_n 0, 1, 0, 0, 0), some (.getfield 1, 3, 8, 2, 243), none, none, some (.iload_n 1, 1, 0, 0, 0), some (.baload, 1, 0, 0, 0), some (.ifCond .eq 15, 3, 21, 0, 0), none, none, some (.aload_n 0, 1, 0, 0, 0), some (.iload_n 1, 1, 0, 0, 0), some (.invokevirtual 141, 3, 151, 902, 284), none, none, some (.ifCond .ne 7, 3, 21, 0, 0), none, none, some (.iconst 1, 1, 0, 0, 0), some (.goto 4, 3, 22, 0, 0), none, none, some (.iconst 0, 1, 0, 0, 0), some (.istore_n 3, 1, 0, 0, 0), some (.aload_n 0, 1, 0, 0, 0), some (.sipush 268, 3, 0, 0, 0), none, none, some (.iload_n 1, 1, 0, 0, 0), some (.invokevirtual 138, 3, 153, 903, 286), none, none, some (.aload_n 0, 1, 0, 0, 0), some (.sipush 269, 3, 0, 0, 0), none, none, some (.iload_n 2, 1, 0, 0, 0), some (.invokevirtual 138, 3, 153, 903, 286), none, none, some (.aload_n 0, 1, 0, 0, 0), some (.sipush 268, 3, 0, 0, 0), none, none, some (.sipush 269, 3, 0, 0, 0), none, none, some (.sipush 272, 3, 0, 0, 0), none, none, some (.invokevirtual 144, 3, 154, 904, 287), none, none, some (.iload_n 3, 1, 0, 0, 0), some (.ifCond .eq 53, 3, 106, 0, 0), none, none, some (.aload_n 0, 1, 0, 0, 0), some (.sipush 268, 3, 0, 0, 0), none, none, some (.invokevirtual 141, 3, 151, 902, 284), none, none, some (.ifCond .ne 7, 3, 70, 0, 0), none, none, some (.iconst 1, 1, 0, 0, 0), some (.goto 4, 3, 71, 0, 0), none, none, some (.iconst 0, 1, 0, 0, 0), some (.istore 4, 2, 0, 0, 0), none, some (.aload_n 0, 1, 0, 0, 0), some (.getfield 1, 3, 8, 2, 243), none, none, some (.sipush 272, 3, 0, 0, 0), none, none, some (.iconst 1, 1, 0, 0, 0), some (.bastore, 1, 0, 0, 0), some (.aload_n 0, 1, 0, 0, 0), some (.sipush 268, 3, 0, 0, 0), none, none, some (.lconst 1, 1, 0, 0, 0), some (.invokevirtual 101, 3, 130, 903, 261), none, none, some (.iload 4, 2, 0, 0, 0), none, some (.ifCond .eq 14, 3, 106, 0, 0), none, none, some (.aload_n 0, 1, 0, 0, 0), some (.sipush 272, 3, 0, 0, 0), none, none, some (.sipush 268, 3, 0, 0, 0), none, none, some (.iconst 1, 1, 0, 0, 0), some (.invokevirtual 115, 3, 134, 904, 266), none, none, some (.return_, 1, 0, 0, 0)]
def k_Mo_fill : List (Option ax_E) := [some (.iconst 0, 1, 0, 0, 0), some (.istore_n 1, 1, 0, 0, 0), some (.iload_n 1, 1, 0, 0, 0), some (.aload_n 0, 1, 0, 0, 0), some (.getfield 131, 3, 8, 9, 278), none, none, some (.if_icmp .ge 354, 3, 361, 0, 0), none, none, some (.iconst 0, 1, 0, 0, 0), some (.istore_n 2, 1, 0, 0, 0), some (.iconst 0, 1, 0, 0, 0), some (.istore_n 3, 1, 0, 0, 0), some (.iload_n 3, 1, 0, 0, 0), some (.aload_n 0, 1, 0, 0, 0), some (.getfield 170, 3, 8, 11, 291), none, none, some (.if_icmp .ge 29, 3, 48, 0, 0), none, none, some (.iload_n 2, 1, 0, 0, 0), some (.ifCond .ne 13, 3, 36, 0, 0), none, none, some (.aload_n 0, 1, 0, 0, 0), some (.getfield 69, 3, 8, 12, 249), none, none, some (.iload_n 3, 1, 0, 0, 0), some (.iaload, 1, 0, 0, 0), some (.iload_n 1, 1, 0, 0, 0), some (.if_icmp .ne 7, 3, 40, 0, 0), none, none, some (.iconst 1, 1, 0, 0, 0), some (.goto 4, 3, 41, 0, 0), none, none, some (.iconst 0, 1, 0, 0, 0), some (.istore_n 2, 1, 0, 0, 0), some (.iinc 3 1, 3, 0, 0, 0), none, none, some (.goto (-31), 3, 14, 0, 0), none, none, some (.iconst 0, 1, 0, 0, 0), some (.istore_n 3, 1, 0, 0, 0), some (.iload_n 3, 1, 0, 0, 0), some (.aload_n 0, 1, 0, 0, 0), some (.getfield 170, 3, 8, 11, 291), none, none, some (.if_icmp .ge 28, 3, 83, 0, 0), none, none, some (.iload_n 2, 1, 0, 0, 0), some (.ifCond .ne 24, 3, 83, 0, 0), none, none, some (.aload_n 0, 1, 0, 0, 0), some (.sipush 184, 3, 0, 0, 0), none, none, some (.bipush 12, 2, 0, 0, 0), none, some (.iload_n 3, 1, 0, 0, 0), some (.imul, 1, 0, 0, 0), some (.iadd, 1, 0, 0, 0), some (.iload_n 1, 1, 0, 0, 0), some (.iadd, 1, 0, 0, 0), some (.lconst 0, 1, 0, 0, 0), some (.invokevirtual 101, 3, 130, 903, 261), none, none, some (.iinc 3 1, 3, 0, 0, 0), none, none, some (.goto (-30), 3, 50, 0, 0), none, none, some (.iconst 0, 1, 0, 0, 0), some (.istore_n 3, 1, 0, 0, 0), some (.iload_n 3, 1, 0, 0, 0), some (.aload_n 0, 1, 0, 0, 0), some (.getfield 170, 3, 8, 11, 291), none, none, some (.if_icmp .ge 130, 3, 220, 0, 0), none, none, some (.iload_n 2, 1, 0, 0, 0), some (.ifCond .ne 126, 3, 220, 0, 0), none, none, some (.iconst 0, 1, 0, 0, 0), some (.istore 4, 2, 0, 0, 0), none, some (.iload 4, 2, 0, 0, 0), none, some (.aload_n 0, 1, 0, 0, 0), some (.getfield 170, 3, 8, 11, 291), none, none, some (.if_icmp .ge 33, 3, 139, 0, 0), none, none, some (.aload_n 0, 1, 0, 0, 0), some (.getfield 66, 3, 8, 10, 248), none, none, some (.iload 4, 2, 0, 0, 0), none, some (.iload 4, 2, 0, 0, 0), none, some (.iload_n 3, 1, 0, 0, 0), some (.if_icmp .ne 7, 3, 125, 0, 0), none, none, some (.iload_n 1, 1, 0, 0, 0), some (.goto 10, 3, 132, 0, 0), none, none, some (.aload_n 0, 1, 0, 0, 0), some (.getfield 69, 3, 8, 12, 249), none, none, some (.iload 4, 2, 0, 0, 0), none, some (.iaload, 1, 0, 0, 0), some (.iastore, 1, 0, 0, 0), some (.iinc 4 1, 3, 0, 0, 0), none, none, some (.goto (-36), 3, 100, 0, 0), none, none, some (.aload_n 0, 1, 0, 0, 0), some (.aload_n 0, 1, 0, 0, 0), some (.getfield 170, 3, 8, 11, 291), none, none, some (.invokevirtual 150, 3, 150, 902, 283), none, none, some (.iconst 0, 1, 0, 0, 0), some (.istore 4, 2, 0, 0, 0), none, some (.iload 4, 2, 0, 0, 0), none, some (.aload_n 0, 1, 0, 0, 0), some (.getfield 170, 3, 8, 11, 291), none, none, some (.if_icmp .ge 58, 3, 214, 0, 0), none, none, some (.aload_n 0, 1, 0, 0, 0), some (.sipush 268, 3, 0, 0, 0), none, none, some (.bipush 36, 2, 0, 0, 0), none, some (.aload_n 0, 1, 0, 0, 0), some (.getfield 173, 3, 8, 13, 296), none, none, some (.iadd, 1, 0, 0, 0), some (.sipush 184, 3, 0, 0, 0), none, none, some (.bipush 12, 2, 0, 0, 0), none, some (.iload 4, 2, 0, 0, 0), none, some (.imul, 1, 0, 0, 0), some (.iadd, 1, 0, 0, 0), some (.aload_n 0, 1, 0, 0, 0), some (.getfield 69, 3, 8, 12, 249), none, none, some (.iload_n 3, 1, 0, 0, 0), some (.iaload, 1, 0, 0, 0), some (.iadd, 1, 0, 0, 0), some (.invokevirtual 112, 3, 132, 904, 265), none, none, some (.aload_n 0, 1, 0, 0, 0), some (.sipush 184, 3, 0, 0, 0), none, none, some (.bipush 12, 2, 0, 0, 0), none, some (.iload 4, 2, 0, 0, 0), none, some (.imul, 1, 0, 0, 0), some (.iadd, 1, 0, 0, 0), some (.iload_n 1, 1, 0, 0, 0), some (.iadd, 1, 0, 0, 0), some (.sipush 268, 3, 0, 0, 0), none, none, some (.iconst 0, 1, 0, 0, 0), some (.invokevirtual 115, 3, 134, 904, 266), none, none, some (.iinc 4 1, 3, 0, 0, 0), none, none, some (.goto (-61), 3, 150, 0, 0), none, none, some (.iinc 3 1, 3, 0, 0, 0), none, none, some (.goto (-132), 3, 85, 0, 0), none, none, some (.iconst 0, 1, 0, 0, 0), some (.istore_n 3, 1, 0, 0, 0), some (.iload_n 3, 1, 0, 0, 0), some (.aload_n 0, 1, 0, 0, 0), some (.getfield 170, 3, 8, 11, 291), none, none, some (.if_icmp .ge 128, 3, 355, 0, 0), none, none, some (.iload_n 2, 1, 0, 0, 0), some (.ifCond .ne 124, 3, 355, 0, 0), none, none, some (.aload_n 0, 1, 0, 0, 0), some (.getfield 1, 3, 8, 2, 243), none, none, some (.sipush 184, 3, 0, 0, 0), none, none, some (.bipush 12, 2, 0, 0, 0), none, some (.iload_n 3, 1, 0, 0, 0), some (.imul, 1, 0, 0, 0), some (.iadd, 1, 0, 0, 0), some (.iload_n 1, 1, 0, 0, 0), some (.iadd, 1, 0, 0, 0), some (.baload, 1, 0, 0, 0), some (.aload_n 0, 1, 0, 0, 0), some (.getfield 1, 3, 8, 2, 243), none, none, some (.sipush 275, 3, 0, 0, 0), none, none, some (.baload, 1, 0, 0, 0), some (.if_icmp .eq 7, 3, 264, 0, 0), none, none, some (.iconst 1, 1, 0, 0, 0), some (.goto 4, 3, 265, 0, 0), none, none, some (.iconst 0, 1, 0, 0, 0), some (.istore 4, 2, 0, 0, 0), none, some (.aload_n 0, 1, 0, 0, 0), some (.sipush 269, 3, 0, 0, 0), none, none, some (.sipush 275, 3, 0, 0, 0), none, none, some (.invokevirtual 138, 3, 153, 903, 286), none, none, some (.aload_n 0, 1, 0, 0, 0), some (.sipush 184, 3, 0, 0, 0), none, none, some (.bipush 12, 2, 0, 0, 0), none, some (.iload_n 3, 1, 0, 0, 0), some (.imul, 1, 0, 0, 0), some (.iadd, 1, 0, 0, 0), some (.iload_n 1, 1, 0, 0, 0), some (.iadd, 1, 0, 0, 0), some (.sipush 269, 3, 0, 0, 0), none, none, some (.sipush 272, 3, 0, 0, 0), none, none, some (.invokevirtual 144, 3, 154, 904, 287), none, none, some (.aload_n 0, 1, 0, 0, 0), some (.sipush 184, 3, 0, 0, 0), none, none, some (.bipush 12, 2, 0, 0, 0), none, some (.iload_n 3, 1, 0, 0, 0), some (.imul, 1, 0, 0, 0), some (.iadd, 1, 0, 0, 0), some (.iload_n 1, 1, 0, 0, 0), some (.iadd, 1, 0, 0, 0), some (.sipush 272, 3, 0, 0, 0), none, none, some (.invokevirtual 138, 3, 153, 903, 286), none, none, some (.aload_n 0, 1, 0, 0, 0), some (.getfield 1, 3, 8, 2, 243), none, none, some (.sipush 184, 3, 0, 0, 0), none, none, some (.bipush 12, 2, 0, 0, 0), none, some (.iload_n 3, 1, 0, 0, 0), some (.imul, 1, 0, 0, 0), some (.iadd, 1, 0, 0, 0), some (.iload_n 1, 1, 0, 0, 0), some (.iadd, 1, 0, 0, 0), some (.iload 4, 2, 0, 0, 0), none, some (.ifCond .eq 17, 3, 347, 0, 0), none, none, some (.aload_n 0, 1, 0, 0, 0), some (.sipush 272, 3, 0, 0, 0), none, none, some (.invokevirtual 141, 3, 151, 902, 284), none, none, some (.ifCond .ne 7, 3, 347, 0, 0), none, none, some (.iconst 1, 1, 0, 0, 0), some (.goto 4, 3, 348, 0, 0), none, none, some (.iconst 0, 1, 0, 0, 0), some (.bastore, 1, 0, 0, 0), some (.iinc 3 1, 3, 0, 0, 0), none, none, some (.goto (-130), 3, 222, 0, 0), none, none, some (.iinc 1 1, 3, 0, 0, 0), none, none, some (.goto (-356), 3, 2, 0, 0), none, none, some (.return_, 1, 0, 0, 0)]
def k_Mo_kernel : List (Option ax_E) := [some (.aload_n 0, 1, 0, 0, 0), some (.iload_n 1, 1, 0, 0, 0), some (.iload_n 2, 1, 0, 0, 0), some (.iload_n 2, 1, 0, 0, 0), some (.invokevirtual 118, 3, 128, 904, 259), none, none, some (.ifCond .ne 5, 3, 12, 0, 0), none, none, some (.iconst 0, 1, 0, 0, 0), some (.ireturn, 1, 0, 0, 0), some (.aload_n 0, 1, 0, 0, 0), some (.iload_n 2, 1, 0, 0, 0), some (.invokevirtual 206, 3, 169, 902, 302), none, none, some (.aload_n 0, 1, 0, 0, 0), some (.invokevirtual 203, 3, 158, 901, 290), none, none, some (.aload_n 0, 1, 0, 0, 0), some (.iload_n 2, 1, 0, 0, 0), some (.invokevirtual 209, 3, 170, 902, 303), none, none, some (.istore_n 3, 1, 0, 0, 0), some (.aload_n 0, 1, 0, 0, 0), some (.getfield 170, 3, 8, 11, 291), none, none, some (.iload_n 3, 1, 0, 0, 0), some (.isub, 1, 0, 0, 0), some (.istore 4, 2, 0, 0, 0), none, some (.iconst 0, 1, 0, 0, 0), some (.istore 5, 2, 0, 0, 0), none, some (.iload 5, 2, 0, 0, 0), none, some (.iload 4, 2, 0, 0, 0), none, some (.if_icmp .ge 62, 3, 104, 0, 0), none, none, some (.iconst 0, 1, 0, 0, 0), some (.istore 6, 2, 0, 0, 0), none, some (.iload 6, 2, 0, 0, 0), none, some (.aload_n 0, 1, 0, 0, 0), some (.getfield 60, 3, 8, 6, 246), none, none, some (.iload_n 2, 1, 0, 0, 0), some (.iaload, 1, 0, 0, 0), some (.if_icmp .ge 42, 3, 98, 0, 0), none, none, some (.aload_n 0, 1, 0, 0, 0), some (.aload_n 0, 1, 0, 0, 0), some (.iload 5, 2, 0, 0, 0), none, some (.iload 6, 2, 0, 0, 0), none, some (.invokevirtual 105, 3, 129, 903, 260), none, none, some (.sipush 184, 3, 0, 0, 0), none, none, some (.bipush 12, 2, 0, 0, 0), none, some (.iload_n 3, 1, 0, 0, 0), some (.iload 5, 2, 0, 0, 0), none, some (.iadd, 1, 0, 0, 0), some (.imul, 1, 0, 0, 0), some (.iadd, 1, 0, 0, 0), some (.aload_n 0, 1, 0, 0, 0), some (.getfield 57, 3, 8, 5, 245), none, none, some (.iload_n 2, 1, 0, 0, 0), some (.iaload, 1, 0, 0, 0), some (.iadd, 1, 0, 0, 0), some (.iload 6, 2, 0, 0, 0), none, some (.iadd, 1, 0, 0, 0), some (.invokevirtual 138, 3, 153, 903, 286), none, none, some (.iinc 6 1, 3, 0, 0, 0), none, none, some (.goto (-47), 3, 48, 0, 0), none, none, some (.iinc 5 1, 3, 0, 0, 0), none, none, some (.goto (-63), 3, 38, 0, 0), none, none, some (.iload 4, 2, 0, 0, 0), none, some (.ifCond .ne 7, 3, 113, 0, 0), none, none, some (.iconst 0, 1, 0, 0, 0), some (.goto 26, 3, 136, 0, 0), none, none, some (.aload_n 0, 1, 0, 0, 0), some (.iload_n 1, 1, 0, 0, 0), some (.iload 4, 2, 0, 0, 0), none, some (.aload_n 0, 1, 0, 0, 0), some (.getfield 60, 3, 8, 6, 246), none, none, some (.iload_n 2, 1, 0, 0, 0), some (.iaload, 1, 0, 0, 0), some (.invokevirtual 125, 3, 139, 904, 263), none, none, some (.ifCond .eq 8, 3, 134, 0, 0), none, none, some (.iload 4, 2, 0, 0, 0), none, some (.goto 5, 3, 136, 0, 0), none, none, some (.bipush (-3), 2, 0, 0, 0), none, some (.ireturn, 1, 0, 0, 0)]
def k_Mo_lookBeside : List (Option ax_E) := [some (.aload_n 0, 1, 0, 0, 0), some (.aload_n 0, 1, 0, 0, 0), some (.getfield 60, 3, 8, 6, 246), none, none, some (.iload_n 1, 1, 0, 0, 0), some (.iaload, 1, 0, 0, 0), some (.putfield 128, 3, 8, 8, 277), none, none, some (.aload_n 0, 1, 0, 0, 0), some (.aload_n 0, 1, 0, 0, 0), some (.getfield 57, 3, 8, 5, 245), none, none, some (.iload_n 1, 1, 0, 0, 0), some (.iaload, 1, 0, 0, 0), some (.aload_n 0, 1, 0, 0, 0), some (.getfield 60, 3, 8, 6, 246), none, none, some (.iload_n 1, 1, 0, 0, 0), some (.iaload, 1, 0, 0, 0), some (.iadd, 1, 0, 0, 0), some (.putfield 131, 3, 8, 9, 278), none, none, some (.iconst 0, 1, 0, 0, 0), some (.istore_n 2, 1, 0, 0, 0), some (.iload_n 2, 1, 0, 0, 0), some (.aload_n 0, 1, 0, 0, 0), some (.getfield 128, 3, 8, 8, 277), none, none, some (.if_icmp .ge 73, 3, 107, 0, 0), none, none, some (.iconst 0, 1, 0, 0, 0), some (.istore_n 3, 1, 0, 0, 0), some (.iload_n 3, 1, 0, 0, 0), some (.aload_n 0, 1, 0, 0, 0), some (.getfield 131, 3, 8, 9, 278), none, none, some (.if_icmp .ge 57, 3, 101, 0, 0), none, none, some (.aload_n 0, 1, 0, 0, 0), some (.getfield 63, 3, 8, 7, 247), none, none, some (.bipush 12, 2, 0, 0, 0), none, some (.iload_n 2, 1, 0, 0, 0), some (.imul, 1, 0, 0, 0), some (.iload_n 3, 1, 0, 0, 0), some (.iadd, 1, 0, 0, 0), some (.iload_n 3, 1, 0, 0, 0), some (.aload_n 0, 1, 0, 0, 0), some (.getfield 57, 3, 8, 5, 245), none, none, some (.iload_n 1, 1, 0, 0, 0), some (.iaload, 1, 0, 0, 0), some (.if_icmp .ge 13, 3, 77, 0, 0), none, none, some (.aload_n 0, 1, 0, 0, 0), some (.iload_n 1, 1, 0, 0, 0), some (.iload_n 3, 1, 0, 0, 0), some (.iload_n 2, 1, 0, 0, 0), some (.invokevirtual 97, 3, 125, 904, 258), none, none, some (.goto 20, 3, 94, 0, 0), none, none, some (.iload_n 3, 1, 0, 0, 0), some (.aload_n 0, 1, 0, 0, 0), some (.getfield 57, 3, 8, 5, 245), none, none, some (.iload_n 1, 1, 0, 0, 0), some (.iaload, 1, 0, 0, 0), some (.isub, 1, 0, 0, 0), some (.iload_n 2, 1, 0, 0, 0), some (.if_icmp .ne 7, 3, 93, 0, 0), none, none, some (.lconst 1, 1, 0, 0, 0), some (.goto 4, 3, 94, 0, 0), none, none, some (.lconst 0, 1, 0, 0, 0), some (.lastore, 1, 0, 0, 0), some (.iinc 3 1, 3, 0, 0, 0), none, none, some (.goto (-59), 3, 39, 0, 0), none, none, some (.iinc 2 1, 3, 0, 0, 0), none, none, some (.goto (-75), 3, 29, 0, 0), none, none, some (.return_, 1, 0, 0, 0)]
def k_Mo_kernelFrom : List (Option ax_E) := [some (.iconst 0, 1, 0, 0, 0), some (.istore_n 2, 1, 0, 0, 0), some (.iload_n 2, 1, 0, 0, 0), some (.aload_n 0, 1, 0, 0, 0), some (.getfield 170, 3, 8, 11, 291), none, none, some (.if_icmp .ge 24, 3, 31, 0, 0), none, none, some (.aload_n 0, 1, 0, 0, 0), some (.getfield 69, 3, 8, 12, 249), none, none, some (.iload_n 2, 1, 0, 0, 0), some (.iaload, 1, 0, 0, 0), some (.aload_n 0, 1, 0, 0, 0), some (.getfield 57, 3, 8, 5, 245), none, none, some (.iload_n 1, 1, 0, 0, 0), some (.iaload, 1, 0, 0, 0), some (.if_icmp .ge 9, 3, 31, 0, 0), none, none, some (.iinc 2 1, 3, 0, 0, 0), none, none, some (.goto (-26), 3, 2, 0, 0), none, none, some (.iload_n 2, 1, 0, 0, 0), some (.ireturn, 1, 0, 0, 0)]
def k_Mo_solve : List (Option ax_E) := [some (.aload_n 0, 1, 0, 0, 0), some (.iload_n 1, 1, 0, 0, 0), some (.iload_n 2, 1, 0, 0, 0), some (.iload_n 3, 1, 0, 0, 0), some (.invokevirtual 118, 3, 128, 904, 259), none, none, some (.ifCond .ne 5, 3, 12, 0, 0), none, none, some (.iconst 0, 1, 0, 0, 0), some (.ireturn, 1, 0, 0, 0), some (.aload_n 0, 1, 0, 0, 0), some (.getfield 60, 3, 8, 6, 246), none, none, some (.iload_n 3, 1, 0, 0, 0), some (.iaload, 1, 0, 0, 0), some (.iconst 1, 1, 0, 0, 0), some (.if_icmp .ne 18, 3, 37, 0, 0), none, none, some (.aload_n 0, 1, 0, 0, 0), some (.getfield 57, 3, 8, 5, 245), none, none, some (.iload_n 3, 1, 0, 0, 0), some (.iaload, 1, 0, 0, 0), some (.aload_n 0, 1, 0, 0, 0), some (.getfield 57, 3, 8, 5, 245), none, none, some (.iload_n 2, 1, 0, 0, 0), some (.iaload, 1, 0, 0, 0), some (.if_icmp .eq 6, 3, 40, 0, 0), none, none, some (.bipush (-2), 2, 0, 0, 0), none, some (.ireturn, 1, 0, 0, 0), some (.aload_n 0, 1, 0, 0, 0), some (.iload_n 2, 1, 0, 0, 0), some (.invokevirtual 206, 3, 169, 902, 302), none, none, some (.aload_n 0, 1, 0, 0, 0), some (.invokevirtual 203, 3, 158, 901, 290), none, none, some (.aload_n 0, 1, 0, 0, 0), some (.iload_n 2, 1, 0, 0, 0), some (.invokevirtual 209, 3, 170, 902, 303), none, none, some (.istore 4, 2, 0, 0, 0), none, some (.iconst 0, 1, 0, 0, 0), some (.istore 5, 2, 0, 0, 0), none, some (.iload 5, 2, 0, 0, 0), none, some (.aload_n 0, 1, 0, 0, 0), some (.getfield 131, 3, 8, 9, 278), none, none, some (.if_icmp .ge 42, 3, 107, 0, 0), none, none, some (.aload_n 0, 1, 0, 0, 0), some (.sipush 256, 3, 0, 0, 0), none, none, some (.iload 5, 2, 0, 0, 0), none, some (.iadd, 1, 0, 0, 0), some (.iload 5, 2, 0, 0, 0), none, some (.aload_n 0, 1, 0, 0, 0), some (.getfield 57, 3, 8, 5, 245), none, none, some (.iload_n 2, 1, 0, 0, 0), some (.iaload, 1, 0, 0, 0), some (.if_icmp .ge 14, 3, 97, 0, 0), none, none, some (.aload_n 0, 1, 0, 0, 0), some (.iload_n 3, 1, 0, 0, 0), some (.iload 5, 2, 0, 0, 0), none, some (.iconst 0, 1, 0, 0, 0), some (.invokevirtual 97, 3, 125, 904, 258), none, none, some (.goto 4, 3, 98, 0, 0), none, none, some (.lconst 0, 1, 0, 0, 0), some (.invokevirtual 101, 3, 130, 903, 261), none, none, some (.iinc 5 1, 3, 0, 0, 0), none, none, some (.goto (-45), 3, 59, 0, 0), none, none, some (.iconst 0, 1, 0, 0, 0), some (.istore 5, 2, 0, 0, 0), none, some (.iload 5, 2, 0, 0, 0), none, some (.aload_n 0, 1, 0, 0, 0), some (.getfield 170, 3, 8, 11, 291), none, none, some (.if_icmp .ge 178, 3, 294, 0, 0), none, none, some (.iload 5, 2, 0, 0, 0), none, some (.iload 4, 2, 0, 0, 0), none, some (.if_icmp .ne 69, 3, 192, 0, 0), none, none, some (.aload_n 0, 1, 0, 0, 0), some (.getfield 57, 3, 8, 5, 245), none, none, some (.iload_n 2, 1, 0, 0, 0), some (.iaload, 1, 0, 0, 0), some (.istore 6, 2, 0, 0, 0), none, some (.iload 6, 2, 0, 0, 0), none, some (.aload_n 0, 1, 0, 0, 0), some (.getfield 131, 3, 8, 9, 278), none, none, some (.if_icmp .ge 52, 3, 192, 0, 0), none, none, some (.aload_n 0, 1, 0, 0, 0), some (.getfield 1, 3, 8, 2, 243), none, none, some (.sipush 256, 3, 0, 0, 0), none, none, some (.iload 6, 2, 0, 0, 0), none, some (.iadd, 1, 0, 0, 0), some (.aload_n 0, 1, 0, 0, 0), some (.getfield 1, 3, 8, 2, 243), none, none, some (.sipush 256, 3, 0, 0, 0), none, none, some (.iload 6, 2, 0, 0, 0), none, some (.iadd, 1, 0, 0, 0), some (.baload, 1, 0, 0, 0), some (.ifCond .ne 20, 3, 184, 0, 0), none, none, some (.aload_n 0, 1, 0, 0, 0), some (.sipush 256, 3, 0, 0, 0), none, none, some (.iload 6, 2, 0, 0, 0), none, some (.iadd, 1, 0, 0, 0), some (.invokevirtual 141, 3, 151, 902, 284), none, none, some (.ifCond .ne 7, 3, 184, 0, 0), none, none, some (.iconst 1, 1, 0, 0, 0), some (.goto 4, 3, 185, 0, 0), none, none, some (.iconst 0, 1, 0, 0, 0), some (.bastore, 1, 0, 0, 0), some (.iinc 6 1, 3, 0, 0, 0), none, none, some (.goto (-55), 3, 134, 0, 0), none, none, some (.aload_n 0, 1, 0, 0, 0), some (.sipush 256, 3, 0, 0, 0), none, none, some (.aload_n 0, 1, 0, 0, 0), some (.getfield 69, 3, 8, 12, 249), none, none, some (.iload 5, 2, 0, 0, 0), none, some (.iaload, 1, 0, 0, 0), some (.iadd, 1, 0, 0, 0), some (.sipush 184, 3, 0, 0, 0), none, none, some (.bipush 12, 2, 0, 0, 0), none, some (.iload 5, 2, 0, 0, 0), none, some (.imul, 1, 0, 0, 0), some (.iadd, 1, 0, 0, 0), some (.aload_n 0, 1, 0, 0, 0), some (.getfield 69, 3, 8, 12, 249), none, none, some (.iload 5, 2, 0, 0, 0), none, some (.iaload, 1, 0, 0, 0), some (.iadd, 1, 0, 0, 0), some (.invokevirtual 188, 3, 166, 903, 301), none, none, some (.aload_n 0, 1, 0, 0, 0), some (.sipush 270, 3, 0, 0, 0), none, none, some (.sipush 272, 3, 0, 0, 0), none, none, some (.invokevirtual 138, 3, 153, 903, 286), none, none, some (.iconst 0, 1, 0, 0, 0), some (.istore 6, 2, 0, 0, 0), none, some (.iload 6, 2, 0, 0, 0), none, some (.aload_n 0, 1, 0, 0, 0), some (.getfield 131, 3, 8, 9, 278), none, none, some (.if_icmp .ge 45, 3, 288, 0, 0), none, none, some (.aload_n 0, 1, 0, 0, 0), some (.sipush 268, 3, 0, 0, 0), none, none, some (.sipush 270, 3, 0, 0, 0), none, none, some (.sipush 184, 3, 0, 0, 0), none, none, some (.bipush 12, 2, 0, 0, 0), none, some (.iload 5, 2, 0, 0, 0), none, some (.imul, 1, 0, 0, 0), some (.iadd, 1, 0, 0, 0), some (.iload 6, 2, 0, 0, 0), none, some (.iadd, 1, 0, 0, 0), some (.invokevirtual 112, 3, 132, 904, 265), none, none, some (.aload_n 0, 1, 0, 0, 0), some (.sipush 256, 3, 0, 0, 0), none, none, some (.iload 6, 2, 0, 0, 0), none, some (.iadd, 1, 0, 0, 0), some (.sipush 268, 3, 0, 0, 0), none, none, some (.iconst 1, 1, 0, 0, 0), some (.invokevirtual 115, 3, 134, 904, 266), none, none, some (.iinc 6 1, 3, 0, 0, 0), none, none, some (.goto (-48), 3, 237, 0, 0), none, none, some (.iinc 5 1, 3, 0, 0, 0), none, none, some (.goto (-181), 3, 110, 0, 0), none, none, some (.iload 4, 2, 0, 0, 0), none, some (.aload_n 0, 1, 0, 0, 0), some (.getfield 170, 3, 8, 11, 291), none, none, some (.if_icmp .ne 69, 3, 369, 0, 0), none, none, some (.aload_n 0, 1, 0, 0, 0), some (.getfield 57, 3, 8, 5, 245), none, none, some (.iload_n 2, 1, 0, 0, 0), some (.iaload, 1, 0, 0, 0), some (.istore 5, 2, 0, 0, 0), none, some (.iload 5, 2, 0, 0, 0), none, some (.aload_n 0, 1, 0, 0, 0), some (.getfield 131, 3, 8, 9, 278), none, none, some (.if_icmp .ge 52, 3, 369, 0, 0), none, none, some (.aload_n 0, 1, 0, 0, 0), some (.getfield 1, 3, 8, 2, 243), none, none, some (.sipush 256, 3, 0, 0, 0), none, none, some (.iload 5, 2, 0, 0, 0), none, some (.iadd, 1, 0, 0, 0), some (.aload_n 0, 1, 0, 0, 0), some (.getfield 1, 3, 8, 2, 243), none, none, some (.sipush 256, 3, 0, 0, 0), none, none, some (.iload 5, 2, 0, 0, 0), none, some (.iadd, 1, 0, 0, 0), some (.baload, 1, 0, 0, 0), some (.ifCond .ne 20, 3, 361, 0, 0), none, none, some (.aload_n 0, 1, 0, 0, 0), some (.sipush 256, 3, 0, 0, 0), none, none, some (.iload 5, 2, 0, 0, 0), none, some (.iadd, 1, 0, 0, 0), some (.invokevirtual 141, 3, 151, 902, 284), none, none, some (.ifCond .ne 7, 3, 361, 0, 0), none, none, some (.iconst 1, 1, 0, 0, 0), some (.goto 4, 3, 362, 0, 0), none, none, some (.iconst 0, 1, 0, 0, 0), some (.bastore, 1, 0, 0, 0), some (.iinc 5 1, 3, 0, 0, 0), none, none, some (.goto (-55), 3, 311, 0, 0), none, none, some (.iconst 0, 1, 0, 0, 0), some (.istore 5, 2, 0, 0, 0), none, some (.iload 5, 2, 0, 0, 0), none, some (.aload_n 0, 1, 0, 0, 0), some (.getfield 57, 3, 8, 5, 245), none, none, some (.iload_n 2, 1, 0, 0, 0), some (.iaload, 1, 0, 0, 0), some (.if_icmp .ge 24, 3, 404, 0, 0), none, none, some (.aload_n 0, 1, 0, 0, 0), some (.sipush 256, 3, 0, 0, 0), none, none, some (.iload 5, 2, 0, 0, 0), none, some (.iadd, 1, 0, 0, 0), some (.invokevirtual 141, 3, 151, 902, 284), none, none, some (.ifCond .ne 5, 3, 398, 0, 0), none, none, some (.iconst 0, 1, 0, 0, 0), some (.ireturn, 1, 0, 0, 0), some (.iinc 5 1, 3, 0, 0, 0), none, none, some (.goto (-29), 3, 372, 0, 0), none, none, some (.iconst 0, 1, 0, 0, 0), some (.istore 5, 2, 0, 0, 0), none, some (.iload 5, 2, 0, 0, 0), none, some (.aload_n 0, 1, 0, 0, 0), some (.getfield 60, 3, 8, 6, 246), none, none, some (.iload_n 2, 1, 0, 0, 0), some (.iaload, 1, 0, 0, 0), some (.if_icmp .ge 33, 3, 448, 0, 0), none, none, some (.aload_n 0, 1, 0, 0, 0), some (.aload_n 0, 1, 0, 0, 0), some (.iload 5, 2, 0, 0, 0), none, some (.iconst 0, 1, 0, 0, 0), some (.invokevirtual 105, 3, 129, 903, 260), none, none, some (.sipush 256, 3, 0, 0, 0), none, none, some (.aload_n 0, 1, 0, 0, 0), some (.getfield 57, 3, 8, 5, 245), none, none, some (.iload_n 2, 1, 0, 0, 0), some (.iaload, 1, 0, 0, 0), some (.iadd, 1, 0, 0, 0), some (.iload 5, 2, 0, 0, 0), none, some (.iadd, 1, 0, 0, 0), some (.invokevirtual 138, 3, 153, 903, 286), none, none, some (.iinc 5 1, 3, 0, 0, 0), none, none, some (.goto (-38), 3, 407, 0, 0), none, none, some (.aload_n 0, 1, 0, 0, 0), some (.iload_n 1, 1, 0, 0, 0), some (.aload_n 0, 1, 0, 0, 0), some (.getfield 60, 3, 8, 6, 246), none, none, some (.iload_n 2, 1, 0, 0, 0), some (.iaload, 1, 0, 0, 0), some (.iconst 1, 1, 0, 0, 0), some (.invokevirtual 125, 3, 139, 904, 263), none, none, some (.ifCond .eq 7, 3, 467, 0, 0), none, none, some (.iconst 1, 1, 0, 0, 0), some (.goto 5, 3, 469, 0, 0), none, none, some (.bipush (-3), 2, 0, 0, 0), none, some (.ireturn, 1, 0, 0, 0)]
def k_Mo_determinant : List (Option ax_E) := [some (.aload_n 0, 1, 0, 0, 0), some (.aload_n 0, 1, 0, 0, 0), some (.iload_n 1, 1, 0, 0, 0), some (.invokevirtual 82, 3, 120, 902, 253), none, none, some (.ifCond .eq 7, 3, 13, 0, 0), none, none, some (.iconst 0, 1, 0, 0, 0), some (.goto 4, 3, 14, 0, 0), none, none, some (.iconst 1, 1, 0, 0, 0), some (.putfield 78, 3, 8, 3, 252), none, none, some (.aload_n 0, 1, 0, 0, 0), some (.getfield 78, 3, 8, 3, 252), none, none, some (.ifCond .le 5, 3, 26, 0, 0), none, none, some (.iconst 0, 1, 0, 0, 0), some (.ireturn, 1, 0, 0, 0), some (.aload_n 0, 1, 0, 0, 0), some (.getfield 57, 3, 8, 5, 245), none, none, some (.iload_n 1, 1, 0, 0, 0), some (.iaload, 1, 0, 0, 0), some (.aload_n 0, 1, 0, 0, 0), some (.getfield 60, 3, 8, 6, 246), none, none, some (.iload_n 1, 1, 0, 0, 0), some (.iaload, 1, 0, 0, 0), some (.if_icmp .eq 6, 3, 44, 0, 0), none, none, some (.bipush (-2), 2, 0, 0, 0), none, some (.ireturn, 1, 0, 0, 0), some (.aload_n 0, 1, 0, 0, 0), some (.iload_n 1, 1, 0, 0, 0), some (.invokevirtual 163, 3, 144, 902, 275), none, none, some (.aload_n 0, 1, 0, 0, 0), some (.aload_n 0, 1, 0, 0, 0), some (.iconst 1, 1, 0, 0, 0), some (.aload_n 0, 1, 0, 0, 0), some (.getfield 131, 3, 8, 9, 278), none, none, some (.ishl, 1, 0, 0, 0), some (.iconst 1, 1, 0, 0, 0), some (.isub, 1, 0, 0, 0), some (.invokevirtual 147, 3, 149, 902, 282), none, none, some (.invokevirtual 150, 3, 150, 902, 283), none, none, some (.aload_n 0, 1, 0, 0, 0), some (.sipush 273, 3, 0, 0, 0), none, none, some (.bipush 36, 2, 0, 0, 0), none, some (.iconst 1, 1, 0, 0, 0), some (.aload_n 0, 1, 0, 0, 0), some (.getfield 128, 3, 8, 8, 277), none, none, some (.ishl, 1, 0, 0, 0), some (.iconst 1, 1, 0, 0, 0), some (.isub, 1, 0, 0, 0), some (.iadd, 1, 0, 0, 0), some (.invokevirtual 138, 3, 153, 903, 286), none, none, some (.aload_n 0, 1, 0, 0, 0), some (.sipush 273, 3, 0, 0, 0), none, none, some (.invokevirtual 224, 3, 173, 902, 304), none, none, some (.ireturn, 1, 0, 0, 0)]
def k_Mo_say : List (Option ax_E) := [some (.aload_n 0, 1, 0, 0, 0), some (.iconst 0, 1, 0, 0, 0), some (.putfield 215, 3, 8, 15, 305), none, none, some (.aload_n 0, 1, 0, 0, 0), some (.iload_n 1, 1, 0, 0, 0), some (.invokevirtual 218, 3, 174, 902, 306), none, none, some (.ifCond .ge 16, 3, 26, 0, 0), none, none, some (.aload_n 0, 1, 0, 0, 0), some (.getfield 72, 3, 8, 14, 250), none, none, some (.iconst 0, 1, 0, 0, 0), some (.bipush 45, 2, 0, 0, 0), none, some (.iastore, 1, 0, 0, 0), some (.aload_n 0, 1, 0, 0, 0), some (.iconst 1, 1, 0, 0, 0), some (.putfield 215, 3, 8, 15, 305), none, none, some (.aload_n 0, 1, 0, 0, 0), some (.iload_n 1, 1, 0, 0, 0), some (.invokevirtual 221, 3, 175, 902, 307), none, none, some (.aload_n 0, 1, 0, 0, 0), some (.getfield 215, 3, 8, 15, 305), none, none, some (.ireturn, 1, 0, 0, 0)]
def k_Mo_bigSign : List (Option ax_E) := [some (.aload_n 0, 1, 0, 0, 0), some (.getfield 13, 3, 8, 1, 242), none, none, some (.iload_n 1, 1, 0, 0, 0), some (.iaload, 1, 0, 0, 0), some (.ifCond .ne 7, 3, 13, 0, 0), none, none, some (.iconst 0, 1, 0, 0, 0), some (.goto 17, 3, 27, 0, 0), none, none, some (.aload_n 0, 1, 0, 0, 0), some (.getfield 1, 3, 8, 2, 243), none, none, some (.iload_n 1, 1, 0, 0, 0), some (.baload, 1, 0, 0, 0), some (.ifCond .eq 7, 3, 26, 0, 0), none, none, some (.iconst (-1), 1, 0, 0, 0), some (.goto 4, 3, 27, 0, 0), none, none, some (.iconst 1, 1, 0, 0, 0), some (.ireturn, 1, 0, 0, 0)]
def k_Mo_sayMore : List (Option ax_E) := [some (.aload_n 0, 1, 0, 0, 0), some (.sipush 268, 3, 0, 0, 0), none, none, some (.iload_n 1, 1, 0, 0, 0), some (.invokevirtual 138, 3, 153, 903, 286), none, none, some (.iconst 0, 1, 0, 0, 0), some (.istore_n 2, 1, 0, 0, 0), some (.aload_n 0, 1, 0, 0, 0), some (.getfield 75, 3, 8, 16, 251), none, none, some (.iload_n 2, 1, 0, 0, 0), some (.aload_n 0, 1, 0, 0, 0), some (.sipush 268, 3, 0, 0, 0), none, none, some (.invokevirtual 212, 3, 176, 902, 308), none, none, some (.iastore, 1, 0, 0, 0), some (.iinc 2 1, 3, 0, 0, 0), none, none, some (.aload_n 0, 1, 0, 0, 0), some (.sipush 268, 3, 0, 0, 0), none, none, some (.invokevirtual 141, 3, 151, 902, 284), none, none, some (.ifCond .eq (-23), 3, 10, 0, 0), none, none, some (.iload_n 2, 1, 0, 0, 0), some (.iconst 1, 1, 0, 0, 0), some (.isub, 1, 0, 0, 0), some (.istore_n 3, 1, 0, 0, 0), some (.iload_n 3, 1, 0, 0, 0), some (.ifCond .lt 37, 3, 78, 0, 0), none, none, some (.aload_n 0, 1, 0, 0, 0), some (.getfield 72, 3, 8, 14, 250), none, none, some (.aload_n 0, 1, 0, 0, 0), some (.getfield 215, 3, 8, 15, 305), none, none, some (.bipush 48, 2, 0, 0, 0), none, some (.aload_n 0, 1, 0, 0, 0), some (.getfield 75, 3, 8, 16, 251), none, none, some (.iload_n 3, 1, 0, 0, 0), some (.iaload, 1, 0, 0, 0), some (.iadd, 1, 0, 0, 0), some (.iastore, 1, 0, 0, 0), some (.aload_n 0, 1, 0, 0, 0), some (.dup, 1, 0, 0, 0), some (.getfield 215, 3, 8, 15, 305), none, none, some (.iconst 1, 1, 0, 0, 0), some (.iadd, 1, 0, 0, 0), some (.putfield 215, 3, 8, 15, 305), none, none, some (.iinc 3 (-1), 3, 0, 0, 0), none, none, some (.goto (-35), 3, 40, 0, 0), none, none, some (.return_, 1, 0, 0, 0)]
def k_Mo_bigTenth : List (Option ax_E) := [some (.iconst 0, 1, 0, 0, 0), some (.istore_n 2, 1, 0, 0, 0), some (.aload_n 0, 1, 0, 0, 0), some (.getfield 13, 3, 8, 1, 242), none, none, some (.iload_n 1, 1, 0, 0, 0), some (.iaload, 1, 0, 0, 0), some (.iconst 1, 1, 0, 0, 0), some (.isub, 1, 0, 0, 0), some (.istore_n 3, 1, 0, 0, 0), some (.iload_n 3, 1, 0, 0, 0), some (.ifCond .lt 51, 3, 63, 0, 0), none, none, some (.iload_n 2, 1, 0, 0, 0), some (.ldc 20, 2, 5, 0, 273), none, some (.imul, 1, 0, 0, 0), some (.aload_n 0, 1, 0, 0, 0), some (.getfield 7, 3, 8, 0, 241), none, none, some (.sipush 140, 3, 0, 0, 0), none, none, some (.iload_n 1, 1, 0, 0, 0), some (.imul, 1, 0, 0, 0), some (.iload_n 3, 1, 0, 0, 0), some (.iadd, 1, 0, 0, 0), some (.iaload, 1, 0, 0, 0), some (.iadd, 1, 0, 0, 0), some (.istore 4, 2, 0, 0, 0), none, some (.aload_n 0, 1, 0, 0, 0), some (.getfield 7, 3, 8, 0, 241), none, none, some (.sipush 140, 3, 0, 0, 0), none, none, some (.iload_n 1, 1, 0, 0, 0), some (.imul, 1, 0, 0, 0), some (.iload_n 3, 1, 0, 0, 0), some (.iadd, 1, 0, 0, 0), some (.iload 4, 2, 0, 0, 0), none, some (.bipush 10, 2, 0, 0, 0), none, some (.idiv, 1, 0, 0, 0), some (.iastore, 1, 0, 0, 0), some (.iload 4, 2, 0, 0, 0), none, some (.bipush 10, 2, 0, 0, 0), none, some (.irem, 1, 0, 0, 0), some (.istore_n 2, 1, 0, 0, 0), some (.iinc 3 (-1), 3, 0, 0, 0), none, none, some (.goto (-49), 3, 11, 0, 0), none, none, some (.aload_n 0, 1, 0, 0, 0), some (.iload_n 1, 1, 0, 0, 0), some (.invokevirtual 21, 3, 133, 902, 268), none, none, some (.iload_n 2, 1, 0, 0, 0), some (.ireturn, 1, 0, 0, 0)]
def k_Mo_divisor : List (Option ax_E) := [some (.aload_n 0, 1, 0, 0, 0), some (.aload_n 0, 1, 0, 0, 0), some (.iload_n 1, 1, 0, 0, 0), some (.invokevirtual 82, 3, 120, 902, 253), none, none, some (.ifCond .eq 7, 3, 13, 0, 0), none, none, some (.iconst 0, 1, 0, 0, 0), some (.goto 4, 3, 14, 0, 0), none, none, some (.iconst 1, 1, 0, 0, 0), some (.putfield 78, 3, 8, 3, 252), none, none, some (.aload_n 0, 1, 0, 0, 0), some (.getfield 78, 3, 8, 3, 252), none, none, some (.ifCond .le 5, 3, 26, 0, 0), none, none, some (.iconst 0, 1, 0, 0, 0), some (.ireturn, 1, 0, 0, 0), some (.iload_n 2, 1, 0, 0, 0), some (.iconst 1, 1, 0, 0, 0), some (.if_icmp .lt 23, 3, 51, 0, 0), none, none, some (.iload_n 2, 1, 0, 0, 0), some (.aload_n 0, 1, 0, 0, 0), some (.aload_n 0, 1, 0, 0, 0), some (.getfield 57, 3, 8, 5, 245), none, none, some (.iload_n 1, 1, 0, 0, 0), some (.iaload, 1, 0, 0, 0), some (.aload_n 0, 1, 0, 0, 0), some (.getfield 60, 3, 8, 6, 246), none, none, some (.iload_n 1, 1, 0, 0, 0), some (.iaload, 1, 0, 0, 0), some (.invokevirtual 156, 3, 146, 903, 279), none, none, some (.if_icmp .le 5, 3, 53, 0, 0), none, none, some (.iconst (-1), 1, 0, 0, 0), some (.ireturn, 1, 0, 0, 0), some (.aload_n 0, 1, 0, 0, 0), some (.iload_n 1, 1, 0, 0, 0), some (.invokevirtual 163, 3, 144, 902, 275), none, none, some (.aload_n 0, 1, 0, 0, 0), some (.iload_n 2, 1, 0, 0, 0), some (.sipush 273, 3, 0, 0, 0), none, none, some (.invokevirtual 159, 3, 147, 903, 280), none, none, some (.istore_n 3, 1, 0, 0, 0), some (.aload_n 0, 1, 0, 0, 0), some (.sipush 273, 3, 0, 0, 0), none, none, some (.invokevirtual 224, 3, 173, 902, 304), none, none, some (.ireturn, 1, 0, 0, 0)]
def k_Mo_factor : List (Option ax_E) := [some (.aload_n 0, 1, 0, 0, 0), some (.aload_n 0, 1, 0, 0, 0), some (.iload_n 1, 1, 0, 0, 0), some (.invokevirtual 82, 3, 120, 902, 253), none, none, some (.ifCond .eq 7, 3, 13, 0, 0), none, none, some (.iconst 0, 1, 0, 0, 0), some (.goto 4, 3, 14, 0, 0), none, none, some (.iconst 1, 1, 0, 0, 0), some (.putfield 78, 3, 8, 3, 252), none, none, some (.aload_n 0, 1, 0, 0, 0), some (.getfield 78, 3, 8, 3, 252), none, none, some (.ifCond .le 5, 3, 26, 0, 0), none, none, some (.iconst 0, 1, 0, 0, 0), some (.ireturn, 1, 0, 0, 0), some (.aload_n 0, 1, 0, 0, 0), some (.iload_n 1, 1, 0, 0, 0), some (.invokevirtual 163, 3, 144, 902, 275), none, none, some (.iload_n 2, 1, 0, 0, 0), some (.iconst 1, 1, 0, 0, 0), some (.if_icmp .lt 30, 3, 63, 0, 0), none, none, some (.iload_n 2, 1, 0, 0, 0), some (.aload_n 0, 1, 0, 0, 0), some (.aload_n 0, 1, 0, 0, 0), some (.getfield 128, 3, 8, 8, 277), none, none, some (.aload_n 0, 1, 0, 0, 0), some (.getfield 131, 3, 8, 9, 278), none, none, some (.invokevirtual 156, 3, 146, 903, 279), none, none, some (.if_icmp .gt 14, 3, 63, 0, 0), none, none, some (.aload_n 0, 1, 0, 0, 0), some (.iload_n 2, 1, 0, 0, 0), some (.sipush 273, 3, 0, 0, 0), none, none, some (.invokevirtual 159, 3, 147, 903, 280), none, none, some (.ifCond .ne 5, 3, 65, 0, 0), none, none, some (.iconst (-1), 1, 0, 0, 0), some (.ireturn, 1, 0, 0, 0), some (.aload_n 0, 1, 0, 0, 0), some (.iload_n 2, 1, 0, 0, 0), some (.iconst 1, 1, 0, 0, 0), some (.isub, 1, 0, 0, 0), some (.sipush 274, 3, 0, 0, 0), none, none, some (.invokevirtual 159, 3, 147, 903, 280), none, none, some (.istore_n 3, 1, 0, 0, 0), some (.aload_n 0, 1, 0, 0, 0), some (.sipush 273, 3, 0, 0, 0), none, none, some (.sipush 274, 3, 0, 0, 0), none, none, some (.sipush 272, 3, 0, 0, 0), none, none, some (.invokevirtual 144, 3, 154, 904, 287), none, none, some (.aload_n 0, 1, 0, 0, 0), some (.sipush 273, 3, 0, 0, 0), none, none, some (.sipush 272, 3, 0, 0, 0), none, none, some (.invokevirtual 138, 3, 153, 903, 286), none, none, some (.aload_n 0, 1, 0, 0, 0), some (.sipush 273, 3, 0, 0, 0), none, none, some (.invokevirtual 224, 3, 173, 902, 304), none, none, some (.ireturn, 1, 0, 0, 0)]
def k_Mo_inverse : List (Option ax_E) := [some (.aload_n 0, 1, 0, 0, 0), some (.aload_n 0, 1, 0, 0, 0), some (.iload_n 1, 1, 0, 0, 0), some (.invokevirtual 82, 3, 120, 902, 253), none, none, some (.ifCond .eq 7, 3, 13, 0, 0), none, none, some (.iconst 0, 1, 0, 0, 0), some (.goto 4, 3, 14, 0, 0), none, none, some (.iconst 1, 1, 0, 0, 0), some (.putfield 78, 3, 8, 3, 252), none, none, some (.aload_n 0, 1, 0, 0, 0), some (.getfield 78, 3, 8, 3, 252), none, none, some (.ifCond .le 5, 3, 26, 0, 0), none, none, some (.iconst 0, 1, 0, 0, 0), some (.ireturn, 1, 0, 0, 0), some (.aload_n 0, 1, 0, 0, 0), some (.getfield 57, 3, 8, 5, 245), none, none, some (.iload_n 1, 1, 0, 0, 0), some (.iaload, 1, 0, 0, 0), some (.aload_n 0, 1, 0, 0, 0), some (.getfield 60, 3, 8, 6, 246), none, none, some (.iload_n 1, 1, 0, 0, 0), some (.iaload, 1, 0, 0, 0), some (.if_icmp .eq 6, 3, 44, 0, 0), none, none, some (.bipush (-2), 2, 0, 0, 0), none, some (.ireturn, 1, 0, 0, 0), some (.iload_n 2, 1, 0, 0, 0), some (.ifCond .lt 27, 3, 72, 0, 0), none, none, some (.iload_n 2, 1, 0, 0, 0), some (.aload_n 0, 1, 0, 0, 0), some (.getfield 57, 3, 8, 5, 245), none, none, some (.iload_n 1, 1, 0, 0, 0), some (.iaload, 1, 0, 0, 0), some (.if_icmp .ge 17, 3, 72, 0, 0), none, none, some (.iload_n 3, 1, 0, 0, 0), some (.ifCond .lt 13, 3, 72, 0, 0), none, none, some (.iload_n 3, 1, 0, 0, 0), some (.aload_n 0, 1, 0, 0, 0), some (.getfield 57, 3, 8, 5, 245), none, none, some (.iload_n 1, 1, 0, 0, 0), some (.iaload, 1, 0, 0, 0), some (.if_icmp .lt 5, 3, 74, 0, 0), none, none, some (.iconst (-1), 1, 0, 0, 0), some (.ireturn, 1, 0, 0, 0), some (.aload_n 0, 1, 0, 0, 0), some (.iload_n 1, 1, 0, 0, 0), some (.invokevirtual 163, 3, 144, 902, 275), none, none, some (.iconst 1, 1, 0, 0, 0), some (.aload_n 0, 1, 0, 0, 0), some (.getfield 128, 3, 8, 8, 277), none, none, some (.ishl, 1, 0, 0, 0), some (.iconst 1, 1, 0, 0, 0), some (.isub, 1, 0, 0, 0), some (.istore 4, 2, 0, 0, 0), none, some (.aload_n 0, 1, 0, 0, 0), some (.aload_n 0, 1, 0, 0, 0), some (.iload 4, 2, 0, 0, 0), none, some (.invokevirtual 147, 3, 149, 902, 282), none, none, some (.invokevirtual 150, 3, 150, 902, 283), none, none, some (.aload_n 0, 1, 0, 0, 0), some (.sipush 274, 3, 0, 0, 0), none, none, some (.bipush 36, 2, 0, 0, 0), none, some (.iload 4, 2, 0, 0, 0), none, some (.iadd, 1, 0, 0, 0), some (.invokevirtual 138, 3, 153, 903, 286), none, none, some (.aload_n 0, 1, 0, 0, 0), some (.sipush 274, 3, 0, 0, 0), none, none, some (.invokevirtual 141, 3, 151, 902, 284), none, none, some (.ifCond .eq 5, 3, 123, 0, 0), none, none, some (.iconst (-1), 1, 0, 0, 0), some (.ireturn, 1, 0, 0, 0), some (.aload_n 0, 1, 0, 0, 0), some (.aload_n 0, 1, 0, 0, 0), some (.iload 4, 2, 0, 0, 0), none, some (.iconst 1, 1, 0, 0, 0), some (.iload_n 2, 1, 0, 0, 0), some (.ishl, 1, 0, 0, 0), some (.iconst (-1), 1, 0, 0, 0), some (.ixor, 1, 0, 0, 0), some (.iand, 1, 0, 0, 0), some (.invokevirtual 147, 3, 149, 902, 282), none, none, some (.invokevirtual 150, 3, 150, 902, 283), none, none, some (.aload_n 0, 1, 0, 0, 0), some (.sipush 273, 3, 0, 0, 0), none, none, some (.bipush 36, 2, 0, 0, 0), none, some (.iload 4, 2, 0, 0, 0), none, some (.iconst 1, 1, 0, 0, 0), some (.iload_n 3, 1, 0, 0, 0), some (.ishl, 1, 0, 0, 0), some (.iconst (-1), 1, 0, 0, 0), some (.ixor, 1, 0, 0, 0), some (.iand, 1, 0, 0, 0), some (.iadd, 1, 0, 0, 0), some (.invokevirtual 138, 3, 153, 903, 286), none, none, some (.iload_n 2, 1, 0, 0, 0), some (.iload_n 3, 1, 0, 0, 0), some (.iadd, 1, 0, 0, 0), some (.iconst 2, 1, 0, 0, 0), some (.irem, 1, 0, 0, 0), some (.iconst 1, 1, 0, 0, 0), some (.if_icmp .ne 7, 3, 170, 0, 0), none, none, some (.iconst 1, 1, 0, 0, 0), some (.goto 4, 3, 171, 0, 0), none, none, some (.iconst 0, 1, 0, 0, 0), some (.istore 5, 2, 0, 0, 0), none, some (.aload_n 0, 1, 0, 0, 0), some (.sipush 273, 3, 0, 0, 0), none, none, some (.invokevirtual 218, 3, 174, 902, 306), none, none, some (.ifCond .eq 36, 3, 216, 0, 0), none, none, some (.aload_n 0, 1, 0, 0, 0), some (.getfield 1, 3, 8, 2, 243), none, none, some (.sipush 273, 3, 0, 0, 0), none, none, some (.baload, 1, 0, 0, 0), some (.aload_n 0, 1, 0, 0, 0), some (.getfield 1, 3, 8, 2, 243), none, none, some (.sipush 274, 3, 0, 0, 0), none, none, some (.baload, 1, 0, 0, 0), some (.iload 5, 2, 0, 0, 0), none, some (.if_icmp .eq 7, 3, 208, 0, 0), none, none, some (.iconst 1, 1, 0, 0, 0), some (.goto 4, 3, 209, 0, 0), none, none, some (.iconst 0, 1, 0, 0, 0), some (.if_icmp .eq 7, 3, 216, 0, 0), none, none, some (.iconst 1, 1, 0, 0, 0), some (.goto 4, 3, 217, 0, 0), none, none, some (.iconst 0, 1, 0, 0, 0), some (.istore 6, 2, 0, 0, 0), none, some (.aload_n 0, 1, 0, 0, 0), some (.getfield 1, 3, 8, 2, 243), none, none, some (.sipush 273, 3, 0, 0, 0), none, none, some (.iconst 0, 1, 0, 0, 0), some (.bastore, 1, 0, 0, 0), some (.aload_n 0, 1, 0, 0, 0), some (.getfield 1, 3, 8, 2, 243), none, none, some (.sipush 274, 3, 0, 0, 0), none, none, some (.iconst 0, 1, 0, 0, 0), some (.bastore, 1, 0, 0, 0), some (.aload_n 0, 1, 0, 0, 0), some (.sipush 276, 3, 0, 0, 0), none, none, some (.sipush 274, 3, 0, 0, 0), none, none, some (.invokevirtual 138, 3, 153, 903, 286), none, none, some (.aload_n 0, 1, 0, 0, 0), some (.sipush 276, 3, 0, 0, 0), none, none, some (.sipush 273, 3, 0, 0, 0), none, none, some (.invokevirtual 153, 3, 152, 903, 285), none, none, some (.aload_n 0, 1, 0, 0, 0), some (.sipush 269, 3, 0, 0, 0), none, none, some (.sipush 276, 3, 0, 0, 0), none, none, some (.invokevirtual 138, 3, 153, 903, 286), none, none, some (.aload_n 0, 1, 0, 0, 0), some (.sipush 273, 3, 0, 0, 0), none, none, some (.sipush 269, 3, 0, 0, 0), none, none, some (.sipush 272, 3, 0, 0, 0), none, none, some (.invokevirtual 144, 3, 154, 904, 287), none, none, some (.aload_n 0, 1, 0, 0, 0), some (.sipush 273, 3, 0, 0, 0), none, none, some (.sipush 272, 3, 0, 0, 0), none, none, some (.invokevirtual 138, 3, 153, 903, 286), none, none, some (.aload_n 0, 1, 0, 0, 0), some (.sipush 269, 3, 0, 0, 0), none, none, some (.sipush 276, 3, 0, 0, 0), none, none, some (.invokevirtual 138, 3, 153, 903, 286), none, none, some (.aload_n 0, 1, 0, 0, 0), some (.sipush 274, 3, 0, 0, 0), none, none, some (.sipush 269, 3, 0, 0, 0), none, none, some (.sipush 272, 3, 0, 0, 0), none, none, some (.invokevirtual 144, 3, 154, 904, 287), none, none, some (.aload_n 0, 1, 0, 0, 0), some (.sipush 274, 3, 0, 0, 0), none, none, some (.sipush 272, 3, 0, 0, 0), none, none, some (.invokevirtual 138, 3, 153, 903, 286), none, none, some (.aload_n 0, 1, 0, 0, 0), some (.getfield 1, 3, 8, 2, 243), none, none, some (.sipush 273, 3, 0, 0, 0), none, none, some (.iload 6, 2, 0, 0, 0), none, some (.bastore, 1, 0, 0, 0), some (.aload_n 0, 1, 0, 0, 0), some (.sipush 273, 3, 0, 0, 0), none, none, some (.invokevirtual 224, 3, 173, 902, 304), none, none, some (.istore 7, 2, 0, 0, 0), none, some (.aload_n 0, 1, 0, 0, 0), some (.sipush 274, 3, 0, 0, 0), none, none, some (.invokevirtual 227, 3, 180, 902, 309), none, none, some (.ifCond .ne 37, 3, 386, 0, 0), none, none, some (.aload_n 0, 1, 0, 0, 0), some (.getfield 72, 3, 8, 14, 250), none, none, some (.aload_n 0, 1, 0, 0, 0), some (.getfield 215, 3, 8, 15, 305), none, none, some (.bipush 47, 2, 0, 0, 0), none, some (.iastore, 1, 0, 0, 0), some (.aload_n 0, 1, 0, 0, 0), some (.dup, 1, 0, 0, 0), some (.getfield 215, 3, 8, 15, 305), none, none, some (.iconst 1, 1, 0, 0, 0), some (.iadd, 1, 0, 0, 0), some (.putfield 215, 3, 8, 15, 305), none, none, some (.aload_n 0, 1, 0, 0, 0), some (.sipush 274, 3, 0, 0, 0), none, none, some (.invokevirtual 221, 3, 175, 902, 307), none, none, some (.aload_n 0, 1, 0, 0, 0), some (.getfield 215, 3, 8, 15, 305), none, none, some (.istore 7, 2, 0, 0, 0), none, some (.iload 7, 2, 0, 0, 0), none, some (.ireturn, 1, 0, 0, 0)]
def k_Mo_bigIsOne : List (Option ax_E) := [some (.aload_n 0, 1, 0, 0, 0), some (.getfield 13, 3, 8, 1, 242), none, none, some (.iload_n 1, 1, 0, 0, 0), some (.iaload, 1, 0, 0, 0), some (.iconst 1, 1, 0, 0, 0), some (.if_icmp .ne 21, 3, 28, 0, 0), none, none, some (.aload_n 0, 1, 0, 0, 0), some (.getfield 7, 3, 8, 0, 241), none, none, some (.sipush 140, 3, 0, 0, 0), none, none, some (.iload_n 1, 1, 0, 0, 0), some (.imul, 1, 0, 0, 0), some (.iaload, 1, 0, 0, 0), some (.iconst 1, 1, 0, 0, 0), some (.if_icmp .ne 7, 3, 28, 0, 0), none, none, some (.iconst 1, 1, 0, 0, 0), some (.goto 4, 3, 29, 0, 0), none, none, some (.iconst 0, 1, 0, 0, 0), some (.ireturn, 1, 0, 0, 0)]
def k_Mo_characteristic : List (Option ax_E) := [some (.aload_n 0, 1, 0, 0, 0), some (.aload_n 0, 1, 0, 0, 0), some (.iload_n 1, 1, 0, 0, 0), some (.invokevirtual 82, 3, 120, 902, 253), none, none, some (.ifCond .eq 7, 3, 13, 0, 0), none, none, some (.iconst 0, 1, 0, 0, 0), some (.goto 4, 3, 14, 0, 0), none, none, some (.iconst 1, 1, 0, 0, 0), some (.putfield 78, 3, 8, 3, 252), none, none, some (.aload_n 0, 1, 0, 0, 0), some (.getfield 78, 3, 8, 3, 252), none, none, some (.ifCond .le 5, 3, 26, 0, 0), none, none, some (.iconst 0, 1, 0, 0, 0), some (.ireturn, 1, 0, 0, 0), some (.aload_n 0, 1, 0, 0, 0), some (.getfield 57, 3, 8, 5, 245), none, none, some (.iload_n 1, 1, 0, 0, 0), some (.iaload, 1, 0, 0, 0), some (.aload_n 0, 1, 0, 0, 0), some (.getfield 60, 3, 8, 6, 246), none, none, some (.iload_n 1, 1, 0, 0, 0), some (.iaload, 1, 0, 0, 0), some (.if_icmp .eq 6, 3, 44, 0, 0), none, none, some (.bipush (-2), 2, 0, 0, 0), none, some (.ireturn, 1, 0, 0, 0), some (.iload_n 2, 1, 0, 0, 0), some (.ifCond .lt 13, 3, 58, 0, 0), none, none, some (.iload_n 2, 1, 0, 0, 0), some (.aload_n 0, 1, 0, 0, 0), some (.getfield 57, 3, 8, 5, 245), none, none, some (.iload_n 1, 1, 0, 0, 0), some (.iaload, 1, 0, 0, 0), some (.if_icmp .le 5, 3, 60, 0, 0), none, none, some (.iconst (-1), 1, 0, 0, 0), some (.ireturn, 1, 0, 0, 0), some (.aload_n 0, 1, 0, 0, 0), some (.iload_n 1, 1, 0, 0, 0), some (.invokevirtual 163, 3, 144, 902, 275), none, none, some (.aload_n 0, 1, 0, 0, 0), some (.getfield 57, 3, 8, 5, 245), none, none, some (.iload_n 1, 1, 0, 0, 0), some (.iaload, 1, 0, 0, 0), some (.iload_n 2, 1, 0, 0, 0), some (.isub, 1, 0, 0, 0), some (.istore_n 3, 1, 0, 0, 0), some (.aload_n 0, 1, 0, 0, 0), some (.sipush 273, 3, 0, 0, 0), none, none, some (.lconst 0, 1, 0, 0, 0), some (.invokevirtual 101, 3, 130, 903, 261), none, none, some (.iconst 0, 1, 0, 0, 0), some (.istore 4, 2, 0, 0, 0), none, some (.iload 4, 2, 0, 0, 0), none, some (.iconst 1, 1, 0, 0, 0), some (.aload_n 0, 1, 0, 0, 0), some (.getfield 128, 3, 8, 8, 277), none, none, some (.ishl, 1, 0, 0, 0), some (.if_icmp .ge 56, 3, 149, 0, 0), none, none, some (.iload 4, 2, 0, 0, 0), none, some (.invokestatic 134, 3, 148, 1, 281), none, none, some (.iload_n 3, 1, 0, 0, 0), some (.if_icmp .ne 41, 3, 143, 0, 0), none, none, some (.aload_n 0, 1, 0, 0, 0), some (.iload 4, 2, 0, 0, 0), none, some (.invokevirtual 147, 3, 149, 902, 282), none, none, some (.istore 5, 2, 0, 0, 0), none, some (.aload_n 0, 1, 0, 0, 0), some (.iload 5, 2, 0, 0, 0), none, some (.invokevirtual 150, 3, 150, 902, 283), none, none, some (.aload_n 0, 1, 0, 0, 0), some (.sipush 273, 3, 0, 0, 0), none, none, some (.bipush 36, 2, 0, 0, 0), none, some (.iload 4, 2, 0, 0, 0), none, some (.iadd, 1, 0, 0, 0), some (.iload_n 3, 1, 0, 0, 0), some (.iconst 2, 1, 0, 0, 0), some (.irem, 1, 0, 0, 0), some (.iconst 1, 1, 0, 0, 0), some (.if_icmp .ne 7, 3, 139, 0, 0), none, none, some (.iconst 1, 1, 0, 0, 0), some (.goto 4, 3, 140, 0, 0), none, none, some (.iconst 0, 1, 0, 0, 0), some (.invokevirtual 115, 3, 134, 904, 266), none, none, some (.iinc 4 1, 3, 0, 0, 0), none, none, some (.goto (-61), 3, 85, 0, 0), none, none, some (.aload_n 0, 1, 0, 0, 0), some (.sipush 273, 3, 0, 0, 0), none, none, some (.invokevirtual 224, 3, 173, 902, 304), none, none, some (.ireturn, 1, 0, 0, 0)]
def k_Mo_character : List (Option ax_E) := [some (.aload_n 0, 1, 0, 0, 0), some (.iconst 0, 1, 0, 0, 0), some (.putfield 78, 3, 8, 3, 252), none, none, some (.iload_n 1, 1, 0, 0, 0), some (.ifCond .lt 20, 3, 26, 0, 0), none, none, some (.iload_n 1, 1, 0, 0, 0), some (.aload_n 0, 1, 0, 0, 0), some (.getfield 215, 3, 8, 15, 305), none, none, some (.if_icmp .ge 12, 3, 26, 0, 0), none, none, some (.aload_n 0, 1, 0, 0, 0), some (.getfield 72, 3, 8, 14, 250), none, none, some (.iload_n 1, 1, 0, 0, 0), some (.iaload, 1, 0, 0, 0), some (.goto 4, 3, 27, 0, 0), none, none, some (.iconst (-1), 1, 0, 0, 0), some (.ireturn, 1, 0, 0, 0)]
def k_Mo_same : List (Option ax_E) := [some (.aload_n 0, 1, 0, 0, 0), some (.iload_n 1, 1, 0, 0, 0), some (.iload_n 2, 1, 0, 0, 0), some (.iload_n 2, 1, 0, 0, 0), some (.invokevirtual 118, 3, 128, 904, 259), none, none, some (.ifCond .ne 5, 3, 12, 0, 0), none, none, some (.iconst 0, 1, 0, 0, 0), some (.ireturn, 1, 0, 0, 0), some (.aload_n 0, 1, 0, 0, 0), some (.getfield 57, 3, 8, 5, 245), none, none, some (.iload_n 1, 1, 0, 0, 0), some (.iaload, 1, 0, 0, 0), some (.aload_n 0, 1, 0, 0, 0), some (.getfield 57, 3, 8, 5, 245), none, none, some (.iload_n 2, 1, 0, 0, 0), some (.iaload, 1, 0, 0, 0), some (.if_icmp .ne 22, 3, 46, 0, 0), none, none, some (.aload_n 0, 1, 0, 0, 0), some (.getfield 60, 3, 8, 6, 246), none, none, some (.iload_n 1, 1, 0, 0, 0), some (.iaload, 1, 0, 0, 0), some (.aload_n 0, 1, 0, 0, 0), some (.getfield 60, 3, 8, 6, 246), none, none, some (.iload_n 2, 1, 0, 0, 0), some (.iaload, 1, 0, 0, 0), some (.if_icmp .ne 7, 3, 46, 0, 0), none, none, some (.iconst 1, 1, 0, 0, 0), some (.goto 4, 3, 47, 0, 0), none, none, some (.iconst 0, 1, 0, 0, 0), some (.istore_n 3, 1, 0, 0, 0), some (.iconst 0, 1, 0, 0, 0), some (.istore 4, 2, 0, 0, 0), none, some (.iload 4, 2, 0, 0, 0), none, some (.aload_n 0, 1, 0, 0, 0), some (.getfield 57, 3, 8, 5, 245), none, none, some (.iload_n 1, 1, 0, 0, 0), some (.iaload, 1, 0, 0, 0), some (.if_icmp .ge 65, 3, 124, 0, 0), none, none, some (.iload_n 3, 1, 0, 0, 0), some (.ifCond .eq 61, 3, 124, 0, 0), none, none, some (.iconst 0, 1, 0, 0, 0), some (.istore 5, 2, 0, 0, 0), none, some (.iload 5, 2, 0, 0, 0), none, some (.aload_n 0, 1, 0, 0, 0), some (.getfield 60, 3, 8, 6, 246), none, none, some (.iload_n 1, 1, 0, 0, 0), some (.iaload, 1, 0, 0, 0), some (.if_icmp .ge 41, 3, 118, 0, 0), none, none, some (.iload_n 3, 1, 0, 0, 0), some (.ifCond .eq 29, 3, 110, 0, 0), none, none, some (.aload_n 0, 1, 0, 0, 0), some (.iload_n 1, 1, 0, 0, 0), some (.iload 4, 2, 0, 0, 0), none, some (.iload 5, 2, 0, 0, 0), none, some (.invokevirtual 97, 3, 125, 904, 258), none, none, some (.aload_n 0, 1, 0, 0, 0), some (.iload_n 2, 1, 0, 0, 0), some (.iload 4, 2, 0, 0, 0), none, some (.iload 5, 2, 0, 0, 0), none, some (.invokevirtual 97, 3, 125, 904, 258), none, none, some (.lcmp, 1, 0, 0, 0), some (.ifCond .ne 7, 3, 110, 0, 0), none, none, some (.iconst 1, 1, 0, 0, 0), some (.goto 4, 3, 111, 0, 0), none, none, some (.iconst 0, 1, 0, 0, 0), some (.istore_n 3, 1, 0, 0, 0), some (.iinc 5 1, 3, 0, 0, 0), none, none, some (.goto (-46), 3, 69, 0, 0), none, none, some (.iinc 4 1, 3, 0, 0, 0), none, none, some (.goto (-70), 3, 51, 0, 0), none, none, some (.iload_n 3, 1, 0, 0, 0), some (.ireturn, 1, 0, 0, 0)]
def k_Mo_check : List (Option ax_E) := [some (.aload_n 0, 1, 0, 0, 0), some (.aload_n 0, 1, 0, 0, 0), some (.iload_n 1, 1, 0, 0, 0), some (.invokevirtual 82, 3, 120, 902, 253), none, none, some (.ifCond .eq 7, 3, 13, 0, 0), none, none, some (.iconst 0, 1, 0, 0, 0), some (.goto 4, 3, 14, 0, 0), none, none, some (.iconst 1, 1, 0, 0, 0), some (.putfield 78, 3, 8, 3, 252), none, none, some (.aload_n 0, 1, 0, 0, 0), some (.getfield 78, 3, 8, 3, 252), none, none, some (.ifCond .le 7, 3, 28, 0, 0), none, none, some (.iconst 0, 1, 0, 0, 0), some (.goto 4, 3, 29, 0, 0), none, none, some (.iconst 1, 1, 0, 0, 0), some (.ireturn, 1, 0, 0, 0)]
def k_La_law : List (Option ax_E) := [some (.new 8, 3, 0, 0, 310), none, none, some (.dup, 1, 0, 0, 0), some (.invokespecial 73, 3, 0, 101, 311), none, none, some (.astore_n 1, 1, 0, 0, 0), some (.new 74, 3, 8, 0, 312), none, none, some (.dup, 1, 0, 0, 0), some (.invokespecial 76, 3, 117, 901, 313), none, none, some (.astore_n 2, 1, 0, 0, 0), some (.iconst 1, 1, 0, 0, 0), some (.newarray .long, 2, 0, 0, 0), none, some (.astore_n 3, 1, 0, 0, 0), some (.iconst 0, 1, 0, 0, 0), some (.istore 4, 2, 0, 0, 0), none, some (.iload 4, 2, 0, 0, 0), none, some (.aload_n 0, 1, 0, 0, 0), some (.arraylength, 1, 0, 0, 0), some (.bipush 6, 2, 0, 0, 0), none, some (.isub, 1, 0, 0, 0), some (.if_icmp .gt 1388, 3, 1418, 0, 0), none, none, some (.aload_n 0, 1, 0, 0, 0), some (.iload 4, 2, 0, 0, 0), none, some (.iaload, 1, 0, 0, 0), some (.bipush 31, 2, 0, 0, 0), none, some (.iand, 1, 0, 0, 0), some (.tableswitch 1372 0 18 #[92, 152, 256, 335, 372, 476, 556, 604, 660, 728, 796, 876, 932, 1000, 1068, 1148, 1216, 1241, 1316], 92, 0, 0, 0), none, none, none, none, none, none, none, none, none, none, none, none, none, none, none, none, none, none, none, none, none, none, none, none, none, none, none, none, none, none, none, none, none, none, none, none, none, none, none, none, none, none, none, none, none, none, none, none, none, none, none, none, none, none, none, none, none, none, none, none, none, none, none, none, none, none, none, none, none, none, none, none, none, none, none, none, none, none, none, none, none, none, none, none, none, none, none, none, none, none, none, some (.aload_n 1, 1, 0, 0, 0), some (.aload_n 0, 1, 0, 0, 0), some (.iload 4, 2, 0, 0, 0), none, some (.iconst 1, 1, 0, 0, 0), some (.iadd, 1, 0, 0, 0), some (.iaload, 1, 0, 0, 0), some (.aload_n 0, 1, 0, 0, 0), some (.iload 4, 2, 0, 0, 0), none, some (.iconst 2, 1, 0, 0, 0), some (.iadd, 1, 0, 0, 0), some (.iaload, 1, 0, 0, 0), some (.aload_n 0, 1, 0, 0, 0), some (.iload 4, 2, 0, 0, 0), none, some (.iconst 3, 1, 0, 0, 0), some (.iadd, 1, 0, 0, 0), some (.iaload, 1, 0, 0, 0), some (.invokestatic 77, 3, 19, 4, 314), none, none, some (.istore 5, 2, 0, 0, 0), none, some (.aload_n 2, 1, 0, 0, 0), some (.aload_n 0, 1, 0, 0, 0), some (.iload 4, 2, 0, 0, 0), none, some (.iconst 1, 1, 0, 0, 0), some (.iadd, 1, 0, 0, 0), some (.iaload, 1, 0, 0, 0), some (.aload_n 0, 1, 0, 0, 0), some (.iload 4, 2, 0, 0, 0), none, some (.iconst 2, 1, 0, 0, 0), some (.iadd, 1, 0, 0, 0), some (.iaload, 1, 0, 0, 0), some (.aload_n 0, 1, 0, 0, 0), some (.iload 4, 2, 0, 0, 0), none, some (.iconst 3, 1, 0, 0, 0), some (.iadd, 1, 0, 0, 0), some (.iaload, 1, 0, 0, 0), some (.invokevirtual 82, 3, 119, 904, 315), none, none, some (.aload_n 2, 1, 0, 0, 0), some (.invokevirtual 83, 3, 118, 901, 316), none, none, some (.iload 5, 2, 0, 0, 0), none, some (.if_icmp .eq 5, 3, 189, 0, 0), none, none, some (.iconst 0, 1, 0, 0, 0), some (.ireturn, 1, 0, 0, 0), some (.goto 1223, 3, 1412, 0, 0), none, none, some (.aload_n 1, 1, 0, 0, 0), some (.aload_n 0, 1, 0, 0, 0), some (.iload 4, 2, 0, 0, 0), none, some (.iconst 1, 1, 0, 0, 0), some (.iadd, 1, 0, 0, 0), some (.iaload, 1, 0, 0, 0), some (.aload_n 0, 1, 0, 0, 0), some (.iload 4, 2, 0, 0, 0), none, some (.iconst 2, 1, 0, 0, 0), some (.iadd, 1, 0, 0, 0), some (.iaload, 1, 0, 0, 0), some (.aload_n 0, 1, 0, 0, 0), some (.iload 4, 2, 0, 0, 0), none, some (.iconst 3, 1, 0, 0, 0), some (.iadd, 1, 0, 0, 0), some (.iaload, 1, 0, 0, 0), some (.aload_n 0, 1, 0, 0, 0), some (.iload 4, 2, 0, 0, 0), none, some (.iconst 4, 1, 0, 0, 0), some (.iadd, 1, 0, 0, 0), some (.iaload, 1, 0, 0, 0), some (.i2l, 1, 0, 0, 0), some (.bipush 32, 2, 0, 0, 0), none, some (.lshl, 1, 0, 0, 0), some (.aload_n 0, 1, 0, 0, 0), some (.iload 4, 2, 0, 0, 0), none, some (.iconst 5, 1, 0, 0, 0), some (.iadd, 1, 0, 0, 0), some (.iaload, 1, 0, 0, 0), some (.i2l, 1, 0, 0, 0), some (.ldc2_w 87, 3, 8, 0, 317), none, none, some (.land, 1, 0, 0, 0), some (.lor, 1, 0, 0, 0), some (.invokestatic 89, 3, 24, 5, 318), none, none, some (.istore 5, 2, 0, 0, 0), none, some (.aload_n 2, 1, 0, 0, 0), some (.aload_n 0, 1, 0, 0, 0), some (.iload 4, 2, 0, 0, 0), none, some (.iconst 1, 1, 0, 0, 0), some (.iadd, 1, 0, 0, 0), some (.iaload, 1, 0, 0, 0), some (.aload_n 0, 1, 0, 0, 0), some (.iload 4, 2, 0, 0, 0), none, some (.iconst 2, 1, 0, 0, 0), some (.iadd, 1, 0, 0, 0), some (.iaload, 1, 0, 0, 0), some (.aload_n 0, 1, 0, 0, 0), some (.iload 4, 2, 0, 0, 0), none, some (.iconst 3, 1, 0, 0, 0), some (.iadd, 1, 0, 0, 0), some (.iaload, 1, 0, 0, 0), some (.aload_n 0, 1, 0, 0, 0), some (.iload 4, 2, 0, 0, 0), none, some (.iconst 4, 1, 0, 0, 0), some (.iadd, 1, 0, 0, 0), some (.iaload, 1, 0, 0, 0), some (.i2l, 1, 0, 0, 0), some (.bipush 32, 2, 0, 0, 0), none, some (.lshl, 1, 0, 0, 0), some (.aload_n 0, 1, 0, 0, 0), some (.iload 4, 2, 0, 0, 0), none, some (.iconst 5, 1, 0, 0, 0), some (.iadd, 1, 0, 0, 0), some (.iaload, 1, 0, 0, 0), some (.i2l, 1, 0, 0, 0), some (.ldc2_w 87, 3, 8, 0, 317), none, none, some (.land, 1, 0, 0, 0), some (.lor, 1, 0, 0, 0), some (.invokevirtual 92, 3, 122, 905, 319), none, none, some (.aload_n 2, 1, 0, 0, 0), some (.invokevirtual 83, 3, 118, 901, 316), none, none, some (.iload 5, 2, 0, 0, 0), none, some (.if_icmp .eq 5, 3, 293, 0, 0), none, none, some (.iconst 0, 1, 0, 0, 0), some (.ireturn, 1, 0, 0, 0), some (.goto 1119, 3, 1412, 0, 0), none, none, some (.aload_n 1, 1, 0, 0, 0), some (.aload_n 0, 1, 0, 0, 0), some (.iload 4, 2, 0, 0, 0), none, some (.iconst 1, 1, 0, 0, 0), some (.iadd, 1, 0, 0, 0), some (.iaload, 1, 0, 0, 0), some (.aload_n 0, 1, 0, 0, 0), some (.iload 4, 2, 0, 0, 0), none, some (.iconst 2, 1, 0, 0, 0), some (.iadd, 1, 0, 0, 0), some (.iaload, 1, 0, 0, 0), some (.aload_n 0, 1, 0, 0, 0), some (.iload 4, 2, 0, 0, 0), none, some (.iconst 3, 1, 0, 0, 0), some (.iadd, 1, 0, 0, 0), some (.iaload, 1, 0, 0, 0), some (.aload_n 3, 1, 0, 0, 0), some (.invokestatic 93, 3, 29, 5, 320), none, none, some (.istore 5, 2, 0, 0, 0), none, some (.aload_n 2, 1, 0, 0, 0), some (.aload_n 0, 1, 0, 0, 0), some (.iload 4, 2, 0, 0, 0), none, some (.iconst 1, 1, 0, 0, 0), some (.iadd, 1, 0, 0, 0), some (.iaload, 1, 0, 0, 0), some (.aload_n 0, 1, 0, 0, 0), some (.iload 4, 2, 0, 0, 0), none, some (.iconst 2, 1, 0, 0, 0), some (.iadd, 1, 0, 0, 0), some (.iaload, 1, 0, 0, 0), some (.aload_n 0, 1, 0, 0, 0), some (.iload 4, 2, 0, 0, 0), none, some (.iconst 3, 1, 0, 0, 0), some (.iadd, 1, 0, 0, 0), some (.iaload, 1, 0, 0, 0), some (.invokevirtual 96, 3, 124, 904, 321), none, none, some (.lstore 6, 2, 0, 0, 0), none, some (.aload_n 2, 1, 0, 0, 0), some (.invokevirtual 83, 3, 118, 901, 316), none, none, some (.iload 5, 2, 0, 0, 0), none, some (.if_icmp .eq 5, 3, 356, 0, 0), none, none, some (.iconst 0, 1, 0, 0, 0), some (.ireturn, 1, 0, 0, 0), some (.iload 5, 2, 0, 0, 0), none, some (.ifCond .ne 14, 3, 372, 0, 0), none, none, some (.aload_n 3, 1, 0, 0, 0), some (.iconst 0, 1, 0, 0, 0), some (.laload, 1, 0, 0, 0), some (.lload 6, 2, 0, 0, 0), none, some (.lcmp, 1, 0, 0, 0), some (.ifCond .eq 5, 3, 372, 0, 0), none, none, some (.iconst 0, 1, 0, 0, 0), some (.ireturn, 1, 0, 0, 0), some (.goto 1040, 3, 1412, 0, 0), none, none, some (.aload_n 1, 1, 0, 0, 0), some (.aload_n 0, 1, 0, 0, 0), some (.iload 4, 2, 0, 0, 0), none, some (.iconst 1, 1, 0, 0, 0), some (.iadd, 1, 0, 0, 0), some (.iaload, 1, 0, 0, 0), some (.aload_n 0, 1, 0, 0, 0), some (.iload 4, 2, 0, 0, 0), none, some (.iconst 2, 1, 0, 0, 0), some (.iadd, 1, 0, 0, 0), some (.iaload, 1, 0, 0, 0), some (.invokevirtual 97, 3, 17, 103, 322), none, none, some (.aload_n 2, 1, 0, 0, 0), some (.aload_n 0, 1, 0, 0, 0), some (.iload 4, 2, 0, 0, 0), none, some (.iconst 1, 1, 0, 0, 0), some (.iadd, 1, 0, 0, 0), some (.iaload, 1, 0, 0, 0), some (.aload_n 0, 1, 0, 0, 0), some (.iload 4, 2, 0, 0, 0), none, some (.iconst 2, 1, 0, 0, 0), some (.iadd, 1, 0, 0, 0), some (.iaload, 1, 0, 0, 0), some (.invokevirtual 100, 3, 126, 903, 323), none, none, some (.if_icmp .eq 1005, 3, 1412, 0, 0), none, none, some (.iconst 0, 1, 0, 0, 0), some (.ireturn, 1, 0, 0, 0), some (.aload_n 1, 1, 0, 0, 0), some (.aload_n 0, 1, 0, 0, 0), some (.iload 4, 2, 0, 0, 0), none, some (.iconst 1, 1, 0, 0, 0), some (.iadd, 1, 0, 0, 0), some (.iaload, 1, 0, 0, 0), some (.aload_n 0, 1, 0, 0, 0), some (.iload 4, 2, 0, 0, 0), none, some (.iconst 2, 1, 0, 0, 0), some (.iadd, 1, 0, 0, 0), some (.iaload, 1, 0, 0, 0), some (.aload_n 0, 1, 0, 0, 0), some (.iload 4, 2, 0, 0, 0), none, some (.iconst 3, 1, 0, 0, 0), some (.iadd, 1, 0, 0, 0), some (.iaload, 1, 0, 0, 0), some (.aload_n 0, 1, 0, 0, 0), some (.iload 4, 2, 0, 0, 0), none, some (.iconst 4, 1, 0, 0, 0), some (.iadd, 1, 0, 0, 0), some (.iaload, 1, 0, 0, 0), some (.aload_n 0, 1, 0, 0, 0), some (.iload 4, 2, 0, 0, 0), none, some (.iconst 5, 1, 0, 0, 0), some (.iadd, 1, 0, 0, 0), some (.iaload, 1, 0, 0, 0), some (.aload_n 3, 1, 0, 0, 0), some (.invokestatic 101, 3, 32, 7, 324), none, none, some (.istore 5, 2, 0, 0, 0), none, some (.aload_n 2, 1, 0, 0, 0), some (.aload_n 0, 1, 0, 0, 0), some (.iload 4, 2, 0, 0, 0), none, some (.iconst 1, 1, 0, 0, 0), some (.iadd, 1, 0, 0, 0), some (.iaload, 1, 0, 0, 0), some (.aload_n 0, 1, 0, 0, 0), some (.iload 4, 2, 0, 0, 0), none, some (.iconst 2, 1, 0, 0, 0), some (.iadd, 1, 0, 0, 0), some (.iaload, 1, 0, 0, 0), some (.aload_n 0, 1, 0, 0, 0), some (.iload 4, 2, 0, 0, 0), none, some (.iconst 3, 1, 0, 0, 0), some (.iadd, 1, 0, 0, 0), some (.iaload, 1, 0, 0, 0), some (.aload_n 0, 1, 0, 0, 0), some (.iload 4, 2, 0, 0, 0), none, some (.iconst 4, 1, 0, 0, 0), some (.iadd, 1, 0, 0, 0), some (.iaload, 1, 0, 0, 0), some (.aload_n 0, 1, 0, 0, 0), some (.iload 4, 2, 0, 0, 0), none, some (.iconst 5, 1, 0, 0, 0), some (.iadd, 1, 0, 0, 0), some (.iaload, 1, 0, 0, 0), some (.invokevirtual 104, 3, 127, 906, 325), none, none, some (.istore 6, 2, 0, 0, 0), none, some (.aload_n 2, 1, 0, 0, 0), some (.invokevirtual 83, 3, 118, 901, 316), none, none, some (.iload 5, 2, 0, 0, 0), none, some (.if_icmp .eq 5, 3, 496, 0, 0), none, none, some (.iconst 0, 1, 0, 0, 0), some (.ireturn, 1, 0, 0, 0), some (.iload 5, 2, 0, 0, 0), none, some (.ifCond .ne 15, 3, 513, 0, 0), none, none, some (.aload_n 3, 1, 0, 0, 0), some (.iconst 0, 1, 0, 0, 0), some (.laload, 1, 0, 0, 0), some (.iload 6, 2, 0, 0, 0), none, some (.i2l, 1, 0, 0, 0), some (.lcmp, 1, 0, 0, 0), some (.ifCond .eq 5, 3, 513, 0, 0), none, none, some (.iconst 0, 1, 0, 0, 0), some (.ireturn, 1, 0, 0, 0), some (.goto 899, 3, 1412, 0, 0), none, none, some (.aload_n 1, 1, 0, 0, 0), some (.aload_n 0, 1, 0, 0, 0), some (.iload 4, 2, 0, 0, 0), none, some (.iconst 1, 1, 0, 0, 0), some (.iadd, 1, 0, 0, 0), some (.iaload, 1, 0, 0, 0), some (.aload_n 0, 1, 0, 0, 0), some (.iload 4, 2, 0, 0, 0), none, some (.iconst 2, 1, 0, 0, 0), some (.iadd, 1, 0, 0, 0), some (.iaload, 1, 0, 0, 0), some (.aload_n 0, 1, 0, 0, 0), some (.iload 4, 2, 0, 0, 0), none, some (.iconst 3, 1, 0, 0, 0), some (.iadd, 1, 0, 0, 0), some (.iaload, 1, 0, 0, 0), some (.aload_n 3, 1, 0, 0, 0), some (.invokestatic 105, 3, 42, 5, 326), none, none, some (.istore 5, 2, 0, 0, 0), none, some (.aload_n 2, 1, 0, 0, 0), some (.aload_n 0, 1, 0, 0, 0), some (.iload 4, 2, 0, 0, 0), none, some (.iconst 1, 1, 0, 0, 0), some (.iadd, 1, 0, 0, 0), some (.iaload, 1, 0, 0, 0), some (.aload_n 0, 1, 0, 0, 0), some (.iload 4, 2, 0, 0, 0), none, some (.iconst 2, 1, 0, 0, 0), some (.iadd, 1, 0, 0, 0), some (.iaload, 1, 0, 0, 0), some (.aload_n 0, 1, 0, 0, 0), some (.iload 4, 2, 0, 0, 0), none, some (.iconst 3, 1, 0, 0, 0), some (.iadd, 1, 0, 0, 0), some (.iaload, 1, 0, 0, 0), some (.invokevirtual 107, 3, 141, 904, 327), none, none, some (.istore 6, 2, 0, 0, 0), none, some (.aload_n 2, 1, 0, 0, 0), some (.invokevirtual 83, 3, 118, 901, 316), none, none, some (.iload 5, 2, 0, 0, 0), none, some (.if_icmp .eq 5, 3, 576, 0, 0), none, none, some (.iconst 0, 1, 0, 0, 0), some (.ireturn, 1, 0, 0, 0), some (.iload 5, 2, 0, 0, 0), none, some (.ifCond .ne 15, 3, 593, 0, 0), none, none, some (.aload_n 3, 1, 0, 0, 0), some (.iconst 0, 1, 0, 0, 0), some (.laload, 1, 0, 0, 0), some (.iload 6, 2, 0, 0, 0), none, some (.i2l, 1, 0, 0, 0), some (.lcmp, 1, 0, 0, 0), some (.ifCond .eq 5, 3, 593, 0, 0), none, none, some (.iconst 0, 1, 0, 0, 0), some (.ireturn, 1, 0, 0, 0), some (.goto 819, 3, 1412, 0, 0), none, none, some (.aload_n 1, 1, 0, 0, 0), some (.aload_n 0, 1, 0, 0, 0), some (.iload 4, 2, 0, 0, 0), none, some (.iconst 1, 1, 0, 0, 0), some (.iadd, 1, 0, 0, 0), some (.iaload, 1, 0, 0, 0), some (.aload_n 0, 1, 0, 0, 0), some (.iload 4, 2, 0, 0, 0), none, some (.iconst 2, 1, 0, 0, 0), some (.iadd, 1, 0, 0, 0), some (.iaload, 1, 0, 0, 0), some (.invokestatic 108, 3, 44, 3, 328), none, none, some (.istore 5, 2, 0, 0, 0), none, some (.aload_n 2, 1, 0, 0, 0), some (.aload_n 0, 1, 0, 0, 0), some (.iload 4, 2, 0, 0, 0), none, some (.iconst 1, 1, 0, 0, 0), some (.iadd, 1, 0, 0, 0), some (.iaload, 1, 0, 0, 0), some (.aload_n 0, 1, 0, 0, 0), some (.iload 4, 2, 0, 0, 0), none, some (.iconst 2, 1, 0, 0, 0), some (.iadd, 1, 0, 0, 0), some (.iaload, 1, 0, 0, 0), some (.invokevirtual 111, 3, 142, 903, 329), none, none, some (.aload_n 2, 1, 0, 0, 0), some (.invokevirtual 83, 3, 118, 901, 316), none, none, some (.iload 5, 2, 0, 0, 0), none, some (.if_icmp .eq 5, 3, 641, 0, 0), none, none, some (.iconst 0, 1, 0, 0, 0), some (.ireturn, 1, 0, 0, 0), some (.goto 771, 3, 1412, 0, 0), none, none, some (.aload_n 1, 1, 0, 0, 0), some (.aload_n 0, 1, 0, 0, 0), some (.iload 4, 2, 0, 0, 0), none, some (.iconst 1, 1, 0, 0, 0), some (.iadd, 1, 0, 0, 0), some (.iaload, 1, 0, 0, 0), some (.aload_n 3, 1, 0, 0, 0), some (.invokestatic 112, 3, 46, 3, 330), none, none, some (.istore 5, 2, 0, 0, 0), none, some (.aload_n 2, 1, 0, 0, 0), some (.aload_n 0, 1, 0, 0, 0), some (.iload 4, 2, 0, 0, 0), none, some (.iconst 1, 1, 0, 0, 0), some (.iadd, 1, 0, 0, 0), some (.iaload, 1, 0, 0, 0), some (.invokevirtual 115, 3, 143, 902, 331), none, none, some (.istore 6, 2, 0, 0, 0), none, some (.aload_n 2, 1, 0, 0, 0), some (.invokevirtual 83, 3, 118, 901, 316), none, none, some (.iload 5, 2, 0, 0, 0), none, some (.if_icmp .eq 5, 3, 680, 0, 0), none, none, some (.iconst 0, 1, 0, 0, 0), some (.ireturn, 1, 0, 0, 0), some (.iload 5, 2, 0, 0, 0), none, some (.ifCond .ne 15, 3, 697, 0, 0), none, none, some (.aload_n 3, 1, 0, 0, 0), some (.iconst 0, 1, 0, 0, 0), some (.laload, 1, 0, 0, 0), some (.iload 6, 2, 0, 0, 0), none, some (.i2l, 1, 0, 0, 0), some (.lcmp, 1, 0, 0, 0), some (.ifCond .eq 5, 3, 697, 0, 0), none, none, some (.iconst 0, 1, 0, 0, 0), some (.ireturn, 1, 0, 0, 0), some (.goto 715, 3, 1412, 0, 0), none, none, some (.aload_n 1, 1, 0, 0, 0), some (.aload_n 0, 1, 0, 0, 0), some (.iload 4, 2, 0, 0, 0), none, some (.iconst 1, 1, 0, 0, 0), some (.iadd, 1, 0, 0, 0), some (.iaload, 1, 0, 0, 0), some (.aload_n 0, 1, 0, 0, 0), some (.iload 4, 2, 0, 0, 0), none, some (.iconst 2, 1, 0, 0, 0), some (.iadd, 1, 0, 0, 0), some (.iaload, 1, 0, 0, 0), some (.aload_n 3, 1, 0, 0, 0), some (.invokestatic 116, 3, 55, 4, 332), none, none, some (.istore 5, 2, 0, 0, 0), none, some (.aload_n 2, 1, 0, 0, 0), some (.aload_n 0, 1, 0, 0, 0), some (.iload 4, 2, 0, 0, 0), none, some (.iconst 1, 1, 0, 0, 0), some (.iadd, 1, 0, 0, 0), some (.iaload, 1, 0, 0, 0), some (.aload_n 0, 1, 0, 0, 0), some (.iload 4, 2, 0, 0, 0), none, some (.iconst 2, 1, 0, 0, 0), some (.iadd, 1, 0, 0, 0), some (.iaload, 1, 0, 0, 0), some (.invokevirtual 119, 3, 157, 903, 333), none, none, some (.istore 6, 2, 0, 0, 0), none, some (.aload_n 2, 1, 0, 0, 0), some (.invokevirtual 83, 3, 118, 901, 316), none, none, some (.iload 5, 2, 0, 0, 0), none, some (.if_icmp .eq 5, 3, 748, 0, 0), none, none, some (.iconst 0, 1, 0, 0, 0), some (.ireturn, 1, 0, 0, 0), some (.iload 5, 2, 0, 0, 0), none, some (.ifCond .ne 15, 3, 765, 0, 0), none, none, some (.aload_n 3, 1, 0, 0, 0), some (.iconst 0, 1, 0, 0, 0), some (.laload, 1, 0, 0, 0), some (.iload 6, 2, 0, 0, 0), none, some (.i2l, 1, 0, 0, 0), some (.lcmp, 1, 0, 0, 0), some (.ifCond .eq 5, 3, 765, 0, 0), none, none, some (.iconst 0, 1, 0, 0, 0), some (.ireturn, 1, 0, 0, 0), some (.goto 647, 3, 1412, 0, 0), none, none, some (.aload_n 1, 1, 0, 0, 0), some (.aload_n 0, 1, 0, 0, 0), some (.iload 4, 2, 0, 0, 0), none, some (.iconst 1, 1, 0, 0, 0), some (.iadd, 1, 0, 0, 0), some (.iaload, 1, 0, 0, 0), some (.aload_n 0, 1, 0, 0, 0), some (.iload 4, 2, 0, 0, 0), none, some (.iconst 2, 1, 0, 0, 0), some (.iadd, 1, 0, 0, 0), some (.iaload, 1, 0, 0, 0), some (.aload_n 3, 1, 0, 0, 0), some (.invokestatic 120, 3, 78, 4, 334), none, none, some (.istore 5, 2, 0, 0, 0), none, some (.aload_n 2, 1, 0, 0, 0), some (.aload_n 0, 1, 0, 0, 0), some (.iload 4, 2, 0, 0, 0), none, some (.iconst 1, 1, 0, 0, 0), some (.iadd, 1, 0, 0, 0), some (.iaload, 1, 0, 0, 0), some (.aload_n 0, 1, 0, 0, 0), some (.iload 4, 2, 0, 0, 0), none, some (.iconst 2, 1, 0, 0, 0), some (.iadd, 1, 0, 0, 0), some (.iaload, 1, 0, 0, 0), some (.invokevirtual 122, 3, 168, 903, 335), none, none, some (.istore 6, 2, 0, 0, 0), none, some (.aload_n 2, 1, 0, 0, 0), some (.invokevirtual 83, 3, 118, 901, 316), none, none, some (.iload 5, 2, 0, 0, 0), none, some (.if_icmp .eq 5, 3, 816, 0, 0), none, none, some (.iconst 0, 1, 0, 0, 0), some (.ireturn, 1, 0, 0, 0), some (.iload 5, 2, 0, 0, 0), none, some (.ifCond .ne 15, 3, 833, 0, 0), none, none, some (.aload_n 3, 1, 0, 0, 0), some (.iconst 0, 1, 0, 0, 0), some (.laload, 1, 0, 0, 0), some (.iload 6, 2, 0, 0, 0), none, some (.i2l, 1, 0, 0, 0), some (.lcmp, 1, 0, 0, 0), some (.ifCond .eq 5, 3, 833, 0, 0), none, none, some (.iconst 0, 1, 0, 0, 0), some (.ireturn, 1, 0, 0, 0), some (.goto 579, 3, 1412, 0, 0), none, none, some (.aload_n 1, 1, 0, 0, 0), some (.aload_n 0, 1, 0, 0, 0), some (.iload 4, 2, 0, 0, 0), none, some (.iconst 1, 1, 0, 0, 0), some (.iadd, 1, 0, 0, 0), some (.iaload, 1, 0, 0, 0), some (.aload_n 0, 1, 0, 0, 0), some (.iload 4, 2, 0, 0, 0), none, some (.iconst 2, 1, 0, 0, 0), some (.iadd, 1, 0, 0, 0), some (.iaload, 1, 0, 0, 0), some (.aload_n 0, 1, 0, 0, 0), some (.iload 4, 2, 0, 0, 0), none, some (.iconst 3, 1, 0, 0, 0), some (.iadd, 1, 0, 0, 0), some (.iaload, 1, 0, 0, 0), some (.aload_n 3, 1, 0, 0, 0), some (.invokestatic 123, 3, 80, 5, 336), none, none, some (.istore 5, 2, 0, 0, 0), none, some (.aload_n 2, 1, 0, 0, 0), some (.aload_n 0, 1, 0, 0, 0), some (.iload 4, 2, 0, 0, 0), none, some (.iconst 1, 1, 0, 0, 0), some (.iadd, 1, 0, 0, 0), some (.iaload, 1, 0, 0, 0), some (.aload_n 0, 1, 0, 0, 0), some (.iload 4, 2, 0, 0, 0), none, some (.iconst 2, 1, 0, 0, 0), some (.iadd, 1, 0, 0, 0), some (.iaload, 1, 0, 0, 0), some (.aload_n 0, 1, 0, 0, 0), some (.iload 4, 2, 0, 0, 0), none, some (.iconst 3, 1, 0, 0, 0), some (.iadd, 1, 0, 0, 0), some (.iaload, 1, 0, 0, 0), some (.invokevirtual 125, 3, 171, 904, 337), none, none, some (.istore 6, 2, 0, 0, 0), none, some (.aload_n 2, 1, 0, 0, 0), some (.invokevirtual 83, 3, 118, 901, 316), none, none, some (.iload 5, 2, 0, 0, 0), none, some (.if_icmp .eq 5, 3, 896, 0, 0), none, none, some (.iconst 0, 1, 0, 0, 0), some (.ireturn, 1, 0, 0, 0), some (.iload 5, 2, 0, 0, 0), none, some (.ifCond .ne 15, 3, 913, 0, 0), none, none, some (.aload_n 3, 1, 0, 0, 0), some (.iconst 0, 1, 0, 0, 0), some (.laload, 1, 0, 0, 0), some (.iload 6, 2, 0, 0, 0), none, some (.i2l, 1, 0, 0, 0), some (.lcmp, 1, 0, 0, 0), some (.ifCond .eq 5, 3, 913, 0, 0), none, none, some (.iconst 0, 1, 0, 0, 0), some (.ireturn, 1, 0, 0, 0), some (.goto 499, 3, 1412, 0, 0), none, none, some (.aload_n 1, 1, 0, 0, 0), some (.aload_n 0, 1, 0, 0, 0), some (.iload 4, 2, 0, 0, 0), none, some (.iconst 1, 1, 0, 0, 0), some (.iadd, 1, 0, 0, 0), some (.iaload, 1, 0, 0, 0), some (.aload_n 3, 1, 0, 0, 0), some (.invokestatic 126, 3, 83, 3, 338), none, none, some (.istore 5, 2, 0, 0, 0), none, some (.aload_n 2, 1, 0, 0, 0), some (.aload_n 0, 1, 0, 0, 0), some (.iload 4, 2, 0, 0, 0), none, some (.iconst 1, 1, 0, 0, 0), some (.iadd, 1, 0, 0, 0), some (.iaload, 1, 0, 0, 0), some (.invokevirtual 128, 3, 172, 902, 339), none, none, some (.istore 6, 2, 0, 0, 0), none, some (.aload_n 2, 1, 0, 0, 0), some (.invokevirtual 83, 3, 118, 901, 316), none, none, some (.iload 5, 2, 0, 0, 0), none, some (.if_icmp .eq 5, 3, 952, 0, 0), none, none, some (.iconst 0, 1, 0, 0, 0), some (.ireturn, 1, 0, 0, 0), some (.iload 5, 2, 0, 0, 0), none, some (.ifCond .ne 15, 3, 969, 0, 0), none, none, some (.aload_n 3, 1, 0, 0, 0), some (.iconst 0, 1, 0, 0, 0), some (.laload, 1, 0, 0, 0), some (.iload 6, 2, 0, 0, 0), none, some (.i2l, 1, 0, 0, 0), some (.lcmp, 1, 0, 0, 0), some (.ifCond .eq 5, 3, 969, 0, 0), none, none, some (.iconst 0, 1, 0, 0, 0), some (.ireturn, 1, 0, 0, 0), some (.goto 443, 3, 1412, 0, 0), none, none, some (.aload_n 1, 1, 0, 0, 0), some (.aload_n 0, 1, 0, 0, 0), some (.iload 4, 2, 0, 0, 0), none, some (.iconst 1, 1, 0, 0, 0), some (.iadd, 1, 0, 0, 0), some (.iaload, 1, 0, 0, 0), some (.aload_n 0, 1, 0, 0, 0), some (.iload 4, 2, 0, 0, 0), none, some (.iconst 2, 1, 0, 0, 0), some (.iadd, 1, 0, 0, 0), some (.iaload, 1, 0, 0, 0), some (.aload_n 3, 1, 0, 0, 0), some (.invokestatic 129, 3, 91, 4, 340), none, none, some (.istore 5, 2, 0, 0, 0), none, some (.aload_n 2, 1, 0, 0, 0), some (.aload_n 0, 1, 0, 0, 0), some (.iload 4, 2, 0, 0, 0), none, some (.iconst 1, 1, 0, 0, 0), some (.iadd, 1, 0, 0, 0), some (.iaload, 1, 0, 0, 0), some (.aload_n 0, 1, 0, 0, 0), some (.iload 4, 2, 0, 0, 0), none, some (.iconst 2, 1, 0, 0, 0), some (.iadd, 1, 0, 0, 0), some (.iaload, 1, 0, 0, 0), some (.invokevirtual 131, 3, 177, 903, 341), none, none, some (.istore 6, 2, 0, 0, 0), none, some (.aload_n 2, 1, 0, 0, 0), some (.invokevirtual 83, 3, 118, 901, 316), none, none, some (.iload 5, 2, 0, 0, 0), none, some (.if_icmp .eq 5, 3, 1020, 0, 0), none, none, some (.iconst 0, 1, 0, 0, 0), some (.ireturn, 1, 0, 0, 0), some (.iload 5, 2, 0, 0, 0), none, some (.ifCond .ne 15, 3, 1037, 0, 0), none, none, some (.aload_n 3, 1, 0, 0, 0), some (.iconst 0, 1, 0, 0, 0), some (.laload, 1, 0, 0, 0), some (.iload 6, 2, 0, 0, 0), none, some (.i2l, 1, 0, 0, 0), some (.lcmp, 1, 0, 0, 0), some (.ifCond .eq 5, 3, 1037, 0, 0), none, none, some (.iconst 0, 1, 0, 0, 0), some (.ireturn, 1, 0, 0, 0), some (.goto 375, 3, 1412, 0, 0), none, none, some (.aload_n 1, 1, 0, 0, 0), some (.aload_n 0, 1, 0, 0, 0), some (.iload 4, 2, 0, 0, 0), none, some (.iconst 1, 1, 0, 0, 0), some (.iadd, 1, 0, 0, 0), some (.iaload, 1, 0, 0, 0), some (.aload_n 0, 1, 0, 0, 0), some (.iload 4, 2, 0, 0, 0), none, some (.iconst 2, 1, 0, 0, 0), some (.iadd, 1, 0, 0, 0), some (.iaload, 1, 0, 0, 0), some (.aload_n 3, 1, 0, 0, 0), some (.invokestatic 132, 3, 96, 4, 342), none, none, some (.istore 5, 2, 0, 0, 0), none, some (.aload_n 2, 1, 0, 0, 0), some (.aload_n 0, 1, 0, 0, 0), some (.iload 4, 2, 0, 0, 0), none, some (.iconst 1, 1, 0, 0, 0), some (.iadd, 1, 0, 0, 0), some (.iaload, 1, 0, 0, 0), some (.aload_n 0, 1, 0, 0, 0), some (.iload 4, 2, 0, 0, 0), none, some (.iconst 2, 1, 0, 0, 0), some (.iadd, 1, 0, 0, 0), some (.iaload, 1, 0, 0, 0), some (.invokevirtual 134, 3, 178, 903, 343), none, none, some (.istore 6, 2, 0, 0, 0), none, some (.aload_n 2, 1, 0, 0, 0), some (.invokevirtual 83, 3, 118, 901, 316), none, none, some (.iload 5, 2, 0, 0, 0), none, some (.if_icmp .eq 5, 3, 1088, 0, 0), none, none, some (.iconst 0, 1, 0, 0, 0), some (.ireturn, 1, 0, 0, 0), some (.iload 5, 2, 0, 0, 0), none, some (.ifCond .ne 15, 3, 1105, 0, 0), none, none, some (.aload_n 3, 1, 0, 0, 0), some (.iconst 0, 1, 0, 0, 0), some (.laload, 1, 0, 0, 0), some (.iload 6, 2, 0, 0, 0), none, some (.i2l, 1, 0, 0, 0), some (.lcmp, 1, 0, 0, 0), some (.ifCond .eq 5, 3, 1105, 0, 0), none, none, some (.iconst 0, 1, 0, 0, 0), some (.ireturn, 1, 0, 0, 0), some (.goto 307, 3, 1412, 0, 0), none, none, some (.aload_n 1, 1, 0, 0, 0), some (.aload_n 0, 1, 0, 0, 0), some (.iload 4, 2, 0, 0, 0), none, some (.iconst 1, 1, 0, 0, 0), some (.iadd, 1, 0, 0, 0), some (.iaload, 1, 0, 0, 0), some (.aload_n 0, 1, 0, 0, 0), some (.iload 4, 2, 0, 0, 0), none, some (.iconst 2, 1, 0, 0, 0), some (.iadd, 1, 0, 0, 0), some (.iaload, 1, 0, 0, 0), some (.aload_n 0, 1, 0, 0, 0), some (.iload 4, 2, 0, 0, 0), none, some (.iconst 3, 1, 0, 0, 0), some (.iadd, 1, 0, 0, 0), some (.iaload, 1, 0, 0, 0), some (.aload_n 3, 1, 0, 0, 0), some (.invokestatic 135, 3, 98, 5, 344), none, none, some (.istore 5, 2, 0, 0, 0), none, some (.aload_n 2, 1, 0, 0, 0), some (.aload_n 0, 1, 0, 0, 0), some (.iload 4, 2, 0, 0, 0), none, some (.iconst 1, 1, 0, 0, 0), some (.iadd, 1, 0, 0, 0), some (.iaload, 1, 0, 0, 0), some (.aload_n 0, 1, 0, 0, 0), some (.iload 4, 2, 0, 0, 0), none, some (.iconst 2, 1, 0, 0, 0), some (.iadd, 1, 0, 0, 0), some (.iaload, 1, 0, 0, 0), some (.aload_n 0, 1, 0, 0, 0), some (.iload 4, 2, 0, 0, 0), none, some (.iconst 3, 1, 0, 0, 0), some (.iadd, 1, 0, 0, 0), some (.iaload, 1, 0, 0, 0), some (.invokevirtual 137, 3, 179, 904, 345), none, none, some (.istore 6, 2, 0, 0, 0), none, some (.aload_n 2, 1, 0, 0, 0), some (.invokevirtual 83, 3, 118, 901, 316), none, none, some (.iload 5, 2, 0, 0, 0), none, some (.if_icmp .eq 5, 3, 1168, 0, 0), none, none, some (.iconst 0, 1, 0, 0, 0), some (.ireturn, 1, 0, 0, 0), some (.iload 5, 2, 0, 0, 0), none, some (.ifCond .ne 15, 3, 1185, 0, 0), none, none, some (.aload_n 3, 1, 0, 0, 0), some (.iconst 0, 1, 0, 0, 0), some (.laload, 1, 0, 0, 0), some (.iload 6, 2, 0, 0, 0), none, some (.i2l, 1, 0, 0, 0), some (.lcmp, 1, 0, 0, 0), some (.ifCond .eq 5, 3, 1185, 0, 0), none, none, some (.iconst 0, 1, 0, 0, 0), some (.ireturn, 1, 0, 0, 0), some (.goto 227, 3, 1412, 0, 0), none, none, some (.aload_n 1, 1, 0, 0, 0), some (.aload_n 0, 1, 0, 0, 0), some (.iload 4, 2, 0, 0, 0), none, some (.iconst 1, 1, 0, 0, 0), some (.iadd, 1, 0, 0, 0), some (.iaload, 1, 0, 0, 0), some (.aload_n 0, 1, 0, 0, 0), some (.iload 4, 2, 0, 0, 0), none, some (.iconst 2, 1, 0, 0, 0), some (.iadd, 1, 0, 0, 0), some (.iaload, 1, 0, 0, 0), some (.aload_n 3, 1, 0, 0, 0), some (.invokestatic 138, 3, 104, 4, 346), none, none, some (.istore 5, 2, 0, 0, 0), none, some (.aload_n 2, 1, 0, 0, 0), some (.aload_n 0, 1, 0, 0, 0), some (.iload 4, 2, 0, 0, 0), none, some (.iconst 1, 1, 0, 0, 0), some (.iadd, 1, 0, 0, 0), some (.iaload, 1, 0, 0, 0), some (.aload_n 0, 1, 0, 0, 0), some (.iload 4, 2, 0, 0, 0), none, some (.iconst 2, 1, 0, 0, 0), some (.iadd, 1, 0, 0, 0), some (.iaload, 1, 0, 0, 0), some (.invokevirtual 140, 3, 181, 903, 347), none, none, some (.istore 6, 2, 0, 0, 0), none, some (.aload_n 2, 1, 0, 0, 0), some (.invokevirtual 83, 3, 118, 901, 316), none, none, some (.iload 5, 2, 0, 0, 0), none, some (.if_icmp .eq 5, 3, 1236, 0, 0), none, none, some (.iconst 0, 1, 0, 0, 0), some (.ireturn, 1, 0, 0, 0), some (.iload 5, 2, 0, 0, 0), none, some (.ifCond .ne 15, 3, 1253, 0, 0), none, none, some (.aload_n 3, 1, 0, 0, 0), some (.iconst 0, 1, 0, 0, 0), some (.laload, 1, 0, 0, 0), some (.iload 6, 2, 0, 0, 0), none, some (.i2l, 1, 0, 0, 0), some (.lcmp, 1, 0, 0, 0), some (.ifCond .eq 5, 3, 1253, 0, 0), none, none, some (.iconst 0, 1, 0, 0, 0), some (.ireturn, 1, 0, 0, 0), some (.goto 159, 3, 1412, 0, 0), none, none, some (.aload_n 1, 1, 0, 0, 0), some (.aload_n 0, 1, 0, 0, 0), some (.iload 4, 2, 0, 0, 0), none, some (.iconst 1, 1, 0, 0, 0), some (.iadd, 1, 0, 0, 0), some (.iaload, 1, 0, 0, 0), some (.invokevirtual 141, 3, 18, 102, 348), none, none, some (.aload_n 2, 1, 0, 0, 0), some (.aload_n 0, 1, 0, 0, 0), some (.iload 4, 2, 0, 0, 0), none, some (.iconst 1, 1, 0, 0, 0), some (.iadd, 1, 0, 0, 0), some (.iaload, 1, 0, 0, 0), some (.invokevirtual 144, 3, 182, 902, 349), none, none, some (.if_icmp .eq 136, 3, 1412, 0, 0), none, none, some (.iconst 0, 1, 0, 0, 0), some (.ireturn, 1, 0, 0, 0), some (.aload_n 1, 1, 0, 0, 0), some (.aload_n 0, 1, 0, 0, 0), some (.iload 4, 2, 0, 0, 0), none, some (.iconst 1, 1, 0, 0, 0), some (.iadd, 1, 0, 0, 0), some (.iaload, 1, 0, 0, 0), some (.aload_n 0, 1, 0, 0, 0), some (.iload 4, 2, 0, 0, 0), none, some (.iconst 2, 1, 0, 0, 0), some (.iadd, 1, 0, 0, 0), some (.iaload, 1, 0, 0, 0), some (.aload_n 3, 1, 0, 0, 0), some (.invokestatic 145, 3, 107, 4, 350), none, none, some (.istore 5, 2, 0, 0, 0), none, some (.aload_n 2, 1, 0, 0, 0), some (.aload_n 0, 1, 0, 0, 0), some (.iload 4, 2, 0, 0, 0), none, some (.iconst 1, 1, 0, 0, 0), some (.iadd, 1, 0, 0, 0), some (.iaload, 1, 0, 0, 0), some (.aload_n 0, 1, 0, 0, 0), some (.iload 4, 2, 0, 0, 0), none, some (.iconst 2, 1, 0, 0, 0), some (.iadd, 1, 0, 0, 0), some (.iaload, 1, 0, 0, 0), some (.invokevirtual 147, 3, 183, 903, 351), none, none, some (.istore 6, 2, 0, 0, 0), none, some (.aload_n 2, 1, 0, 0, 0), some (.invokevirtual 83, 3, 118, 901, 316), none, none, some (.iload 5, 2, 0, 0, 0), none, some (.if_icmp .eq 5, 3, 1329, 0, 0), none, none, some (.iconst 0, 1, 0, 0, 0), some (.ireturn, 1, 0, 0, 0), some (.iload 5, 2, 0, 0, 0), none, some (.ifCond .ne 22, 3, 1353, 0, 0), none, none, some (.aload_n 3, 1, 0, 0, 0), some (.iconst 0, 1, 0, 0, 0), some (.laload, 1, 0, 0, 0), some (.iload 6, 2, 0, 0, 0), none, some (.ifCond .eq 7, 3, 1346, 0, 0), none, none, some (.lconst 1, 1, 0, 0, 0), some (.goto 4, 3, 1347, 0, 0), none, none, some (.lconst 0, 1, 0, 0, 0), some (.lcmp, 1, 0, 0, 0), some (.ifCond .eq 5, 3, 1353, 0, 0), none, none, some (.iconst 0, 1, 0, 0, 0), some (.ireturn, 1, 0, 0, 0), some (.goto 59, 3, 1412, 0, 0), none, none, some (.aload_n 1, 1, 0, 0, 0), some (.aload_n 0, 1, 0, 0, 0), some (.iload 4, 2, 0, 0, 0), none, some (.iconst 1, 1, 0, 0, 0), some (.iadd, 1, 0, 0, 0), some (.iaload, 1, 0, 0, 0), some (.aload_n 3, 1, 0, 0, 0), some (.invokestatic 148, 3, 109, 3, 352), none, none, some (.istore 5, 2, 0, 0, 0), none, some (.aload_n 2, 1, 0, 0, 0), some (.aload_n 0, 1, 0, 0, 0), some (.iload 4, 2, 0, 0, 0), none, some (.iconst 1, 1, 0, 0, 0), some (.iadd, 1, 0, 0, 0), some (.iaload, 1, 0, 0, 0), some (.invokevirtual 150, 3, 184, 902, 353), none, none, some (.istore 6, 2, 0, 0, 0), none, some (.aload_n 2, 1, 0, 0, 0), some (.invokevirtual 83, 3, 118, 901, 316), none, none, some (.iload 5, 2, 0, 0, 0), none, some (.if_icmp .eq 5, 3, 1392, 0, 0), none, none, some (.iconst 0, 1, 0, 0, 0), some (.ireturn, 1, 0, 0, 0), some (.iload 5, 2, 0, 0, 0), none, some (.ifCond .ne 15, 3, 1409, 0, 0), none, none, some (.aload_n 3, 1, 0, 0, 0), some (.iconst 0, 1, 0, 0, 0), some (.laload, 1, 0, 0, 0), some (.iload 6, 2, 0, 0, 0), none, some (.i2l, 1, 0, 0, 0), some (.lcmp, 1, 0, 0, 0), some (.ifCond .eq 5, 3, 1409, 0, 0), none, none, some (.iconst 0, 1, 0, 0, 0), some (.ireturn, 1, 0, 0, 0), some (.goto 3, 3, 1412, 0, 0), none, none, some (.iinc 4 6, 3, 0, 0, 0), none, none, some (.goto (-1392), 3, 23, 0, 0), none, none, some (.iconst 1, 1, 0, 0, 0), some (.ireturn, 1, 0, 0, 0)]
/-- all methods, in the order of their numbers: code, locals, what is returned, handlers -/
def ax_prog : List ax_M := [
  (k_De_init, 2, 0, []),
  (k_Ma_init, 1, 0, []),
  (k_Pr_init, 1, 0, []),
  (k_Di_init, 1, 0, []),
  (k_Wh_init, 1, 0, []),
  (k_Wh_becomeJ, 6, 0, []),
  (k_Wh_clear, 1, 0, []),
  (k_Wh_widen, 2, 0, []),
  (k_Ar_copyOf, 3, 4, []),
  (k_Mt_min, 2, 1, []),
  (k_Ar_fillI, 5, 0, []),
  (k_Ar_rangeCheck, 3, 0, []),
  (k_Mt_abs, 2, 3, []),
  (k_Wh_trim, 2, 0, []),
  (k_Mi_init, 3, 0, []),
  (k_St_init, 3, 0, []),
  (k_Ro_init, 2, 0, []),
  (k_De_size, 3, 1, []),
  (k_De_character, 2, 1, []),
  (k_La_make, 5, 1, [(0, 7, 10, 9), (0, 7, 14, 10)]),
  (k_De_make, 5, 0, []),
  (k_De_matrix, 2, 4, []),
  (k_Ma_reset, 3, 0, []),
  (k_Ar_fillJ, 5, 0, []),
  (k_La_put, 7, 1, [(0, 9, 12, 9), (0, 9, 16, 10)]),
  (k_De_put, 7, 0, []),
  (k_De_matrixWith, 5, 4, []),
  (k_Ma_has, 3, 2, []),
  (k_Ma_write, 5, 0, []),
  (k_La_at, 6, 1, [(0, 11, 14, 9)]),
  (k_De_at, 4, 3, []),
  (k_Ma_number, 3, 3, []),
  (k_La_combine, 8, 1, [(0, 16, 19, 9)]),
  (k_De_combine, 11, 1, []),
  (k_De_addToSum, 5, 0, []),
  (k_Wh_addProduct, 9, 0, []),
  (k_Mt_max, 2, 1, []),
  (k_Wh_addLine, 14, 0, []),
  (k_Wh_straighten, 7, 0, []),
  (k_Wh_fits, 1, 2, []),
  (k_Wh_value, 3, 3, []),
  (k_Ma_become, 2, 0, []),
  (k_La_multiply, 6, 1, [(0, 12, 15, 9)]),
  (k_De_multiply, 10, 1, []),
  (k_La_turn, 4, 1, [(0, 6, 9, 9)]),
  (k_De_turn, 7, 0, []),
  (k_La_rank, 4, 1, [(0, 9, 12, 9)]),
  (k_De_rank, 2, 1, []),
  (k_Mi_read, 4, 0, []),
  (k_Mi_independentRows, 4, 1, []),
  (k_De_all, 1, 1, []),
  (k_Mi_takeRow, 8, 0, []),
  (k_In_bitCount, 1, 1, []),
  (k_Mi_hasMinor, 3, 2, []),
  (k_Wh_isZero, 1, 2, []),
  (k_La_hermite, 5, 1, [(0, 10, 13, 9)]),
  (k_De_hermite, 6, 1, []),
  (k_St_climb, 7, 0, []),
  (k_St_load, 7, 0, []),
  (k_Ro_clear, 2, 0, []),
  (k_Ro_lead, 3, 1, []),
  (k_St_meet, 5, 0, []),
  (k_St_lower, 5, 0, []),
  (k_Di_divide, 5, 0, []),
  (k_Wh_becomeW, 2, 0, []),
  (k_Wh_overDigit, 6, 3, []),
  (k_Wh_isSmallerThan, 3, 2, []),
  (k_Di_divideLong, 11, 0, []),
  (k_Wh_timesDigit, 6, 0, []),
  (k_Di_guess, 14, 3, []),
  (k_Wh_negate, 1, 0, []),
  (k_Wh_add, 4, 0, []),
  (k_St_settle, 4, 0, []),
  (k_St_keepSpare, 5, 0, []),
  (k_Ro_turnSigns, 2, 0, []),
  (k_De_copyStairs, 6, 2, []),
  (k_St_number, 3, 4, []),
  (k_St_leadsBefore, 4, 1, []),
  (k_La_kernel, 5, 1, [(0, 10, 13, 9)]),
  (k_De_kernel, 7, 1, []),
  (k_La_solve, 6, 1, [(0, 12, 15, 9)]),
  (k_De_solve, 10, 1, []),
  (k_St_spareRow, 1, 4, []),
  (k_La_determinant, 4, 1, [(0, 9, 12, 9)]),
  (k_De_determinant, 3, 1, []),
  (k_Mi_minor, 3, 4, []),
  (k_Mi_takeRows, 5, 0, []),
  (k_De_printWhole, 2, 1, []),
  (k_Pr_clear, 1, 0, []),
  (k_Pr_whole, 9, 0, []),
  (k_Pr_letter, 2, 0, []),
  (k_La_divisor, 5, 1, [(0, 10, 13, 9)]),
  (k_De_divisor, 4, 1, []),
  (k_Ma_lesserSide, 1, 1, []),
  (k_Mi_commonDivisor, 6, 0, []),
  (k_Di_commonDivisor, 7, 0, []),
  (k_La_factor, 5, 1, [(0, 10, 13, 9)]),
  (k_De_factor, 4, 1, []),
  (k_La_inverse, 6, 1, [(0, 12, 15, 9)]),
  (k_De_inverse, 6, 1, []),
  (k_De_printFraction, 2, 0, []),
  (k_Di_lowerTerms, 3, 0, []),
  (k_Di_lower, 2, 0, []),
  (k_Wh_isOne, 1, 2, []),
  (k_La_characteristic, 5, 1, [(0, 10, 13, 9)]),
  (k_De_characteristic, 5, 1, []),
  (k_Mi_principalSum, 4, 0, []),
  (k_La_same, 5, 1, [(0, 17, 20, 9)]),
  (k_De_same, 7, 2, []),
  (k_La_check, 4, 1, [(0, 9, 12, 9)]),
  (k_De_check, 3, 1, []),
  (k_St_isHermite, 6, 2, []),
  (k_St_isLead, 6, 2, []),
  (k_De_stepsComeToForm, 5, 2, []),
  (k_De_stepsGoBack, 5, 2, []),
  (k_De_stepsHaveUnitDeterminant, 2, 2, []),
  (k_Mi_readSquare, 6, 0, []),
  (k_Mo_init, 2, 0, []),
  (k_Mo_thrown, 1, 1, []),
  (k_Mo_make, 4, 0, []),
  (k_Mo_isMatrix, 2, 2, []),
  (k_Mo_clear, 5, 0, []),
  (k_Mo_put, 6, 0, []),
  (k_Mo_isPlace, 4, 2, []),
  (k_Mo_at, 4, 3, []),
  (k_Mo_number, 4, 3, []),
  (k_Mo_size, 3, 1, []),
  (k_Mo_combine, 8, 1, []),
  (k_Mo_areThere, 4, 2, []),
  (k_Mo_result, 3, 1, []),
  (k_Mo_bigSet, 7, 0, []),
  (k_Mo_addTimes, 6, 0, []),
  (k_Mo_bigProduct, 9, 0, []),
  (k_Mo_bigTrim, 2, 0, []),
  (k_Mo_bigAdd, 5, 0, []),
  (k_Mo_bigMore, 7, 0, []),
  (k_Mo_bigAt, 3, 1, []),
  (k_Mo_bigSizes, 4, 1, []),
  (k_Mo_bigDiffer, 8, 0, []),
  (k_Mo_give, 6, 2, []),
  (k_Mo_bigValue, 5, 3, []),
  (k_Mo_multiply, 7, 1, []),
  (k_Mo_turn, 5, 0, []),
  (k_Mo_rank, 2, 1, []),
  (k_Mo_lookAt, 4, 0, []),
  (k_Mo_rankOf, 2, 1, []),
  (k_Mo_least, 3, 1, []),
  (k_Mo_divisorOf, 6, 2, []),
  (k_Mo_sizeOf, 3, 1, []),
  (k_Mo_pick, 4, 1, []),
  (k_Mo_findMinors, 6, 0, []),
  (k_Mo_bigIsZero, 2, 2, []),
  (k_Mo_divide, 3, 0, []),
  (k_Mo_bigCopy, 4, 0, []),
  (k_Mo_bigDivide, 14, 0, []),
  (k_Mo_bigHolds, 5, 2, []),
  (k_Mo_bigLose, 13, 0, []),
  (k_Mo_hermite, 5, 1, []),
  (k_Mo_findForm, 2, 0, []),
  (k_Mo_findLeads, 3, 0, []),
  (k_Mo_bring, 4, 0, []),
  (k_Mo_cell, 3, 1, []),
  (k_Mo_remain, 3, 0, []),
  (k_Mo_gather, 6, 1, []),
  (k_Mo_lose, 5, 0, []),
  (k_Mo_shorten, 4, 0, []),
  (k_Mo_floor, 5, 0, []),
  (k_Mo_fill, 5, 0, []),
  (k_Mo_kernel, 7, 1, []),
  (k_Mo_lookBeside, 4, 0, []),
  (k_Mo_kernelFrom, 3, 1, []),
  (k_Mo_solve, 7, 1, []),
  (k_Mo_determinant, 2, 1, []),
  (k_Mo_say, 2, 1, []),
  (k_Mo_bigSign, 2, 1, []),
  (k_Mo_sayMore, 4, 0, []),
  (k_Mo_bigTenth, 5, 1, []),
  (k_Mo_divisor, 4, 1, []),
  (k_Mo_factor, 4, 1, []),
  (k_Mo_inverse, 8, 1, []),
  (k_Mo_bigIsOne, 2, 2, []),
  (k_Mo_characteristic, 6, 1, []),
  (k_Mo_character, 2, 1, []),
  (k_Mo_same, 6, 2, []),
  (k_Mo_check, 2, 1, []),
  (k_La_law, 8, 2, [])]
/-- the methods' names, bytes and what their descriptors return; the words that say so, by their places in lw_tbl -/
def ax_who : List (MethodName × ByteArray × Option FieldType × Nat) := [
  (⟨"MatrixDesk", "<init>", "()V"⟩, prog_1_method_1_code, none, 95),
  (⟨"MatrixDesk$Matrix", "<init>", "()V"⟩, prog_3_method_1_code, none, 104),
  (⟨"MatrixDesk$Print", "<init>", "()V"⟩, prog_5_method_1_code, none, 127),
  (⟨"MatrixDesk$Division", "<init>", "()V"⟩, prog_2_method_1_code, none, 143),
  (⟨"MatrixDesk$Whole", "<init>", "()V"⟩, prog_8_method_1_code, none, 149),
  (⟨"MatrixDesk$Whole", "become", "(J)V"⟩, prog_8_method_3_code, none, 173),
  (⟨"MatrixDesk$Whole", "clear", "()V"⟩, prog_8_method_2_code, none, 177),
  (⟨"MatrixDesk$Whole", "widen", "(I)V"⟩, prog_8_method_17_code, none, 181),
  (⟨"java/util/Arrays", "copyOf", "([II)[I"⟩, prog_21_method_123_code, (some (.array .int)), 184),
  (⟨"java/lang/Math", "min", "(II)I"⟩, prog_16_method_69_code, (some (.int)), 194),
  (⟨"java/util/Arrays", "fill", "([IIII)V"⟩, prog_21_method_104_code, none, 200),
  (⟨"java/util/Arrays", "rangeCheck", "(III)V"⟩, prog_21_method_30_code, none, 203),
  (⟨"java/lang/Math", "abs", "(J)J"⟩, prog_16_method_61_code, (some (.long)), 207),
  (⟨"MatrixDesk$Whole", "trim", "(I)V"⟩, prog_8_method_18_code, none, 211),
  (⟨"MatrixDesk$Minors", "<init>", "(LMatrixDesk$Division;)V"⟩, prog_4_method_1_code, none, 232),
  (⟨"MatrixDesk$Staircase", "<init>", "(LMatrixDesk$Division;)V"⟩, prog_7_method_1_code, none, 258),
  (⟨"MatrixDesk$Row", "<init>", "()V"⟩, prog_6_method_1_code, none, 267),
  (⟨"MatrixDesk", "size", "(II)I"⟩, prog_1_method_5_code, (some (.int)), 329),
  (⟨"MatrixDesk", "character", "(I)I"⟩, prog_1_method_18_code, (some (.int)), 333),
  (⟨"MatrixDeskLaw", "make", "(LMatrixDesk;III)I"⟩, method_3_code, (some (.int)), 336),
  (⟨"MatrixDesk", "make", "(III)V"⟩, prog_1_method_2_code, none, 342),
  (⟨"MatrixDesk", "matrix", "(I)LMatrixDesk$Matrix;"⟩, prog_1_method_21_code, (some (.object "MatrixDesk$Matrix")), 346),
  (⟨"MatrixDesk$Matrix", "reset", "(II)V"⟩, prog_3_method_2_code, none, 433),
  (⟨"java/util/Arrays", "fill", "([JJ)V"⟩, prog_21_method_101_code, none, 436),
  (⟨"MatrixDeskLaw", "put", "(LMatrixDesk;IIIJ)I"⟩, method_4_code, (some (.int)), 439),
  (⟨"MatrixDesk", "put", "(IIIJ)V"⟩, prog_1_method_3_code, none, 443),
  (⟨"MatrixDesk", "matrixWith", "(III)LMatrixDesk$Matrix;"⟩, prog_1_method_22_code, (some (.object "MatrixDesk$Matrix")), 447),
  (⟨"MatrixDesk$Matrix", "has", "(II)Z"⟩, prog_3_method_4_code, (some (.boolean)), 451),
  (⟨"MatrixDesk$Matrix", "write", "(IIJ)V"⟩, prog_3_method_7_code, none, 459),
  (⟨"MatrixDeskLaw", "at", "(LMatrixDesk;III[J)I"⟩, method_5_code, (some (.int)), 463),
  (⟨"MatrixDesk", "at", "(III)J"⟩, prog_1_method_4_code, (some (.long)), 467),
  (⟨"MatrixDesk$Matrix", "number", "(II)J"⟩, prog_3_method_6_code, (some (.long)), 471),
  (⟨"MatrixDeskLaw", "combine", "(LMatrixDesk;IIIII[J)I"⟩, method_6_code, (some (.int)), 474),
  (⟨"MatrixDesk", "combine", "(IIIII)I"⟩, prog_1_method_6_code, (some (.int)), 478),
  (⟨"MatrixDesk", "addToSum", "(JJ)V"⟩, prog_1_method_24_code, none, 483),
  (⟨"MatrixDesk$Whole", "addProduct", "(LMatrixDesk$Whole;LMatrixDesk$Whole;I)V"⟩, prog_8_method_12_code, none, 488),
  (⟨"java/lang/Math", "max", "(II)I"⟩, prog_16_method_65_code, (some (.int)), 491),
  (⟨"MatrixDesk$Whole", "addLine", "(LMatrixDesk$Whole;JII)V"⟩, prog_8_method_13_code, none, 495),
  (⟨"MatrixDesk$Whole", "straighten", "(I)V"⟩, prog_8_method_14_code, none, 501),
  (⟨"MatrixDesk$Whole", "fits", "()Z"⟩, prog_8_method_7_code, (some (.boolean)), 506),
  (⟨"MatrixDesk$Whole", "value", "()J"⟩, prog_8_method_8_code, (some (.long)), 510),
  (⟨"MatrixDesk$Matrix", "become", "(LMatrixDesk$Matrix;)V"⟩, prog_3_method_3_code, none, 514),
  (⟨"MatrixDeskLaw", "multiply", "(LMatrixDesk;III[J)I"⟩, method_7_code, (some (.int)), 518),
  (⟨"MatrixDesk", "multiply", "(III)I"⟩, prog_1_method_7_code, (some (.int)), 522),
  (⟨"MatrixDeskLaw", "turn", "(LMatrixDesk;II)I"⟩, method_8_code, (some (.int)), 525),
  (⟨"MatrixDesk", "turn", "(II)V"⟩, prog_1_method_8_code, none, 529),
  (⟨"MatrixDeskLaw", "rank", "(LMatrixDesk;I[J)I"⟩, method_9_code, (some (.int)), 532),
  (⟨"MatrixDesk", "rank", "(I)I"⟩, prog_1_method_9_code, (some (.int)), 536),
  (⟨"MatrixDesk$Minors", "read", "(LMatrixDesk$Matrix;)V"⟩, prog_4_method_2_code, none, 540),
  (⟨"MatrixDesk$Minors", "independentRows", "()I"⟩, prog_4_method_5_code, (some (.int)), 545),
  (⟨"MatrixDesk", "all", "(I)I"⟩, prog_1_method_23_code, (some (.int)), 548),
  (⟨"MatrixDesk$Minors", "takeRow", "(III)V"⟩, prog_4_method_9_code, none, 552),
  (⟨"java/lang/Integer", "bitCount", "(I)I"⟩, prog_15_method_49_code, (some (.int)), 555),
  (⟨"MatrixDesk$Minors", "hasMinor", "(I)Z"⟩, prog_4_method_10_code, (some (.boolean)), 564),
  (⟨"MatrixDesk$Whole", "isZero", "()Z"⟩, prog_8_method_5_code, (some (.boolean)), 568),
  (⟨"MatrixDeskLaw", "hermite", "(LMatrixDesk;II[J)I"⟩, method_10_code, (some (.int)), 571),
  (⟨"MatrixDesk", "hermite", "(II)I"⟩, prog_1_method_10_code, (some (.int)), 575),
  (⟨"MatrixDesk$Staircase", "climb", "(LMatrixDesk$Matrix;Z)V"⟩, prog_7_method_2_code, none, 579),
  (⟨"MatrixDesk$Staircase", "load", "(LMatrixDesk$Row;LMatrixDesk$Matrix;IZ)V"⟩, prog_7_method_3_code, none, 583),
  (⟨"MatrixDesk$Row", "clear", "()V"⟩, prog_6_method_2_code, none, 587),
  (⟨"MatrixDesk$Row", "lead", "(I)I"⟩, prog_6_method_4_code, (some (.int)), 594),
  (⟨"MatrixDesk$Staircase", "meet", "(I)V"⟩, prog_7_method_10_code, none, 599),
  (⟨"MatrixDesk$Staircase", "lower", "(LMatrixDesk$Row;LMatrixDesk$Row;I)V"⟩, prog_7_method_12_code, none, 603),
  (⟨"MatrixDesk$Division", "divide", "(LMatrixDesk$Whole;LMatrixDesk$Whole;LMatrixDesk$Whole;)V"⟩, prog_2_method_2_code, none, 607),
  (⟨"MatrixDesk$Whole", "become", "(LMatrixDesk$Whole;)V"⟩, prog_8_method_4_code, none, 613),
  (⟨"MatrixDesk$Whole", "overDigit", "(J)J"⟩, prog_8_method_16_code, (some (.long)), 618),
  (⟨"MatrixDesk$Whole", "isSmallerThan", "(LMatrixDesk$Whole;)Z"⟩, prog_8_method_10_code, (some (.boolean)), 622),
  (⟨"MatrixDesk$Division", "divideLong", "(LMatrixDesk$Whole;LMatrixDesk$Whole;LMatrixDesk$Whole;)V"⟩, prog_2_method_3_code, none, 626),
  (⟨"MatrixDesk$Whole", "timesDigit", "(J)V"⟩, prog_8_method_15_code, none, 632),
  (⟨"MatrixDesk$Division", "guess", "(LMatrixDesk$Whole;I)J"⟩, prog_2_method_4_code, (some (.long)), 636),
  (⟨"MatrixDesk$Whole", "negate", "()V"⟩, prog_8_method_9_code, none, 642),
  (⟨"MatrixDesk$Whole", "add", "(LMatrixDesk$Whole;I)V"⟩, prog_8_method_11_code, none, 646),
  (⟨"MatrixDesk$Staircase", "settle", "(LMatrixDesk$Row;I)V"⟩, prog_7_method_7_code, none, 653),
  (⟨"MatrixDesk$Staircase", "keepSpare", "(I)V"⟩, prog_7_method_11_code, none, 657),
  (⟨"MatrixDesk$Row", "turnSigns", "()V"⟩, prog_6_method_3_code, none, 661),
  (⟨"MatrixDesk", "copyStairs", "(II)Z"⟩, prog_1_method_27_code, (some (.boolean)), 666),
  (⟨"MatrixDesk$Staircase", "number", "(II)LMatrixDesk$Whole;"⟩, prog_7_method_5_code, (some (.object "MatrixDesk$Whole")), 670),
  (⟨"MatrixDesk$Staircase", "leadsBefore", "(I)I"⟩, prog_7_method_6_code, (some (.int)), 674),
  (⟨"MatrixDeskLaw", "kernel", "(LMatrixDesk;II[J)I"⟩, method_11_code, (some (.int)), 677),
  (⟨"MatrixDesk", "kernel", "(II)I"⟩, prog_1_method_11_code, (some (.int)), 681),
  (⟨"MatrixDeskLaw", "solve", "(LMatrixDesk;III[J)I"⟩, method_12_code, (some (.int)), 684),
  (⟨"MatrixDesk", "solve", "(III)I"⟩, prog_1_method_12_code, (some (.int)), 688),
  (⟨"MatrixDesk$Staircase", "spareRow", "()LMatrixDesk$Row;"⟩, prog_7_method_4_code, (some (.object "MatrixDesk$Row")), 692),
  (⟨"MatrixDeskLaw", "determinant", "(LMatrixDesk;I[J)I"⟩, method_13_code, (some (.int)), 697),
  (⟨"MatrixDesk", "determinant", "(I)I"⟩, prog_1_method_13_code, (some (.int)), 701),
  (⟨"MatrixDesk$Minors", "minor", "(II)LMatrixDesk$Whole;"⟩, prog_4_method_4_code, (some (.object "MatrixDesk$Whole")), 706),
  (⟨"MatrixDesk$Minors", "takeRows", "(II)V"⟩, prog_4_method_8_code, none, 710),
  (⟨"MatrixDesk", "printWhole", "(LMatrixDesk$Whole;)I"⟩, prog_1_method_25_code, (some (.int)), 714),
  (⟨"MatrixDesk$Print", "clear", "()V"⟩, prog_5_method_2_code, none, 718),
  (⟨"MatrixDesk$Print", "whole", "(LMatrixDesk$Whole;)V"⟩, prog_5_method_4_code, none, 722),
  (⟨"MatrixDesk$Print", "letter", "(C)V"⟩, prog_5_method_3_code, none, 726),
  (⟨"MatrixDeskLaw", "divisor", "(LMatrixDesk;II[J)I"⟩, method_14_code, (some (.int)), 732),
  (⟨"MatrixDesk", "divisor", "(II)I"⟩, prog_1_method_14_code, (some (.int)), 736),
  (⟨"MatrixDesk$Matrix", "lesserSide", "()I"⟩, prog_3_method_5_code, (some (.int)), 740),
  (⟨"MatrixDesk$Minors", "commonDivisor", "(ILMatrixDesk$Whole;)V"⟩, prog_4_method_6_code, none, 745),
  (⟨"MatrixDesk$Division", "commonDivisor", "(LMatrixDesk$Whole;LMatrixDesk$Whole;)V"⟩, prog_2_method_5_code, none, 749),
  (⟨"MatrixDeskLaw", "factor", "(LMatrixDesk;II[J)I"⟩, method_15_code, (some (.int)), 754),
  (⟨"MatrixDesk", "factor", "(II)I"⟩, prog_1_method_15_code, (some (.int)), 758),
  (⟨"MatrixDeskLaw", "inverse", "(LMatrixDesk;III[J)I"⟩, method_16_code, (some (.int)), 763),
  (⟨"MatrixDesk", "inverse", "(III)I"⟩, prog_1_method_16_code, (some (.int)), 767),
  (⟨"MatrixDesk", "printFraction", "()V"⟩, prog_1_method_26_code, none, 773),
  (⟨"MatrixDesk$Division", "lowerTerms", "(LMatrixDesk$Whole;LMatrixDesk$Whole;)V"⟩, prog_2_method_6_code, none, 777),
  (⟨"MatrixDesk$Division", "lower", "(LMatrixDesk$Whole;)V"⟩, prog_2_method_7_code, none, 782),
  (⟨"MatrixDesk$Whole", "isOne", "()Z"⟩, prog_8_method_6_code, (some (.boolean)), 787),
  (⟨"MatrixDeskLaw", "characteristic", "(LMatrixDesk;II[J)I"⟩, method_17_code, (some (.int)), 790),
  (⟨"MatrixDesk", "characteristic", "(II)I"⟩, prog_1_method_17_code, (some (.int)), 794),
  (⟨"MatrixDesk$Minors", "principalSum", "(ILMatrixDesk$Whole;)V"⟩, prog_4_method_7_code, none, 798),
  (⟨"MatrixDeskLaw", "same", "(LMatrixDesk;II[J)I"⟩, method_18_code, (some (.int)), 803),
  (⟨"MatrixDesk", "same", "(II)Z"⟩, prog_1_method_19_code, (some (.boolean)), 807),
  (⟨"MatrixDeskLaw", "check", "(LMatrixDesk;I[J)I"⟩, method_19_code, (some (.int)), 810),
  (⟨"MatrixDesk", "check", "(I)I"⟩, prog_1_method_20_code, (some (.int)), 814),
  (⟨"MatrixDesk$Staircase", "isHermite", "(II)Z"⟩, prog_7_method_8_code, (some (.boolean)), 818),
  (⟨"MatrixDesk$Staircase", "isLead", "(II)Z"⟩, prog_7_method_9_code, (some (.boolean)), 822),
  (⟨"MatrixDesk", "stepsComeToForm", "(LMatrixDesk$Matrix;)Z"⟩, prog_1_method_28_code, (some (.boolean)), 828),
  (⟨"MatrixDesk", "stepsGoBack", "(LMatrixDesk$Matrix;)Z"⟩, prog_1_method_29_code, (some (.boolean)), 833),
  (⟨"MatrixDesk", "stepsHaveUnitDeterminant", "(LMatrixDesk$Matrix;)Z"⟩, prog_1_method_30_code, (some (.boolean)), 838),
  (⟨"MatrixDesk$Minors", "readSquare", "(LMatrixDesk$Staircase;II)V"⟩, prog_4_method_3_code, none, 842),
  (⟨"MatrixDeskModel", "<init>", "()V"⟩, prog_10_method_18_code, none, 849),
  (⟨"MatrixDeskModel", "thrown", "()I"⟩, prog_10_method_19_code, (some (.int)), 908),
  (⟨"MatrixDeskModel", "make", "(III)V"⟩, prog_10_method_24_code, none, 912),
  (⟨"MatrixDeskModel", "isMatrix", "(I)Z"⟩, prog_10_method_20_code, (some (.boolean)), 916),
  (⟨"MatrixDeskModel", "clear", "(III)V"⟩, prog_10_method_23_code, none, 920),
  (⟨"MatrixDeskModel", "put", "(IIIJ)V"⟩, prog_10_method_25_code, none, 924),
  (⟨"MatrixDeskModel", "isPlace", "(III)Z"⟩, prog_10_method_21_code, (some (.boolean)), 928),
  (⟨"MatrixDeskModel", "at", "(III)J"⟩, prog_10_method_26_code, (some (.long)), 934),
  (⟨"MatrixDeskModel", "number", "(III)J"⟩, prog_10_method_22_code, (some (.long)), 938),
  (⟨"MatrixDeskModel", "size", "(II)I"⟩, prog_10_method_27_code, (some (.int)), 942),
  (⟨"MatrixDeskModel", "combine", "(IIIII)I"⟩, prog_10_method_32_code, (some (.int)), 946),
  (⟨"MatrixDeskModel", "areThere", "(III)Z"⟩, prog_10_method_31_code, (some (.boolean)), 950),
  (⟨"MatrixDeskModel", "result", "(II)I"⟩, prog_10_method_28_code, (some (.int)), 954),
  (⟨"MatrixDeskModel", "bigSet", "(IJ)V"⟩, prog_10_method_1_code, none, 958),
  (⟨"MatrixDeskModel", "addTimes", "(IJJ)V"⟩, prog_10_method_30_code, none, 963),
  (⟨"MatrixDeskModel", "bigProduct", "(III)V"⟩, prog_10_method_12_code, none, 967),
  (⟨"MatrixDeskModel", "bigTrim", "(I)V"⟩, prog_10_method_7_code, none, 972),
  (⟨"MatrixDeskModel", "bigAdd", "(IIZ)V"⟩, prog_10_method_11_code, none, 976),
  (⟨"MatrixDeskModel", "bigMore", "(II)V"⟩, prog_10_method_9_code, none, 980),
  (⟨"MatrixDeskModel", "bigAt", "(II)I"⟩, prog_10_method_6_code, (some (.int)), 984),
  (⟨"MatrixDeskModel", "bigSizes", "(II)I"⟩, prog_10_method_8_code, (some (.int)), 989),
  (⟨"MatrixDeskModel", "bigDiffer", "(IIZ)V"⟩, prog_10_method_10_code, none, 993),
  (⟨"MatrixDeskModel", "give", "(III)Z"⟩, prog_10_method_29_code, (some (.boolean)), 997),
  (⟨"MatrixDeskModel", "bigValue", "(I)J"⟩, prog_10_method_17_code, (some (.long)), 1001),
  (⟨"MatrixDeskModel", "multiply", "(III)I"⟩, prog_10_method_33_code, (some (.int)), 1005),
  (⟨"MatrixDeskModel", "turn", "(II)V"⟩, prog_10_method_34_code, none, 1009),
  (⟨"MatrixDeskModel", "rank", "(I)I"⟩, prog_10_method_44_code, (some (.int)), 1013),
  (⟨"MatrixDeskModel", "lookAt", "(I)V"⟩, prog_10_method_35_code, none, 1017),
  (⟨"MatrixDeskModel", "rankOf", "()I"⟩, prog_10_method_43_code, (some (.int)), 1021),
  (⟨"MatrixDeskModel", "least", "(II)I"⟩, prog_10_method_42_code, (some (.int)), 1025),
  (⟨"MatrixDeskModel", "divisorOf", "(II)Z"⟩, prog_10_method_41_code, (some (.boolean)), 1029),
  (⟨"MatrixDeskModel", "sizeOf", "(I)I"⟩, prog_10_method_37_code, (some (.int)), 1032),
  (⟨"MatrixDeskModel", "pick", "(I)I"⟩, prog_10_method_39_code, (some (.int)), 1036),
  (⟨"MatrixDeskModel", "findMinors", "(I)V"⟩, prog_10_method_38_code, none, 1040),
  (⟨"MatrixDeskModel", "bigIsZero", "(I)Z"⟩, prog_10_method_3_code, (some (.boolean)), 1044),
  (⟨"MatrixDeskModel", "divide", "(II)V"⟩, prog_10_method_40_code, none, 1048),
  (⟨"MatrixDeskModel", "bigCopy", "(II)V"⟩, prog_10_method_2_code, none, 1052),
  (⟨"MatrixDeskModel", "bigDivide", "(III)V"⟩, prog_10_method_15_code, none, 1056),
  (⟨"MatrixDeskModel", "bigHolds", "(III)Z"⟩, prog_10_method_14_code, (some (.boolean)), 1060),
  (⟨"MatrixDeskModel", "bigLose", "(IIJI)V"⟩, prog_10_method_13_code, none, 1064),
  (⟨"MatrixDeskModel", "hermite", "(II)I"⟩, prog_10_method_55_code, (some (.int)), 1068),
  (⟨"MatrixDeskModel", "findForm", "()V"⟩, prog_10_method_54_code, none, 1072),
  (⟨"MatrixDeskModel", "findLeads", "()V"⟩, prog_10_method_45_code, none, 1076),
  (⟨"MatrixDeskModel", "bring", "()V"⟩, prog_10_method_48_code, none, 1080),
  (⟨"MatrixDeskModel", "cell", "(II)I"⟩, prog_10_method_46_code, (some (.int)), 1084),
  (⟨"MatrixDeskModel", "remain", "(I)V"⟩, prog_10_method_47_code, none, 1088),
  (⟨"MatrixDeskModel", "gather", "(I)I"⟩, prog_10_method_49_code, (some (.int)), 1092),
  (⟨"MatrixDeskModel", "lose", "(III)V"⟩, prog_10_method_50_code, none, 1096),
  (⟨"MatrixDeskModel", "shorten", "()V"⟩, prog_10_method_51_code, none, 1100),
  (⟨"MatrixDeskModel", "floor", "(II)V"⟩, prog_10_method_52_code, none, 1104),
  (⟨"MatrixDeskModel", "fill", "()V"⟩, prog_10_method_53_code, none, 1108),
  (⟨"MatrixDeskModel", "kernel", "(II)I"⟩, prog_10_method_57_code, (some (.int)), 1112),
  (⟨"MatrixDeskModel", "lookBeside", "(I)V"⟩, prog_10_method_36_code, none, 1116),
  (⟨"MatrixDeskModel", "kernelFrom", "(I)I"⟩, prog_10_method_56_code, (some (.int)), 1120),
  (⟨"MatrixDeskModel", "solve", "(III)I"⟩, prog_10_method_58_code, (some (.int)), 1124),
  (⟨"MatrixDeskModel", "determinant", "(I)I"⟩, prog_10_method_61_code, (some (.int)), 1128),
  (⟨"MatrixDeskModel", "say", "(I)I"⟩, prog_10_method_60_code, (some (.int)), 1132),
  (⟨"MatrixDeskModel", "bigSign", "(I)I"⟩, prog_10_method_4_code, (some (.int)), 1136),
  (⟨"MatrixDeskModel", "sayMore", "(I)V"⟩, prog_10_method_59_code, none, 1140),
  (⟨"MatrixDeskModel", "bigTenth", "(I)I"⟩, prog_10_method_16_code, (some (.int)), 1144),
  (⟨"MatrixDeskModel", "divisor", "(II)I"⟩, prog_10_method_62_code, (some (.int)), 1148),
  (⟨"MatrixDeskModel", "factor", "(II)I"⟩, prog_10_method_63_code, (some (.int)), 1152),
  (⟨"MatrixDeskModel", "inverse", "(III)I"⟩, prog_10_method_64_code, (some (.int)), 1156),
  (⟨"MatrixDeskModel", "bigIsOne", "(I)Z"⟩, prog_10_method_5_code, (some (.boolean)), 1160),
  (⟨"MatrixDeskModel", "characteristic", "(II)I"⟩, prog_10_method_65_code, (some (.int)), 1164),
  (⟨"MatrixDeskModel", "character", "(I)I"⟩, prog_10_method_66_code, (some (.int)), 1168),
  (⟨"MatrixDeskModel", "same", "(II)Z"⟩, prog_10_method_67_code, (some (.boolean)), 1172),
  (⟨"MatrixDeskModel", "check", "(I)I"⟩, prog_10_method_68_code, (some (.int)), 1176),
  (⟨"MatrixDeskLaw", "law", "([I)Z"⟩, code, (some (.boolean)), 0)]
def ax_kinds : List (List Nat) := [[2, 2, 2, 2, 2, 2, 2, 2, 2], [2, 2, 2, 2, 2], [2, 0, 0], [2, 2, 2, 0, 0], [2, 0], [2], [2, 2, 2, 2, 0, 0], [2, 0, 1], [2, 2, 2, 0, 2, 2, 2, 2, 0, 0, 2, 0, 2, 0, 2, 0, 2], [2, 2, 2, 2, 2, 0], [2, 2, 2, 2, 2, 0]]
def ax_kI : List Int32 := [1431655765, 858993459, 252645135, 1000000, 38780, 16777216]
def ax_kJ : List Int64 := [1000000000, 1000000000000000000, -1000000000000000000, 1000000002000000000, 1000000002, -1, 16777215, 16777216, 4294967295]
/-- the pool: kind, owner, index, what it gives, the words that say so -/
def ax_pool : List (Nat × String × Nat × Nat × Nat × List Nat) := [
  (20, "MatrixDesk", 1, 1000, 0, [96]),
  (4, "MatrixDesk", 9, 2, 0, [99, 100]),
  (0, "MatrixDesk", 11, 0, 0, [298]),
  (3, "MatrixDesk", 9, 2, 0, [99, 101, 74]),
  (12, "MatrixDesk", 15, 1, 301, [102, 103, 74]),
  (0, "MatrixDesk", 16, 0, 1, [299]),
  (3, "MatrixDesk", 20, 4, 0, [123, 124, 75]),
  (12, "MatrixDesk", 22, 2, 501, [125, 126, 75]),
  (0, "MatrixDesk", 23, 0, 2, [300]),
  (3, "MatrixDesk", 27, 1, 0, [139, 140, 76]),
  (12, "MatrixDesk", 29, 3, 201, [141, 142, 76]),
  (0, "MatrixDesk", 30, 0, 3, [301]),
  (3, "MatrixDesk", 34, 3, 0, [228, 229, 81]),
  (12, "MatrixDesk", 36, 14, 402, [230, 231, 81]),
  (0, "MatrixDesk", 39, 0, 4, [302]),
  (3, "MatrixDesk", 43, 6, 0, [254, 255, 82]),
  (12, "MatrixDesk", 45, 15, 702, [256, 257, 82]),
  (0, "MatrixDesk", 46, 0, 5, [303]),
  (3, "MatrixDesk", 50, 7, 0, [296, 146, 77]),
  (12, "MatrixDesk", 52, 4, 801, [297, 148, 77]),
  (0, "MatrixDesk", 53, 0, 6, [304]),
  (0, "MatrixDesk", 57, 0, 7, [305]),
  (0, "MatrixDesk", 60, 0, 8, [306]),
  (20, "MatrixDesk$Matrix", 3, 1000, 0, [105]),
  (0, "MatrixDesk$Matrix", 9, 2, 0, [106]),
  (0, "MatrixDesk$Matrix", 15, 2, 1, [107]),
  (0, "MatrixDesk$Matrix", 19, 2, 2, [111]),
  (20, "MatrixDesk$Print", 3, 1000, 0, [128]),
  (0, "MatrixDesk$Print", 9, 4, 0, [129]),
  (20, "MatrixDesk$Division", 3, 1000, 0, [144]),
  (3, "MatrixDesk$Division", 9, 7, 0, [145, 146, 77]),
  (12, "MatrixDesk$Division", 11, 4, 801, [147, 148, 77]),
  (0, "MatrixDesk$Division", 12, 1, 0, [212]),
  (0, "MatrixDesk$Division", 18, 1, 1, [213]),
  (0, "MatrixDesk$Division", 21, 1, 2, [214]),
  (0, "MatrixDesk$Division", 24, 1, 3, [215]),
  (0, "MatrixDesk$Division", 27, 1, 4, [216]),
  (11, "MatrixDesk$Division", 30, 5, 802, [170, 171, 172, 77]),
  (20, "MatrixDesk$Whole", 5, 1000, 0, [150]),
  (0, "MatrixDesk$Whole", 11, 7, 0, [151]),
  (11, "MatrixDesk$Whole", 23, 6, 801, [174, 175, 176, 77]),
  (11, "MatrixDesk$Whole", 26, 7, 802, [178, 180, 0, 77]),
  (6, "MatrixDesk$Whole", 30, 0, 0, [204]),
  (10, "MatrixDesk$Whole", 32, 12, 1, [205, 206, 79]),
  (11, "MatrixDesk$Whole", 38, 13, 802, [208, 210, 1, 77]),
  (0, "MatrixDesk$Whole", 19, 7, 2, [157]),
  (0, "MatrixDesk$Whole", 15, 7, 1, [154]),
  (10, "MatrixDesk$Whole", 64, 8, 2, [182, 183, 78]),
  (10, "MatrixDesk$Whole", 70, 10, 4, [198, 199, 78]),
  (10, "java/util/Arrays", 304, 9, 2, [192, 193, 79]),
  (22, "java/util/Arrays", 150, 1002, 0, [195]),
  (10, "java/util/Arrays", 13, 11, 3, [201, 202, 78]),
  (20, "MatrixDesk$Minors", 3, 1000, 0, [233]),
  (0, "MatrixDesk$Minors", 9, 3, 0, [238]),
  (4, "MatrixDesk$Minors", 15, 7, 0, [234, 235]),
  (0, "MatrixDesk$Minors", 17, 3, 1, [239]),
  (3, "MatrixDesk$Minors", 15, 7, 0, [234, 146, 77]),
  (12, "MatrixDesk$Minors", 21, 4, 801, [236, 148, 77]),
  (0, "MatrixDesk$Minors", 22, 3, 2, [240]),
  (11, "MatrixDesk$Minors", 25, 5, 802, [237, 171, 172, 77]),
  (20, "MatrixDesk$Staircase", 3, 1000, 0, [259]),
  (0, "MatrixDesk$Staircase", 9, 6, 0, [277]),
  (3, "MatrixDesk$Staircase", 15, 7, 0, [260, 146, 77]),
  (12, "MatrixDesk$Staircase", 17, 4, 801, [261, 148, 77]),
  (0, "MatrixDesk$Staircase", 18, 6, 1, [278]),
  (4, "MatrixDesk$Staircase", 22, 5, 0, [262, 263]),
  (0, "MatrixDesk$Staircase", 24, 6, 2, [279]),
  (3, "MatrixDesk$Staircase", 22, 5, 0, [262, 264, 83]),
  (12, "MatrixDesk$Staircase", 28, 16, 601, [265, 266, 83]),
  (0, "MatrixDesk$Staircase", 29, 6, 3, [280]),
  (20, "MatrixDesk$Row", 3, 1000, 0, [268]),
  (4, "MatrixDesk$Row", 9, 7, 0, [269, 235]),
  (0, "MatrixDesk$Row", 11, 5, 0, [271]),
  (3, "MatrixDesk$Row", 9, 7, 0, [269, 146, 77]),
  (12, "MatrixDesk$Row", 17, 4, 801, [270, 148, 77]),
  (1, "MatrixDesk", 96, 2, 1, [110]),
  (1, "MatrixDesk", 100, 2, 2, [114]),
  (1, "MatrixDesk", 198, 4, 1, [132]),
  (1, "MatrixDesk", 204, 4, 0, [130]),
  (11, "MatrixDeskLaw", 7, 20, 104, [339, 340, 341, 73]),
  (11, "MatrixDesk", 63, 21, 102, [343, 345, 2, 73]),
  (3, "MatrixDesk", 67, 10, 0, [414, 415, 89]),
  (7, "MatrixDesk", 69, 3, 0, [423]),
  (21, "MatrixDesk", 71, 1001, 10, [424]),
  (11, "MatrixDesk", 74, 22, 303, [430, 431, 432, 74]),
  (3, "MatrixDesk", 221, 9, 0, [347, 348, 88]),
  (7, "MatrixDesk", 223, 2, 0, [387]),
  (21, "MatrixDesk", 225, 1001, 9, [388]),
  (10, "MatrixDesk$Matrix", 22, 23, 2, [434, 435, 78]),
  (11, "MatrixDeskLaw", 17, 25, 105, [440, 441, 442, 73]),
  (11, "MatrixDesk", 78, 26, 104, [444, 446, 4, 73]),
  (6, "MatrixDesk", 82, 1, 0, [453]),
  (6, "MatrixDesk", 84, 2, 0, [454]),
  (7, "MatrixDesk", 86, 5, 0, [455]),
  (11, "MatrixDesk", 88, 28, 304, [456, 457, 458, 74]),
  (11, "MatrixDesk", 186, 27, 303, [448, 449, 450, 74]),
  (7, "MatrixDesk", 226, 4, 0, [452]),
  (11, "MatrixDesk$Matrix", 40, 27, 303, [460, 449, 450, 74]),
  (11, "MatrixDeskLaw", 21, 30, 104, [464, 465, 466, 73]),
  (11, "MatrixDesk", 92, 31, 303, [468, 469, 470, 74]),
  (11, "MatrixDeskLaw", 25, 33, 106, [475, 476, 477, 73]),
  (11, "MatrixDesk", 103, 6, 801, [479, 175, 176, 77]),
  (11, "MatrixDesk", 106, 34, 103, [480, 482, 5, 73]),
  (11, "MatrixDesk", 110, 39, 801, [503, 504, 505, 77]),
  (11, "MatrixDesk", 114, 40, 801, [507, 508, 509, 77]),
  (11, "MatrixDesk", 118, 41, 302, [511, 512, 513, 74]),
  (11, "MatrixDesk", 151, 5, 802, [484, 171, 172, 77]),
  (11, "MatrixDesk", 228, 35, 804, [485, 486, 487, 77]),
  (10, "MatrixDesk$Whole", 47, 36, 2, [489, 490, 79]),
  (11, "MatrixDesk$Whole", 51, 37, 805, [492, 494, 6, 77]),
  (11, "MatrixDesk$Whole", 55, 38, 802, [498, 500, 7, 77]),
  (6, "MatrixDesk$Whole", 58, 3, 0, [496]),
  (6, "MatrixDesk$Whole", 60, 4, 0, [497]),
  (6, "MatrixDesk$Whole", 62, 5, 0, [502]),
  (22, "MatrixDesk$Matrix", 28, 1002, 0, [515]),
  (11, "MatrixDeskLaw", 29, 43, 104, [519, 520, 521, 73]),
  (11, "MatrixDeskLaw", 33, 45, 103, [526, 527, 528, 73]),
  (11, "MatrixDeskLaw", 37, 47, 102, [533, 534, 535, 73]),
  (11, "MatrixDesk", 122, 48, 402, [537, 538, 539, 81]),
  (11, "MatrixDesk", 125, 49, 401, [542, 543, 544, 81]),
  (1, "MatrixDesk$Minors", 29, 2, 1, [108]),
  (0, "MatrixDesk$Minors", 35, 3, 3, [241]),
  (1, "MatrixDesk$Minors", 36, 2, 2, [113]),
  (0, "MatrixDesk$Minors", 39, 3, 4, [242]),
  (11, "MatrixDesk$Minors", 40, 31, 303, [541, 469, 470, 74]),
  (13, "MatrixDesk$Minors", 56, 50, 1, [546, 547, 73]),
  (11, "MatrixDesk$Minors", 60, 51, 404, [549, 551, 8, 81]),
  (11, "MatrixDesk$Minors", 64, 53, 402, [561, 563, 9, 81]),
  (10, "MatrixDesk$Minors", 68, 52, 1, [553, 554, 90]),
  (11, "MatrixDesk$Minors", 86, 6, 801, [559, 175, 176, 77]),
  (11, "MatrixDesk$Minors", 89, 35, 804, [560, 486, 487, 77]),
  (5, "java/lang/Integer", 265, 0, 0, [556]),
  (5, "java/lang/Integer", 266, 1, 0, [557]),
  (5, "java/lang/Integer", 267, 2, 0, [558]),
  (11, "MatrixDesk$Minors", 93, 54, 801, [565, 566, 567, 77]),
  (11, "MatrixDeskLaw", 41, 56, 103, [572, 573, 574, 73]),
  (11, "MatrixDesk", 129, 57, 703, [576, 577, 578, 82]),
  (11, "MatrixDesk", 133, 75, 103, [663, 665, 17, 73]),
  (11, "MatrixDesk", 137, 77, 702, [671, 672, 673, 82]),
  (1, "MatrixDesk$Staircase", 33, 2, 2, [112]),
  (1, "MatrixDesk$Staircase", 39, 2, 1, [109]),
  (0, "MatrixDesk$Staircase", 41, 6, 5, [282]),
  (0, "MatrixDesk$Staircase", 44, 6, 4, [281]),
  (11, "MatrixDesk$Staircase", 47, 58, 705, [580, 581, 582, 82]),
  (11, "MatrixDesk$Staircase", 51, 60, 602, [591, 592, 593, 83]),
  (11, "MatrixDesk$Staircase", 55, 61, 702, [596, 598, 10, 82]),
  (11, "MatrixDesk$Staircase", 59, 72, 703, [650, 651, 652, 82]),
  (11, "MatrixDesk$Staircase", 63, 73, 702, [654, 656, 16, 82]),
  (11, "MatrixDesk$Staircase", 66, 59, 601, [584, 585, 586, 83]),
  (1, "MatrixDesk$Staircase", 69, 5, 0, [272]),
  (11, "MatrixDesk$Staircase", 73, 31, 303, [589, 469, 470, 74]),
  (11, "MatrixDesk$Staircase", 77, 5, 802, [590, 171, 172, 77]),
  (11, "MatrixDesk$Row", 18, 6, 801, [588, 175, 176, 77]),
  (11, "MatrixDesk$Row", 24, 54, 801, [595, 566, 567, 77]),
  (11, "MatrixDesk$Staircase", 81, 62, 704, [600, 602, 11, 82]),
  (5, "MatrixDesk$Staircase", 100, 3, 0, [649]),
  (11, "MatrixDesk$Staircase", 101, 54, 801, [647, 566, 567, 77]),
  (11, "MatrixDesk$Staircase", 108, 63, 204, [604, 605, 606, 76]),
  (11, "MatrixDesk$Staircase", 114, 35, 804, [648, 486, 487, 77]),
  (11, "MatrixDesk$Division", 34, 6, 801, [608, 175, 176, 77]),
  (11, "MatrixDesk$Division", 37, 54, 801, [609, 566, 567, 77]),
  (1, "MatrixDesk$Division", 41, 7, 2, [158]),
  (1, "MatrixDesk$Division", 45, 7, 1, [155]),
  (11, "MatrixDesk$Division", 49, 64, 802, [610, 611, 612, 77]),
  (1, "MatrixDesk$Division", 52, 7, 0, [152]),
  (14, "MatrixDesk$Division", 56, 65, 802, [615, 617, 12, 77]),
  (11, "MatrixDesk$Division", 60, 66, 802, [619, 620, 621, 77]),
  (11, "MatrixDesk$Division", 64, 67, 204, [623, 625, 13, 76]),
  (11, "MatrixDesk$Division", 68, 70, 801, [639, 640, 641, 77]),
  (11, "MatrixDesk$Division", 71, 71, 803, [643, 644, 645, 77]),
  (22, "MatrixDesk$Whole", 41, 1002, 0, [614]),
  (6, "MatrixDesk$Division", 75, 0, 0, [627]),
  (14, "MatrixDesk$Division", 77, 7, 802, [628, 180, 0, 77]),
  (14, "MatrixDesk$Division", 81, 68, 802, [629, 631, 14, 77]),
  (11, "MatrixDesk$Division", 84, 69, 203, [633, 635, 15, 76]),
  (14, "MatrixDesk$Division", 88, 37, 805, [637, 494, 6, 77]),
  (14, "MatrixDesk$Division", 92, 13, 802, [638, 210, 1, 77]),
  (1, "MatrixDesk$Staircase", 92, 7, 2, [160]),
  (11, "MatrixDesk$Staircase", 105, 74, 601, [658, 659, 660, 83]),
  (11, "MatrixDesk$Row", 21, 70, 801, [662, 640, 641, 77]),
  (11, "MatrixDesk", 251, 76, 703, [667, 668, 669, 82]),
  (11, "MatrixDeskLaw", 45, 79, 103, [678, 679, 680, 73]),
  (11, "MatrixDeskLaw", 48, 81, 104, [685, 686, 687, 73]),
  (11, "MatrixDesk", 141, 82, 701, [689, 690, 691, 82]),
  (1, "MatrixDesk", 145, 5, 0, [273]),
  (11, "MatrixDesk", 154, 72, 703, [693, 651, 652, 82]),
  (11, "MatrixDesk", 158, 60, 602, [694, 592, 593, 83]),
  (11, "MatrixDeskLaw", 51, 84, 102, [698, 699, 700, 73]),
  (10, "MatrixDesk", 161, 50, 1, [702, 547, 73]),
  (11, "MatrixDesk", 164, 85, 403, [703, 704, 705, 81]),
  (11, "MatrixDesk", 168, 87, 102, [711, 713, 19, 73]),
  (11, "MatrixDesk$Minors", 52, 86, 403, [707, 709, 18, 81]),
  (11, "MatrixDesk", 232, 88, 501, [715, 716, 717, 75]),
  (11, "MatrixDesk", 233, 89, 502, [719, 720, 721, 75]),
  (0, "MatrixDesk$Print", 15, 4, 1, [131]),
  (1, "MatrixDesk$Print", 19, 7, 2, [159]),
  (11, "MatrixDesk$Print", 25, 90, 502, [723, 724, 725, 75]),
  (11, "MatrixDesk$Print", 29, 54, 801, [727, 566, 567, 77]),
  (1, "MatrixDesk$Print", 33, 7, 1, [156]),
  (2, "MatrixDesk$Print", 34, 1, 0, [728, 729]),
  (1, "MatrixDesk$Print", 38, 7, 0, [153]),
  (11, "MatrixDeskLaw", 54, 92, 103, [733, 734, 735, 73]),
  (11, "MatrixDesk", 172, 93, 301, [737, 738, 739, 74]),
  (11, "MatrixDesk", 175, 94, 403, [742, 743, 744, 81]),
  (10, "MatrixDesk$Matrix", 34, 9, 2, [741, 193, 79]),
  (11, "MatrixDesk$Minors", 73, 95, 203, [746, 747, 748, 76]),
  (5, "MatrixDesk$Division", 95, 3, 0, [750]),
  (11, "MatrixDesk$Division", 96, 63, 204, [751, 605, 606, 76]),
  (11, "MatrixDeskLaw", 57, 97, 103, [755, 756, 757, 73]),
  (11, "MatrixDesk", 179, 54, 801, [759, 566, 567, 77]),
  (11, "MatrixDesk", 182, 63, 204, [760, 605, 606, 76]),
  (11, "MatrixDeskLaw", 60, 99, 104, [764, 765, 766, 73]),
  (11, "MatrixDesk", 189, 64, 802, [768, 611, 612, 77]),
  (11, "MatrixDesk", 192, 70, 801, [769, 640, 641, 77]),
  (11, "MatrixDesk", 195, 100, 101, [770, 772, 20, 73]),
  (1, "MatrixDesk", 236, 7, 2, [161]),
  (11, "MatrixDesk", 240, 101, 203, [774, 775, 776, 76]),
  (11, "MatrixDesk", 244, 90, 502, [783, 724, 725, 75]),
  (11, "MatrixDesk", 248, 103, 801, [784, 785, 786, 77]),
  (11, "MatrixDesk$Division", 99, 95, 203, [778, 747, 748, 76]),
  (11, "MatrixDesk$Division", 103, 102, 202, [779, 781, 21, 76]),
  (11, "MatrixDeskLaw", 63, 105, 103, [791, 792, 793, 73]),
  (11, "MatrixDesk", 201, 106, 403, [795, 796, 797, 81]),
  (11, "MatrixDesk$Minors", 79, 85, 403, [799, 704, 705, 81]),
  (11, "MatrixDesk$Minors", 82, 71, 803, [800, 644, 645, 77]),
  (11, "MatrixDeskLaw", 66, 108, 103, [804, 805, 806, 73]),
  (11, "MatrixDeskLaw", 70, 110, 102, [811, 812, 813, 73]),
  (11, "MatrixDesk", 208, 111, 703, [815, 816, 817, 82]),
  (11, "MatrixDesk", 211, 113, 102, [825, 827, 23, 73]),
  (11, "MatrixDesk", 215, 114, 102, [830, 832, 24, 73]),
  (11, "MatrixDesk", 218, 115, 102, [835, 837, 25, 73]),
  (11, "MatrixDesk$Staircase", 85, 112, 703, [819, 821, 22, 82]),
  (11, "MatrixDesk$Staircase", 89, 76, 703, [823, 668, 669, 82]),
  (11, "MatrixDesk$Staircase", 96, 66, 802, [824, 620, 621, 77]),
  (11, "MatrixDesk", 253, 71, 803, [829, 644, 645, 77]),
  (11, "MatrixDesk", 257, 58, 705, [834, 581, 582, 82]),
  (11, "MatrixDesk", 261, 116, 404, [839, 840, 841, 81]),
  (11, "MatrixDesk$Minors", 44, 76, 703, [843, 668, 669, 82]),
  (11, "MatrixDesk$Minors", 49, 64, 802, [844, 611, 612, 77]),
  (20, "MatrixDeskModel", 46, 1000, 0, [850]),
  (5, "MatrixDeskModel", 52, 4, 0, [851]),
  (0, "MatrixDeskModel", 7, 8, 0, [852]),
  (0, "MatrixDeskModel", 13, 8, 1, [853]),
  (0, "MatrixDeskModel", 1, 8, 2, [854]),
  (0, "MatrixDeskModel", 53, 8, 4, [856]),
  (0, "MatrixDeskModel", 57, 8, 5, [857]),
  (0, "MatrixDeskModel", 60, 8, 6, [858]),
  (0, "MatrixDeskModel", 63, 8, 7, [859]),
  (0, "MatrixDeskModel", 66, 8, 10, [862]),
  (0, "MatrixDeskModel", 69, 8, 12, [864]),
  (0, "MatrixDeskModel", 72, 8, 14, [866]),
  (0, "MatrixDeskModel", 75, 8, 16, [868]),
  (0, "MatrixDeskModel", 78, 8, 3, [855]),
  (11, "MatrixDeskModel", 82, 120, 902, [913, 915, 26, 84]),
  (11, "MatrixDeskModel", 86, 121, 904, [917, 919, 27, 84]),
  (11, "MatrixDeskModel", 90, 123, 904, [925, 927, 28, 84]),
  (6, "MatrixDeskModel", 93, 2, 0, [929]),
  (6, "MatrixDeskModel", 95, 1, 0, [930]),
  (11, "MatrixDeskModel", 97, 125, 904, [935, 937, 29, 84]),
  (11, "MatrixDeskModel", 118, 128, 904, [947, 949, 30, 84]),
  (11, "MatrixDeskModel", 105, 129, 903, [951, 953, 31, 84]),
  (11, "MatrixDeskModel", 101, 130, 903, [955, 957, 32, 84]),
  (11, "MatrixDeskModel", 121, 131, 904, [960, 962, 33, 84]),
  (11, "MatrixDeskModel", 125, 139, 904, [994, 996, 41, 84]),
  (6, "MatrixDeskModel", 11, 6, 0, [959]),
  (11, "MatrixDeskModel", 112, 132, 904, [964, 966, 34, 84]),
  (11, "MatrixDeskModel", 115, 134, 904, [973, 975, 36, 84]),
  (6, "MatrixDeskModel", 36, 7, 0, [968]),
  (11, "MatrixDeskModel", 21, 133, 902, [969, 971, 35, 84]),
  (11, "MatrixDeskModel", 25, 135, 903, [977, 979, 37, 84]),
  (11, "MatrixDeskModel", 29, 137, 903, [986, 988, 39, 84]),
  (11, "MatrixDeskModel", 32, 138, 904, [990, 992, 40, 84]),
  (11, "MatrixDeskModel", 16, 136, 903, [981, 983, 38, 84]),
  (5, "MatrixDeskModel", 20, 5, 0, [985]),
  (11, "MatrixDeskModel", 108, 140, 902, [998, 1000, 42, 84]),
  (11, "MatrixDeskModel", 163, 144, 902, [1014, 1016, 43, 84]),
  (11, "MatrixDeskModel", 166, 145, 901, [1018, 1020, 44, 84]),
  (0, "MatrixDeskModel", 128, 8, 8, [860]),
  (0, "MatrixDeskModel", 131, 8, 9, [861]),
  (11, "MatrixDeskModel", 156, 146, 903, [1022, 1024, 45, 84]),
  (11, "MatrixDeskModel", 159, 147, 903, [1026, 1028, 46, 84]),
  (10, "MatrixDeskModel", 134, 148, 1, [1030, 1031, 84]),
  (11, "MatrixDeskModel", 147, 149, 902, [1033, 1035, 47, 84]),
  (11, "MatrixDeskModel", 150, 150, 902, [1037, 1039, 48, 84]),
  (11, "MatrixDeskModel", 141, 151, 902, [1041, 1043, 49, 84]),
  (11, "MatrixDeskModel", 153, 152, 903, [1045, 1047, 50, 84]),
  (11, "MatrixDeskModel", 138, 153, 903, [1049, 1051, 51, 84]),
  (11, "MatrixDeskModel", 144, 154, 904, [1053, 1055, 52, 84]),
  (11, "MatrixDeskModel", 38, 155, 904, [1057, 1059, 53, 84]),
  (11, "MatrixDeskModel", 42, 156, 905, [1061, 1063, 54, 84]),
  (11, "MatrixDeskModel", 203, 158, 901, [1069, 1071, 55, 84]),
  (0, "MatrixDeskModel", 170, 8, 11, [863]),
  (11, "MatrixDeskModel", 191, 159, 901, [1073, 1075, 56, 84]),
  (11, "MatrixDeskModel", 194, 160, 901, [1077, 1079, 57, 84]),
  (11, "MatrixDeskModel", 197, 165, 901, [1097, 1099, 62, 84]),
  (11, "MatrixDeskModel", 200, 167, 901, [1105, 1107, 64, 84]),
  (0, "MatrixDeskModel", 173, 8, 13, [865]),
  (11, "MatrixDeskModel", 176, 161, 903, [1081, 1083, 58, 84]),
  (11, "MatrixDeskModel", 179, 162, 902, [1085, 1087, 59, 84]),
  (11, "MatrixDeskModel", 182, 163, 902, [1089, 1091, 60, 84]),
  (11, "MatrixDeskModel", 185, 164, 904, [1093, 1095, 61, 84]),
  (11, "MatrixDeskModel", 188, 166, 903, [1101, 1103, 63, 84]),
  (11, "MatrixDeskModel", 206, 169, 902, [1113, 1115, 65, 84]),
  (11, "MatrixDeskModel", 209, 170, 902, [1117, 1119, 66, 84]),
  (11, "MatrixDeskModel", 224, 173, 902, [1129, 1131, 67, 84]),
  (0, "MatrixDeskModel", 215, 8, 15, [867]),
  (11, "MatrixDeskModel", 218, 174, 902, [1133, 1135, 68, 84]),
  (11, "MatrixDeskModel", 221, 175, 902, [1137, 1139, 69, 84]),
  (11, "MatrixDeskModel", 212, 176, 902, [1141, 1143, 70, 84]),
  (11, "MatrixDeskModel", 227, 180, 902, [1157, 1159, 71, 84]),
  (3, "MatrixDeskLaw", 8, 0, 0, [91, 92, 73]),
  (12, "MatrixDeskLaw", 73, 0, 101, [93, 94, 73]),
  (3, "MatrixDeskLaw", 74, 8, 0, [845, 846, 84]),
  (12, "MatrixDeskLaw", 76, 117, 901, [847, 848, 84]),
  (10, "MatrixDeskLaw", 77, 19, 4, [334, 335, 72]),
  (11, "MatrixDeskLaw", 82, 119, 904, [909, 910, 911, 84]),
  (11, "MatrixDeskLaw", 83, 118, 901, [905, 906, 907, 84]),
  (6, "MatrixDeskLaw", 87, 8, 0, [1177]),
  (10, "MatrixDeskLaw", 89, 24, 5, [437, 438, 72]),
  (11, "MatrixDeskLaw", 92, 122, 905, [921, 922, 923, 84]),
  (10, "MatrixDeskLaw", 93, 29, 5, [461, 462, 72]),
  (11, "MatrixDeskLaw", 96, 124, 904, [931, 932, 933, 84]),
  (11, "MatrixDeskLaw", 97, 17, 103, [326, 327, 328, 73]),
  (11, "MatrixDeskLaw", 100, 126, 903, [939, 940, 941, 84]),
  (10, "MatrixDeskLaw", 101, 32, 7, [472, 473, 72]),
  (11, "MatrixDeskLaw", 104, 127, 906, [943, 944, 945, 84]),
  (10, "MatrixDeskLaw", 105, 42, 5, [516, 517, 72]),
  (11, "MatrixDeskLaw", 107, 141, 904, [1002, 1003, 1004, 84]),
  (10, "MatrixDeskLaw", 108, 44, 3, [523, 524, 72]),
  (11, "MatrixDeskLaw", 111, 142, 903, [1006, 1007, 1008, 84]),
  (10, "MatrixDeskLaw", 112, 46, 3, [530, 531, 72]),
  (11, "MatrixDeskLaw", 115, 143, 902, [1010, 1011, 1012, 84]),
  (10, "MatrixDeskLaw", 116, 55, 4, [569, 570, 72]),
  (11, "MatrixDeskLaw", 119, 157, 903, [1065, 1066, 1067, 84]),
  (10, "MatrixDeskLaw", 120, 78, 4, [675, 676, 72]),
  (11, "MatrixDeskLaw", 122, 168, 903, [1109, 1110, 1111, 84]),
  (10, "MatrixDeskLaw", 123, 80, 5, [682, 683, 72]),
  (11, "MatrixDeskLaw", 125, 171, 904, [1121, 1122, 1123, 84]),
  (10, "MatrixDeskLaw", 126, 83, 3, [695, 696, 72]),
  (11, "MatrixDeskLaw", 128, 172, 902, [1125, 1126, 1127, 84]),
  (10, "MatrixDeskLaw", 129, 91, 4, [730, 731, 72]),
  (11, "MatrixDeskLaw", 131, 177, 903, [1145, 1146, 1147, 84]),
  (10, "MatrixDeskLaw", 132, 96, 4, [752, 753, 72]),
  (11, "MatrixDeskLaw", 134, 178, 903, [1149, 1150, 1151, 84]),
  (10, "MatrixDeskLaw", 135, 98, 5, [761, 762, 72]),
  (11, "MatrixDeskLaw", 137, 179, 904, [1153, 1154, 1155, 84]),
  (10, "MatrixDeskLaw", 138, 104, 4, [788, 789, 72]),
  (11, "MatrixDeskLaw", 140, 181, 903, [1161, 1162, 1163, 84]),
  (11, "MatrixDeskLaw", 141, 18, 102, [330, 331, 332, 73]),
  (11, "MatrixDeskLaw", 144, 182, 902, [1165, 1166, 1167, 84]),
  (10, "MatrixDeskLaw", 145, 107, 4, [801, 802, 72]),
  (11, "MatrixDeskLaw", 147, 183, 903, [1169, 1170, 1171, 84]),
  (10, "MatrixDeskLaw", 148, 109, 3, [808, 809, 72]),
  (11, "MatrixDeskLaw", 150, 184, 902, [1173, 1174, 1175, 84])]
abbrev z_De_init : Nat := 0
abbrev z_Ma_init : Nat := 1
abbrev z_Pr_init : Nat := 2
abbrev z_Di_init : Nat := 3
abbrev z_Wh_init : Nat := 4
abbrev z_Wh_becomeJ : Nat := 5
abbrev z_Wh_clear : Nat := 6
abbrev z_Wh_widen : Nat := 7
abbrev z_Ar_copyOf : Nat := 8
abbrev z_Mt_min : Nat := 9
abbrev z_Ar_fillI : Nat := 10
abbrev z_Ar_rangeCheck : Nat := 11
abbrev z_Mt_abs : Nat := 12
abbrev z_Wh_trim : Nat := 13
abbrev z_Mi_init : Nat := 14
abbrev z_St_init : Nat := 15
abbrev z_Ro_init : Nat := 16
abbrev z_De_size : Nat := 17
abbrev z_De_character : Nat := 18
abbrev z_La_make : Nat := 19
abbrev z_De_make : Nat := 20
abbrev z_De_matrix : Nat := 21
abbrev z_Ma_reset : Nat := 22
abbrev z_Ar_fillJ : Nat := 23
abbrev z_La_put : Nat := 24
abbrev z_De_put : Nat := 25
abbrev z_De_matrixWith : Nat := 26
abbrev z_Ma_has : Nat := 27
abbrev z_Ma_write : Nat := 28
abbrev z_La_at : Nat := 29
abbrev z_De_at : Nat := 30
abbrev z_Ma_number : Nat := 31
abbrev z_La_combine : Nat := 32
abbrev z_De_combine : Nat := 33
abbrev z_De_addToSum : Nat := 34
abbrev z_Wh_addProduct : Nat := 35
abbrev z_Mt_max : Nat := 36
abbrev z_Wh_addLine : Nat := 37
abbrev z_Wh_straighten : Nat := 38
abbrev z_Wh_fits : Nat := 39
abbrev z_Wh_value : Nat := 40
abbrev z_Ma_become : Nat := 41
abbrev z_La_multiply : Nat := 42
abbrev z_De_multiply : Nat := 43
abbrev z_La_turn : Nat := 44
abbrev z_De_turn : Nat := 45
abbrev z_La_rank : Nat := 46
abbrev z_De_rank : Nat := 47
abbrev z_Mi_read : Nat := 48
abbrev z_Mi_independentRows : Nat := 49
abbrev z_De_all : Nat := 50
abbrev z_Mi_takeRow : Nat := 51
abbrev z_In_bitCount : Nat := 52
abbrev z_Mi_hasMinor : Nat := 53
abbrev z_Wh_isZero : Nat := 54
abbrev z_La_hermite : Nat := 55
abbrev z_De_hermite : Nat := 56
abbrev z_St_climb : Nat := 57
abbrev z_St_load : Nat := 58
abbrev z_Ro_clear : Nat := 59
abbrev z_Ro_lead : Nat := 60
abbrev z_St_meet : Nat := 61
abbrev z_St_lower : Nat := 62
abbrev z_Di_divide : Nat := 63
abbrev z_Wh_becomeW : Nat := 64
abbrev z_Wh_overDigit : Nat := 65
abbrev z_Wh_isSmallerThan : Nat := 66
abbrev z_Di_divideLong : Nat := 67
abbrev z_Wh_timesDigit : Nat := 68
abbrev z_Di_guess : Nat := 69
abbrev z_Wh_negate : Nat := 70
abbrev z_Wh_add : Nat := 71
abbrev z_St_settle : Nat := 72
abbrev z_St_keepSpare : Nat := 73
abbrev z_Ro_turnSigns : Nat := 74
abbrev z_De_copyStairs : Nat := 75
abbrev z_St_number : Nat := 76
abbrev z_St_leadsBefore : Nat := 77
abbrev z_La_kernel : Nat := 78
abbrev z_De_kernel : Nat := 79
abbrev z_La_solve : Nat := 80
abbrev z_De_solve : Nat := 81
abbrev z_St_spareRow : Nat := 82
abbrev z_La_determinant : Nat := 83
abbrev z_De_determinant : Nat := 84
abbrev z_Mi_minor : Nat := 85
abbrev z_Mi_takeRows : Nat := 86
abbrev z_De_printWhole : Nat := 87
abbrev z_Pr_clear : Nat := 88
abbrev z_Pr_whole : Nat := 89
abbrev z_Pr_letter : Nat := 90
abbrev z_La_divisor : Nat := 91
abbrev z_De_divisor : Nat := 92
abbrev z_Ma_lesserSide : Nat := 93
abbrev z_Mi_commonDivisor : Nat := 94
abbrev z_Di_commonDivisor : Nat := 95
abbrev z_La_factor : Nat := 96
abbrev z_De_factor : Nat := 97
abbrev z_La_inverse : Nat := 98
abbrev z_De_inverse : Nat := 99
abbrev z_De_printFraction : Nat := 100
abbrev z_Di_lowerTerms : Nat := 101
abbrev z_Di_lower : Nat := 102
abbrev z_Wh_isOne : Nat := 103
abbrev z_La_characteristic : Nat := 104
abbrev z_De_characteristic : Nat := 105
abbrev z_Mi_principalSum : Nat := 106
abbrev z_La_same : Nat := 107
abbrev z_De_same : Nat := 108
abbrev z_La_check : Nat := 109
abbrev z_De_check : Nat := 110
abbrev z_St_isHermite : Nat := 111
abbrev z_St_isLead : Nat := 112
abbrev z_De_stepsComeToForm : Nat := 113
abbrev z_De_stepsGoBack : Nat := 114
abbrev z_De_stepsHaveUnitDeterminant : Nat := 115
abbrev z_Mi_readSquare : Nat := 116
abbrev z_Mo_init : Nat := 117
abbrev z_Mo_thrown : Nat := 118
abbrev z_Mo_make : Nat := 119
abbrev z_Mo_isMatrix : Nat := 120
abbrev z_Mo_clear : Nat := 121
abbrev z_Mo_put : Nat := 122
abbrev z_Mo_isPlace : Nat := 123
abbrev z_Mo_at : Nat := 124
abbrev z_Mo_number : Nat := 125
abbrev z_Mo_size : Nat := 126
abbrev z_Mo_combine : Nat := 127
abbrev z_Mo_areThere : Nat := 128
abbrev z_Mo_result : Nat := 129
abbrev z_Mo_bigSet : Nat := 130
abbrev z_Mo_addTimes : Nat := 131
abbrev z_Mo_bigProduct : Nat := 132
abbrev z_Mo_bigTrim : Nat := 133
abbrev z_Mo_bigAdd : Nat := 134
abbrev z_Mo_bigMore : Nat := 135
abbrev z_Mo_bigAt : Nat := 136
abbrev z_Mo_bigSizes : Nat := 137
abbrev z_Mo_bigDiffer : Nat := 138
abbrev z_Mo_give : Nat := 139
abbrev z_Mo_bigValue : Nat := 140
abbrev z_Mo_multiply : Nat := 141
abbrev z_Mo_turn : Nat := 142
abbrev z_Mo_rank : Nat := 143
abbrev z_Mo_lookAt : Nat := 144
abbrev z_Mo_rankOf : Nat := 145
abbrev z_Mo_least : Nat := 146
abbrev z_Mo_divisorOf : Nat := 147
abbrev z_Mo_sizeOf : Nat := 148
abbrev z_Mo_pick : Nat := 149
abbrev z_Mo_findMinors : Nat := 150
abbrev z_Mo_bigIsZero : Nat := 151
abbrev z_Mo_divide : Nat := 152
abbrev z_Mo_bigCopy : Nat := 153
abbrev z_Mo_bigDivide : Nat := 154
abbrev z_Mo_bigHolds : Nat := 155
abbrev z_Mo_bigLose : Nat := 156
abbrev z_Mo_hermite : Nat := 157
abbrev z_Mo_findForm : Nat := 158
abbrev z_Mo_findLeads : Nat := 159
abbrev z_Mo_bring : Nat := 160
abbrev z_Mo_cell : Nat := 161
abbrev z_Mo_remain : Nat := 162
abbrev z_Mo_gather : Nat := 163
abbrev z_Mo_lose : Nat := 164
abbrev z_Mo_shorten : Nat := 165
abbrev z_Mo_floor : Nat := 166
abbrev z_Mo_fill : Nat := 167
abbrev z_Mo_kernel : Nat := 168
abbrev z_Mo_lookBeside : Nat := 169
abbrev z_Mo_kernelFrom : Nat := 170
abbrev z_Mo_solve : Nat := 171
abbrev z_Mo_determinant : Nat := 172
abbrev z_Mo_say : Nat := 173
abbrev z_Mo_bigSign : Nat := 174
abbrev z_Mo_sayMore : Nat := 175
abbrev z_Mo_bigTenth : Nat := 176
abbrev z_Mo_divisor : Nat := 177
abbrev z_Mo_factor : Nat := 178
abbrev z_Mo_inverse : Nat := 179
abbrev z_Mo_bigIsOne : Nat := 180
abbrev z_Mo_characteristic : Nat := 181
abbrev z_Mo_character : Nat := 182
abbrev z_Mo_same : Nat := 183
abbrev z_Mo_check : Nat := 184
abbrev z_La_law : Nat := 185
end
section
/-! what the tables are checked for -/
def ax_fl (own : String) (idx a b : Nat) : Option Jvm.Cond := match cls_all[a]? with
  | some q => if b < q.2.2 && (q.2.1 b).1 == q.1 then some (.fieldLink own idx q.1 (q.2.1 b).2.1 (q.2.1 b).2.2.1) else none
  | none => none
def ax_fln (own : String) (idx a b : Nat) : Option Jvm.Cond := match cls_all[a]? with
  | some q => if b < q.2.2 && (q.2.1 b).1 == q.1 then some (.fieldLinkNest own idx q.1 (q.2.1 b).2.1 (q.2.1 b).2.2.1 "MatrixDesk") else none
  | none => none
def ax_inl (i : Nat) (c : Option Jvm.Cond) : Bool := match c with
  | some w => decide (lw_tbl[i]? = some w)
  | none => false
def ax_npar (d : String) : Option Nat := (parseMethodDescriptor d).map (fun q => q.parameters.length)
def ax_yok (y : MethodName) : Bool := decide (y.cls ≠ "java/lang/invoke/MethodHandle") && decide (y.cls ≠ "java/lang/invoke/VarHandle")
/-- the name of an exception's constructor -/
def ax_xn (t : Nat) : MethodName := ⟨if t = 9 then R_Io else R_Ia, "<init>", "(Ljava/lang/String;)V"⟩
def ax_txt (k : Nat) : String := if k = 2 then "there is no such matrix" else if k = 3 then "rows and columns are 1 to 6" else if k = 4 then "there is no such row or column" else "a number is below 10^18 in size"
abbrev ax_P5 : Type := String × Nat × Nat × Nat × List Nat
def ax_pc0 (q : ax_P5) : Bool := match q.2.2.2.2 with
  | [i] => ax_inl i (ax_fl q.1 q.2.1 q.2.2.1 q.2.2.2.1)
  | _ => false
def ax_pc1 (q : ax_P5) : Bool := match q.2.2.2.2 with
  | [i] => ax_inl i (ax_fln q.1 q.2.1 q.2.2.1 q.2.2.2.1)
  | _ => false
def ax_pc2 (q : ax_P5) : Bool := match q.2.2.2.2 with
  | [i, _] => decide (q.2.2.1 = 1) && ax_inl i (some (.fieldLinkNest q.1 q.2.1 "MatrixDesk" "UNITS" "[I" "MatrixDesk"))
  | _ => false
def ax_pc3 (q : ax_P5) : Bool := match q.2.2.2.2, cls_all[q.2.2.1]? with
  | [i, j, k], some c => decide (q.2.2.1 < 11) && ax_inl i (some (.classLink q.1 q.2.1 c.1)) && ax_inl j (some (.instantiable c.1 c.2.2)) && ax_inl k (some (.initialized c.1))
  | _, _ => false
def ax_pc4 (q : ax_P5) : Bool := match q.2.2.2.2, cls_all[q.2.2.1]? with
  | [i, j], some c => decide (ax_ty (30 + q.2.2.1) = some (.object c.1)) && ax_inl i (some (.classLink q.1 q.2.1 c.1)) && ax_inl j (some (.arrayOver (.object c.1)))
  | _, _ => false
def ax_pc5 (q : ax_P5) : Bool := match q.2.2.2.2, ax_kI[q.2.2.1]? with
  | [i], some x => ax_inl i (some (.constant q.1 q.2.1 x))
  | _, _ => false
def ax_pc6 (q : ax_P5) : Bool := match q.2.2.2.2, ax_kJ[q.2.2.1]? with
  | [i], some x => ax_inl i (some (.constantLong q.1 q.2.1 x))
  | _, _ => false
def ax_ix (a : Nat) : Nat := if a = 2 then 223 else if a = 3 then 69 else if a = 4 then 226 else 86
def ax_pc7 (q : ax_P5) : Bool := match q.2.2.2.2 with
  | [i] => decide (2 ≤ q.2.2.1) && decide (q.2.2.1 < 6) && decide (q.1 = "MatrixDesk") && decide (q.2.1 = ax_ix q.2.2.1) && ax_inl i (some (.stringRef q.1 q.2.1 (ax_txt q.2.2.1)))
  | _ => false
/-- a link of either kind -/
def ax_ml (nest : Bool) (own : String) (idx : Nat) (y : MethodName) : Jvm.Cond := if nest then .methodLinkNest own idx y "MatrixDesk" else .methodLink own idx y
def ax_pcS (nest : Bool) (q : ax_P5) : Bool := match q.2.2.2.2, ax_who[q.2.2.1]? with
  | [i, j, k], some y => ax_yok y.1 && decide (q.2.2.2.1 < 100) && decide (ax_npar y.1.desc = some q.2.2.2.1) && ax_inl i (some (ax_ml nest q.1 q.2.1 y.1)) && ax_inl j (some (.static y.1)) && ax_inl k (some (.initialized y.1.cls))
  | _, _ => false
def ax_pcV (nest : Bool) (q : ax_P5) : Bool := match q.2.2.2.2, ax_who[q.2.2.1]? with
  | [i, j, k, n], some y => ax_yok y.1 && decide (100 ≤ q.2.2.2.1) && decide ((cls_all[q.2.2.2.1 / 100 - 1]?).map (fun c => c.1) = some y.1.cls) && decide (q.2.2.2.1 / 100 - 1 < 11) && decide ((ax_npar y.1.desc).map (fun z => z + 1) = some (q.2.2.2.1 % 100)) && ax_inl i (some (ax_ml nest q.1 q.2.1 y.1)) && ax_inl j (some (.instanceMethod y.1)) && ax_inl k (some (.selects y.1.cls y.1 y.1)) && ax_inl n (some (.initialized y.1.cls))
  | _, _ => false
def ax_pcI (nest : Bool) (q : ax_P5) : Bool := match q.2.2.2.2, ax_who[q.2.2.1]? with
  | [i, j, k], some y => ax_yok y.1 && decide (y.1.name = "<init>") && decide (y.2.2.1 = none) && decide (100 ≤ q.2.2.2.1) && decide ((ax_npar y.1.desc).map (fun z => z + 1) = some (q.2.2.2.1 % 100)) && ax_inl i (some (ax_ml nest q.1 q.2.1 y.1)) && ax_inl j (some (.instanceMethod y.1)) && ax_inl k (some (.initialized y.1.cls))
  | _, _ => false
def ax_pcO (y : MethodName) (q : ax_P5) : Bool := match q.2.2.2.2 with
  | [i] => ax_inl i (some (.methodLink q.1 q.2.1 y))
  | _ => false
def ax_pchk (q : Nat × ax_P5) : Bool := match q.1 with
  | 0 => ax_pc0 q.2
  | 1 => ax_pc1 q.2
  | 2 => ax_pc2 q.2
  | 3 => ax_pc3 q.2
  | 4 => ax_pc4 q.2
  | 5 => ax_pc5 q.2
  | 6 => ax_pc6 q.2
  | 7 => ax_pc7 q.2
  | 10 => ax_pcS false q.2
  | 13 => ax_pcS true q.2
  | 11 => ax_pcV false q.2
  | 14 => ax_pcV true q.2
  | 12 => ax_pcI false q.2
  | 15 => ax_pcI true q.2
  | 20 => ax_pcO Lib.objectInit q.2
  | 21 => (decide (q.2.2.2.2.1 = 9) || decide (q.2.2.2.2.1 = 10)) && ax_pcO (ax_xn q.2.2.2.2.1) q.2
  | 22 => ax_pcO arraycopyName q.2
  | _ => false
/-- the pool's entry j is of one of these kinds, of this owner and index, and gives a and b -/
def ax_pj (j : Nat) (ks : List Nat) (own : String) (idx a b : Nat) : Bool := match ax_pool[j]? with
  | some (k, o, i, a', b', _) => ks.contains k && decide (i = idx) && decide (a' = a) && decide (b' = b) && decide (o = own)
  | none => false
def ax_echk (own : String) (isInit : Bool) (pc : Nat) (e : ax_E) : Bool := match e.1 with
  | .tableswitch d _ _ offs => decide (0 ≤ (pc : Int) + d) && offs.all (fun o => decide (0 ≤ (pc : Int) + o))
  | .goto off => decide (e.2.1 = 3) && decide ((pc : Int) + off = (e.2.2.1 : Int))
  | .ifCond _ off => decide (e.2.1 = 3) && decide ((pc : Int) + off = (e.2.2.1 : Int))
  | .if_icmp _ off => decide (e.2.1 = 3) && decide ((pc : Int) + off = (e.2.2.1 : Int))
  | .getfield idx => decide (e.2.1 = 3) && ax_pj e.2.2.2.2 [0, 1] own idx e.2.2.1 e.2.2.2.1 && decide (e.2.2.1 < 9)
  | .putfield idx => decide (e.2.1 = 3) && ax_pj e.2.2.2.2 [0, 1] own idx e.2.2.1 e.2.2.2.1 && decide (e.2.2.1 < 9) && (match cls_all[e.2.2.1]? with
    | some q => !(q.2.1 e.2.2.2.1).2.2.2 || (isInit && decide (q.1 = own) && ax_pj e.2.2.2.2 [0] own idx e.2.2.1 e.2.2.2.1)
    | none => false)
  | .getstatic idx => decide (e.2.1 = 3) && ax_pj e.2.2.2.2 [2] own idx e.2.2.1 e.2.2.2.1
  | .new idx => decide (e.2.1 = 3) && ax_pj e.2.2.2.2 [3] own idx e.2.2.1 e.2.2.2.1
  | .anewarray idx => decide (e.2.1 = 3) && ax_pj e.2.2.2.2 [4] own idx e.2.2.1 e.2.2.2.1
  | .ldc idx => decide (e.2.1 = 2) && ((decide (e.2.2.2.1 = 0) && ax_pj e.2.2.2.2 [5] own idx e.2.2.1 0) || (decide (e.2.2.2.1 = 1) && ax_pj e.2.2.2.2 [7] own idx e.2.2.1 0))
  | .ldc_w idx => decide (e.2.1 = 3) && decide (e.2.2.2.1 = 0) && ax_pj e.2.2.2.2 [5] own idx e.2.2.1 0
  | .ldc2_w idx => decide (e.2.1 = 3) && ax_pj e.2.2.2.2 [6] own idx e.2.2.1 0
  | .invokevirtual idx => decide (e.2.1 = 3) && decide (e.2.2.1 < 1000) && ax_pj e.2.2.2.2 [11, 14] own idx e.2.2.1 e.2.2.2.1
  | .invokestatic idx => decide (e.2.1 = 3) && ((decide (e.2.2.1 = 1002) && ax_pj e.2.2.2.2 [22] own idx 1002 0) || (decide (e.2.2.1 < 1000) && ax_pj e.2.2.2.2 [10, 13] own idx e.2.2.1 e.2.2.2.1))
  | .invokespecial idx => decide (e.2.1 = 3) && ((decide (e.2.2.1 = 1000) && ax_pj e.2.2.2.2 [20] own idx 1000 0) || (decide (e.2.2.1 = 1001) && (ax_pj e.2.2.2.2 [21] own idx 1001 9 || ax_pj e.2.2.2.2 [21] own idx 1001 10)) || (decide (e.2.2.1 < 1000) && ax_pj e.2.2.2.2 [12, 15] own idx e.2.2.1 e.2.2.2.1))
  | i => decide (e.2.1 = ax_len i)
def ax_cchk (own : String) (isInit : Bool) (bytes : ByteArray) : Nat → List (Option ax_E) → Bool
  | _, [] => true
  | pc, none :: r => ax_cchk own isInit bytes (pc + 1) r
  | pc, some e :: r => decide (decode bytes pc = .ok (e.1, e.2.1)) && ax_echk own isInit pc e && ax_cchk own isInit bytes (pc + 1) r
def ax_rk (rk : Nat) (ret : Option FieldType) : Bool := match rk, ret with
  | 0, none => true
  | 1, some .int => true
  | 2, some .boolean => true
  | 3, some .long => true
  | 4, some (.object _) => true
  | 4, some (.array _) => true
  | _, _ => false
/-- the handlers as the words have them -/
def ax_ht (tab : List (Nat × Nat × Nat × Nat)) : List (Nat × Nat × Nat × Nat) := tab.map (fun q => (q.1, q.2.1, q.2.2.1, if q.2.2.2 = 9 then 13 else 15))
def ax_cw (y : MethodName) (bytes : ByteArray) (maxL : Nat) (ret : Option FieldType) (tab : List (Nat × Nat × Nat × Nat)) : Jvm.Cond := if tab.isEmpty then .code y bytes maxL ret else .codeWith y bytes maxL ret (ax_ht tab)
def ax_mchk (z : Nat) : Bool := match ax_prog[z]?, ax_who[z]? with
  | some M, some y => ax_cchk y.1.cls (decide (y.1.name = "<init>")) y.2.1 0 M.1 && ax_rk M.2.2.1 y.2.2.1 && plainFor y.1 && (decide (z = 185) || ax_inl y.2.2.2 (some (ax_cw y.1 y.2.1 M.2.1 y.2.2.1 M.2.2.2))) && (M.2.2.2.isEmpty || decide (y.1.cls = "MatrixDeskLaw")) && M.2.2.2.all (fun q => decide (q.2.2.2 = 9) || decide (q.2.2.2 = 10))
  | _, _ => false
end
section
-- the pool holds
set_option maxRecDepth 100000 in
theorem ax_pool1 : (ax_pool.take 120).all ax_pchk = true := by decide +kernel
set_option maxRecDepth 100000 in
theorem ax_pool2 : ((ax_pool.drop 120).take 120).all ax_pchk = true := by decide +kernel
set_option maxRecDepth 100000 in
theorem ax_pool3 : (ax_pool.drop 240).all ax_pchk = true := by decide +kernel
theorem ax_poolOk : ∀ q ∈ ax_pool, ax_pchk q = true := by
  intro q hq
  have e : ax_pool = ax_pool.take 120 ++ ((ax_pool.drop 120).take 120 ++ ax_pool.drop 240) := by
    rw [show ax_pool.drop 240 = (ax_pool.drop 120).drop 120 from by rw [List.drop_drop], List.take_append_drop, List.take_append_drop]
  rw [e] at hq
  rcases List.mem_append.mp hq with h | h
  · exact List.all_eq_true.mp ax_pool1 q h
  · rcases List.mem_append.mp h with h | h
    · exact List.all_eq_true.mp ax_pool2 q h
    · exact List.all_eq_true.mp ax_pool3 q h
end
section
-- the methods' tables hold
set_option maxRecDepth 100000 in
theorem ax_bk_0 : ([0, 1, 2, 3, 4] : List Nat).all ax_mchk = true := by decide +kernel
set_option maxRecDepth 100000 in
theorem ax_bk_1 : ([5, 6, 7, 8, 9, 10, 11] : List Nat).all ax_mchk = true := by decide +kernel
set_option maxRecDepth 100000 in
theorem ax_bk_2 : ([12, 13, 14, 15] : List Nat).all ax_mchk = true := by decide +kernel
set_option maxRecDepth 100000 in
theorem ax_bk_3 : ([16, 17, 18, 19, 20, 21, 22] : List Nat).all ax_mchk = true := by decide +kernel
set_option maxRecDepth 100000 in
theorem ax_bk_4 : ([23, 24, 25, 26, 27, 28, 29, 30] : List Nat).all ax_mchk = true := by decide +kernel
set_option maxRecDepth 100000 in
theorem ax_bk_5 : ([31, 32, 33, 34] : List Nat).all ax_mchk = true := by decide +kernel
set_option maxRecDepth 100000 in
theorem ax_bk_6 : ([35, 36, 37] : List Nat).all ax_mchk = true := by decide +kernel
set_option maxRecDepth 100000 in
theorem ax_bk_7 : ([38, 39, 40, 41, 42] : List Nat).all ax_mchk = true := by decide +kernel
set_option maxRecDepth 100000 in
theorem ax_bk_8 : ([43, 44, 45] : List Nat).all ax_mchk = true := by decide +kernel
set_option maxRecDepth 100000 in
theorem ax_bk_9 : ([46, 47, 48, 49, 50, 51] : List Nat).all ax_mchk = true := by decide +kernel
set_option maxRecDepth 100000 in
theorem ax_bk_10 : ([52, 53, 54, 55, 56] : List Nat).all ax_mchk = true := by decide +kernel
set_option maxRecDepth 100000 in
theorem ax_bk_11 : ([57, 58] : List Nat).all ax_mchk = true := by decide +kernel
end
section
-- the methods' tables hold
set_option maxRecDepth 100000 in
theorem ax_bk_12 : ([59, 60, 61, 62] : List Nat).all ax_mchk = true := by decide +kernel
set_option maxRecDepth 100000 in
theorem ax_bk_13 : ([63, 64, 65] : List Nat).all ax_mchk = true := by decide +kernel
set_option maxRecDepth 100000 in
theorem ax_bk_14 : ([66, 67] : List Nat).all ax_mchk = true := by decide +kernel
set_option maxRecDepth 100000 in
theorem ax_bk_15 : ([68, 69] : List Nat).all ax_mchk = true := by decide +kernel
set_option maxRecDepth 100000 in
theorem ax_bk_16 : ([70, 71, 72, 73] : List Nat).all ax_mchk = true := by decide +kernel
set_option maxRecDepth 100000 in
theorem ax_bk_17 : ([74, 75, 76, 77, 78, 79] : List Nat).all ax_mchk = true := by decide +kernel
set_option maxRecDepth 100000 in
theorem ax_bk_18 : ([80, 81, 82] : List Nat).all ax_mchk = true := by decide +kernel
set_option maxRecDepth 100000 in
theorem ax_bk_19 : ([83, 84, 85, 86, 87, 88, 89] : List Nat).all ax_mchk = true := by decide +kernel
set_option maxRecDepth 100000 in
theorem ax_bk_20 : ([90, 91, 92, 93, 94, 95] : List Nat).all ax_mchk = true := by decide +kernel
set_option maxRecDepth 100000 in
theorem ax_bk_21 : ([96, 97, 98, 99] : List Nat).all ax_mchk = true := by decide +kernel
set_option maxRecDepth 100000 in
theorem ax_bk_22 : ([100, 101, 102, 103, 104, 105] : List Nat).all ax_mchk = true := by decide +kernel
set_option maxRecDepth 100000 in
theorem ax_bk_23 : ([106, 107, 108, 109, 110] : List Nat).all ax_mchk = true := by decide +kernel
end
section
-- the methods' tables hold
set_option maxRecDepth 100000 in
theorem ax_bk_24 : ([111, 112, 113] : List Nat).all ax_mchk = true := by decide +kernel
set_option maxRecDepth 100000 in
theorem ax_bk_25 : ([114, 115, 116, 117] : List Nat).all ax_mchk = true := by decide +kernel
set_option maxRecDepth 100000 in
theorem ax_bk_26 : ([118, 119, 120, 121, 122, 123] : List Nat).all ax_mchk = true := by decide +kernel
set_option maxRecDepth 100000 in
theorem ax_bk_27 : ([124, 125, 126, 127] : List Nat).all ax_mchk = true := by decide +kernel
set_option maxRecDepth 100000 in
theorem ax_bk_28 : ([128, 129, 130, 131, 132] : List Nat).all ax_mchk = true := by decide +kernel
set_option maxRecDepth 100000 in
theorem ax_bk_29 : ([133, 134, 135] : List Nat).all ax_mchk = true := by decide +kernel
set_option maxRecDepth 100000 in
theorem ax_bk_30 : ([136, 137, 138] : List Nat).all ax_mchk = true := by decide +kernel
set_option maxRecDepth 100000 in
theorem ax_bk_31 : ([139, 140, 141] : List Nat).all ax_mchk = true := by decide +kernel
set_option maxRecDepth 100000 in
theorem ax_bk_32 : ([142, 143, 144, 145] : List Nat).all ax_mchk = true := by decide +kernel
set_option maxRecDepth 100000 in
theorem ax_bk_33 : ([146, 147, 148, 149, 150] : List Nat).all ax_mchk = true := by decide +kernel
set_option maxRecDepth 100000 in
theorem ax_bk_34 : ([151, 152, 153, 154] : List Nat).all ax_mchk = true := by decide +kernel
set_option maxRecDepth 100000 in
theorem ax_bk_35 : ([155, 156] : List Nat).all ax_mchk = true := by decide +kernel
end
section
-- the methods' tables hold
set_option maxRecDepth 100000 in
theorem ax_bk_36 : ([157, 158, 159] : List Nat).all ax_mchk = true := by decide +kernel
set_option maxRecDepth 100000 in
theorem ax_bk_37 : ([160, 161, 162] : List Nat).all ax_mchk = true := by decide +kernel
set_option maxRecDepth 100000 in
theorem ax_bk_38 : ([163, 164] : List Nat).all ax_mchk = true := by decide +kernel
set_option maxRecDepth 100000 in
theorem ax_bk_39 : ([165, 166] : List Nat).all ax_mchk = true := by decide +kernel
set_option maxRecDepth 100000 in
theorem ax_bk_40 : ([167] : List Nat).all ax_mchk = true := by decide +kernel
set_option maxRecDepth 100000 in
theorem ax_bk_41 : ([168, 169] : List Nat).all ax_mchk = true := by decide +kernel
set_option maxRecDepth 100000 in
theorem ax_bk_42 : ([170, 171] : List Nat).all ax_mchk = true := by decide +kernel
set_option maxRecDepth 100000 in
theorem ax_bk_43 : ([172, 173, 174, 175] : List Nat).all ax_mchk = true := by decide +kernel
set_option maxRecDepth 100000 in
theorem ax_bk_44 : ([176, 177, 178] : List Nat).all ax_mchk = true := by decide +kernel
set_option maxRecDepth 100000 in
theorem ax_bk_45 : ([179] : List Nat).all ax_mchk = true := by decide +kernel
set_option maxRecDepth 100000 in
theorem ax_bk_46 : ([180, 181, 182] : List Nat).all ax_mchk = true := by decide +kernel
set_option maxRecDepth 100000 in
theorem ax_bk_47 : ([183, 184] : List Nat).all ax_mchk = true := by decide +kernel
end
section
-- the law's own table holds, piece by piece
set_option maxRecDepth 100000 in
theorem ax_lw_0 : ax_cchk "MatrixDeskLaw" false code 0 ((k_La_law.drop 0).take 150) = true := by decide +kernel
set_option maxRecDepth 100000 in
theorem ax_lw_150 : ax_cchk "MatrixDeskLaw" false code 150 ((k_La_law.drop 150).take 150) = true := by decide +kernel
set_option maxRecDepth 100000 in
theorem ax_lw_300 : ax_cchk "MatrixDeskLaw" false code 300 ((k_La_law.drop 300).take 150) = true := by decide +kernel
set_option maxRecDepth 100000 in
theorem ax_lw_450 : ax_cchk "MatrixDeskLaw" false code 450 ((k_La_law.drop 450).take 150) = true := by decide +kernel
set_option maxRecDepth 100000 in
theorem ax_lw_600 : ax_cchk "MatrixDeskLaw" false code 600 ((k_La_law.drop 600).take 150) = true := by decide +kernel
set_option maxRecDepth 100000 in
theorem ax_lw_750 : ax_cchk "MatrixDeskLaw" false code 750 ((k_La_law.drop 750).take 150) = true := by decide +kernel
set_option maxRecDepth 100000 in
theorem ax_lw_900 : ax_cchk "MatrixDeskLaw" false code 900 ((k_La_law.drop 900).take 150) = true := by decide +kernel
set_option maxRecDepth 100000 in
theorem ax_lw_1050 : ax_cchk "MatrixDeskLaw" false code 1050 ((k_La_law.drop 1050).take 150) = true := by decide +kernel
set_option maxRecDepth 100000 in
theorem ax_lw_1200 : ax_cchk "MatrixDeskLaw" false code 1200 ((k_La_law.drop 1200).take 150) = true := by decide +kernel
set_option maxRecDepth 100000 in
theorem ax_lw_1350 : ax_cchk "MatrixDeskLaw" false code 1350 (k_La_law.drop 1350) = true := by decide +kernel
end
section
-- the law's own table holds; and so all do
theorem ax_cchk_app (own : String) (b : Bool) (bytes : ByteArray) (l1 l2 : List (Option ax_E)) : ∀ q, ax_cchk own b bytes q (l1 ++ l2) = (ax_cchk own b bytes q l1 && ax_cchk own b bytes (q + l1.length) l2) := by
  induction l1 with
  | nil => intro q; rfl
  | cons x r ih =>
    intro q
    cases x with
    | none =>
      show ax_cchk own b bytes (q + 1) (r ++ l2) = (ax_cchk own b bytes (q + 1) r && _)
      rw [ih, List.length_cons, show q + 1 + r.length = q + (r.length + 1) from by omega]
    | some e =>
      show (decide (decode bytes q = .ok (e.1, e.2.1)) && ax_echk own b q e && ax_cchk own b bytes (q + 1) (r ++ l2)) = ((decide (decode bytes q = .ok (e.1, e.2.1)) && ax_echk own b q e && ax_cchk own b bytes (q + 1) r) && _)
      rw [ih, List.length_cons, show q + 1 + r.length = q + (r.length + 1) from by omega]
      simp only [Bool.and_assoc]
theorem ax_lw_len : k_La_law.length = 1420 := by decide +kernel
theorem ax_lc_1200 : ax_cchk "MatrixDeskLaw" false code 1200 (k_La_law.drop 1200) = true := by
  have e : k_La_law.drop 1200 = (k_La_law.drop 1200).take 150 ++ k_La_law.drop 1350 := by
    rw [show k_La_law.drop 1350 = (k_La_law.drop 1200).drop 150 from by rw [List.drop_drop], List.take_append_drop]
  have hl : ((k_La_law.drop 1200).take 150).length = 150 := by rw [List.length_take, List.length_drop, ax_lw_len]; rfl
  rw [e, ax_cchk_app, ax_lw_1200, hl, Bool.true_and, show (1200 + 150 : Nat) = 1350 from rfl]
  exact ax_lw_1350
theorem ax_lc_1050 : ax_cchk "MatrixDeskLaw" false code 1050 (k_La_law.drop 1050) = true := by
  have e : k_La_law.drop 1050 = (k_La_law.drop 1050).take 150 ++ k_La_law.drop 1200 := by
    rw [show k_La_law.drop 1200 = (k_La_law.drop 1050).drop 150 from by rw [List.drop_drop], List.take_append_drop]
  have hl : ((k_La_law.drop 1050).take 150).length = 150 := by rw [List.length_take, List.length_drop, ax_lw_len]; rfl
  rw [e, ax_cchk_app, ax_lw_1050, hl, Bool.true_and, show (1050 + 150 : Nat) = 1200 from rfl]
  exact ax_lc_1200
theorem ax_lc_900 : ax_cchk "MatrixDeskLaw" false code 900 (k_La_law.drop 900) = true := by
  have e : k_La_law.drop 900 = (k_La_law.drop 900).take 150 ++ k_La_law.drop 1050 := by
    rw [show k_La_law.drop 1050 = (k_La_law.drop 900).drop 150 from by rw [List.drop_drop], List.take_append_drop]
  have hl : ((k_La_law.drop 900).take 150).length = 150 := by rw [List.length_take, List.length_drop, ax_lw_len]; rfl
  rw [e, ax_cchk_app, ax_lw_900, hl, Bool.true_and, show (900 + 150 : Nat) = 1050 from rfl]
  exact ax_lc_1050
theorem ax_lc_750 : ax_cchk "MatrixDeskLaw" false code 750 (k_La_law.drop 750) = true := by
  have e : k_La_law.drop 750 = (k_La_law.drop 750).take 150 ++ k_La_law.drop 900 := by
    rw [show k_La_law.drop 900 = (k_La_law.drop 750).drop 150 from by rw [List.drop_drop], List.take_append_drop]
  have hl : ((k_La_law.drop 750).take 150).length = 150 := by rw [List.length_take, List.length_drop, ax_lw_len]; rfl
  rw [e, ax_cchk_app, ax_lw_750, hl, Bool.true_and, show (750 + 150 : Nat) = 900 from rfl]
  exact ax_lc_900
theorem ax_lc_600 : ax_cchk "MatrixDeskLaw" false code 600 (k_La_law.drop 600) = true := by
  have e : k_La_law.drop 600 = (k_La_law.drop 600).take 150 ++ k_La_law.drop 750 := by
    rw [show k_La_law.drop 750 = (k_La_law.drop 600).drop 150 from by rw [List.drop_drop], List.take_append_drop]
  have hl : ((k_La_law.drop 600).take 150).length = 150 := by rw [List.length_take, List.length_drop, ax_lw_len]; rfl
  rw [e, ax_cchk_app, ax_lw_600, hl, Bool.true_and, show (600 + 150 : Nat) = 750 from rfl]
  exact ax_lc_750
theorem ax_lc_450 : ax_cchk "MatrixDeskLaw" false code 450 (k_La_law.drop 450) = true := by
  have e : k_La_law.drop 450 = (k_La_law.drop 450).take 150 ++ k_La_law.drop 600 := by
    rw [show k_La_law.drop 600 = (k_La_law.drop 450).drop 150 from by rw [List.drop_drop], List.take_append_drop]
  have hl : ((k_La_law.drop 450).take 150).length = 150 := by rw [List.length_take, List.length_drop, ax_lw_len]; rfl
  rw [e, ax_cchk_app, ax_lw_450, hl, Bool.true_and, show (450 + 150 : Nat) = 600 from rfl]
  exact ax_lc_600
theorem ax_lc_300 : ax_cchk "MatrixDeskLaw" false code 300 (k_La_law.drop 300) = true := by
  have e : k_La_law.drop 300 = (k_La_law.drop 300).take 150 ++ k_La_law.drop 450 := by
    rw [show k_La_law.drop 450 = (k_La_law.drop 300).drop 150 from by rw [List.drop_drop], List.take_append_drop]
  have hl : ((k_La_law.drop 300).take 150).length = 150 := by rw [List.length_take, List.length_drop, ax_lw_len]; rfl
  rw [e, ax_cchk_app, ax_lw_300, hl, Bool.true_and, show (300 + 150 : Nat) = 450 from rfl]
  exact ax_lc_450
theorem ax_lc_150 : ax_cchk "MatrixDeskLaw" false code 150 (k_La_law.drop 150) = true := by
  have e : k_La_law.drop 150 = (k_La_law.drop 150).take 150 ++ k_La_law.drop 300 := by
    rw [show k_La_law.drop 300 = (k_La_law.drop 150).drop 150 from by rw [List.drop_drop], List.take_append_drop]
  have hl : ((k_La_law.drop 150).take 150).length = 150 := by rw [List.length_take, List.length_drop, ax_lw_len]; rfl
  rw [e, ax_cchk_app, ax_lw_150, hl, Bool.true_and, show (150 + 150 : Nat) = 300 from rfl]
  exact ax_lc_300
theorem ax_lc_0 : ax_cchk "MatrixDeskLaw" false code 0 (k_La_law.drop 0) = true := by
  have e : k_La_law.drop 0 = (k_La_law.drop 0).take 150 ++ k_La_law.drop 150 := by
    rw [show k_La_law.drop 150 = (k_La_law.drop 0).drop 150 from by rw [List.drop_drop], List.take_append_drop]
  have hl : ((k_La_law.drop 0).take 150).length = 150 := by rw [List.length_take, List.length_drop, ax_lw_len]; rfl
  rw [e, ax_cchk_app, ax_lw_0, hl, Bool.true_and, show (0 + 150 : Nat) = 150 from rfl]
  exact ax_lc_150
set_option maxRecDepth 100000 in
theorem ax_law1 : ax_rk 2 (some .boolean) = true ∧ plainFor ⟨"MatrixDeskLaw", "law", "([I)Z"⟩ = true := by decide +kernel
theorem ax_law : ax_mchk 185 = true := by
  have e1 : ax_prog[185]? = some (k_La_law, 8, 2, []) := rfl
  have e2 : ax_who[185]? = some (⟨"MatrixDeskLaw", "law", "([I)Z"⟩, code, some .boolean, 0) := rfl
  unfold ax_mchk
  rw [e1, e2]
  simp only [ax_law1.1, ax_law1.2, Bool.and_true, Bool.true_and, List.isEmpty_nil, Bool.true_or, List.all_nil, decide_true]
  exact ax_lc_0
theorem ax_mall : ∀ z, z < 186 → ax_mchk z = true := by
  intro z hz
  by_cases h : z = 185
  · rw [h]; exact ax_law
  have hm : z < 185 := by omega
  by_cases h0 : z < 5
  · exact List.all_eq_true.mp ax_bk_0 z (by simp only [List.mem_cons, List.not_mem_nil, or_false]; omega)
  by_cases h1 : z < 12
  · exact List.all_eq_true.mp ax_bk_1 z (by simp only [List.mem_cons, List.not_mem_nil, or_false]; omega)
  by_cases h2 : z < 16
  · exact List.all_eq_true.mp ax_bk_2 z (by simp only [List.mem_cons, List.not_mem_nil, or_false]; omega)
  by_cases h3 : z < 23
  · exact List.all_eq_true.mp ax_bk_3 z (by simp only [List.mem_cons, List.not_mem_nil, or_false]; omega)
  by_cases h4 : z < 31
  · exact List.all_eq_true.mp ax_bk_4 z (by simp only [List.mem_cons, List.not_mem_nil, or_false]; omega)
  by_cases h5 : z < 35
  · exact List.all_eq_true.mp ax_bk_5 z (by simp only [List.mem_cons, List.not_mem_nil, or_false]; omega)
  by_cases h6 : z < 38
  · exact List.all_eq_true.mp ax_bk_6 z (by simp only [List.mem_cons, List.not_mem_nil, or_false]; omega)
  by_cases h7 : z < 43
  · exact List.all_eq_true.mp ax_bk_7 z (by simp only [List.mem_cons, List.not_mem_nil, or_false]; omega)
  by_cases h8 : z < 46
  · exact List.all_eq_true.mp ax_bk_8 z (by simp only [List.mem_cons, List.not_mem_nil, or_false]; omega)
  by_cases h9 : z < 52
  · exact List.all_eq_true.mp ax_bk_9 z (by simp only [List.mem_cons, List.not_mem_nil, or_false]; omega)
  by_cases h10 : z < 57
  · exact List.all_eq_true.mp ax_bk_10 z (by simp only [List.mem_cons, List.not_mem_nil, or_false]; omega)
  by_cases h11 : z < 59
  · exact List.all_eq_true.mp ax_bk_11 z (by simp only [List.mem_cons, List.not_mem_nil, or_false]; omega)
  by_cases h12 : z < 63
  · exact List.all_eq_true.mp ax_bk_12 z (by simp only [List.mem_cons, List.not_mem_nil, or_false]; omega)
  by_cases h13 : z < 66
  · exact List.all_eq_true.mp ax_bk_13 z (by simp only [List.mem_cons, List.not_mem_nil, or_false]; omega)
  by_cases h14 : z < 68
  · exact List.all_eq_true.mp ax_bk_14 z (by simp only [List.mem_cons, List.not_mem_nil, or_false]; omega)
  by_cases h15 : z < 70
  · exact List.all_eq_true.mp ax_bk_15 z (by simp only [List.mem_cons, List.not_mem_nil, or_false]; omega)
  by_cases h16 : z < 74
  · exact List.all_eq_true.mp ax_bk_16 z (by simp only [List.mem_cons, List.not_mem_nil, or_false]; omega)
  by_cases h17 : z < 80
  · exact List.all_eq_true.mp ax_bk_17 z (by simp only [List.mem_cons, List.not_mem_nil, or_false]; omega)
  by_cases h18 : z < 83
  · exact List.all_eq_true.mp ax_bk_18 z (by simp only [List.mem_cons, List.not_mem_nil, or_false]; omega)
  by_cases h19 : z < 90
  · exact List.all_eq_true.mp ax_bk_19 z (by simp only [List.mem_cons, List.not_mem_nil, or_false]; omega)
  by_cases h20 : z < 96
  · exact List.all_eq_true.mp ax_bk_20 z (by simp only [List.mem_cons, List.not_mem_nil, or_false]; omega)
  by_cases h21 : z < 100
  · exact List.all_eq_true.mp ax_bk_21 z (by simp only [List.mem_cons, List.not_mem_nil, or_false]; omega)
  by_cases h22 : z < 106
  · exact List.all_eq_true.mp ax_bk_22 z (by simp only [List.mem_cons, List.not_mem_nil, or_false]; omega)
  by_cases h23 : z < 111
  · exact List.all_eq_true.mp ax_bk_23 z (by simp only [List.mem_cons, List.not_mem_nil, or_false]; omega)
  by_cases h24 : z < 114
  · exact List.all_eq_true.mp ax_bk_24 z (by simp only [List.mem_cons, List.not_mem_nil, or_false]; omega)
  by_cases h25 : z < 118
  · exact List.all_eq_true.mp ax_bk_25 z (by simp only [List.mem_cons, List.not_mem_nil, or_false]; omega)
  by_cases h26 : z < 124
  · exact List.all_eq_true.mp ax_bk_26 z (by simp only [List.mem_cons, List.not_mem_nil, or_false]; omega)
  by_cases h27 : z < 128
  · exact List.all_eq_true.mp ax_bk_27 z (by simp only [List.mem_cons, List.not_mem_nil, or_false]; omega)
  by_cases h28 : z < 133
  · exact List.all_eq_true.mp ax_bk_28 z (by simp only [List.mem_cons, List.not_mem_nil, or_false]; omega)
  by_cases h29 : z < 136
  · exact List.all_eq_true.mp ax_bk_29 z (by simp only [List.mem_cons, List.not_mem_nil, or_false]; omega)
  by_cases h30 : z < 139
  · exact List.all_eq_true.mp ax_bk_30 z (by simp only [List.mem_cons, List.not_mem_nil, or_false]; omega)
  by_cases h31 : z < 142
  · exact List.all_eq_true.mp ax_bk_31 z (by simp only [List.mem_cons, List.not_mem_nil, or_false]; omega)
  by_cases h32 : z < 146
  · exact List.all_eq_true.mp ax_bk_32 z (by simp only [List.mem_cons, List.not_mem_nil, or_false]; omega)
  by_cases h33 : z < 151
  · exact List.all_eq_true.mp ax_bk_33 z (by simp only [List.mem_cons, List.not_mem_nil, or_false]; omega)
  by_cases h34 : z < 155
  · exact List.all_eq_true.mp ax_bk_34 z (by simp only [List.mem_cons, List.not_mem_nil, or_false]; omega)
  by_cases h35 : z < 157
  · exact List.all_eq_true.mp ax_bk_35 z (by simp only [List.mem_cons, List.not_mem_nil, or_false]; omega)
  by_cases h36 : z < 160
  · exact List.all_eq_true.mp ax_bk_36 z (by simp only [List.mem_cons, List.not_mem_nil, or_false]; omega)
  by_cases h37 : z < 163
  · exact List.all_eq_true.mp ax_bk_37 z (by simp only [List.mem_cons, List.not_mem_nil, or_false]; omega)
  by_cases h38 : z < 165
  · exact List.all_eq_true.mp ax_bk_38 z (by simp only [List.mem_cons, List.not_mem_nil, or_false]; omega)
  by_cases h39 : z < 167
  · exact List.all_eq_true.mp ax_bk_39 z (by simp only [List.mem_cons, List.not_mem_nil, or_false]; omega)
  by_cases h40 : z < 168
  · exact List.all_eq_true.mp ax_bk_40 z (by simp only [List.mem_cons, List.not_mem_nil, or_false]; omega)
  by_cases h41 : z < 170
  · exact List.all_eq_true.mp ax_bk_41 z (by simp only [List.mem_cons, List.not_mem_nil, or_false]; omega)
  by_cases h42 : z < 172
  · exact List.all_eq_true.mp ax_bk_42 z (by simp only [List.mem_cons, List.not_mem_nil, or_false]; omega)
  by_cases h43 : z < 176
  · exact List.all_eq_true.mp ax_bk_43 z (by simp only [List.mem_cons, List.not_mem_nil, or_false]; omega)
  by_cases h44 : z < 179
  · exact List.all_eq_true.mp ax_bk_44 z (by simp only [List.mem_cons, List.not_mem_nil, or_false]; omega)
  by_cases h45 : z < 180
  · exact List.all_eq_true.mp ax_bk_45 z (by simp only [List.mem_cons, List.not_mem_nil, or_false]; omega)
  by_cases h46 : z < 183
  · exact List.all_eq_true.mp ax_bk_46 z (by simp only [List.mem_cons, List.not_mem_nil, or_false]; omega)
  by_cases h47 : z < 185
  · exact List.all_eq_true.mp ax_bk_47 z (by simp only [List.mem_cons, List.not_mem_nil, or_false]; omega)
  omega
end
section
/-! instructions on the operand stack, locals and branches: the abstract step is the machine's -/
def ax_Xr (X : Nat → Value) : Prop := ∀ k, ∃ a, X k = .ref a
def ax_L (B : Nat) (X : Nat → Value) (A : Array Slot) (n : Nat) (ls : List (Option Value)) : Prop := A.size = n ∧ lv_wf A ∧ ls.length = n ∧ ∀ (i : Nat) (v : Value), ls[i]? = some (some v) → A[i]? = some (.val (ax_v B X v))
theorem ax_ii_inv {f : Int32 → Int32 → Int32} {st st' : List Value} (h : ax_ii f st = some st') : ∃ x y r, st = .int y :: .int x :: r ∧ st' = .int (f x y) :: r := by
  unfold ax_ii at h; split at h
  · cases h; exact ⟨_, _, _, rfl, rfl⟩
  · cases h
theorem ax_iz_inv {f : Int32 → Int32 → Int32} {st st' : List Value} (h : ax_iz f st = some st') : ∃ x y r, ¬ y = 0 ∧ st = .int y :: .int x :: r ∧ st' = .int (f x y) :: r := by
  unfold ax_iz at h; split at h
  · split at h
    · cases h
    · rename_i hy; cases h; exact ⟨_, _, _, hy, rfl, rfl⟩
  · cases h
theorem ax_i1_inv {f : Int32 → Int32} {st st' : List Value} (h : ax_i1 f st = some st') : ∃ x r, st = .int x :: r ∧ st' = .int (f x) :: r := by
  unfold ax_i1 at h; split at h
  · cases h; exact ⟨_, _, rfl, rfl⟩
  · cases h
theorem ax_ll_inv {f : Int64 → Int64 → Int64} {st st' : List Value} (h : ax_ll f st = some st') : ∃ x y r, st = .long y :: .long x :: r ∧ st' = .long (f x y) :: r := by
  unfold ax_ll at h; split at h
  · cases h; exact ⟨_, _, _, rfl, rfl⟩
  · cases h
theorem ax_lz_inv {f : Int64 → Int64 → Int64} {st st' : List Value} (h : ax_lz f st = some st') : ∃ x y r, ¬ y = 0 ∧ st = .long y :: .long x :: r ∧ st' = .long (f x y) :: r := by
  unfold ax_lz at h; split at h
  · split at h
    · cases h
    · rename_i hy; cases h; exact ⟨_, _, _, hy, rfl, rfl⟩
  · cases h
theorem ax_l1_inv {f : Int64 → Int64} {st st' : List Value} (h : ax_l1 f st = some st') : ∃ x r, st = .long x :: r ∧ st' = .long (f x) :: r := by
  unfold ax_l1 at h; split at h
  · cases h; exact ⟨_, _, rfl, rfl⟩
  · cases h
theorem ax_li_inv {f : Int64 → Int32 → Int64} {st st' : List Value} (h : ax_li f st = some st') : ∃ x y r, st = .int y :: .long x :: r ∧ st' = .long (f x y) :: r := by
  unfold ax_li at h; split at h
  · cases h; exact ⟨_, _, _, rfl, rfl⟩
  · cases h
theorem ax_i2l_inv {st st' : List Value} (h : ax_i2l st = some st') : ∃ x r, st = .int x :: r ∧ st' = .long x.toInt64 :: r := by
  unfold ax_i2l at h; split at h
  · cases h; exact ⟨_, _, rfl, rfl⟩
  · cases h
theorem ax_l2i_inv {st st' : List Value} (h : ax_l2i st = some st') : ∃ x r, st = .long x :: r ∧ st' = .int x.toInt32 :: r := by
  unfold ax_l2i at h; split at h
  · cases h; exact ⟨_, _, rfl, rfl⟩
  · cases h
theorem ax_lc_inv {st st' : List Value} (h : ax_lc st = some st') : ∃ x y r, st = .long y :: .long x :: r ∧ st' = .int (lg_cmp x y) :: r := by
  unfold ax_lc at h; split at h
  · cases h; exact ⟨_, _, _, rfl, rfl⟩
  · cases h
theorem ax_lI_inv {o : Option (Option Value)} {st st' : List Value} (h : ax_lI o st = some st') : ∃ x, o = some (some (.int x)) ∧ st' = .int x :: st := by
  unfold ax_lI at h; split at h
  · cases h; exact ⟨_, rfl, rfl⟩
  · cases h
theorem ax_lL_inv {o : Option (Option Value)} {st st' : List Value} (h : ax_lL o st = some st') : ∃ x, o = some (some (.long x)) ∧ st' = .long x :: st := by
  unfold ax_lL at h; split at h
  · cases h; exact ⟨_, rfl, rfl⟩
  · cases h
theorem ax_lA_inv {o : Option (Option Value)} {st st' : List Value} (h : ax_lA o st = some st') : ∃ v, o = some (some v) ∧ st' = v :: st ∧ (v = .null ∨ (∃ x, v = .ref x) ∨ ∃ k, v = .retAddr k) := by
  unfold ax_lA at h; split at h
  · cases h; exact ⟨_, rfl, rfl, Or.inr (Or.inl ⟨_, rfl⟩)⟩
  · cases h; exact ⟨_, rfl, rfl, Or.inr (Or.inr ⟨_, rfl⟩)⟩
  · cases h; exact ⟨_, rfl, rfl, Or.inl rfl⟩
  · cases h
theorem ax_c1_cat {X : Nat → Value} (hX : ax_Xr X) (B : Nat) {v : Value} (h : ax_c1 v = true) : (ax_v B X v).category = 1 := by
  cases v with
  | retAddr k => obtain ⟨a, ha⟩ := hX k; simp [ax_v, ha, Value.category]
  | long x => cases h
  | double x => cases h
  | _ => rfl
theorem ax_dup_inv {st st' : List Value} (h : ax_dup st = some st') : ∃ v r, ax_c1 v = true ∧ st = v :: r ∧ st' = v :: v :: r := by
  unfold ax_dup at h; split at h
  · split at h
    · rename_i hv; cases h; exact ⟨_, _, hv, rfl, rfl⟩
    · cases h
  · cases h
theorem ax_pop_inv {st st' : List Value} (h : ax_pop st = some st') : ∃ v r, ax_c1 v = true ∧ st = v :: r ∧ st' = r := by
  unfold ax_pop at h; split at h
  · split at h
    · rename_i hv; cases h; exact ⟨_, _, hv, rfl, rfl⟩
    · cases h
  · cases h
theorem ax_dup2_inv {st st' : List Value} (h : ax_dup2 st = some st') : (∃ x r, st = .long x :: r ∧ st' = .long x :: .long x :: r) ∨ ∃ v u r, ax_c1 v = true ∧ ax_c1 u = true ∧ st = v :: u :: r ∧ st' = v :: u :: v :: u :: r := by
  unfold ax_dup2 at h; split at h
  · cases h; exact Or.inl ⟨_, _, rfl, rfl⟩
  · split at h
    · rename_i hv; cases h
      simp only [Bool.and_eq_true] at hv
      exact Or.inr ⟨_, _, _, hv.1, hv.2, rfl, rfl⟩
    · cases h
  · cases h
theorem ax_pop2_inv {st st' : List Value} (h : ax_pop2 st = some st') : (∃ x r, st = .long x :: r ∧ st' = r) ∨ ∃ v u r, ax_c1 v = true ∧ ax_c1 u = true ∧ st = v :: u :: r ∧ st' = r := by
  unfold ax_pop2 at h; split at h
  · cases h; exact Or.inl ⟨_, _, rfl, rfl⟩
  · split at h
    · rename_i hv; cases h
      simp only [Bool.and_eq_true] at hv
      exact Or.inr ⟨_, _, _, hv.1, hv.2, rfl, rfl⟩
    · cases h
  · cases h
section AX1
variable {p : Program} {l : Launch} {e : Env} {R : Room} {s : State} {m : MethodId} {args : Array Value} {below : List Frame} {meth : Method} {c : Code} {H : Heap} {locs : List Loc} {cells slots : Nat} {Q : State → Prop}
variable {cc : ByteArray} {pc n : Nat} {A : Array Slot} {B : Nat} {X : Nat → Value} {ls : List (Option Value)} {st st' : List Value} {i : Instr}
theorem ax_aload_ok (hX : ax_Xr X) (hexec : p.tables.exec = Jvm.exec) (hb : c.code = cc) (hL : ax_L B X A n ls) {k : Nat} (hd : decode cc pc = .ok (.aload k, 2)) (h : ax_lA ls[k]? st = some st')
    (kk : W p l e R s m args below meth c H locs cells slots Q (F0 m (pc + 2) A (st'.map (ax_v B X)))) : W p l e R s m args below meth c H locs cells slots Q (F0 m pc A (st.map (ax_v B X))) := by
  obtain ⟨v, hv, rfl, hc⟩ := ax_lA_inv h
  have hA := hL.2.2.2 _ _ hv
  rcases hc with rfl | ⟨x, rfl⟩ | ⟨x, rfl⟩
  · exact lv_aloadN hexec hb hd hA kk
  · exact lv_aload hexec hb hd hA kk
  · obtain ⟨a, ha⟩ := hX x
    simp only [ax_v, List.map_cons, ha] at hA kk
    exact lv_aload hexec hb hd hA kk
theorem ax_aload_n_ok (hX : ax_Xr X) (hexec : p.tables.exec = Jvm.exec) (hb : c.code = cc) (hL : ax_L B X A n ls) {k : Fin 4} (hd : decode cc pc = .ok (.aload_n k, 1)) (h : ax_lA ls[(k : Nat)]? st = some st')
    (kk : W p l e R s m args below meth c H locs cells slots Q (F0 m (pc + 1) A (st'.map (ax_v B X)))) : W p l e R s m args below meth c H locs cells slots Q (F0 m pc A (st.map (ax_v B X))) := by
  obtain ⟨v, hv, rfl, hc⟩ := ax_lA_inv h
  have hA := hL.2.2.2 _ _ hv
  rcases hc with rfl | ⟨x, rfl⟩ | ⟨x, rfl⟩
  · exact lv_aload_nN hexec hb hd rfl hA kk
  · exact lv_aload_n hexec hb hd rfl hA kk
  · obtain ⟨a, ha⟩ := hX x
    simp only [ax_v, List.map_cons, ha] at hA kk
    exact lv_aload_n hexec hb hd rfl hA kk
theorem ax_st_ok (hX : ax_Xr X) (hexec : p.tables.exec = Jvm.exec) (hb : c.code = cc) (hL : ax_L B X A n ls) (hd : decode cc pc = .ok (i, ax_len i)) (h : ax_st i ls st = some st')
    (k : W p l e R s m args below meth c H locs cells slots Q (F0 m (pc + ax_len i) A (st'.map (ax_v B X)))) : W p l e R s m args below meth c H locs cells slots Q (F0 m pc A (st.map (ax_v B X))) := by
  unfold ax_st at h
  split at h
  · cases h; exact lv_iconst hexec hb hd rfl k
  · cases h; exact lv_bipush hexec hb hd rfl k
  · cases h; exact lv_sipush hexec hb hd rfl k
  · cases h; exact lv_lconst hexec hb hd rfl k
  · obtain ⟨x, hx, rfl⟩ := ax_lI_inv h; exact lv_iload hexec hb hd (hL.2.2.2 _ _ hx) k
  · obtain ⟨x, hx, rfl⟩ := ax_lI_inv h; exact lv_iload_n hexec hb hd rfl (hL.2.2.2 _ _ hx) k
  · obtain ⟨x, hx, rfl⟩ := ax_lL_inv h; exact lv_lload hexec hb hd (hL.2.2.2 _ _ hx) k
  · obtain ⟨x, hx, rfl⟩ := ax_lL_inv h; exact lv_lload_n hexec hb hd rfl (hL.2.2.2 _ _ hx) k
  · exact ax_aload_ok hX hexec hb hL hd h k
  · exact ax_aload_n_ok hX hexec hb hL hd h k
  · obtain ⟨x, y, r, rfl, rfl⟩ := ax_ii_inv h; exact lv_iadd hexec hb hd k
  · obtain ⟨x, y, r, rfl, rfl⟩ := ax_ii_inv h; exact lv_isub hexec hb hd k
  · obtain ⟨x, y, r, rfl, rfl⟩ := ax_ii_inv h; exact lv_imul hexec hb hd k
  · obtain ⟨x, y, r, rfl, rfl⟩ := ax_ii_inv h; exact lv_iand hexec hb hd k
  · obtain ⟨x, y, r, rfl, rfl⟩ := ax_ii_inv h; exact lv_ixor hexec hb hd k
  · obtain ⟨x, y, r, hy, rfl, rfl⟩ := ax_iz_inv h; exact lv_idiv hexec hb hd hy k
  · obtain ⟨x, y, r, hy, rfl, rfl⟩ := ax_iz_inv h; exact lv_irem hexec hb hd hy k
  · obtain ⟨x, r, rfl, rfl⟩ := ax_i1_inv h; exact lv_ineg hexec hb hd k
  · obtain ⟨x, y, r, rfl, rfl⟩ := ax_ii_inv h; exact lv_ishl hexec hb hd k
  · obtain ⟨x, y, r, rfl, rfl⟩ := ax_ii_inv h; exact lv_ishr hexec hb hd k
  · obtain ⟨x, y, r, rfl, rfl⟩ := ax_ii_inv h; exact lv_iushr hexec hb hd rfl k
  · obtain ⟨x, y, r, rfl, rfl⟩ := ax_ll_inv h; exact lv_ladd hexec hb hd k
  · obtain ⟨x, y, r, rfl, rfl⟩ := ax_ll_inv h; exact lv_lsub hexec hb hd k
  · obtain ⟨x, y, r, rfl, rfl⟩ := ax_ll_inv h; exact lv_lmul hexec hb hd k
  · obtain ⟨x, y, r, rfl, rfl⟩ := ax_ll_inv h; exact lv_land hexec hb hd k
  · obtain ⟨x, y, r, rfl, rfl⟩ := ax_ll_inv h; exact lv_lor hexec hb hd k
  · obtain ⟨x, y, r, hy, rfl, rfl⟩ := ax_lz_inv h; exact lv_ldiv hexec hb hd hy k
  · obtain ⟨x, y, r, hy, rfl, rfl⟩ := ax_lz_inv h; exact lv_lrem hexec hb hd hy k
  · obtain ⟨x, r, rfl, rfl⟩ := ax_l1_inv h; exact lv_lneg hexec hb hd k
  · obtain ⟨x, y, r, rfl, rfl⟩ := ax_li_inv h; exact lv_lshl hexec hb hd rfl k
  · obtain ⟨x, y, r, rfl, rfl⟩ := ax_li_inv h; exact lv_lshr hexec hb hd rfl k
  · obtain ⟨x, y, r, rfl, rfl⟩ := ax_li_inv h; exact lv_lushr hexec hb hd rfl k
  · obtain ⟨x, r, rfl, rfl⟩ := ax_i2l_inv h; exact lv_i2l hexec hb hd rfl k
  · obtain ⟨x, r, rfl, rfl⟩ := ax_l2i_inv h; exact lv_l2i hexec hb hd rfl k
  · obtain ⟨x, r, rfl, rfl⟩ := ax_i1_inv h; exact lv_i2c hexec hb hd rfl k
  · obtain ⟨x, y, r, rfl, rfl⟩ := ax_lc_inv h; exact W.lcmp hexec hb hd k
  · obtain ⟨v, r, hv, rfl, rfl⟩ := ax_dup_inv h; exact lv_dup hexec hb hd (ax_c1_cat hX B hv) k
  · rcases ax_dup2_inv h with ⟨x, r, rfl, rfl⟩ | ⟨v, u, r, hv, hu, rfl, rfl⟩
    · exact lv_dup2_2 hexec hb hd rfl k
    · exact lv_dup2_11 hexec hb hd (ax_c1_cat hX B hv) (ax_c1_cat hX B hu) k
  · obtain ⟨v, r, hv, rfl, rfl⟩ := ax_pop_inv h; exact lv_pop hexec hb hd (ax_c1_cat hX B hv) k
  · rcases ax_pop2_inv h with ⟨x, r, rfl, rfl⟩ | ⟨v, u, r, hv, hu, rfl, rfl⟩
    · exact lv_pop2_2 (va := .long x) hexec hb hd rfl k
    · exact lv_pop2_11 hexec hb hd (ax_c1_cat hX B hv) (ax_c1_cat hX B hu) k
  · cases h
/-- the listed locals, as the kit lists them -/
def ax_asc (B : Nat) (X : Nat → Value) (ls : List (Option Value)) : List (Nat × Value) := (List.range ls.length).filterMap (fun i => match ls[i]? with
  | some (some v) => some (i, ax_v B X v)
  | _ => none)
theorem ax_asc_mem {q : Nat × Value} : q ∈ ax_asc B X ls ↔ ∃ v, ls[q.1]? = some (some v) ∧ q.2 = ax_v B X v := by
  unfold ax_asc
  rw [List.mem_filterMap]
  constructor
  · rintro ⟨i, -, h⟩
    split at h
    · rename_i v hv; cases h; exact ⟨v, hv, rfl⟩
    · cases h
  · rintro ⟨v, hv, hq⟩
    have hlt : q.1 < ls.length := (List.getElem?_eq_some_iff.mp hv).1
    refine ⟨q.1, List.mem_range.mpr hlt, ?_⟩
    rw [hv]
    show some (q.1, ax_v B X v) = some q
    rw [← hq]
theorem ax_L.has (h : ax_L B X A n ls) : lv_has A n (ax_asc B X ls) := ⟨h.1, h.2.1, fun q hq => by
  obtain ⟨v, hv, e⟩ := ax_asc_mem.mp hq
  rw [e]; exact h.2.2.2 _ _ hv⟩
theorem ax_c1_not {v : Value} (hX : ax_Xr X) (h : ¬ ax_c1 v = true) : (ax_v B X v).category = 2 := by
  cases v with
  | long x => rfl
  | double x => rfl
  | _ => exact absurd rfl h
theorem ax_clr_get (ls : List (Option Value)) (k i : Nat) {v : Value} (h : (ax_clr ls k)[i]? = some (some v)) : ls[i]? = some (some v) ∧ (i + 1 = k → ax_c1 v = true) := by
  unfold ax_clr at h
  cases k with
  | zero => exact ⟨h, fun q => by omega⟩
  | succ j =>
    simp only at h
    split at h
    · rename_i u hu
      split at h
      · rename_i hc
        refine ⟨h, fun q => ?_⟩
        have : i = j := by omega
        subst this
        rw [hu] at h; cases h; exact hc
      · rename_i hc
        by_cases hij : i = j
        · subst hij
          rw [List.getElem?_set_self (List.getElem?_eq_some_iff.mp hu).1] at h
          cases h
        · rw [List.getElem?_set_ne (fun q => hij q.symm)] at h
          exact ⟨h, fun q => by omega⟩
    · rename_i hno
      refine ⟨h, fun q => ?_⟩
      have : i = j := by omega
      subst this
      exact absurd h (hno v)
theorem ax_clr_len (ls : List (Option Value)) (k : Nat) : (ax_clr ls k).length = ls.length := by
  unfold ax_clr
  cases k with
  | zero => rfl
  | succ j =>
    simp only
    split
    · split <;> simp
    · rfl
theorem ax_L.set1 (hX : ax_Xr X) (h : ax_L B X A n ls) {k : Nat} {v : Value} {A' : Array Slot}
    (h' : lv_has A' n ((k, ax_v B X v) :: (ax_asc B X ls).filter (fun q => !(q.1 == k) && !(q.1 + 1 == k && q.2.category == 2)))) : ax_L B X A' n (ax_set1 ls k v) := by
  refine ⟨h'.1, h'.2.1, by simp [ax_set1, ax_clr_len, h.2.2.1], fun i u hu => ?_⟩
  unfold ax_set1 at hu
  by_cases hik : i = k
  · subst hik
    have hlt : i < (ax_clr ls i).length := by
      have := (List.getElem?_eq_some_iff.mp hu).1
      simpa using this
    rw [List.getElem?_set_self hlt] at hu
    cases hu
    exact h'.2.2 (i, ax_v B X v) (List.mem_cons_self ..)
  · rw [List.getElem?_set_ne (fun q => hik q.symm)] at hu
    obtain ⟨h1, h2⟩ := ax_clr_get ls k i hu
    refine h'.2.2 (i, ax_v B X u) (List.mem_cons_of_mem _ (List.mem_filter.mpr ⟨ax_asc_mem.mpr ⟨u, h1, rfl⟩, ?_⟩))
    by_cases hk : i + 1 = k
    · have := ax_c1_cat hX B (h2 hk)
      simp [hik, this]
    · simp [hik, hk]
theorem ax_L.set2 (hX : ax_Xr X) (h : ax_L B X A n ls) {k : Nat} {v : Value} {A' : Array Slot}
    (h' : lv_has A' n ((k, ax_v B X v) :: (ax_asc B X ls).filter (fun q => !(q.1 == k) && (!(q.1 == k + 1) && !(q.1 + 1 == k && q.2.category == 2))))) : ax_L B X A' n (ax_set2 ls k v) := by
  refine ⟨h'.1, h'.2.1, by simp [ax_set2, ax_clr_len, h.2.2.1], fun i u hu => ?_⟩
  unfold ax_set2 at hu
  by_cases hik1 : i = k + 1
  · subst hik1
    have hlt := (List.getElem?_eq_some_iff.mp hu).1
    rw [List.getElem?_set_self (by simpa using hlt)] at hu
    cases hu
  · rw [List.getElem?_set_ne (fun q => hik1 q.symm)] at hu
    by_cases hik : i = k
    · subst hik
      have hlt : i < (ax_clr ls i).length := by
        have := (List.getElem?_eq_some_iff.mp hu).1
        simpa using this
      rw [List.getElem?_set_self hlt] at hu
      cases hu
      exact h'.2.2 (i, ax_v B X v) (List.mem_cons_self ..)
    · rw [List.getElem?_set_ne (fun q => hik q.symm)] at hu
      obtain ⟨h1, h2⟩ := ax_clr_get ls k i hu
      refine h'.2.2 (i, ax_v B X u) (List.mem_cons_of_mem _ (List.mem_filter.mpr ⟨ax_asc_mem.mpr ⟨u, h1, rfl⟩, ?_⟩))
      by_cases hk : i + 1 = k
      · have := ax_c1_cat hX B (h2 hk)
        simp [hik, hik1, this]
      · simp [hik, hik1, hk]
end AX1
end
section
/-! instructions that write a local, and branches -/
section AX2
variable {p : Program} {l : Launch} {e : Env} {R : Room} {s : State} {m : MethodId} {args : Array Value} {below : List Frame} {meth : Method} {c : Code} {H : Heap} {locs : List Loc} {cells slots : Nat} {Q : State → Prop}
variable {cc : ByteArray} {pc n : Nat} {A : Array Slot} {B : Nat} {X : Nat → Value} {ls ls' : List (Option Value)} {st st' : List Value} {i : Instr}
theorem ax_sI_inv {k : Nat} {r : List (Option Value) × List Value} (h : ax_sI k ls st = some r) : ∃ x t, k < ls.length ∧ st = .int x :: t ∧ r = (ax_set1 ls k (.int x), t) := by
  unfold ax_sI at h; split at h
  · split at h
    · rename_i hk; cases h; exact ⟨_, _, hk, rfl, rfl⟩
    · cases h
  · cases h
theorem ax_sL_inv {k : Nat} {r : List (Option Value) × List Value} (h : ax_sL k ls st = some r) : ∃ x t, k + 1 < ls.length ∧ st = .long x :: t ∧ r = (ax_set2 ls k (.long x), t) := by
  unfold ax_sL at h; split at h
  · split at h
    · rename_i hk; cases h; exact ⟨_, _, hk, rfl, rfl⟩
    · cases h
  · cases h
theorem ax_sA_inv {k : Nat} {r : List (Option Value) × List Value} (h : ax_sA k ls st = some r) : ∃ x t, k < ls.length ∧ st = .ref x :: t ∧ r = (ax_set1 ls k (.ref x), t) := by
  unfold ax_sA at h; split at h
  · split at h
    · rename_i hk; cases h; exact ⟨_, _, hk, rfl, rfl⟩
    · cases h
  · cases h
theorem ax_inc_inv {k : Nat} {d : Int} {r : List (Option Value) × List Value} (h : ax_inc k d ls st = some r) : ∃ x, ls[k]? = some (some (.int x)) ∧ r = (ax_set1 ls k (.int (x + Int32.ofInt d)), st) := by
  unfold ax_inc at h; split at h
  · rename_i hk; cases h; exact ⟨_, hk, rfl⟩
  · cases h
theorem ax_sto_ok (hX : ax_Xr X) (hexec : p.tables.exec = Jvm.exec) (hb : c.code = cc) (hL : ax_L B X A n ls) (hd : decode cc pc = .ok (i, ax_len i)) (h : ax_sto i ls st = some (ls', st'))
    (k : ∀ A' : Array Slot, ax_L B X A' n ls' → W p l e R s m args below meth c H locs cells slots Q (F0 m (pc + ax_len i) A' (st'.map (ax_v B X)))) : W p l e R s m args below meth c H locs cells slots Q (F0 m pc A (st.map (ax_v B X))) := by
  unfold ax_sto at h
  split at h
  · obtain ⟨x, t, hk, rfl, e⟩ := ax_sI_inv h; cases e
    exact lv_istore hexec hb hd hL.has (by rw [← hL.2.2.1]; exact hk) rfl fun A' h' => k A' (hL.set1 hX h')
  · obtain ⟨x, t, hk, rfl, e⟩ := ax_sI_inv h; cases e
    exact lv_istore_n hexec hb hd rfl hL.has (by rw [← hL.2.2.1]; exact hk) rfl fun A' h' => k A' (hL.set1 hX h')
  · obtain ⟨x, t, hk, rfl, e⟩ := ax_sL_inv h; cases e
    exact lv_lstore hexec hb hd hL.has (by rw [← hL.2.2.1]; exact hk) rfl fun A' h' => k A' (hL.set2 hX h')
  · obtain ⟨x, t, hk, rfl, e⟩ := ax_sL_inv h; cases e
    exact lv_lstore_n hexec hb hd rfl hL.has (by rw [← hL.2.2.1]; exact hk) rfl fun A' h' => k A' (hL.set2 hX h')
  · obtain ⟨x, t, hk, rfl, e⟩ := ax_sA_inv h; cases e
    exact lv_astore hexec hb hd hL.has (by rw [← hL.2.2.1]; exact hk) rfl fun A' h' => k A' (hL.set1 hX h')
  · obtain ⟨x, t, hk, rfl, e⟩ := ax_sA_inv h; cases e
    exact lv_astore_n hexec hb hd rfl hL.has (by rw [← hL.2.2.1]; exact hk) rfl fun A' h' => k A' (hL.set1 hX h')
  · rename_i kn d
    obtain ⟨x, hk, e⟩ := ax_inc_inv h; cases e
    obtain ⟨q, hq⟩ := List.getElem?_of_mem (ax_asc_mem (B := B) (X := X) (q := (kn, .int x)).mpr ⟨_, hk, rfl⟩)
    exact lv_iinc hexec hb hd hL.has hq rfl (by rw [← hL.2.2.1]; exact (List.getElem?_eq_some_iff.mp hk).1) rfl fun A' h' => k A' (hL.set1 hX h')
  · cases h
theorem ax_br_ok (hexec : p.tables.exec = Jvm.exec) (hb : c.code = cc) {len t pc' : Nat} (hd : decode cc pc = .ok (i, len)) (hlen : (∀ d lo hi offs, i ≠ .tableswitch d lo hi offs) → len = 3)
    (ht : ∀ off, (i = .goto off ∨ (∃ q, i = .ifCond q off) ∨ ∃ q, i = .if_icmp q off) → (pc : Int) + off = (t : Int))
    (hs : ∀ d lo hi offs, i = .tableswitch d lo hi offs → 0 ≤ (pc : Int) + d ∧ ∀ o ∈ offs, 0 ≤ (pc : Int) + o)
    (h : ax_br i t (pc + len) pc st = some (pc', st'))
    (k : W p l e R s m args below meth c H locs cells slots Q (F0 m pc' A (st'.map (ax_v B X)))) : W p l e R s m args below meth c H locs cells slots Q (F0 m pc A (st.map (ax_v B X))) := by
  unfold ax_br at h
  split at h
  · rename_i off
    cases h
    cases hlen (fun _ _ _ _ q => by cases q)
    exact lv_goto hexec hb hd (ht off (Or.inl rfl)) k
  · rename_i q off
    split at h
    · rename_i x r
      cases hlen (fun _ _ _ _ q => by cases q)
      simp only [Option.some.injEq, Prod.mk.injEq] at h
      obtain ⟨h1, rfl⟩ := h
      have htt := ht off (Or.inr (Or.inl ⟨q, rfl⟩))
      cases q <;> simp only [ax_cmp, decide_eq_true_eq, Bool.not_eq_true', decide_eq_false_iff_not] at h1
      · refine lv_if_eq hexec hb hd htt (fun q => ?_) (fun q => ?_)
        · rw [if_pos q] at h1; subst h1; exact k
        · rw [if_neg q] at h1; subst h1; exact k
      · refine lv_if_ne hexec hb hd htt (fun q => ?_) (fun q => ?_)
        · rw [if_pos q] at h1; subst h1; exact k
        · rw [if_neg (fun z => z q)] at h1; subst h1; exact k
      · refine lv_if_lt hexec hb hd htt (fun q => ?_) (fun q => ?_)
        · rw [if_pos q] at h1; subst h1; exact k
        · rw [if_neg q] at h1; subst h1; exact k
      · refine lv_if_ge hexec hb hd htt (fun q => ?_) (fun q => ?_)
        · rw [if_pos q] at h1; subst h1; exact k
        · rw [if_neg q] at h1; subst h1; exact k
      · refine lv_if_gt hexec hb hd htt (fun q => ?_) (fun q => ?_)
        · rw [if_pos q] at h1; subst h1; exact k
        · rw [if_neg q] at h1; subst h1; exact k
      · refine lv_if_le hexec hb hd htt (fun q => ?_) (fun q => ?_)
        · rw [if_pos q] at h1; subst h1; exact k
        · rw [if_neg q] at h1; subst h1; exact k
    · cases h
  · rename_i q off
    split at h
    · rename_i y x r
      cases hlen (fun _ _ _ _ q => by cases q)
      simp only [Option.some.injEq, Prod.mk.injEq] at h
      obtain ⟨h1, rfl⟩ := h
      have htt := ht off (Or.inr (Or.inr ⟨q, rfl⟩))
      cases q <;> simp only [ax_cmp, decide_eq_true_eq, Bool.not_eq_true', decide_eq_false_iff_not] at h1
      · refine lv_icmp_eq hexec hb hd htt (fun q => ?_) (fun q => ?_)
        · rw [if_pos q] at h1; subst h1; exact k
        · rw [if_neg q] at h1; subst h1; exact k
      · refine lv_icmp_ne hexec hb hd htt (fun q => ?_) (fun q => ?_)
        · rw [if_pos q] at h1; subst h1; exact k
        · rw [if_neg (fun z => z q)] at h1; subst h1; exact k
      · refine lv_icmp_lt hexec hb hd htt (fun q => ?_) (fun q => ?_)
        · rw [if_pos q] at h1; subst h1; exact k
        · rw [if_neg q] at h1; subst h1; exact k
      · refine lv_icmp_ge hexec hb hd htt (fun q => ?_) (fun q => ?_)
        · rw [if_pos q] at h1; subst h1; exact k
        · rw [if_neg q] at h1; subst h1; exact k
      · refine lv_icmp_gt hexec hb hd htt (fun q => ?_) (fun q => ?_)
        · rw [if_pos q] at h1; subst h1; exact k
        · rw [if_neg q] at h1; subst h1; exact k
      · refine lv_icmp_le hexec hb hd htt (fun q => ?_) (fun q => ?_)
        · rw [if_pos q] at h1; subst h1; exact k
        · rw [if_neg q] at h1; subst h1; exact k
    · cases h
  · rename_i d lo hi offs
    obtain ⟨s1, s2⟩ := hs d lo hi offs rfl
    split at h
    · rename_i x r
      split at h
      · rename_i hx
        cases h
        simp only [Bool.or_eq_true, decide_eq_true_eq] at hx
        exact lv_tableOut hexec hb hd hx (Int.toNat_of_nonneg s1).symm k
      · rename_i hx
        simp only [Bool.or_eq_true, decide_eq_true_eq, not_or] at hx
        split at h
        · rename_i off ho
          cases h
          exact lv_tableIn hexec hb hd hx.1 hx.2 ho (Int.toNat_of_nonneg (s2 off (Array.mem_of_getElem? ho))).symm k
        · cases h
    · cases h
  · cases h
end AX2
end
section
/-! words that last, and what the heap holds of the abstract world -/
def ax_keep : Jvm.Cond → Bool
  | .fieldLinkNest .. => true
  | .methodLinkNest .. => true
  | .arrayOver (.object _) => true
  | w => goodWord w
theorem ax_word {args a' : Array Value} {s U : State} (hW : s.WarmedH U.vm) {w : Jvm.Cond} (hk : ax_keep w = true) (h : w.before args s = true) : w.before a' U = true := by
  unfold ax_keep at hk
  split at hk
  · exact va_Nw.use rfl (va_Nw.warmF hW (va_Nw.of rfl h))
  · exact va_Nw.use rfl (va_Nw.warmM hW (va_Nw.of rfl h))
  · exact va_AO.use (va_AO.moved hW.alike (va_AO.of h))
  · exact word_at hW (good_of_word hk) h
/-- what the tables say: D.1 t the class of tag t, D.2 c k the slot of field k of class c -/
def ax_K (D : va_G) (s : State) : Prop := (∀ (c : Nat) (q : vw_C), cls_all[c]? = some q → u_Kn s q.1 q.2.1 q.2.2 (D.1 c) (D.2 c)) ∧ ∀ (t : Nat) (ty : FieldType), ax_ty t = some ty → ArrOfT s (D.1 t) ty ∧ va_RA s (D.1 t) ty
theorem ax_K.moved {D : va_G} {u U : State} (hvm : u.vm.Alike U.vm) (h : ax_K D u) : ax_K D U :=
  ⟨fun c q hq => u_Kn_moved hvm (h.1 c q hq), fun t ty ht => ⟨arrOfT_moved hvm (h.2 t ty ht).1, (h.2 t ty ht).2.moved hvm⟩⟩
def ax_nf (t : Nat) : Nat := match cls_all[t]? with
  | some q => q.2.2
  | none => 0
def ax_sx (D : va_G) (t k : Nat) : Nat := if 20 ≤ t then k else D.2 t k
def ax_cell (B : Nat) (X : Nat → Value) (D : va_G) (q : Nat × List Value) (cell : Cell) : Prop :=
  cell.cls = D.1 q.1 ∧ cell.vm = .none ∧ (cell.monitor = {} ∧ cell.hash = none) ∧ (20 ≤ q.1 → (∃ ty, ax_ty q.1 = some ty) ∧ cell.slots.size = q.2.length) ∧ (q.1 < 20 → q.2.length ≤ ax_nf q.1 ∧ q.1 < 11) ∧
    cell.slots.size = ax_cs q ∧ ∀ (k : Nat) (v : Value), q.2[k]? = some v → cell.slots[ax_sx D q.1 k]? = some (ax_v B X v)
def ax_Sim (B : Nat) (X : Nat → Value) (D : va_G) (H0 : Heap) (w : ax_W) (H : Heap) : Prop :=
  H.size = B + w.length ∧ (∀ (i : Nat) (q : Nat × List Value), w[i]? = some q → ∃ cell : Cell, H[B + i]? = some cell ∧ ax_cell B X D q cell) ∧ ∀ a : Nat, a < B → H[a]? = H0[a]?
section AX3
variable {B : Nat} {X : Nat → Value} {D : va_G} {H0 H H' : Heap} {w : ax_W}
theorem ax_Sim.set (h : ax_Sim B X D H0 w H) {i : Nat} {q : Nat × List Value} {cell : Cell} (hi : i < w.length) (hc : ax_cell B X D q cell) (e1 : H'[B + i]? = some cell) (e2 : H'.size = H.size) (e3 : ∀ a, a ≠ B + i → H'[a]? = H[a]?) : ax_Sim B X D H0 (w.set i q) H' := by
  refine ⟨by rw [e2, h.1, List.length_set], fun j u hu => ?_, fun a ha => by rw [e3 a (by omega)]; exact h.2.2 a ha⟩
  by_cases hij : i = j
  · subst hij
    rw [List.getElem?_set_self hi] at hu
    cases hu
    exact ⟨cell, e1, hc⟩
  · rw [List.getElem?_set_ne hij] at hu
    obtain ⟨cl, c1, c2⟩ := h.2.1 j u hu
    exact ⟨cl, by rw [e3 _ (by omega)]; exact c1, c2⟩
theorem ax_Sim.push (h : ax_Sim B X D H0 w H) {q : Nat × List Value} {cell : Cell} (hc : ax_cell B X D q cell) (e1 : H'[H.size]? = some cell) (e2 : H'.size = H.size + 1) (e3 : ∀ a, a < H.size → H'[a]? = H[a]?) : ax_Sim B X D H0 (w ++ [q]) H' := by
  have hz := h.1
  refine ⟨by rw [e2, hz]; simp; omega, fun j u hu => ?_, fun a ha => by rw [e3 a (by omega)]; exact h.2.2 a ha⟩
  by_cases hj : j < w.length
  · rw [List.getElem?_append_left hj] at hu
    obtain ⟨cl, c1, c2⟩ := h.2.1 j u hu
    exact ⟨cl, by rw [e3 _ (by omega)]; exact c1, c2⟩
  · have hj2 : j < (w ++ [q]).length := (List.getElem?_eq_some_iff.mp hu).1
    have hjw : j = w.length := by simp at hj2; omega
    subst hjw
    have hu' : u = q := by simpa using hu.symm
    subst hu'
    exact ⟨cell, by rw [← hz]; exact e1, hc⟩
/-- a cell's contents change at one place -/
theorem ax_cell.set {q : Nat × List Value} {cell : Cell} (h : ax_cell B X D q cell) (hap : q.1 < 20 → ∀ a b, a < ax_nf q.1 → b < ax_nf q.1 → a ≠ b → D.2 q.1 a ≠ D.2 q.1 b) (hq : q.1 ≠ 9 ∧ q.1 ≠ 10) {k : Nat} (hk : k < q.2.length) (v : Value) : ax_cell B X D (q.1, q.2.set k v) (cell.setSlot (ax_sx D q.1 k) (ax_v B X v)) := by
  obtain ⟨h1, h2, hm, h3, h4, hz, h5⟩ := h
  have hlt : ax_sx D q.1 k < cell.slots.size := by
    have := h5 k q.2[k] (List.getElem?_eq_getElem hk)
    exact k2_hasslot this
  refine ⟨h1, h2, hm, fun ht => ⟨(h3 ht).1, by rw [k2_slotsz]; simp [(h3 ht).2]⟩, fun ht => ⟨by simpa using (h4 ht).1, (h4 ht).2⟩, by rw [k2_slotsz, hz]; simp [ax_cs, hq.1, hq.2], fun j u hu => ?_⟩
  by_cases hjk : k = j
  · subst hjk
    rw [List.getElem?_set_self hk] at hu
    cases hu
    exact Cell.slots_setSlot_self _ hlt
  · rw [List.getElem?_set_ne hjk] at hu
    have hj : j < q.2.length := (List.getElem?_eq_some_iff.mp hu).1
    rw [slot_ne]
    · exact h5 j u hu
    · unfold ax_sx
      by_cases ht : 20 ≤ q.1
      · rw [if_pos ht, if_pos ht]; exact hjk
      · rw [if_neg ht, if_neg ht]
        have := (h4 (by omega)).1
        exact hap (by omega) k j (by omega) (by omega) hjk
theorem ax_cell.arr {q : Nat × List Value} {cell : Cell} (h : ax_cell B X D q cell) {s : State} (hK : ax_K D s) {ty : FieldType} (ht : ax_ty q.1 = some ty) : s.isArrayOf cell ty := by
  obtain ⟨-, k, hk, comp, hkind⟩ := (hK.2 _ _ ht).1 0 (fun _ => .null)
  exact ⟨fun z hz => (by rw [h.2.1] at hz; cases hz), k, (by rw [h.1]; exact hk), comp, hkind⟩
theorem ax_cell.known {q : Nat × List Value} {cell : Cell} (h : ax_cell B X D q cell) : cell.vm ≠ .unknown := by
  rw [h.2.1]; exact fun z => by cases z
end AX3
end
section
/-! fields and arrays: the abstract step is the machine's -/
theorem ax_get_inv {cn k : Nat} {st st' : List Value} {w : ax_W} (h : ax_get cn k st w = some st') : ∃ i r fs v, st = .ref i :: r ∧ w[i]? = some (cn, fs) ∧ fs[k]? = some v ∧ st' = v :: r := by
  unfold ax_get at h; split at h
  · split at h
    · rename_i c' fs hw
      split at h
      · rename_i hc
        subst hc
        split at h
        · rename_i v hv; cases h; exact ⟨_, _, _, _, rfl, hw, hv, rfl⟩
        · cases h
      · cases h
    · cases h
  · cases h
theorem ax_put_inv {cn k fk : Nat} {st : List Value} {w : ax_W} {r' : List Value × ax_W} (h : ax_put cn k fk st w = some r') : ∃ v i r fs, st = v :: .ref i :: r ∧ ax_fit fk v = true ∧ w[i]? = some (cn, fs) ∧ k < fs.length ∧ r' = (r, w.set i (cn, fs.set k v)) := by
  unfold ax_put at h; split at h
  · split at h
    · rename_i hf
      split at h
      · rename_i c' fs hw
        split at h
        · rename_i hc
          subst hc
          split at h
          · rename_i hk; cases h; exact ⟨_, _, _, _, rfl, hf, hw, hk, rfl⟩
          · cases h
        · cases h
      · cases h
    · cases h
  · cases h
theorem ax_rd_inv {w : ax_W} {i t : Nat} {j : Int32} {v : Value} (h : ax_rd w i t j = some v) : ∃ vs, w[i]? = some (t, vs) ∧ ¬ j < 0 ∧ vs[j.toNatClampNeg]? = some v := by
  unfold ax_rd at h; split at h
  · rename_i t' vs hw
    split at h
    · rename_i ht
      subst ht
      split at h
      · cases h
      · rename_i hj; exact ⟨vs, hw, hj, h⟩
    · cases h
  · cases h
theorem ax_wr_inv {w w' : ax_W} {i t : Nat} {j : Int32} {v : Value} (h : ax_wr w i t j v = some w') : ∃ vs, w[i]? = some (t, vs) ∧ ¬ j < 0 ∧ j.toNatClampNeg < vs.length ∧ w' = w.set i (t, vs.set j.toNatClampNeg v) := by
  unfold ax_wr at h; split at h
  · rename_i t' vs hw
    split at h
    · rename_i ht
      subst ht
      split at h
      · cases h
      · rename_i hj
        split at h
        · rename_i hl; cases h; exact ⟨vs, hw, hj, hl, rfl⟩
        · cases h
    · cases h
  · cases h
theorem ax_ald_inv {t : Nat} {xs : List Int32} {st st' : List Value} {w : ax_W} (h : ax_ald t xs st w = some st') :
    (∃ j i r v, st = .int j :: .ref i :: r ∧ ax_rd w i t j = some v ∧ st' = v :: r) ∨ ∃ j k r ys y, t = 20 ∧ st = .int j :: .retAddr k :: r ∧ ax_ext xs k = some ys ∧ ¬ j < 0 ∧ ys[j.toNatClampNeg]? = some y ∧ st' = .int y :: r := by
  unfold ax_ald at h; split at h
  · split at h
    · rename_i v hv; cases h; exact Or.inl ⟨_, _, _, _, rfl, hv, rfl⟩
    · cases h
  · split at h
    · rename_i ht
      split at h
      · rename_i ys hys
        split at h
        · cases h
        · rename_i hj
          split at h
          · rename_i y hy; cases h; exact Or.inr ⟨_, _, _, _, _, ht, rfl, hys, hj, hy, rfl⟩
          · cases h
      · cases h
    · cases h
  · cases h
theorem ax_ast_inv {t : Nat} {st : List Value} {w : ax_W} {r' : List Value × ax_W} (h : ax_ast t st w = some r') : ∃ x j i r w', st = .int x :: .int j :: .ref i :: r ∧ ax_wr w i t j (.int x) = some w' ∧ r' = (r, w') := by
  unfold ax_ast at h; split at h
  · split at h
    · rename_i w' hw; cases h; exact ⟨_, _, _, _, _, rfl, hw, rfl⟩
    · cases h
  · cases h
theorem ax_fit_ok {B : Nat} {X : Nat → Value} {fk : Nat} {v : Value} {ty : FieldType} (h : ax_fit fk v = true) (hty : (fk = 0 ∧ ty = .int) ∨ (fk = 1 ∧ ty = .boolean) ∨ (fk = 2 ∧ ((∃ n, ty = .object n) ∨ ∃ t, ty = .array t))) : narrow ty (ax_v B X v) = ax_v B X v ∧ fits ty (ax_v B X v) = true := by
  rcases hty with ⟨rfl, rfl⟩ | ⟨rfl, rfl⟩ | ⟨rfl, ⟨n, rfl⟩ | ⟨n, rfl⟩⟩
  · cases v <;> simp [ax_fit] at h
    exact ⟨rfl, rfl⟩
  · cases v with
    | int x =>
      simp only [ax_fit, Bool.or_eq_true, beq_iff_eq] at h
      rcases h with rfl | rfl <;> exact ⟨rfl, rfl⟩
    | _ => simp [ax_fit] at h
  · cases v <;> simp [ax_fit] at h <;> exact ⟨rfl, rfl⟩
  · cases v <;> simp [ax_fit] at h <;> exact ⟨rfl, rfl⟩
section AX4
variable {p : Program} {l : Launch} {e : Env} {R : Room} {s : State} {m : MethodId} {args : Array Value} {below : List Frame} {meth : Method} {c : Code} {H : Heap} {locs : List Loc} {cells slots : Nat} {Q : State → Prop}
variable {cc : ByteArray} {pc : Nat} {A : Array Slot} {B : Nat} {X : Nat → Value} {D : va_G} {H0 : Heap} {w w' : ax_W} {st st' : List Value} {own : String}
def ax_lk (own : String) (idx : Nat) (q : vw_C) (k : Nat) (args : Array Value) (s : State) : Prop :=
  (Cond.fieldLink own idx q.1 (q.2.1 k).2.1 (q.2.1 k).2.2.1).before args s = true ∨ ∃ host, (Cond.fieldLinkNest own idx q.1 (q.2.1 k).2.1 (q.2.1 k).2.2.1 host).before args s = true
theorem ax_get_ok (hexec : p.tables.exec = Jvm.exec) (hb : c.code = cc) (hown : s.vm.findClass own = some m.cls) (hK : ax_K D s) (hS : ax_Sim B X D H0 w H) {cn k idx : Nat} {q : vw_C} (hc : cls_all[cn]? = some q) (hk : k < q.2.2)
    (hdecl : (q.2.1 k).1 = q.1) (hws : ∀ v ∈ u_ws q.1 q.2.1 q.2.2, v.before args s = true) (hlink : ax_lk own idx q k args s) (hcn : cn < 20) (hd : decode cc pc = .ok (.getfield idx, 3)) (h : ax_get cn k st w = some st')
    (kk : W p l e R s m args below meth c H locs cells slots Q (F0 m (pc + 3) A (st'.map (ax_v B X)))) : W p l e R s m args below meth c H locs cells slots Q (F0 m pc A (st.map (ax_v B X))) := by
  obtain ⟨i, r, fs, v, rfl, hw, hv, rfl⟩ := ax_get_inv h
  obtain ⟨cell, c1, c2⟩ := hS.2.1 i _ hw
  obtain ⟨hSl, hfc, kC, hkC, hkind⟩ := hK.1 cn q hc
  obtain ⟨cf, kf, fi, f, hi, hsl⟩ := hSl k hk
  rw [hdecl] at hi
  have hst := (u_facts hfc hkC (by have := u_lays hws (fun v hv => hv) hk; rw [hdecl] at this; exact this) hi).1
  have hslot : cell.slots[f.slot]? = some (ax_v B X v) := by
    have := c2.2.2.2.2.2.2 k v hv
    unfold ax_sx at this
    rw [if_neg (by show ¬ 20 ≤ cn; omega)] at this
    rw [hsl]; exact this
  rcases hlink with hl | ⟨host, hl⟩
  · exact W.getf hexec hb hown hl hi hst c1 c2.known hslot rfl rfl hd kk
  · exact va_Wgetf hexec hb hown hl hi hst c1 c2.known hslot rfl rfl hd kk
/-- the fields of a class lie apart -/
def ax_ap (D : va_G) : Prop := ∀ t, t < 20 → ∀ a b, a < ax_nf t → b < ax_nf t → a ≠ b → D.2 t a ≠ D.2 t b
theorem ax_put_ok (hexec : p.tables.exec = Jvm.exec) (hb : c.code = cc) (hown : s.vm.findClass own = some m.cls) (hK : ax_K D s) (hap : ax_ap D) (hS : ax_Sim B X D H0 w H) {cn k fk idx : Nat} {q : vw_C} (hc : cls_all[cn]? = some q) (hk : k < q.2.2)
    (hdecl : (q.2.1 k).1 = q.1) (hws : ∀ v ∈ u_ws q.1 q.2.1 q.2.2, v.before args s = true) (hlink : ax_lk own idx q k args s)
    (hfin : (q.2.1 k).2.2.2 = true → (Cond.fieldLink own idx q.1 (q.2.1 k).2.1 (q.2.1 k).2.2.1).before args s = true ∧ meth.name = "<init>" ∧ q.1 = own) (hcn : cn < 9) {ty : FieldType} (hty : parseFieldDescriptor (q.2.1 k).2.2.1 = some ty)
    (hfk : (fk = 0 ∧ ty = .int) ∨ (fk = 1 ∧ ty = .boolean) ∨ (fk = 2 ∧ ((∃ n, ty = .object n) ∨ ∃ t, ty = .array t))) (hd : decode cc pc = .ok (.putfield idx, 3)) (h : ax_put cn k fk st w = some (st', w'))
    (kk : ∀ (H' : Heap) (a : Nat × Nat), ax_Sim B X D H0 w' H' → B ≤ a.1 → W p l e R s m args below meth c H' (locs ++ [⟨a.1, a.2⟩]) cells slots Q (F0 m (pc + 3) A (st'.map (ax_v B X)))) : W p l e R s m args below meth c H locs cells slots Q (F0 m pc A (st.map (ax_v B X))) := by
  obtain ⟨v, i, r, fs, rfl, hf, hw, hkl, e⟩ := ax_put_inv h
  cases e
  obtain ⟨cell, c1, c2⟩ := hS.2.1 i _ hw
  obtain ⟨hSl, hfc, kC, hkC, hkind⟩ := hK.1 cn q hc
  obtain ⟨cf, kf, fi, f, hi, hsl⟩ := hSl k hk
  rw [hdecl] at hi
  have hlay := u_lays hws (fun v hv => hv) hk
  rw [hdecl] at hlay
  have hst := (u_facts hfc hkC hlay hi).1
  have hset := c2.set (fun ht => hap _ ht) ⟨by show cn ≠ 9; omega, by show cn ≠ 10; omega⟩ hkl v
  have hsx : ax_sx D cn k = f.slot := by
    unfold ax_sx
    rw [if_neg (by omega), hsl]
  have hlt : f.slot < cell.slots.size := by
    have := c2.2.2.2.2.2.2 k _ (List.getElem?_eq_getElem hkl)
    rw [show ax_sx D (cn, fs).1 k = f.slot from hsx] at this
    exact k2_hasslot this
  obtain ⟨hn, hft⟩ := ax_fit_ok (B := B) (X := X) hf hfk
  have hcc : cell.cls = D.1 cn := c2.1
  have hil : i < w.length := (List.getElem?_eq_some_iff.mp hw).1
  by_cases hfl : (q.2.1 k).2.2.2 = true
  · obtain ⟨hl, hin, hqo⟩ := hfin hfl
    have hlf := hws _ (u_in_lay hk)
    unfold u_lay at hlf
    rw [if_pos hfl, hdecl] at hlf
    have hcf : m.cls = cf := by
      obtain ⟨_, _, c', _, _, _, -, -, hf', -, -, -, hown2, -⟩ := Cond.laysFinal_spec hlf
      have e1 : c' = cf := by have := hi.symm.trans hf'; simp at this; exact this.1.symm
      rw [hqo] at hown2
      rw [← e1]; exact Option.some.inj (hown.symm.trans hown2)
    have h6 := u_fits hfc hkC hkind (Or.inr hlf) hi hty hn hft
    refine W.putFinK hexec hb hown hl hi hst hcf hin (by rw [hcc]; exact h6) c1 c2.2.1 hlt rfl rfl hd fun H' e1 e2 e3 => ?_
    refine kk H' (_, _) (hS.set hil hset ?_ e2 e3) (Nat.le_add_right _ _)
    rw [show ax_sx D (cn, fs).1 k = f.slot from hsx]
    exact e1
  · have hlf := hws _ (u_in_lay hk)
    unfold u_lay at hlf
    rw [if_neg hfl, hdecl] at hlf
    have h6 := u_store hfc hkC hkind hlf hi hty hn hft
    rcases hlink with hl | ⟨host, hl⟩
    · refine W.putK hexec hb (f := f) ⟨hown, hl, ⟨_, _, _, hi⟩, hst⟩ (by rw [hcc]; exact h6) c1 c2.2.1 hlt rfl rfl hd fun H' e1 e2 e3 => ?_
      refine kk H' (_, _) (hS.set hil hset ?_ e2 e3) (Nat.le_add_right _ _)
      rw [show ax_sx D (cn, fs).1 k = f.slot from hsx]
      exact e1
    · refine va_WputK hexec hb (f := f) hown hl hi hst (by rw [hcc]; exact h6) c1 c2.2.1 hlt rfl rfl hd fun H' e1 e2 e3 => ?_
      refine kk H' (_, _) (hS.set hil hset ?_ e2 e3) (Nat.le_add_right _ _)
      rw [show ax_sx D (cn, fs).1 k = f.slot from hsx]
      exact e1
end AX4
end
section
/-! arrays, making cells, constants -/
/-- what lies outside and is read: arrays of ints -/
def ax_XS (xs : List Int32) (B : Nat) (X : Nat → Value) (H0 : Heap) (s : State) : Prop := ∀ (k : Nat) (ys : List Int32), ax_ext xs k = some ys →
  ∃ (a : Nat) (cell : Cell), X k = .ref a ∧ a < B ∧ H0[a]? = some cell ∧ s.isArrayOf cell .int ∧ cell.vm ≠ .unknown ∧ (ys.length ≤ cell.slots.size ∧ cell.slots.size.toInt32 = ys.length.toInt32) ∧ ∀ (j : Nat) (y : Int32), ys[j]? = some y → cell.slots[j]? = some (.int y)
theorem ax_XS.moved {xs : List Int32} {B : Nat} {X : Nat → Value} {H0 : Heap} {u U : State} (hvm : u.vm.Alike U.vm) (h : ax_XS xs B X H0 u) : ax_XS xs B X H0 U := fun k ys hk => by
  obtain ⟨a, cell, h1, h2, h3, h4, h5⟩ := h k ys hk
  exact ⟨a, cell, h1, h2, h3, State.isArrayOf_alike hvm h4, h5⟩
theorem ax_nat_of {x : Int32} (h : ¬ x < 0) : x.toInt = (x.toNatClampNeg : Int) := by
  have hz0 : (0 : Int) ≤ x.toInt := by
    have := Int32.not_lt.mp h
    simpa using Int32.le_iff_toInt_le.mp this
  show x.toInt = ((x.toInt.toNat : Nat) : Int)
  omega
theorem ax_ofNat {x : Int32} (h : ¬ x < 0) : x = Int32.ofNat x.toNatClampNeg := by
  have h1 := ax_nat_of h
  have h2 : x.toNatClampNeg < 2 ^ 31 := by
    have := Int32.toInt_lt x
    omega
  apply Int32.toInt_inj.mp
  rw [toInt_of rfl h2, h1]
theorem ax_char {x : Int32} (h0 : ¬ x < 0) (h1 : ¬ 65535 < x) : narrow .char (.int x) = .int x := by
  have e := ax_ofNat h0
  have h2 : x.toNatClampNeg < 65536 := by
    have h3 := ax_nat_of h0
    have h4 : x.toInt ≤ (65535 : Int32).toInt := Int32.le_iff_toInt_le.mp (Int32.not_lt.mp h1)
    have h5 : (65535 : Int32).toInt = 65535 := by decide
    omega
  rw [e]
  exact (pk_charN h2).1
theorem ax_bool {x : Int32} (h0 : ¬ x < 0) (h1 : ¬ 1 < x) : narrow .boolean (.int x) = .int x := by
  have h3 := ax_nat_of h0
  have h4 : x.toInt ≤ (1 : Int32).toInt := Int32.le_iff_toInt_le.mp (Int32.not_lt.mp h1)
  have h5 : (1 : Int32).toInt = 1 := by decide
  have h6 : x.toNatClampNeg = 0 ∨ x.toNatClampNeg = 1 := by omega
  have e := ax_ofNat h0
  rcases h6 with h6 | h6 <;> rw [h6] at e <;> rw [e] <;> rfl
theorem ax_cast_inv {t : Nat} {hi : Int32} {st : List Value} {w : ax_W} {r' : List Value × ax_W} (h : ax_cast t hi st w = some r') : ∃ x j i r w', ¬ x < 0 ∧ ¬ hi < x ∧ st = .int x :: .int j :: .ref i :: r ∧ ax_wr w i t j (.int x) = some w' ∧ r' = (r, w') := by
  unfold ax_cast at h; split at h
  · split at h
    · cases h
    · rename_i hx
      simp only [Bool.or_eq_true, decide_eq_true_eq, not_or] at hx
      obtain ⟨x, j, i, r, w', e, h2, h3⟩ := ax_ast_inv h
      cases e
      exact ⟨_, j, i, r, w', hx.1, hx.2, rfl, h2, h3⟩
  · cases h
theorem ax_aald_inv {st st' : List Value} {w : ax_W} (h : ax_aald st w = some st') : ∃ j i r t vs v, st = .int j :: .ref i :: r ∧ w[i]? = some (t, vs) ∧ ¬ t < 30 ∧ ¬ j < 0 ∧ vs[j.toNatClampNeg]? = some v ∧ st' = v :: r := by
  unfold ax_aald at h; split at h
  · split at h
    · rename_i t vs hw
      split at h
      · cases h
      · rename_i ht
        split at h
        · cases h
        · rename_i hj
          split at h
          · rename_i v hv; cases h; exact ⟨_, _, _, t, vs, v, rfl, hw, ht, hj, hv, rfl⟩
          · cases h
    · cases h
  · cases h
theorem ax_aast_inv {st : List Value} {w : ax_W} {r' : List Value × ax_W} (h : ax_aast st w = some r') : ∃ x j i r q w', st = .ref x :: .int j :: .ref i :: r ∧ w[x]? = some q ∧ ax_wr w i (30 + q.1) j (.ref x) = some w' ∧ r' = (r, w') := by
  unfold ax_aast at h; split at h
  · split at h
    · rename_i c q hw
      split at h
      · rename_i w' hw'; cases h; exact ⟨_, _, _, _, (c, q), w', rfl, hw, hw', rfl⟩
      · cases h
    · cases h
  · cases h
theorem ax_last_inv {st : List Value} {w : ax_W} {r' : List Value × ax_W} (h : ax_last st w = some r') : ∃ x j i r w', st = .long x :: .int j :: .ref i :: r ∧ ax_wr w i 21 j (.long x) = some w' ∧ r' = (r, w') := by
  unfold ax_last at h; split at h
  · split at h
    · rename_i w' hw; cases h; exact ⟨_, _, _, _, _, rfl, hw, rfl⟩
    · cases h
  · cases h
theorem ax_alen_inv {xs : List Int32} {st st' : List Value} {w : ax_W} (h : ax_alen xs st w = some st') :
    (∃ i r t vs, st = .ref i :: r ∧ w[i]? = some (t, vs) ∧ ¬ t < 20 ∧ st' = .int vs.length.toInt32 :: r) ∨ ∃ k r ys, st = .retAddr k :: r ∧ ax_ext xs k = some ys ∧ st' = .int ys.length.toInt32 :: r := by
  unfold ax_alen at h; split at h
  · split at h
    · rename_i t vs hw
      split at h
      · cases h
      · rename_i ht; cases h; exact Or.inl ⟨_, _, t, vs, rfl, hw, ht, rfl⟩
    · cases h
  · split at h
    · rename_i ys hy; cases h; exact Or.inr ⟨_, _, ys, rfl, hy, rfl⟩
    · cases h
  · cases h
section AX5
variable {p : Program} {l : Launch} {e : Env} {R : Room} {s : State} {m : MethodId} {args : Array Value} {below : List Frame} {meth : Method} {c : Code} {H : Heap} {locs : List Loc} {cells slots : Nat} {Q : State → Prop}
variable {cc : ByteArray} {pc : Nat} {A : Array Slot} {B : Nat} {X : Nat → Value} {D : va_G} {H0 : Heap} {w w' : ax_W} {st st' : List Value} {own : String} {xs : List Int32}
theorem ax_in {q : Nat × List Value} {cell : Cell} (h : ax_cell B X D q cell) (ht : 20 ≤ q.1) {j : Int32} (hj : ¬ j < 0) (hl : j.toNatClampNeg < q.2.length) : ¬ (j < 0 ∨ cell.slots.size ≤ j.toNatClampNeg) := by
  rw [(h.2.2.2.1 ht).2]
  intro q
  rcases q with q | q
  · exact hj q
  · omega
theorem ax_slt {q : Nat × List Value} {cell : Cell} (h : ax_cell B X D q cell) (ht : 20 ≤ q.1) {k : Nat} {v : Value} (hv : q.2[k]? = some v) : cell.slots[k]? = some (ax_v B X v) := by
  have := h.2.2.2.2.2.2 k v hv
  unfold ax_sx at this
  rw [if_pos ht] at this
  exact this
theorem ax_iald_ok (hexec : p.tables.exec = Jvm.exec) (hb : c.code = cc) (hK : ax_K D s) (hXS : ax_XS xs B X H0 s) (hS : ax_Sim B X D H0 w H) (hd : decode cc pc = .ok (.iaload, 1)) (h : ax_ald 20 xs st w = some st')
    (kk : W p l e R s m args below meth c H locs cells slots Q (F0 m (pc + 1) A (st'.map (ax_v B X)))) : W p l e R s m args below meth c H locs cells slots Q (F0 m pc A (st.map (ax_v B X))) := by
  rcases ax_ald_inv h with ⟨j, i, r, v, rfl, hr, rfl⟩ | ⟨j, k, r, ys, y, -, rfl, hy, hj, hyj, rfl⟩
  · obtain ⟨vs, hw, hj, hv⟩ := ax_rd_inv hr
    obtain ⟨cell, c1, c2⟩ := hS.2.1 i _ hw
    exact W.iald hexec hb c1 (c2.arr hK rfl) c2.known (ax_in c2 (Nat.le_refl 20) hj (List.getElem?_eq_some_iff.mp hv).1) (ax_slt c2 (Nat.le_refl 20) hv) rfl rfl hd kk
  · obtain ⟨a, cell, h1, h2, h3, h4, h5, h6, h7⟩ := hXS k ys hy
    have hH : H[a]? = some cell := by rw [hS.2.2 a h2]; exact h3
    have hlt : j.toNatClampNeg < ys.length := (List.getElem?_eq_some_iff.mp hyj).1
    simp only [List.map_cons, ax_v, h1] at kk ⊢
    have hin : ¬ (j < 0 ∨ cell.slots.size ≤ j.toNatClampNeg) := by
      have h61 := h6.1
      intro q
      rcases q with q | q
      · exact hj q
      · omega
    exact W.iald hexec hb hH h4 h5 hin (h7 _ _ hyj) rfl rfl hd kk
theorem ax_lald_ok (hexec : p.tables.exec = Jvm.exec) (hb : c.code = cc) (hK : ax_K D s) (hS : ax_Sim B X D H0 w H) (hd : decode cc pc = .ok (.laload, 1)) (h : ax_ald 21 xs st w = some st')
    (kk : W p l e R s m args below meth c H locs cells slots Q (F0 m (pc + 1) A (st'.map (ax_v B X)))) : W p l e R s m args below meth c H locs cells slots Q (F0 m pc A (st.map (ax_v B X))) := by
  rcases ax_ald_inv h with ⟨j, i, r, v, rfl, hr, rfl⟩ | ⟨j, k, r, ys, y, q, -⟩
  · obtain ⟨vs, hw, hj, hv⟩ := ax_rd_inv hr
    obtain ⟨cell, c1, c2⟩ := hS.2.1 i _ hw
    exact W.lald hexec hb c1 (c2.arr hK rfl) c2.known (ax_in c2 (by show 20 ≤ 21; omega) hj (List.getElem?_eq_some_iff.mp hv).1) (ax_slt c2 (by show 20 ≤ 21; omega) hv) rfl rfl hd kk
  · cases q
theorem ax_cald_ok (hexec : p.tables.exec = Jvm.exec) (hb : c.code = cc) (hK : ax_K D s) (hS : ax_Sim B X D H0 w H) (hd : decode cc pc = .ok (.caload, 1)) (h : ax_ald 22 xs st w = some st')
    (kk : W p l e R s m args below meth c H locs cells slots Q (F0 m (pc + 1) A (st'.map (ax_v B X)))) : W p l e R s m args below meth c H locs cells slots Q (F0 m pc A (st.map (ax_v B X))) := by
  rcases ax_ald_inv h with ⟨j, i, r, v, rfl, hr, rfl⟩ | ⟨j, k, r, ys, y, q, -⟩
  · obtain ⟨vs, hw, hj, hv⟩ := ax_rd_inv hr
    obtain ⟨cell, c1, c2⟩ := hS.2.1 i _ hw
    exact W.cald hexec hb c1 (c2.arr hK rfl) c2.known (ax_in c2 (by show 20 ≤ 22; omega) hj (List.getElem?_eq_some_iff.mp hv).1) (ax_slt c2 (by show 20 ≤ 22; omega) hv) rfl rfl hd kk
  · cases q
theorem ax_zald_ok (hexec : p.tables.exec = Jvm.exec) (hb : c.code = cc) (hK : ax_K D s) (hS : ax_Sim B X D H0 w H) (hd : decode cc pc = .ok (.baload, 1)) (h : ax_ald 23 xs st w = some st')
    (kk : W p l e R s m args below meth c H locs cells slots Q (F0 m (pc + 1) A (st'.map (ax_v B X)))) : W p l e R s m args below meth c H locs cells slots Q (F0 m pc A (st.map (ax_v B X))) := by
  rcases ax_ald_inv h with ⟨j, i, r, v, rfl, hr, rfl⟩ | ⟨j, k, r, ys, y, q, -⟩
  · obtain ⟨vs, hw, hj, hv⟩ := ax_rd_inv hr
    obtain ⟨cell, c1, c2⟩ := hS.2.1 i _ hw
    exact W.zald hexec hb c1 (c2.arr hK rfl) c2.known (ax_in c2 (by show 20 ≤ 23; omega) hj (List.getElem?_eq_some_iff.mp hv).1) (ax_slt c2 (by show 20 ≤ 23; omega) hv) rfl rfl hd kk
  · cases q
theorem ax_ref_ty {t : Nat} {ty : FieldType} (h : ax_ty t = some ty) (ht : ¬ t < 30) : ∃ q, cls_all[t - 30]? = some q ∧ ty = .object q.1 ∧ 30 ≤ t ∧ t < 41 := by
  unfold ax_ty at h
  split at h <;> first | (exact absurd (by decide) ht) | (cases h; exact ⟨_, rfl, rfl, by decide, by decide⟩) | cases h
theorem ax_aald_ok (hexec : p.tables.exec = Jvm.exec) (hb : c.code = cc) (hK : ax_K D s) (hS : ax_Sim B X D H0 w H) (hd : decode cc pc = .ok (.aaload, 1)) (h : ax_aald st w = some st')
    (kk : W p l e R s m args below meth c H locs cells slots Q (F0 m (pc + 1) A (st'.map (ax_v B X)))) : W p l e R s m args below meth c H locs cells slots Q (F0 m pc A (st.map (ax_v B X))) := by
  obtain ⟨j, i, r, t, vs, v, rfl, hw, ht, hj, hv, rfl⟩ := ax_aald_inv h
  obtain ⟨cell, c1, c2⟩ := hS.2.1 i _ hw
  have h20 : 20 ≤ t := by omega
  obtain ⟨⟨ty, hty⟩, -⟩ := c2.2.2.2.1 h20
  obtain ⟨q, -, rfl, -⟩ := ax_ref_ty hty ht
  exact W.aald hexec hb c1 (c2.arr hK hty) rfl c2.known (ax_in c2 h20 hj (List.getElem?_eq_some_iff.mp hv).1) (ax_slt c2 h20 hv) rfl rfl hd kk
theorem ax_alen_ok (hexec : p.tables.exec = Jvm.exec) (hb : c.code = cc) (hK : ax_K D s) (hXS : ax_XS xs B X H0 s) (hS : ax_Sim B X D H0 w H) (hd : decode cc pc = .ok (.arraylength, 1)) (h : ax_alen xs st w = some st')
    (kk : W p l e R s m args below meth c H locs cells slots Q (F0 m (pc + 1) A (st'.map (ax_v B X)))) : W p l e R s m args below meth c H locs cells slots Q (F0 m pc A (st.map (ax_v B X))) := by
  rcases ax_alen_inv h with ⟨i, r, t, vs, rfl, hw, ht, rfl⟩ | ⟨k, r, ys, rfl, hy, rfl⟩
  · obtain ⟨cell, c1, c2⟩ := hS.2.1 i _ hw
    obtain ⟨⟨ty, hty⟩, hz⟩ := c2.2.2.2.1 (by show 20 ≤ t; omega)
    exact W.alen hexec hb c1 (c2.arr hK hty) (by rw [hz]) rfl rfl hd kk
  · obtain ⟨a, cell, h1, h2, h3, h4, h5, h6, h7⟩ := hXS k ys hy
    have hH : H[a]? = some cell := by rw [hS.2.2 a h2]; exact h3
    simp only [List.map_cons, ax_v, h1] at kk ⊢
    exact W.alen hexec hb hH h4 h6.2 rfl rfl hd kk
/-- the heap behind a store into an array -/
theorem ax_stored (hS : ax_Sim B X D H0 w H) {i t : Nat} {j : Int32} {v : Value} {vs : List Value} {cell : Cell} (hw : w[i]? = some (t, vs)) (ht : 20 ≤ t) (hl : j.toNatClampNeg < vs.length) (c2 : ax_cell B X D (t, vs) cell) {H' : Heap}
    (e1 : H'[B + i]? = some (cell.setSlot j.toNatClampNeg (ax_v B X v))) (e2 : H'.size = H.size) (e3 : ∀ q, q ≠ B + i → H'[q]? = H[q]?) : ax_Sim B X D H0 (w.set i (t, vs.set j.toNatClampNeg v)) H' := by
  have hset := c2.set (fun q => absurd q (by show ¬ t < 20; omega)) ⟨by show t ≠ 9; omega, by show t ≠ 10; omega⟩ hl v
  refine hS.set (List.getElem?_eq_some_iff.mp hw).1 hset ?_ e2 e3
  rw [show ax_sx D (t, vs).1 j.toNatClampNeg = j.toNatClampNeg from by unfold ax_sx; rw [if_pos ht]]
  exact e1
theorem ax_iast_ok (hexec : p.tables.exec = Jvm.exec) (hb : c.code = cc) (hK : ax_K D s) (hS : ax_Sim B X D H0 w H) (hd : decode cc pc = .ok (.iastore, 1)) (h : ax_ast 20 st w = some (st', w'))
    (kk : ∀ (H' : Heap) (a : Nat × Nat), ax_Sim B X D H0 w' H' → B ≤ a.1 → W p l e R s m args below meth c H' (locs ++ [⟨a.1, a.2⟩]) cells slots Q (F0 m (pc + 1) A (st'.map (ax_v B X)))) : W p l e R s m args below meth c H locs cells slots Q (F0 m pc A (st.map (ax_v B X))) := by
  obtain ⟨x, j, i, r, w1, rfl, hr, er⟩ := ax_ast_inv h
  cases er
  obtain ⟨vs, hw, hj, hl, rfl⟩ := ax_wr_inv hr
  obtain ⟨cell, c1, c2⟩ := hS.2.1 i _ hw
  exact W.iast hexec hb c1 (c2.arr hK rfl) c2.known (ax_in c2 (Nat.le_refl 20) hj hl) rfl rfl hd fun H' e1 e2 e3 => kk H' (_, _) (ax_stored (v := .int x) hS hw (Nat.le_refl 20) hl c2 e1 e2 e3) (Nat.le_add_right _ _)
theorem ax_last_ok (hexec : p.tables.exec = Jvm.exec) (hb : c.code = cc) (hK : ax_K D s) (hS : ax_Sim B X D H0 w H) (hd : decode cc pc = .ok (.lastore, 1)) (h : ax_last st w = some (st', w'))
    (kk : ∀ (H' : Heap) (a : Nat × Nat), ax_Sim B X D H0 w' H' → B ≤ a.1 → W p l e R s m args below meth c H' (locs ++ [⟨a.1, a.2⟩]) cells slots Q (F0 m (pc + 1) A (st'.map (ax_v B X)))) : W p l e R s m args below meth c H locs cells slots Q (F0 m pc A (st.map (ax_v B X))) := by
  obtain ⟨x, j, i, r, w1, rfl, hr, er⟩ := ax_last_inv h
  cases er
  obtain ⟨vs, hw, hj, hl, rfl⟩ := ax_wr_inv hr
  obtain ⟨cell, c1, c2⟩ := hS.2.1 i _ hw
  exact W.last hexec hb c1 (c2.arr hK rfl) c2.known (ax_in c2 (by show 20 ≤ 21; omega) hj hl) rfl rfl hd fun H' e1 e2 e3 => kk H' (_, _) (ax_stored (v := .long x) hS hw (by omega) hl c2 e1 e2 e3) (Nat.le_add_right _ _)
theorem ax_cast_ok (hexec : p.tables.exec = Jvm.exec) (hb : c.code = cc) (hK : ax_K D s) (hS : ax_Sim B X D H0 w H) (hd : decode cc pc = .ok (.castore, 1)) (h : ax_cast 22 65535 st w = some (st', w'))
    (kk : ∀ (H' : Heap) (a : Nat × Nat), ax_Sim B X D H0 w' H' → B ≤ a.1 → W p l e R s m args below meth c H' (locs ++ [⟨a.1, a.2⟩]) cells slots Q (F0 m (pc + 1) A (st'.map (ax_v B X)))) : W p l e R s m args below meth c H locs cells slots Q (F0 m pc A (st.map (ax_v B X))) := by
  obtain ⟨x, j, i, r, w1, hx0, hx1, rfl, hr, er⟩ := ax_cast_inv h
  cases er
  obtain ⟨vs, hw, hj, hl, rfl⟩ := ax_wr_inv hr
  obtain ⟨cell, c1, c2⟩ := hS.2.1 i _ hw
  refine W.cast hexec hb c1 (c2.arr hK rfl) c2.known (ax_in c2 (by show 20 ≤ 22; omega) hj hl) rfl rfl hd fun H' e1 e2 e3 => kk H' (_, _) (ax_stored (v := .int x) hS hw (by omega) hl c2 ?_ e2 e3) (Nat.le_add_right _ _)
  rw [e1, ax_char hx0 hx1]
  rfl
theorem ax_zast_ok (hexec : p.tables.exec = Jvm.exec) (hb : c.code = cc) (hK : ax_K D s) (hS : ax_Sim B X D H0 w H) (hd : decode cc pc = .ok (.bastore, 1)) (h : ax_cast 23 1 st w = some (st', w'))
    (kk : ∀ (H' : Heap) (a : Nat × Nat), ax_Sim B X D H0 w' H' → B ≤ a.1 → W p l e R s m args below meth c H' (locs ++ [⟨a.1, a.2⟩]) cells slots Q (F0 m (pc + 1) A (st'.map (ax_v B X)))) : W p l e R s m args below meth c H locs cells slots Q (F0 m pc A (st.map (ax_v B X))) := by
  obtain ⟨x, j, i, r, w1, hx0, hx1, rfl, hr, er⟩ := ax_cast_inv h
  cases er
  obtain ⟨vs, hw, hj, hl, rfl⟩ := ax_wr_inv hr
  obtain ⟨cell, c1, c2⟩ := hS.2.1 i _ hw
  refine W.zast hexec hb c1 (c2.arr hK rfl) c2.known (ax_in c2 (by show 20 ≤ 23; omega) hj hl) rfl rfl hd fun H' e1 e2 e3 => kk H' (_, _) (ax_stored (v := .int x) hS hw (by omega) hl c2 ?_ e2 e3) (Nat.le_add_right _ _)
  rw [e1, ax_bool hx0 hx1]
  rfl
theorem ax_aast_ok (hexec : p.tables.exec = Jvm.exec) (hb : c.code = cc) (hK : ax_K D s) (hS : ax_Sim B X D H0 w H) (hd : decode cc pc = .ok (.aastore, 1)) (h : ax_aast st w = some (st', w'))
    (kk : ∀ (H' : Heap) (a : Nat × Nat), ax_Sim B X D H0 w' H' → B ≤ a.1 → W p l e R s m args below meth c H' (locs ++ [⟨a.1, a.2⟩]) cells slots Q (F0 m (pc + 1) A (st'.map (ax_v B X)))) : W p l e R s m args below meth c H locs cells slots Q (F0 m pc A (st.map (ax_v B X))) := by
  obtain ⟨x, j, i, r, q, w1, rfl, hx, hr, er⟩ := ax_aast_inv h
  cases er
  obtain ⟨vs, hw, hj, hl, rfl⟩ := ax_wr_inv hr
  obtain ⟨cell, c1, c2⟩ := hS.2.1 i _ hw
  obtain ⟨cv, v1, v2⟩ := hS.2.1 x _ hx
  obtain ⟨⟨ty, hty⟩, hz⟩ := c2.2.2.2.1 (by show 20 ≤ 30 + q.1; omega)
  obtain ⟨u, hu, rfl, -⟩ := ax_ref_ty hty (by show ¬ 30 + q.1 < 30; omega)
  rw [show (30 + q.1, vs).1 - 30 = q.1 from by show 30 + q.1 - 30 = q.1; omega] at hu
  have hcls := (hK.1 _ u hu).2
  obtain ⟨kA, comp, k1, k2, k3, -⟩ := (hK.2 _ _ hty).2
  have hcomp : comp = D.1 q.1 := Option.some.inj (k3.symm.trans hcls.1)
  subst hcomp
  obtain ⟨kC, hkC, -⟩ := hcls.2
  exact W.aast hexec hb c1 (fun z hz => by rw [c2.2.1] at hz; cases hz) c2.known (by rw [c2.1]; exact k1) k2 rfl hkC ⟨hj, by rw [hz]; exact hl⟩ v1 (fun z hz => by rw [v2.2.1] at hz; cases hz) (by rw [v2.1]; exact hkC) (by rw [v2.1]; exact va_assign hcls) rfl rfl hd
    fun H' e1 e2 e3 => kk H' (_, _) (ax_stored (v := .ref x) hS hw (by omega) hl c2 e1 e2 e3) (Nat.le_add_right _ _)
end AX5
end
section
/-! making cells, constants, System.arraycopy, Object's constructor -/
theorem ax_newa_inv {t : Nat} {d : Value} {st : List Value} {w : ax_W} {r' : List Value × ax_W} (h : ax_newa t d st w = some r') : ∃ n r, st = .int n :: r ∧ ¬ n < 0 ∧ n.toNatClampNeg ≤ 100000 ∧ r' = (.ref w.length :: r, w ++ [(t, List.replicate n.toNatClampNeg d)]) := by
  unfold ax_newa at h; split at h
  · rename_i n r
    split at h
    · cases h
    · rename_i hn
      simp only [Bool.or_eq_true, decide_eq_true_eq, not_or] at hn
      cases h
      refine ⟨n, r, rfl, hn.1, ?_, rfl⟩
      have h3 := ax_nat_of hn.1
      have h4 : n.toInt ≤ (100000 : Int32).toInt := Int32.le_iff_toInt_le.mp (Int32.not_lt.mp hn.2)
      have h5 : (100000 : Int32).toInt = 100000 := by decide
      omega
  · cases h
theorem ax_sz_push (w : ax_W) (q : Nat × List Value) : ax_sz (w ++ [q]) = ax_sz w + ax_cs q := by simp [ax_sz]
theorem ax_cs_arr {t : Nat} {vs : List Value} (h : 20 ≤ t) : ax_cs (t, vs) = vs.length := by
  unfold ax_cs
  rw [if_neg (by show ¬ t = 9; omega), if_neg (by show ¬ t = 10; omega)]
section AX6
variable {p : Program} {l : Launch} {e : Env} {R : Room} {s : State} {m : MethodId} {args : Array Value} {below : List Frame} {meth : Method} {c : Code} {H : Heap} {locs : List Loc} {cells slots : Nat} {Q : State → Prop}
variable {cc : ByteArray} {pc : Nat} {A : Array Slot} {B : Nat} {X : Nat → Value} {D : va_G} {H0 : Heap} {w w' : ax_W} {st st' : List Value} {own : String} {xs : List Int32}
theorem ax_arr_cell {t n : Nat} {d : Value} {ty : FieldType} (ht : ax_ty t = some ty) (h20 : 20 ≤ t) (hd : ax_v B X d = defaultValue ty) : ax_cell B X D (t, List.replicate n d) (arrV (D.1 t) n (fun _ => defaultValue ty)) := by
  refine ⟨rfl, rfl, ⟨rfl, rfl⟩, fun _ => ⟨⟨ty, ht⟩, by rw [arrV_size]; simp⟩, fun q => absurd q (by show ¬ t < 20; omega), by rw [arrV_size, ax_cs_arr h20]; simp, fun k v hv => ?_⟩
  have hk : k < n := by
    have := (List.getElem?_eq_some_iff.mp hv).1
    simpa using this
  have hv' : v = d := by
    have h2 : (List.replicate n d)[k]? = some v := hv
    rw [List.getElem?_replicate, if_pos hk] at h2
    exact (Option.some.inj h2).symm
  subst hv'
  unfold ax_sx
  rw [if_pos h20, arrV_read _ _ hk, hd]
theorem ax_newarray_ok (hexec : p.tables.exec = Jvm.exec) (hb : c.code = cc) (hK : ax_K D s) (hS : ax_Sim B X D H0 w H) {t : ArrayType} {tg : Nat} {d : Value} (hat : ax_at t = some (tg, d)) (harr : (Cond.arrayClass (newarray.typeOf t)).before args s = true)
    (hd : decode cc pc = .ok (.newarray t, 2)) (h : ax_newa tg d st w = some (st', w')) (hcells : cells + 1 ≤ R.cells) (hslots : ∀ k, ax_sz w' = ax_sz w + k → slots + k ≤ R.slots)
    (kk : ∀ (H' : Heap) (k : Nat), ax_Sim B X D H0 w' H' → ax_sz w' = ax_sz w + k → w'.length = w.length + 1 → W p l e R s m args below meth c H' locs (cells + 1) (slots + k) Q (F0 m (pc + 2) A (st'.map (ax_v B X)))) : W p l e R s m args below meth c H locs cells slots Q (F0 m pc A (st.map (ax_v B X))) := by
  obtain ⟨n, r, rfl, hn0, hn1, er⟩ := ax_newa_inv h
  cases er
  have facts : ax_ty tg = some (newarray.typeOf t) ∧ 20 ≤ tg ∧ ax_v B X d = defaultValue (newarray.typeOf t) ∧ componentBytes (newarray.typeOf t) ≤ 8 ∧ ∀ cA, va_RA s cA (newarray.typeOf t) → s.vm.findClass ("[" ++ (newarray.typeOf t).toString) = some cA := by
    cases t <;> simp only [ax_at] at hat <;> cases hat <;> exact ⟨rfl, by decide, rfl, by decide, fun cA h => h⟩
  obtain ⟨f1, f2, f3, f4, f5⟩ := facts
  have hsz : ax_sz (w ++ [(tg, List.replicate n.toNatClampNeg d)]) = ax_sz w + n.toNatClampNeg := by
    rw [ax_sz_push, ax_cs_arr f2]; simp
  refine va_newaK hexec hb harr rfl hd rfl hn0 rfl ?_ hcells (hslots _ hsz) rfl fun H1 cA e1 z1 o1 hAr hNm => ?_
  · have := Nat.mul_le_mul hn1 f4
    omega
  · have hcA : cA = D.1 tg := Option.some.inj (hNm.symm.trans (f5 _ (hK.2 _ _ f1).2))
    subst hcA
    have hz := hS.1
    have := kk H1 n.toNatClampNeg (hS.push (ax_arr_cell f1 f2 f3) e1 z1 o1) hsz (by simp)
    have e2 : (Value.ref w.length :: r).map (ax_v B X) = Value.ref H.size :: r.map (ax_v B X) := by
      simp only [List.map_cons, ax_v, hz]
    rw [e2] at this
    exact this
theorem ax_anew_ok (hexec : p.tables.exec = Jvm.exec) (hb : c.code = cc) (hown : s.vm.findClass own = some m.cls) (hK : ax_K D s) (hS : ax_Sim B X D H0 w H) {cn idx : Nat} {C : String} (hty : ax_ty (30 + cn) = some (.object C)) (hcl : (Cond.classLink own idx C).before args s = true) (hov : (Cond.arrayOver (.object C)).before args s = true)
    (hd : decode cc pc = .ok (.anewarray idx, 3)) (h : ax_newa (30 + cn) .null st w = some (st', w')) (hcells : cells + 1 ≤ R.cells) (hslots : ∀ k, ax_sz w' = ax_sz w + k → slots + k ≤ R.slots)
    (kk : ∀ (H' : Heap) (k : Nat), ax_Sim B X D H0 w' H' → ax_sz w' = ax_sz w + k → w'.length = w.length + 1 → W p l e R s m args below meth c H' locs (cells + 1) (slots + k) Q (F0 m (pc + 3) A (st'.map (ax_v B X)))) : W p l e R s m args below meth c H locs cells slots Q (F0 m pc A (st.map (ax_v B X))) := by
  obtain ⟨n, r, rfl, hn0, hn1, er⟩ := ax_newa_inv h
  cases er
  have hsz : ax_sz (w ++ [(30 + cn, List.replicate n.toNatClampNeg Value.null)]) = ax_sz w + n.toNatClampNeg := by
    rw [ax_sz_push, ax_cs_arr (by omega)]; simp
  refine W.anew hexec hb hown hcl hov rfl hd rfl hn0 (by omega) hcells (hslots _ hsz) fun cA kA comp h1 h2 h3 h4 => ?_
  obtain ⟨kA', comp', -, -, -, hNm⟩ := (hK.2 _ _ hty).2
  have hcA : cA = D.1 (30 + cn) := Option.some.inj (h1.symm.trans hNm)
  subst hcA
  have hz := hS.1
  have hcell : ax_cell B X D (30 + cn, List.replicate n.toNatClampNeg Value.null) { cls := D.1 (30 + cn), slots := Array.replicate n.toNatClampNeg .null, vm := .none } := by
    refine ⟨rfl, rfl, ⟨rfl, rfl⟩, fun _ => ⟨⟨_, hty⟩, by simp⟩, fun q => absurd q (by show ¬ 30 + cn < 20; omega), by rw [ax_cs_arr (by omega)]; simp, fun k v hv => ?_⟩
    have hk : k < n.toNatClampNeg := by
      have := (List.getElem?_eq_some_iff.mp hv).1
      simpa using this
    have hv' : v = .null := by
      have h2 : (List.replicate n.toNatClampNeg Value.null)[k]? = some v := hv
      rw [List.getElem?_replicate, if_pos hk] at h2
      exact (Option.some.inj h2).symm
    subst hv'
    unfold ax_sx
    rw [if_pos (by show 20 ≤ 30 + cn; omega)]
    simp [hk, ax_v]
  have := kk _ n.toNatClampNeg (hS.push hcell (H' := H.push { cls := D.1 (30 + cn), slots := Array.replicate n.toNatClampNeg .null, vm := .none }) (by simp) (by simp) (fun a ha => by rw [Array.getElem?_push, if_neg (Nat.ne_of_lt ha)])) hsz (by simp)
  have e2 : (Value.ref w.length :: r).map (ax_v B X) = Value.ref H.size :: r.map (ax_v B X) := by
    simp only [List.map_cons, ax_v, hz]
  rw [e2] at this
  exact this
theorem ax_new_ok (hexec : p.tables.exec = Jvm.exec) (hb : c.code = cc) (hown : s.vm.findClass own = some m.cls) (hK : ax_K D s) (hS : ax_Sim B X D H0 w H) {kinds : List (List Nat)} {cn idx : Nat} {q : vw_C} {ks : List Nat} (hc : cls_all[cn]? = some q) (hcn : cn < 11) (hks : kinds[cn]? = some ks)
    (hcs : ax_cs (cn, ks.map ax_dfl) = q.2.2) (hle : ks.length ≤ q.2.2) (ty : Nat → FieldType) (hty : ∀ k, k < q.2.2 → parseFieldDescriptor (q.2.1 k).2.2.1 = some (ty k)) (hdf : ∀ k fk, ks[k]? = some fk → defaultValue (ty k) = ax_dfl fk)
    (hws : ∀ v ∈ u_ws q.1 q.2.1 q.2.2, v.before args s = true) (hcl : (Cond.classLink own idx q.1).before args s = true) (hins : (Cond.instantiable q.1 q.2.2).before args s = true) (hini : (Cond.initialized q.1).before args s = true)
    (hd : decode cc pc = .ok (.new idx, 3)) (h : ax_new kinds cn st w = some (st', w')) (hcells : cells + 1 ≤ R.cells) (hslots : ∀ k, ax_sz w' = ax_sz w + k → slots + k ≤ R.slots)
    (kk : ∀ (H' : Heap) (k : Nat), ax_Sim B X D H0 w' H' → ax_sz w' = ax_sz w + k → w'.length = w.length + 1 → W p l e R s m args below meth c H' locs (cells + 1) (slots + k) Q (F0 m (pc + 3) A (st'.map (ax_v B X)))) : W p l e R s m args below meth c H locs cells slots Q (F0 m pc A (st.map (ax_v B X))) := by
  unfold ax_new at h
  rw [hks] at h
  cases h
  have hsz : ax_sz (w ++ [(cn, ks.map ax_dfl)]) = ax_sz w + q.2.2 := by rw [ax_sz_push, hcs]
  have hKn := hK.1 cn q hc
  have hz := hS.1
  have hnf : ax_nf cn = q.2.2 := by unfold ax_nf; rw [hc]
  refine W.newc hexec hb hown hcl hins hini rfl hd hcells (hslots _ hsz) fun cC kC h1 h2 h3 h4 => ?_
  have hcC : cC = D.1 cn := Option.some.inj (h1.symm.trans hKn.2.1)
  subst hcC
  have hpush : (H.push { cls := D.1 cn, slots := kC.instanceTypes.map defaultValue, vm := .none })[H.size]? = some (blank (D.1 cn) kC) := by simp [blank]
  obtain ⟨cell, q1, q2, q3, q4⟩ := u_born ty hws (fun v hv => hv) hKn h2 hpush hty
  have hce : cell = blank (D.1 cn) kC := Option.some.inj (q1.symm.trans hpush)
  subst hce
  have hcell : ax_cell B X D (cn, ks.map ax_dfl) (blank (D.1 cn) kC) := by
    refine ⟨rfl, rfl, ⟨rfl, rfl⟩, fun g => absurd g (by show ¬ 20 ≤ cn; omega), fun _ => ⟨by rw [hnf]; simpa using hle, hcn⟩, by rw [hcs]; simp [blank, h4], fun k v hv => ?_⟩
    have hk2 : (ks.map ax_dfl)[k]? = some v := hv
    rw [List.getElem?_map] at hk2
    obtain ⟨fk, hfk, rfl⟩ := Option.map_eq_some_iff.mp hk2
    have hkl : k < q.2.2 := Nat.lt_of_lt_of_le (List.getElem?_eq_some_iff.mp hfk).1 hle
    unfold ax_sx
    rw [if_neg (by show ¬ 20 ≤ cn; omega), q4 k hkl]
    show some (defaultValue (ty k)) = _
    rw [hdf k fk hfk]
    unfold ax_dfl
    split <;> rfl
  have := kk _ q.2.2 (hS.push hcell (H' := H.push { cls := D.1 cn, slots := kC.instanceTypes.map defaultValue, vm := .none }) hpush (by simp) (fun a ha => by rw [Array.getElem?_push, if_neg (Nat.ne_of_lt ha)])) hsz (by simp)
  have e2 : (Value.ref w.length :: st).map (ax_v B X) = Value.ref H.size :: st.map (ax_v B X) := by
    simp only [List.map_cons, ax_v, hz]
  rw [e2] at this
  exact this
theorem ax_cell.eq {t : Nat} {vs : List Value} {cell : Cell} (h : ax_cell B X D (t, vs) cell) (ht : 20 ≤ t) : cell = arrV (D.1 t) vs.length (fun j => ax_v B X (vs.getD j .null)) := by
  obtain ⟨h1, h2, ⟨h3, h4⟩, h5, -, -, h7⟩ := h
  obtain ⟨cls, slots, monitor, hash, vm⟩ := cell
  simp only at h1 h2 h3 h4 h5 h7
  subst h1; subst h2; subst h3; subst h4
  unfold arrV
  congr 1
  apply Array.ext
  · simp [(h5 ht).2]
  · intro i hi1 hi2
    have hi : i < vs.length := by simpa using hi2
    have := h7 i vs[i] (List.getElem?_eq_getElem hi)
    unfold ax_sx at this
    rw [if_pos ht, Array.getElem?_eq_getElem hi1] at this
    rw [Option.some.inj this]
    simp [hi]
theorem ax_cpy_inv {st : List Value} {r' : List Value × ax_W} (h : ax_cpy st w = some r') : ∃ n dp b sp a r t us vs, st = .int n :: .int dp :: .ref b :: .int sp :: .ref a :: r ∧ w[a]? = some (t, us) ∧ w[b]? = some (t, vs) ∧ (t = 20 ∨ t = 21) ∧ ¬ n < 0 ∧ ¬ dp < 0 ∧ ¬ sp < 0 ∧
    sp.toNatClampNeg + n.toNatClampNeg ≤ us.length ∧ dp.toNatClampNeg + n.toNatClampNeg ≤ vs.length ∧ (∀ v ∈ (us.drop sp.toNatClampNeg).take n.toNatClampNeg, ax_is t v = true) ∧ r' = (r, w.set b (t, vs.take dp.toNatClampNeg ++ (us.drop sp.toNatClampNeg).take n.toNatClampNeg ++ vs.drop (dp.toNatClampNeg + n.toNatClampNeg))) := by
  unfold ax_cpy at h; split at h
  · rename_i n dp b sp a r
    split at h
    · rename_i t us t' vs h1 h2
      split at h
      · rename_i hc
        simp only [Bool.and_eq_true, Bool.or_eq_true, decide_eq_true_eq, beq_iff_eq, Bool.not_eq_true', decide_eq_false_iff_not] at hc
        obtain ⟨⟨⟨⟨⟨⟨⟨c1, c2⟩, c3⟩, c4⟩, c5⟩, c6⟩, c7⟩, c8⟩ := hc
        cases h
        subst c1
        exact ⟨n, dp, b, sp, a, r, t, us, vs, rfl, h1, h2, c2, c3, c4, c5, c6, c7, fun v hv => List.all_eq_true.mp c8 v hv, rfl⟩
      · cases h
    · cases h
  · cases h
theorem ax_cpy_list (us vs : List Value) {sp dp n : Nat} (h1 : sp + n ≤ us.length) (h2 : dp + n ≤ vs.length) (k : Nat) :
    (vs.take dp ++ (us.drop sp).take n ++ vs.drop (dp + n)).getD k .null = if dp ≤ k ∧ k < dp + n then us.getD (sp + (k - dp)) .null else vs.getD k .null := by
  simp only [List.getD_eq_getElem?_getD]
  congr 1
  have e1 : (vs.take dp).length = dp := by simp; omega
  have e2 : ((us.drop sp).take n).length = n := by simp; omega
  by_cases hk : k < dp
  · rw [if_neg (by omega), List.append_assoc, List.getElem?_append_left (by omega), List.getElem?_take_of_lt hk]
  · by_cases hk2 : k < dp + n
    · rw [if_pos ⟨by omega, hk2⟩, List.append_assoc, List.getElem?_append_right (by omega), e1, List.getElem?_append_left (by omega), List.getElem?_take_of_lt (by omega), List.getElem?_drop]
    · rw [if_neg (by omega), List.getElem?_append_right (by rw [List.length_append]; omega), List.getElem?_drop, List.length_append, e1, e2, show dp + n + (k - (dp + n)) = k from by omega]
/-- what the machine needs of a word of two slots -/
theorem ax_wt_cat (hX : ax_Xr X) (v : Value) : (ax_v B X v).category = ax_wt v := by
  cases v with
  | retAddr k => obtain ⟨a, ha⟩ := hX k; simp [ax_v, ha, Value.category, ax_wt, ax_c1]
  | _ => rfl
theorem ax_wt_sum (hX : ax_Xr X) (st : List Value) : ((st.map (ax_v B X)).map fun v => v.category).sum = (st.map ax_wt).sum := by
  induction st with
  | nil => rfl
  | cons v r ih => simp only [List.map_cons, List.sum_cons, ih, ax_wt_cat hX]
theorem ax_copy_ok (hX : ax_Xr X) (hexec : p.tables.exec = Jvm.exec) (hb : c.code = cc) (hml : c.maxLocals = A.size) (hown : s.vm.findClass own = some m.cls) (hK : ax_K D s) (hS : ax_Sim B X D H0 w H) {idx : Nat}
    (hlink : (Cond.methodLink own idx arraycopyName).before args s = true) (hnat : (Cond.native arraycopyName).before args s = true) (hstat : (Cond.static arraycopyName).before args s = true) (hini : (Cond.initialized "java/lang/System").before args s = true)
    (hd : decode cc pc = .ok (.invokestatic idx, 3)) (hfr : 1 ≤ R.frames) (hlo : 100 ≤ R.locals) (hwt : (st.map ax_wt).sum ≤ 18) (h : ax_cpy st w = some (st', w'))
    (kk : ∀ (H' : Heap) (L : List Loc), ax_Sim B X D H0 w' H' → (∀ q ∈ L, B ≤ q.base) → W p l e R s m args below meth c H' (locs ++ L) cells slots Q (F0 m (pc + 3) A (st'.map (ax_v B X)))) : W p l e R s m args below meth c H locs cells slots Q (F0 m pc A (st.map (ax_v B X))) := by
  obtain ⟨n, dp, b, sp, a, r, t, us, vs, rfl, hwa, hwb, ht, h1, h2, h3, h4, h5, hall, er⟩ := ax_cpy_inv h
  cases er
  have h20 : 20 ≤ t := by omega
  obtain ⟨ca, a1, a2⟩ := hS.2.1 a _ hwa
  obtain ⟨cb, b1, b2⟩ := hS.2.1 b _ hwb
  obtain ⟨⟨ty, hty⟩, hza⟩ := a2.2.2.2.1 h20
  obtain ⟨-, hzb⟩ := b2.2.2.2.1 h20
  obtain ⟨-, ka, hka, compa, hkinda⟩ := a2.arr hK hty
  obtain ⟨-, kb, hkb, compb, hkindb⟩ := b2.arr hK hty
  intro T hT XX
  have hprim : refKind ty = false := by
    rcases ht with rfl | rfl <;> cases hty <;> rfl
  have hval : ∀ i, i < n.toNatClampNeg → ca.slots.getD (sp.toNatClampNeg + i) .null = ax_v B X (us.getD (sp.toNatClampNeg + i) .null) := fun i hi => by
    have hl : sp.toNatClampNeg + i < us.length := by omega
    have hs := ax_slt a2 h20 (List.getElem?_eq_getElem hl)
    rw [Array.getD_eq_getD_getElem?, hs, List.getD_eq_getElem?_getD, List.getElem?_eq_getElem hl]
    rfl
  have hfitv : ∀ i, i < n.toNatClampNeg → fits ty (ca.slots.getD (sp.toNatClampNeg + i) .null) = true ∧ ∀ U : State, U.takes compb (ca.slots.getD (sp.toNatClampNeg + i) .null) := fun i hi => by
    have hl : sp.toNatClampNeg + i < us.length := by omega
    rw [hval i hi]
    have hmem : us[sp.toNatClampNeg + i] ∈ (us.drop sp.toNatClampNeg).take n.toNatClampNeg := by
      refine List.mem_of_getElem? (i := i) ?_
      rw [List.getElem?_take_of_lt hi, List.getElem?_drop, List.getElem?_eq_getElem hl]
    have hiss := hall _ hmem
    rw [List.getD_eq_getElem?_getD, List.getElem?_eq_getElem hl]
    simp only [Option.getD_some]
    generalize us[sp.toNatClampNeg + i] = v at hiss
    rcases ht with rfl | rfl
    · cases hty
      cases v <;> first | exact ⟨rfl, fun U => trivial⟩ | simp [ax_is] at hiss
    · cases hty
      cases v <;> first | exact ⟨rfl, fun U => trivial⟩ | simp [ax_is] at hiss
  obtain ⟨vm', X', step⟩ := XX.arraycopy hexec hown hlink hnat hstat hini (src := B + a) (dst := B + b) (cs := ca) (cd := cb) (srcPos := sp) (destPos := dp) (n := n) (by rw [hT]; exact a1) (by rw [hT]; exact b1)
    (fun z hz => by rw [a2.2.1] at hz; cases hz) (fun z hz => by rw [b2.2.1] at hz; cases hz) a2.known b2.known hka hkb hkinda hkindb (by simp [hprim]) h3 h2 h1
    (by rw [ax_nat_of h3, ax_nat_of h1, hza]; show ¬ _ > ((us.length : Nat) : Int); omega)
    (by rw [ax_nat_of h2, ax_nat_of h1, hzb]; show ¬ _ > ((vs.length : Nat) : Int); omega)
    (fun vm₁ _ i hi => ⟨(hfitv i hi).1, (hfitv i hi).2 _⟩)
    (g := F0 m pc A ((Value.int n :: .int dp :: .ref b :: .int sp :: .ref a :: st').map (ax_v B X))) rfl (by rw [hml]) (rest := st'.map (ax_v B X)) rfl (by rw [hb]; exact hd) hfr (by
      have hs : ((st'.map (ax_v B X)).map fun v => v.category).sum ≤ 18 := by
        rw [ax_wt_sum hX]
        simp only [List.map_cons, List.sum_cons] at hwt
        omega
      have hnw : nativeFrameWords "java/lang/System" "arraycopy" 5 ≤ 40 := by decide +kernel
      show 2 * 0 + _ + _ ≤ _
      omega)
  have e1 : copied ca cb sp dp n = arrV (D.1 t) vs.length (fun j => ax_v B X ((vs.take dp.toNatClampNeg ++ (us.drop sp.toNatClampNeg).take n.toNatClampNeg ++ vs.drop (dp.toNatClampNeg + n.toNatClampNeg)).getD j .null)) := by
    have := va_copied (fun z : Value => ax_v B X z) (D.1 t) (D.1 t) (n0 := us.length) (n1 := vs.length) (sp := sp.toNatClampNeg) (dp := dp.toNatClampNeg) (n := n.toNatClampNeg) (fun j => us.getD j .null) (fun j => vs.getD j .null) h4
    rw [← a2.eq h20, ← b2.eq h20] at this
    refine Eq.trans this ?_
    congr 1
    funext j
    congr 1
    rw [ax_cpy_list us vs h4 h5]
    rfl
  rw [e1] at X' step
  have hlen : (vs.take dp.toNatClampNeg ++ (us.drop sp.toNatClampNeg).take n.toNatClampNeg ++ vs.drop (dp.toNatClampNeg + n.toNatClampNeg)).length = vs.length := by simp; omega
  have hcell : ax_cell B X D (t, vs.take dp.toNatClampNeg ++ (us.drop sp.toNatClampNeg).take n.toNatClampNeg ++ vs.drop (dp.toNatClampNeg + n.toNatClampNeg)) (arrV (D.1 t) vs.length (fun j => ax_v B X ((vs.take dp.toNatClampNeg ++ (us.drop sp.toNatClampNeg).take n.toNatClampNeg ++ vs.drop (dp.toNatClampNeg + n.toNatClampNeg)).getD j .null))) := by
    refine ⟨rfl, rfl, ⟨rfl, rfl⟩, fun _ => ⟨⟨ty, hty⟩, by rw [arrV_size]; exact hlen.symm⟩, fun q => absurd q (by show ¬ t < 20; omega), by rw [arrV_size, ax_cs_arr h20]; exact hlen.symm, fun k v hv => ?_⟩
    have hk : k < vs.length := by
      have := (List.getElem?_eq_some_iff.mp hv).1
      rw [hlen] at this
      exact this
    unfold ax_sx
    rw [if_pos h20, arrV_read _ _ hk]
    congr 2
    rw [List.getD_eq_getElem?_getD, show (vs.take dp.toNatClampNeg ++ (us.drop sp.toNatClampNeg).take n.toNatClampNeg ++ vs.drop (dp.toNatClampNeg + n.toNatClampNeg))[k]? = some v from hv]
    rfl
  generalize arrV (D.1 t) vs.length (fun j => ax_v B X ((vs.take dp.toNatClampNeg ++ (us.drop sp.toNatClampNeg).take n.toNatClampNeg ++ vs.drop (dp.toNatClampNeg + n.toNatClampNeg)).getD j .null)) = cell' at X' step hcell
  have hl : B + b < H.size := (Array.getElem?_eq_some_iff.mp b1).1
  have hil : b < w.length := (List.getElem?_eq_some_iff.mp hwb).1
  obtain ⟨tt, z1, z2⟩ := kk (H.setIfInBounds (B + b) cell') _ (hS.set (H' := H.setIfInBounds (B + b) cell') hil hcell (by simp [Array.getElem?_setIfInBounds, hl]) (by simp) (fun q hq => by simp [Array.getElem?_setIfInBounds, Ne.symm hq])) (fun q hq => by
      obtain ⟨z, -, hz⟩ := List.mem_map.mp hq
      rw [← hz]
      exact Nat.le_add_right _ _) _ (by rw [← hT]; rfl) X'
  exact ⟨tt, step tt z1, z2⟩
end AX6
end
section
/-! constants and the static array -/
section AX7
variable {p : Program} {l : Launch} {e : Env} {R : Room} {s : State} {m : MethodId} {args : Array Value} {below : List Frame} {meth : Method} {c : Code} {H : Heap} {locs : List Loc} {cells slots : Nat} {Q : State → Prop}
variable {cc : ByteArray} {pc : Nat} {A : Array Slot} {B : Nat} {X : Nat → Value} {D : va_G} {H0 : Heap} {w w' : ax_W} {st st' : List Value} {own : String} {xs : List Int32}
theorem ax_gets_ok (hexec : p.tables.exec = Jvm.exec) (hb : c.code = cc) (hown : s.vm.findClass own = some m.cls) (hS : ax_Sim B X D H0 w H) (hB : H0.size = B) {idx : Nat} {host : String} (hZ : va_Z "MatrixDesk" "UNITS" "[I" (X 1) (fun q => B ≤ q) s H0)
    (hlink : (Cond.fieldLinkNest own idx "MatrixDesk" "UNITS" "[I" host).before args s = true) (hd : decode cc pc = .ok (.getstatic idx, 3))
    (kk : W p l e R s m args below meth c H locs cells slots Q (F0 m (pc + 3) A ((Value.retAddr 1 :: st).map (ax_v B X)))) : W p l e R s m args below meth c H locs cells slots Q (F0 m pc A (st.map (ax_v B X))) := by
  obtain ⟨cf, kf, fi, f, a, cell, h1, h2, h3, h4, h5, h6, h7, h8⟩ := hZ
  have ha : a < B := by rw [← hB]; exact (Array.getElem?_eq_some_iff.mp h5).1
  exact va_WgetsN hexec hb hown hlink h1 h2 h3 h4 (by rw [hS.2.2 a ha]; exact h5) (fun e => by rw [e] at h6; cases h6) h7 rfl hd kk
theorem ax_objinit_ok (hX : ax_Xr X) (hexec : p.tables.exec = Jvm.exec) (hb : c.code = cc) (hml : c.maxLocals = A.size) (hown : s.vm.findClass own = some m.cls) {idx i : Nat} {r : List Value} (hlink : (Cond.methodLink own idx Lib.objectInit).before args s = true) (hinst : (Cond.instanceMethod Lib.objectInit).before args s = true) (hcode : (Cond.code Lib.objectInit ⟨#[0xb1]⟩ 1 none).before args s = true)
    (hd : decode cc pc = .ok (.invokespecial idx, 3)) (hfr : 1 ≤ R.frames) (hlo : 30 ≤ R.locals) (hwt : (r.map ax_wt).sum ≤ 8)
    (kk : W p l e R s m args below meth c H locs cells slots Q (F0 m (pc + 3) A (r.map (ax_v B X)))) : W p l e R s m args below meth c H locs cells slots Q (F0 m pc A ((Value.ref i :: r).map (ax_v B X))) := by
  refine W.objInit hexec hb hown hlink hinst hcode (g := F0 m pc A ((Value.ref i :: r).map (ax_v B X))) rfl hml.symm rfl hd hfr ?_ kk
  show 2 * 0 + _ + 12 ≤ _
  rw [ax_wt_sum hX]
  omega
end AX7
end
section
/-! calls: what a callee that was run abstractly gives its caller -/
def ax_o (B : Nat) (X : Nat → Value) : Outcome → Outcome
  | .returned v => .returned (v.map (ax_v B X))
  | .threw i => .threw (B + i)
def ax_Qc (B : Nat) (X : Nat → Value) (D : va_G) (H0 : Heap) (o0 : Outcome) (w1 : ax_W) (mc ms : Nat) : Array Value → State → Outcome → State → Prop := fun _ s' o t =>
  o = ax_o B X o0 ∧ s'.WarmedH t.vm ∧ ax_Sim B X D H0 w1 t.heap ∧ ∃ L, s'.sameButNew ({ t with vm := s'.vm } : State) L mc ms ∧ ∀ q ∈ L, B ≤ q.base
/-- what the words say of a method's code -/
def ax_cf (y : MethodName) (bytes : ByteArray) (maxL : Nat) (ret : Option FieldType) (hs : List (Nat × Nat × Nat × Nat)) (U : State) : Prop :=
  ∃ mk meth cY, U.methodNamed? y = some mk ∧ U.vm.method? mk = some meth ∧ meth.code = some cY ∧ cY.code = bytes ∧ cY.maxLocals = maxL ∧ cY.exceptionTable.toList.map (fun h => (h.startPc, h.endPc, h.handlerPc, h.catchType)) = hs ∧ meth.sig.returnType = ret ∧ meth.locks = false ∧ parseMethodDescriptor y.desc = some meth.sig
theorem ax_cf.of_code {y : MethodName} {bytes : ByteArray} {maxL : Nat} {ret : Option FieldType} {U : State} {a : Array Value} {mk : MethodId} (hn : U.methodNamed? y = some mk) (h : (Cond.code y bytes maxL ret).before a U = true) : ax_cf y bytes maxL ret [] U := by
  obtain ⟨meth, cY, h1, h2, h3, h4, h5, h6, h7, h8⟩ := Cond.code_spec hn h
  refine ⟨mk, meth, cY, hn, h1, h2, h3, h4, ?_, h5, h6, h8⟩
  have : cY.exceptionTable.toList = [] := by
    have := Array.isEmpty_iff.mp h7
    rw [this]
  rw [this]; rfl
theorem ax_cf.of_with {y : MethodName} {bytes : ByteArray} {maxL : Nat} {ret : Option FieldType} {hs : List (Nat × Nat × Nat × Nat)} {U : State} {a : Array Value} (h : (Cond.codeWith y bytes maxL ret hs).before a U = true) : ax_cf y bytes maxL ret hs U := by
  obtain ⟨mk, meth, cY, h0, h1, h2, h3, h4, h7, h5, h6, h8⟩ := Cond.codeWith_spec h
  exact ⟨mk, meth, cY, h0, h1, h2, h3, h4, h7, h5, h6, h8⟩
section AX8
variable {p : Program} {l : Launch} {e : Env} {R : Room} {s : State} {m : MethodId} {args : Array Value} {below : List Frame} {meth : Method} {c : Code} {T : State} {locs : List Loc} {cells slots : Nat}
/-- the machine at frame g invokes y with the values a; what is left on the stack is rest -/
def ax_Iv (p : Program) (l : Launch) (e : Env) (R : Room) (s : State) (m : MethodId) (args : Array Value) (below : List Frame) (meth : Method) (c : Code) (T : State) (locs : List Loc) (cells slots : Nat) (g : JFrame) (rest : List Value) (y : MethodName) (a : List Value) : Prop :=
  ∃ (vm₁ : Vm) (mk : MethodId), s.WarmedH vm₁ ∧ Stand p l e R s m args below meth c (T.setVm vm₁) locs cells slots ∧ (T.setVm vm₁).methodNamed? y = some mk ∧
    ∀ target, (∀ acts, Steps p.tables e below (doInvoke e ((T.setVm vm₁).setTop { g with stack := rest }) acts mk a.toArray).1 target) → Steps p.tables e below (T.setTop g) target
theorem ax_Iv.virt (X : Stand p l e R s m args below meth c T locs cells slots) (hexec : p.tables.exec = Jvm.exec) {own : String} {index : Nat} {y : MethodName}
    (hown : s.vm.findClass own = some m.cls) (hlink : (Cond.methodLink own index y).before args s = true ∨ ∃ host, (Cond.methodLinkNest own index y host).before args s = true) (hinst : (Cond.instanceMethod y).before args s = true) (hsel : (Cond.selects y.cls y y).before args s = true)
    {bytes : ByteArray} {maxL : Nat} {ret : Option FieldType} {hs : List (Nat × Nat × Nat × Nat)} (hcf : ax_cf y bytes maxL ret hs s) (hy : y.cls ≠ "java/lang/invoke/MethodHandle" ∧ y.cls ≠ "java/lang/invoke/VarHandle")
    {b : Addr} {cellB : Cell} (hcell : T.heap[b]? = some cellB) (hobj : cellB.vm.isStatics = false) (hcls : s.vm.findClass y.cls = some cellB.cls)
    {g : JFrame} (hg : g.method = m) {argsL rest : List Value} (hlen : ∀ sig, parseMethodDescriptor y.desc = some sig → argsL.length = sig.parameters.length)
    (hstack : g.stack = argsL.reverse ++ .ref b :: rest) (hdg : decode c.code g.pc = .ok (.invokevirtual index, 3)) : ax_Iv p l e R s m args below meth c T locs cells slots g rest y (.ref b :: argsL) := by
  obtain ⟨mk, methM, hnamed, hmethM, hstM, habM⟩ := Cond.instanceMethod_spec hinst
  obtain ⟨mk', methM', cM, hn', hmethM', -, -, -, -, -, -, hsigM⟩ := hcf
  cases hnamed.symm.trans hn'
  cases hmethM.symm.trans hmethM'
  obtain ⟨c2, r2, m2, q1, q2, q3, q4, kP, hkP, hkPi⟩ := Cond.selects_spec hsel
  cases hcls.symm.trans q1
  cases (State.methodFound?_of_named hnamed hy).symm.trans q2
  cases hnamed.symm.trans q3
  have hselP : selectMethod e.platform s.vm cellB.cls mk = .method mk := by rw [Launch.admits_selectMethod X.admits]; exact q4
  rcases hlink with hlink | ⟨host, hlink⟩
  · obtain ⟨vm₁, X₁, hstep₁⟩ := X.invokevirtual hexec hown hlink hnamed hmethM hstM hkP hkPi hy (a := b) (cell := cellB) hcell
      (fun z h => by rw [h] at hobj; cases hobj) hselP hmethM habM hkP hkPi (g := g) hg (argsL := argsL) (rest := rest) (hlen _ hsigM) hstack hdg
    exact ⟨vm₁, mk, X₁.warmed, X₁, X₁.named hnamed, hstep₁⟩
  · obtain ⟨vm₁, X₁, hstep₁⟩ := X.invokevirtualNest hexec hown hlink hnamed hmethM hstM hkP hkPi hy (a := b) (cell := cellB) hcell
      (fun z h => by rw [h] at hobj; cases hobj) hselP hmethM habM hkP hkPi (g := g) hg (argsL := argsL) (rest := rest) (hlen _ hsigM) hstack hdg
    exact ⟨vm₁, mk, X₁.warmed, X₁, X₁.named hnamed, hstep₁⟩
theorem ax_Iv.stat (X : Stand p l e R s m args below meth c T locs cells slots) (hexec : p.tables.exec = Jvm.exec) {own : String} {index : Nat} {y : MethodName}
    (hown : s.vm.findClass own = some m.cls) (hlink : (Cond.methodLink own index y).before args s = true ∨ ∃ host, (Cond.methodLinkNest own index y host).before args s = true) (hstat : (Cond.static y).before args s = true) (hinit : (Cond.initialized y.cls).before args s = true)
    {bytes : ByteArray} {maxL : Nat} {ret : Option FieldType} {hs : List (Nat × Nat × Nat × Nat)} (hcf : ax_cf y bytes maxL ret hs s) (hy : y.cls ≠ "java/lang/invoke/MethodHandle" ∧ y.cls ≠ "java/lang/invoke/VarHandle")
    {g : JFrame} (hg : g.method = m) {argsL rest : List Value} (hlen : ∀ sig, parseMethodDescriptor y.desc = some sig → argsL.length = sig.parameters.length)
    (hstack : g.stack = argsL.reverse ++ rest) (hdg : decode c.code g.pc = .ok (.invokestatic index, 3)) : ax_Iv p l e R s m args below meth c T locs cells slots g rest y argsL := by
  obtain ⟨mk, methM, cM, hnamed, hmethM, -, -, -, -, -, -, hsigM⟩ := hcf
  have hstatic : methM.isStatic = true := Cond.static_spec hnamed hmethM hstat
  obtain ⟨kP, hkP, -⟩ := className_of_methodNamed hnamed
  have hinitP : kP.init = .initialized := Cond.initialized_spec (findClass_of_methodNamed hnamed) hkP hinit
  rcases hlink with hlink | ⟨host, hlink⟩
  · obtain ⟨vm₁, X₁, hstep₁⟩ := X.invokestatic hexec hown hlink hnamed hmethM hstatic hkP hinitP hy (g := g) hg (argsL := argsL) (rest := rest) (hlen _ hsigM) hstack hdg
    exact ⟨vm₁, mk, X₁.warmed, X₁, X₁.named hnamed, hstep₁⟩
  · obtain ⟨vm₁, X₁, hstep₁⟩ := X.invokestaticNest hexec hown hlink hnamed hmethM hstatic hkP hinitP hy (g := g) hg (argsL := argsL) (rest := rest) (hlen _ hsigM) hstack hdg
    exact ⟨vm₁, mk, X₁.warmed, X₁, X₁.named hnamed, hstep₁⟩
theorem ax_Iv.init (X : Stand p l e R s m args below meth c T locs cells slots) (hexec : p.tables.exec = Jvm.exec) {own : String} {index : Nat} {y : MethodName} {bytes : ByteArray} {maxL : Nat}
    (hown : s.vm.findClass own = some m.cls) (hy1 : y.name = "<init>") (hlink : (Cond.methodLink own index y).before args s = true ∨ ∃ host, (Cond.methodLinkNest own index y host).before args s = true) (hinst : (Cond.instanceMethod y).before args s = true)
    (hcode : (Cond.code y bytes maxL none).before args s = true) (hy : y.cls ≠ "java/lang/invoke/MethodHandle" ∧ y.cls ≠ "java/lang/invoke/VarHandle")
    {g : JFrame} (hg : g.method = m) {a : Addr} {argsL rest : List Value} (hlen : ∀ sig, parseMethodDescriptor y.desc = some sig → argsL.length = sig.parameters.length)
    (hstack : g.stack = argsL.reverse ++ .ref a :: rest) (hdg : decode c.code g.pc = .ok (.invokespecial index, 3)) : ax_Iv p l e R s m args below meth c T locs cells slots g rest y (.ref a :: argsL) := by
  subst hg
  have hpl : e.platform.magicAccessors = ({} : Platform).magicAccessors := by rw [X.admits.platform]
  rcases hlink with hlink | ⟨host, hlink⟩
  · obtain ⟨mk, methM, cM, kP, vm₁, hnamed, hmethM, hcodeM, -, hlocalsM, -, hkP, -, hW₁, hstep₁⟩ := Steps.initColdArgs (e := e) X.here hexec X.warmed hpl hown hy1 hy hlink hinst hcode (f := g) rfl hlen hstack hdg
    exact ⟨vm₁, mk, hW₁, X.noted hW₁, (X.noted hW₁).named hnamed, hstep₁⟩
  · obtain ⟨mk, methM, cM, kP, vm₁, hnamed, hmethM, hcodeM, -, hlocalsM, -, hkP, -, hW₁, hstep₁⟩ := Steps.initColdArgsNest (e := e) X.here hexec X.warmed hpl hown hy1 hy hlink hinst hcode (f := g) rfl hlen hstack hdg
    exact ⟨vm₁, mk, hW₁, X.noted hW₁, (X.noted hW₁).named hnamed, hstep₁⟩
/-- a callee that was run: its caller stands again, behind the call or with the exception over its frame -/
theorem ax_called {B : Nat} {XX : Nat → Value} {D : va_G} {H0 : Heap} {o0 : Outcome} {w1 : ax_W} {mc ms : Nat} (X : Stand p l e R s m args below meth c T locs cells slots) {y : MethodName} {ts : List Jvm.Cond} {rm : Room} {P : Array Value → State → Prop}
    (hM : MetFree l y (headSpec ts rm) P (fun _ _ _ _ _ => True) (ax_Qc B XX D H0 o0 w1 mc ms)) {g : JFrame} (hg : g.method = m) (hsize : g.locals.size = c.maxLocals) {ig : Instr} {len : Nat} (hdg : decode c.code g.pc = .ok (ig, len)) {mk : MethodId} (hn : T.methodNamed? y = some mk)
    {bytes : ByteArray} {maxL : Nat} {ret : Option FieldType} {hs : List (Nat × Nat × Nat × Nat)} (hcf : ax_cf y bytes maxL ret hs T) {a : Array Value} (hinit : (Cond.initialized y.cls).before a T = true) (hts : ∀ w ∈ ts, w.before a T = true)
    (hframes : rm.frames + 1 ≤ R.frames) (hlocals : 2 * g.monitorRoom + (g.stack.map fun v => v.category).sum + (maxL + 11) + rm.locals ≤ R.locals) (hcells : cells + rm.cells ≤ R.cells) (hslots : slots + rm.slots ≤ R.slots) (hP : P a (T.calling g mk a)) :
    ∃ (T' : State) (L : List Loc), Stand p l e R s m args below meth c T' (locs ++ L) (cells + mc) (slots + ms) ∧ (∀ q ∈ L, B ≤ q.base) ∧ ax_Sim B XX D H0 w1 T'.heap ∧
      (∀ v, o0 = .returned v → Steps p.tables e below (doInvoke e (T.setTop g) [] mk a).1 (T'.setTop { g with pc := g.pc + len, stack := (v.map (ax_v B XX)).toList ++ g.stack })) ∧
      ∀ i, o0 = .threw i → Steps p.tables e below (doInvoke e (T.setTop g) [] mk a).1 ((T'.setTop g).pushFrame (.throwing (B + i))) := by
  obtain ⟨mk', methY, cY, hn', hmY, hcY, -, hlY, -, -, -, -⟩ := hcf
  cases hn.symm.trans hn'
  obtain ⟨kY, hkY, -⟩ := className_of_methodNamed hn
  have hinitY : kY.init = .initialized := Cond.initialized_spec (findClass_of_methodNamed hn) hkY hinit
  have h : At T g.method c below := by rw [hg]; exact X.here
  have happ : (headSpec ts rm).appliesLoose y e.platform (T.calling g mk a) = true :=
    Spec.appliesLoose_calling (g := g) h hdg hn hkY hinitY
      (X.room_calling (g := g) (R' := rm) hsize hmY hcY hframes (by rw [hlY]; omega) hcells hslots) (atoms_intro hts)
  obtain ⟨mid, hmid⟩ := h.above
  have hfr : (T.setTop g).frames = (.java g :: mid) ++ below := by rw [State.frames_setTop' g h.top, hmid]; rfl
  obtain ⟨o, s₂, hsteps, -, hend, hq⟩ := Steps.callFree hM p X.admits X.cas X.clock (acts := []) hfr happ hP trivial
  have hq' : ax_Qc B XX D H0 o0 w1 mc ms a (T.calling g mk a) o s₂ := hq
  obtain ⟨ho, hW₂, hSim, L, ⟨e2, q2, q3, q4, q5, q6⟩, hL⟩ := hq'
  rw [State.frames_setTop' g h.top] at hend
  have e3 : s₂ = ({ (T.calling g mk a).setFrames s₂.frames with heap := s₂.heap, slotsUsed := s₂.slotsUsed } : State).setVm s₂.vm := by
    have : s₂ = ({ s₂ with vm := (T.calling g mk a).vm } : State).setVm s₂.vm := rfl
    rw [e2] at this
    exact this
  have hW' : T.WarmedH s₂.vm := hW₂
  obtain ⟨g₀, hg0⟩ := Option.isSome_iff_exists.mp h.top
  obtain ⟨r, hr⟩ := State.topJava?_eq_some.mp hg0
  have hr' : (({ T with heap := s₂.heap, slotsUsed := s₂.slotsUsed } : State).setVm s₂.vm).frames = .java g₀ :: r := hr
  have hsame : T.sameButNew ({ T with heap := s₂.heap, slotsUsed := s₂.slotsUsed } : State) L mc ms := by
    refine ⟨?_, q2, q3, q4, q5, q6⟩
    obtain ⟨t, ht, -⟩ := State.frames_cons hr
    show ({ T with heap := s₂.heap, slotsUsed := s₂.slotsUsed } : State) = { T.setFrames T.frames with heap := s₂.heap, slotsUsed := s₂.slotsUsed }
    rw [State.setFrames_self ht]
  refine ⟨({ T with heap := s₂.heap, slotsUsed := s₂.slotsUsed } : State).setVm s₂.vm, L,
    ⟨X.admits, X.cas, X.clock, X.frames, X.room, X.hears, X.method, X.code, (X.here.setHeapUsed s₂.heap s₂.slotsUsed).setVm hW'.alike, X.tail, State.WarmedH.trans X.warmed hW', X.limits, X.bytes, X.same.trans (hsame.setVm s.vm)⟩, hL, hSim, fun v hv => ?_, fun i hi => ?_⟩
  · subst hv
    subst ho
    obtain ⟨c₂, i₂, len₂, hc₂, hd₂, hf₂⟩ := hend
    have hcc : c₂ = c := by
      have h1 : s₂.code? g.method = T.code? g.method := by
        rw [State.code?_eq, State.code?_eq, hW'.alike.method?]
      exact Option.some.inj (hc₂.symm.trans (h1.trans h.code))
    subst hcc
    have hlen : len₂ = len := by rw [hdg] at hd₂; cases hd₂; rfl
    subst hlen
    have hs₂ : s₂ = (({ T with heap := s₂.heap, slotsUsed := s₂.slotsUsed } : State).setVm s₂.vm).setTop { g with pc := g.pc + len₂, stack := (v.map (ax_v B XX)).toList ++ g.stack } := by
      refine e3.trans ?_
      rw [hf₂, State.calling_eq h.top, State.setFrames_setFrames, State.setTop_of_frames _ hr', hr]
      rfl
    rw [← hs₂]
    exact hsteps
  · subst hi
    subst ho
    have hf₂ : s₂.frames = .throwing (B + i) :: .java g :: T.frames.tail := hend
    have hs₂ : s₂ = ((({ T with heap := s₂.heap, slotsUsed := s₂.slotsUsed } : State).setVm s₂.vm).setTop g).pushFrame (.throwing (B + i)) := by
      refine e3.trans ?_
      rw [hf₂, State.calling_eq h.top, State.setFrames_setFrames, State.pushFrame, State.frames_setTop _ hr', State.setTop_of_frames _ hr', State.setFrames_setFrames, hr]
      rfl
    rw [← hs₂]
    exact hsteps
end AX8
end
section
/-! what the checks say -/
theorem ax_pj_spec {j : Nat} {ks : List Nat} {own : String} {idx a b : Nat} (h : ax_pj j ks own idx a b = true) : ∃ k ws, k ∈ ks ∧ ax_pchk (k, own, idx, a, b, ws) = true := by
  unfold ax_pj at h
  split at h
  · rename_i k o i a' b' ws hp
    simp only [Bool.and_eq_true, decide_eq_true_eq, List.contains_iff_mem] at h
    obtain ⟨⟨⟨⟨h1, rfl⟩, rfl⟩, rfl⟩, rfl⟩ := h
    exact ⟨k, ws, h1, ax_poolOk _ (List.mem_of_getElem? hp)⟩
  · cases h
theorem ax_inl_mem {i : Nat} {c : Jvm.Cond} (h : ax_inl i (some c) = true) : c ∈ lw_tbl := by
  simp only [ax_inl, decide_eq_true_eq] at h
  exact List.mem_of_getElem? h
theorem ax_fl_spec {i a b idx : Nat} {own : String} (h : ax_inl i (ax_fl own idx a b) = true) : ∃ q, cls_all[a]? = some q ∧ b < q.2.2 ∧ (q.2.1 b).1 = q.1 ∧ Cond.fieldLink own idx q.1 (q.2.1 b).2.1 (q.2.1 b).2.2.1 ∈ lw_tbl := by
  unfold ax_fl at h
  split at h
  · rename_i q hq
    split at h
    · rename_i hb
      simp only [Bool.and_eq_true, decide_eq_true_eq, beq_iff_eq] at hb
      exact ⟨q, hq, hb.1, hb.2, ax_inl_mem h⟩
    · cases h
  · cases h
theorem ax_fln_spec {i a b idx : Nat} {own : String} (h : ax_inl i (ax_fln own idx a b) = true) : ∃ q, cls_all[a]? = some q ∧ b < q.2.2 ∧ (q.2.1 b).1 = q.1 ∧ Cond.fieldLinkNest own idx q.1 (q.2.1 b).2.1 (q.2.1 b).2.2.1 "MatrixDesk" ∈ lw_tbl := by
  unfold ax_fln at h
  split at h
  · rename_i q hq
    split at h
    · rename_i hb
      simp only [Bool.and_eq_true, decide_eq_true_eq, beq_iff_eq] at hb
      exact ⟨q, hq, hb.1, hb.2, ax_inl_mem h⟩
    · cases h
  · cases h
theorem ax_field_w {j idx a b : Nat} {own : String} (h : ax_pj j [0, 1] own idx a b = true) : ∃ q, cls_all[a]? = some q ∧ b < q.2.2 ∧ (q.2.1 b).1 = q.1 ∧
    (Cond.fieldLink own idx q.1 (q.2.1 b).2.1 (q.2.1 b).2.2.1 ∈ lw_tbl ∨ Cond.fieldLinkNest own idx q.1 (q.2.1 b).2.1 (q.2.1 b).2.2.1 "MatrixDesk" ∈ lw_tbl) := by
  obtain ⟨k, ws, hk, h⟩ := ax_pj_spec h
  simp only [List.mem_cons, List.not_mem_nil, or_false] at hk
  rcases hk with rfl | rfl
  · have h : ax_pc0 (own, idx, a, b, ws) = true := h
    unfold ax_pc0 at h
    split at h
    · obtain ⟨q, h1, h2, h3, h4⟩ := ax_fl_spec h
      exact ⟨q, h1, h2, h3, Or.inl h4⟩
    · cases h
  · have h : ax_pc1 (own, idx, a, b, ws) = true := h
    unfold ax_pc1 at h
    split at h
    · obtain ⟨q, h1, h2, h3, h4⟩ := ax_fln_spec h
      exact ⟨q, h1, h2, h3, Or.inr h4⟩
    · cases h
theorem ax_field0_w {j idx a b : Nat} {own : String} (h : ax_pj j [0] own idx a b = true) : ∃ q, cls_all[a]? = some q ∧ Cond.fieldLink own idx q.1 (q.2.1 b).2.1 (q.2.1 b).2.2.1 ∈ lw_tbl := by
  obtain ⟨k, ws, hk, h⟩ := ax_pj_spec h
  simp only [List.mem_cons, List.not_mem_nil, or_false] at hk
  subst hk
  have h : ax_pc0 (own, idx, a, b, ws) = true := h
  unfold ax_pc0 at h
  split at h
  · obtain ⟨q, h1, h2, h3, h4⟩ := ax_fl_spec h
    exact ⟨q, h1, h4⟩
  · cases h
theorem ax_stat_w {j idx a b : Nat} {own : String} (h : ax_pj j [2] own idx a b = true) : a = 1 ∧ Cond.fieldLinkNest own idx "MatrixDesk" "UNITS" "[I" "MatrixDesk" ∈ lw_tbl := by
  obtain ⟨k, ws, hk, h⟩ := ax_pj_spec h
  simp only [List.mem_cons, List.not_mem_nil, or_false] at hk
  subst hk
  have h : ax_pc2 (own, idx, a, b, ws) = true := h
  unfold ax_pc2 at h
  split at h
  · simp only [Bool.and_eq_true, decide_eq_true_eq] at h
    exact ⟨h.1, ax_inl_mem h.2⟩
  · cases h
theorem ax_new_w {j idx a b : Nat} {own : String} (h : ax_pj j [3] own idx a b = true) : ∃ q, cls_all[a]? = some q ∧ a < 11 ∧ Cond.classLink own idx q.1 ∈ lw_tbl ∧ Cond.instantiable q.1 q.2.2 ∈ lw_tbl ∧ Cond.initialized q.1 ∈ lw_tbl := by
  obtain ⟨k, ws, hk, h⟩ := ax_pj_spec h
  simp only [List.mem_cons, List.not_mem_nil, or_false] at hk
  subst hk
  have h : ax_pc3 (own, idx, a, b, ws) = true := h
  unfold ax_pc3 at h
  split at h
  · rename_i q _ hq
    simp only [Bool.and_eq_true, decide_eq_true_eq] at h
    exact ⟨_, hq, h.1.1.1, ax_inl_mem h.1.1.2, ax_inl_mem h.1.2, ax_inl_mem h.2⟩
  · cases h
theorem ax_anew_w {j idx a b : Nat} {own : String} (h : ax_pj j [4] own idx a b = true) : ∃ C, ax_ty (30 + a) = some (.object C) ∧ Cond.classLink own idx C ∈ lw_tbl ∧ Cond.arrayOver (.object C) ∈ lw_tbl := by
  obtain ⟨k, ws, hk, h⟩ := ax_pj_spec h
  simp only [List.mem_cons, List.not_mem_nil, or_false] at hk
  subst hk
  have h : ax_pc4 (own, idx, a, b, ws) = true := h
  unfold ax_pc4 at h
  split at h
  · simp only [Bool.and_eq_true, decide_eq_true_eq] at h
    exact ⟨_, h.1.1, ax_inl_mem h.1.2, ax_inl_mem h.2⟩
  · cases h
theorem ax_int_w {j idx a : Nat} {own : String} (h : ax_pj j [5] own idx a 0 = true) : ∃ x, ax_kI[a]? = some x ∧ Cond.constant own idx x ∈ lw_tbl := by
  obtain ⟨k, ws, hk, h⟩ := ax_pj_spec h
  simp only [List.mem_cons, List.not_mem_nil, or_false] at hk
  subst hk
  have h : ax_pc5 (own, idx, a, 0, ws) = true := h
  unfold ax_pc5 at h
  split at h
  · rename_i x _ hx
    exact ⟨_, hx, ax_inl_mem h⟩
  · cases h
theorem ax_long_w {j idx a : Nat} {own : String} (h : ax_pj j [6] own idx a 0 = true) : ∃ x, ax_kJ[a]? = some x ∧ Cond.constantLong own idx x ∈ lw_tbl := by
  obtain ⟨k, ws, hk, h⟩ := ax_pj_spec h
  simp only [List.mem_cons, List.not_mem_nil, or_false] at hk
  subst hk
  have h : ax_pc6 (own, idx, a, 0, ws) = true := h
  unfold ax_pc6 at h
  split at h
  · rename_i x _ hx
    exact ⟨_, hx, ax_inl_mem h⟩
  · cases h
theorem ax_str_w {j idx a : Nat} {own : String} (h : ax_pj j [7] own idx a 0 = true) : 2 ≤ a ∧ a < 6 ∧ own = "MatrixDesk" ∧ idx = ax_ix a := by
  obtain ⟨k, ws, hk, h⟩ := ax_pj_spec h
  simp only [List.mem_cons, List.not_mem_nil, or_false] at hk
  subst hk
  have h : ax_pc7 (own, idx, a, 0, ws) = true := h
  unfold ax_pc7 at h
  split at h
  · simp only [Bool.and_eq_true, decide_eq_true_eq] at h
    exact ⟨h.1.1.1.1, h.1.1.1.2, h.1.1.2, h.1.2⟩
  · cases h
def ax_lm (own : String) (idx : Nat) (y : MethodName) : Prop := Cond.methodLink own idx y ∈ lw_tbl ∨ Cond.methodLinkNest own idx y "MatrixDesk" ∈ lw_tbl
theorem ax_ml_lm {nest : Bool} {own : String} {idx i : Nat} {y : MethodName} (h : ax_inl i (some (ax_ml nest own idx y)) = true) : ax_lm own idx y := by
  unfold ax_ml at h
  cases nest
  · exact Or.inl (ax_inl_mem h)
  · exact Or.inr (ax_inl_mem h)
theorem ax_yok_spec {y : MethodName} (h : ax_yok y = true) : y.cls ≠ "java/lang/invoke/MethodHandle" ∧ y.cls ≠ "java/lang/invoke/VarHandle" := by
  simp only [ax_yok, Bool.and_eq_true, decide_eq_true_eq] at h
  exact h
theorem ax_npar_spec {d : String} {n : Nat} (h : ax_npar d = some n) : ∀ sig, parseMethodDescriptor d = some sig → n = sig.parameters.length := by
  intro sig hs
  unfold ax_npar at h
  rw [hs] at h
  exact (Option.some.inj h).symm
theorem ax_pcS_spec {nest : Bool} {own : String} {idx a b : Nat} {ws : List Nat} (h : ax_pcS nest (own, idx, a, b, ws) = true) : ∃ y, ax_who[a]? = some y ∧ (y.1.cls ≠ "java/lang/invoke/MethodHandle" ∧ y.1.cls ≠ "java/lang/invoke/VarHandle") ∧ b < 100 ∧ ax_npar y.1.desc = some b ∧ ax_lm own idx y.1 ∧ Cond.static y.1 ∈ lw_tbl ∧ Cond.initialized y.1.cls ∈ lw_tbl := by
  unfold ax_pcS at h
  split at h
  · rename_i hy
    simp only [Bool.and_eq_true, decide_eq_true_eq] at h
    obtain ⟨⟨⟨⟨⟨h1, h2⟩, h3⟩, h4⟩, h5⟩, h6⟩ := h
    exact ⟨_, hy, ax_yok_spec h1, h2, h3, ax_ml_lm h4, ax_inl_mem h5, ax_inl_mem h6⟩
  · cases h
theorem ax_stt_w {j idx a b : Nat} {own : String} (h : ax_pj j [10, 13] own idx a b = true) : ∃ y, ax_who[a]? = some y ∧ (y.1.cls ≠ "java/lang/invoke/MethodHandle" ∧ y.1.cls ≠ "java/lang/invoke/VarHandle") ∧ b < 100 ∧ ax_npar y.1.desc = some b ∧ ax_lm own idx y.1 ∧ Cond.static y.1 ∈ lw_tbl ∧ Cond.initialized y.1.cls ∈ lw_tbl := by
  obtain ⟨k, ws, hk, h⟩ := ax_pj_spec h
  simp only [List.mem_cons, List.not_mem_nil, or_false] at hk
  rcases hk with rfl | rfl
  · exact ax_pcS_spec (nest := false) h
  · exact ax_pcS_spec (nest := true) h
theorem ax_pcV_spec {nest : Bool} {own : String} {idx a b : Nat} {ws : List Nat} (h : ax_pcV nest (own, idx, a, b, ws) = true) : ∃ y q, ax_who[a]? = some y ∧ (y.1.cls ≠ "java/lang/invoke/MethodHandle" ∧ y.1.cls ≠ "java/lang/invoke/VarHandle") ∧ 100 ≤ b ∧ cls_all[b / 100 - 1]? = some q ∧ q.1 = y.1.cls ∧ b / 100 - 1 < 11 ∧ (ax_npar y.1.desc).map (fun z => z + 1) = some (b % 100) ∧
    ax_lm own idx y.1 ∧ Cond.instanceMethod y.1 ∈ lw_tbl ∧ Cond.selects y.1.cls y.1 y.1 ∈ lw_tbl ∧ Cond.initialized y.1.cls ∈ lw_tbl := by
  unfold ax_pcV at h
  split at h
  · rename_i hy
    simp only [Bool.and_eq_true, decide_eq_true_eq] at h
    obtain ⟨⟨⟨⟨⟨⟨⟨⟨h1, h2⟩, h3⟩, h3b⟩, h3c⟩, h4⟩, h5⟩, h6⟩, h7⟩ := h
    obtain ⟨q, hq, hqc⟩ := Option.map_eq_some_iff.mp h3
    exact ⟨_, q, hy, ax_yok_spec h1, h2, hq, hqc, h3b, h3c, ax_ml_lm h4, ax_inl_mem h5, ax_inl_mem h6, ax_inl_mem h7⟩
  · cases h
theorem ax_vrt_w {j idx a b : Nat} {own : String} (h : ax_pj j [11, 14] own idx a b = true) : ∃ y q, ax_who[a]? = some y ∧ (y.1.cls ≠ "java/lang/invoke/MethodHandle" ∧ y.1.cls ≠ "java/lang/invoke/VarHandle") ∧ 100 ≤ b ∧ cls_all[b / 100 - 1]? = some q ∧ q.1 = y.1.cls ∧ b / 100 - 1 < 11 ∧ (ax_npar y.1.desc).map (fun z => z + 1) = some (b % 100) ∧
    ax_lm own idx y.1 ∧ Cond.instanceMethod y.1 ∈ lw_tbl ∧ Cond.selects y.1.cls y.1 y.1 ∈ lw_tbl ∧ Cond.initialized y.1.cls ∈ lw_tbl := by
  obtain ⟨k, ws, hk, h⟩ := ax_pj_spec h
  simp only [List.mem_cons, List.not_mem_nil, or_false] at hk
  rcases hk with rfl | rfl
  · exact ax_pcV_spec (nest := false) h
  · exact ax_pcV_spec (nest := true) h
theorem ax_pcI_spec {nest : Bool} {own : String} {idx a b : Nat} {ws : List Nat} (h : ax_pcI nest (own, idx, a, b, ws) = true) : ∃ y, ax_who[a]? = some y ∧ (y.1.cls ≠ "java/lang/invoke/MethodHandle" ∧ y.1.cls ≠ "java/lang/invoke/VarHandle") ∧ y.1.name = "<init>" ∧ y.2.2.1 = none ∧ 100 ≤ b ∧ (ax_npar y.1.desc).map (fun z => z + 1) = some (b % 100) ∧
    ax_lm own idx y.1 ∧ Cond.instanceMethod y.1 ∈ lw_tbl ∧ Cond.initialized y.1.cls ∈ lw_tbl := by
  unfold ax_pcI at h
  split at h
  · rename_i hy
    simp only [Bool.and_eq_true, decide_eq_true_eq] at h
    obtain ⟨⟨⟨⟨⟨⟨⟨h1, h2⟩, h2b⟩, h3⟩, h3c⟩, h4⟩, h5⟩, h6⟩ := h
    exact ⟨_, hy, ax_yok_spec h1, h2, h2b, h3, h3c, ax_ml_lm h4, ax_inl_mem h5, ax_inl_mem h6⟩
  · cases h
theorem ax_ini_w {j idx a b : Nat} {own : String} (h : ax_pj j [12, 15] own idx a b = true) : ∃ y, ax_who[a]? = some y ∧ (y.1.cls ≠ "java/lang/invoke/MethodHandle" ∧ y.1.cls ≠ "java/lang/invoke/VarHandle") ∧ y.1.name = "<init>" ∧ y.2.2.1 = none ∧ 100 ≤ b ∧ (ax_npar y.1.desc).map (fun z => z + 1) = some (b % 100) ∧
    ax_lm own idx y.1 ∧ Cond.instanceMethod y.1 ∈ lw_tbl ∧ Cond.initialized y.1.cls ∈ lw_tbl := by
  obtain ⟨k, ws, hk, h⟩ := ax_pj_spec h
  simp only [List.mem_cons, List.not_mem_nil, or_false] at hk
  rcases hk with rfl | rfl
  · exact ax_pcI_spec (nest := false) h
  · exact ax_pcI_spec (nest := true) h
theorem ax_one_w {y : MethodName} {own : String} {idx a b : Nat} {ws : List Nat} (h : ax_pcO y (own, idx, a, b, ws) = true) : Cond.methodLink own idx y ∈ lw_tbl := by
  unfold ax_pcO at h
  split at h
  · exact ax_inl_mem h
  · cases h
theorem ax_obj_w {j idx : Nat} {own : String} (h : ax_pj j [20] own idx 1000 0 = true) : Cond.methodLink own idx Lib.objectInit ∈ lw_tbl := by
  obtain ⟨k, ws, hk, h⟩ := ax_pj_spec h
  simp only [List.mem_cons, List.not_mem_nil, or_false] at hk
  subst hk
  exact ax_one_w (y := Lib.objectInit) h
theorem ax_cpy_w {j idx : Nat} {own : String} (h : ax_pj j [22] own idx 1002 0 = true) : Cond.methodLink own idx arraycopyName ∈ lw_tbl := by
  obtain ⟨k, ws, hk, h⟩ := ax_pj_spec h
  simp only [List.mem_cons, List.not_mem_nil, or_false] at hk
  subst hk
  exact ax_one_w (y := arraycopyName) h
theorem ax_exc_w {j idx t : Nat} {own : String} (h : ax_pj j [21] own idx 1001 t = true) : Cond.methodLink own idx (ax_xn t) ∈ lw_tbl := by
  obtain ⟨k, ws, hk, h⟩ := ax_pj_spec h
  simp only [List.mem_cons, List.not_mem_nil, or_false] at hk
  subst hk
  have h : ((decide (t = 9) || decide (t = 10)) && ax_pcO (ax_xn t) (own, idx, 1001, t, ws)) = true := h
  simp only [Bool.and_eq_true] at h
  exact ax_one_w h.2
theorem ax_cchk_spec {own : String} {isInit : Bool} {bytes : ByteArray} {code : List (Option ax_E)} {q : Nat} (h : ax_cchk own isInit bytes q code = true) {pc : Nat} {e : ax_E} (he : code[pc]? = some (some e)) : decode bytes (q + pc) = .ok (e.1, e.2.1) ∧ ax_echk own isInit (q + pc) e = true := by
  induction code generalizing q pc with
  | nil => simp at he
  | cons x r ih =>
    cases pc with
    | zero =>
      simp only [List.getElem?_cons_zero, Option.some.injEq] at he
      subst he
      simp only [ax_cchk, Bool.and_eq_true, decide_eq_true_eq] at h
      exact ⟨h.1.1, h.1.2⟩
    | succ k =>
      rw [List.getElem?_cons_succ] at he
      have h2 : ax_cchk own isInit bytes (q + 1) r = true := by
        cases x with
        | none => exact h
        | some y => simp only [ax_cchk, Bool.and_eq_true] at h; exact h.2
      have := ih h2 he
      rw [show q + 1 + k = q + (k + 1) from by omega] at this
      exact this
end
section
/-! one step of the abstract machine is the machine's -/
def ax_G (s0 : State) (A0 : Array Value) (D : va_G) (B : Nat) (X : Nat → Value) (H0 : Heap) (xs : List Int32) : Prop :=
  (∀ w ∈ lw_tbl, w.before A0 s0 = true) ∧ ax_K D s0 ∧ ax_ap D ∧ ax_Xr X ∧ ax_XS xs B X H0 s0 ∧ H0.size = B ∧ va_Z "MatrixDesk" "UNITS" "[I" (X 1) (fun q => B ≤ q) s0 H0 ∧ ∀ k, 2 ≤ k → k < 6 → ∃ a, X k = .ref a ∧ vk_R "MatrixDesk" (ax_ix k) (ax_txt k) a s0
def ax_Fr (s0 : State) (y : MethodName) (bytes : ByteArray) (maxL : Nat) (ret : Option FieldType) (hs : List (Nat × Nat × Nat × Nat)) (p : Program) (s : State) (m : MethodId) (meth : Method) (c : Code) : Prop :=
  p.tables.exec = Jvm.exec ∧ c.code = bytes ∧ c.maxLocals = maxL ∧ meth.sig.returnType = ret ∧ meth.locks = false ∧ s.vm.findClass y.cls = some m.cls ∧ meth.name = y.name ∧ c.exceptionTable.toList.map (fun h => (h.startPc, h.endPc, h.handlerPc, h.catchType)) = hs ∧ s0.WarmedH s.vm
theorem ax_G.word {s0 : State} {A0 : Array Value} {D : va_G} {B : Nat} {X : Nat → Value} {H0 : Heap} {xs : List Int32} (G : ax_G s0 A0 D B X H0 xs) {s : State} (hW : s0.WarmedH s.vm) {args : Array Value} {w : Jvm.Cond} (hw : w ∈ lw_tbl) (hk : ax_keep w = true) : w.before args s = true := ax_word hW hk (G.1 w hw)
/-- the kinds of the fields are those of their descriptors; the words on the fields are there -/
def ax_kok1 (k : Option Nat) (ty : Option FieldType) : Bool := match k, ty with
  | some 0, some .int => true
  | some 1, some .boolean => true
  | some 2, some (.object _) => true
  | some 2, some (.array _) => true
  | _, _ => false
def ax_kok (a : Nat) : Bool := match cls_all[a]?, ax_kinds[a]? with
  | some q, some ks => decide (ks.length ≤ q.2.2) && decide (ax_cs (a, ks.map ax_dfl) = q.2.2) && (List.range ks.length).all (fun b => ax_kok1 ks[b]? (parseFieldDescriptor (q.2.1 b).2.2.1)) && (List.range q.2.2).all (fun b => (parseFieldDescriptor (q.2.1 b).2.2.1).isSome) && (u_ws q.1 q.2.1 q.2.2).all (fun v => decide (v ∈ lw_tbl) && ax_keep v)
  | _, _ => false
set_option maxRecDepth 100000 in
theorem ax_kall : (List.range 11).all ax_kok = true := by decide +kernel
theorem ax_kspec {a : Nat} {q : vw_C} {ks : List Nat} (ha : a < 11) (hq : cls_all[a]? = some q) (hk : ax_kinds[a]? = some ks) : ks.length ≤ q.2.2 ∧ ax_cs (a, ks.map ax_dfl) = q.2.2 ∧ (∀ b, b < ks.length → ax_kok1 ks[b]? (parseFieldDescriptor (q.2.1 b).2.2.1) = true) ∧ (∀ b, b < q.2.2 → (parseFieldDescriptor (q.2.1 b).2.2.1).isSome = true) ∧ ∀ v ∈ u_ws q.1 q.2.1 q.2.2, v ∈ lw_tbl ∧ ax_keep v = true := by
  have h := List.all_eq_true.mp ax_kall a (List.mem_range.mpr ha)
  unfold ax_kok at h
  rw [hq, hk] at h
  simp only [Bool.and_eq_true, decide_eq_true_eq, List.all_eq_true, List.mem_range] at h
  obtain ⟨⟨⟨⟨h1, h2⟩, h3⟩, h4⟩, h5⟩ := h
  exact ⟨h1, h2, h3, h4, h5⟩
theorem ax_kinds_some {a : Nat} (ha : a < 11) : ∃ ks, ax_kinds[a]? = some ks := ⟨ax_kinds[a]'(by show a < 11; exact ha), List.getElem?_eq_getElem _⟩
theorem ax_kok1_spec {fk : Nat} {ty : Option FieldType} (h : ax_kok1 (some fk) ty = true) : ∃ t, ty = some t ∧ ((fk = 0 ∧ t = .int) ∨ (fk = 1 ∧ t = .boolean) ∨ (fk = 2 ∧ ((∃ n, t = .object n) ∨ ∃ u, t = .array u))) := by
  unfold ax_kok1 at h
  split at h
  · rename_i h1; cases h1; exact ⟨_, rfl, Or.inl ⟨rfl, rfl⟩⟩
  · rename_i h1; cases h1; exact ⟨_, rfl, Or.inr (Or.inl ⟨rfl, rfl⟩)⟩
  · rename_i h1; cases h1; exact ⟨_, rfl, Or.inr (Or.inr ⟨rfl, Or.inl ⟨_, rfl⟩⟩)⟩
  · rename_i h1; cases h1; exact ⟨_, rfl, Or.inr (Or.inr ⟨rfl, Or.inr ⟨_, rfl⟩⟩)⟩
  · cases h
theorem ax_echk_len {own : String} {b : Bool} {pc : Nat} {e : ax_E} (h : ax_echk own b pc e = true) (ht : ∀ d lo hi offs, e.1 ≠ .tableswitch d lo hi offs) : e.2.1 = ax_len e.1 := by
  obtain ⟨i, len, a, b2, j⟩ := e
  simp only at ht ⊢
  unfold ax_echk at h
  simp only at h
  split at h <;> simp only [Bool.and_eq_true, decide_eq_true_eq] at h
  · exact absurd rfl (ht _ _ _ _)
  · exact h.1
  · exact h.1
  · exact h.1
  · exact h.1.1
  · exact h.1.1.1
  · exact h.1
  · exact h.1
  · exact h.1
  · exact h.1
  · exact h.1.1
  · exact h.1
  · exact h.1.1
  · exact h.1
  · exact h.1
  · exact h
theorem ax_sz_set {w : ax_W} {i : Nat} {q q' : Nat × List Value} (hw : w[i]? = some q) (hc : ax_cs q' = ax_cs q) : ax_sz (w.set i q') = ax_sz w := by
  unfold ax_sz
  induction w generalizing i with
  | nil => simp at hw
  | cons x r ih =>
    cases i with
    | zero =>
      simp only [List.getElem?_cons_zero, Option.some.injEq] at hw
      subst hw
      simp [hc]
    | succ k =>
      rw [List.getElem?_cons_succ] at hw
      simp only [List.set_cons_succ, List.map_cons, List.sum_cons, ih hw]
theorem ax_cs_set (t : Nat) (vs : List Value) (k : Nat) (v : Value) : ax_cs (t, vs.set k v) = ax_cs (t, vs) := by
  unfold ax_cs
  simp
set_option maxRecDepth 100000 in
theorem ax_arrays : ∀ ty ∈ ([.int, .long, .char, .boolean] : List FieldType), Cond.arrayClass ty ∈ lw_tbl := by decide +kernel
section AX9
variable {p : Program} {l : Launch} {e : Env} {R : Room} {s : State} {m : MethodId} {args : Array Value} {below : List Frame} {meth : Method} {c : Code} {H : Heap} {locs : List Loc} {cells slots : Nat} {Q : State → Prop}
variable {pc pc' : Nat} {A : Array Slot} {B : Nat} {X : Nat → Value} {D : va_G} {H0 : Heap} {w w' : ax_W} {st st' : List Value} {ls ls' : List (Option Value)} {xs : List Int32} {s0 : State} {A0 : Array Value}
variable {y : MethodName} {bytes : ByteArray} {maxL : Nat} {ret : Option FieldType} {hs : List (Nat × Nat × Nat × Nat)} {en : ax_E}
/-- heap instructions -/
theorem ax_hp_ok (G : ax_G s0 A0 D B X H0 xs) (hF : ax_Fr s0 y bytes maxL ret hs p s m meth c) (hS : ax_Sim B X D H0 w H) (hde : decode bytes pc = .ok (en.1, en.2.1)) (hck : ax_echk y.cls (decide (y.name = "<init>")) pc en = true)
    (h : ax_hp ax_kinds ax_kI ax_kJ xs en st w = some (st', w')) (hcell : w'.length = w.length + 1 → cells + 1 ≤ R.cells) (hslot : ∀ k, ax_sz w' = ax_sz w + k → slots + k ≤ R.slots)
    (kk : ∀ (H' : Heap) (L : List Loc) (cells' slots' : Nat), ax_Sim B X D H0 w' H' → (∀ q ∈ L, B ≤ q.base) → cells' + w.length = cells + w'.length → slots' + ax_sz w = slots + ax_sz w' → W p l e R s m args below meth c H' (locs ++ L) cells' slots' Q (F0 m (pc + en.2.1) A (st'.map (ax_v B X)))) :
    W p l e R s m args below meth c H locs cells slots Q (F0 m pc A (st.map (ax_v B X))) := by
  obtain ⟨hexec, hb, hml, -, -, hown, hname, -, hW⟩ := hF
  obtain ⟨-, hK0, hap, hX, hXS0, hB, hZ, hR⟩ := id G
  have hK := hK0.moved hW.alike
  have hXS := hXS0.moved hW.alike
  have same : ∀ {z : List Value}, w' = w → st' = z → (∀ (q : W p l e R s m args below meth c H locs cells slots Q (F0 m (pc + en.2.1) A (z.map (ax_v B X)))), W p l e R s m args below meth c H locs cells slots Q (F0 m pc A (st.map (ax_v B X)))) → W p l e R s m args below meth c H locs cells slots Q (F0 m pc A (st.map (ax_v B X))) := by
    intro z e1 e2 q
    subst e1; subst e2
    have := kk H [] cells slots hS (fun q hq => absurd hq List.not_mem_nil) rfl rfl
    rw [List.append_nil] at this
    exact q this
  have wrote : ∀ {i t : Nat} {vs : List Value} {k : Nat} {v : Value}, w[i]? = some (t, vs) → w' = w.set i (t, vs.set k v) → ∀ (H' : Heap) (a : Nat × Nat), ax_Sim B X D H0 w' H' → B ≤ a.1 → W p l e R s m args below meth c H' (locs ++ [⟨a.1, a.2⟩]) cells slots Q (F0 m (pc + en.2.1) A (st'.map (ax_v B X))) := by
    intro i t vs k v hw e1 H' a hS' ha
    refine kk H' [⟨a.1, a.2⟩] cells slots hS' (fun q hq => ?_) (by rw [e1]; simp) (by rw [e1, ax_sz_set hw (ax_cs_set _ _ _ _)])
    simp only [List.mem_singleton] at hq
    rw [hq]; exact ha
  have made : w'.length = w.length + 1 → ∀ (H' : Heap) (k : Nat), ax_Sim B X D H0 w' H' → ax_sz w' = ax_sz w + k → w'.length = w.length + 1 → W p l e R s m args below meth c H' locs (cells + 1) (slots + k) Q (F0 m (pc + en.2.1) A (st'.map (ax_v B X))) := by
    intro _ H' k hS' hz hl
    have := kk H' [] (cells + 1) (slots + k) hS' (fun q hq => absurd hq List.not_mem_nil) (by omega) (by omega)
    rw [List.append_nil] at this
    exact this
  obtain ⟨ins, len, ea, eb, ej⟩ := en
  simp only at hde kk same wrote made
  unfold ax_hp at h
  simp only at h
  have hlen := ax_echk_len hck
  simp only at hlen
  split at h
  · cases hlen (fun _ _ _ _ q => by cases q)
    obtain ⟨r, hr, e1⟩ := Option.map_eq_some_iff.mp h
    cases e1
    exact same rfl rfl fun q => ax_iald_ok hexec hb hK hXS hS hde hr q
  · cases hlen (fun _ _ _ _ q => by cases q)
    obtain ⟨r, hr, e1⟩ := Option.map_eq_some_iff.mp h
    cases e1
    exact same rfl rfl fun q => ax_lald_ok hexec hb hK hS hde hr q
  · cases hlen (fun _ _ _ _ q => by cases q)
    obtain ⟨r, hr, e1⟩ := Option.map_eq_some_iff.mp h
    cases e1
    exact same rfl rfl fun q => ax_cald_ok hexec hb hK hS hde hr q
  · cases hlen (fun _ _ _ _ q => by cases q)
    obtain ⟨r, hr, e1⟩ := Option.map_eq_some_iff.mp h
    cases e1
    exact same rfl rfl fun q => ax_zald_ok hexec hb hK hS hde hr q
  · cases hlen (fun _ _ _ _ q => by cases q)
    obtain ⟨r, hr, e1⟩ := Option.map_eq_some_iff.mp h
    cases e1
    exact same rfl rfl fun q => ax_aald_ok hexec hb hK hS hde hr q
  · cases hlen (fun _ _ _ _ q => by cases q)
    obtain ⟨r, hr, e1⟩ := Option.map_eq_some_iff.mp h
    cases e1
    exact same rfl rfl fun q => ax_alen_ok hexec hb hK hXS hS hde hr q
  · -- getfield
    rename_i idx
    cases hlen (fun _ _ _ _ q => by cases q)
    obtain ⟨r, hr, e1⟩ := Option.map_eq_some_iff.mp h
    cases e1
    unfold ax_echk at hck
    simp only [Bool.and_eq_true, decide_eq_true_eq] at hck
    obtain ⟨q, hq, hbq, hdq, hl⟩ := ax_field_w hck.1.2
    obtain ⟨ks, hks⟩ := ax_kinds_some (show ea < 11 by omega)
    have hsp := ax_kspec (by omega) hq hks
    refine same rfl rfl fun k => ax_get_ok hexec hb hown hK hS hq hbq hdq (fun v hv => G.word hW (hsp.2.2.2.2 v hv).1 (hsp.2.2.2.2 v hv).2) ?_ (by omega) hde hr k
    rcases hl with hl | hl
    · exact Or.inl (G.word hW hl rfl)
    · exact Or.inr ⟨_, G.word hW hl rfl⟩
  · -- getstatic
    rename_i idx
    cases hlen (fun _ _ _ _ q => by cases q)
    unfold ax_echk at hck
    simp only [Bool.and_eq_true, decide_eq_true_eq] at hck
    obtain ⟨ha, hl⟩ := ax_stat_w hck.2
    subst ha
    cases h
    exact same rfl rfl fun q => ax_gets_ok hexec hb hown hS hB (hZ.moved hW.alike) (G.word hW hl rfl) hde q
  · -- ldc
    rename_i idx
    cases hlen (fun _ _ _ _ q => by cases q)
    unfold ax_echk at hck
    simp only [Bool.and_eq_true, Bool.or_eq_true, decide_eq_true_eq] at hck
    rcases hck.2 with ⟨h0, hp⟩ | ⟨h0, hp⟩
    · subst h0
      obtain ⟨x, hx, hl⟩ := ax_int_w hp
      simp only [if_true, hx] at h
      cases h
      exact same rfl rfl fun q => lv_ldc hexec hb hown (G.word hW hl rfl) hde q
    · subst h0
      obtain ⟨h1, h2, h3, h4⟩ := ax_str_w hp
      simp only [Nat.one_ne_zero, if_false] at h
      cases h
      obtain ⟨a, hXa, hv⟩ := hR ea h1 h2
      have hv := hv.warm hW
      rw [← h4, ← h3] at hv
      refine same rfl rfl fun q => ?_
      simp only [List.map_cons, ax_v, hXa] at q
      exact va_ldcS hexec hb hown hv hde q
  · -- ldc_w
    rename_i idx
    cases hlen (fun _ _ _ _ q => by cases q)
    unfold ax_echk at hck
    simp only [Bool.and_eq_true, decide_eq_true_eq] at hck
    have h0 := hck.1.2
    subst h0
    obtain ⟨x, hx, hl⟩ := ax_int_w hck.2
    simp only [if_true, hx] at h
    cases h
    exact same rfl rfl fun q => lv_ldcw hexec hb hown (G.word hW hl rfl) hde q
  · -- ldc2_w
    rename_i idx
    cases hlen (fun _ _ _ _ q => by cases q)
    unfold ax_echk at hck
    simp only [Bool.and_eq_true, decide_eq_true_eq] at hck
    obtain ⟨x, hx, hl⟩ := ax_long_w hck.2
    simp only [hx] at h
    cases h
    exact same rfl rfl fun q => lv_ldc2 hexec hb hown (G.word hW hl rfl) hde q
  · -- iastore
    cases hlen (fun _ _ _ _ q => by cases q)
    obtain ⟨x, j, i, r, w1, -, hr, er⟩ := ax_ast_inv h
    cases er
    obtain ⟨vs, hw, -, -, e1⟩ := ax_wr_inv hr
    exact ax_iast_ok hexec hb hK hS hde h (wrote hw e1)
  · cases hlen (fun _ _ _ _ q => by cases q)
    obtain ⟨x, j, i, r, w1, -, hr, er⟩ := ax_last_inv h
    cases er
    obtain ⟨vs, hw, -, -, e1⟩ := ax_wr_inv hr
    exact ax_last_ok hexec hb hK hS hde h (wrote hw e1)
  · cases hlen (fun _ _ _ _ q => by cases q)
    obtain ⟨x, j, i, r, w1, -, -, -, hr, er⟩ := ax_cast_inv h
    cases er
    obtain ⟨vs, hw, -, -, e1⟩ := ax_wr_inv hr
    exact ax_cast_ok hexec hb hK hS hde h (wrote hw e1)
  · cases hlen (fun _ _ _ _ q => by cases q)
    obtain ⟨x, j, i, r, w1, -, -, -, hr, er⟩ := ax_cast_inv h
    cases er
    obtain ⟨vs, hw, -, -, e1⟩ := ax_wr_inv hr
    exact ax_zast_ok hexec hb hK hS hde h (wrote hw e1)
  · cases hlen (fun _ _ _ _ q => by cases q)
    obtain ⟨x, j, i, r, q, w1, -, -, hr, er⟩ := ax_aast_inv h
    cases er
    obtain ⟨vs, hw, -, -, e1⟩ := ax_wr_inv hr
    exact ax_aast_ok hexec hb hK hS hde h (wrote hw e1)
  · -- putfield
    rename_i idx
    cases hlen (fun _ _ _ _ q => by cases q)
    unfold ax_echk at hck
    simp only [Bool.and_eq_true, decide_eq_true_eq] at hck
    obtain ⟨⟨⟨-, hpj⟩, ha9⟩, hfin⟩ := hck
    obtain ⟨q, hq, hbq, hdq, hl⟩ := ax_field_w hpj
    split at h
    · rename_i ks hks
      split at h
      · rename_i fk hfk
        have hsp := ax_kspec (by omega) hq hks
        have hbl : eb < ks.length := (List.getElem?_eq_some_iff.mp hfk).1
        have hk1 := hsp.2.2.1 eb hbl
        rw [hfk] at hk1
        obtain ⟨ty, hty, hfk2⟩ := ax_kok1_spec hk1
        obtain ⟨v, i, r, fs, -, -, hw, -, e1⟩ := ax_put_inv h
        cases e1
        refine ax_put_ok hexec hb hown hK hap hS hq hbq hdq (fun v hv => G.word hW (hsp.2.2.2.2 v hv).1 (hsp.2.2.2.2 v hv).2) ?_ ?_ ha9 hty hfk2 hde h (wrote hw rfl)
        · rcases hl with hl | hl
          · exact Or.inl (G.word hW hl rfl)
          · exact Or.inr ⟨_, G.word hW hl rfl⟩
        · intro hfl
          rw [hq] at hfin
          simp only [hfl, Bool.not_true, Bool.false_or, Bool.and_eq_true, decide_eq_true_eq] at hfin
          obtain ⟨⟨g1, g2⟩, g3⟩ := hfin
          obtain ⟨q', hq', hl'⟩ := ax_field0_w g3
          cases hq.symm.trans hq'
          exact ⟨G.word hW hl' rfl, by rw [hname]; exact g1, g2⟩
      · cases h
    · cases h
  · -- new
    rename_i idx
    cases hlen (fun _ _ _ _ q => by cases q)
    unfold ax_echk at hck
    simp only [Bool.and_eq_true, decide_eq_true_eq] at hck
    obtain ⟨q, hq, ha11, hl1, hl2, hl3⟩ := ax_new_w hck.2
    obtain ⟨ks, hks⟩ := ax_kinds_some ha11
    have hsp := ax_kspec ha11 hq hks
    have hl' : w'.length = w.length + 1 := by
      have h2 := h
      unfold ax_new at h2
      rw [hks] at h2
      cases h2
      simp
    refine ax_new_ok hexec hb hown hK hS hq ha11 hks hsp.2.1 hsp.1 (fun k => (parseFieldDescriptor (q.2.1 k).2.2.1).getD .int) ?_ ?_ (fun v hv => G.word hW (hsp.2.2.2.2 v hv).1 (hsp.2.2.2.2 v hv).2) (G.word hW hl1 rfl) (G.word hW hl2 rfl) (G.word hW hl3 rfl) hde h (hcell hl') hslot (made hl')
    · intro k hk
      obtain ⟨t, ht⟩ := Option.isSome_iff_exists.mp (hsp.2.2.2.1 k hk)
      rw [ht]; rfl
    · intro k fk hfk
      have hk1 := hsp.2.2.1 k (List.getElem?_eq_some_iff.mp hfk).1
      rw [hfk] at hk1
      obtain ⟨ty, hty, hfk2⟩ := ax_kok1_spec hk1
      rw [hty]
      simp only [Option.getD_some]
      rcases hfk2 with ⟨rfl, rfl⟩ | ⟨rfl, rfl⟩ | ⟨rfl, ⟨n, rfl⟩ | ⟨n, rfl⟩⟩ <;> rfl
  · -- newarray
    rename_i t
    cases hlen (fun _ _ _ _ q => by cases q)
    split at h
    · rename_i tg d hat
      have hl' : w'.length = w.length + 1 := by
        obtain ⟨n, r, -, -, -, er⟩ := ax_newa_inv h
        cases er
        simp
      have harr : Cond.arrayClass (newarray.typeOf t) ∈ lw_tbl := by
        cases t <;> simp only [ax_at] at hat <;> first | exact ax_arrays _ (by decide) | cases hat
      exact ax_newarray_ok hexec hb hK hS hat (G.word hW harr rfl) hde h (hcell hl') hslot (made hl')
    · cases h
  · -- anewarray
    rename_i idx
    cases hlen (fun _ _ _ _ q => by cases q)
    unfold ax_echk at hck
    simp only [Bool.and_eq_true, decide_eq_true_eq] at hck
    obtain ⟨C, hty, hl1, hl2⟩ := ax_anew_w hck.2
    have hl' : w'.length = w.length + 1 := by
      obtain ⟨n, r, -, -, -, er⟩ := ax_newa_inv h
      cases er
      simp
    exact ax_anew_ok hexec hb hown hK hS hty (G.word hW hl1 rfl) (G.word hW hl2 rfl) hde h (hcell hl') hslot (made hl')
  · cases h
end AX9
end
section
/-! THE ABSTRACT MACHINE IS SOUND -/
section AX10
variable {p : Program} {l : Launch} {e : Env} {R : Room} {s : State} {m : MethodId} {args : Array Value} {below : List Frame} {meth : Method} {c : Code} {H : Heap} {locs : List Loc} {cells slots : Nat} {Q : State → Prop}
variable {pc pc' : Nat} {A : Array Slot} {B : Nat} {X : Nat → Value} {D : va_G} {H0 : Heap} {w w' : ax_W} {st st' : List Value} {ls ls' : List (Option Value)} {xs : List Int32} {s0 : State} {A0 : Array Value}
variable {y : MethodName} {bytes : ByteArray} {maxL : Nat} {ret : Option FieldType} {hs : List (Nat × Nat × Nat × Nat)} {en : ax_E}
theorem ax_st_notable {d lo hi : Int} {offs : Array Int} : ax_st (.tableswitch d lo hi offs) ls st = none := rfl
theorem ax_sto_notable {d lo hi : Int} {offs : Array Int} : ax_sto (.tableswitch d lo hi offs) ls st = none := rfl
theorem ax_step_ok (G : ax_G s0 A0 D B X H0 xs) (hF : ax_Fr s0 y bytes maxL ret hs p s m meth c) (hL : ax_L B X A maxL ls) (hS : ax_Sim B X D H0 w H) (hde : decode bytes pc = .ok (en.1, en.2.1)) (hck : ax_echk y.cls (decide (y.name = "<init>")) pc en = true)
    (h : ax_step ax_kinds ax_kI ax_kJ xs en pc ls st w = some (pc', ls', st', w')) (hcell : w'.length = w.length + 1 → cells + 1 ≤ R.cells) (hslot : ∀ k, ax_sz w' = ax_sz w + k → slots + k ≤ R.slots)
    (kk : ∀ (H' : Heap) (A' : Array Slot) (L : List Loc) (cells' slots' : Nat), ax_Sim B X D H0 w' H' → ax_L B X A' maxL ls' → (∀ q ∈ L, B ≤ q.base) → cells' + w.length = cells + w'.length → slots' + ax_sz w = slots + ax_sz w' → W p l e R s m args below meth c H' (locs ++ L) cells' slots' Q (F0 m pc' A' (st'.map (ax_v B X)))) :
    W p l e R s m args below meth c H locs cells slots Q (F0 m pc A (st.map (ax_v B X))) := by
  have hX := G.2.2.2.1
  unfold ax_step at h
  split at h
  · rename_i st1 h1
    cases h
    have hlen : en.2.1 = ax_len en.1 := ax_echk_len hck (fun d lo hi offs q => by rw [q] at h1; cases h1)
    have := kk H A [] cells slots hS hL (fun q hq => absurd hq List.not_mem_nil) rfl rfl
    rw [List.append_nil, hlen] at this
    rw [hlen] at hde
    exact ax_st_ok hX hF.1 hF.2.1 hL hde h1 this
  · split at h
    · rename_i ls1 st1 h1
      cases h
      have hlen : en.2.1 = ax_len en.1 := ax_echk_len hck (fun d lo hi offs q => by rw [q] at h1; cases h1)
      rw [hlen] at hde
      refine ax_sto_ok hX hF.1 hF.2.1 hL hde h1 fun A' hL' => ?_
      have := kk H A' [] cells slots hS hL' (fun q hq => absurd hq List.not_mem_nil) rfl rfl
      rw [List.append_nil, hlen] at this
      exact this
    · split at h
      · rename_i pc1 st1 h1
        cases h
        have := kk H A [] cells slots hS hL (fun q hq => absurd hq List.not_mem_nil) rfl rfl
        rw [List.append_nil] at this
        obtain ⟨ins, len, ea, eb, ej⟩ := en
        simp only at hde h1
        refine ax_br_ok hF.1 hF.2.1 hde ?_ ?_ ?_ h1 this
        · intro hq
          unfold ax_br at h1
          split at h1
          · unfold ax_echk at hck
            simp only [Bool.and_eq_true, decide_eq_true_eq] at hck
            exact hck.1
          · unfold ax_echk at hck
            simp only [Bool.and_eq_true, decide_eq_true_eq] at hck
            exact hck.1
          · unfold ax_echk at hck
            simp only [Bool.and_eq_true, decide_eq_true_eq] at hck
            exact hck.1
          · exact absurd rfl (hq _ _ _ _)
          · cases h1
        · intro off hq
          rcases hq with rfl | ⟨q, rfl⟩ | ⟨q, rfl⟩
          · unfold ax_echk at hck
            simp only [Bool.and_eq_true, decide_eq_true_eq] at hck
            exact hck.2
          · unfold ax_echk at hck
            simp only [Bool.and_eq_true, decide_eq_true_eq] at hck
            exact hck.2
          · unfold ax_echk at hck
            simp only [Bool.and_eq_true, decide_eq_true_eq] at hck
            exact hck.2
        · intro d lo hi offs hq
          subst hq
          unfold ax_echk at hck
          simp only [Bool.and_eq_true, decide_eq_true_eq, Array.all_eq_true'] at hck
          exact ⟨hck.1, fun o ho => hck.2 o ho⟩
      · split at h
        · rename_i st1 w1 h1
          cases h
          exact ax_hp_ok G hF hS hde hck h1 hcell hslot fun H' L c' s' a1 a2 a3 a4 => kk H' A L c' s' a1 hL a2 a3 a4
        · cases h
def ax_Q (B : Nat) (X : Nat → Value) (D : va_G) (H0 : Heap) (s : State) (below : List Frame) (o : Outcome) (w w' : ax_W) (cells slots : Nat) (t : State) : Prop :=
  ∃ (L : List Loc) (k n : Nat), k + w.length = cells + w'.length ∧ n + ax_sz w = slots + ax_sz w' ∧ t.status = .running ∧ Ended t below (ax_o B X o) ∧ s.WarmedH t.vm ∧ s.sameButNew ({ t with vm := s.vm } : State) L k n ∧ ax_Sim B X D H0 w' t.heap ∧ ∀ q ∈ L, B ≤ q.base
theorem ax_Wm {Q' : State → Prop} {g : JFrame} (h : ∀ t, Q t → Q' t) (k : W p l e R s m args below meth c H locs cells slots Q g) : W p l e R s m args below meth c H locs cells slots Q' g := fun T hT X => by
  obtain ⟨t, a, b⟩ := k T hT X
  exact ⟨t, a, h t b⟩
theorem ax_Q.of {o : Outcome} (hS : ax_Sim B X D H0 w H) (hl : ∀ q ∈ locs, B ≤ q.base) {t : State} (h : MQ below (fun _ _ o' t => o' = ax_o B X o ∧ t.heap = H) args s cells slots (fun q => B ≤ q) t) : ax_Q B X D H0 s below o w w cells slots t := by
  obtain ⟨o', h1, h2, ⟨rfl, h4⟩, L, ⟨-, h6, h7⟩, h8⟩ := h
  exact ⟨L, cells, slots, rfl, rfl, h1, h2, h6, h7, by rw [h4]; exact hS, h8⟩
theorem ax_ret_ok {rk : Nat} {i : Instr} {v : Option Value} (hF : ax_Fr s0 y bytes maxL ret hs p s m meth c) (hrk : ax_rk rk ret = true) (hS : ax_Sim B X D H0 w H) (hl : ∀ q ∈ locs, B ≤ q.base) {len : Nat} (hde : decode bytes pc = .ok (i, len)) (hlen : len = ax_len i) (h : ax_ret rk i st = some v) :
    W p l e R s m args below meth c H locs cells slots (ax_Q B X D H0 s below (.returned v) w w cells slots) (F0 m pc A (st.map (ax_v B X))) := by
  obtain ⟨hexec, hb, -, hr, hlk, -⟩ := hF
  subst hlen
  unfold ax_ret at h
  split at h
  · split at h
    · split at h
      · rename_i h0
        cases h
        subst h0
        refine ax_Wm (fun t => ax_Q.of hS hl) (W.vret hexec hb ?_ (fun t ht _ => ⟨rfl, ht⟩) hl hde (hlocks := hlk))
        rw [hr]
        cases ret with
        | none => rfl
        | some t => simp [ax_rk] at hrk
      · cases h
    · cases h
  · split at h
    · rename_i x
      split at h
      · rename_i h1
        cases h
        subst h1
        refine ax_Wm (fun t => ax_Q.of hS hl) (W.iret hexec hb ?_ (fun t ht _ => ⟨rfl, ht⟩) hl hde (hlocks := hlk))
        rw [hr]
        cases ret with
        | none => simp [ax_rk] at hrk
        | some t => cases t <;> simp [ax_rk] at hrk; rfl
      · split at h
        · rename_i h2
          subst h2
          have hret : meth.sig.returnType = some .boolean := by
            rw [hr]
            cases ret with
            | none => simp [ax_rk] at hrk
            | some t => cases t <;> simp [ax_rk] at hrk; rfl
          split at h
          · rename_i hx
            subst hx
            cases h
            exact ax_Wm (fun t => ax_Q.of hS hl) (W.zret hexec hb hret rfl (fun t ht _ => ⟨rfl, ht⟩) hl hde (hlocks := hlk))
          · split at h
            · rename_i hx
              subst hx
              cases h
              exact ax_Wm (fun t => ax_Q.of hS hl) (W.zret hexec hb hret rfl (fun t ht _ => ⟨rfl, ht⟩) hl hde (hlocks := hlk))
            · cases h
        · cases h
    · cases h
  · split at h
    · rename_i x
      split at h
      · rename_i h1
        cases h
        subst h1
        refine ax_Wm (fun t => ax_Q.of hS hl) (W.lret hexec hb ?_ (fun t ht _ => ⟨rfl, ht⟩) hl hde (hlocks := hlk))
        rw [hr]
        cases ret with
        | none => simp [ax_rk] at hrk
        | some t => cases t <;> simp [ax_rk] at hrk; rfl
      · cases h
    · cases h
  · split at h
    · rename_i x
      split at h
      · rename_i h1
        cases h
        subst h1
        have hret : ∃ t, ret = some t ∧ ((∃ n, t = .object n) ∨ ∃ u, t = .array u) := by
          cases ret with
          | none => simp [ax_rk] at hrk
          | some t => cases t <;> simp [ax_rk] at hrk <;> first | exact ⟨_, rfl, Or.inl ⟨_, rfl⟩⟩ | exact ⟨_, rfl, Or.inr ⟨_, rfl⟩⟩
        obtain ⟨t, rfl, ht⟩ := hret
        exact ax_Wm (fun t => ax_Q.of hS hl) (W.aret hexec hb hr ht (Or.inr ⟨_, rfl⟩) (fun t ht _ => ⟨rfl, ht⟩) hl hde (hlocks := hlk))
      · cases h
    · cases h
  · cases h
end AX10
end
section
/-! calls in the abstract machine -/
/-- no word makes the law a callee; no method of its class has a receiver -/
def ax_nl (w : Jvm.Cond) : Bool := match w with
  | .instanceMethod y => decide (y.cls ≠ "MatrixDeskLaw")
  | .static y => decide (y ≠ ⟨"MatrixDeskLaw", "law", "([I)Z"⟩)
  | _ => true
set_option maxRecDepth 100000 in
theorem ax_nlaw : lw_tbl.all ax_nl = true := by decide +kernel
theorem ax_noinst {y : MethodName} (h : Cond.instanceMethod y ∈ lw_tbl) : y.cls ≠ "MatrixDeskLaw" := by
  have := List.all_eq_true.mp ax_nlaw _ h
  simpa [ax_nl] using this
theorem ax_nostat {y : MethodName} (h : Cond.static y ∈ lw_tbl) : y ≠ ⟨"MatrixDeskLaw", "law", "([I)Z"⟩ := by
  have := List.all_eq_true.mp ax_nlaw _ h
  simpa [ax_nl] using this
theorem ax_mspec {z : Nat} {M : ax_M} {yy : MethodName × ByteArray × Option FieldType × Nat} (hM : ax_prog[z]? = some M) (hy : ax_who[z]? = some yy) : ax_cchk yy.1.cls (decide (yy.1.name = "<init>")) yy.2.1 0 M.1 = true ∧ ax_rk M.2.2.1 yy.2.2.1 = true ∧ plainFor yy.1 = true ∧ (z = 185 ∨ ax_cw yy.1 yy.2.1 M.2.1 yy.2.2.1 M.2.2.2 ∈ lw_tbl) ∧ (M.2.2.2.isEmpty = true ∨ yy.1.cls = "MatrixDeskLaw") ∧ ∀ q ∈ M.2.2.2, q.2.2.2 = 9 ∨ q.2.2.2 = 10 := by
  have hz : z < 186 := (List.getElem?_eq_some_iff.mp hM).1
  have h := ax_mall z hz
  unfold ax_mchk at h
  rw [hM, hy] at h
  simp only [Bool.and_eq_true, Bool.or_eq_true, decide_eq_true_eq, List.all_eq_true] at h
  obtain ⟨⟨⟨⟨⟨h1, h2⟩, h3⟩, h4⟩, h5⟩, h6⟩ := h
  exact ⟨h1, h2, h3, h4.imp id ax_inl_mem, h5, h6⟩
theorem ax_who185 : ax_who[185]? = some (⟨"MatrixDeskLaw", "law", "([I)Z"⟩, code, some .boolean, 0) := rfl
theorem ax_cw_keep (y : MethodName) (bytes : ByteArray) (maxL : Nat) (ret : Option FieldType) (tab : List (Nat × Nat × Nat × Nat)) : ax_keep (ax_cw y bytes maxL ret tab) = true := by
  unfold ax_cw
  split <;> rfl
theorem ax_cw_cf {y : MethodName} {bytes : ByteArray} {maxL : Nat} {ret : Option FieldType} {tab : List (Nat × Nat × Nat × Nat)} {U : State} {a : Array Value} {mk : MethodId} (hn : U.methodNamed? y = some mk) (h : (ax_cw y bytes maxL ret tab).before a U = true) : ax_cf y bytes maxL ret (ax_ht tab) U := by
  unfold ax_cw at h
  split at h
  · rename_i ht
    rw [List.isEmpty_iff.mp ht]
    exact ax_cf.of_code hn h
  · exact ax_cf.of_with h
theorem ax_rcv_spec {t : Nat} {as : List Value} {w : ax_W} (h : ax_rcv (t + 1) as w = true) : ∃ i r q, as = .ref i :: r ∧ w[i]? = some (t, q) := by
  unfold ax_rcv at h
  simp only at h
  split at h
  · split at h
    · rename_i t' q hw
      simp only [beq_iff_eq] at h
      subst h
      exact ⟨_, _, _, rfl, hw⟩
    · cases h
  · cases h
section AX11
variable {p : Program} {l : Launch} {e : Env} {R : Room} {s : State} {m : MethodId} {args : Array Value} {below : List Frame} {meth : Method} {c : Code} {H : Heap} {locs : List Loc} {cells slots : Nat} {Q : State → Prop}
variable {pc : Nat} {A : Array Slot} {B : Nat} {X : Nat → Value} {D : va_G} {H0 : Heap} {w w' : ax_W} {st st' : List Value} {ls ls' : List (Option Value)} {xs : List Int32} {s0 : State} {A0 : Array Value}
variable {y : MethodName} {bytes : ByteArray} {maxL : Nat} {ret : Option FieldType} {hs : List (Nat × Nat × Nat × Nat)} {en : ax_E}
theorem ax_lm_link (G : ax_G s0 A0 D B X H0 xs) (hW : s0.WarmedH s.vm) {own : String} {idx : Nat} {y : MethodName} (h : ax_lm own idx y) : (Cond.methodLink own idx y).before args s = true ∨ ∃ host, (Cond.methodLinkNest own idx y host).before args s = true := by
  rcases h with h | h
  · exact Or.inl (G.word hW h rfl)
  · exact Or.inr ⟨_, G.word hW h rfl⟩
theorem ax_split {n : Nat} (h : ¬ st.length < n) : st = (st.take n).reverse.reverse ++ st.drop n := by
  rw [List.reverse_reverse, List.take_append_drop]
theorem ax_invoked (G : ax_G s0 A0 D B X H0 xs) (hF : ax_Fr s0 y bytes maxL ret hs p s m meth c) {T : State} (XX : Stand p l e R s m args below meth c T locs cells slots) (hS : ax_Sim B X D H0 w T.heap) (hde : decode bytes pc = .ok (en.1, en.2.1)) (hck : ax_echk y.cls (decide (y.name = "<init>")) pc en = true)
    (hinv : (∃ idx, en.1 = .invokevirtual idx) ∨ (∃ idx, en.1 = .invokestatic idx) ∨ ∃ idx, en.1 = .invokespecial idx) (ha : ¬ 1000 ≤ en.2.2.1) {M' : ax_M} (hM' : ax_prog[en.2.2.1]? = some M') (hst : ¬ st.length < en.2.2.2.1 % 100) (hrcv : ax_rcv (en.2.2.2.1 / 100) (st.take (en.2.2.2.1 % 100)).reverse w = true) :
    ∃ yy, ax_who[en.2.2.1]? = some yy ∧ en.2.2.1 ≠ 185 ∧ Cond.initialized yy.1.cls ∈ lw_tbl ∧ en.2.1 = 3 ∧ ax_Iv p l e R s m args below meth c T locs cells slots (F0 m pc A (st.map (ax_v B X))) ((st.drop (en.2.2.2.1 % 100)).map (ax_v B X)) yy.1 ((st.take (en.2.2.2.1 % 100)).reverse.map (ax_v B X)) := by
  obtain ⟨hexec, hb, hml, -, -, hown, hname, -, hW⟩ := hF
  obtain ⟨-, hK0, -⟩ := id G
  have hK := hK0.moved hW.alike
  obtain ⟨ins, len, ea, eb, ej⟩ := en
  simp only at hde hinv ha hM' hst hrcv ⊢
  have hsp := ax_split hst
  have hstm : st.map (ax_v B X) = ((st.take (eb % 100)).reverse.map (ax_v B X)).reverse ++ (st.drop (eb % 100)).map (ax_v B X) := by
    rw [← List.map_reverse, ← List.map_append, ← hsp]
  have hlen : (st.take (eb % 100)).reverse.length = eb % 100 := by
    rw [List.length_reverse, List.length_take]; omega
  rcases hinv with ⟨idx, rfl⟩ | ⟨idx, rfl⟩ | ⟨idx, rfl⟩
  · unfold ax_echk at hck
    simp only [Bool.and_eq_true, decide_eq_true_eq] at hck
    obtain ⟨⟨h3, -⟩, hpj⟩ := hck
    subst h3
    obtain ⟨yy, q, hy, hyok, hb1, hq, hqc, hb2, hnp, hlm, hin, hsl, hini⟩ := ax_vrt_w hpj
    obtain ⟨t, ht⟩ : ∃ t, eb / 100 = t + 1 := ⟨eb / 100 - 1, by omega⟩
    rw [ht] at hrcv hq hb2
    rw [Nat.add_sub_cancel] at hq hb2
    obtain ⟨i, r, fs, has, hwi⟩ := ax_rcv_spec hrcv
    obtain ⟨cell, c1, c2⟩ := hS.2.1 i _ hwi
    have h185 : ea ≠ 185 := fun q185 => by
      subst q185
      rw [ax_who185] at hy
      cases hy
      exact ax_noinst hin rfl
    have hcw := (ax_mspec hM' hy).2.2.2.1.resolve_left h185
    have hcwb := G.word (args := args) hW hcw (ax_cw_keep _ _ _ _ _)
    obtain ⟨mk, -, hnamed, -⟩ := Cond.instanceMethod_spec (G.word (args := args) hW hin rfl)
    refine ⟨yy, hy, h185, hini, rfl, ?_⟩
    rw [has] at hstm hlen ⊢
    refine ax_Iv.virt XX hexec hown (ax_lm_link G hW hlm) (G.word hW hin rfl) (G.word hW hsl rfl) (ax_cw_cf hnamed hcwb) hyok (b := B + i) (cellB := cell) c1 (by rw [c2.2.1]; rfl) ?_ rfl (argsL := r.map (ax_v B X)) (rest := (st.drop (eb % 100)).map (ax_v B X)) ?_ ?_ (by rw [hb]; exact hde)
    · rw [c2.1, ← hqc]; exact (hK.1 t q hq).2.1
    · intro sig hsig
      obtain ⟨n, hn, hn2⟩ := Option.map_eq_some_iff.mp hnp
      have := ax_npar_spec hn sig hsig
      rw [List.length_map]
      simp only [List.length_cons] at hlen
      omega
    · show st.map (ax_v B X) = _
      rw [hstm]
      simp [ax_v]
  · unfold ax_echk at hck
    simp only [Bool.and_eq_true, Bool.or_eq_true, decide_eq_true_eq] at hck
    obtain ⟨h3, h4⟩ := hck
    subst h3
    rcases h4 with ⟨h5, -⟩ | ⟨-, hpj⟩
    · exact absurd (by omega) ha
    obtain ⟨yy, hy, hyok, hb1, hnp, hlm, hstt, hini⟩ := ax_stt_w hpj
    have h185 : ea ≠ 185 := fun q185 => by
      subst q185
      rw [ax_who185] at hy
      cases hy
      exact ax_nostat hstt rfl
    have hcw := (ax_mspec hM' hy).2.2.2.1.resolve_left h185
    have hcwb := G.word (args := args) hW hcw (ax_cw_keep _ _ _ _ _)
    have hcf : ax_cf yy.1 yy.2.1 M'.2.1 yy.2.2.1 (ax_ht M'.2.2.2) s := by
      unfold ax_cw at hcwb
      split at hcwb
      · rename_i ht
        obtain ⟨mk, hnamed⟩ := Cond.code_named hcwb
        rw [List.isEmpty_iff.mp ht]
        exact ax_cf.of_code hnamed hcwb
      · exact ax_cf.of_with hcwb
    refine ⟨yy, hy, h185, hini, rfl, ?_⟩
    refine ax_Iv.stat XX hexec hown (ax_lm_link G hW hlm) (G.word hW hstt rfl) (G.word hW hini rfl) hcf hyok rfl ?_ ?_ (by rw [hb]; exact hde)
    · intro sig hsig
      have := ax_npar_spec hnp sig hsig
      rw [List.length_map, hlen, ← this]
      omega
    · exact hstm
  · unfold ax_echk at hck
    simp only [Bool.and_eq_true, Bool.or_eq_true, decide_eq_true_eq] at hck
    obtain ⟨h3, h4⟩ := hck
    subst h3
    rcases h4 with (⟨h5, -⟩ | ⟨h5, -⟩) | ⟨-, hpj⟩
    · exact absurd (by omega) ha
    · exact absurd (by omega) ha
    obtain ⟨yy, hy, hyok, hnm, hrn, hb1, hnp, hlm, hin, hini⟩ := ax_ini_w hpj
    have h185 : ea ≠ 185 := fun q185 => by
      subst q185
      rw [ax_who185] at hy
      cases hy
      exact ax_noinst hin rfl
    have hms := ax_mspec hM' hy
    have hcw := hms.2.2.2.1.resolve_left h185
    have hemp : M'.2.2.2.isEmpty = true := hms.2.2.2.2.1.resolve_right (ax_noinst hin)
    have hcwb := G.word (args := args) hW hcw (ax_cw_keep _ _ _ _ _)
    unfold ax_cw at hcwb
    rw [if_pos hemp, hrn] at hcwb
    obtain ⟨t, ht⟩ : ∃ t, eb / 100 = t + 1 := ⟨eb / 100 - 1, by omega⟩
    rw [ht] at hrcv
    obtain ⟨i, r, fs, has, hwi⟩ := ax_rcv_spec hrcv
    refine ⟨yy, hy, h185, hini, rfl, ?_⟩
    rw [has] at hstm hlen ⊢
    refine ax_Iv.init XX hexec hown hnm (ax_lm_link G hW hlm) (G.word hW hin rfl) hcwb hyok rfl (a := B + i) (argsL := r.map (ax_v B X)) ?_ ?_ (by rw [hb]; exact hde)
    · intro sig hsig
      obtain ⟨n, hn, hn2⟩ := Option.map_eq_some_iff.mp hnp
      have := ax_npar_spec hn sig hsig
      rw [List.length_map]
      simp only [List.length_cons] at hlen
      omega
    · show st.map (ax_v B X) = _
      rw [hstm]
      simp [ax_v]
end AX11
end
section
/-! THE ABSTRACT MACHINE IS SOUND: the whole of it -/
abbrev ax_P : Nat → Option ax_M := fun z => ax_prog[z]?
abbrev ax_run (xs : List Int32) : Nat → Nat → Nat → Nat → Nat → List (Option Value) → List Value → ax_W → Option (Outcome × ax_W) := ax_ex ax_P ax_kinds ax_kI ax_kJ xs
def ax_gr (w w' : ax_W) : Prop := w.length ≤ w'.length ∧ ax_sz w ≤ ax_sz w'
theorem ax_gr.refl (w : ax_W) : ax_gr w w := ⟨Nat.le_refl _, Nat.le_refl _⟩
theorem ax_gr.trans {a b c : ax_W} (h1 : ax_gr a b) (h2 : ax_gr b c) : ax_gr a c := ⟨Nat.le_trans h1.1 h2.1, Nat.le_trans h1.2 h2.2⟩
theorem ax_gr.set {w : ax_W} {i : Nat} {q q' : Nat × List Value} (hw : w[i]? = some q) (hc : ax_cs q' = ax_cs q) : ax_gr w (w.set i q') := ⟨by simp, by rw [ax_sz_set hw hc]; exact Nat.le_refl _⟩
theorem ax_gr.push (w : ax_W) (q : Nat × List Value) : ax_gr w (w ++ [q]) := ⟨by simp, by rw [ax_sz_push]; exact Nat.le_add_right _ _⟩
theorem ax_hp_grow {kinds : List (List Nat)} {kI : List Int32} {kJ : List Int64} {xs : List Int32} {en : ax_E} {st st' : List Value} {w w' : ax_W} (h : ax_hp kinds kI kJ xs en st w = some (st', w')) : ax_gr w w' := by
  unfold ax_hp at h
  split at h
  · obtain ⟨r, hr, e1⟩ := Option.map_eq_some_iff.mp h; cases e1; exact ax_gr.refl _
  · obtain ⟨r, hr, e1⟩ := Option.map_eq_some_iff.mp h; cases e1; exact ax_gr.refl _
  · obtain ⟨r, hr, e1⟩ := Option.map_eq_some_iff.mp h; cases e1; exact ax_gr.refl _
  · obtain ⟨r, hr, e1⟩ := Option.map_eq_some_iff.mp h; cases e1; exact ax_gr.refl _
  · obtain ⟨r, hr, e1⟩ := Option.map_eq_some_iff.mp h; cases e1; exact ax_gr.refl _
  · obtain ⟨r, hr, e1⟩ := Option.map_eq_some_iff.mp h; cases e1; exact ax_gr.refl _
  · obtain ⟨r, hr, e1⟩ := Option.map_eq_some_iff.mp h; cases e1; exact ax_gr.refl _
  · cases h; exact ax_gr.refl _
  · split at h
    · split at h
      · cases h; exact ax_gr.refl _
      · cases h
    · cases h; exact ax_gr.refl _
  · split at h
    · split at h
      · cases h; exact ax_gr.refl _
      · cases h
    · cases h; exact ax_gr.refl _
  · split at h
    · cases h; exact ax_gr.refl _
    · cases h
  · obtain ⟨x, j, i, r, w1, -, hr, er⟩ := ax_ast_inv h
    cases er
    obtain ⟨vs, hw, -, -, rfl⟩ := ax_wr_inv hr
    exact ax_gr.set hw (ax_cs_set _ _ _ _)
  · obtain ⟨x, j, i, r, w1, -, hr, er⟩ := ax_last_inv h
    cases er
    obtain ⟨vs, hw, -, -, rfl⟩ := ax_wr_inv hr
    exact ax_gr.set hw (ax_cs_set _ _ _ _)
  · obtain ⟨x, j, i, r, w1, -, -, -, hr, er⟩ := ax_cast_inv h
    cases er
    obtain ⟨vs, hw, -, -, rfl⟩ := ax_wr_inv hr
    exact ax_gr.set hw (ax_cs_set _ _ _ _)
  · obtain ⟨x, j, i, r, w1, -, -, -, hr, er⟩ := ax_cast_inv h
    cases er
    obtain ⟨vs, hw, -, -, rfl⟩ := ax_wr_inv hr
    exact ax_gr.set hw (ax_cs_set _ _ _ _)
  · obtain ⟨x, j, i, r, q, w1, -, -, hr, er⟩ := ax_aast_inv h
    cases er
    obtain ⟨vs, hw, -, -, rfl⟩ := ax_wr_inv hr
    exact ax_gr.set hw (ax_cs_set _ _ _ _)
  · split at h
    · split at h
      · obtain ⟨v, i, r, fs, -, -, hw, -, e1⟩ := ax_put_inv h
        cases e1
        exact ax_gr.set hw (ax_cs_set _ _ _ _)
      · cases h
    · cases h
  · unfold ax_new at h
    split at h
    · cases h; exact ax_gr.push _ _
    · cases h
  · split at h
    · obtain ⟨n, r, -, -, -, er⟩ := ax_newa_inv h
      cases er; exact ax_gr.push _ _
    · cases h
  · obtain ⟨n, r, -, -, -, er⟩ := ax_newa_inv h
    cases er; exact ax_gr.push _ _
  · cases h
theorem ax_step_grow {kinds : List (List Nat)} {kI : List Int32} {kJ : List Int64} {xs : List Int32} {en : ax_E} {pc pc' : Nat} {ls ls' : List (Option Value)} {st st' : List Value} {w w' : ax_W} (h : ax_step kinds kI kJ xs en pc ls st w = some (pc', ls', st', w')) : ax_gr w w' := by
  unfold ax_step at h
  split at h
  · cases h; exact ax_gr.refl _
  · split at h
    · cases h; exact ax_gr.refl _
    · split at h
      · cases h; exact ax_gr.refl _
      · split at h
        · rename_i h1
          cases h
          exact ax_hp_grow h1
        · cases h
theorem ax_spc_inv {fr lo a : Nat} {st st' : List Value} {w w' : ax_W} (h : ax_spc fr lo a st w = some (st', w')) :
    (a = 1000 ∧ ∃ i, st = .ref i :: st' ∧ w' = w ∧ 1 ≤ fr ∧ 30 ≤ lo ∧ (st'.map ax_wt).sum ≤ 8) ∨
    (a = 1001 ∧ ∃ k i t, st = .retAddr k :: .ref i :: st' ∧ w' = w.set i (t, []) ∧ 7 ≤ fr ∧ 200 ≤ lo ∧ (st'.map ax_wt).sum ≤ 8 ∧ 2 ≤ k ∧ w[i]? = some (t, ax_xf) ∧ (t = 9 ∨ t = 10)) ∨
    (a = 1002 ∧ 1 ≤ fr ∧ 100 ≤ lo ∧ (st.map ax_wt).sum ≤ 18 ∧ ax_cpy st w = some (st', w')) := by
  unfold ax_spc at h
  split at h
  · split at h
    · split at h
      · cases h
      · split at h
        · cases h
        · split at h
          · cases h
          · rename_i h1 h2 h3
            cases h
            exact Or.inl ⟨rfl, _, rfl, rfl, by omega, by omega, by omega⟩
    · cases h
  · split at h
    · split at h
      · cases h
      · split at h
        · cases h
        · split at h
          · cases h
          · split at h
            · cases h
            · rename_i h1 h2 h3 h4
              split at h
              · rename_i t fs hw
                split at h
                · rename_i hfs
                  subst hfs
                  split at h
                  · rename_i ht
                    cases h
                    exact Or.inr (Or.inl ⟨rfl, _, _, _, rfl, rfl, by omega, by omega, by omega, by omega, hw, Or.inl ht⟩)
                  · split at h
                    · rename_i ht
                      cases h
                      exact Or.inr (Or.inl ⟨rfl, _, _, _, rfl, rfl, by omega, by omega, by omega, by omega, hw, Or.inr ht⟩)
                    · cases h
                · cases h
              · cases h
    · cases h
  · split at h
    · cases h
    · split at h
      · cases h
      · split at h
        · cases h
        · rename_i h1 h2 h3
          exact Or.inr (Or.inr ⟨rfl, by omega, by omega, by omega, h⟩)
  · cases h
theorem ax_cpy_sz {st st' : List Value} {w w' : ax_W} (h : ax_cpy st w = some (st', w')) : w'.length = w.length ∧ ax_sz w' = ax_sz w := by
  obtain ⟨n, dp, b, sp, a, r, t, us, vs, -, -, hwb, ht, -, -, -, h4, h5, -, er⟩ := ax_cpy_inv h
  cases er
  refine ⟨by simp, ax_sz_set hwb ?_⟩
  rw [ax_cs_arr (by omega), ax_cs_arr (by omega)]
  simp
  omega
theorem ax_spc_sz {fr lo a : Nat} {st st' : List Value} {w w' : ax_W} (h : ax_spc fr lo a st w = some (st', w')) : w'.length = w.length ∧ ax_sz w' = ax_sz w := by
  rcases ax_spc_inv h with ⟨-, i, -, rfl, -⟩ | ⟨-, k, i, t, -, rfl, -, -, -, -, hw, ht⟩ | ⟨-, -, -, -, hc⟩
  · exact ⟨rfl, rfl⟩
  · refine ⟨by simp, ax_sz_set hw ?_⟩
    rcases ht with rfl | rfl <;> rfl
  · exact ax_cpy_sz hc
/-- what one call of the machine does, said at once: the road of a call -/
def ax_road (xs : List Int32) (f fr lo z pc : Nat) (ls : List (Option Value)) (st : List Value) (w : ax_W) (M : ax_M) (e : ax_E) : Option (Outcome × ax_W) :=
  if 1000 ≤ e.2.2.1 then
    match ax_spc fr lo e.2.2.1 st w with
    | some (st', w') => ax_run xs f fr lo z (pc + 3) ls st' w'
    | none => none
  else
    match ax_P e.2.2.1 with
    | none => none
    | some M' =>
      if fr = 0 then none else if lo < M'.2.1 + 19 then none else if st.length < e.2.2.2.1 % 100 then none else if 8 < ((st.drop (e.2.2.2.1 % 100)).map ax_wt).sum then none else if M'.2.1 < (ax_sl (st.take (e.2.2.2.1 % 100)).reverse).length then none else
      if ax_rcv (e.2.2.2.1 / 100) (st.take (e.2.2.2.1 % 100)).reverse w then
        match ax_run xs f (fr - 1) (lo - (M'.2.1 + 19)) e.2.2.1 0 (ax_ent (st.take (e.2.2.2.1 % 100)).reverse M'.2.1) [] w with
        | none => none
        | some (.returned v, w') => ax_run xs f fr lo z (pc + 3) ls (v.toList ++ st.drop (e.2.2.2.1 % 100)) w'
        | some (.threw i, w') =>
          match w'[i]? with
          | none => none
          | some (t, _) =>
            match ax_hdl M.2.2.2 pc t with
            | some h => ax_run xs f fr lo z h ls [.ref i] w'
            | none => if M.2.2.2.isEmpty then some (.threw i, w') else none
      else none
def ax_isinv (i : Instr) : Prop := (∃ idx, i = .invokevirtual idx) ∨ (∃ idx, i = .invokestatic idx) ∨ ∃ idx, i = .invokespecial idx
/-- one turn of the machine -/
theorem ax_turn {xs : List Int32} {f fr lo z pc : Nat} {ls : List (Option Value)} {st : List Value} {w : ax_W} {r : Outcome × ax_W} (h : ax_run xs (f + 1) fr lo z pc ls st w = some r) :
    ∃ M e, ax_prog[z]? = some M ∧ M.1[pc]? = some (some e) ∧
      ((∃ v, ax_ret M.2.2.1 e.1 st = some v ∧ r = (.returned v, w)) ∨ (∃ i t, e.1 = .athrow ∧ st = .ref i :: t ∧ M.2.2.2.isEmpty = true ∧ r = (.threw i, w)) ∨
       (ax_isinv e.1 ∧ ax_road xs f fr lo z pc ls st w M e = some r) ∨ (∃ pc' ls' st' w', ax_step ax_kinds ax_kI ax_kJ xs e pc ls st w = some (pc', ls', st', w') ∧ ax_run xs f fr lo z pc' ls' st' w' = some r)) := by
  unfold ax_run at h
  rw [ax_ex] at h
  simp only [ax_P] at h
  split at h
  · cases h
  · rename_i M hM
    split at h
    · rename_i e he
      refine ⟨M, e, hM, he, ?_⟩
      split at h
      · rename_i v hv
        cases h
        exact Or.inl ⟨v, hv, rfl⟩
      · split at h
        · rename_i hat
          split at h
          · split at h
            · rename_i hemp
              cases h
              exact Or.inr (Or.inl ⟨_, _, hat, rfl, hemp, rfl⟩)
            · cases h
          · cases h
        · rename_i idx hi
          exact Or.inr (Or.inr (Or.inl ⟨Or.inl ⟨idx, hi⟩, h⟩))
        · rename_i idx hi
          exact Or.inr (Or.inr (Or.inl ⟨Or.inr (Or.inl ⟨idx, hi⟩), h⟩))
        · rename_i idx hi
          exact Or.inr (Or.inr (Or.inl ⟨Or.inr (Or.inr ⟨idx, hi⟩), h⟩))
        · split at h
          · rename_i pc' ls' st' w' hs
            exact Or.inr (Or.inr (Or.inr ⟨pc', ls', st', w', hs, h⟩))
          · cases h
    · cases h
theorem ax_grow {xs : List Int32} : ∀ (f fr lo z pc : Nat) (ls : List (Option Value)) (st : List Value) (w : ax_W) (r : Outcome × ax_W), ax_run xs f fr lo z pc ls st w = some r → ax_gr w r.2 := by
  intro f
  induction f with
  | zero => intro fr lo z pc ls st w r h; cases h
  | succ f ih =>
    intro fr lo z pc ls st w r h
    obtain ⟨M, e, hM, he, hc⟩ := ax_turn h
    rcases hc with ⟨v, -, rfl⟩ | ⟨i, t, -, -, -, rfl⟩ | ⟨-, hr⟩ | ⟨pc', ls', st', w', hs, hr⟩
    · exact ax_gr.refl _
    · exact ax_gr.refl _
    · unfold ax_road at hr
      split at hr
      · split at hr
        · rename_i st' w' hs
          have := ax_spc_sz hs
          have h2 := ih _ _ _ _ _ _ _ _ hr
          exact ⟨by rw [← this.1]; exact h2.1, by rw [← this.2]; exact h2.2⟩
        · cases hr
      · split at hr
        · cases hr
        · split at hr
          · cases hr
          · split at hr
            · cases hr
            · split at hr
              · cases hr
              · split at hr
                · cases hr
                · split at hr
                  · cases hr
                  · split at hr
                    · split at hr
                      · cases hr
                      · rename_i v w' h1
                        exact (ih _ _ _ _ _ _ _ _ h1).trans (ih _ _ _ _ _ _ _ _ hr)
                      · rename_i i w' h1
                        have h0 := ih _ _ _ _ _ _ _ _ h1
                        split at hr
                        · cases hr
                        · split at hr
                          · exact h0.trans (ih _ _ _ _ _ _ _ _ hr)
                          · split at hr
                            · cases hr; exact h0
                            · cases hr
                    · cases hr
    · exact (ax_step_grow hs).trans (ih _ _ _ _ _ _ _ _ hr)
end
section
/-! SOUNDNESS, over two laws on exceptions that are hypotheses here -/
/-- the law of an exception's constructor with a text -/
def ax_ExL (l : Launch) (s0 : State) (D : va_G) (B : Nat) (X : Nat → Value) (H0 : Heap) : Prop :=
  ∀ (p : Program) (e : Env) (R : Room) (s : State) (m : MethodId) (args : Array Value) (below : List Frame) (meth : Method) (c : Code) (H : Heap) (locs : List Loc) (cells slots : Nat) (Q : State → Prop) (pc : Nat) (A : Array Slot) (w : ax_W) (own : String) (idx t u i k : Nat) (r : List Value),
    p.tables.exec = Jvm.exec → c.maxLocals = A.size → s.vm.findClass own = some m.cls → s0.WarmedH s.vm → (∀ a, a < B → s.heap[a]? = H0[a]?) → (u = 9 ∨ u = 10) → (Cond.methodLink own idx (ax_xn u)).before args s = true → ax_Sim B X D H0 w H → w[i]? = some (t, ax_xf) → (t = 9 ∨ t = 10) → decode c.code pc = .ok (.invokespecial idx, 3) →
    7 ≤ R.frames → 200 ≤ R.locals → (r.map ax_wt).sum ≤ 8 → 2 ≤ k →
    (∀ (H' : Heap) (L : List Loc), ax_Sim B X D H0 (w.set i (t, [])) H' → (∀ q ∈ L, B ≤ q.base) → W p l e R s m args below meth c H' (locs ++ L) cells slots Q (F0 m (pc + 3) A (r.map (ax_v B X)))) →
    W p l e R s m args below meth c H locs cells slots Q (F0 m pc A ((Value.retAddr k :: .ref i :: r).map (ax_v B X)))
/-- the law of a handler that catches -/
def ax_CaL (l : Launch) (s0 : State) (D : va_G) (B : Nat) (X : Nat → Value) (H0 : Heap) : Prop :=
  ∀ (p : Program) (e : Env) (R : Room) (s : State) (m : MethodId) (args : Array Value) (below : List Frame) (meth : Method) (c : Code) (T : State) (locs : List Loc) (cells slots : Nat) (pc : Nat) (A : Array Slot) (st : List Value) (w : ax_W) (i t : Nat) (q : List Value) (tab : List (Nat × Nat × Nat × Nat)) (h : Nat),
    Stand p l e R s m args below meth c T locs cells slots → p.tables.exec = Jvm.exec → s.vm.findClass "MatrixDeskLaw" = some m.cls → s0.WarmedH s.vm → c.exceptionTable.toList.map (fun h => (h.startPc, h.endPc, h.handlerPc, h.catchType)) = ax_ht tab → (∀ q ∈ tab, q.2.2.2 = 9 ∨ q.2.2.2 = 10) →
    ax_Sim B X D H0 w T.heap → w[i]? = some (t, q) → (t = 9 ∨ t = 10) → ax_hdl tab pc t = some h →
    ∃ vm', Stand p l e R s m args below meth c (T.setVm vm') locs cells slots ∧ ∀ target, Steps p.tables e below ((T.setVm vm').setTop (F0 m h A [.ref (B + i)])) target → Steps p.tables e below ((T.setTop (F0 m pc A st)).pushFrame (.throwing (B + i))) target
theorem ax_hdl_tag {tab : List (Nat × Nat × Nat × Nat)} {pc t h : Nat} (hh : ax_hdl tab pc t = some h) : ∃ q ∈ tab, q.2.2.2 = t := by
  induction tab with
  | nil => cases hh
  | cons x r ih =>
    obtain ⟨a, b, c, d⟩ := x
    unfold ax_hdl at hh
    split at hh
    · rename_i hc
      simp only [Bool.and_eq_true, beq_iff_eq] at hc
      exact ⟨_, List.mem_cons_self, hc.2⟩
    · obtain ⟨q, h1, h2⟩ := ih hh
      exact ⟨q, List.mem_cons_of_mem _ h1, h2⟩
section AX12
variable {B : Nat} {X : Nat → Value}
theorem ax_sl_cons (v : Value) (r : List Value) : ax_sl (v :: r) = if ax_c1 v then some v :: ax_sl r else some v :: none :: ax_sl r := rfl
theorem ax_sl_len (hX : ax_Xr X) (as : List Value) : (lg_sl (as.map (ax_v B X))).length = (ax_sl as).length := by
  induction as with
  | nil => rfl
  | cons v r ih =>
    simp only [List.map_cons]
    unfold lg_sl at ih ⊢
    rw [List.flatMap_cons, List.length_append, ih, ax_sl_cons]
    by_cases hc : ax_c1 v = true
    · rw [if_pos hc, if_neg (by rw [ax_c1_cat hX B hc]; decide)]
      simp; omega
    · rw [if_neg hc, if_pos (ax_c1_not hX hc)]
      simp; omega
theorem ax_sl_args (hX : ax_Xr X) (as : List Value) : ∀ (q i : Nat) (v : Value), (ax_sl as)[i]? = some (some v) → (q + i, ax_v B X v) ∈ lv_args q (as.map (ax_v B X)) := by
  induction as with
  | nil => intro q i v h; simp [ax_sl] at h
  | cons x r ih =>
    intro q i v h
    simp only [List.map_cons, lv_args]
    unfold ax_sl at h
    by_cases hc : ax_c1 x = true
    · rw [if_pos hc] at h
      rw [if_neg (by rw [ax_c1_cat hX B hc]; decide)]
      cases i with
      | zero =>
        simp only [List.getElem?_cons_zero, Option.some.injEq] at h
        subst h
        exact List.mem_cons_self
      | succ k =>
        rw [List.getElem?_cons_succ] at h
        have := ih (q + 1) k v h
        rw [show q + 1 + k = q + (k + 1) from by omega] at this
        exact List.mem_cons_of_mem _ this
    · rw [if_neg hc] at h
      rw [if_pos (ax_c1_not hX hc)]
      cases i with
      | zero =>
        simp only [List.getElem?_cons_zero, Option.some.injEq] at h
        subst h
        exact List.mem_cons_self
      | succ k =>
        rw [List.getElem?_cons_succ] at h
        cases k with
        | zero => simp at h
        | succ j =>
          rw [List.getElem?_cons_succ] at h
          have := ih (q + 2) j v h
          rw [show q + 2 + j = q + (j + 1 + 1) from by omega] at this
          exact List.mem_cons_of_mem _ this
theorem ax_entL (hX : ax_Xr X) (as : List Value) {n : Nat} (h : (ax_sl as).length ≤ n) : ax_L B X ((lg_sl (as.map (ax_v B X)) ++ List.replicate (n - (lg_sl (as.map (ax_v B X))).length) Slot.unset).toArray) n (ax_ent as n) := by
  have h' : (lg_sl (as.map (ax_v B X))).length ≤ n := by rw [ax_sl_len hX]; exact h
  obtain ⟨h1, h2, h3⟩ := lv_entry (as.map (ax_v B X)) h'
  refine ⟨h1, h2, by unfold ax_ent; simp; omega, fun i v hv => ?_⟩
  unfold ax_ent at hv
  by_cases hi : i < (ax_sl as).length
  · rw [List.getElem?_append_left hi] at hv
    have := ax_sl_args (B := B) hX as 0 i v hv
    rw [Nat.zero_add] at this
    exact h3 _ this
  · rw [List.getElem?_append_right (by omega), List.getElem?_replicate] at hv
    split at hv <;> cases hv
end AX12
set_option maxRecDepth 100000 in
theorem ax_objw : Cond.instanceMethod Lib.objectInit ∈ lw_tbl ∧ Cond.code Lib.objectInit ⟨#[0xb1]⟩ 1 none ∈ lw_tbl := by decide +kernel
set_option maxRecDepth 100000 in
theorem ax_copw : Cond.native arraycopyName ∈ lw_tbl ∧ Cond.static arraycopyName ∈ lw_tbl ∧ Cond.initialized "java/lang/System" ∈ lw_tbl := by decide +kernel
set_option maxHeartbeats 4000000 in
theorem ax_sound {l : Launch} {s0 : State} {A0 : Array Value} {D : va_G} {B : Nat} {X : Nat → Value} {H0 : Heap} {xs : List Int32} (G : ax_G s0 A0 D B X H0 xs) (hEx : ax_ExL l s0 D B X H0) (hCa : ax_CaL l s0 D B X H0) :
    ∀ (f fr lo z pc : Nat) (ls : List (Option Value)) (st : List Value) (w : ax_W) (o : Outcome) (w' : ax_W), ax_run xs f fr lo z pc ls st w = some (o, w') →
    ∀ (p : Program) (e : Env) (R : Room) (s : State) (m : MethodId) (args : Array Value) (below : List Frame) (meth : Method) (c : Code) (H : Heap) (locs : List Loc) (cells slots : Nat) (A : Array Slot) (M : ax_M) (yy : MethodName × ByteArray × Option FieldType × Nat),
      ax_prog[z]? = some M → ax_who[z]? = some yy → ax_Fr s0 yy.1 yy.2.1 M.2.1 yy.2.2.1 (ax_ht M.2.2.2) p s m meth c → (∀ a, a < B → s.heap[a]? = H0[a]?) → ax_Sim B X D H0 w H → ax_L B X A M.2.1 ls → (∀ q ∈ locs, B ≤ q.base) → fr ≤ R.frames → lo ≤ R.locals → cells + w'.length ≤ R.cells + w.length → slots + ax_sz w' ≤ R.slots + ax_sz w →
      W p l e R s m args below meth c H locs cells slots (ax_Q B X D H0 s below o w w' cells slots) (F0 m pc A (st.map (ax_v B X))) := by
  have hX := G.2.2.2.1
  intro f
  induction f with
  | zero => intro fr lo z pc ls st w o w' h; cases h
  | succ f IH =>
    intro fr lo z pc ls st w o w' h p e R s m args below meth c H locs cells slots A M yy hM hy hF hHs hS hL hl hfr hlo hcl hsl
    obtain ⟨M', en, hM', hen, hc⟩ := ax_turn h
    cases hM.symm.trans hM'
    have hms := ax_mspec hM hy
    obtain ⟨hde, hck⟩ := ax_cchk_spec hms.1 hen
    rw [Nat.zero_add] at hde hck
    -- going on behind a step that left the world at w1
    have onward : ∀ {w1 : ax_W} {cells1 slots1 : Nat} {g : JFrame} {H1 : Heap} {L : List Loc}, cells1 + w.length = cells + w1.length → slots1 + ax_sz w = slots + ax_sz w1 →
        W p l e R s m args below meth c H1 L cells1 slots1 (ax_Q B X D H0 s below o w1 w' cells1 slots1) g → W p l e R s m args below meth c H1 L cells1 slots1 (ax_Q B X D H0 s below o w w' cells slots) g := by
      intro w1 cells1 slots1 g H1 L e1 e2 k
      refine ax_Wm (fun t ht => ?_) k
      obtain ⟨L', k', n', q1, q2, q3⟩ := ht
      exact ⟨L', k', n', by omega, by omega, q3⟩
    rcases hc with ⟨v, hv, hr⟩ | ⟨i, t, hat, hst, hemp, hr⟩ | ⟨hinv, hr⟩ | ⟨pc', ls', st', w1, hs, hr⟩
    · -- a return
      cases hr
      have hlen : en.2.1 = ax_len en.1 := ax_echk_len hck (fun d lo hi offs q => by rw [q] at hv; cases hv)
      exact ax_ret_ok hF hms.2.1 hS hl hde hlen hv
    · -- a throw
      cases hr
      subst hst
      obtain ⟨hexec, hb, hml, hrt, hlk, hown, hname, htab, hW⟩ := hF
      rw [List.isEmpty_iff.mp hemp] at htab
      have hnt : c.exceptionTable.toList = [] := by
        have : (c.exceptionTable.toList.map (fun h => (h.startPc, h.endPc, h.handlerPc, h.catchType))) = [] := htab
        exact List.map_eq_nil_iff.mp this
      have hlen : en.2.1 = ax_len en.1 := ax_echk_len hck (fun d lo hi offs q => by rw [q] at hat; cases hat)
      rw [hlen, hat] at hde
      intro T hT XX
      obtain ⟨s1, s2, s3, s4, s5⟩ := XX.athrowLeaves hexec (g := F0 m pc A ((Value.ref i :: t).map (ax_v B X))) rfl rfl rfl (fun x hx => by rw [hnt] at hx; cases hx) (a := B + i) (rest := t.map (ax_v B X)) rfl (by rw [hb]; exact hde) (hlocks := hlk)
      exact ⟨_, s1, locs, cells, slots, rfl, rfl, s2, s3, s4, s5, by show ax_Sim B X D H0 w T.heap; rw [hT]; exact hS, hl⟩
    · -- a call
      unfold ax_road at hr
      split at hr
      · rename_i h1000
        split at hr
        · rename_i st1 w1 hsp
          have hg := ax_grow _ _ _ _ _ _ _ _ _ hr
          have hz := ax_spc_sz hsp
          have hF' := hF
          obtain ⟨hexec, hb, hml, hrt, hlk, hown, hname, htab, hW⟩ := hF'
          have h3 : en.2.1 = 3 := by
            rcases hinv with ⟨idx, hi⟩ | ⟨idx, hi⟩ | ⟨idx, hi⟩ <;> (have := ax_echk_len hck (fun d lo hi' offs q => by rw [hi] at q; cases q); rw [hi] at this; exact this)
          have hA : c.maxLocals = A.size := by rw [hml, hL.1]
          rcases ax_spc_inv hsp with ⟨ha, i, rfl, rfl, g1, g2, g3⟩ | ⟨ha, k, i, t, rfl, rfl, g1, g2, g3, g4, g5, g6⟩ | ⟨ha, g1, g2, g3, hcp⟩
          · -- Object's constructor
            obtain ⟨ins, len, ea, eb, ej⟩ := en
            simp only at ha hde h3 hinv
            subst ha; subst h3
            rcases hinv with ⟨idx, rfl⟩ | ⟨idx, rfl⟩ | ⟨idx, rfl⟩
            · unfold ax_echk at hck
              simp only [Bool.and_eq_true, decide_eq_true_eq] at hck
              exact absurd hck.1.2 (by decide)
            · unfold ax_echk at hck
              simp only [Bool.and_eq_true, Bool.or_eq_true, decide_eq_true_eq] at hck
              rcases hck.2 with ⟨q, -⟩ | ⟨q, -⟩
              · exact absurd q (by decide)
              · exact absurd q (by decide)
            · unfold ax_echk at hck
              simp only [Bool.and_eq_true, Bool.or_eq_true, decide_eq_true_eq] at hck
              rcases hck.2 with (⟨-, q⟩ | ⟨q, -⟩) | ⟨q, -⟩
              · have hlk2 := ax_obj_w q
                refine ax_objinit_ok hX hexec hb hA hown (G.word hW hlk2 rfl) (G.word hW ax_objw.1 rfl) (G.word hW ax_objw.2 rfl) hde (by omega) (by omega) g3 ?_
                exact IH _ _ _ _ _ _ _ _ _ hr p e R s m args below meth c H locs cells slots A M yy hM hy hF hHs hS hL hl hfr hlo hcl hsl
              · exact absurd q (by decide)
              · exact absurd q (by decide)
          · -- an exception's constructor
            obtain ⟨ins, len, ea, eb, ej⟩ := en
            simp only at ha hde h3 hinv
            subst ha; subst h3
            rcases hinv with ⟨idx, rfl⟩ | ⟨idx, rfl⟩ | ⟨idx, rfl⟩
            · unfold ax_echk at hck
              simp only [Bool.and_eq_true, decide_eq_true_eq] at hck
              exact absurd hck.1.2 (by decide)
            · unfold ax_echk at hck
              simp only [Bool.and_eq_true, Bool.or_eq_true, decide_eq_true_eq] at hck
              rcases hck.2 with ⟨q, -⟩ | ⟨q, -⟩
              · exact absurd q (by decide)
              · exact absurd q (by decide)
            · unfold ax_echk at hck
              simp only [Bool.and_eq_true, Bool.or_eq_true, decide_eq_true_eq] at hck
              rcases hck.2 with (⟨q, -⟩ | ⟨-, q⟩) | ⟨q, -⟩
              · exact absurd q (by decide)
              · have hx : ∃ u, (u = 9 ∨ u = 10) ∧ Cond.methodLink yy.1.cls idx (ax_xn u) ∈ lw_tbl := by
                  rcases q with q | q
                  · exact ⟨9, Or.inl rfl, ax_exc_w q⟩
                  · exact ⟨10, Or.inr rfl, ax_exc_w q⟩
                obtain ⟨u, hu, hlk2⟩ := hx
                refine hEx p e R s m args below meth c H locs cells slots _ pc A w yy.1.cls idx t u i k st1 hexec hA hown hW hHs hu (G.word hW hlk2 rfl) hS g5 g6 (by rw [hb]; exact hde) (by omega) (by omega) g3 g4 ?_
                intro H' L hS' hL'
                refine onward (w1 := w.set i (t, [])) (by omega) (by omega) ?_
                exact IH _ _ _ _ _ _ _ _ _ hr p e R s m args below meth c H' (locs ++ L) cells slots A M yy hM hy hF hHs hS' hL (fun q hq => (List.mem_append.mp hq).elim (hl q) (hL' q)) hfr hlo (by omega) (by omega)
              · exact absurd q (by decide)
          · -- System.arraycopy
            obtain ⟨ins, len, ea, eb, ej⟩ := en
            simp only at ha hde h3 hinv
            subst ha; subst h3
            rcases hinv with ⟨idx, rfl⟩ | ⟨idx, rfl⟩ | ⟨idx, rfl⟩
            · unfold ax_echk at hck
              simp only [Bool.and_eq_true, decide_eq_true_eq] at hck
              exact absurd hck.1.2 (by decide)
            · unfold ax_echk at hck
              simp only [Bool.and_eq_true, Bool.or_eq_true, decide_eq_true_eq] at hck
              rcases hck.2 with ⟨-, q⟩ | ⟨q, -⟩
              · have hlk2 := ax_cpy_w q
                refine ax_copy_ok hX hexec hb hA hown (G.2.1.moved hW.alike) hS (G.word hW hlk2 rfl) (G.word hW ax_copw.1 rfl) (G.word hW ax_copw.2.1 rfl) (G.word hW ax_copw.2.2 rfl) hde (by omega) (by omega) g3 hcp ?_
                intro H' L hS' hL'
                refine onward (w1 := w1) (by omega) (by omega) ?_
                exact IH _ _ _ _ _ _ _ _ _ hr p e R s m args below meth c H' (locs ++ L) cells slots A M yy hM hy hF hHs hS' hL (fun q hq => (List.mem_append.mp hq).elim (hl q) (hL' q)) hfr hlo (by omega) (by omega)
              · exact absurd q (by decide)
            · unfold ax_echk at hck
              simp only [Bool.and_eq_true, Bool.or_eq_true, decide_eq_true_eq] at hck
              rcases hck.2 with (⟨q, -⟩ | ⟨q, -⟩) | ⟨q, -⟩
              · exact absurd q (by decide)
              · exact absurd q (by decide)
              · exact absurd q (by decide)
        · cases hr
      · rename_i h1000
        split at hr
        · cases hr
        · rename_i M2 hM2
          split at hr
          · cases hr
          · rename_i hfr0
            split at hr
            · cases hr
            · rename_i hlo2
              split at hr
              · cases hr
              · rename_i hst
                split at hr
                · cases hr
                · rename_i hwt
                  split at hr
                  · cases hr
                  · rename_i hent
                    split at hr
                    · rename_i hrcv
                      have hM2' : ax_prog[en.2.2.1]? = some M2 := hM2
                      intro T hT XX
                      have hST : ax_Sim B X D H0 w T.heap := by rw [hT]; exact hS
                      obtain ⟨yy2, hy2, h185, hini, h3, vm₁, mk, hWv, X1, hnm, hstep⟩ := ax_invoked (A := A) G hF XX hST hde hck hinv h1000 hM2' hst hrcv
                      have hms2 := ax_mspec hM2' hy2
                      have hcw := hms2.2.2.2.1.resolve_left h185
                      have hF' := hF
                      obtain ⟨hexec, hb, hml, hrt, hlk, hown, hname, htab, hW⟩ := hF'
                      have hW1 : s0.WarmedH (T.setVm vm₁).vm := State.WarmedH.trans hW hWv
                      have hbl := hms2.2.2.2.2.1
                      -- the callee's contract
                      have met : ∀ (o1 : Outcome) (w1 : ax_W), ax_run xs f (fr - 1) (lo - (M2.2.1 + 19)) en.2.2.1 0 (ax_ent (st.take (en.2.2.2.1 % 100)).reverse M2.2.1) [] w = some (o1, w1) →
                          MetFree l yy2.1 (headSpec [ax_cw yy2.1 yy2.2.1 M2.2.1 yy2.2.2.1 M2.2.2.2] { frames := fr - 1, cells := w1.length - w.length, slots := ax_sz w1 - ax_sz w, locals := lo - (M2.2.1 + 19) }) (fun a s' => a = ((st.take (en.2.2.2.1 % 100)).reverse.map (ax_v B X)).toArray ∧ ax_Sim B X D H0 w s'.heap ∧ s0.WarmedH s'.vm) (fun _ _ _ _ _ => True) (ax_Qc B X D H0 o1 w1 (w1.length - w.length) (ax_sz w1 - ax_sz w)) := by
                        intro o1 w1 h1
                        have hg1 := ax_grow _ _ _ _ _ _ _ _ _ h1
                        refine MetFree.of_bodySF (code := yy2.2.1) (maxLocals := M2.2.1) (ret := yy2.2.2.1) hms2.2.2.1 ?_ ?_
                        · intro a s' m' hpre hn
                          have hq := atoms_spec (ws := [ax_cw yy2.1 yy2.2.1 M2.2.1 yy2.2.2.1 M2.2.2.2]) hpre _ List.mem_cons_self
                          obtain ⟨mk', meth', cY, hn', q1, q2, q3, q4, -, q6, q7, -⟩ := ax_cw_cf hn hq
                          cases hn.symm.trans hn'
                          exact ⟨meth', cY, q1, q2, q3, q4, q6, q7⟩
                        · intro p' e' s' m' a' below' meth' c' s₁ Bd hml' hP _
                          obtain ⟨rfl, hSim', hW'⟩ := hP
                          have hq := atoms_spec (ws := [ax_cw yy2.1 yy2.2.1 M2.2.1 yy2.2.2.1 M2.2.2.2]) Bd.pre _ List.mem_cons_self
                          obtain ⟨mk', methY, cY, hn', q1, q2, q3, q4, q5, q6, q7, q8⟩ := ax_cw_cf Bd.named hq
                          cases Bd.named.symm.trans hn'
                          cases Bd.method.symm.trans q1
                          cases (Stand.of_body Bd).code.symm.trans q2
                          have hFr : ax_Fr s0 yy2.1 yy2.2.1 M2.2.1 yy2.2.2.1 (ax_ht M2.2.2.2) p' s' m' meth' c' := ⟨Bd.exec, Bd.bytes, hml', Bd.returns, Bd.notSynchronized, findClass_of_methodNamed Bd.named, (name_of_methodNamed Bd.named Bd.method).1, q5, hW'⟩
                          have hW0 := IH _ _ _ _ _ _ _ _ _ h1 p' e' { frames := fr - 1, cells := w1.length - w.length, slots := ax_sz w1 - ax_sz w, locals := lo - (M2.2.1 + 19) } s' m' ((st.take (en.2.2.2.1 % 100)).reverse.map (ax_v B X)).toArray below' meth' c' s'.heap [] 0 0 _ M2 yy2 hM2' hy2 hFr hSim'.2.2 hSim' (ax_entL hX (st.take (en.2.2.2.1 % 100)).reverse (by omega)) (fun q hq => absurd hq List.not_mem_nil) (Nat.le_refl _) (Nat.le_refl _)
                            (by have := hg1.1; simp only at this; show 0 + w1.length ≤ (w1.length - w.length) + w.length; omega) (by have := hg1.2; simp only at this; show 0 + ax_sz w1 ≤ (ax_sz w1 - ax_sz w) + ax_sz w; omega)
                          obtain ⟨t, a1, L, k, n, e1, e2, r1, r2, r3, r4, r5, r6⟩ := hW0 s₁ (by rw [Bd.state]; rfl) (Stand.of_body Bd)
                          refine ⟨t, ax_o B X o1, by rw [lg_entry_eq]; exact a1, r1, r2, rfl, r3, r5, L, ?_, r6⟩
                          have hk : k = w1.length - w.length := by omega
                          have hn2 : n = ax_sz w1 - ax_sz w := by omega
                          rw [← hk, ← hn2]
                          exact r4
                      have call : ∀ (o1 : Outcome) (w1 : ax_W), ax_run xs f (fr - 1) (lo - (M2.2.1 + 19)) en.2.2.1 0 (ax_ent (st.take (en.2.2.2.1 % 100)).reverse M2.2.1) [] w = some (o1, w1) → ax_gr w1 w' →
                          ∃ (T' : State) (L : List Loc), Stand p l e R s m args below meth c T' (locs ++ L) (cells + (w1.length - w.length)) (slots + (ax_sz w1 - ax_sz w)) ∧ (∀ q ∈ L, B ≤ q.base) ∧ ax_Sim B X D H0 w1 T'.heap ∧
                            (∀ v, o1 = .returned v → Steps p.tables e below (doInvoke e ((T.setVm vm₁).setTop (F0 m pc A ((st.drop (en.2.2.2.1 % 100)).map (ax_v B X)))) [] mk ((st.take (en.2.2.2.1 % 100)).reverse.map (ax_v B X)).toArray).1 (T'.setTop { F0 m pc A ((st.drop (en.2.2.2.1 % 100)).map (ax_v B X)) with pc := pc + en.2.1, stack := (v.map (ax_v B X)).toList ++ (st.drop (en.2.2.2.1 % 100)).map (ax_v B X) })) ∧
                            ∀ i, o1 = .threw i → Steps p.tables e below (doInvoke e ((T.setVm vm₁).setTop (F0 m pc A ((st.drop (en.2.2.2.1 % 100)).map (ax_v B X)))) [] mk ((st.take (en.2.2.2.1 % 100)).reverse.map (ax_v B X)).toArray).1 ((T'.setTop (F0 m pc A ((st.drop (en.2.2.2.1 % 100)).map (ax_v B X)))).pushFrame (.throwing (B + i))) := by
                        intro o1 w1 h1 hg2
                        have hg1 := ax_grow _ _ _ _ _ _ _ _ _ h1
                        have l1 := hg1.1
                        have l2 := hg1.2
                        have l3 := hg2.1
                        have l4 := hg2.2
                        simp only at l1 l2
                        refine ax_called X1 (met o1 w1 h1) (g := F0 m pc A ((st.drop (en.2.2.2.1 % 100)).map (ax_v B X))) rfl (by show A.size = c.maxLocals; rw [hml, hL.1]) (by rw [hb]; exact hde) hnm (ax_cw_cf hnm (G.word (args := #[]) hW1 hcw (ax_cw_keep _ _ _ _ _))) (G.word hW1 hini rfl) (fun v hv => by
                          simp only [List.mem_singleton] at hv
                          subst hv
                          exact G.word hW1 hcw (ax_cw_keep _ _ _ _ _)) (by show fr - 1 + 1 ≤ R.frames; omega) ?_ (by show cells + (w1.length - w.length) ≤ R.cells; omega) (by show slots + (ax_sz w1 - ax_sz w) ≤ R.slots; omega) ⟨rfl, ?_, ?_⟩
                        · show 2 * 0 + _ + (M2.2.1 + 11) + (lo - (M2.2.1 + 19)) ≤ R.locals
                          rw [ax_wt_sum hX]
                          omega
                        · have hh : ((T.setVm vm₁).calling (F0 m pc A ((st.drop (en.2.2.2.1 % 100)).map (ax_v B X))) mk ((st.take (en.2.2.2.1 % 100)).reverse.map (ax_v B X)).toArray).heap = T.heap := by simp [State.calling, State.pushFrame, State.setFrames, State.setTop, State.modifyTopJava, State.setVm]
                          rw [hh]; exact hST
                        · exact hW1
                      split at hr
                      · cases hr
                      · -- it returned
                        rename_i v w1 h1
                        have hg2 := ax_grow _ _ _ _ _ _ _ _ _ hr
                        have hg1 := ax_grow _ _ _ _ _ _ _ _ _ h1
                        have l1 := hg1.1
                        have l2 := hg1.2
                        simp only at l1 l2
                        obtain ⟨T', L, X', hLb, hS', hret, -⟩ := call _ _ h1 hg2
                        have hcont := IH _ _ _ _ _ _ _ _ _ hr p e R s m args below meth c T'.heap (locs ++ L) (cells + (w1.length - w.length)) (slots + (ax_sz w1 - ax_sz w)) A M yy hM hy hF hHs hS' hL (fun q hq => (List.mem_append.mp hq).elim (hl q) (hLb q)) hfr hlo (by omega) (by omega)
                        obtain ⟨t, a1, b1⟩ := onward (w1 := w1) (by omega) (by omega) hcont T' rfl X'
                        refine ⟨t, hstep _ fun acts => ?_, b1⟩
                        rw [doInvoke_state]
                        refine (hret v rfl).trans ?_
                        have hfe : ({ F0 m pc A ((st.drop (en.2.2.2.1 % 100)).map (ax_v B X)) with pc := pc + en.2.1, stack := (v.map (ax_v B X)).toList ++ (st.drop (en.2.2.2.1 % 100)).map (ax_v B X) } : JFrame) = F0 m (pc + 3) A ((v.toList ++ st.drop (en.2.2.2.1 % 100)).map (ax_v B X)) := by
                          rw [h3]
                          cases v <;> simp
                        rw [hfe]
                        exact a1
                      · -- it threw
                        rename_i i w1 h1
                        have hg1 := ax_grow _ _ _ _ _ _ _ _ _ h1
                        have l1 := hg1.1
                        have l2 := hg1.2
                        simp only at l1 l2
                        split at hr
                        · cases hr
                        · rename_i t q hwi
                          split at hr
                          · rename_i hpc hh
                            have hg2 := ax_grow _ _ _ _ _ _ _ _ _ hr
                            obtain ⟨T', L, X', hLb, hS', -, hthr⟩ := call _ _ h1 hg2
                            obtain ⟨q9, hq9, ht9⟩ := ax_hdl_tag hh
                            have htag : t = 9 ∨ t = 10 := by rw [← ht9]; exact hms.2.2.2.2.2 q9 hq9
                            have hcls : yy.1.cls = "MatrixDeskLaw" := hms.2.2.2.2.1.resolve_left (fun z => by
                              rw [List.isEmpty_iff.mp z] at hq9
                              cases hq9)
                            obtain ⟨vm2, X2, hca⟩ := hCa p e R s m args below meth c T' (locs ++ L) _ _ pc A ((st.drop (en.2.2.2.1 % 100)).map (ax_v B X)) w1 i t q M.2.2.2 hpc X' hexec (by rw [← hcls]; exact hown) hW htab hms.2.2.2.2.2 hS' hwi htag hh
                            have hcont := IH _ _ _ _ _ _ _ _ _ hr p e R s m args below meth c T'.heap (locs ++ L) (cells + (w1.length - w.length)) (slots + (ax_sz w1 - ax_sz w)) A M yy hM hy hF hHs hS' hL (fun q hq => (List.mem_append.mp hq).elim (hl q) (hLb q)) hfr hlo (by omega) (by omega)
                            obtain ⟨tt, a1, b1⟩ := onward (w1 := w1) (by omega) (by omega) hcont (T'.setVm vm2) rfl X2
                            refine ⟨tt, hstep _ fun acts => ?_, b1⟩
                            rw [doInvoke_state]
                            exact (hthr i rfl).trans (hca _ a1)
                          · split at hr
                            · rename_i hemp
                              cases hr
                              obtain ⟨T', L, X', hLb, hS', -, hthr⟩ := call _ _ h1 (ax_gr.refl _)
                              rw [List.isEmpty_iff.mp hemp] at htab
                              have hnt : c.exceptionTable.toList = [] := by
                                have : (c.exceptionTable.toList.map (fun h => (h.startPc, h.endPc, h.handlerPc, h.catchType))) = [] := htab
                                exact List.map_eq_nil_iff.mp this
                              obtain ⟨z1, z2, z3, z4, z5⟩ := X'.leaveThrown (B + i) (g := F0 m pc A ((st.drop (en.2.2.2.1 % 100)).map (ax_v B X))) rfl rfl rfl (fun x hx => by rw [hnt] at hx; cases hx) (hlocks := hlk)
                              refine ⟨_, hstep _ fun acts => ?_, locs ++ L, cells + (w'.length - w.length), slots + (ax_sz w' - ax_sz w), by omega, by omega, z2, z3, z4, z5, hS', fun q hq => (List.mem_append.mp hq).elim (hl q) (hLb q)⟩
                              rw [doInvoke_state]
                              exact (hthr i rfl).trans z1
                            · cases hr
                    · cases hr
    · -- a step
      have hg := ax_grow _ _ _ _ _ _ _ _ _ hr
      refine ax_step_ok G hF hL hS hde hck hs ?_ ?_ ?_
      · intro q
        have := hg.1
        simp only at this
        omega
      · intro k q
        have := hg.2
        simp only at this
        omega
      · intro H' A' L cells1 slots1 hS' hL' hl' e1 e2
        refine onward e1 e2 ?_
        exact IH _ _ _ _ _ _ _ _ _ hr p e R s m args below meth c H' (locs ++ L) cells1 slots1 A' M yy hM hy hF hHs hS' hL' (fun q hq => (List.mem_append.mp hq).elim (hl q) (hl' q)) hfr hlo (by omega) (by omega)
end
section
/-! the law of a handler that catches: its class may be resolved in the search itself -/
theorem ax_go_cold {E : CtlPost} {e : Env} {d : Bool} {acts : List Action} {s : State} {f : JFrame} {a : Addr} {Q : Handler → Pre} {x : ExceptionTableEntry} {t : List ExceptionTableEntry} {c : ClassId} {cell : Cell} {vm' : Vm} (hx : covers x f.pc = true) (h0 : x.catchType ≠ 0)
    (hg : (Jvm.resolveClass f.method.cls x.catchType).Gives e.toSetting s.vm (.ok c) vm') (hsz : vm'.classes.size ≤ s.vm.classes.size) (hcell : s.heap[a]? = some cell) (hobj : ∀ k, cell.vm ≠ .statics k)
    (hk : ∃ k, vm'.classes[cell.cls]? = some k) (hc : ∃ k, vm'.classes[c]? = some k) :
    wp (findHandler.go f a (x :: t)) Q E e d acts s ↔ if vm'.assignable cell.cls c = true then Q (.found x.handlerPc) d acts (s.setVm vm') else wp (findHandler.go f a t) Q E e d acts (s.setVm vm') := by
  simp only [covers] at hx
  have hop := hg.op (op := VmOp.resolveClass f.method.cls x.catchType) rfl
  have hla := VmOp.lands_eq (op := VmOp.resolveClass f.method.cls x.catchType) (e := e) (s := s) hop.2 hsz
  cases hfit : vm'.assignable cell.cls c <;>
    simp [findHandler.go, hx, h0, hop, hla, hcell, hobj, hk, hc, hfit, VmOp.dirties, VmOp.acts]
/-- the search ends in a handler, with warmer tables -/
theorem ax_stepCatch {e : Env} {s : State} {a : Addr} {f : JFrame} {r : List Frame} {pc : Nat} {vm' : Vm} (hfind : ∀ (Q : Handler → Pre) (E : CtlPost) (d : Bool) (acts : List Action), wp (findHandler f a) Q E e d acts s ↔ Q (.found pc) d acts (s.setVm vm')) :
    (stepThrowing e s a (.java f :: r)).Is ((s.setVm vm').setFrames (.java { f with pc := pc, stack := [.ref a] } :: r)) [] := by
  simp only [stepThrowing, searchFrame, vmDo]
  generalize hr : Sem.go _ e false [] s = res
  obtain ⟨as, rfl, ha⟩ := Sem.eq_ok_of hr (a := Handler.found pc) (s' := s.setVm vm') (acts' := []) (by simp [hfind _ _ _ _])
  exact ⟨rfl, ha⟩
theorem ax_caught {tb : Tables} [Ours tb] {e : Env} {s target : State} {g : JFrame} {c : Code} {below : List Frame} {a : Addr} (h : At s g.method c below) {pc : Nat} {vm' : Vm} (hfind : ∀ (Q : Handler → Pre) (E : CtlPost) (d : Bool) (acts : List Action), wp (findHandler g a) Q E e d acts ((s.setTop g).pushFrame (.throwing a)) ↔ Q (.found pc) d acts (((s.setTop g).pushFrame (.throwing a)).setVm vm'))
    (hrest : Steps tb e below ((s.setVm vm').setTop { g with pc := pc, stack := [.ref a] }) target) :
    Steps tb e below ((s.setTop g).pushFrame (.throwing a)) target := by
  obtain ⟨hgo, hw⟩ := h.throwing a
  refine Steps.head hgo hw ?_
  rw [stepThread_throwing (frames_entered h.top _), (ax_stepCatch (s := (s.setTop g).pushFrame (.throwing a)) hfind).1]
  obtain ⟨g₀, hg⟩ := Option.isSome_iff_exists.mp h.top
  obtain ⟨r, hr⟩ := State.topJava?_eq_some.mp hg
  have hr' : (s.setVm vm').frames = .java g₀ :: r := hr
  rw [State.setTop_of_frames _ hr'] at hrest
  have e1 : (((s.setTop g).pushFrame (.throwing a)).setVm vm').setFrames (.java { g with pc := pc, stack := [.ref a] } :: s.frames.tail) = (s.setVm vm').setFrames (.java { g with pc := pc, stack := [.ref a] } :: s.frames.tail) := by
    have e2 : ((s.setTop g).pushFrame (.throwing a)).setVm vm' = (s.setVm vm').setFrames (.throwing a :: .java g :: r) := by
      rw [State.pushFrame, State.frames_setTop _ hr, State.setTop_of_frames _ hr, State.setFrames_setFrames]
      rfl
    rw [e2, State.setFrames_setFrames]
  rw [e1, hr]
  exact hrest
set_option maxRecDepth 100000 in
theorem ax_lnk : Cond.classLink "MatrixDeskLaw" 13 R_Io ∈ lw_tbl ∧ Cond.classLink "MatrixDeskLaw" 15 R_Ia ∈ lw_tbl := by decide +kernel
/-- neither of the two exceptions is one of the other -/
def ax_NC (D : va_G) (s0 : State) : Prop := s0.vm.assignable (D.1 9) (D.1 10) = false ∧ s0.vm.assignable (D.1 10) (D.1 9) = false
theorem ax_search {s0 : State} {A0 : Array Value} {D : va_G} {B : Nat} {X : Nat → Value} {H0 : Heap} {xs : List Int32} (G : ax_G s0 A0 D B X H0 xs) (hnc : ax_NC D s0) {e : Env} {s : State} {m : MethodId} (hadm : e.platform.magicAccessors = ({} : Platform).magicAccessors) (hown : s.vm.findClass "MatrixDeskLaw" = some m.cls) (hW : s0.WarmedH s.vm)
    {f : JFrame} (hf : f.method = m) {a : Addr} {cell : Cell} {t : Nat} (ht : t = 9 ∨ t = 10) (hcls : cell.cls = D.1 t) (hvm : cell.vm = .none) {h : Nat} :
    ∀ (tab : List (Nat × Nat × Nat × Nat)) (ents : List ExceptionTableEntry), ents.map (fun h => (h.startPc, h.endPc, h.handlerPc, h.catchType)) = ax_ht tab → (∀ q ∈ tab, q.2.2.2 = 9 ∨ q.2.2.2 = 10) → ax_hdl tab f.pc t = some h → ∀ U : State, s.WarmedH U.vm → U.heap[a]? = some cell →
      ∃ vm', s.WarmedH vm' ∧ ∀ (Q : Handler → Pre) (E : CtlPost) (d : Bool) (acts : List Action), wp (findHandler.go f a ents) Q E e d acts U ↔ Q (.found h) d acts (U.setVm vm') := by
  intro tab
  induction tab with
  | nil => intro ents _ _ hh; cases hh
  | cons q r ih =>
    intro ents hmap htab hh U hU hcell
    obtain ⟨sp, ep, hp, ct⟩ := q
    cases ents with
    | nil => cases hmap
    | cons x xs' =>
      simp only [ax_ht, List.map_cons, List.cons.injEq, Prod.mk.injEq] at hmap
      obtain ⟨⟨m1, m2, m3, m4⟩, mr⟩ := hmap
      have htr : ∀ q ∈ r, q.2.2.2 = 9 ∨ q.2.2.2 = 10 := fun q hq => htab q (List.mem_cons_of_mem _ hq)
      have hct : ct = 9 ∨ ct = 10 := htab _ List.mem_cons_self
      have hvs : ∀ k, cell.vm ≠ .statics k := fun k hk => by rw [hvm] at hk; cases hk
      by_cases hcov : covers x f.pc = true
      · -- the entry covers: its class is looked up
        have hlink : ∃ C, (Cond.classLink "MatrixDeskLaw" x.catchType C).before A0 s = true ∧ s.vm.findClass C = some (D.1 ct) := by
          have hK := G.2.1.moved hW.alike
          rcases hct with rfl | rfl
          · rw [m4]
            exact ⟨R_Io, G.word hW ax_lnk.1 rfl, (hK.1 9 _ rfl).2.1⟩
          · rw [m4]
            exact ⟨R_Ia, G.word hW ax_lnk.2 rfl, (hK.1 10 _ rfl).2.1⟩
        obtain ⟨C, hl, hfc⟩ := hlink
        obtain ⟨cc, hfcc, hcl⟩ := Cond.classLink_spec hown hl e.platform hadm
        cases hfc.symm.trans hfcc
        obtain ⟨hg₁, hwarm₁, hready₁⟩ := State.classEntry (e := e) hU hcl
        rw [← hf] at hg₁ hwarm₁ hready₁
        have h0 : x.catchType ≠ 0 := by
          rw [m4]
          rcases hct with q | q <;> rw [q] <;> simp
        have hK := G.2.1.moved hW.alike
        have hclsAt : ∀ u, u = 9 ∨ u = 10 → ∃ k, (U.vm.noted f.method.cls x.catchType (.cls (D.1 ct))).classes[D.1 u]? = some k := by
          intro u hu
          have : ∃ C, ClassAt s C (D.1 u) := by
            rcases hu with rfl | rfl
            · exact ⟨_, (hK.1 9 _ rfl).2⟩
            · exact ⟨_, (hK.1 10 _ rfl).2⟩
          obtain ⟨C, -, k, hk, -⟩ := this
          obtain ⟨k', hk', -⟩ := hwarm₁.alike.2.2 _ _ hk
          exact ⟨k', hk'⟩
        have hsz : (U.vm.noted f.method.cls x.catchType (.cls (D.1 ct))).classes.size ≤ U.vm.classes.size := by
          simp [Vm.noted]
        have hasg : (U.vm.noted f.method.cls x.catchType (.cls (D.1 ct))).assignable cell.cls (D.1 ct) = decide (ct = t) := by
          rw [hwarm₁.alike.assignable, hW.alike.assignable, hcls]
          rcases ht with rfl | rfl <;> rcases hct with rfl | rfl
          · rw [va_assign (G.2.1.1 9 _ rfl).2]; rfl
          · rw [hnc.1]; rfl
          · rw [hnc.2]; rfl
          · rw [va_assign (G.2.1.1 10 _ rfl).2]; rfl
        have hcd : decide (sp ≤ f.pc) = true ∧ decide (f.pc < ep) = true := by
          simp only [covers, Bool.and_eq_true] at hcov
          rw [m1, m2] at hcov
          exact hcov
        by_cases hctt : ct = t
        · subst hctt
          unfold ax_hdl at hh
          simp only [hcd.1, hcd.2, BEq.rfl, Bool.and_self, if_true, Option.some.injEq] at hh
          subst hh
          refine ⟨_, hwarm₁, fun Q E d acts => ?_⟩
          rw [ax_go_cold hcov h0 hg₁ hsz hcell hvs (by rw [hcls]; exact hclsAt ct ht) (hclsAt ct hct), hasg, if_pos (decide_eq_true rfl), m3]
        · unfold ax_hdl at hh
          have hne : (ct == t) = false := by simp [hctt]
          simp only [hne, Bool.and_false, Bool.false_eq_true, if_false] at hh
          obtain ⟨vm', hw', hq'⟩ := ih xs' mr htr hh (U.setVm (U.vm.noted f.method.cls x.catchType (.cls (D.1 ct)))) hwarm₁ hcell
          refine ⟨vm', hw', fun Q E d acts => ?_⟩
          rw [ax_go_cold hcov h0 hg₁ hsz hcell hvs (by rw [hcls]; exact hclsAt t ht) (hclsAt ct hct), hasg, decide_eq_false hctt, if_neg (by decide), hq']
          rfl
      · have hcovf : covers x f.pc = false := by
          cases hz : covers x f.pc
          · rfl
          · exact absurd hz hcov
        unfold ax_hdl at hh
        have hne : (decide (sp ≤ f.pc) && decide (f.pc < ep)) = false := by
          rw [← m1, ← m2]; exact hcovf
        simp only [hne, Bool.false_and, Bool.false_eq_true, if_false] at hh
        obtain ⟨vm', hw', hq'⟩ := ih xs' mr htr hh U hU hcell
        refine ⟨vm', hw', fun Q E d acts => ?_⟩
        rw [W.findHandler_go_skip hcovf, hq']
theorem ax_catchLaw {l : Launch} {s0 : State} {A0 : Array Value} {D : va_G} {B : Nat} {X : Nat → Value} {H0 : Heap} {xs : List Int32} (G : ax_G s0 A0 D B X H0 xs) (hnc : ax_NC D s0) : ax_CaL l s0 D B X H0 := by
  intro p e R s m args below meth c T locs cells slots pc A st w i t q tab h XX hexec hown hW htab hall hS hwi ht hh
  obtain ⟨cell, c1, c2⟩ := hS.2.1 i _ hwi
  have hpl : e.platform.magicAccessors = ({} : Platform).magicAccessors := by rw [XX.admits.platform]
  obtain ⟨vm', hw', hq'⟩ := ax_search G hnc hpl hown hW (f := F0 m pc A st) rfl (a := B + i) (cell := cell) ht c2.1 c2.2.1 tab c.exceptionTable.toList htab hall hh ((T.setTop (F0 m pc A st)).pushFrame (.throwing (B + i))) (by rw [Stand.throwing_vm]; exact XX.warmed) (by rw [Stand.throwing_heap]; exact c1)
  refine ⟨vm', XX.noted hw', fun target hrest => ?_⟩
  refine ax_caught (g := F0 m pc A st) XX.here (pc := h) (vm' := vm') (fun Q E d acts => ?_) hrest
  rw [W.findHandler_eq (meth := meth) (code := c) (by rw [Stand.throwing_vm]; exact XX.method') XX.code]
  exact hq' Q E d acts
end
section
/-! the law of an exception's constructor with a text, out of the library's -/
def ax_kx (w : Jvm.Cond) : Bool := match w with
  | .declares _ => true
  | .laysStatic .. => true
  | w => ax_keep w
theorem ax_laysStatic {s0 s : State} {A0 args : Array Value} {C n d : String} (hW : s0.WarmedH s.vm) (hH : ∀ a, a < s0.heap.size → s.heap[a]? = s0.heap[a]?) (h : (Cond.laysStatic C n d).before A0 s0 = true) : (Cond.laysStatic C n d).before args s = true := by
  obtain ⟨c, k, i, f, a, cell, hc, hi, hst, ha, hcell, hs, hcls, hlt, hty⟩ := Cond.laysStatic_spec h
  obtain ⟨k', hi', he⟩ := State.fieldFound?_setVm (s := s0) hW.alike hi
  have hi2 : s.fieldFound? C n d = some (c, k', i, f) := by simpa only [State.fieldFound?, State.vm_setVm] using hi'
  have hcell2 : s.heap[a]? = some cell := by rw [hH a (Array.getElem?_eq_some_iff.mp hcell).1]; exact hcell
  have hc2 : s.vm.findClass C = some c := by rw [hW.alike.findClass]; exact hc
  have ha2 : k'.statics = some a := by rw [he]; exact ha
  have hty2 : k'.staticTypes[f.slot]? = some f.type := by rw [he]; exact hty
  simp [Cond.before, Cond.holds, Cond.value, hc2, hi2, hst, ha2, hcell2, hs, hcls, hlt, hty2]
theorem ax_isRefS {s0 s : State} {A0 args : Array Value} {C n d : String} (hW : s0.WarmedH s.vm) (hH : ∀ a, a < s0.heap.size → s.heap[a]? = s0.heap[a]?) (h : (Cond.laysStatic C n d).before A0 s0 = true) (hr : (Cond.isRef (.static C n d)).before A0 s0 = true) : (Cond.isRef (.static C n d)).before args s = true := by
  obtain ⟨c, k, i, f, a, cell, hc, hi, hst, ha, hcell, hs, hcls, hlt, hty⟩ := Cond.laysStatic_spec h
  obtain ⟨k', hi', he⟩ := State.fieldFound?_setVm (s := s0) hW.alike hi
  have hi2 : s.fieldFound? C n d = some (c, k', i, f) := by simpa only [State.fieldFound?, State.vm_setVm] using hi'
  have hcell2 : s.heap[a]? = some cell := by rw [hH a (Array.getElem?_eq_some_iff.mp hcell).1]; exact hcell
  have ha2 : k'.statics = some a := by rw [he]; exact ha
  have e0 : (Term.static C n d).eval A0 s0 none [] s0 = cell.slots[f.slot]? := by simp [Term.eval, State.fieldNamed?, hi, hst, ha, hcell, hs]
  have e1 : (Term.static C n d).eval args s none [] s = cell.slots[f.slot]? := by simp [Term.eval, State.fieldNamed?, hi2, hst, ha2, hcell2, hs]
  simp only [Cond.before, Cond.holds, Cond.value] at hr ⊢
  rw [e1]
  rw [e0] at hr
  exact hr
/-- the address of a class's statics is old -/
theorem ax_staticsOld {s0 s : State} {A0 : Array Value} {C n d : String} (hW : s0.WarmedH s.vm) (h : (Cond.laysStatic C n d).before A0 s0 = true) {c : ClassId} {k : Class} {a : Nat} (hc : s.vm.findClass C = some c) (hk : s.vm.classes[c]? = some k) (ha : k.statics = some a) : a < s0.heap.size := by
  obtain ⟨c0, k0, i, f, a0, cell, hc0, hi, hst, ha0, hcell, hs, hcls, hlt, hty⟩ := Cond.laysStatic_spec h
  have hk0 := (State.fieldFound?_spec hi).1
  have e1 : c = c0 := Option.some.inj (hc.symm.trans (by rw [hW.alike.findClass]; exact hc0))
  subst e1
  obtain ⟨k', hk', he⟩ := hW.alike.2.2 _ _ hk0
  cases hk.symm.trans hk'
  have e2 : a = a0 := by
    have : k.statics = some a0 := by rw [he]; exact ha0
    exact Option.some.inj (ha.symm.trans this)
  subst e2
  exact (Array.getElem?_eq_some_iff.mp hcell).1
def ax_names : List String := ["java/lang/RuntimeException", "java/lang/Exception"]
set_option maxRecDepth 100000 in
theorem ax_xw1 : Bundle.throwableAtoms.all (fun w => decide (w ∈ lw_tbl) && ax_kx w) = true := by decide +kernel
set_option maxRecDepth 100000 in
theorem ax_xw2 : Bundle.throwableSAtoms.all (fun w => decide (w ∈ lw_tbl) && ax_kx w) = true := by decide +kernel
set_option maxRecDepth 100000 in
theorem ax_xw3 : (Bundle.chainSAtoms R_Io ax_names).all (fun w => decide (w ∈ lw_tbl) && ax_kx w) = true := by decide +kernel
set_option maxRecDepth 100000 in
theorem ax_xw4 : (Bundle.chainSAtoms R_Ia ax_names).all (fun w => decide (w ∈ lw_tbl) && ax_kx w) = true := by decide +kernel
def ax_xws (C : String) : List Jvm.Cond := [.instantiable C 6, .selects C Bundle.tFill0 Bundle.tFill0, .selects C Bundle.tFill Bundle.tFill, .lays C Bundle.tN "cause" "Ljava/lang/Throwable;", .lays C Bundle.tN "stackTrace" Bundle.steD, .lays C Bundle.tN "suppressedExceptions" Bundle.listD, .lays C Bundle.tN "detailMessage" "Ljava/lang/String;", .lays C Bundle.tN "backtrace" "Ljava/lang/Object;",
  .fieldLink Bundle.tN 198 Bundle.tN "backtrace" "Ljava/lang/Object;", .lays Bundle.tN Bundle.tN "backtrace" "Ljava/lang/Object;"]
set_option maxRecDepth 100000 in
theorem ax_xw5 : (ax_xws R_Io).all (fun w => decide (w ∈ lw_tbl) && ax_kx w) = true := by decide +kernel
set_option maxRecDepth 100000 in
theorem ax_xw6 : (ax_xws R_Ia).all (fun w => decide (w ∈ lw_tbl) && ax_kx w) = true := by decide +kernel
theorem ax_xfit : Bundle.fit R_Io = true ∧ Bundle.fit R_Ia = true ∧ ∀ n ∈ ax_names, Bundle.fit n = true := by decide +kernel
theorem ax_wordX {s0 : State} {A0 : Array Value} {D : va_G} {B : Nat} {X : Nat → Value} {H0 : Heap} {xs : List Int32} (G : ax_G s0 A0 D B X H0 xs) {s : State} (hW : s0.WarmedH s.vm) (hH : ∀ a, a < s0.heap.size → s.heap[a]? = s0.heap[a]?) {args : Array Value} {w : Jvm.Cond} (h : (decide (w ∈ lw_tbl) && ax_kx w) = true) : w.before args s = true := by
  simp only [Bool.and_eq_true, decide_eq_true_eq] at h
  obtain ⟨hm, hk⟩ := h
  have h0 := G.1 w hm
  unfold ax_kx at hk
  split at hk
  · refine va_tabs rfl (rfl : (s0.setVm s.vm).vm = s.vm) (A := A0) ?_
    rw [Cond.declares_setVm hW.alike]
    exact h0
  · exact ax_laysStatic hW hH h0
  · exact G.word hW hm hk
theorem ax_xcls {t : Nat} (ht : t = 9 ∨ t = 10) : ∃ C T, cls_all[t]? = some (C, T, 6) ∧ (ax_xws C).all (fun w => decide (w ∈ lw_tbl) && ax_kx w) = true ∧ (Bundle.chainSAtoms C ax_names).all (fun w => decide (w ∈ lw_tbl) && ax_kx w) = true ∧ Bundle.fit C = true ∧ ax_xn t = Bundle.initS C ∧ T 4 = ("java/lang/Throwable", "backtrace", "Ljava/lang/Object;", false) := by
  rcases ht with rfl | rfl
  · exact ⟨R_Io, F_Io, rfl, ax_xw5, ax_xw3, ax_xfit.1, rfl, rfl⟩
  · exact ⟨R_Ia, F_Ia, rfl, ax_xw6, ax_xw4, ax_xfit.2.1, rfl, rfl⟩
set_option maxHeartbeats 4000000 in
theorem ax_excLaw {l : Launch} {s0 : State} {A0 : Array Value} {D : va_G} {B : Nat} {X : Nat → Value} {H0 : Heap} {xs : List Int32} (G : ax_G s0 A0 D B X H0 xs) (hH0 : H0 = s0.heap) (hnt : ∀ e, l.admits e → e.platform.stackTraces = false)
    (hr1 : (Cond.isRef (.static Bundle.tN "UNASSIGNED_STACK" Bundle.steD)).before A0 s0 = true) (hr2 : (Cond.isRef (.static Bundle.tN "SUPPRESSED_SENTINEL" Bundle.listD)).before A0 s0 = true) : ax_ExL l s0 D B X H0 := by
  intro p e R s m args below meth c H locs cells slots Q pc A w own idx t u i k r hexec hA hown hW hHs hu hlink hS hwi ht hde hfr hlo hwt hk kk
  intro T hT XX
  have hX := G.2.2.2.1
  have hB : H0.size = B := G.2.2.2.2.2.1
  have hHs' : ∀ a, a < s0.heap.size → s.heap[a]? = s0.heap[a]? := fun a ha => by rw [← hH0] at ha ⊢; exact hHs a (by omega)
  have wd : ∀ {w : Jvm.Cond}, (decide (w ∈ lw_tbl) && ax_kx w) = true → w.before args s = true := fun h => ax_wordX G hW hHs' h
  obtain ⟨cell, c1, c2⟩ := hS.2.1 i _ hwi
  obtain ⟨C, Tc, hCt, hxw, -, -, -, hT4⟩ := ax_xcls ht
  obtain ⟨Cu, Tu, hCu, hxu, hchain, hfitu, hxn, -⟩ := ax_xcls hu
  have ow : ∀ v ∈ ax_xws C, v.before args s = true := fun v hv => wd (List.all_eq_true.mp hxw v hv)
  have howns : e.platform.frameOwnsMonitors = true := by rw [XX.admits.platform]
  have hfin : e.platform.finalization = false := by rw [XX.admits.platform]
  have hpl : e.platform.magicAccessors = ({} : Platform).magicAccessors := by rw [XX.admits.platform]
  obtain ⟨Tt, Z0, L, -, Y⟩ := ThrowableC.of_atoms (args := args) howns hfin hpl (fun x hx => wd (List.all_eq_true.mp ax_xw1 x hx))
  obtain ⟨Z, Mm, LZ, LM, hnZ⟩ := Init0T.ofS_atoms (args := args) hpl L Y (fun x hx => wd (List.all_eq_true.mp ax_xw2 x hx))
  obtain ⟨P1, Ps, hlen, L1, hL, hP1m, hlink1, hlink2⟩ := Bundle.chainS (args := args) hpl hnZ ax_names Cu hfitu ax_xfit.2.2 (fun x hx => wd (List.all_eq_true.mp hchain x hx))
  have hK := G.2.1.moved hW.alike
  obtain ⟨hSl, hfc, kX, hkX, hord⟩ := hK.1 t _ hCt
  have hfound : s.vm.findClass C = some (D.1 t) := hfc
  obtain ⟨cX1, kX1, hc1, hk1, -, -, -, hn6⟩ := Cond.instantiable_spec (ow (.instantiable C 6) (by simp [ax_xws]))
  cases Option.some.inj (hc1.symm.trans hfound)
  cases Option.some.inj (hk1.symm.trans hkX)
  have hsel0 : selectMethod e.platform s.vm cell.cls Tt.fill0 = .method Tt.fill0 := by
    obtain ⟨c2', r2, m2, q1, q2, q3, q4, -⟩ := Cond.selects_spec (ow (.selects C Bundle.tFill0 Bundle.tFill0) (by simp [ax_xws]))
    cases Option.some.inj (q1.symm.trans hfound)
    cases Option.some.inj (q2.symm.trans (State.methodFound?_of_named Y.fill0 (by decide)))
    cases Option.some.inj (q3.symm.trans Y.fill0)
    rw [Launch.admits_selectMethod XX.admits, c2.1]; exact q4
  have hselF : selectMethod e.platform s.vm cell.cls Tt.fill = .method Tt.fill := by
    obtain ⟨c2', r2, m2, q1, q2, q3, q4, -⟩ := Cond.selects_spec (ow (.selects C Bundle.tFill Bundle.tFill) (by simp [ax_xws]))
    cases Option.some.inj (q1.symm.trans hfound)
    cases Option.some.inj (q2.symm.trans (State.methodFound?_of_named Y.fill (by decide)))
    cases Option.some.inj (q3.symm.trans Y.fill)
    rw [Launch.admits_selectMethod XX.admits, c2.1]; exact q4
  obtain ⟨cellS, hcS0, hiss⟩ := Y.statics
  have hl1 : (Cond.laysStatic Bundle.tN "UNASSIGNED_STACK" Bundle.steD).before A0 s0 = true := by
    have := List.all_eq_true.mp ax_xw1 (.laysStatic Bundle.tN "UNASSIGNED_STACK" Bundle.steD) (by simp [Bundle.throwableAtoms])
    simp only [Bool.and_eq_true, decide_eq_true_eq] at this
    exact G.1 _ this.1
  have hl2 : (Cond.laysStatic Bundle.tN "SUPPRESSED_SENTINEL" Bundle.listD).before A0 s0 = true := by
    have := List.all_eq_true.mp ax_xw1 (.laysStatic Bundle.tN "SUPPRESSED_SENTINEL" Bundle.listD) (by simp [Bundle.throwableAtoms])
    simp only [Bool.and_eq_true, decide_eq_true_eq] at this
    exact G.1 _ this.1
  obtain ⟨u0, hu0⟩ := Cond.staticRefV (args := args) (first := s) (o := none) (idx := []) Y.unassigned L.unassignedStatic L.statics hcS0 hiss (ax_isRefS hW hHs' hl1 hr1)
  obtain ⟨sen, hsen⟩ := Cond.staticRefV (args := args) (first := s) (o := none) (idx := []) Y.sentinel L.sentinelStatic L.statics hcS0 hiss (ax_isRefS hW hHs' hl2 hr2)
  have hold : Tt.aS < s0.heap.size := ax_staticsOld hW hl1 Y.found L.cls L.statics
  have holdB : Tt.aS < B := by rw [← hB, hH0]; exact hold
  have hcellS : T.heap[Tt.aS]? = some cellS := by rw [hT, hS.2.2 _ holdB, ← hHs _ holdB]; exact hcS0
  have hknownS : cellS.vm ≠ .unknown := fun hq => by rw [hq] at hiss; cases hiss
  have hneS : Tt.aS ≠ B + i := fun hq => by
    have h1 : Tt.aS < B := holdB
    have h2 : Tt.aS = B + i := hq
    exact absurd h1 (by rw [h2]; exact Nat.not_lt.mpr (Nat.le_add_right B i))
  obtain ⟨ci198, i198, fB, hk198, hg198, ha198, hsB, -, hnB, htB, hffB⟩ := Cond.ownField (t := .object "java/lang/Object") Y.found L.cls (by decide +kernel) (ow (.fieldLink Bundle.tN 198 Bundle.tN "backtrace" "Ljava/lang/Object;") (by simp [ax_xws])) (ow (.lays Bundle.tN Bundle.tN "backtrace" "Ljava/lang/Object;") (by simp [ax_xws])) e.platform hpl
  obtain ⟨iM, hffM⟩ := Y.msg
  obtain ⟨tyC, dC, hdC, hdnC⟩ := Cond.laysAt hfound hkX Y.cause (ow (.lays C Bundle.tN "cause" "Ljava/lang/Throwable;") (by simp [ax_xws]))
  obtain ⟨tyS, dS, hdS, hdnS⟩ := Cond.laysAt hfound hkX Y.stack (ow (.lays C Bundle.tN "stackTrace" Bundle.steD) (by simp [ax_xws]))
  obtain ⟨tyP, dP, hdP, hdnP⟩ := Cond.laysAt hfound hkX Y.supp (ow (.lays C Bundle.tN "suppressedExceptions" Bundle.listD) (by simp [ax_xws]))
  obtain ⟨tyM, dM, hdM, hdnM⟩ := Cond.laysAt hfound hkX hffM (ow (.lays C Bundle.tN "detailMessage" "Ljava/lang/String;") (by simp [ax_xws]))
  obtain ⟨tyB, dB, hdB, hdnB⟩ := Cond.laysAt hfound hkX hffB (ow (.lays C Bundle.tN "backtrace" "Ljava/lang/Object;") (by simp [ax_xws]))
  have bC := Cond.laysApart hdB hdC hdnB hdnC (by rw [hnB, Y.causeName]; decide)
  have bS := Cond.laysApart hdB hdS hdnB hdnS (by rw [hnB, Y.stackName]; decide)
  have bP := Cond.laysApart hdB hdP hdnB hdnP (by rw [hnB, Y.suppName]; decide)
  have hsz6 : cell.slots.size = 6 := by
    have := c2.2.2.2.2.2.1
    rw [this]
    rcases ht with rfl | rfl <;> rfl
  have hback : cell.slots[fB.slot]? = some .null := by
    have h4 := c2.2.2.2.2.2.2 4 .null rfl
    obtain ⟨cf, kf, fi, fd, hi, hs4⟩ := hSl 4 (by show 4 < 6; omega)
    simp only [hT4] at hi
    have hi' : s.fieldFound? Bundle.tN "backtrace" "Ljava/lang/Object;" = some (cf, kf, fi, fd) := hi
    have e1 := Option.some.inj (hi'.symm.trans hffB)
    simp only [Prod.mk.injEq] at e1
    obtain ⟨-, -, -, rfl⟩ := e1
    have hsx : ax_sx D (t, ax_xf).1 4 = fd.slot := by
      unfold ax_sx
      rw [if_neg (by show ¬ 20 ≤ t; omega)]
      exact hs4.symm
    rw [hsx] at h4
    exact h4
  have tk : ∀ {f : Field} {v : Value}, kX.instanceTypes[f.slot]? = some f.type → fits f.type v = true → Takes s cell f v := by
    intro f v h1 h2
    refine ⟨?_, ?_⟩
    · rw [hsz6, ← hn6]; exact (Array.getElem?_eq_some_iff.mp h1).1
    · rw [c2.1, c2.2.1]; exact (Takes.of_laid hkX hord h1 h2).2
  have hskip : SkipFacts Tt e.platform s (fun u => u) u0 ((preparedCellV Tt.toThrowableT cell (B + i) u0 sen).withEntry T.cur) :=
    ⟨{ ci198 := ci198, i198 := i198, fBack := fB }, ⟨hk198, hg198, ha198, hsB⟩, by
      simpa [preparedCellV, Cell.setSlot, Cell.withEntry, Array.getElem?_setIfInBounds, bC, bS, bP, bC.symm, bS.symm, bP.symm] using hback, fun _ _ => rfl⟩
  obtain ⟨ak, hak⟩ := hX k
  have hmsg : (X k).isRef = true := by rw [hak]; rfl
  rw [hxn] at hlink
  obtain ⟨tm, methC, cdC, kC, vm₁, hnC, -, -, -, -, -, -, -, hW₁, st1⟩ := Steps.initColdS (tb := p.tables) (e := e) (below := below) (s := s) (U := T) XX.here hexec XX.warmed hpl hown (t := Bundle.initS Cu) rfl rfl (Bundle.fit_spec hfitu).2
    hlink (wd (List.all_eq_true.mp hchain (.instanceMethod (Bundle.initS Cu)) (by simp [ax_names, Bundle.chainSAtoms, Bundle.passSAtoms]))) (bytes := Bundle.six) (maxL := 2) (wd (List.all_eq_true.mp hchain (.code (Bundle.initS Cu) Bundle.six 2 none) (by simp [ax_names, Bundle.chainSAtoms, Bundle.passSAtoms])))
    (f := F0 m pc A ((Value.retAddr k :: .ref i :: r).map (ax_v B X))) rfl (a := B + i) (msg := X k) (rest := r.map (ax_v B X)) rfl hde
  cases Option.some.inj (hnC.symm.trans hP1m)
  have X₁ := XX.noted hW₁
  have hc1' : (T.setVm vm₁).heap[B + i]? = some cell := by show T.heap[B + i]? = _; rw [hT]; exact c1
  obtain ⟨vm₂, X₂, st2⟩ := X₁.ctorMessageOffV hexec (g := F0 m pc A (r.map (ax_v B X))) rfl (by show A.size = c.maxLocals; exact hA.symm) Tt L Z LZ Mm LM (P1 :: Ps)
    (fun P hP => by rcases List.mem_cons.mp hP with rfl | hP; exact L1; exact hL P hP) ⟨hlink1, hlink2⟩ (u0 := u0) (sen := sen) (self := B + i) hmsg (cell := cell) (cellS := cellS)
    hc1' (fun z hz => by rw [c2.2.1] at hz; cases hz) c2.known (by rw [c2.2.2.1.1]) (by rw [c2.2.2.1.1]) hsel0 hselF hcellS hneS hknownS hu0 hsen
    (tk tyC (by rw [Y.causeType]; rfl)) (tk tyS (by rw [Y.stackType]; exact fits_refV_array _ u0)) (tk tyP (by rw [Y.suppType]; exact fits_refV_object _ sen))
    (tk tyM (by rw [Y.msgType]; exact fits_refV_object _ ⟨X k, hmsg⟩)) Y.objLocals hskip (hnt e XX.admits) [] hde
    (by have h2 : Ps.length = 2 := hlen; simp only [List.length_cons, h2]; omega) (by
      have h2 : Ps.length = 2 := hlen
      show 2 * 0 + _ + _ ≤ _
      rw [ax_wt_sum hX]
      simp only [List.length_cons, h2]
      omega)
  have hcell' : ax_cell B X D (t, []) (plainBareV Tt.toThrowableT cell (B + i) u0 sen (X k)) := by
    refine ⟨?_, ?_, ?_, fun q => absurd q (by show ¬ 20 ≤ t; omega), fun _ => ⟨by show 0 ≤ _; omega, by show t < 11; omega⟩, ?_, fun k v hv => by simp at hv⟩
    · have : (plainBareV Tt.toThrowableT cell (B + i) u0 sen (X k)).cls = cell.cls := by simp [plainBareV, preparedCellV, Cell.setSlot]
      rw [this]; exact c2.1
    · have : (plainBareV Tt.toThrowableT cell (B + i) u0 sen (X k)).vm = cell.vm := by simp [plainBareV, preparedCellV, Cell.setSlot]
      rw [this]; exact c2.2.1
    · have h1 : (plainBareV Tt.toThrowableT cell (B + i) u0 sen (X k)).monitor = cell.monitor := by simp [plainBareV, preparedCellV, Cell.setSlot]
      have h2 : (plainBareV Tt.toThrowableT cell (B + i) u0 sen (X k)).hash = cell.hash := by simp [plainBareV, preparedCellV, Cell.setSlot]
      rw [h1, h2]; exact c2.2.2.1
    · have : (plainBareV Tt.toThrowableT cell (B + i) u0 sen (X k)).slots.size = cell.slots.size := by simp [plainBareV, preparedCellV, Cell.setSlot]
      rw [this, hsz6]
      rcases ht with rfl | rfl <;> rfl
  generalize plainBareV Tt.toThrowableT cell (B + i) u0 sen (X k) = cell' at X₂ st2 hcell'
  have hlt : B + i < H.size := (Array.getElem?_eq_some_iff.mp c1).1
  have hil : i < w.length := (List.getElem?_eq_some_iff.mp hwi).1
  obtain ⟨tt, z1, z2⟩ := kk (H.setIfInBounds (B + i) cell') _ (hS.set (H' := H.setIfInBounds (B + i) cell') hil hcell' (by simp [Array.getElem?_setIfInBounds, hlt]) (by simp) (fun q hq => by simp [Array.getElem?_setIfInBounds, Ne.symm hq])) (fun q hq => by
      have hb : q.base = B + i := by
        simp only [List.mem_cons, List.not_mem_nil, or_false] at hq
        rcases hq with rfl | rfl | rfl | rfl | rfl <;> rfl
      rw [hb]
      exact Nat.le_add_right _ _) _ (by rw [← hT]; rfl) X₂
  refine ⟨tt, st1 _ (fun acts => ?_), z2⟩
  rw [doInvoke_state]
  exact st2 _ z1
end
section
/-! THE CLAIM OUT OF ONE RUN OF THE ABSTRACT MACHINE (the skeleton's rows, with what a start gives beside) -/
def R_law : String := "MatrixDeskLaw"
def lw_P (b : Addr) (xs : List Int32) (args : Array Value) (s : State) : Prop := args = #[.ref b] ∧ s.IntsAt b xs ∧ xs.length ≤ 3072 ∧ (Jvm.Cond.and given_1 narrow_1).before args s = true
def lw_Q (_ : Array Value) (s : State) (o : Outcome) (t : State) : Prop := o = .returned (some (.int 1)) ∧ Framed s o t [] 601024 7293034
def lw_Z (below : List Frame) (a : Array Value) (s : State) : State → Prop := fun t => ∃ o, t.status = .running ∧ Ended t below o ∧ lw_Q a s o t
def lw_At (p : Program) (s : State) (m : MethodId) (meth : Method) (c : Code) (b L : Nat) (xs : Nat → Int32) : Prop :=
  p.tables.exec = Jvm.exec ∧ c.code = code ∧ meth.sig.returnType = ret ∧ c.maxLocals = 8 ∧ s.vm.findClass R_law = some m.cls ∧ (∀ w ∈ lw_tbl, w.before #[Value.ref b] s = true) ∧ va_X b L xs s s.heap ∧ b < s.heap.size ∧ meth.locks = false ∧ (Jvm.Cond.and given_1 narrow_1).before #[Value.ref b] s = true ∧ meth.name = "law" ∧ c.exceptionTable.toList = []
/-- the fields' names differ -/
def ax_nok (c : Nat) : Bool := match cls_all[c]? with
  | some q => (List.range q.2.2).all (fun a => (List.range q.2.2).all (fun b => decide (a = b) || decide ((q.2.1 a).2.1 ≠ (q.2.1 b).2.1)))
  | none => true
set_option maxRecDepth 100000 in
theorem ax_nall : (List.range 11).all ax_nok = true := by decide +kernel
theorem ax_apOf {s : State} {args : Array Value} {D : va_G} (hts : ∀ w ∈ lw_tbl, w.before args s = true) (hK : ax_K D s) : ax_ap D := by
  intro t ht a b ha hb hab
  by_cases h11 : t < 11
  · obtain ⟨q, hq⟩ : ∃ q, cls_all[t]? = some q := ⟨cls_all[t]'(by show t < 11; exact h11), List.getElem?_eq_getElem _⟩
    have hnf : ax_nf t = q.2.2 := by unfold ax_nf; rw [hq]
    rw [hnf] at ha hb
    obtain ⟨ks, hks⟩ := ax_kinds_some h11
    have hsp := ax_kspec h11 hq hks
    have hn := List.all_eq_true.mp ax_nall t (List.mem_range.mpr h11)
    unfold ax_nok at hn
    rw [hq] at hn
    simp only [List.all_eq_true, List.mem_range, Bool.or_eq_true, decide_eq_true_eq] at hn
    exact va_apart (own := "") (D := D) (cl := cls_all) (tys := []) (ci := t) hts (fun v hv => (hsp.2.2.2.2 v hv).1) (fun k => (parseFieldDescriptor (q.2.1 k).2.2.1).getD .int) (fun k hk => by
      obtain ⟨ty, hty⟩ := Option.isSome_iff_exists.mp (hsp.2.2.2.1 k hk)
      rw [hty]; rfl) (fun x hx y hy hxy => (hn x hx y hy).resolve_left hxy) ⟨fun c q hq => hK.1 c q hq, fun k q hk => by simp at hk⟩ hq a b ha hb hab
  · have : ax_nf t = 0 := by
      unfold ax_nf
      rw [List.getElem?_eq_none (by show 11 ≤ t; omega)]
    omega
set_option maxRecDepth 100000 in
theorem ax_inst : ∀ c, c < 11 → ∀ q, cls_all[c]? = some q → Cond.instantiable q.1 q.2.2 ∈ lw_tbl := by
  have h : (List.range 11).all (fun c => match cls_all[c]? with | some q => decide (Cond.instantiable q.1 q.2.2 ∈ lw_tbl) | none => true) = true := by decide +kernel
  intro c hc q hq
  have := List.all_eq_true.mp h c (List.mem_range.mpr hc)
  rw [hq] at this
  simpa using this
set_option maxRecDepth 100000 in
theorem ax_over : Cond.arrayOver (.object "MatrixDesk$Matrix") ∈ lw_tbl ∧ Cond.arrayOver (.object "MatrixDesk$Row") ∈ lw_tbl ∧ Cond.arrayOver (.object "MatrixDesk$Whole") ∈ lw_tbl := by decide +kernel
/-- the tables give the classes and the slots of their fields -/
theorem ax_KOf {s : State} {args : Array Value} (hts : ∀ w ∈ lw_tbl, w.before args s = true) : ∃ D : va_G, ax_K D s := by
  have h1 : ∀ c : Nat, ∃ r : ClassId × (Nat → Nat), ∀ q, cls_all[c]? = some q → u_Kn s q.1 q.2.1 q.2.2 r.1 r.2 := by
    intro c
    by_cases hc : c < 11
    · obtain ⟨q, hq⟩ : ∃ q, cls_all[c]? = some q := ⟨cls_all[c]'(by show c < 11; exact hc), List.getElem?_eq_getElem _⟩
      obtain ⟨ks, hks⟩ := ax_kinds_some hc
      have hsp := ax_kspec hc hq hks
      obtain ⟨cC, iS, h⟩ := u_known (ws := lw_tbl) (T := q.2.1) (N := q.2.2) hts (fun v hv => (hsp.2.2.2.2 v hv).1) (hts _ (ax_inst c hc q hq))
      exact ⟨(cC, iS), fun q' hq' => by cases hq.symm.trans hq'; exact h⟩
    · exact ⟨(0, fun _ => 0), fun q hq => absurd (List.getElem?_eq_some_iff.mp hq).1 (by show ¬ c < 11; exact hc)⟩
  have h2 : ∀ t : Nat, ∃ cA : ClassId, ∀ ty, ax_ty t = some ty → ArrOfT s cA ty ∧ va_RA s cA ty := by
    intro t
    have prim : ∀ ty, ty ∈ ([.int, .long, .char, .boolean] : List FieldType) → ∃ cA, ArrOfT s cA ty ∧ va_RA s cA ty := by
      intro ty hty
      obtain ⟨cA, kA, comp, g1, g2, g3⟩ := Cond.arrayClass_spec (hts _ (ax_arrays ty hty))
      refine ⟨cA, fun n z => ⟨fun k h => (by cases h), kA, g2, comp, g3⟩, ?_⟩
      simp only [List.mem_cons, List.not_mem_nil, or_false] at hty
      rcases hty with rfl | rfl | rfl | rfl <;> exact g1
    have refs : ∀ C, Cond.arrayOver (.object C) ∈ lw_tbl → ∃ cA, ArrOfT s cA (.object C) ∧ va_RA s cA (.object C) := by
      intro C hC
      obtain ⟨comp, cA, kA, g1, -, g3, g4, g5⟩ := Cond.arrayOver_spec (hts _ hC)
      exact ⟨cA, fun n z => ⟨fun k h => (by cases h), kA, g3, comp, g4⟩, kA, comp, g3, g4, g1, g5⟩
    have pick : ∀ ty, ax_ty t = some ty → (∃ cA, ArrOfT s cA ty ∧ va_RA s cA ty) → ∃ cA : ClassId, ∀ ty, ax_ty t = some ty → ArrOfT s cA ty ∧ va_RA s cA ty := fun ty hty ⟨cA, h⟩ => ⟨cA, fun ty' hty' => by cases hty.symm.trans hty'; exact h⟩
    cases hty : ax_ty t with
    | none => exact ⟨0, fun ty h => by cases h⟩
    | some ty =>
      rw [← hty]
      refine pick ty hty ?_
      unfold ax_ty at hty
      split at hty <;> cases hty
      · exact prim _ (by simp)
      · exact prim _ (by simp)
      · exact prim _ (by simp)
      · exact prim _ (by simp)
      · exact refs _ ax_over.1
      · exact refs _ ax_over.2.1
      · exact refs _ ax_over.2.2
  obtain ⟨f, hf⟩ := Classical.axiomOfChoice h1
  obtain ⟨g, hg⟩ := Classical.axiomOfChoice h2
  refine ⟨(fun t => if t < 20 then (f t).1 else g t, fun t => (f t).2), fun c q hq => ?_, fun t ty hty => ?_⟩
  · have hc : c < 11 := (List.getElem?_eq_some_iff.mp hq).1
    show u_Kn s q.1 q.2.1 q.2.2 (if c < 20 then (f c).1 else g c) (f c).2
    rw [if_pos (by omega)]
    exact hf c q hq
  · have ht : ¬ t < 20 := by
      unfold ax_ty at hty
      split at hty <;> first | (intro h; exact absurd h (by decide)) | cases hty
    show ArrOfT s (if t < 20 then (f t).1 else g t) ty ∧ va_RA s (if t < 20 then (f t).1 else g t) ty
    rw [if_neg ht]
    exact hg t ty hty
set_option maxRecDepth 100000 in
theorem ax_un : Cond.laysStatic "MatrixDesk" "UNITS" "[I" ∈ lw_tbl ∧ Cond.initialized "MatrixDesk" ∈ lw_tbl ∧ (∀ k, 2 ≤ k → k < 6 → Cond.stringRef "MatrixDesk" (ax_ix k) (ax_txt k) ∈ lw_tbl) := by
  refine ⟨by decide +kernel, by decide +kernel, ?_⟩
  have h : ([2, 3, 4, 5] : List Nat).all (fun k => decide (Cond.stringRef "MatrixDesk" (ax_ix k) (ax_txt k) ∈ lw_tbl)) = true := by decide +kernel
  intro k h2 h6
  have := List.all_eq_true.mp h k (by simp; omega)
  simpa using this
theorem ax_startG {p : Program} {s : State} {m : MethodId} {meth : Method} {c : Code} {b L : Nat} {xs : Nat → Int32} (C0 : lw_At p s m meth c b L xs) :
    ∃ (D : va_G) (X : Nat → Value), ax_G s #[Value.ref b] D s.heap.size X s.heap ((List.range L).map xs) ∧ ax_NC D s ∧ X 0 = .ref b ∧ (Cond.isRef (.static Bundle.tN "UNASSIGNED_STACK" Bundle.steD)).before #[Value.ref b] s = true ∧ (Cond.isRef (.static Bundle.tN "SUPPRESSED_SENTINEL" Bundle.listD)).before #[Value.ref b] s = true := by
  obtain ⟨-, -, -, -, -, hts, hX, hb, -, hgv, -⟩ := C0
  have hs := flat_of_before _ hgv
  obtain ⟨D, hK⟩ := ax_KOf hts
  have hA : ∀ a : Nat, a < s.heap.size → ¬ (fun q => s.heap.size ≤ q) a := fun a ha => by show ¬ s.heap.size ≤ a; omega
  obtain ⟨tu, htu, hTu⟩ := va_Tof (args := #[Value.ref b]) (s := s) (tm := .static "MatrixDesk" "UNITS" "[I") (ty := .int) (N := 9) (f := fun j => .int (ax_units.getD j 0)) (A := fun q => s.heap.size ≤ q) (by decide) (hs _ (by decide +kernel)) (va_eqt (hs _ (by decide +kernel))) (fun j hj => by
    have h9 : ∀ j, j < 9 → Cond.eq (.elem (.static "MatrixDesk" "UNITS" "[I") (.int (Int32.ofNat j))) (.int (ax_units.getD j 0)) ∈ flatC (Jvm.Cond.and given_1 narrow_1) := by decide +kernel
    exact va_eqt (hs _ (h9 j hj))) hA
  have hZ := va_Zof (A := fun q => s.heap.size ≤ q) (hts _ ax_un.1) (hts _ ax_un.2.1) htu hA
  have hstr : ∀ k, ∃ a, 2 ≤ k → k < 6 → vk_R "MatrixDesk" (ax_ix k) (ax_txt k) a s := by
    intro k
    by_cases hk : 2 ≤ k ∧ k < 6
    · have hex : ∀ k, 2 ≤ k → k < 6 → Cond.exactly (.string "MatrixDesk" (ax_ix k)) "java/lang/String" ∈ flatC (Jvm.Cond.and given_1 narrow_1) := by
        have h : ([2, 3, 4, 5] : List Nat).all (fun k => decide (Cond.exactly (.string "MatrixDesk" (ax_ix k)) "java/lang/String" ∈ flatC (Jvm.Cond.and given_1 narrow_1))) = true := by decide +kernel
        intro k h2 h6
        have := List.all_eq_true.mp h k (by simp; omega)
        simpa using this
      obtain ⟨a, c1, cA, kA, q1, -⟩ := Cond.exactly_spec (args := #[Value.ref b]) (first := s) (o := none) (s := s) (idx := []) (hs _ (hex k hk.1 hk.2))
      exact ⟨a, fun _ _ => vk_R.of (hts _ (ax_un.2.2 k hk.1 hk.2)) q1⟩
    · exact ⟨0, fun h1 h2 => absurd ⟨h1, h2⟩ hk⟩
  obtain ⟨sa, hsa⟩ := Classical.axiomOfChoice hstr
  refine ⟨D, fun k => if k = 0 then .ref b else if k = 1 then .ref tu else .ref (sa k), ⟨hts, hK, ax_apOf hts hK, fun k => ?_, fun k ys hk => ?_, rfl, hZ, fun k h2 h6 => ?_⟩, ?_, rfl, hs _ (by decide +kernel), hs _ (by decide +kernel)⟩
  · by_cases h0 : k = 0
    · exact ⟨b, if_pos h0⟩
    · by_cases h1 : k = 1
      · exact ⟨tu, (if_neg h0).trans (if_pos h1)⟩
      · exact ⟨sa k, (if_neg h0).trans (if_neg h1)⟩
  · unfold ax_ext at hk
    split at hk
    · cases hk
      obtain ⟨scr, g1, g2, g3, g4, g5⟩ := hX
      refine ⟨b, scr, rfl, hb, g1, g2, g3, ⟨by rw [g4]; simp, by rw [g4]; simp⟩, fun j y hy => ?_⟩
      rw [List.getElem?_map] at hy
      obtain ⟨j', hj', rfl⟩ := Option.map_eq_some_iff.mp hy
      have hjl : j < L := by
        have := (List.getElem?_eq_some_iff.mp hj').1
        simpa using this
      rw [List.getElem?_range hjl] at hj'
      cases hj'
      exact g5 j hjl
    · cases hk
      obtain ⟨cell, g1, g2, g3, g4, g5, g6, g7⟩ := hTu
      refine ⟨tu, cell, rfl, (Array.getElem?_eq_some_iff.mp g1).1, g1, g2, g3, ⟨g4, g5⟩, fun j y hy => ?_⟩
      have hjl : j < 9 := (List.getElem?_eq_some_iff.mp hy).1
      rw [g6 j hjl]
      show some (Value.int (ax_units.getD j 0)) = _
      rw [List.getD_eq_getElem?_getD, hy]
      rfl
    · cases hk
  · refine ⟨sa k, ?_, hsa k h2 h6⟩
    show (if k = 0 then Value.ref b else if k = 1 then .ref tu else .ref (sa k)) = _
    rw [if_neg (by omega), if_neg (by omega)]
  · have hc9 : s.vm.findClass R_Io = some (D.1 9) := (hK.1 9 _ rfl).2.1
    have hc10 : s.vm.findClass R_Ia = some (D.1 10) := (hK.1 10 _ rfl).2.1
    have n1 : (Cond.not (Cond.castable R_Io R_Ia)).before #[Value.ref b] s = true := hs _ (by decide +kernel)
    have n2 : (Cond.not (Cond.castable R_Ia R_Io)).before #[Value.ref b] s = true := hs _ (by decide +kernel)
    simp only [Cond.before, Cond.holds, Cond.value, hc9, hc10] at n1 n2
    constructor
    · simpa using n1
    · simpa using n2
/-- what is wanted of the abstract machine: on every script it runs the law to its end, with 1, in the room -/
def ax_Good (xs : List Int32) : Prop := ∃ (f : Nat) (w' : ax_W), ax_run xs f 12 502 185 0 (ax_ent [.retAddr 0] 8) [] [] = some (.returned (some (.int 1)), w') ∧ w'.length ≤ 601024 ∧ ax_sz w' ≤ 7293034
theorem ax_toW {p : Program} {e : Env} {s : State} {m : MethodId} {below : List Frame} {meth : Method} {c : Code} (l : Launch) (hfl : l.flags = flags0) {b L : Nat} {xs : Nat → Int32} (C0 : lw_At p s m meth c b L xs) (hg : ax_Good ((List.range L).map xs)) :
    W p l e room_1 s m #[Value.ref b] below meth c s.heap [] 0 0 (lw_Z below #[Value.ref b] s) (entryFrame m ([Value.ref b] : List Value).toArray 8) := by
  obtain ⟨D, X, G, hnc, hX0, hr1, hr2⟩ := ax_startG C0
  obtain ⟨f, w', hr, hc1, hc2⟩ := hg
  have hEx := ax_excLaw (l := l) G rfl (fun e' he => by
    have h1 : e'.platform.stackTraces = l.stackTraces := by rw [he.platform]
    rw [h1, Launch.stackTraces, hfl]
    decide) hr1 hr2
  have hCa := ax_catchLaw (l := l) G hnc
  have hS0 : ax_Sim s.heap.size X D s.heap [] s.heap := ⟨by simp, fun i q h => by simp at h, fun a ha => rfl⟩
  obtain ⟨a1, a2, a3, a4, a5, a6, a7, a8, a9, a10, a11, a12⟩ := C0
  have hFr : ax_Fr s ⟨"MatrixDeskLaw", "law", "([I)Z"⟩ code 8 (some .boolean) (ax_ht []) p s m meth c := ⟨a1, a2, a4, a3, a9, a5, a11, by rw [a12]; rfl, State.WarmedH.refl s⟩
  have hW := ax_sound G hEx hCa f 12 502 185 0 (ax_ent [.retAddr 0] 8) [] [] _ w' hr p e room_1 s m #[Value.ref b] below meth c s.heap [] 0 0 _ (k_La_law, 8, 2, []) (⟨"MatrixDeskLaw", "law", "([I)Z"⟩, code, some .boolean, 0) rfl rfl hFr (fun a _ => rfl) hS0 (ax_entL G.2.2.2.1 [.retAddr 0] (by decide)) (fun q hq => absurd hq List.not_mem_nil) (Nat.le_refl _) (Nat.le_refl _)
    (by show 0 + w'.length ≤ 601024 + 0; omega) (by show 0 + ax_sz w' ≤ 7293034 + 0; omega)
  rw [lg_entry_eq]
  have e1 : ([.retAddr 0] : List Value).map (ax_v s.heap.size X) = [Value.ref b] := by simp [ax_v, hX0]
  rw [e1] at hW
  refine ax_Wm (fun t ht => ?_) hW
  obtain ⟨L', k, n, q0, q00, q1, q2, q3, q4, q5, q6⟩ := ht
  refine ⟨_, q1, q2, rfl, ⟨_, rfl⟩, q3, q4.weaken (fun x hx hlt => absurd (q6 x hx) (Nat.not_le.mpr hlt)) ?_ ?_⟩
  · simp only [List.length_nil] at q0
    omega
  · have : ax_sz ([] : ax_W) = 0 := rfl
    omega
end
section
-- written by wip/gen/meths.py
theorem m_De_init : ax_prog[0]? = some (k_De_init, 2, 0, []) := rfl
theorem m_Ma_init : ax_prog[1]? = some (k_Ma_init, 1, 0, []) := rfl
theorem m_Pr_init : ax_prog[2]? = some (k_Pr_init, 1, 0, []) := rfl
theorem m_Di_init : ax_prog[3]? = some (k_Di_init, 1, 0, []) := rfl
theorem m_Wh_init : ax_prog[4]? = some (k_Wh_init, 1, 0, []) := rfl
theorem m_Wh_becomeJ : ax_prog[5]? = some (k_Wh_becomeJ, 6, 0, []) := rfl
theorem m_Wh_clear : ax_prog[6]? = some (k_Wh_clear, 1, 0, []) := rfl
theorem m_Wh_widen : ax_prog[7]? = some (k_Wh_widen, 2, 0, []) := rfl
theorem m_Ar_copyOf : ax_prog[8]? = some (k_Ar_copyOf, 3, 4, []) := rfl
theorem m_Mt_min : ax_prog[9]? = some (k_Mt_min, 2, 1, []) := rfl
theorem m_Ar_fillI : ax_prog[10]? = some (k_Ar_fillI, 5, 0, []) := rfl
theorem m_Ar_rangeCheck : ax_prog[11]? = some (k_Ar_rangeCheck, 3, 0, []) := rfl
theorem m_Mt_abs : ax_prog[12]? = some (k_Mt_abs, 2, 3, []) := rfl
theorem m_Wh_trim : ax_prog[13]? = some (k_Wh_trim, 2, 0, []) := rfl
theorem m_Mi_init : ax_prog[14]? = some (k_Mi_init, 3, 0, []) := rfl
theorem m_St_init : ax_prog[15]? = some (k_St_init, 3, 0, []) := rfl
theorem m_Ro_init : ax_prog[16]? = some (k_Ro_init, 2, 0, []) := rfl
theorem m_De_size : ax_prog[17]? = some (k_De_size, 3, 1, []) := rfl
theorem m_De_character : ax_prog[18]? = some (k_De_character, 2, 1, []) := rfl
theorem m_La_make : ax_prog[19]? = some (k_La_make, 5, 1, [(0, 7, 10, 9), (0, 7, 14, 10)]) := rfl
theorem m_De_make : ax_prog[20]? = some (k_De_make, 5, 0, []) := rfl
theorem m_De_matrix : ax_prog[21]? = some (k_De_matrix, 2, 4, []) := rfl
theorem m_Ma_reset : ax_prog[22]? = some (k_Ma_reset, 3, 0, []) := rfl
theorem m_Ar_fillJ : ax_prog[23]? = some (k_Ar_fillJ, 5, 0, []) := rfl
theorem m_La_put : ax_prog[24]? = some (k_La_put, 7, 1, [(0, 9, 12, 9), (0, 9, 16, 10)]) := rfl
theorem m_De_put : ax_prog[25]? = some (k_De_put, 7, 0, []) := rfl
theorem m_De_matrixWith : ax_prog[26]? = some (k_De_matrixWith, 5, 4, []) := rfl
theorem m_Ma_has : ax_prog[27]? = some (k_Ma_has, 3, 2, []) := rfl
theorem m_Ma_write : ax_prog[28]? = some (k_Ma_write, 5, 0, []) := rfl
theorem m_La_at : ax_prog[29]? = some (k_La_at, 6, 1, [(0, 11, 14, 9)]) := rfl
theorem m_De_at : ax_prog[30]? = some (k_De_at, 4, 3, []) := rfl
theorem m_Ma_number : ax_prog[31]? = some (k_Ma_number, 3, 3, []) := rfl
theorem m_La_combine : ax_prog[32]? = some (k_La_combine, 8, 1, [(0, 16, 19, 9)]) := rfl
theorem m_De_combine : ax_prog[33]? = some (k_De_combine, 11, 1, []) := rfl
theorem m_De_addToSum : ax_prog[34]? = some (k_De_addToSum, 5, 0, []) := rfl
theorem m_Wh_addProduct : ax_prog[35]? = some (k_Wh_addProduct, 9, 0, []) := rfl
theorem m_Mt_max : ax_prog[36]? = some (k_Mt_max, 2, 1, []) := rfl
theorem m_Wh_addLine : ax_prog[37]? = some (k_Wh_addLine, 14, 0, []) := rfl
theorem m_Wh_straighten : ax_prog[38]? = some (k_Wh_straighten, 7, 0, []) := rfl
theorem m_Wh_fits : ax_prog[39]? = some (k_Wh_fits, 1, 2, []) := rfl
theorem m_Wh_value : ax_prog[40]? = some (k_Wh_value, 3, 3, []) := rfl
theorem m_Ma_become : ax_prog[41]? = some (k_Ma_become, 2, 0, []) := rfl
theorem m_La_multiply : ax_prog[42]? = some (k_La_multiply, 6, 1, [(0, 12, 15, 9)]) := rfl
theorem m_De_multiply : ax_prog[43]? = some (k_De_multiply, 10, 1, []) := rfl
theorem m_La_turn : ax_prog[44]? = some (k_La_turn, 4, 1, [(0, 6, 9, 9)]) := rfl
theorem m_De_turn : ax_prog[45]? = some (k_De_turn, 7, 0, []) := rfl
theorem m_La_rank : ax_prog[46]? = some (k_La_rank, 4, 1, [(0, 9, 12, 9)]) := rfl
theorem m_De_rank : ax_prog[47]? = some (k_De_rank, 2, 1, []) := rfl
theorem m_Mi_read : ax_prog[48]? = some (k_Mi_read, 4, 0, []) := rfl
theorem m_Mi_independentRows : ax_prog[49]? = some (k_Mi_independentRows, 4, 1, []) := rfl
theorem m_De_all : ax_prog[50]? = some (k_De_all, 1, 1, []) := rfl
theorem m_Mi_takeRow : ax_prog[51]? = some (k_Mi_takeRow, 8, 0, []) := rfl
theorem m_In_bitCount : ax_prog[52]? = some (k_In_bitCount, 1, 1, []) := rfl
theorem m_Mi_hasMinor : ax_prog[53]? = some (k_Mi_hasMinor, 3, 2, []) := rfl
theorem m_Wh_isZero : ax_prog[54]? = some (k_Wh_isZero, 1, 2, []) := rfl
theorem m_La_hermite : ax_prog[55]? = some (k_La_hermite, 5, 1, [(0, 10, 13, 9)]) := rfl
theorem m_De_hermite : ax_prog[56]? = some (k_De_hermite, 6, 1, []) := rfl
theorem m_St_climb : ax_prog[57]? = some (k_St_climb, 7, 0, []) := rfl
theorem m_St_load : ax_prog[58]? = some (k_St_load, 7, 0, []) := rfl
theorem m_Ro_clear : ax_prog[59]? = some (k_Ro_clear, 2, 0, []) := rfl
theorem m_Ro_lead : ax_prog[60]? = some (k_Ro_lead, 3, 1, []) := rfl
theorem m_St_meet : ax_prog[61]? = some (k_St_meet, 5, 0, []) := rfl
theorem m_St_lower : ax_prog[62]? = some (k_St_lower, 5, 0, []) := rfl
theorem m_Di_divide : ax_prog[63]? = some (k_Di_divide, 5, 0, []) := rfl
theorem m_Wh_becomeW : ax_prog[64]? = some (k_Wh_becomeW, 2, 0, []) := rfl
theorem m_Wh_overDigit : ax_prog[65]? = some (k_Wh_overDigit, 6, 3, []) := rfl
theorem m_Wh_isSmallerThan : ax_prog[66]? = some (k_Wh_isSmallerThan, 3, 2, []) := rfl
theorem m_Di_divideLong : ax_prog[67]? = some (k_Di_divideLong, 11, 0, []) := rfl
theorem m_Wh_timesDigit : ax_prog[68]? = some (k_Wh_timesDigit, 6, 0, []) := rfl
theorem m_Di_guess : ax_prog[69]? = some (k_Di_guess, 14, 3, []) := rfl
theorem m_Wh_negate : ax_prog[70]? = some (k_Wh_negate, 1, 0, []) := rfl
theorem m_Wh_add : ax_prog[71]? = some (k_Wh_add, 4, 0, []) := rfl
theorem m_St_settle : ax_prog[72]? = some (k_St_settle, 4, 0, []) := rfl
theorem m_St_keepSpare : ax_prog[73]? = some (k_St_keepSpare, 5, 0, []) := rfl
theorem m_Ro_turnSigns : ax_prog[74]? = some (k_Ro_turnSigns, 2, 0, []) := rfl
theorem m_De_copyStairs : ax_prog[75]? = some (k_De_copyStairs, 6, 2, []) := rfl
theorem m_St_number : ax_prog[76]? = some (k_St_number, 3, 4, []) := rfl
theorem m_St_leadsBefore : ax_prog[77]? = some (k_St_leadsBefore, 4, 1, []) := rfl
theorem m_La_kernel : ax_prog[78]? = some (k_La_kernel, 5, 1, [(0, 10, 13, 9)]) := rfl
theorem m_De_kernel : ax_prog[79]? = some (k_De_kernel, 7, 1, []) := rfl
theorem m_La_solve : ax_prog[80]? = some (k_La_solve, 6, 1, [(0, 12, 15, 9)]) := rfl
theorem m_De_solve : ax_prog[81]? = some (k_De_solve, 10, 1, []) := rfl
theorem m_St_spareRow : ax_prog[82]? = some (k_St_spareRow, 1, 4, []) := rfl
theorem m_La_determinant : ax_prog[83]? = some (k_La_determinant, 4, 1, [(0, 9, 12, 9)]) := rfl
theorem m_De_determinant : ax_prog[84]? = some (k_De_determinant, 3, 1, []) := rfl
theorem m_Mi_minor : ax_prog[85]? = some (k_Mi_minor, 3, 4, []) := rfl
theorem m_Mi_takeRows : ax_prog[86]? = some (k_Mi_takeRows, 5, 0, []) := rfl
theorem m_De_printWhole : ax_prog[87]? = some (k_De_printWhole, 2, 1, []) := rfl
theorem m_Pr_clear : ax_prog[88]? = some (k_Pr_clear, 1, 0, []) := rfl
theorem m_Pr_whole : ax_prog[89]? = some (k_Pr_whole, 9, 0, []) := rfl
theorem m_Pr_letter : ax_prog[90]? = some (k_Pr_letter, 2, 0, []) := rfl
theorem m_La_divisor : ax_prog[91]? = some (k_La_divisor, 5, 1, [(0, 10, 13, 9)]) := rfl
theorem m_De_divisor : ax_prog[92]? = some (k_De_divisor, 4, 1, []) := rfl
theorem m_Ma_lesserSide : ax_prog[93]? = some (k_Ma_lesserSide, 1, 1, []) := rfl
theorem m_Mi_commonDivisor : ax_prog[94]? = some (k_Mi_commonDivisor, 6, 0, []) := rfl
theorem m_Di_commonDivisor : ax_prog[95]? = some (k_Di_commonDivisor, 7, 0, []) := rfl
theorem m_La_factor : ax_prog[96]? = some (k_La_factor, 5, 1, [(0, 10, 13, 9)]) := rfl
theorem m_De_factor : ax_prog[97]? = some (k_De_factor, 4, 1, []) := rfl
theorem m_La_inverse : ax_prog[98]? = some (k_La_inverse, 6, 1, [(0, 12, 15, 9)]) := rfl
theorem m_De_inverse : ax_prog[99]? = some (k_De_inverse, 6, 1, []) := rfl
theorem m_De_printFraction : ax_prog[100]? = some (k_De_printFraction, 2, 0, []) := rfl
theorem m_Di_lowerTerms : ax_prog[101]? = some (k_Di_lowerTerms, 3, 0, []) := rfl
theorem m_Di_lower : ax_prog[102]? = some (k_Di_lower, 2, 0, []) := rfl
theorem m_Wh_isOne : ax_prog[103]? = some (k_Wh_isOne, 1, 2, []) := rfl
theorem m_La_characteristic : ax_prog[104]? = some (k_La_characteristic, 5, 1, [(0, 10, 13, 9)]) := rfl
theorem m_De_characteristic : ax_prog[105]? = some (k_De_characteristic, 5, 1, []) := rfl
theorem m_Mi_principalSum : ax_prog[106]? = some (k_Mi_principalSum, 4, 0, []) := rfl
theorem m_La_same : ax_prog[107]? = some (k_La_same, 5, 1, [(0, 17, 20, 9)]) := rfl
theorem m_De_same : ax_prog[108]? = some (k_De_same, 7, 2, []) := rfl
theorem m_La_check : ax_prog[109]? = some (k_La_check, 4, 1, [(0, 9, 12, 9)]) := rfl
theorem m_De_check : ax_prog[110]? = some (k_De_check, 3, 1, []) := rfl
theorem m_St_isHermite : ax_prog[111]? = some (k_St_isHermite, 6, 2, []) := rfl
theorem m_St_isLead : ax_prog[112]? = some (k_St_isLead, 6, 2, []) := rfl
theorem m_De_stepsComeToForm : ax_prog[113]? = some (k_De_stepsComeToForm, 5, 2, []) := rfl
theorem m_De_stepsGoBack : ax_prog[114]? = some (k_De_stepsGoBack, 5, 2, []) := rfl
theorem m_De_stepsHaveUnitDeterminant : ax_prog[115]? = some (k_De_stepsHaveUnitDeterminant, 2, 2, []) := rfl
theorem m_Mi_readSquare : ax_prog[116]? = some (k_Mi_readSquare, 6, 0, []) := rfl
theorem m_Mo_init : ax_prog[117]? = some (k_Mo_init, 2, 0, []) := rfl
theorem m_Mo_thrown : ax_prog[118]? = some (k_Mo_thrown, 1, 1, []) := rfl
theorem m_Mo_make : ax_prog[119]? = some (k_Mo_make, 4, 0, []) := rfl
theorem m_Mo_isMatrix : ax_prog[120]? = some (k_Mo_isMatrix, 2, 2, []) := rfl
theorem m_Mo_clear : ax_prog[121]? = some (k_Mo_clear, 5, 0, []) := rfl
theorem m_Mo_put : ax_prog[122]? = some (k_Mo_put, 6, 0, []) := rfl
theorem m_Mo_isPlace : ax_prog[123]? = some (k_Mo_isPlace, 4, 2, []) := rfl
theorem m_Mo_at : ax_prog[124]? = some (k_Mo_at, 4, 3, []) := rfl
theorem m_Mo_number : ax_prog[125]? = some (k_Mo_number, 4, 3, []) := rfl
theorem m_Mo_size : ax_prog[126]? = some (k_Mo_size, 3, 1, []) := rfl
theorem m_Mo_combine : ax_prog[127]? = some (k_Mo_combine, 8, 1, []) := rfl
theorem m_Mo_areThere : ax_prog[128]? = some (k_Mo_areThere, 4, 2, []) := rfl
theorem m_Mo_result : ax_prog[129]? = some (k_Mo_result, 3, 1, []) := rfl
theorem m_Mo_bigSet : ax_prog[130]? = some (k_Mo_bigSet, 7, 0, []) := rfl
theorem m_Mo_addTimes : ax_prog[131]? = some (k_Mo_addTimes, 6, 0, []) := rfl
theorem m_Mo_bigProduct : ax_prog[132]? = some (k_Mo_bigProduct, 9, 0, []) := rfl
theorem m_Mo_bigTrim : ax_prog[133]? = some (k_Mo_bigTrim, 2, 0, []) := rfl
theorem m_Mo_bigAdd : ax_prog[134]? = some (k_Mo_bigAdd, 5, 0, []) := rfl
theorem m_Mo_bigMore : ax_prog[135]? = some (k_Mo_bigMore, 7, 0, []) := rfl
theorem m_Mo_bigAt : ax_prog[136]? = some (k_Mo_bigAt, 3, 1, []) := rfl
theorem m_Mo_bigSizes : ax_prog[137]? = some (k_Mo_bigSizes, 4, 1, []) := rfl
theorem m_Mo_bigDiffer : ax_prog[138]? = some (k_Mo_bigDiffer, 8, 0, []) := rfl
theorem m_Mo_give : ax_prog[139]? = some (k_Mo_give, 6, 2, []) := rfl
theorem m_Mo_bigValue : ax_prog[140]? = some (k_Mo_bigValue, 5, 3, []) := rfl
theorem m_Mo_multiply : ax_prog[141]? = some (k_Mo_multiply, 7, 1, []) := rfl
theorem m_Mo_turn : ax_prog[142]? = some (k_Mo_turn, 5, 0, []) := rfl
theorem m_Mo_rank : ax_prog[143]? = some (k_Mo_rank, 2, 1, []) := rfl
theorem m_Mo_lookAt : ax_prog[144]? = some (k_Mo_lookAt, 4, 0, []) := rfl
theorem m_Mo_rankOf : ax_prog[145]? = some (k_Mo_rankOf, 2, 1, []) := rfl
theorem m_Mo_least : ax_prog[146]? = some (k_Mo_least, 3, 1, []) := rfl
theorem m_Mo_divisorOf : ax_prog[147]? = some (k_Mo_divisorOf, 6, 2, []) := rfl
theorem m_Mo_sizeOf : ax_prog[148]? = some (k_Mo_sizeOf, 3, 1, []) := rfl
theorem m_Mo_pick : ax_prog[149]? = some (k_Mo_pick, 4, 1, []) := rfl
theorem m_Mo_findMinors : ax_prog[150]? = some (k_Mo_findMinors, 6, 0, []) := rfl
theorem m_Mo_bigIsZero : ax_prog[151]? = some (k_Mo_bigIsZero, 2, 2, []) := rfl
theorem m_Mo_divide : ax_prog[152]? = some (k_Mo_divide, 3, 0, []) := rfl
theorem m_Mo_bigCopy : ax_prog[153]? = some (k_Mo_bigCopy, 4, 0, []) := rfl
theorem m_Mo_bigDivide : ax_prog[154]? = some (k_Mo_bigDivide, 14, 0, []) := rfl
theorem m_Mo_bigHolds : ax_prog[155]? = some (k_Mo_bigHolds, 5, 2, []) := rfl
theorem m_Mo_bigLose : ax_prog[156]? = some (k_Mo_bigLose, 13, 0, []) := rfl
theorem m_Mo_hermite : ax_prog[157]? = some (k_Mo_hermite, 5, 1, []) := rfl
theorem m_Mo_findForm : ax_prog[158]? = some (k_Mo_findForm, 2, 0, []) := rfl
theorem m_Mo_findLeads : ax_prog[159]? = some (k_Mo_findLeads, 3, 0, []) := rfl
theorem m_Mo_bring : ax_prog[160]? = some (k_Mo_bring, 4, 0, []) := rfl
theorem m_Mo_cell : ax_prog[161]? = some (k_Mo_cell, 3, 1, []) := rfl
theorem m_Mo_remain : ax_prog[162]? = some (k_Mo_remain, 3, 0, []) := rfl
theorem m_Mo_gather : ax_prog[163]? = some (k_Mo_gather, 6, 1, []) := rfl
theorem m_Mo_lose : ax_prog[164]? = some (k_Mo_lose, 5, 0, []) := rfl
theorem m_Mo_shorten : ax_prog[165]? = some (k_Mo_shorten, 4, 0, []) := rfl
theorem m_Mo_floor : ax_prog[166]? = some (k_Mo_floor, 5, 0, []) := rfl
theorem m_Mo_fill : ax_prog[167]? = some (k_Mo_fill, 5, 0, []) := rfl
theorem m_Mo_kernel : ax_prog[168]? = some (k_Mo_kernel, 7, 1, []) := rfl
theorem m_Mo_lookBeside : ax_prog[169]? = some (k_Mo_lookBeside, 4, 0, []) := rfl
theorem m_Mo_kernelFrom : ax_prog[170]? = some (k_Mo_kernelFrom, 3, 1, []) := rfl
theorem m_Mo_solve : ax_prog[171]? = some (k_Mo_solve, 7, 1, []) := rfl
theorem m_Mo_determinant : ax_prog[172]? = some (k_Mo_determinant, 2, 1, []) := rfl
theorem m_Mo_say : ax_prog[173]? = some (k_Mo_say, 2, 1, []) := rfl
theorem m_Mo_bigSign : ax_prog[174]? = some (k_Mo_bigSign, 2, 1, []) := rfl
theorem m_Mo_sayMore : ax_prog[175]? = some (k_Mo_sayMore, 4, 0, []) := rfl
theorem m_Mo_bigTenth : ax_prog[176]? = some (k_Mo_bigTenth, 5, 1, []) := rfl
theorem m_Mo_divisor : ax_prog[177]? = some (k_Mo_divisor, 4, 1, []) := rfl
theorem m_Mo_factor : ax_prog[178]? = some (k_Mo_factor, 4, 1, []) := rfl
theorem m_Mo_inverse : ax_prog[179]? = some (k_Mo_inverse, 8, 1, []) := rfl
theorem m_Mo_bigIsOne : ax_prog[180]? = some (k_Mo_bigIsOne, 2, 2, []) := rfl
theorem m_Mo_characteristic : ax_prog[181]? = some (k_Mo_characteristic, 6, 1, []) := rfl
theorem m_Mo_character : ax_prog[182]? = some (k_Mo_character, 2, 1, []) := rfl
theorem m_Mo_same : ax_prog[183]? = some (k_Mo_same, 6, 2, []) := rfl
theorem m_Mo_check : ax_prog[184]? = some (k_Mo_check, 2, 1, []) := rfl
theorem m_La_law : ax_prog[185]? = some (k_La_law, 8, 2, []) := rfl
end
section
/-! REASONING ABOUT THE ABSTRACT MACHINE: it comes to an end, whatever the fuel -/
def ax_noret (i : Instr) : Prop := i ≠ .return_ ∧ i ≠ .ireturn ∧ i ≠ .lreturn ∧ i ≠ .areturn
theorem ax_ret_none {i : Instr} (h : ax_noret i) (rk : Nat) (st : List Value) : ax_ret rk i st = none := by
  unfold ax_ret
  split
  · exact absurd rfl h.1
  · exact absurd rfl h.2.1
  · exact absurd rfl h.2.2.1
  · exact absurd rfl h.2.2.2
  · rfl
theorem ax_step_noret {kinds : List (List Nat)} {kI : List Int32} {kJ : List Int64} {xs : List Int32} {e : ax_E} {pc : Nat} {ls : List (Option Value)} {st : List Value} {w : ax_W} {r : Nat × List (Option Value) × List Value × ax_W} (h : ax_step kinds kI kJ xs e pc ls st w = some r) :
    ax_noret e.1 ∧ e.1 ≠ .athrow ∧ ¬ ax_isinv e.1 := by
  obtain ⟨i, len, a, b, j⟩ := e
  have key : ∀ i, (ax_st i ls st = none ∧ ax_sto i ls st = none ∧ ax_br i a (pc + len) pc st = none ∧ ax_hp kinds kI kJ xs (i, len, a, b, j) st w = none) → ax_step kinds kI kJ xs (i, len, a, b, j) pc ls st w = none := by
    intro i h
    unfold ax_step
    rw [h.1]
    simp only
    rw [h.2.1]
    simp only
    rw [h.2.2.1]
    simp only
    rw [h.2.2.2]
  refine ⟨⟨?_, ?_, ?_, ?_⟩, ?_, ?_⟩
  · intro q; simp only at q; subst q; rw [key _ ⟨rfl, rfl, rfl, rfl⟩] at h; cases h
  · intro q; simp only at q; subst q; rw [key _ ⟨rfl, rfl, rfl, rfl⟩] at h; cases h
  · intro q; simp only at q; subst q; rw [key _ ⟨rfl, rfl, rfl, rfl⟩] at h; cases h
  · intro q; simp only at q; subst q; rw [key _ ⟨rfl, rfl, rfl, rfl⟩] at h; cases h
  · intro q; simp only at q; subst q; rw [key _ ⟨rfl, rfl, rfl, rfl⟩] at h; cases h
  · rintro (⟨idx, q⟩ | ⟨idx, q⟩ | ⟨idx, q⟩)
    · simp only at q; subst q; rw [key _ ⟨rfl, rfl, rfl, rfl⟩] at h; cases h
    · simp only at q; subst q; rw [key _ ⟨rfl, rfl, rfl, rfl⟩] at h; cases h
    · simp only at q; subst q; rw [key _ ⟨rfl, rfl, rfl, rfl⟩] at h; cases h
/-- the other way round than ax_turn -/
theorem ax_back {xs : List Int32} {f fr lo z pc : Nat} {ls : List (Option Value)} {st : List Value} {w : ax_W} {r : Outcome × ax_W} {M : ax_M} {e : ax_E} (hM : ax_prog[z]? = some M) (he : M.1[pc]? = some (some e))
    (h : (∃ v, ax_ret M.2.2.1 e.1 st = some v ∧ r = (.returned v, w)) ∨ (∃ i t, e.1 = .athrow ∧ st = .ref i :: t ∧ M.2.2.2.isEmpty = true ∧ r = (.threw i, w)) ∨
       (ax_isinv e.1 ∧ ax_road xs f fr lo z pc ls st w M e = some r) ∨ (∃ pc' ls' st' w', ax_step ax_kinds ax_kI ax_kJ xs e pc ls st w = some (pc', ls', st', w') ∧ ax_run xs f fr lo z pc' ls' st' w' = some r)) :
    ax_run xs (f + 1) fr lo z pc ls st w = some r := by
  unfold ax_run
  rw [ax_ex]
  simp only [ax_P, hM, he]
  rcases h with ⟨v, hv, rfl⟩ | ⟨i, t, hi, rfl, hemp, rfl⟩ | ⟨hinv, hr⟩ | ⟨pc', ls', st', w', hs, hr⟩
  · rw [hv]
  · rw [hi, ax_ret_none ⟨by simp, by simp, by simp, by simp⟩]
    simp only [hemp, if_true]
  · rcases hinv with ⟨idx, hi⟩ | ⟨idx, hi⟩ | ⟨idx, hi⟩
    · rw [hi, ax_ret_none ⟨by simp, by simp, by simp, by simp⟩]
      exact hr
    · rw [hi, ax_ret_none ⟨by simp, by simp, by simp, by simp⟩]
      exact hr
    · rw [hi, ax_ret_none ⟨by simp, by simp, by simp, by simp⟩]
      exact hr
  · obtain ⟨h1, h2, h3⟩ := ax_step_noret hs
    rw [ax_ret_none h1]
    simp only
    split
    · rename_i q; exact absurd q h2
    · rename_i idx q; exact absurd (Or.inl ⟨idx, q⟩) h3
    · rename_i idx q; exact absurd (Or.inr (Or.inl ⟨idx, q⟩)) h3
    · rename_i idx q; exact absurd (Or.inr (Or.inr ⟨idx, q⟩)) h3
    · rw [hs]
      exact hr
theorem ax_more {xs : List Int32} : ∀ (f fr lo z pc : Nat) (ls : List (Option Value)) (st : List Value) (w : ax_W) (r : Outcome × ax_W), ax_run xs f fr lo z pc ls st w = some r → ax_run xs (f + 1) fr lo z pc ls st w = some r := by
  intro f
  induction f with
  | zero => intro fr lo z pc ls st w r h; cases h
  | succ f ih =>
    intro fr lo z pc ls st w r h
    obtain ⟨M, e, hM, he, hc⟩ := ax_turn h
    refine ax_back hM he ?_
    rcases hc with hc | hc | ⟨hinv, hr⟩ | ⟨pc', ls', st', w', hs, hr⟩
    · exact Or.inl hc
    · exact Or.inr (Or.inl hc)
    · refine Or.inr (Or.inr (Or.inl ⟨hinv, ?_⟩))
      unfold ax_road at hr ⊢
      split at hr
      · rename_i h1
        rw [if_pos h1]
        split at hr
        · exact ih _ _ _ _ _ _ _ _ hr
        · cases hr
      · rename_i h1
        rw [if_neg h1]
        split at hr
        · cases hr
        · split at hr
          · cases hr
          · rename_i h2
            rw [if_neg h2]
            split at hr
            · cases hr
            · rename_i h3
              rw [if_neg h3]
              split at hr
              · cases hr
              · rename_i h4
                rw [if_neg h4]
                split at hr
                · cases hr
                · rename_i h5
                  rw [if_neg h5]
                  split at hr
                  · cases hr
                  · rename_i h6
                    rw [if_neg h6]
                    split at hr
                    · rename_i h7
                      rw [if_pos h7]
                      split at hr
                      · cases hr
                      · rename_i h8
                        rw [ih _ _ _ _ _ _ _ _ h8]
                        exact ih _ _ _ _ _ _ _ _ hr
                      · rename_i h8
                        rw [ih _ _ _ _ _ _ _ _ h8]
                        simp only
                        split at hr
                        · cases hr
                        · split at hr
                          · exact ih _ _ _ _ _ _ _ _ hr
                          · exact hr
                    · cases hr
    · exact Or.inr (Or.inr (Or.inr ⟨pc', ls', st', w', hs, ih _ _ _ _ _ _ _ _ hr⟩))
theorem ax_moreN {xs : List Int32} {f fr lo z pc : Nat} {ls : List (Option Value)} {st : List Value} {w : ax_W} {r : Outcome × ax_W} (k : Nat) (h : ax_run xs f fr lo z pc ls st w = some r) : ax_run xs (f + k) fr lo z pc ls st w = some r := by
  induction k with
  | zero => exact h
  | succ k ih => exact ax_more _ _ _ _ _ _ _ _ _ ih
/-- the machine comes to this end -/
def ax_Ok (xs : List Int32) (fr lo z pc : Nat) (ls : List (Option Value)) (st : List Value) (w : ax_W) (o : Outcome) (w' : ax_W) : Prop := ∃ f, ax_run xs f fr lo z pc ls st w = some (o, w')
section OK
variable {xs : List Int32} {fr lo z pc : Nat} {ls : List (Option Value)} {st : List Value} {w w' : ax_W} {o : Outcome}
theorem ok_ret {M : ax_M} {e : ax_E} (hM : ax_prog[z]? = some M) (he : M.1[pc]? = some (some e)) {v : Option Value} (hv : ax_ret M.2.2.1 e.1 st = some v) : ax_Ok xs fr lo z pc ls st w (.returned v) w := ⟨1, ax_back hM he (Or.inl ⟨v, hv, rfl⟩)⟩
theorem ok_throw {M : ax_M} {e : ax_E} (hM : ax_prog[z]? = some M) (he : M.1[pc]? = some (some e)) {i : Nat} {t : List Value} (hi : e.1 = .athrow) (hemp : M.2.2.2.isEmpty = true) : ax_Ok xs fr lo z pc ls (.ref i :: t) w (.threw i) w := ⟨1, ax_back hM he (Or.inr (Or.inl ⟨i, t, hi, rfl, hemp, rfl⟩))⟩
theorem ok_step {M : ax_M} {e : ax_E} (hM : ax_prog[z]? = some M) (he : M.1[pc]? = some (some e)) {pc' : Nat} {ls' : List (Option Value)} {st' : List Value} {w1 : ax_W} (hs : ax_step ax_kinds ax_kI ax_kJ xs e pc ls st w = some (pc', ls', st', w1)) (k : ax_Ok xs fr lo z pc' ls' st' w1 o w') : ax_Ok xs fr lo z pc ls st w o w' := by
  obtain ⟨f, hf⟩ := k
  exact ⟨f + 1, ax_back hM he (Or.inr (Or.inr (Or.inr ⟨_, _, _, _, hs, hf⟩)))⟩
theorem ok_spc {M : ax_M} {e : ax_E} (hM : ax_prog[z]? = some M) (he : M.1[pc]? = some (some e)) (hinv : ax_isinv e.1) (h1 : 1000 ≤ e.2.2.1) {st' : List Value} {w1 : ax_W} (hs : ax_spc fr lo e.2.2.1 st w = some (st', w1)) (k : ax_Ok xs fr lo z (pc + 3) ls st' w1 o w') : ax_Ok xs fr lo z pc ls st w o w' := by
  obtain ⟨f, hf⟩ := k
  refine ⟨f + 1, ax_back hM he (Or.inr (Or.inr (Or.inl ⟨hinv, ?_⟩)))⟩
  unfold ax_road
  rw [if_pos h1, hs]
  exact hf
/-- a call that returns: as the callee's values, st = as.reverse ++ rest -/
theorem ok_call {M M' : ax_M} {e : ax_E} (hM : ax_prog[z]? = some M) (he : M.1[pc]? = some (some e)) (hinv : ax_isinv e.1) {zc b : Nat} (hz : e.2.2.1 = zc) (hb : e.2.2.2.1 = b) (h1 : zc < 1000) (hM' : ax_prog[zc]? = some M') (hfr : 1 ≤ fr) (hlo : M'.2.1 + 19 ≤ lo)
    {as rest : List Value} (hst : st = as.reverse ++ rest) (hn : as.length = b % 100) (hwt : (rest.map ax_wt).sum ≤ 8) (hsl : (ax_sl as).length ≤ M'.2.1) (hrc : ax_rcv (b / 100) as w = true) {v : Option Value} {w1 : ax_W}
    (hc : ax_Ok xs (fr - 1) (lo - (M'.2.1 + 19)) zc 0 (ax_ent as M'.2.1) [] w (.returned v) w1) (k : ax_Ok xs fr lo z (pc + 3) ls (v.toList ++ rest) w1 o w') : ax_Ok xs fr lo z pc ls st w o w' := by
  obtain ⟨f1, hf1⟩ := hc
  obtain ⟨f2, hf2⟩ := k
  refine ⟨f1 + f2 + 1, ax_back hM he (Or.inr (Or.inr (Or.inl ⟨hinv, ?_⟩)))⟩
  subst hst
  have ht : ((as.reverse ++ rest).take (b % 100)).reverse = as := by
    rw [List.take_append_of_le_length (by simp; omega), List.take_of_length_le (by simp; omega), List.reverse_reverse]
  have hd : (as.reverse ++ rest).drop (b % 100) = rest := by
    rw [List.drop_append_of_le_length (by simp; omega), List.drop_eq_nil_of_le (by simp; omega), List.nil_append]
  unfold ax_road
  rw [hz, hb, if_neg (by omega)]
  simp only [ax_P, hM']
  rw [if_neg (by omega), if_neg (by omega), if_neg (by simp; omega), hd, ht, if_neg (by omega), if_neg (by omega), hrc, if_pos rfl, ax_moreN f2 hf1]
  simp only
  have := ax_moreN f1 hf2
  rw [Nat.add_comm] at this
  exact this
/-- a call that throws, and no handler here -/
theorem ok_callT {M M' : ax_M} {e : ax_E} (hM : ax_prog[z]? = some M) (he : M.1[pc]? = some (some e)) (hinv : ax_isinv e.1) {zc b : Nat} (hz : e.2.2.1 = zc) (hb : e.2.2.2.1 = b) (h1 : zc < 1000) (hM' : ax_prog[zc]? = some M') (hfr : 1 ≤ fr) (hlo : M'.2.1 + 19 ≤ lo)
    {as rest : List Value} (hst : st = as.reverse ++ rest) (hn : as.length = b % 100) (hwt : (rest.map ax_wt).sum ≤ 8) (hsl : (ax_sl as).length ≤ M'.2.1) (hrc : ax_rcv (b / 100) as w = true) {i t : Nat} {q : List Value} {w1 : ax_W}
    (hc : ax_Ok xs (fr - 1) (lo - (M'.2.1 + 19)) zc 0 (ax_ent as M'.2.1) [] w (.threw i) w1) (hi : w1[i]? = some (t, q)) (hemp : M.2.2.2 = []) : ax_Ok xs fr lo z pc ls st w (.threw i) w1 := by
  obtain ⟨f1, hf1⟩ := hc
  refine ⟨f1 + 1, ax_back hM he (Or.inr (Or.inr (Or.inl ⟨hinv, ?_⟩)))⟩
  subst hst
  have ht : ((as.reverse ++ rest).take (b % 100)).reverse = as := by
    rw [List.take_append_of_le_length (by simp; omega), List.take_of_length_le (by simp; omega), List.reverse_reverse]
  have hd : (as.reverse ++ rest).drop (b % 100) = rest := by
    rw [List.drop_append_of_le_length (by simp; omega), List.drop_eq_nil_of_le (by simp; omega), List.nil_append]
  unfold ax_road
  rw [hz, hb, if_neg (by omega)]
  simp only [ax_P, hM']
  rw [if_neg (by omega), if_neg (by omega), if_neg (by simp; omega), hd, ht, if_neg (by omega), if_neg (by omega), hrc, if_pos rfl, hf1]
  simp only [hi, hemp, ax_hdl, List.isEmpty_nil, if_true]
/-- a call that throws, caught here -/
theorem ok_callC {M M' : ax_M} {e : ax_E} (hM : ax_prog[z]? = some M) (he : M.1[pc]? = some (some e)) (hinv : ax_isinv e.1) {zc b : Nat} (hz : e.2.2.1 = zc) (hb : e.2.2.2.1 = b) (h1 : zc < 1000) (hM' : ax_prog[zc]? = some M') (hfr : 1 ≤ fr) (hlo : M'.2.1 + 19 ≤ lo)
    {as rest : List Value} (hst : st = as.reverse ++ rest) (hn : as.length = b % 100) (hwt : (rest.map ax_wt).sum ≤ 8) (hsl : (ax_sl as).length ≤ M'.2.1) (hrc : ax_rcv (b / 100) as w = true) {i t h : Nat} {q : List Value} {w1 : ax_W}
    (hc : ax_Ok xs (fr - 1) (lo - (M'.2.1 + 19)) zc 0 (ax_ent as M'.2.1) [] w (.threw i) w1) (hi : w1[i]? = some (t, q)) (hh : ax_hdl M.2.2.2 pc t = some h) (k : ax_Ok xs fr lo z h ls [.ref i] w1 o w') : ax_Ok xs fr lo z pc ls st w o w' := by
  obtain ⟨f1, hf1⟩ := hc
  obtain ⟨f2, hf2⟩ := k
  refine ⟨f1 + f2 + 1, ax_back hM he (Or.inr (Or.inr (Or.inl ⟨hinv, ?_⟩)))⟩
  subst hst
  have ht : ((as.reverse ++ rest).take (b % 100)).reverse = as := by
    rw [List.take_append_of_le_length (by simp; omega), List.take_of_length_le (by simp; omega), List.reverse_reverse]
  have hd : (as.reverse ++ rest).drop (b % 100) = rest := by
    rw [List.drop_append_of_le_length (by simp; omega), List.drop_eq_nil_of_le (by simp; omega), List.nil_append]
  unfold ax_road
  rw [hz, hb, if_neg (by omega)]
  simp only [ax_P, hM']
  rw [if_neg (by omega), if_neg (by omega), if_neg (by simp; omega), hd, ht, if_neg (by omega), if_neg (by omega), hrc, if_pos rfl, ax_moreN f2 hf1]
  simp only [hi, hh]
  have := ax_moreN f1 hf2
  rw [Nat.add_comm] at this
  exact this
end OK
section OK2
variable {xs : List Int32} {fr lo z : Nat} {ls : List (Option Value)} {st : List Value} {w w' : ax_W} {o : Outcome}
theorem ok_ite {c : Prop} [Decidable c] {a b : Nat} (h1 : c → ax_Ok xs fr lo z a ls st w o w') (h2 : ¬ c → ax_Ok xs fr lo z b ls st w o w') : ax_Ok xs fr lo z (if c then a else b) ls st w o w' := by
  split
  · rename_i h; exact h1 h
  · rename_i h; exact h2 h
theorem ok_cast {ls2 : List (Option Value)} {st2 : List Value} {w2 : ax_W} {pc pc2 : Nat} (h : ax_Ok xs fr lo z pc2 ls2 st2 w2 o w') (e1 : pc = pc2) (e2 : ls = ls2) (e3 : st = st2) (e4 : w = w2) : ax_Ok xs fr lo z pc ls st w o w' := by
  subst e1; subst e2; subst e3; subst e4; exact h
end OK2
theorem cmp_eq {x y : Int32} : ax_cmp .eq x y = true ↔ x = y := by simp [ax_cmp]
theorem cmp_ne {x y : Int32} : ax_cmp .ne x y = true ↔ ¬ x = y := by simp [ax_cmp]
theorem cmp_lt {x y : Int32} : ax_cmp .lt x y = true ↔ x < y := by simp [ax_cmp]
theorem cmp_ge {x y : Int32} : ax_cmp .ge x y = true ↔ y ≤ x := by simp [ax_cmp]
theorem cmp_gt {x y : Int32} : ax_cmp .gt x y = true ↔ y < x := by simp [ax_cmp]
theorem cmp_le {x y : Int32} : ax_cmp .le x y = true ↔ x ≤ y := by simp [ax_cmp]
section OK3
variable {xs : List Int32} {fr lo z pc : Nat} {ls : List (Option Value)} {st : List Value} {w w' : ax_W} {o : Outcome} {M : ax_M}
theorem ok_get {idx len c k j : Nat} (hM : ax_prog[z]? = some M) (he : M.1[pc]? = some (some (.getfield idx, len, c, k, j))) {i : Nat} {fs : List Value} {v : Value} (hw : w[i]? = some (c, fs)) (hv : fs[k]? = some v) (kk : ax_Ok xs fr lo z (pc + len) ls (v :: st) w o w') : ax_Ok xs fr lo z pc ls (.ref i :: st) w o w' := by
  refine ok_step hM he (w1 := w) ?_ kk
  have : ax_hp ax_kinds ax_kI ax_kJ xs (.getfield idx, len, c, k, j) (.ref i :: st) w = some (v :: st, w) := by
    simp [ax_hp, ax_get, hw, hv]
  show (match ax_hp ax_kinds ax_kI ax_kJ xs (.getfield idx, len, c, k, j) (.ref i :: st) w with
    | some (st', w') => some (pc + len, ls, st', w')
    | none => none) = _
  rw [this]
theorem ok_put {idx len c k j : Nat} (hM : ax_prog[z]? = some M) (he : M.1[pc]? = some (some (.putfield idx, len, c, k, j))) {ks : List Nat} {fk : Nat} (h1 : ax_kinds[c]? = some ks) (h2 : ks[k]? = some fk) {i : Nat} {fs : List Value} {v : Value} (hf : ax_fit fk v = true) (hw : w[i]? = some (c, fs)) (hk : k < fs.length) (kk : ax_Ok xs fr lo z (pc + len) ls st (w.set i (c, fs.set k v)) o w') : ax_Ok xs fr lo z pc ls (v :: .ref i :: st) w o w' := by
  refine ok_step hM he (w1 := w.set i (c, fs.set k v)) ?_ kk
  have : ax_hp ax_kinds ax_kI ax_kJ xs (.putfield idx, len, c, k, j) (v :: .ref i :: st) w = some (st, w.set i (c, fs.set k v)) := by
    simp [ax_hp, ax_put, hw, h1, h2, hf, hk]
  show (match ax_hp ax_kinds ax_kI ax_kJ xs (.putfield idx, len, c, k, j) (v :: .ref i :: st) w with
    | some (st', w') => some (pc + len, ls, st', w')
    | none => none) = _
  rw [this]
/-- an instruction of the heap, by what ax_hp gives -/
theorem ok_hp {e : ax_E} (hM : ax_prog[z]? = some M) (he : M.1[pc]? = some (some e)) (h1 : ax_st e.1 ls st = none) (h2 : ax_sto e.1 ls st = none) (h3 : ax_br e.1 e.2.2.1 (pc + e.2.1) pc st = none) {st' : List Value} {w1 : ax_W} (h4 : ax_hp ax_kinds ax_kI ax_kJ xs e st w = some (st', w1)) (kk : ax_Ok xs fr lo z (pc + e.2.1) ls st' w1 o w') : ax_Ok xs fr lo z pc ls st w o w' := by
  refine ok_step hM he (w1 := w1) ?_ kk
  unfold ax_step
  rw [h1]
  simp only
  rw [h2]
  simp only
  rw [h3]
  simp only
  rw [h4]
theorem ok_iald {len c k j : Nat} (hM : ax_prog[z]? = some M) (he : M.1[pc]? = some (some (.iaload, len, c, k, j))) {i : Nat} {n : Int32} {vs : List Value} {v : Value} (hw : w[i]? = some (20, vs)) (hn : ¬ n < 0) (hv : vs[n.toNatClampNeg]? = some v) (kk : ax_Ok xs fr lo z (pc + len) ls (v :: st) w o w') : ax_Ok xs fr lo z pc ls (.int n :: .ref i :: st) w o w' :=
  ok_hp hM he rfl rfl rfl (by simp [ax_hp, ax_ald, ax_rd, hw, hn, hv]) kk
theorem ok_lald {len c k j : Nat} (hM : ax_prog[z]? = some M) (he : M.1[pc]? = some (some (.laload, len, c, k, j))) {i : Nat} {n : Int32} {vs : List Value} {v : Value} (hw : w[i]? = some (21, vs)) (hn : ¬ n < 0) (hv : vs[n.toNatClampNeg]? = some v) (kk : ax_Ok xs fr lo z (pc + len) ls (v :: st) w o w') : ax_Ok xs fr lo z pc ls (.int n :: .ref i :: st) w o w' :=
  ok_hp hM he rfl rfl rfl (by simp [ax_hp, ax_ald, ax_rd, hw, hn, hv]) kk
theorem ok_cald {len c k j : Nat} (hM : ax_prog[z]? = some M) (he : M.1[pc]? = some (some (.caload, len, c, k, j))) {i : Nat} {n : Int32} {vs : List Value} {v : Value} (hw : w[i]? = some (22, vs)) (hn : ¬ n < 0) (hv : vs[n.toNatClampNeg]? = some v) (kk : ax_Ok xs fr lo z (pc + len) ls (v :: st) w o w') : ax_Ok xs fr lo z pc ls (.int n :: .ref i :: st) w o w' :=
  ok_hp hM he rfl rfl rfl (by simp [ax_hp, ax_ald, ax_rd, hw, hn, hv]) kk
theorem ok_zald {len c k j : Nat} (hM : ax_prog[z]? = some M) (he : M.1[pc]? = some (some (.baload, len, c, k, j))) {i : Nat} {n : Int32} {vs : List Value} {v : Value} (hw : w[i]? = some (23, vs)) (hn : ¬ n < 0) (hv : vs[n.toNatClampNeg]? = some v) (kk : ax_Ok xs fr lo z (pc + len) ls (v :: st) w o w') : ax_Ok xs fr lo z pc ls (.int n :: .ref i :: st) w o w' :=
  ok_hp hM he rfl rfl rfl (by simp [ax_hp, ax_ald, ax_rd, hw, hn, hv]) kk
theorem ok_aald {len c k j : Nat} (hM : ax_prog[z]? = some M) (he : M.1[pc]? = some (some (.aaload, len, c, k, j))) {i t : Nat} {n : Int32} {vs : List Value} {v : Value} (hw : w[i]? = some (t, vs)) (ht : ¬ t < 30) (hn : ¬ n < 0) (hv : vs[n.toNatClampNeg]? = some v) (kk : ax_Ok xs fr lo z (pc + len) ls (v :: st) w o w') : ax_Ok xs fr lo z pc ls (.int n :: .ref i :: st) w o w' :=
  ok_hp hM he rfl rfl rfl (by simp [ax_hp, ax_aald, hw, ht, hn, hv]) kk
theorem ok_alen {len c k j : Nat} (hM : ax_prog[z]? = some M) (he : M.1[pc]? = some (some (.arraylength, len, c, k, j))) {i t : Nat} {vs : List Value} (hw : w[i]? = some (t, vs)) (ht : ¬ t < 20) (kk : ax_Ok xs fr lo z (pc + len) ls (.int vs.length.toInt32 :: st) w o w') : ax_Ok xs fr lo z pc ls (.ref i :: st) w o w' :=
  ok_hp hM he rfl rfl rfl (by simp [ax_hp, ax_alen, hw, ht]) kk
theorem ok_iast {len c k j : Nat} (hM : ax_prog[z]? = some M) (he : M.1[pc]? = some (some (.iastore, len, c, k, j))) {i : Nat} {n x : Int32} {vs : List Value} (hw : w[i]? = some (20, vs)) (hn : ¬ n < 0) (hl : n.toNatClampNeg < vs.length) (kk : ax_Ok xs fr lo z (pc + len) ls st (w.set i (20, vs.set n.toNatClampNeg (.int x))) o w') : ax_Ok xs fr lo z pc ls (.int x :: .int n :: .ref i :: st) w o w' :=
  ok_hp hM he rfl rfl rfl (by simp [ax_hp, ax_ast, ax_wr, hw, hn, hl]) kk
theorem ok_last {len c k j : Nat} (hM : ax_prog[z]? = some M) (he : M.1[pc]? = some (some (.lastore, len, c, k, j))) {i : Nat} {n : Int32} {x : Int64} {vs : List Value} (hw : w[i]? = some (21, vs)) (hn : ¬ n < 0) (hl : n.toNatClampNeg < vs.length) (kk : ax_Ok xs fr lo z (pc + len) ls st (w.set i (21, vs.set n.toNatClampNeg (.long x))) o w') : ax_Ok xs fr lo z pc ls (.long x :: .int n :: .ref i :: st) w o w' :=
  ok_hp hM he rfl rfl rfl (by simp [ax_hp, ax_last, ax_wr, hw, hn, hl]) kk
theorem ok_cast22 {len c k j : Nat} (hM : ax_prog[z]? = some M) (he : M.1[pc]? = some (some (.castore, len, c, k, j))) {i : Nat} {n x : Int32} {vs : List Value} (hw : w[i]? = some (22, vs)) (hn : ¬ n < 0) (hl : n.toNatClampNeg < vs.length) (h0 : ¬ x < 0) (h1 : ¬ 65535 < x) (kk : ax_Ok xs fr lo z (pc + len) ls st (w.set i (22, vs.set n.toNatClampNeg (.int x))) o w') : ax_Ok xs fr lo z pc ls (.int x :: .int n :: .ref i :: st) w o w' :=
  ok_hp hM he rfl rfl rfl (by simp [ax_hp, ax_cast, ax_ast, ax_wr, hw, hn, hl, h0, h1]) kk
theorem ok_zast {len c k j : Nat} (hM : ax_prog[z]? = some M) (he : M.1[pc]? = some (some (.bastore, len, c, k, j))) {i : Nat} {n x : Int32} {vs : List Value} (hw : w[i]? = some (23, vs)) (hn : ¬ n < 0) (hl : n.toNatClampNeg < vs.length) (h0 : ¬ x < 0) (h1 : ¬ 1 < x) (kk : ax_Ok xs fr lo z (pc + len) ls st (w.set i (23, vs.set n.toNatClampNeg (.int x))) o w') : ax_Ok xs fr lo z pc ls (.int x :: .int n :: .ref i :: st) w o w' :=
  ok_hp hM he rfl rfl rfl (by simp [ax_hp, ax_cast, ax_ast, ax_wr, hw, hn, hl, h0, h1]) kk
end OK3
end
section
/-! the same with what holds at the end: fin .. Q -/
def fin (xs : List Int32) (fr lo z pc : Nat) (ls : List (Option Value)) (st : List Value) (w : ax_W) (Q : Outcome → ax_W → Prop) : Prop := ∃ o w', ax_Ok xs fr lo z pc ls st w o w' ∧ Q o w'
/-- it returns -/
def Ret (P : Option Value → ax_W → Prop) : Outcome → ax_W → Prop := fun o w => ∃ v, o = .returned v ∧ P v w
/-- it returns v, and the world is as it was -/
def Same (v : Value) (w : ax_W) : Outcome → ax_W → Prop := fun o w' => o = .returned (some v) ∧ w' = w
section FIN
variable {xs : List Int32} {fr lo z pc : Nat} {ls : List (Option Value)} {st : List Value} {w : ax_W} {Q Q' : Outcome → ax_W → Prop} {M : ax_M}
theorem fi_mono (h : fin xs fr lo z pc ls st w Q) (hq : ∀ o w', Q o w' → Q' o w') : fin xs fr lo z pc ls st w Q' := by
  obtain ⟨o, w', h1, h2⟩ := h; exact ⟨o, w', h1, hq o w' h2⟩
theorem fi_ret {e : ax_E} (hM : ax_prog[z]? = some M) (he : M.1[pc]? = some (some e)) {v : Option Value} (hv : ax_ret M.2.2.1 e.1 st = some v) (hq : Q (.returned v) w) : fin xs fr lo z pc ls st w Q := ⟨_, _, ok_ret hM he hv, hq⟩
theorem fi_throw {e : ax_E} (hM : ax_prog[z]? = some M) (he : M.1[pc]? = some (some e)) {i : Nat} {t : List Value} (hi : e.1 = .athrow) (hemp : M.2.2.2.isEmpty = true) (hq : Q (.threw i) w) : fin xs fr lo z pc ls (.ref i :: t) w Q := ⟨_, _, ok_throw hM he hi hemp, hq⟩
theorem fi_step {e : ax_E} (hM : ax_prog[z]? = some M) (he : M.1[pc]? = some (some e)) {pc' : Nat} {ls' : List (Option Value)} {st' : List Value} {w1 : ax_W} (hs : ax_step ax_kinds ax_kI ax_kJ xs e pc ls st w = some (pc', ls', st', w1)) (k : fin xs fr lo z pc' ls' st' w1 Q) : fin xs fr lo z pc ls st w Q := by
  obtain ⟨o, w', h, hq⟩ := k; exact ⟨o, w', ok_step hM he hs h, hq⟩
theorem fi_spc {e : ax_E} (hM : ax_prog[z]? = some M) (he : M.1[pc]? = some (some e)) (hinv : ax_isinv e.1) (h1 : 1000 ≤ e.2.2.1) {st' : List Value} {w1 : ax_W} (hs : ax_spc fr lo e.2.2.1 st w = some (st', w1)) (k : fin xs fr lo z (pc + 3) ls st' w1 Q) : fin xs fr lo z pc ls st w Q := by
  obtain ⟨o, w', h, hq⟩ := k; exact ⟨o, w', ok_spc hM he hinv h1 hs h, hq⟩
theorem fi_hp {e : ax_E} (hM : ax_prog[z]? = some M) (he : M.1[pc]? = some (some e)) (h1 : ax_st e.1 ls st = none) (h2 : ax_sto e.1 ls st = none) (h3 : ax_br e.1 e.2.2.1 (pc + e.2.1) pc st = none) {st' : List Value} {w1 : ax_W} (h4 : ax_hp ax_kinds ax_kI ax_kJ xs e st w = some (st', w1)) (kk : fin xs fr lo z (pc + e.2.1) ls st' w1 Q) : fin xs fr lo z pc ls st w Q := by
  obtain ⟨o, w', h, hq⟩ := kk; exact ⟨o, w', ok_hp hM he h1 h2 h3 h4 h, hq⟩
theorem fi_get {idx len c k j : Nat} (hM : ax_prog[z]? = some M) (he : M.1[pc]? = some (some (.getfield idx, len, c, k, j))) {i : Nat} {fs : List Value} {v : Value} (hw : w[i]? = some (c, fs)) (hv : fs[k]? = some v) (kk : fin xs fr lo z (pc + len) ls (v :: st) w Q) : fin xs fr lo z pc ls (.ref i :: st) w Q := by
  obtain ⟨o, w', h, hq⟩ := kk; exact ⟨o, w', ok_get hM he hw hv h, hq⟩
theorem fi_put {idx len c k j : Nat} (hM : ax_prog[z]? = some M) (he : M.1[pc]? = some (some (.putfield idx, len, c, k, j))) {ks : List Nat} {fk : Nat} (h1 : ax_kinds[c]? = some ks) (h2 : ks[k]? = some fk) {i : Nat} {fs : List Value} {v : Value} (hf : ax_fit fk v = true) (hw : w[i]? = some (c, fs)) (hk : k < fs.length) (kk : fin xs fr lo z (pc + len) ls st (w.set i (c, fs.set k v)) Q) : fin xs fr lo z pc ls (v :: .ref i :: st) w Q := by
  obtain ⟨o, w', h, hq⟩ := kk; exact ⟨o, w', ok_put hM he h1 h2 hf hw hk h, hq⟩
theorem fi_iald {len c k j : Nat} (hM : ax_prog[z]? = some M) (he : M.1[pc]? = some (some (.iaload, len, c, k, j))) {i : Nat} {n : Int32} {vs : List Value} {v : Value} (hw : w[i]? = some (20, vs)) (hn : ¬ n < 0) (hv : vs[n.toNatClampNeg]? = some v) (kk : fin xs fr lo z (pc + len) ls (v :: st) w Q) : fin xs fr lo z pc ls (.int n :: .ref i :: st) w Q := by
  obtain ⟨o, w', h, hq⟩ := kk; exact ⟨o, w', ok_iald hM he hw hn hv h, hq⟩
theorem fi_lald {len c k j : Nat} (hM : ax_prog[z]? = some M) (he : M.1[pc]? = some (some (.laload, len, c, k, j))) {i : Nat} {n : Int32} {vs : List Value} {v : Value} (hw : w[i]? = some (21, vs)) (hn : ¬ n < 0) (hv : vs[n.toNatClampNeg]? = some v) (kk : fin xs fr lo z (pc + len) ls (v :: st) w Q) : fin xs fr lo z pc ls (.int n :: .ref i :: st) w Q := by
  obtain ⟨o, w', h, hq⟩ := kk; exact ⟨o, w', ok_lald hM he hw hn hv h, hq⟩
theorem fi_cald {len c k j : Nat} (hM : ax_prog[z]? = some M) (he : M.1[pc]? = some (some (.caload, len, c, k, j))) {i : Nat} {n : Int32} {vs : List Value} {v : Value} (hw : w[i]? = some (22, vs)) (hn : ¬ n < 0) (hv : vs[n.toNatClampNeg]? = some v) (kk : fin xs fr lo z (pc + len) ls (v :: st) w Q) : fin xs fr lo z pc ls (.int n :: .ref i :: st) w Q := by
  obtain ⟨o, w', h, hq⟩ := kk; exact ⟨o, w', ok_cald hM he hw hn hv h, hq⟩
theorem fi_zald {len c k j : Nat} (hM : ax_prog[z]? = some M) (he : M.1[pc]? = some (some (.baload, len, c, k, j))) {i : Nat} {n : Int32} {vs : List Value} {v : Value} (hw : w[i]? = some (23, vs)) (hn : ¬ n < 0) (hv : vs[n.toNatClampNeg]? = some v) (kk : fin xs fr lo z (pc + len) ls (v :: st) w Q) : fin xs fr lo z pc ls (.int n :: .ref i :: st) w Q := by
  obtain ⟨o, w', h, hq⟩ := kk; exact ⟨o, w', ok_zald hM he hw hn hv h, hq⟩
theorem fi_aald {len c k j : Nat} (hM : ax_prog[z]? = some M) (he : M.1[pc]? = some (some (.aaload, len, c, k, j))) {i t : Nat} {n : Int32} {vs : List Value} {v : Value} (hw : w[i]? = some (t, vs)) (ht : ¬ t < 30) (hn : ¬ n < 0) (hv : vs[n.toNatClampNeg]? = some v) (kk : fin xs fr lo z (pc + len) ls (v :: st) w Q) : fin xs fr lo z pc ls (.int n :: .ref i :: st) w Q := by
  obtain ⟨o, w', h, hq⟩ := kk; exact ⟨o, w', ok_aald hM he hw ht hn hv h, hq⟩
theorem fi_alen {len c k j : Nat} (hM : ax_prog[z]? = some M) (he : M.1[pc]? = some (some (.arraylength, len, c, k, j))) {i t : Nat} {vs : List Value} (hw : w[i]? = some (t, vs)) (ht : ¬ t < 20) (kk : fin xs fr lo z (pc + len) ls (.int vs.length.toInt32 :: st) w Q) : fin xs fr lo z pc ls (.ref i :: st) w Q := by
  obtain ⟨o, w', h, hq⟩ := kk; exact ⟨o, w', ok_alen hM he hw ht h, hq⟩
theorem fi_iast {len c k j : Nat} (hM : ax_prog[z]? = some M) (he : M.1[pc]? = some (some (.iastore, len, c, k, j))) {i : Nat} {n x : Int32} {vs : List Value} (hw : w[i]? = some (20, vs)) (hn : ¬ n < 0) (hl : n.toNatClampNeg < vs.length) (kk : fin xs fr lo z (pc + len) ls st (w.set i (20, vs.set n.toNatClampNeg (.int x))) Q) : fin xs fr lo z pc ls (.int x :: .int n :: .ref i :: st) w Q := by
  obtain ⟨o, w', h, hq⟩ := kk; exact ⟨o, w', ok_iast hM he hw hn hl h, hq⟩
theorem fi_last {len c k j : Nat} (hM : ax_prog[z]? = some M) (he : M.1[pc]? = some (some (.lastore, len, c, k, j))) {i : Nat} {n : Int32} {x : Int64} {vs : List Value} (hw : w[i]? = some (21, vs)) (hn : ¬ n < 0) (hl : n.toNatClampNeg < vs.length) (kk : fin xs fr lo z (pc + len) ls st (w.set i (21, vs.set n.toNatClampNeg (.long x))) Q) : fin xs fr lo z pc ls (.long x :: .int n :: .ref i :: st) w Q := by
  obtain ⟨o, w', h, hq⟩ := kk; exact ⟨o, w', ok_last hM he hw hn hl h, hq⟩
theorem fi_cast {len c k j : Nat} (hM : ax_prog[z]? = some M) (he : M.1[pc]? = some (some (.castore, len, c, k, j))) {i : Nat} {n x : Int32} {vs : List Value} (hw : w[i]? = some (22, vs)) (hn : ¬ n < 0) (hl : n.toNatClampNeg < vs.length) (h0 : ¬ x < 0) (h1 : ¬ 65535 < x) (kk : fin xs fr lo z (pc + len) ls st (w.set i (22, vs.set n.toNatClampNeg (.int x))) Q) : fin xs fr lo z pc ls (.int x :: .int n :: .ref i :: st) w Q := by
  obtain ⟨o, w', h, hq⟩ := kk; exact ⟨o, w', ok_cast22 hM he hw hn hl h0 h1 h, hq⟩
theorem fi_zast {len c k j : Nat} (hM : ax_prog[z]? = some M) (he : M.1[pc]? = some (some (.bastore, len, c, k, j))) {i : Nat} {n x : Int32} {vs : List Value} (hw : w[i]? = some (23, vs)) (hn : ¬ n < 0) (hl : n.toNatClampNeg < vs.length) (h0 : ¬ x < 0) (h1 : ¬ 1 < x) (kk : fin xs fr lo z (pc + len) ls st (w.set i (23, vs.set n.toNatClampNeg (.int x))) Q) : fin xs fr lo z pc ls (.int x :: .int n :: .ref i :: st) w Q := by
  obtain ⟨o, w', h, hq⟩ := kk; exact ⟨o, w', ok_zast hM he hw hn hl h0 h1 h, hq⟩
/-- a call: what the callee comes to, and how it goes on: behind a return, or (with no handler, or a handler h) behind a throw -/
theorem fi_call {M' : ax_M} {e : ax_E} (hM : ax_prog[z]? = some M) (he : M.1[pc]? = some (some e)) (hinv : ax_isinv e.1) {zc b : Nat} (hz : e.2.2.1 = zc) (hb : e.2.2.2.1 = b) (h1 : zc < 1000) (hM' : ax_prog[zc]? = some M') (hfr : 1 ≤ fr) (hlo : M'.2.1 + 19 ≤ lo)
    {as rest : List Value} (hst : st = as.reverse ++ rest) (hn : as.length = b % 100) (hwt : (rest.map ax_wt).sum ≤ 8) (hsl : (ax_sl as).length ≤ M'.2.1) (hrc : ax_rcv (b / 100) as w = true)
    (hc : fin xs (fr - 1) (lo - (M'.2.1 + 19)) zc 0 (ax_ent as M'.2.1) [] w Q')
    (kr : ∀ v w1, Q' (.returned v) w1 → fin xs fr lo z (pc + 3) ls (v.toList ++ rest) w1 Q)
    (kt : ∀ i w1, Q' (.threw i) w1 → ∃ t q, w1[i]? = some (t, q) ∧ ((M.2.2.2 = [] ∧ Q (.threw i) w1) ∨ ∃ h, ax_hdl M.2.2.2 pc t = some h ∧ fin xs fr lo z h ls [.ref i] w1 Q)) : fin xs fr lo z pc ls st w Q := by
  obtain ⟨o, w1, hk, hq⟩ := hc
  cases o with
  | returned v =>
    obtain ⟨o2, w2, hk2, hq2⟩ := kr v w1 hq
    exact ⟨o2, w2, ok_call hM he hinv hz hb h1 hM' hfr hlo hst hn hwt hsl hrc hk hk2, hq2⟩
  | threw i =>
    obtain ⟨t, q, hi, hh | ⟨h, hh, o2, w2, hk2, hq2⟩⟩ := kt i w1 hq
    · exact ⟨_, _, ok_callT hM he hinv hz hb h1 hM' hfr hlo hst hn hwt hsl hrc hk hi hh.1, hh.2⟩
    · exact ⟨o2, w2, ok_callC hM he hinv hz hb h1 hM' hfr hlo hst hn hwt hsl hrc hk hi hh hk2, hq2⟩
end FIN
end
section
/-! the machine's numbers as whole numbers: jI, jL; a rule an instruction, with the next pc said -/
abbrev jI (e : Int) : Int32 := Int32.ofInt e
abbrev jL (e : Int) : Int64 := Int64.ofInt e
theorem jI_toInt {a : Int} (h0 : -2147483648 ≤ a) (h1 : a < 2147483648) : (jI a).toInt = a := Int32.toInt_ofInt_of_le (by omega) (by omega)
theorem jL_toInt {a : Int} (h0 : -9223372036854775808 ≤ a) (h1 : a < 9223372036854775808) : (jL a).toInt = a := Int64.toInt_ofInt_of_le (by omega) (by omega)
theorem jI_inj {a b : Int} (a0 : -2147483648 ≤ a) (a1 : a < 2147483648) (b0 : -2147483648 ≤ b) (b1 : b < 2147483648) : jI a = jI b ↔ a = b := by
  constructor
  · intro h
    have := congrArg Int32.toInt h
    rwa [jI_toInt a0 a1, jI_toInt b0 b1] at this
  · intro h; rw [h]
theorem jI_lt {a b : Int} (a0 : -2147483648 ≤ a) (a1 : a < 2147483648) (b0 : -2147483648 ≤ b) (b1 : b < 2147483648) : jI a < jI b ↔ a < b := by
  rw [Int32.lt_iff_toInt_lt, jI_toInt a0 a1, jI_toInt b0 b1]
theorem jI_le {a b : Int} (a0 : -2147483648 ≤ a) (a1 : a < 2147483648) (b0 : -2147483648 ≤ b) (b1 : b < 2147483648) : jI a ≤ jI b ↔ a ≤ b := by
  rw [Int32.le_iff_toInt_le, jI_toInt a0 a1, jI_toInt b0 b1]
theorem jL_inj {a b : Int} (a0 : -9223372036854775808 ≤ a) (a1 : a < 9223372036854775808) (b0 : -9223372036854775808 ≤ b) (b1 : b < 9223372036854775808) : jL a = jL b ↔ a = b := by
  constructor
  · intro h
    have := congrArg Int64.toInt h
    rwa [jL_toInt a0 a1, jL_toInt b0 b1] at this
  · intro h; rw [h]
theorem jL_lt {a b : Int} (a0 : -9223372036854775808 ≤ a) (a1 : a < 9223372036854775808) (b0 : -9223372036854775808 ≤ b) (b1 : b < 9223372036854775808) : jL a < jL b ↔ a < b := by
  rw [Int64.lt_iff_toInt_lt, jL_toInt a0 a1, jL_toInt b0 b1]
theorem jI_zero : jI 0 = 0 := rfl
theorem jL_zero : jL 0 = 0 := rfl
theorem jI_nat {a : Int} (h0 : 0 ≤ a) (h1 : a < 2147483648) : (jI a).toNatClampNeg = a.toNat := Int32.toNatClampNeg_ofInt_of_le (by omega) (by omega)
theorem jI_nn {a : Int} (h0 : 0 ≤ a) (h1 : a < 2147483648) : ¬ jI a < 0 := by
  rw [← jI_zero, jI_lt (by omega) (by omega) (by omega) (by omega)]; omega
theorem jI_div {a b : Int} (a0 : 0 ≤ a) (a1 : a < 2147483648) (b0 : 0 < b) (b1 : b < 2147483648) : jI a / jI b = jI (a / b) := by
  have h := Int32.ofInt_tdiv (a := a) (b := b) (by show (-2147483648 : Int) ≤ a; omega) (by show a ≤ (2147483647 : Int); omega) (by show (-2147483648 : Int) ≤ b; omega) (by show b ≤ (2147483647 : Int); omega)
  rw [Int.tdiv_eq_ediv_of_nonneg a0] at h
  exact h.symm
theorem jI_rem {a b : Int} (a0 : 0 ≤ a) (a1 : a < 2147483648) (b0 : 0 < b) (b1 : b < 2147483648) : jI a - jI a / jI b * jI b = jI (a % b) := by
  rw [jI_div a0 a1 b0 b1, ← Int32.ofInt_mul, ← Int32.ofInt_sub, Int.emod_def, Int.mul_comm]
theorem jL_tdiv {a b : Int} (a0 : -9223372036854775808 ≤ a) (a1 : a < 9223372036854775808) (b0 : 0 < b) (b1 : b < 9223372036854775808) : jL a / jL b = jL (a.tdiv b) :=
  (Int64.ofInt_tdiv (a := a) (b := b) (by show (-9223372036854775808 : Int) ≤ a; omega) (by show a ≤ (9223372036854775807 : Int); omega) (by show (-9223372036854775808 : Int) ≤ b; omega) (by show b ≤ (9223372036854775807 : Int); omega)).symm
theorem jL_trem {a b : Int} (a0 : -9223372036854775808 ≤ a) (a1 : a < 9223372036854775808) (b0 : 0 < b) (b1 : b < 9223372036854775808) : jL a - jL a / jL b * jL b = jL (a.tmod b) := by
  rw [jL_tdiv a0 a1 b0 b1, ← Int64.ofInt_mul, ← Int64.ofInt_sub, Int.tmod_def, Int.mul_comm]
theorem jL_div {a b : Int} (a0 : 0 ≤ a) (a1 : a < 9223372036854775808) (b0 : 0 < b) (b1 : b < 9223372036854775808) : jL a / jL b = jL (a / b) := by
  rw [jL_tdiv (by omega) a1 b0 b1, Int.tdiv_eq_ediv_of_nonneg a0]
theorem jL_rem {a b : Int} (a0 : 0 ≤ a) (a1 : a < 9223372036854775808) (b0 : 0 < b) (b1 : b < 9223372036854775808) : jL a - jL a / jL b * jL b = jL (a % b) := by
  rw [jL_div a0 a1 b0 b1, ← Int64.ofInt_mul, ← Int64.ofInt_sub, Int.emod_def, Int.mul_comm]
theorem jI_ne0 {b : Int} (b0 : 0 < b) (b1 : b < 2147483648) : ¬ jI b = 0 := by
  rw [← jI_zero, jI_inj (by omega) (by omega) (by omega) (by omega)]; omega
theorem jL_ne0 {b : Int} (b0 : 0 < b) (b1 : b < 9223372036854775808) : ¬ jL b = 0 := by
  rw [← jL_zero, jL_inj (by omega) (by omega) (by omega) (by omega)]; omega
theorem jI_i2l {a : Int} (a0 : -2147483648 ≤ a) (a1 : a < 2147483648) : (jI a).toInt64 = jL a :=
  Int32.toInt64_ofInt (by show (-2147483648 : Int) ≤ a; omega) (by show a ≤ (2147483647 : Int); omega)
section ALU
variable {xs : List Int32} {fr lo z pc p l u1 u2 u3 : Nat} {ls : List (Option Value)} {st : List Value} {w : ax_W} {Q : Outcome → ax_W → Prop} {M : ax_M} {a b : Int}
theorem s_iadd (hM : ax_prog[z]? = some M) (he : M.1[pc]? = some (some (.iadd, l, u1, u2, u3))) (hp : pc + l = p) (kk : fin xs fr lo z p ls (.int (jI (a + b)) :: st) w Q) : fin xs fr lo z pc ls (.int (jI b) :: .int (jI a) :: st) w Q := by
  subst hp; rw [show jI (a + b) = jI a + jI b from Int32.ofInt_add a b] at kk; exact fi_step hM he rfl kk
theorem s_isub (hM : ax_prog[z]? = some M) (he : M.1[pc]? = some (some (.isub, l, u1, u2, u3))) (hp : pc + l = p) (kk : fin xs fr lo z p ls (.int (jI (a - b)) :: st) w Q) : fin xs fr lo z pc ls (.int (jI b) :: .int (jI a) :: st) w Q := by
  subst hp; rw [show jI (a - b) = jI a - jI b from Int32.ofInt_sub a b] at kk; exact fi_step hM he rfl kk
theorem s_imul (hM : ax_prog[z]? = some M) (he : M.1[pc]? = some (some (.imul, l, u1, u2, u3))) (hp : pc + l = p) (kk : fin xs fr lo z p ls (.int (jI (a * b)) :: st) w Q) : fin xs fr lo z pc ls (.int (jI b) :: .int (jI a) :: st) w Q := by
  subst hp; rw [show jI (a * b) = jI a * jI b from Int32.ofInt_mul a b] at kk; exact fi_step hM he rfl kk
theorem s_ineg (hM : ax_prog[z]? = some M) (he : M.1[pc]? = some (some (.ineg, l, u1, u2, u3))) (hp : pc + l = p) (kk : fin xs fr lo z p ls (.int (jI (-a)) :: st) w Q) : fin xs fr lo z pc ls (.int (jI a) :: st) w Q := by
  subst hp; rw [show jI (-a) = -jI a from Int32.ofInt_neg a] at kk; exact fi_step hM he rfl kk
theorem s_ladd (hM : ax_prog[z]? = some M) (he : M.1[pc]? = some (some (.ladd, l, u1, u2, u3))) (hp : pc + l = p) (kk : fin xs fr lo z p ls (.long (jL (a + b)) :: st) w Q) : fin xs fr lo z pc ls (.long (jL b) :: .long (jL a) :: st) w Q := by
  subst hp; rw [show jL (a + b) = jL a + jL b from Int64.ofInt_add a b] at kk; exact fi_step hM he rfl kk
theorem s_lsub (hM : ax_prog[z]? = some M) (he : M.1[pc]? = some (some (.lsub, l, u1, u2, u3))) (hp : pc + l = p) (kk : fin xs fr lo z p ls (.long (jL (a - b)) :: st) w Q) : fin xs fr lo z pc ls (.long (jL b) :: .long (jL a) :: st) w Q := by
  subst hp; rw [show jL (a - b) = jL a - jL b from Int64.ofInt_sub a b] at kk; exact fi_step hM he rfl kk
theorem s_lmul (hM : ax_prog[z]? = some M) (he : M.1[pc]? = some (some (.lmul, l, u1, u2, u3))) (hp : pc + l = p) (kk : fin xs fr lo z p ls (.long (jL (a * b)) :: st) w Q) : fin xs fr lo z pc ls (.long (jL b) :: .long (jL a) :: st) w Q := by
  subst hp; rw [show jL (a * b) = jL a * jL b from Int64.ofInt_mul a b] at kk; exact fi_step hM he rfl kk
theorem s_lneg (hM : ax_prog[z]? = some M) (he : M.1[pc]? = some (some (.lneg, l, u1, u2, u3))) (hp : pc + l = p) (kk : fin xs fr lo z p ls (.long (jL (-a)) :: st) w Q) : fin xs fr lo z pc ls (.long (jL a) :: st) w Q := by
  subst hp; rw [show jL (-a) = -jL a from Int64.ofInt_neg a] at kk; exact fi_step hM he rfl kk
/-- quotient and rest of numbers not below 0 -/
theorem s_idiv (hM : ax_prog[z]? = some M) (he : M.1[pc]? = some (some (.idiv, l, u1, u2, u3))) (hp : pc + l = p) (a0 : 0 ≤ a) (a1 : a < 2147483648) (b0 : 0 < b) (b1 : b < 2147483648) (kk : fin xs fr lo z p ls (.int (jI (a / b)) :: st) w Q) : fin xs fr lo z pc ls (.int (jI b) :: .int (jI a) :: st) w Q := by
  subst hp; refine fi_step hM he (w1 := w) ?_ kk
  simp [ax_step, ax_st, ax_iz, jI_ne0 b0 b1, jI_div a0 a1 b0 b1]
theorem s_irem (hM : ax_prog[z]? = some M) (he : M.1[pc]? = some (some (.irem, l, u1, u2, u3))) (hp : pc + l = p) (a0 : 0 ≤ a) (a1 : a < 2147483648) (b0 : 0 < b) (b1 : b < 2147483648) (kk : fin xs fr lo z p ls (.int (jI (a % b)) :: st) w Q) : fin xs fr lo z pc ls (.int (jI b) :: .int (jI a) :: st) w Q := by
  subst hp; refine fi_step hM he (w1 := w) ?_ kk
  simp [ax_step, ax_st, ax_iz, jI_ne0 b0 b1, jI_rem a0 a1 b0 b1]
theorem s_ldiv (hM : ax_prog[z]? = some M) (he : M.1[pc]? = some (some (.ldiv, l, u1, u2, u3))) (hp : pc + l = p) (a0 : 0 ≤ a) (a1 : a < 9223372036854775808) (b0 : 0 < b) (b1 : b < 9223372036854775808) (kk : fin xs fr lo z p ls (.long (jL (a / b)) :: st) w Q) : fin xs fr lo z pc ls (.long (jL b) :: .long (jL a) :: st) w Q := by
  subst hp; refine fi_step hM he (w1 := w) ?_ kk
  simp [ax_step, ax_st, ax_lz, jL_ne0 b0 b1, jL_div a0 a1 b0 b1]
theorem s_lrem (hM : ax_prog[z]? = some M) (he : M.1[pc]? = some (some (.lrem, l, u1, u2, u3))) (hp : pc + l = p) (a0 : 0 ≤ a) (a1 : a < 9223372036854775808) (b0 : 0 < b) (b1 : b < 9223372036854775808) (kk : fin xs fr lo z p ls (.long (jL (a % b)) :: st) w Q) : fin xs fr lo z pc ls (.long (jL b) :: .long (jL a) :: st) w Q := by
  subst hp; refine fi_step hM he (w1 := w) ?_ kk
  simp [ax_step, ax_st, ax_lz, jL_ne0 b0 b1, jL_rem a0 a1 b0 b1]
/-- the same, rounded towards 0 -/
theorem s_ltdiv (hM : ax_prog[z]? = some M) (he : M.1[pc]? = some (some (.ldiv, l, u1, u2, u3))) (hp : pc + l = p) (a0 : -9223372036854775808 ≤ a) (a1 : a < 9223372036854775808) (b0 : 0 < b) (b1 : b < 9223372036854775808) (kk : fin xs fr lo z p ls (.long (jL (a.tdiv b)) :: st) w Q) : fin xs fr lo z pc ls (.long (jL b) :: .long (jL a) :: st) w Q := by
  subst hp; refine fi_step hM he (w1 := w) ?_ kk
  simp [ax_step, ax_st, ax_lz, jL_ne0 b0 b1, jL_tdiv a0 a1 b0 b1]
theorem s_ltrem (hM : ax_prog[z]? = some M) (he : M.1[pc]? = some (some (.lrem, l, u1, u2, u3))) (hp : pc + l = p) (a0 : -9223372036854775808 ≤ a) (a1 : a < 9223372036854775808) (b0 : 0 < b) (b1 : b < 9223372036854775808) (kk : fin xs fr lo z p ls (.long (jL (a.tmod b)) :: st) w Q) : fin xs fr lo z pc ls (.long (jL b) :: .long (jL a) :: st) w Q := by
  subst hp; refine fi_step hM he (w1 := w) ?_ kk
  simp [ax_step, ax_st, ax_lz, jL_ne0 b0 b1, jL_trem a0 a1 b0 b1]
theorem s_i2l (hM : ax_prog[z]? = some M) (he : M.1[pc]? = some (some (.i2l, l, u1, u2, u3))) (hp : pc + l = p) (a0 : -2147483648 ≤ a) (a1 : a < 2147483648) (kk : fin xs fr lo z p ls (.long (jL a) :: st) w Q) : fin xs fr lo z pc ls (.int (jI a) :: st) w Q := by
  subst hp; rw [← jI_i2l a0 a1] at kk; exact fi_step hM he rfl kk
theorem s_l2i (hM : ax_prog[z]? = some M) (he : M.1[pc]? = some (some (.l2i, l, u1, u2, u3))) (hp : pc + l = p) (kk : fin xs fr lo z p ls (.int (jI a) :: st) w Q) : fin xs fr lo z pc ls (.long (jL a) :: st) w Q := by
  subst hp; rw [show jI a = (jL a).toInt32 from Int64.toInt32_ofInt.symm] at kk; exact fi_step hM he rfl kk
theorem s_i2c (hM : ax_prog[z]? = some M) (he : M.1[pc]? = some (some (.i2c, l, u1, u2, u3))) (hp : pc + l = p) (a0 : 0 ≤ a) (a1 : a < 65536) (kk : fin xs fr lo z p ls (.int (jI a) :: st) w Q) : fin xs fr lo z pc ls (.int (jI a) :: st) w Q := by
  subst hp; refine fi_step hM he (w1 := w) ?_ kk
  have : ((jI a).toUInt32 % 65536).toInt32 = jI a := by
    obtain ⟨n, rfl⟩ := Int.eq_ofNat_of_zero_le a0
    have hn : n < 65536 := by omega
    apply Int32.toBitVec.inj
    apply BitVec.eq_of_toNat_eq
    simp [jI, Int32.ofInt, Int32.toBitVec]
    omega
  simp only [ax_step, ax_st, ax_i1, this]
theorem s_bipush {v : Int} (hM : ax_prog[z]? = some M) (he : M.1[pc]? = some (some (.bipush v, l, u1, u2, u3))) (hp : pc + l = p) (hv : (Int8.ofInt v).toInt32 = jI v) (kk : fin xs fr lo z p ls (.int (jI v) :: st) w Q) : fin xs fr lo z pc ls st w Q := by
  subst hp; rw [← hv] at kk; exact fi_step hM he rfl kk
theorem s_sipush {v : Int} (hM : ax_prog[z]? = some M) (he : M.1[pc]? = some (some (.sipush v, l, u1, u2, u3))) (hp : pc + l = p) (hv : (Int16.ofInt v).toInt32 = jI v) (kk : fin xs fr lo z p ls (.int (jI v) :: st) w Q) : fin xs fr lo z pc ls st w Q := by
  subst hp; rw [← hv] at kk; exact fi_step hM he rfl kk
theorem s_lconst {n : Fin 2} (hM : ax_prog[z]? = some M) (he : M.1[pc]? = some (some (.lconst n, l, u1, u2, u3))) (hp : pc + l = p) {v : Int} (hv : Int64.ofNat (n : Nat) = jL v) (kk : fin xs fr lo z p ls (.long (jL v) :: st) w Q) : fin xs fr lo z pc ls st w Q := by
  subst hp; rw [← hv] at kk; exact fi_step hM he rfl kk
theorem s_ldc {idx k : Nat} (v : Int) (hM : ax_prog[z]? = some M) (he : M.1[pc]? = some (some (.ldc idx, l, k, 0, u3))) (hp : pc + l = p) (hv : ax_kI[k]? = some (jI v)) (kk : fin xs fr lo z p ls (.int (jI v) :: st) w Q) : fin xs fr lo z pc ls st w Q := by
  subst hp; exact fi_hp hM he rfl rfl rfl (by simp [ax_hp, hv]) kk
theorem s_ldcw {idx k : Nat} (v : Int) (hM : ax_prog[z]? = some M) (he : M.1[pc]? = some (some (.ldc_w idx, l, k, 0, u3))) (hp : pc + l = p) (hv : ax_kI[k]? = some (jI v)) (kk : fin xs fr lo z p ls (.int (jI v) :: st) w Q) : fin xs fr lo z pc ls st w Q := by
  subst hp; exact fi_hp hM he rfl rfl rfl (by simp [ax_hp, hv]) kk
theorem s_ldc2 {idx k : Nat} (v : Int) (hM : ax_prog[z]? = some M) (he : M.1[pc]? = some (some (.ldc2_w idx, l, k, u2, u3))) (hp : pc + l = p) (hv : ax_kJ[k]? = some (jL v)) (kk : fin xs fr lo z p ls (.long (jL v) :: st) w Q) : fin xs fr lo z pc ls st w Q := by
  subst hp; exact fi_hp hM he rfl rfl rfl (by simp [ax_hp, hv]) kk
theorem s_iinc {n : Nat} {k : Int} (hM : ax_prog[z]? = some M) (he : M.1[pc]? = some (some (.iinc n k, l, u1, u2, u3))) (hp : pc + l = p) (hl : ls[n]? = some (some (.int (jI a)))) (kk : fin xs fr lo z p (ax_set1 ls n (.int (jI (a + k)))) st w Q) : fin xs fr lo z pc ls st w Q := by
  subst hp; rw [show jI (a + k) = jI a + jI k from Int32.ofInt_add a k] at kk
  refine fi_step hM he (w1 := w) ?_ kk
  simp [ax_step, ax_st, ax_sto, ax_inc, hl]
end ALU
end
section
/-! branches, on whole numbers (written by wip/gen/branches.py) -/
theorem cmp_eq_j {a b : Int} (a0 : -2147483648 ≤ a) (a1 : a < 2147483648) (b0 : -2147483648 ≤ b) (b1 : b < 2147483648) : ax_cmp .eq (jI a) (jI b) = true ↔ a = b := cmp_eq.trans (jI_inj a0 a1 b0 b1)
theorem cmp_ne_j {a b : Int} (a0 : -2147483648 ≤ a) (a1 : a < 2147483648) (b0 : -2147483648 ≤ b) (b1 : b < 2147483648) : ax_cmp .ne (jI a) (jI b) = true ↔ ¬ a = b := cmp_ne.trans (not_congr (jI_inj a0 a1 b0 b1))
theorem cmp_lt_j {a b : Int} (a0 : -2147483648 ≤ a) (a1 : a < 2147483648) (b0 : -2147483648 ≤ b) (b1 : b < 2147483648) : ax_cmp .lt (jI a) (jI b) = true ↔ a < b := cmp_lt.trans (jI_lt a0 a1 b0 b1)
theorem cmp_ge_j {a b : Int} (a0 : -2147483648 ≤ a) (a1 : a < 2147483648) (b0 : -2147483648 ≤ b) (b1 : b < 2147483648) : ax_cmp .ge (jI a) (jI b) = true ↔ b ≤ a := cmp_ge.trans (jI_le b0 b1 a0 a1)
theorem cmp_gt_j {a b : Int} (a0 : -2147483648 ≤ a) (a1 : a < 2147483648) (b0 : -2147483648 ≤ b) (b1 : b < 2147483648) : ax_cmp .gt (jI a) (jI b) = true ↔ b < a := cmp_gt.trans (jI_lt b0 b1 a0 a1)
theorem cmp_le_j {a b : Int} (a0 : -2147483648 ≤ a) (a1 : a < 2147483648) (b0 : -2147483648 ≤ b) (b1 : b < 2147483648) : ax_cmp .le (jI a) (jI b) = true ↔ a ≤ b := cmp_le.trans (jI_le a0 a1 b0 b1)
theorem lgc_lt {a b : Int} (a0 : -9223372036854775808 ≤ a) (a1 : a < 9223372036854775808) (b0 : -9223372036854775808 ≤ b) (b1 : b < 9223372036854775808) : lg_cmp (jL a) (jL b) < 0 ↔ a < b := by
  unfold lg_cmp
  split
  · rename_i h; have := (jL_lt b0 b1 a0 a1).mp h; constructor
    · intro q; exact absurd q (by decide)
    · intro q; omega
  · rename_i h; have h' : ¬ b < a := fun q => h ((jL_lt b0 b1 a0 a1).mpr q)
    split
    · rename_i g; have := (jL_inj a0 a1 b0 b1).mp g; constructor
      · intro q; exact absurd q (by decide)
      · intro q; omega
    · rename_i g; have g' : ¬ a = b := fun q => g (by rw [q]); constructor
      · intro _; omega
      · intro _; decide
theorem lgc_eq {a b : Int} (a0 : -9223372036854775808 ≤ a) (a1 : a < 9223372036854775808) (b0 : -9223372036854775808 ≤ b) (b1 : b < 9223372036854775808) : lg_cmp (jL a) (jL b) = 0 ↔ a = b := by
  unfold lg_cmp
  split
  · rename_i h; have := (jL_lt b0 b1 a0 a1).mp h; constructor
    · intro q; exact absurd q (by decide)
    · intro q; omega
  · split
    · rename_i g; have := (jL_inj a0 a1 b0 b1).mp g; exact ⟨fun _ => this, fun _ => rfl⟩
    · rename_i g; have g' : ¬ a = b := fun q => g (by rw [q]); constructor
      · intro q; exact absurd q (by decide)
      · intro q; exact absurd q g'
theorem lgc_gt {a b : Int} (a0 : -9223372036854775808 ≤ a) (a1 : a < 9223372036854775808) (b0 : -9223372036854775808 ≤ b) (b1 : b < 9223372036854775808) : 0 < lg_cmp (jL a) (jL b) ↔ b < a := by
  unfold lg_cmp
  split
  · rename_i h; exact ⟨fun _ => (jL_lt b0 b1 a0 a1).mp h, fun _ => by decide⟩
  · rename_i h; have h' : ¬ b < a := fun q => h ((jL_lt b0 b1 a0 a1).mpr q)
    split
    · constructor
      · intro q; exact absurd q (by decide)
      · intro q; exact absurd q h'
    · constructor
      · intro q; exact absurd q (by decide)
      · intro q; exact absurd q h'
theorem lgc_ge {a b : Int} (a0 : -9223372036854775808 ≤ a) (a1 : a < 9223372036854775808) (b0 : -9223372036854775808 ≤ b) (b1 : b < 9223372036854775808) : 0 ≤ lg_cmp (jL a) (jL b) ↔ b ≤ a := by
  rw [← Int32.not_lt, lgc_lt a0 a1 b0 b1]; omega
theorem lgc_le {a b : Int} (a0 : -9223372036854775808 ≤ a) (a1 : a < 9223372036854775808) (b0 : -9223372036854775808 ≤ b) (b1 : b < 9223372036854775808) : lg_cmp (jL a) (jL b) ≤ 0 ↔ a ≤ b := by
  rw [← Int32.not_lt, lgc_gt a0 a1 b0 b1]; omega
theorem cmp_eq_l {a b : Int} (a0 : -9223372036854775808 ≤ a) (a1 : a < 9223372036854775808) (b0 : -9223372036854775808 ≤ b) (b1 : b < 9223372036854775808) : ax_cmp .eq (lg_cmp (jL a) (jL b)) 0 = true ↔ a = b := cmp_eq.trans (lgc_eq a0 a1 b0 b1)
theorem cmp_ne_l {a b : Int} (a0 : -9223372036854775808 ≤ a) (a1 : a < 9223372036854775808) (b0 : -9223372036854775808 ≤ b) (b1 : b < 9223372036854775808) : ax_cmp .ne (lg_cmp (jL a) (jL b)) 0 = true ↔ ¬ a = b := cmp_ne.trans (not_congr (lgc_eq a0 a1 b0 b1))
theorem cmp_lt_l {a b : Int} (a0 : -9223372036854775808 ≤ a) (a1 : a < 9223372036854775808) (b0 : -9223372036854775808 ≤ b) (b1 : b < 9223372036854775808) : ax_cmp .lt (lg_cmp (jL a) (jL b)) 0 = true ↔ a < b := cmp_lt.trans (lgc_lt a0 a1 b0 b1)
theorem cmp_ge_l {a b : Int} (a0 : -9223372036854775808 ≤ a) (a1 : a < 9223372036854775808) (b0 : -9223372036854775808 ≤ b) (b1 : b < 9223372036854775808) : ax_cmp .ge (lg_cmp (jL a) (jL b)) 0 = true ↔ b ≤ a := cmp_ge.trans (lgc_ge a0 a1 b0 b1)
theorem cmp_gt_l {a b : Int} (a0 : -9223372036854775808 ≤ a) (a1 : a < 9223372036854775808) (b0 : -9223372036854775808 ≤ b) (b1 : b < 9223372036854775808) : ax_cmp .gt (lg_cmp (jL a) (jL b)) 0 = true ↔ b < a := cmp_gt.trans (lgc_gt a0 a1 b0 b1)
theorem cmp_le_l {a b : Int} (a0 : -9223372036854775808 ≤ a) (a1 : a < 9223372036854775808) (b0 : -9223372036854775808 ≤ b) (b1 : b < 9223372036854775808) : ax_cmp .le (lg_cmp (jL a) (jL b)) 0 = true ↔ a ≤ b := cmp_le.trans (lgc_le a0 a1 b0 b1)
section BR
variable {xs : List Int32} {fr lo z pc p q t l l1 u1 u2 u3 v1 v2 v3 : Nat} {d : Int} {ls : List (Option Value)} {st : List Value} {w : ax_W} {Q : Outcome → ax_W → Prop} {M : ax_M} {a b : Int}
theorem s_if_eq (hM : ax_prog[z]? = some M) (he : M.1[pc]? = some (some (.ifCond .eq d, l, t, u2, u3))) (hp : pc + l = p) (a0 : -2147483648 ≤ a) (a1 : a < 2147483648) (h1 : a = 0 → fin xs fr lo z t ls st w Q) (h2 : ¬ a = 0 → fin xs fr lo z p ls st w Q) : fin xs fr lo z pc ls (.int (jI a) :: st) w Q := by
  subst hp
  refine fi_step hM he (w1 := w) (pc' := if ax_cmp .eq (jI a) (jI 0) then t else pc + l) rfl ?_
  by_cases hc : a = 0
  · rw [if_pos ((cmp_eq_j a0 a1 (b := 0) (by decide) (by decide)).mpr hc)]; exact h1 hc
  · rw [if_neg (fun e => hc ((cmp_eq_j a0 a1 (b := 0) (by decide) (by decide)).mp e))]; exact h2 (hc)
theorem s_ic_eq (hM : ax_prog[z]? = some M) (he : M.1[pc]? = some (some (.if_icmp .eq d, l, t, u2, u3))) (hp : pc + l = p) (a0 : -2147483648 ≤ a) (a1 : a < 2147483648) (b0 : -2147483648 ≤ b) (b1 : b < 2147483648) (h1 : a = b → fin xs fr lo z t ls st w Q) (h2 : ¬ a = b → fin xs fr lo z p ls st w Q) : fin xs fr lo z pc ls (.int (jI b) :: .int (jI a) :: st) w Q := by
  subst hp
  refine fi_step hM he (w1 := w) (pc' := if ax_cmp .eq (jI a) (jI b) then t else pc + l) rfl ?_
  by_cases hc : a = b
  · rw [if_pos ((cmp_eq_j a0 a1 b0 b1).mpr hc)]; exact h1 hc
  · rw [if_neg (fun e => hc ((cmp_eq_j a0 a1 b0 b1).mp e))]; exact h2 (hc)
theorem s_lc_eq (hM : ax_prog[z]? = some M) (he0 : M.1[pc]? = some (some (.lcmp, l1, v1, v2, v3))) (hq : pc + l1 = q) (he : M.1[q]? = some (some (.ifCond .eq d, l, t, u2, u3))) (hp : q + l = p) (a0 : -9223372036854775808 ≤ a) (a1 : a < 9223372036854775808) (b0 : -9223372036854775808 ≤ b) (b1 : b < 9223372036854775808) (h1 : a = b → fin xs fr lo z t ls st w Q) (h2 : ¬ a = b → fin xs fr lo z p ls st w Q) : fin xs fr lo z pc ls (.long (jL b) :: .long (jL a) :: st) w Q := by
  subst hq; subst hp
  refine fi_step hM he0 (w1 := w) rfl ?_
  refine fi_step hM he (w1 := w) (pc' := if ax_cmp .eq (lg_cmp (jL a) (jL b)) 0 then t else pc + l1 + l) rfl ?_
  by_cases hc : a = b
  · rw [if_pos ((cmp_eq_l a0 a1 b0 b1).mpr hc)]; exact h1 hc
  · rw [if_neg (fun e => hc ((cmp_eq_l a0 a1 b0 b1).mp e))]; exact h2 (hc)
theorem s_if_ne (hM : ax_prog[z]? = some M) (he : M.1[pc]? = some (some (.ifCond .ne d, l, t, u2, u3))) (hp : pc + l = p) (a0 : -2147483648 ≤ a) (a1 : a < 2147483648) (h1 : ¬ a = 0 → fin xs fr lo z t ls st w Q) (h2 : a = 0 → fin xs fr lo z p ls st w Q) : fin xs fr lo z pc ls (.int (jI a) :: st) w Q := by
  subst hp
  refine fi_step hM he (w1 := w) (pc' := if ax_cmp .ne (jI a) (jI 0) then t else pc + l) rfl ?_
  by_cases hc : ¬ a = 0
  · rw [if_pos ((cmp_ne_j a0 a1 (b := 0) (by decide) (by decide)).mpr hc)]; exact h1 hc
  · rw [if_neg (fun e => hc ((cmp_ne_j a0 a1 (b := 0) (by decide) (by decide)).mp e))]; exact h2 (Decidable.not_not.mp hc)
theorem s_ic_ne (hM : ax_prog[z]? = some M) (he : M.1[pc]? = some (some (.if_icmp .ne d, l, t, u2, u3))) (hp : pc + l = p) (a0 : -2147483648 ≤ a) (a1 : a < 2147483648) (b0 : -2147483648 ≤ b) (b1 : b < 2147483648) (h1 : ¬ a = b → fin xs fr lo z t ls st w Q) (h2 : a = b → fin xs fr lo z p ls st w Q) : fin xs fr lo z pc ls (.int (jI b) :: .int (jI a) :: st) w Q := by
  subst hp
  refine fi_step hM he (w1 := w) (pc' := if ax_cmp .ne (jI a) (jI b) then t else pc + l) rfl ?_
  by_cases hc : ¬ a = b
  · rw [if_pos ((cmp_ne_j a0 a1 b0 b1).mpr hc)]; exact h1 hc
  · rw [if_neg (fun e => hc ((cmp_ne_j a0 a1 b0 b1).mp e))]; exact h2 (Decidable.not_not.mp hc)
theorem s_lc_ne (hM : ax_prog[z]? = some M) (he0 : M.1[pc]? = some (some (.lcmp, l1, v1, v2, v3))) (hq : pc + l1 = q) (he : M.1[q]? = some (some (.ifCond .ne d, l, t, u2, u3))) (hp : q + l = p) (a0 : -9223372036854775808 ≤ a) (a1 : a < 9223372036854775808) (b0 : -9223372036854775808 ≤ b) (b1 : b < 9223372036854775808) (h1 : ¬ a = b → fin xs fr lo z t ls st w Q) (h2 : a = b → fin xs fr lo z p ls st w Q) : fin xs fr lo z pc ls (.long (jL b) :: .long (jL a) :: st) w Q := by
  subst hq; subst hp
  refine fi_step hM he0 (w1 := w) rfl ?_
  refine fi_step hM he (w1 := w) (pc' := if ax_cmp .ne (lg_cmp (jL a) (jL b)) 0 then t else pc + l1 + l) rfl ?_
  by_cases hc : ¬ a = b
  · rw [if_pos ((cmp_ne_l a0 a1 b0 b1).mpr hc)]; exact h1 hc
  · rw [if_neg (fun e => hc ((cmp_ne_l a0 a1 b0 b1).mp e))]; exact h2 (Decidable.not_not.mp hc)
theorem s_if_lt (hM : ax_prog[z]? = some M) (he : M.1[pc]? = some (some (.ifCond .lt d, l, t, u2, u3))) (hp : pc + l = p) (a0 : -2147483648 ≤ a) (a1 : a < 2147483648) (h1 : a < 0 → fin xs fr lo z t ls st w Q) (h2 : 0 ≤ a → fin xs fr lo z p ls st w Q) : fin xs fr lo z pc ls (.int (jI a) :: st) w Q := by
  subst hp
  refine fi_step hM he (w1 := w) (pc' := if ax_cmp .lt (jI a) (jI 0) then t else pc + l) rfl ?_
  by_cases hc : a < 0
  · rw [if_pos ((cmp_lt_j a0 a1 (b := 0) (by decide) (by decide)).mpr hc)]; exact h1 hc
  · rw [if_neg (fun e => hc ((cmp_lt_j a0 a1 (b := 0) (by decide) (by decide)).mp e))]; exact h2 (by omega)
theorem s_ic_lt (hM : ax_prog[z]? = some M) (he : M.1[pc]? = some (some (.if_icmp .lt d, l, t, u2, u3))) (hp : pc + l = p) (a0 : -2147483648 ≤ a) (a1 : a < 2147483648) (b0 : -2147483648 ≤ b) (b1 : b < 2147483648) (h1 : a < b → fin xs fr lo z t ls st w Q) (h2 : b ≤ a → fin xs fr lo z p ls st w Q) : fin xs fr lo z pc ls (.int (jI b) :: .int (jI a) :: st) w Q := by
  subst hp
  refine fi_step hM he (w1 := w) (pc' := if ax_cmp .lt (jI a) (jI b) then t else pc + l) rfl ?_
  by_cases hc : a < b
  · rw [if_pos ((cmp_lt_j a0 a1 b0 b1).mpr hc)]; exact h1 hc
  · rw [if_neg (fun e => hc ((cmp_lt_j a0 a1 b0 b1).mp e))]; exact h2 (by omega)
theorem s_lc_lt (hM : ax_prog[z]? = some M) (he0 : M.1[pc]? = some (some (.lcmp, l1, v1, v2, v3))) (hq : pc + l1 = q) (he : M.1[q]? = some (some (.ifCond .lt d, l, t, u2, u3))) (hp : q + l = p) (a0 : -9223372036854775808 ≤ a) (a1 : a < 9223372036854775808) (b0 : -9223372036854775808 ≤ b) (b1 : b < 9223372036854775808) (h1 : a < b → fin xs fr lo z t ls st w Q) (h2 : b ≤ a → fin xs fr lo z p ls st w Q) : fin xs fr lo z pc ls (.long (jL b) :: .long (jL a) :: st) w Q := by
  subst hq; subst hp
  refine fi_step hM he0 (w1 := w) rfl ?_
  refine fi_step hM he (w1 := w) (pc' := if ax_cmp .lt (lg_cmp (jL a) (jL b)) 0 then t else pc + l1 + l) rfl ?_
  by_cases hc : a < b
  · rw [if_pos ((cmp_lt_l a0 a1 b0 b1).mpr hc)]; exact h1 hc
  · rw [if_neg (fun e => hc ((cmp_lt_l a0 a1 b0 b1).mp e))]; exact h2 (by omega)
theorem s_if_ge (hM : ax_prog[z]? = some M) (he : M.1[pc]? = some (some (.ifCond .ge d, l, t, u2, u3))) (hp : pc + l = p) (a0 : -2147483648 ≤ a) (a1 : a < 2147483648) (h1 : 0 ≤ a → fin xs fr lo z t ls st w Q) (h2 : a < 0 → fin xs fr lo z p ls st w Q) : fin xs fr lo z pc ls (.int (jI a) :: st) w Q := by
  subst hp
  refine fi_step hM he (w1 := w) (pc' := if ax_cmp .ge (jI a) (jI 0) then t else pc + l) rfl ?_
  by_cases hc : 0 ≤ a
  · rw [if_pos ((cmp_ge_j a0 a1 (b := 0) (by decide) (by decide)).mpr hc)]; exact h1 hc
  · rw [if_neg (fun e => hc ((cmp_ge_j a0 a1 (b := 0) (by decide) (by decide)).mp e))]; exact h2 (by omega)
theorem s_ic_ge (hM : ax_prog[z]? = some M) (he : M.1[pc]? = some (some (.if_icmp .ge d, l, t, u2, u3))) (hp : pc + l = p) (a0 : -2147483648 ≤ a) (a1 : a < 2147483648) (b0 : -2147483648 ≤ b) (b1 : b < 2147483648) (h1 : b ≤ a → fin xs fr lo z t ls st w Q) (h2 : a < b → fin xs fr lo z p ls st w Q) : fin xs fr lo z pc ls (.int (jI b) :: .int (jI a) :: st) w Q := by
  subst hp
  refine fi_step hM he (w1 := w) (pc' := if ax_cmp .ge (jI a) (jI b) then t else pc + l) rfl ?_
  by_cases hc : b ≤ a
  · rw [if_pos ((cmp_ge_j a0 a1 b0 b1).mpr hc)]; exact h1 hc
  · rw [if_neg (fun e => hc ((cmp_ge_j a0 a1 b0 b1).mp e))]; exact h2 (by omega)
theorem s_lc_ge (hM : ax_prog[z]? = some M) (he0 : M.1[pc]? = some (some (.lcmp, l1, v1, v2, v3))) (hq : pc + l1 = q) (he : M.1[q]? = some (some (.ifCond .ge d, l, t, u2, u3))) (hp : q + l = p) (a0 : -9223372036854775808 ≤ a) (a1 : a < 9223372036854775808) (b0 : -9223372036854775808 ≤ b) (b1 : b < 9223372036854775808) (h1 : b ≤ a → fin xs fr lo z t ls st w Q) (h2 : a < b → fin xs fr lo z p ls st w Q) : fin xs fr lo z pc ls (.long (jL b) :: .long (jL a) :: st) w Q := by
  subst hq; subst hp
  refine fi_step hM he0 (w1 := w) rfl ?_
  refine fi_step hM he (w1 := w) (pc' := if ax_cmp .ge (lg_cmp (jL a) (jL b)) 0 then t else pc + l1 + l) rfl ?_
  by_cases hc : b ≤ a
  · rw [if_pos ((cmp_ge_l a0 a1 b0 b1).mpr hc)]; exact h1 hc
  · rw [if_neg (fun e => hc ((cmp_ge_l a0 a1 b0 b1).mp e))]; exact h2 (by omega)
theorem s_if_gt (hM : ax_prog[z]? = some M) (he : M.1[pc]? = some (some (.ifCond .gt d, l, t, u2, u3))) (hp : pc + l = p) (a0 : -2147483648 ≤ a) (a1 : a < 2147483648) (h1 : 0 < a → fin xs fr lo z t ls st w Q) (h2 : a ≤ 0 → fin xs fr lo z p ls st w Q) : fin xs fr lo z pc ls (.int (jI a) :: st) w Q := by
  subst hp
  refine fi_step hM he (w1 := w) (pc' := if ax_cmp .gt (jI a) (jI 0) then t else pc + l) rfl ?_
  by_cases hc : 0 < a
  · rw [if_pos ((cmp_gt_j a0 a1 (b := 0) (by decide) (by decide)).mpr hc)]; exact h1 hc
  · rw [if_neg (fun e => hc ((cmp_gt_j a0 a1 (b := 0) (by decide) (by decide)).mp e))]; exact h2 (by omega)
theorem s_ic_gt (hM : ax_prog[z]? = some M) (he : M.1[pc]? = some (some (.if_icmp .gt d, l, t, u2, u3))) (hp : pc + l = p) (a0 : -2147483648 ≤ a) (a1 : a < 2147483648) (b0 : -2147483648 ≤ b) (b1 : b < 2147483648) (h1 : b < a → fin xs fr lo z t ls st w Q) (h2 : a ≤ b → fin xs fr lo z p ls st w Q) : fin xs fr lo z pc ls (.int (jI b) :: .int (jI a) :: st) w Q := by
  subst hp
  refine fi_step hM he (w1 := w) (pc' := if ax_cmp .gt (jI a) (jI b) then t else pc + l) rfl ?_
  by_cases hc : b < a
  · rw [if_pos ((cmp_gt_j a0 a1 b0 b1).mpr hc)]; exact h1 hc
  · rw [if_neg (fun e => hc ((cmp_gt_j a0 a1 b0 b1).mp e))]; exact h2 (by omega)
theorem s_lc_gt (hM : ax_prog[z]? = some M) (he0 : M.1[pc]? = some (some (.lcmp, l1, v1, v2, v3))) (hq : pc + l1 = q) (he : M.1[q]? = some (some (.ifCond .gt d, l, t, u2, u3))) (hp : q + l = p) (a0 : -9223372036854775808 ≤ a) (a1 : a < 9223372036854775808) (b0 : -9223372036854775808 ≤ b) (b1 : b < 9223372036854775808) (h1 : b < a → fin xs fr lo z t ls st w Q) (h2 : a ≤ b → fin xs fr lo z p ls st w Q) : fin xs fr lo z pc ls (.long (jL b) :: .long (jL a) :: st) w Q := by
  subst hq; subst hp
  refine fi_step hM he0 (w1 := w) rfl ?_
  refine fi_step hM he (w1 := w) (pc' := if ax_cmp .gt (lg_cmp (jL a) (jL b)) 0 then t else pc + l1 + l) rfl ?_
  by_cases hc : b < a
  · rw [if_pos ((cmp_gt_l a0 a1 b0 b1).mpr hc)]; exact h1 hc
  · rw [if_neg (fun e => hc ((cmp_gt_l a0 a1 b0 b1).mp e))]; exact h2 (by omega)
theorem s_if_le (hM : ax_prog[z]? = some M) (he : M.1[pc]? = some (some (.ifCond .le d, l, t, u2, u3))) (hp : pc + l = p) (a0 : -2147483648 ≤ a) (a1 : a < 2147483648) (h1 : a ≤ 0 → fin xs fr lo z t ls st w Q) (h2 : 0 < a → fin xs fr lo z p ls st w Q) : fin xs fr lo z pc ls (.int (jI a) :: st) w Q := by
  subst hp
  refine fi_step hM he (w1 := w) (pc' := if ax_cmp .le (jI a) (jI 0) then t else pc + l) rfl ?_
  by_cases hc : a ≤ 0
  · rw [if_pos ((cmp_le_j a0 a1 (b := 0) (by decide) (by decide)).mpr hc)]; exact h1 hc
  · rw [if_neg (fun e => hc ((cmp_le_j a0 a1 (b := 0) (by decide) (by decide)).mp e))]; exact h2 (by omega)
theorem s_ic_le (hM : ax_prog[z]? = some M) (he : M.1[pc]? = some (some (.if_icmp .le d, l, t, u2, u3))) (hp : pc + l = p) (a0 : -2147483648 ≤ a) (a1 : a < 2147483648) (b0 : -2147483648 ≤ b) (b1 : b < 2147483648) (h1 : a ≤ b → fin xs fr lo z t ls st w Q) (h2 : b < a → fin xs fr lo z p ls st w Q) : fin xs fr lo z pc ls (.int (jI b) :: .int (jI a) :: st) w Q := by
  subst hp
  refine fi_step hM he (w1 := w) (pc' := if ax_cmp .le (jI a) (jI b) then t else pc + l) rfl ?_
  by_cases hc : a ≤ b
  · rw [if_pos ((cmp_le_j a0 a1 b0 b1).mpr hc)]; exact h1 hc
  · rw [if_neg (fun e => hc ((cmp_le_j a0 a1 b0 b1).mp e))]; exact h2 (by omega)
theorem s_lc_le (hM : ax_prog[z]? = some M) (he0 : M.1[pc]? = some (some (.lcmp, l1, v1, v2, v3))) (hq : pc + l1 = q) (he : M.1[q]? = some (some (.ifCond .le d, l, t, u2, u3))) (hp : q + l = p) (a0 : -9223372036854775808 ≤ a) (a1 : a < 9223372036854775808) (b0 : -9223372036854775808 ≤ b) (b1 : b < 9223372036854775808) (h1 : a ≤ b → fin xs fr lo z t ls st w Q) (h2 : b < a → fin xs fr lo z p ls st w Q) : fin xs fr lo z pc ls (.long (jL b) :: .long (jL a) :: st) w Q := by
  subst hq; subst hp
  refine fi_step hM he0 (w1 := w) rfl ?_
  refine fi_step hM he (w1 := w) (pc' := if ax_cmp .le (lg_cmp (jL a) (jL b)) 0 then t else pc + l1 + l) rfl ?_
  by_cases hc : a ≤ b
  · rw [if_pos ((cmp_le_l a0 a1 b0 b1).mpr hc)]; exact h1 hc
  · rw [if_neg (fun e => hc ((cmp_le_l a0 a1 b0 b1).mp e))]; exact h2 (by omega)
end BR
section RT
variable {xs : List Int32} {fr lo z pc l u1 u2 u3 : Nat} {ls : List (Option Value)} {w : ax_W} {M : ax_M} {a b : Int} {P : Option Value → ax_W → Prop}
theorem s_reti (hM : ax_prog[z]? = some M) (hr : M.2.2.1 = 1) (he : M.1[pc]? = some (some (.ireturn, l, u1, u2, u3))) (h : a = b) : fin xs fr lo z pc ls [.int (jI a)] w (Same (.int (jI b)) w) := by
  subst h; refine fi_ret hM he (v := some (.int (jI a))) ?_ ⟨rfl, rfl⟩
  rw [hr]; rfl
theorem s_retb (hM : ax_prog[z]? = some M) (hr : M.2.2.1 = 2) (he : M.1[pc]? = some (some (.ireturn, l, u1, u2, u3))) (h : a = b) (h01 : b = 0 ∨ b = 1) : fin xs fr lo z pc ls [.int (jI a)] w (Same (.int (jI b)) w) := by
  subst h; refine fi_ret hM he (v := some (.int (jI a))) ?_ ⟨rfl, rfl⟩
  rw [hr]; rcases h01 with rfl | rfl <;> rfl
theorem s_retl (hM : ax_prog[z]? = some M) (hr : M.2.2.1 = 3) (he : M.1[pc]? = some (some (.lreturn, l, u1, u2, u3))) (h : a = b) : fin xs fr lo z pc ls [.long (jL a)] w (Same (.long (jL b)) w) := by
  subst h; refine fi_ret hM he (v := some (.long (jL a))) ?_ ⟨rfl, rfl⟩
  rw [hr]; rfl
theorem s_reta {r : Nat} (hM : ax_prog[z]? = some M) (hr : M.2.2.1 = 4) (he : M.1[pc]? = some (some (.areturn, l, u1, u2, u3))) : fin xs fr lo z pc ls [.ref r] w (Same (.ref r) w) := by
  refine fi_ret hM he (v := some (.ref r)) ?_ ⟨rfl, rfl⟩
  rw [hr]; rfl
theorem p_ret (hM : ax_prog[z]? = some M) (hr : M.2.2.1 = 0) (he : M.1[pc]? = some (some (.return_, l, u1, u2, u3))) (h : P none w) : fin xs fr lo z pc ls [] w (Ret P) := by
  refine fi_ret hM he (v := none) ?_ ⟨_, rfl, h⟩
  rw [hr]; rfl
theorem p_reti (hM : ax_prog[z]? = some M) (hr : M.2.2.1 = 1) (he : M.1[pc]? = some (some (.ireturn, l, u1, u2, u3))) (h : P (some (.int (jI a))) w) : fin xs fr lo z pc ls [.int (jI a)] w (Ret P) := by
  refine fi_ret hM he (v := some (.int (jI a))) ?_ ⟨_, rfl, h⟩
  rw [hr]; rfl
theorem p_retb (hM : ax_prog[z]? = some M) (hr : M.2.2.1 = 2) (he : M.1[pc]? = some (some (.ireturn, l, u1, u2, u3))) (h01 : a = 0 ∨ a = 1) (h : P (some (.int (jI a))) w) : fin xs fr lo z pc ls [.int (jI a)] w (Ret P) := by
  refine fi_ret hM he (v := some (.int (jI a))) ?_ ⟨_, rfl, h⟩
  rw [hr]; rcases h01 with rfl | rfl <;> rfl
theorem p_retl (hM : ax_prog[z]? = some M) (hr : M.2.2.1 = 3) (he : M.1[pc]? = some (some (.lreturn, l, u1, u2, u3))) (h : P (some (.long (jL a))) w) : fin xs fr lo z pc ls [.long (jL a)] w (Ret P) := by
  refine fi_ret hM he (v := some (.long (jL a))) ?_ ⟨_, rfl, h⟩
  rw [hr]; rfl
theorem p_reta {r : Nat} (hM : ax_prog[z]? = some M) (hr : M.2.2.1 = 4) (he : M.1[pc]? = some (some (.areturn, l, u1, u2, u3))) (h : P (some (.ref r)) w) : fin xs fr lo z pc ls [.ref r] w (Ret P) := by
  refine fi_ret hM he (v := some (.ref r)) ?_ ⟨_, rfl, h⟩
  rw [hr]; rfl
end RT
end
section
/-! THE REFERENCE'S WORLD: one object (cell 425) and its eleven arrays behind it. Its state is s : Nat → Int → Int: s 0 its own numbers (0 thrown, 1 gridRows, 2 gridColumns, 3 formRows, 4 base, 5 printedSize),
    s 1 parts, s 2 lengths, s 3 minus, s 4 numbers, s 5 rows, s 6 columns, s 7 grid, s 8 picked, s 9 leads, s 10 printed, s 11 digits -/
def aI (n : Nat) (f : Int → Int) : List Value := (List.range n).map (fun (k : Nat) => .int (jI (f k)))
def aL (n : Nat) (f : Int → Int) : List Value := (List.range n).map (fun (k : Nat) => .long (jL (f k)))
def up1 (f : Int → Int) (i v : Int) : Int → Int := fun b => if b = i then v else f b
theorem aI_len (n : Nat) (f : Int → Int) : (aI n f).length = n := by simp [aI]
theorem aL_len (n : Nat) (f : Int → Int) : (aL n f).length = n := by simp [aL]
theorem aI_get {n : Nat} {f : Int → Int} {x : Int} (h0 : 0 ≤ x) (h1 : x < n) : (aI n f)[x.toNat]? = some (.int (jI (f x))) := by
  obtain ⟨k, rfl⟩ := Int.eq_ofNat_of_zero_le h0
  have hk : k < n := by omega
  simp [aI, hk]
theorem aL_get {n : Nat} {f : Int → Int} {x : Int} (h0 : 0 ≤ x) (h1 : x < n) : (aL n f)[x.toNat]? = some (.long (jL (f x))) := by
  obtain ⟨k, rfl⟩ := Int.eq_ofNat_of_zero_le h0
  have hk : k < n := by omega
  simp [aL, hk]
theorem aI_set {n : Nat} {f : Int → Int} {x v : Int} (h0 : 0 ≤ x) : (aI n f).set x.toNat (.int (jI v)) = aI n (up1 f x v) := by
  obtain ⟨k, rfl⟩ := Int.eq_ofNat_of_zero_le h0
  apply List.ext_getElem?
  intro i
  simp only [aI, List.getElem?_set, List.getElem?_map, List.length_map, List.length_range, Int.toNat_natCast]
  by_cases hi : k = i
  · subst hi
    by_cases hk : k < n <;> simp [hk, up1]
  · rw [if_neg hi]
    by_cases hk : i < n
    · simp [hk, up1, show ¬ (i : Int) = (k : Int) by omega]
    · simp [hk]
theorem aL_set {n : Nat} {f : Int → Int} {x v : Int} (h0 : 0 ≤ x) : (aL n f).set x.toNat (.long (jL v)) = aL n (up1 f x v) := by
  obtain ⟨k, rfl⟩ := Int.eq_ofNat_of_zero_le h0
  apply List.ext_getElem?
  intro i
  simp only [aL, List.getElem?_set, List.getElem?_map, List.length_map, List.length_range, Int.toNat_natCast]
  by_cases hi : k = i
  · subst hi
    by_cases hk : k < n <;> simp [hk, up1]
  · rw [if_neg hi]
    by_cases hk : i < n
    · simp [hk, up1, show ¬ (i : Int) = (k : Int) by omega]
    · simp [hk]
theorem aI_ext {n : Nat} {f g : Int → Int} (h : ∀ x, 0 ≤ x → x < n → f x = g x) : aI n f = aI n g := by
  apply List.map_congr_left
  intro k hk
  rw [h k (by omega) (by have := List.mem_range.mp hk; omega)]
theorem aL_ext {n : Nat} {f g : Int → Int} (h : ∀ x, 0 ≤ x → x < n → f x = g x) : aL n f = aL n g := by
  apply List.map_congr_left
  intro k hk
  rw [h k (by omega) (by have := List.mem_range.mp hk; omega)]
abbrev mo_S : Type := Nat → Int → Int
def mo_fs (s : mo_S) : List Value := [.ref 426, .ref 427, .ref 428, .int (jI (s 0 0)), .ref 429, .ref 430, .ref 431, .ref 432, .int (jI (s 0 1)), .int (jI (s 0 2)), .ref 433, .int (jI (s 0 3)), .ref 434, .int (jI (s 0 4)), .ref 435, .int (jI (s 0 5)), .ref 436]
def mc (s : mo_S) : Nat → Nat × List Value
  | 0 => (8, mo_fs s)
  | 1 => (20, aI 38780 (s 1))
  | 2 => (20, aI 277 (s 2))
  | 3 => (23, aI 277 (s 3))
  | 4 => (21, aL 216 (s 4))
  | 5 => (20, aI 6 (s 5))
  | 6 => (20, aI 6 (s 6))
  | 7 => (21, aL 72 (s 7))
  | 8 => (20, aI 6 (s 8))
  | 9 => (20, aI 6 (s 9))
  | 10 => (20, aI 1200 (s 10))
  | _ => (20, aI 600 (s 11))
/-- w is w0 but for the reference's cells, which hold s -/
def RW (w0 w : ax_W) (s : mo_S) : Prop := w.length = w0.length ∧ (∀ j, (j < 425 ∨ 436 < j) → w[j]? = w0[j]?) ∧ ∀ k, k < 12 → w[k + 425]? = some (mc s k)
def up (s : mo_S) (k : Nat) (i v : Int) : mo_S := fun a => if a = k then up1 (s a) i v else s a
theorem up_same (s : mo_S) (k : Nat) (i v : Int) : up s k i v k = up1 (s k) i v := by simp [up]
theorem up_ne (s : mo_S) {k j : Nat} (h : j ≠ k) (i v : Int) : up s k i v j = s j := by simp [up, h]
theorem up1_same (f : Int → Int) (i v : Int) : up1 f i v i = v := by simp [up1]
theorem up1_ne (f : Int → Int) {i j : Int} (h : ¬ j = i) (v : Int) : up1 f i v j = f j := by simp [up1, h]
theorem mc_congr {s s' : mo_S} {j : Nat} (hj : j < 12) (h : s' j = s j) : mc s' j = mc s j := by
  have : j = 0 ∨ j = 1 ∨ j = 2 ∨ j = 3 ∨ j = 4 ∨ j = 5 ∨ j = 6 ∨ j = 7 ∨ j = 8 ∨ j = 9 ∨ j = 10 ∨ j = 11 := by omega
  rcases this with rfl | rfl | rfl | rfl | rfl | rfl | rfl | rfl | rfl | rfl | rfl | rfl <;> simp only [mc, mo_fs, h]
theorem RW_get {w0 w : ax_W} {s : mo_S} (h : RW w0 w s) (k : Nat) (hk : k < 12) : w[k + 425]? = some (mc s k) := h.2.2 k hk
theorem RW_set {w0 w : ax_W} {s s' : mo_S} (h : RW w0 w s) (k : Nat) (hk : k < 12) (hs : ∀ j, j ≠ k → s' j = s j) {q : Nat × List Value} (hq : q = mc s' k) : RW w0 (w.set (k + 425) q) s' := by
  subst hq
  have hl : k + 425 < w.length := (List.getElem?_eq_some_iff.mp (h.2.2 k hk)).1
  refine ⟨by simp [h.1], fun j hj => ?_, fun j hj => ?_⟩
  · rw [List.getElem?_set_ne (by omega)]; exact h.2.1 j hj
  · by_cases e : j = k
    · subst e; simp [hl]
    · rw [List.getElem?_set_ne (by omega), h.2.2 j hj, mc_congr hj (hs j e)]
theorem RW_up {w0 w : ax_W} {s : mo_S} (h : RW w0 w s) (k : Nat) (hk : k < 12) (i v : Int) {q : Nat × List Value} (hq : q = mc (up s k i v) k) : RW w0 (w.set (k + 425) q) (up s k i v) :=
  RW_set h k hk (fun j hj => up_ne s hj i v) hq
section MO
variable {xs : List Int32} {fr lo z pc p l u1 u2 u3 idx : Nat} {ls : List (Option Value)} {st : List Value} {w0 w : ax_W} {s : mo_S} {Q : Outcome → ax_W → Prop} {M : ax_M} {x : Int}
theorem r_get {k : Nat} {v : Value} (hM : ax_prog[z]? = some M) (he : M.1[pc]? = some (some (.getfield idx, l, 8, k, u3))) (hp : pc + l = p) (hw : RW w0 w s) (hv : (mo_fs s)[k]? = some v) (kk : fin xs fr lo z p ls (v :: st) w Q) : fin xs fr lo z pc ls (.ref 425 :: st) w Q := by
  subst hp; exact fi_get hM he (RW_get hw 0 (by decide)) hv kk
theorem r_put {k : Nat} (i : Int) {v : Int} (hM : ax_prog[z]? = some M) (he : M.1[pc]? = some (some (.putfield idx, l, 8, k, u3))) (hp : pc + l = p) (hw : RW w0 w s) (hk : (mo_fs s).set k (.int (jI v)) = mo_fs (up s 0 i v)) (hf : ax_kinds[8]?.bind (fun ks => ks[k]?) = some 0) (kk : ∀ w1, RW w0 w1 (up s 0 i v) → fin xs fr lo z p ls st w1 Q) : fin xs fr lo z pc ls (.int (jI v) :: .ref 425 :: st) w Q := by
  subst hp
  have h8 : ax_kinds[8]? = some [2, 2, 2, 0, 2, 2, 2, 2, 0, 0, 2, 0, 2, 0, 2, 0, 2] := rfl
  rw [h8] at hf
  have hkl : k < (mo_fs s).length := (List.getElem?_eq_some_iff.mp hf).1
  exact fi_put hM he h8 hf (i := 425) rfl (RW_get hw 0 (by decide)) hkl (kk _ (RW_up hw 0 (by decide) i v (by rw [hk]; rfl)))
theorem r_ldI {k n : Nat} (hM : ax_prog[z]? = some M) (he : M.1[pc]? = some (some (.iaload, l, u1, u2, u3))) (hp : pc + l = p) (hw : RW w0 w s) (hk : k < 12) (hc : mc s k = (20, aI n (s k))) (hn : n < 100000) (h0 : 0 ≤ x) (h1 : x < n) (kk : fin xs fr lo z p ls (.int (jI (s k x)) :: st) w Q) : fin xs fr lo z pc ls (.int (jI x) :: .ref (k + 425) :: st) w Q := by
  subst hp
  exact fi_iald hM he ((RW_get hw k hk).trans (by rw [hc])) (jI_nn h0 (by omega)) (by rw [jI_nat h0 (by omega)]; exact aI_get h0 h1) kk
theorem r_ldB {k n : Nat} (hM : ax_prog[z]? = some M) (he : M.1[pc]? = some (some (.baload, l, u1, u2, u3))) (hp : pc + l = p) (hw : RW w0 w s) (hk : k < 12) (hc : mc s k = (23, aI n (s k))) (hn : n < 100000) (h0 : 0 ≤ x) (h1 : x < n) (kk : fin xs fr lo z p ls (.int (jI (s k x)) :: st) w Q) : fin xs fr lo z pc ls (.int (jI x) :: .ref (k + 425) :: st) w Q := by
  subst hp
  exact fi_zald hM he ((RW_get hw k hk).trans (by rw [hc])) (jI_nn h0 (by omega)) (by rw [jI_nat h0 (by omega)]; exact aI_get h0 h1) kk
theorem r_ldL {k n : Nat} (hM : ax_prog[z]? = some M) (he : M.1[pc]? = some (some (.laload, l, u1, u2, u3))) (hp : pc + l = p) (hw : RW w0 w s) (hk : k < 12) (hc : mc s k = (21, aL n (s k))) (hn : n < 100000) (h0 : 0 ≤ x) (h1 : x < n) (kk : fin xs fr lo z p ls (.long (jL (s k x)) :: st) w Q) : fin xs fr lo z pc ls (.int (jI x) :: .ref (k + 425) :: st) w Q := by
  subst hp
  exact fi_lald hM he ((RW_get hw k hk).trans (by rw [hc])) (jI_nn h0 (by omega)) (by rw [jI_nat h0 (by omega)]; exact aL_get h0 h1) kk
theorem r_stI {k n : Nat} {v : Int} (hM : ax_prog[z]? = some M) (he : M.1[pc]? = some (some (.iastore, l, u1, u2, u3))) (hp : pc + l = p) (hw : RW w0 w s) (hk : k < 12) (hc : ∀ s', mc s' k = (20, aI n (s' k))) (hn : n < 100000) (h0 : 0 ≤ x) (h1 : x < n) (kk : ∀ w1, RW w0 w1 (up s k x v) → fin xs fr lo z p ls st w1 Q) : fin xs fr lo z pc ls (.int (jI v) :: .int (jI x) :: .ref (k + 425) :: st) w Q := by
  subst hp
  refine fi_iast hM he ((RW_get hw k hk).trans (by rw [hc])) (jI_nn h0 (by omega)) (by rw [jI_nat h0 (by omega), aI_len]; omega) ?_
  rw [jI_nat h0 (by omega), aI_set h0]
  exact kk _ (RW_up hw k hk x v (by rw [hc, up_same]))
theorem r_stB {k n : Nat} {v : Int} (hM : ax_prog[z]? = some M) (he : M.1[pc]? = some (some (.bastore, l, u1, u2, u3))) (hp : pc + l = p) (hw : RW w0 w s) (hk : k < 12) (hc : ∀ s', mc s' k = (23, aI n (s' k))) (hn : n < 100000) (h0 : 0 ≤ x) (h1 : x < n) (v0 : 0 ≤ v) (v1 : v ≤ 1) (kk : ∀ w1, RW w0 w1 (up s k x v) → fin xs fr lo z p ls st w1 Q) : fin xs fr lo z pc ls (.int (jI v) :: .int (jI x) :: .ref (k + 425) :: st) w Q := by
  subst hp
  refine fi_zast hM he ((RW_get hw k hk).trans (by rw [hc])) (jI_nn h0 (by omega)) (by rw [jI_nat h0 (by omega), aI_len]; omega) (jI_nn v0 (by omega)) (by
    rw [show (1 : Int32) = jI 1 from rfl, jI_lt (by omega) (by omega) (by omega) (by omega)]; omega) ?_
  rw [jI_nat h0 (by omega), aI_set h0]
  exact kk _ (RW_up hw k hk x v (by rw [hc, up_same]))
theorem r_stL {k n : Nat} {v : Int} (hM : ax_prog[z]? = some M) (he : M.1[pc]? = some (some (.lastore, l, u1, u2, u3))) (hp : pc + l = p) (hw : RW w0 w s) (hk : k < 12) (hc : ∀ s', mc s' k = (21, aL n (s' k))) (hn : n < 100000) (h0 : 0 ≤ x) (h1 : x < n) (kk : ∀ w1, RW w0 w1 (up s k x v) → fin xs fr lo z p ls st w1 Q) : fin xs fr lo z pc ls (.long (jL v) :: .int (jI x) :: .ref (k + 425) :: st) w Q := by
  subst hp
  refine fi_last hM he ((RW_get hw k hk).trans (by rw [hc])) (jI_nn h0 (by omega)) (by rw [jI_nat h0 (by omega), aL_len]; omega) ?_
  rw [jI_nat h0 (by omega), aL_set h0]
  exact kk _ (RW_up hw k hk x v (by rw [hc, up_same]))
end MO
theorem r_put0 (s : mo_S) (v : Int) : (mo_fs s).set 3 (.int (jI v)) = mo_fs (up s 0 0 v) := by simp [mo_fs, up, up1]
theorem r_put1 (s : mo_S) (v : Int) : (mo_fs s).set 8 (.int (jI v)) = mo_fs (up s 0 1 v) := by simp [mo_fs, up, up1]
theorem r_put2 (s : mo_S) (v : Int) : (mo_fs s).set 9 (.int (jI v)) = mo_fs (up s 0 2 v) := by simp [mo_fs, up, up1]
theorem r_put3 (s : mo_S) (v : Int) : (mo_fs s).set 11 (.int (jI v)) = mo_fs (up s 0 3 v) := by simp [mo_fs, up, up1]
theorem r_put4 (s : mo_S) (v : Int) : (mo_fs s).set 13 (.int (jI v)) = mo_fs (up s 0 4 v) := by simp [mo_fs, up, up1]
theorem r_put5 (s : mo_S) (v : Int) : (mo_fs s).set 15 (.int (jI v)) = mo_fs (up s 0 5 v) := by simp [mo_fs, up, up1]
theorem RW_rcv {w0 w : ax_W} {s : mo_S} (h : RW w0 w s) (as : List Value) : ax_rcv 9 (.ref 425 :: as) w = true := by
  simp only [ax_rcv, RW_get h 0 (by decide), mc, beq_self_eq_true]
end
section
/-! calls with so many values; shifts and masks of whole numbers -/
theorem inv_v {idx : Nat} : ax_isinv (.invokevirtual idx) := Or.inl ⟨_, rfl⟩
theorem inv_s {idx : Nat} : ax_isinv (.invokestatic idx) := Or.inr (Or.inl ⟨_, rfl⟩)
theorem inv_p {idx : Nat} : ax_isinv (.invokespecial idx) := Or.inr (Or.inr ⟨_, rfl⟩)
section CALLN
variable {xs : List Int32} {fr lo z pc p l zc b u3 : Nat} {i : Instr} {ls : List (Option Value)} {rest : List Value} {w : ax_W} {Q : Outcome → ax_W → Prop} {P : Option Value → ax_W → Prop} {M : ax_M} {kc : List (Option ax_E)} {nl rc : Nat} {tb : List (Nat × Nat × Nat × Nat)} {x0 x1 x2 x3 x4 x5 v : Value}
theorem c_0 (hM : ax_prog[z]? = some M) (he : M.1[pc]? = some (some (i, l, zc, b, u3))) (hi : ax_isinv i) (hz : zc < 1000) (hM' : ax_prog[zc]? = some (kc, nl, rc, tb)) (hb : b % 100 = 0) (hp : pc + 3 = p) (hfr : 1 ≤ fr) (hlo : nl + 19 ≤ lo) (hwt : (rest.map ax_wt).sum ≤ 8) (hsl : (ax_sl []).length ≤ nl) (hrc : ax_rcv (b / 100) [] w = true)
    (hc : fin xs (fr - 1) (lo - (nl + 19)) zc 0 (ax_ent [] nl) [] w (Same v w)) (k : fin xs fr lo z p ls (v :: rest) w Q) : fin xs fr lo z pc ls (rest) w Q := by
  subst hp; refine fi_call hM he hi rfl rfl hz hM' hfr hlo (as := []) rfl hb.symm hwt hsl hrc hc (fun v' w1 h => ?_) (fun i w1 h => by cases h.1)
  obtain ⟨h1, rfl⟩ := h; cases h1; exact k
theorem g_0 (hM : ax_prog[z]? = some M) (he : M.1[pc]? = some (some (i, l, zc, b, u3))) (hi : ax_isinv i) (hz : zc < 1000) (hM' : ax_prog[zc]? = some (kc, nl, rc, tb)) (hb : b % 100 = 0) (hp : pc + 3 = p) (hfr : 1 ≤ fr) (hlo : nl + 19 ≤ lo) (hwt : (rest.map ax_wt).sum ≤ 8) (hsl : (ax_sl []).length ≤ nl) (hrc : ax_rcv (b / 100) [] w = true)
    (hc : fin xs (fr - 1) (lo - (nl + 19)) zc 0 (ax_ent [] nl) [] w (Ret P)) (k : ∀ v w1, P v w1 → fin xs fr lo z p ls (v.toList ++ rest) w1 Q) : fin xs fr lo z pc ls (rest) w Q := by
  subst hp; refine fi_call hM he hi rfl rfl hz hM' hfr hlo (as := []) rfl hb.symm hwt hsl hrc hc (fun v' w1 h => ?_) (fun i w1 h => by obtain ⟨v, h1, _⟩ := h; cases h1)
  obtain ⟨v, h1, h2⟩ := h; cases h1; exact k _ _ h2
theorem c_1 (hM : ax_prog[z]? = some M) (he : M.1[pc]? = some (some (i, l, zc, b, u3))) (hi : ax_isinv i) (hz : zc < 1000) (hM' : ax_prog[zc]? = some (kc, nl, rc, tb)) (hb : b % 100 = 1) (hp : pc + 3 = p) (hfr : 1 ≤ fr) (hlo : nl + 19 ≤ lo) (hwt : (rest.map ax_wt).sum ≤ 8) (hsl : (ax_sl [x0]).length ≤ nl) (hrc : ax_rcv (b / 100) [x0] w = true)
    (hc : fin xs (fr - 1) (lo - (nl + 19)) zc 0 (ax_ent [x0] nl) [] w (Same v w)) (k : fin xs fr lo z p ls (v :: rest) w Q) : fin xs fr lo z pc ls (x0 :: rest) w Q := by
  subst hp; refine fi_call hM he hi rfl rfl hz hM' hfr hlo (as := [x0]) rfl hb.symm hwt hsl hrc hc (fun v' w1 h => ?_) (fun i w1 h => by cases h.1)
  obtain ⟨h1, rfl⟩ := h; cases h1; exact k
theorem g_1 (hM : ax_prog[z]? = some M) (he : M.1[pc]? = some (some (i, l, zc, b, u3))) (hi : ax_isinv i) (hz : zc < 1000) (hM' : ax_prog[zc]? = some (kc, nl, rc, tb)) (hb : b % 100 = 1) (hp : pc + 3 = p) (hfr : 1 ≤ fr) (hlo : nl + 19 ≤ lo) (hwt : (rest.map ax_wt).sum ≤ 8) (hsl : (ax_sl [x0]).length ≤ nl) (hrc : ax_rcv (b / 100) [x0] w = true)
    (hc : fin xs (fr - 1) (lo - (nl + 19)) zc 0 (ax_ent [x0] nl) [] w (Ret P)) (k : ∀ v w1, P v w1 → fin xs fr lo z p ls (v.toList ++ rest) w1 Q) : fin xs fr lo z pc ls (x0 :: rest) w Q := by
  subst hp; refine fi_call hM he hi rfl rfl hz hM' hfr hlo (as := [x0]) rfl hb.symm hwt hsl hrc hc (fun v' w1 h => ?_) (fun i w1 h => by obtain ⟨v, h1, _⟩ := h; cases h1)
  obtain ⟨v, h1, h2⟩ := h; cases h1; exact k _ _ h2
theorem c_2 (hM : ax_prog[z]? = some M) (he : M.1[pc]? = some (some (i, l, zc, b, u3))) (hi : ax_isinv i) (hz : zc < 1000) (hM' : ax_prog[zc]? = some (kc, nl, rc, tb)) (hb : b % 100 = 2) (hp : pc + 3 = p) (hfr : 1 ≤ fr) (hlo : nl + 19 ≤ lo) (hwt : (rest.map ax_wt).sum ≤ 8) (hsl : (ax_sl [x0, x1]).length ≤ nl) (hrc : ax_rcv (b / 100) [x0, x1] w = true)
    (hc : fin xs (fr - 1) (lo - (nl + 19)) zc 0 (ax_ent [x0, x1] nl) [] w (Same v w)) (k : fin xs fr lo z p ls (v :: rest) w Q) : fin xs fr lo z pc ls (x1 :: x0 :: rest) w Q := by
  subst hp; refine fi_call hM he hi rfl rfl hz hM' hfr hlo (as := [x0, x1]) rfl hb.symm hwt hsl hrc hc (fun v' w1 h => ?_) (fun i w1 h => by cases h.1)
  obtain ⟨h1, rfl⟩ := h; cases h1; exact k
theorem g_2 (hM : ax_prog[z]? = some M) (he : M.1[pc]? = some (some (i, l, zc, b, u3))) (hi : ax_isinv i) (hz : zc < 1000) (hM' : ax_prog[zc]? = some (kc, nl, rc, tb)) (hb : b % 100 = 2) (hp : pc + 3 = p) (hfr : 1 ≤ fr) (hlo : nl + 19 ≤ lo) (hwt : (rest.map ax_wt).sum ≤ 8) (hsl : (ax_sl [x0, x1]).length ≤ nl) (hrc : ax_rcv (b / 100) [x0, x1] w = true)
    (hc : fin xs (fr - 1) (lo - (nl + 19)) zc 0 (ax_ent [x0, x1] nl) [] w (Ret P)) (k : ∀ v w1, P v w1 → fin xs fr lo z p ls (v.toList ++ rest) w1 Q) : fin xs fr lo z pc ls (x1 :: x0 :: rest) w Q := by
  subst hp; refine fi_call hM he hi rfl rfl hz hM' hfr hlo (as := [x0, x1]) rfl hb.symm hwt hsl hrc hc (fun v' w1 h => ?_) (fun i w1 h => by obtain ⟨v, h1, _⟩ := h; cases h1)
  obtain ⟨v, h1, h2⟩ := h; cases h1; exact k _ _ h2
theorem c_3 (hM : ax_prog[z]? = some M) (he : M.1[pc]? = some (some (i, l, zc, b, u3))) (hi : ax_isinv i) (hz : zc < 1000) (hM' : ax_prog[zc]? = some (kc, nl, rc, tb)) (hb : b % 100 = 3) (hp : pc + 3 = p) (hfr : 1 ≤ fr) (hlo : nl + 19 ≤ lo) (hwt : (rest.map ax_wt).sum ≤ 8) (hsl : (ax_sl [x0, x1, x2]).length ≤ nl) (hrc : ax_rcv (b / 100) [x0, x1, x2] w = true)
    (hc : fin xs (fr - 1) (lo - (nl + 19)) zc 0 (ax_ent [x0, x1, x2] nl) [] w (Same v w)) (k : fin xs fr lo z p ls (v :: rest) w Q) : fin xs fr lo z pc ls (x2 :: x1 :: x0 :: rest) w Q := by
  subst hp; refine fi_call hM he hi rfl rfl hz hM' hfr hlo (as := [x0, x1, x2]) rfl hb.symm hwt hsl hrc hc (fun v' w1 h => ?_) (fun i w1 h => by cases h.1)
  obtain ⟨h1, rfl⟩ := h; cases h1; exact k
theorem g_3 (hM : ax_prog[z]? = some M) (he : M.1[pc]? = some (some (i, l, zc, b, u3))) (hi : ax_isinv i) (hz : zc < 1000) (hM' : ax_prog[zc]? = some (kc, nl, rc, tb)) (hb : b % 100 = 3) (hp : pc + 3 = p) (hfr : 1 ≤ fr) (hlo : nl + 19 ≤ lo) (hwt : (rest.map ax_wt).sum ≤ 8) (hsl : (ax_sl [x0, x1, x2]).length ≤ nl) (hrc : ax_rcv (b / 100) [x0, x1, x2] w = true)
    (hc : fin xs (fr - 1) (lo - (nl + 19)) zc 0 (ax_ent [x0, x1, x2] nl) [] w (Ret P)) (k : ∀ v w1, P v w1 → fin xs fr lo z p ls (v.toList ++ rest) w1 Q) : fin xs fr lo z pc ls (x2 :: x1 :: x0 :: rest) w Q := by
  subst hp; refine fi_call hM he hi rfl rfl hz hM' hfr hlo (as := [x0, x1, x2]) rfl hb.symm hwt hsl hrc hc (fun v' w1 h => ?_) (fun i w1 h => by obtain ⟨v, h1, _⟩ := h; cases h1)
  obtain ⟨v, h1, h2⟩ := h; cases h1; exact k _ _ h2
theorem c_4 (hM : ax_prog[z]? = some M) (he : M.1[pc]? = some (some (i, l, zc, b, u3))) (hi : ax_isinv i) (hz : zc < 1000) (hM' : ax_prog[zc]? = some (kc, nl, rc, tb)) (hb : b % 100 = 4) (hp : pc + 3 = p) (hfr : 1 ≤ fr) (hlo : nl + 19 ≤ lo) (hwt : (rest.map ax_wt).sum ≤ 8) (hsl : (ax_sl [x0, x1, x2, x3]).length ≤ nl) (hrc : ax_rcv (b / 100) [x0, x1, x2, x3] w = true)
    (hc : fin xs (fr - 1) (lo - (nl + 19)) zc 0 (ax_ent [x0, x1, x2, x3] nl) [] w (Same v w)) (k : fin xs fr lo z p ls (v :: rest) w Q) : fin xs fr lo z pc ls (x3 :: x2 :: x1 :: x0 :: rest) w Q := by
  subst hp; refine fi_call hM he hi rfl rfl hz hM' hfr hlo (as := [x0, x1, x2, x3]) rfl hb.symm hwt hsl hrc hc (fun v' w1 h => ?_) (fun i w1 h => by cases h.1)
  obtain ⟨h1, rfl⟩ := h; cases h1; exact k
theorem g_4 (hM : ax_prog[z]? = some M) (he : M.1[pc]? = some (some (i, l, zc, b, u3))) (hi : ax_isinv i) (hz : zc < 1000) (hM' : ax_prog[zc]? = some (kc, nl, rc, tb)) (hb : b % 100 = 4) (hp : pc + 3 = p) (hfr : 1 ≤ fr) (hlo : nl + 19 ≤ lo) (hwt : (rest.map ax_wt).sum ≤ 8) (hsl : (ax_sl [x0, x1, x2, x3]).length ≤ nl) (hrc : ax_rcv (b / 100) [x0, x1, x2, x3] w = true)
    (hc : fin xs (fr - 1) (lo - (nl + 19)) zc 0 (ax_ent [x0, x1, x2, x3] nl) [] w (Ret P)) (k : ∀ v w1, P v w1 → fin xs fr lo z p ls (v.toList ++ rest) w1 Q) : fin xs fr lo z pc ls (x3 :: x2 :: x1 :: x0 :: rest) w Q := by
  subst hp; refine fi_call hM he hi rfl rfl hz hM' hfr hlo (as := [x0, x1, x2, x3]) rfl hb.symm hwt hsl hrc hc (fun v' w1 h => ?_) (fun i w1 h => by obtain ⟨v, h1, _⟩ := h; cases h1)
  obtain ⟨v, h1, h2⟩ := h; cases h1; exact k _ _ h2
theorem c_5 (hM : ax_prog[z]? = some M) (he : M.1[pc]? = some (some (i, l, zc, b, u3))) (hi : ax_isinv i) (hz : zc < 1000) (hM' : ax_prog[zc]? = some (kc, nl, rc, tb)) (hb : b % 100 = 5) (hp : pc + 3 = p) (hfr : 1 ≤ fr) (hlo : nl + 19 ≤ lo) (hwt : (rest.map ax_wt).sum ≤ 8) (hsl : (ax_sl [x0, x1, x2, x3, x4]).length ≤ nl) (hrc : ax_rcv (b / 100) [x0, x1, x2, x3, x4] w = true)
    (hc : fin xs (fr - 1) (lo - (nl + 19)) zc 0 (ax_ent [x0, x1, x2, x3, x4] nl) [] w (Same v w)) (k : fin xs fr lo z p ls (v :: rest) w Q) : fin xs fr lo z pc ls (x4 :: x3 :: x2 :: x1 :: x0 :: rest) w Q := by
  subst hp; refine fi_call hM he hi rfl rfl hz hM' hfr hlo (as := [x0, x1, x2, x3, x4]) rfl hb.symm hwt hsl hrc hc (fun v' w1 h => ?_) (fun i w1 h => by cases h.1)
  obtain ⟨h1, rfl⟩ := h; cases h1; exact k
theorem g_5 (hM : ax_prog[z]? = some M) (he : M.1[pc]? = some (some (i, l, zc, b, u3))) (hi : ax_isinv i) (hz : zc < 1000) (hM' : ax_prog[zc]? = some (kc, nl, rc, tb)) (hb : b % 100 = 5) (hp : pc + 3 = p) (hfr : 1 ≤ fr) (hlo : nl + 19 ≤ lo) (hwt : (rest.map ax_wt).sum ≤ 8) (hsl : (ax_sl [x0, x1, x2, x3, x4]).length ≤ nl) (hrc : ax_rcv (b / 100) [x0, x1, x2, x3, x4] w = true)
    (hc : fin xs (fr - 1) (lo - (nl + 19)) zc 0 (ax_ent [x0, x1, x2, x3, x4] nl) [] w (Ret P)) (k : ∀ v w1, P v w1 → fin xs fr lo z p ls (v.toList ++ rest) w1 Q) : fin xs fr lo z pc ls (x4 :: x3 :: x2 :: x1 :: x0 :: rest) w Q := by
  subst hp; refine fi_call hM he hi rfl rfl hz hM' hfr hlo (as := [x0, x1, x2, x3, x4]) rfl hb.symm hwt hsl hrc hc (fun v' w1 h => ?_) (fun i w1 h => by obtain ⟨v, h1, _⟩ := h; cases h1)
  obtain ⟨v, h1, h2⟩ := h; cases h1; exact k _ _ h2
theorem c_6 (hM : ax_prog[z]? = some M) (he : M.1[pc]? = some (some (i, l, zc, b, u3))) (hi : ax_isinv i) (hz : zc < 1000) (hM' : ax_prog[zc]? = some (kc, nl, rc, tb)) (hb : b % 100 = 6) (hp : pc + 3 = p) (hfr : 1 ≤ fr) (hlo : nl + 19 ≤ lo) (hwt : (rest.map ax_wt).sum ≤ 8) (hsl : (ax_sl [x0, x1, x2, x3, x4, x5]).length ≤ nl) (hrc : ax_rcv (b / 100) [x0, x1, x2, x3, x4, x5] w = true)
    (hc : fin xs (fr - 1) (lo - (nl + 19)) zc 0 (ax_ent [x0, x1, x2, x3, x4, x5] nl) [] w (Same v w)) (k : fin xs fr lo z p ls (v :: rest) w Q) : fin xs fr lo z pc ls (x5 :: x4 :: x3 :: x2 :: x1 :: x0 :: rest) w Q := by
  subst hp; refine fi_call hM he hi rfl rfl hz hM' hfr hlo (as := [x0, x1, x2, x3, x4, x5]) rfl hb.symm hwt hsl hrc hc (fun v' w1 h => ?_) (fun i w1 h => by cases h.1)
  obtain ⟨h1, rfl⟩ := h; cases h1; exact k
theorem g_6 (hM : ax_prog[z]? = some M) (he : M.1[pc]? = some (some (i, l, zc, b, u3))) (hi : ax_isinv i) (hz : zc < 1000) (hM' : ax_prog[zc]? = some (kc, nl, rc, tb)) (hb : b % 100 = 6) (hp : pc + 3 = p) (hfr : 1 ≤ fr) (hlo : nl + 19 ≤ lo) (hwt : (rest.map ax_wt).sum ≤ 8) (hsl : (ax_sl [x0, x1, x2, x3, x4, x5]).length ≤ nl) (hrc : ax_rcv (b / 100) [x0, x1, x2, x3, x4, x5] w = true)
    (hc : fin xs (fr - 1) (lo - (nl + 19)) zc 0 (ax_ent [x0, x1, x2, x3, x4, x5] nl) [] w (Ret P)) (k : ∀ v w1, P v w1 → fin xs fr lo z p ls (v.toList ++ rest) w1 Q) : fin xs fr lo z pc ls (x5 :: x4 :: x3 :: x2 :: x1 :: x0 :: rest) w Q := by
  subst hp; refine fi_call hM he hi rfl rfl hz hM' hfr hlo (as := [x0, x1, x2, x3, x4, x5]) rfl hb.symm hwt hsl hrc hc (fun v' w1 h => ?_) (fun i w1 h => by obtain ⟨v, h1, _⟩ := h; cases h1)
  obtain ⟨v, h1, h2⟩ := h; cases h1; exact k _ _ h2
end CALLN
theorem jL_and24 (a : Int) : jL a &&& jL 16777215 = jL (a % 16777216) := by
  apply Int64.toBitVec.inj
  apply BitVec.eq_of_toNat_eq
  have h : (16777215 : Nat) = 2 ^ 24 - 1 := by decide
  simp only [jL, Int64.toBitVec_and, Int64.toBitVec_ofInt, BitVec.toNat_and, BitVec.toNat_ofInt]
  rw [show ((16777215 : Int) % ((2 ^ 64 : Nat) : Int)).toNat = 2 ^ 24 - 1 from by decide, Nat.and_two_pow_sub_one_eq_mod]
  omega
theorem jL_ushr24 {a : Int} (a0 : 0 ≤ a) (a1 : a < 9223372036854775808) : ((jL a).toUInt64 >>> ((jI 24).toInt64.toUInt64 &&& Int64.toUInt64 63)).toInt64 = jL (a / 16777216) := by
  rw [show (jI 24).toInt64.toUInt64 &&& Int64.toUInt64 63 = 24 from by decide]
  apply Int64.toBitVec.inj
  apply BitVec.eq_of_toNat_eq
  show ((jL a).toUInt64 >>> 24).toNat = _
  rw [UInt64.toNat_shiftRight]
  simp only [jL, Int64.toBitVec_ofInt, BitVec.toNat_ofInt]
  show (BitVec.ofInt 64 a).toNat >>> (24 % 64) = _
  rw [BitVec.toNat_ofInt, Nat.shiftRight_eq_div_pow, show (2 : Nat) ^ (24 % 64) = 16777216 from by decide]
  omega
theorem jL_shr24 {a : Int} (a0 : -9223372036854775808 ≤ a) (a1 : a < 9223372036854775808) : jL a >>> ((jI 24).toInt64 &&& 63) = jL (a / 16777216) := by
  rw [show (jI 24).toInt64 &&& 63 = 24 from by decide]
  apply Int64.toInt_inj.mp
  rw [jL_toInt (by omega) (by omega)]
  show ((jL a).toBitVec.sshiftRight' ((24 : Int64).toBitVec.smod 64)).toInt = _
  rw [show (24 : Int64).toBitVec.smod 64 = 24#64 from by decide]
  rw [BitVec.sshiftRight_eq', show (24#64).toNat = 24 from rfl, BitVec.toInt_sshiftRight]
  rw [show (jL a).toBitVec.toInt = a from jL_toInt a0 a1, Int.shiftRight_eq_div_pow]
  rfl
section BITS
variable {xs : List Int32} {fr lo z pc p l u1 u2 u3 : Nat} {ls : List (Option Value)} {st : List Value} {w : ax_W} {Q : Outcome → ax_W → Prop} {M : ax_M} {a b : Int}
theorem b_land (hM : ax_prog[z]? = some M) (he : M.1[pc]? = some (some (.land, l, u1, u2, u3))) (hp : pc + l = p) (kk : fin xs fr lo z p ls (.long (jL (a % 16777216)) :: st) w Q) : fin xs fr lo z pc ls (.long (jL 16777215) :: .long (jL a) :: st) w Q := by
  subst hp; rw [← jL_and24] at kk; exact fi_step hM he rfl kk
theorem b_lushr (hM : ax_prog[z]? = some M) (he : M.1[pc]? = some (some (.lushr, l, u1, u2, u3))) (hp : pc + l = p) (a0 : 0 ≤ a) (a1 : a < 9223372036854775808) (kk : fin xs fr lo z p ls (.long (jL (a / 16777216)) :: st) w Q) : fin xs fr lo z pc ls (.int (jI 24) :: .long (jL a) :: st) w Q := by
  subst hp; rw [← jL_ushr24 a0 a1] at kk; exact fi_step hM he rfl kk
theorem b_lshr (hM : ax_prog[z]? = some M) (he : M.1[pc]? = some (some (.lshr, l, u1, u2, u3))) (hp : pc + l = p) (a0 : -9223372036854775808 ≤ a) (a1 : a < 9223372036854775808) (kk : fin xs fr lo z p ls (.long (jL (a / 16777216)) :: st) w Q) : fin xs fr lo z pc ls (.int (jI 24) :: .long (jL a) :: st) w Q := by
  subst hp; rw [← jL_shr24 a0 a1] at kk; exact fi_step hM he rfl kk
end BITS
end
section
/-! THE REFERENCE'S LEAVES -/
section MOL
variable {xs : List Int32} {fr lo : Nat} {w0 w : ax_W} {s : mo_S}
theorem c_thrown (hw : RW w0 w s) : fin xs fr lo 118 0 (ax_ent [.ref 425] 1) [] w (Same (.int (jI (s 0 0))) w) := by
  refine fi_step (pc' := 1) m_Mo_thrown rfl rfl ?_
  refine r_get (p := 4) m_Mo_thrown rfl rfl (by assumption) rfl ?_
  exact s_reti m_Mo_thrown rfl rfl (by omega)
theorem c_isMatrix {m : Int} (m0 : -2147483648 ≤ m) (m1 : m < 2147483648) : fin xs fr lo 120 0 (ax_ent [.ref 425, .int (jI m)] 2) [] w (Same (.int (jI (if 0 ≤ m ∧ m < 6 then 1 else 0))) w) := by
  refine fi_step (pc' := 1) m_Mo_isMatrix rfl rfl ?_
  refine s_if_lt (p := 4) m_Mo_isMatrix rfl rfl (by omega) (by omega) (fun h => ?_) (fun h => ?_)
  · rw [if_neg (by omega)]
    refine fi_step (pc' := 15) m_Mo_isMatrix rfl rfl ?_
    exact s_retb m_Mo_isMatrix rfl rfl (by omega) (by first | exact Or.inl rfl | exact Or.inr rfl | omega)
  · refine fi_step (pc' := 5) m_Mo_isMatrix rfl rfl ?_
    refine s_bipush (p := 7) m_Mo_isMatrix rfl rfl rfl ?_
    refine s_ic_ge (p := 10) m_Mo_isMatrix rfl rfl (by omega) (by omega) (by omega) (by omega) (fun g => ?_) (fun g => ?_)
    · rw [if_neg (by omega)]
      refine fi_step (pc' := 15) m_Mo_isMatrix rfl rfl ?_
      exact s_retb m_Mo_isMatrix rfl rfl (by omega) (by first | exact Or.inl rfl | exact Or.inr rfl | omega)
    · rw [if_pos (by omega)]
      refine fi_step (pc' := 11) m_Mo_isMatrix rfl rfl ?_
      refine fi_step (pc' := 15) m_Mo_isMatrix rfl rfl ?_
      exact s_retb m_Mo_isMatrix rfl rfl (by omega) (by first | exact Or.inl rfl | exact Or.inr rfl | omega)
theorem c_result {i j : Int} : fin xs fr lo 129 0 (ax_ent [.ref 425, .int (jI i), .int (jI j)] 3) [] w (Same (.int (jI (6 * i + j))) w) := by
  refine fi_step (pc' := 1) m_Mo_result rfl rfl ?_
  refine s_bipush (p := 3) m_Mo_result rfl rfl rfl ?_
  refine fi_step (pc' := 4) m_Mo_result rfl rfl ?_
  refine s_imul (p := 5) m_Mo_result rfl rfl ?_
  refine s_iadd (p := 6) m_Mo_result rfl rfl ?_
  refine fi_step (pc' := 7) m_Mo_result rfl rfl ?_
  refine s_iadd (p := 8) m_Mo_result rfl rfl ?_
  exact s_reti m_Mo_result rfl rfl (by omega)
theorem c_cell {i j : Int} : fin xs fr lo 161 0 (ax_ent [.ref 425, .int (jI i), .int (jI j)] 3) [] w (Same (.int (jI (100 + 6 * i + j))) w) := by
  refine s_bipush (p := 2) m_Mo_cell rfl rfl rfl ?_
  refine s_bipush (p := 4) m_Mo_cell rfl rfl rfl ?_
  refine fi_step (pc' := 5) m_Mo_cell rfl rfl ?_
  refine s_imul (p := 6) m_Mo_cell rfl rfl ?_
  refine s_iadd (p := 7) m_Mo_cell rfl rfl ?_
  refine fi_step (pc' := 8) m_Mo_cell rfl rfl ?_
  refine s_iadd (p := 9) m_Mo_cell rfl rfl ?_
  exact s_reti m_Mo_cell rfl rfl (by omega)
theorem c_number {m i j : Int} (hw : RW w0 w s) (m0 : 0 ≤ m) (m1 : m < 6) (i0 : 0 ≤ i) (i1 : i < 6) (j0 : 0 ≤ j) (j1 : j < 6) : fin xs fr lo 125 0 (ax_ent [.ref 425, .int (jI m), .int (jI i), .int (jI j)] 4) [] w (Same (.long (jL (s 4 (36 * m + 6 * i + j)))) w) := by
  refine fi_step (pc' := 1) m_Mo_number rfl rfl ?_
  refine r_get (p := 4) m_Mo_number rfl rfl (by assumption) rfl ?_
  refine s_bipush (p := 6) m_Mo_number rfl rfl rfl ?_
  refine fi_step (pc' := 7) m_Mo_number rfl rfl ?_
  refine s_imul (p := 8) m_Mo_number rfl rfl ?_
  refine s_bipush (p := 10) m_Mo_number rfl rfl rfl ?_
  refine fi_step (pc' := 11) m_Mo_number rfl rfl ?_
  refine s_imul (p := 12) m_Mo_number rfl rfl ?_
  refine s_iadd (p := 13) m_Mo_number rfl rfl ?_
  refine fi_step (pc' := 14) m_Mo_number rfl rfl ?_
  refine s_iadd (p := 15) m_Mo_number rfl rfl ?_
  refine r_ldL (p := 16) m_Mo_number rfl rfl (by assumption) (by decide) rfl (by decide) (by omega) (by omega) ?_
  exact s_retl m_Mo_number rfl rfl (by rfl)
theorem c_bigIsZero {k : Int} (hw : RW w0 w s) (k0 : 0 ≤ k) (k1 : k < 277) (l0 : 0 ≤ s 2 k) (l1 : s 2 k ≤ 140) : fin xs fr lo 151 0 (ax_ent [.ref 425, .int (jI k)] 2) [] w (Same (.int (jI (if s 2 k = 0 then 1 else 0))) w) := by
  refine fi_step (pc' := 1) m_Mo_bigIsZero rfl rfl ?_
  refine r_get (p := 4) m_Mo_bigIsZero rfl rfl (by assumption) rfl ?_
  refine fi_step (pc' := 5) m_Mo_bigIsZero rfl rfl ?_
  refine r_ldI (p := 6) m_Mo_bigIsZero rfl rfl (by assumption) (by decide) rfl (by decide) (by omega) (by omega) ?_
  refine s_if_ne (p := 9) m_Mo_bigIsZero rfl rfl (by omega) (by omega) (fun h => ?_) (fun h => ?_)
  · rw [if_neg (by omega)]
    refine fi_step (pc' := 14) m_Mo_bigIsZero rfl rfl ?_
    exact s_retb m_Mo_bigIsZero rfl rfl (by omega) (by first | exact Or.inl rfl | exact Or.inr rfl | omega)
  · rw [if_pos (by omega)]
    refine fi_step (pc' := 10) m_Mo_bigIsZero rfl rfl ?_
    refine fi_step (pc' := 14) m_Mo_bigIsZero rfl rfl ?_
    exact s_retb m_Mo_bigIsZero rfl rfl (by omega) (by first | exact Or.inl rfl | exact Or.inr rfl | omega)
theorem c_bigAt {k i : Int} (hw : RW w0 w s) (k0 : 0 ≤ k) (k1 : k < 277) (l0 : 0 ≤ s 2 k) (l1 : s 2 k ≤ 140) (i0 : 0 ≤ i) (i1 : i < 2147483648) : fin xs fr lo 136 0 (ax_ent [.ref 425, .int (jI k), .int (jI i)] 3) [] w (Same (.int (jI (if i < s 2 k then s 1 (140 * k + i) else 0))) w) := by
  refine fi_step (pc' := 1) m_Mo_bigAt rfl rfl ?_
  refine fi_step (pc' := 2) m_Mo_bigAt rfl rfl ?_
  refine r_get (p := 5) m_Mo_bigAt rfl rfl (by assumption) rfl ?_
  refine fi_step (pc' := 6) m_Mo_bigAt rfl rfl ?_
  refine r_ldI (p := 7) m_Mo_bigAt rfl rfl (by assumption) (by decide) rfl (by decide) (by omega) (by omega) ?_
  refine s_ic_ge (p := 10) m_Mo_bigAt rfl rfl (by omega) (by omega) (by omega) (by omega) (fun h => ?_) (fun h => ?_)
  · rw [if_neg (by omega)]
    refine fi_step (pc' := 26) m_Mo_bigAt rfl rfl ?_
    exact s_reti m_Mo_bigAt rfl rfl (by omega)
  · rw [if_pos (by omega)]
    refine fi_step (pc' := 11) m_Mo_bigAt rfl rfl ?_
    refine r_get (p := 14) m_Mo_bigAt rfl rfl (by assumption) rfl ?_
    refine s_sipush (p := 17) m_Mo_bigAt rfl rfl rfl ?_
    refine fi_step (pc' := 18) m_Mo_bigAt rfl rfl ?_
    refine s_imul (p := 19) m_Mo_bigAt rfl rfl ?_
    refine fi_step (pc' := 20) m_Mo_bigAt rfl rfl ?_
    refine s_iadd (p := 21) m_Mo_bigAt rfl rfl ?_
    refine r_ldI (p := 22) m_Mo_bigAt rfl rfl (by assumption) (by decide) rfl (by decide) (by omega) (by omega) ?_
    refine fi_step (pc' := 26) m_Mo_bigAt rfl rfl ?_
    exact s_reti m_Mo_bigAt rfl rfl (by rfl)
theorem c_least {a b : Int} (a0 : -2147483648 ≤ a) (a1 : a < 2147483648) (b0 : -2147483648 ≤ b) (b1 : b < 2147483648) : fin xs fr lo 146 0 (ax_ent [.ref 425, .int (jI a), .int (jI b)] 3) [] w (Same (.int (jI (if a < b then a else b))) w) := by
  refine fi_step (pc' := 1) m_Mo_least rfl rfl ?_
  refine fi_step (pc' := 2) m_Mo_least rfl rfl ?_
  refine s_ic_ge (p := 5) m_Mo_least rfl rfl (by omega) (by omega) (by omega) (by omega) (fun h => ?_) (fun h => ?_)
  · rw [if_neg (by omega)]
    refine fi_step (pc' := 10) m_Mo_least rfl rfl ?_
    exact s_reti m_Mo_least rfl rfl (by omega)
  · rw [if_pos (by omega)]
    refine fi_step (pc' := 6) m_Mo_least rfl rfl ?_
    refine fi_step (pc' := 10) m_Mo_least rfl rfl ?_
    exact s_reti m_Mo_least rfl rfl (by omega)
theorem c_isPlace {m i j : Int} (hw : RW w0 w s) (hfr : 1 ≤ fr) (hlo : 40 ≤ lo) (m0 : -2147483648 ≤ m) (m1 : m < 2147483648) (i0 : -2147483648 ≤ i) (i1 : i < 2147483648) (j0 : -2147483648 ≤ j) (j1 : j < 2147483648)
    (hr : ∀ k, 0 ≤ k → k < 6 → 1 ≤ s 5 k ∧ s 5 k ≤ 6) (hc : ∀ k, 0 ≤ k → k < 6 → 1 ≤ s 6 k ∧ s 6 k ≤ 6) :
    fin xs fr lo 123 0 (ax_ent [.ref 425, .int (jI m), .int (jI i), .int (jI j)] 4) [] w (Same (.int (jI (if (0 ≤ m ∧ m < 6) ∧ (0 ≤ i ∧ i < s 5 m) ∧ 0 ≤ j ∧ j < s 6 m then 1 else 0))) w) := by
  refine fi_step (pc' := 1) m_Mo_isPlace rfl rfl ?_
  refine fi_step (pc' := 2) m_Mo_isPlace rfl rfl ?_
  refine c_2 (p := 5) m_Mo_isPlace rfl inv_v (by decide) m_Mo_isMatrix rfl rfl (by omega) (by omega) (Nat.le_of_ble_eq_true rfl) (Nat.le_of_ble_eq_true rfl) (RW_rcv hw _) (c_isMatrix m0 m1) ?_
  by_cases hm : 0 ≤ m ∧ m < 6
  · rw [if_pos hm]
    have := hr m hm.1 hm.2
    have := hc m hm.1 hm.2
    refine s_if_eq (p := 8) m_Mo_isPlace rfl rfl (by omega) (by omega) (fun hbr => False.elim (by omega)) (fun hbr => ?_)
    refine fi_step (pc' := 9) m_Mo_isPlace rfl rfl ?_
    refine s_if_lt (p := 12) m_Mo_isPlace rfl rfl (by omega) (by omega) (fun h => ?_) (fun h => ?_)
    · rw [if_neg (by omega)]
      refine fi_step (pc' := 41) m_Mo_isPlace rfl rfl ?_
      exact s_retb m_Mo_isPlace rfl rfl (by omega) (by first | exact Or.inl rfl | exact Or.inr rfl | omega)
    · refine fi_step (pc' := 13) m_Mo_isPlace rfl rfl ?_
      refine fi_step (pc' := 14) m_Mo_isPlace rfl rfl ?_
      refine r_get (p := 17) m_Mo_isPlace rfl rfl (by assumption) rfl ?_
      refine fi_step (pc' := 18) m_Mo_isPlace rfl rfl ?_
      refine r_ldI (p := 19) m_Mo_isPlace rfl rfl (by assumption) (by decide) rfl (by decide) (by omega) (by omega) ?_
      refine s_ic_ge (p := 22) m_Mo_isPlace rfl rfl (by omega) (by omega) (by omega) (by omega) (fun h2 => ?_) (fun h2 => ?_)
      · rw [if_neg (by omega)]
        refine fi_step (pc' := 41) m_Mo_isPlace rfl rfl ?_
        exact s_retb m_Mo_isPlace rfl rfl (by omega) (by first | exact Or.inl rfl | exact Or.inr rfl | omega)
      · refine fi_step (pc' := 23) m_Mo_isPlace rfl rfl ?_
        refine s_if_lt (p := 26) m_Mo_isPlace rfl rfl (by omega) (by omega) (fun h3 => ?_) (fun h3 => ?_)
        · rw [if_neg (by omega)]
          refine fi_step (pc' := 41) m_Mo_isPlace rfl rfl ?_
          exact s_retb m_Mo_isPlace rfl rfl (by omega) (by first | exact Or.inl rfl | exact Or.inr rfl | omega)
        · refine fi_step (pc' := 27) m_Mo_isPlace rfl rfl ?_
          refine fi_step (pc' := 28) m_Mo_isPlace rfl rfl ?_
          refine r_get (p := 31) m_Mo_isPlace rfl rfl (by assumption) rfl ?_
          refine fi_step (pc' := 32) m_Mo_isPlace rfl rfl ?_
          refine r_ldI (p := 33) m_Mo_isPlace rfl rfl (by assumption) (by decide) rfl (by decide) (by omega) (by omega) ?_
          refine s_ic_ge (p := 36) m_Mo_isPlace rfl rfl (by omega) (by omega) (by omega) (by omega) (fun h4 => ?_) (fun h4 => ?_)
          · rw [if_neg (by omega)]
            refine fi_step (pc' := 41) m_Mo_isPlace rfl rfl ?_
            exact s_retb m_Mo_isPlace rfl rfl (by omega) (by first | exact Or.inl rfl | exact Or.inr rfl | omega)
          · rw [if_pos (by omega)]
            refine fi_step (pc' := 37) m_Mo_isPlace rfl rfl ?_
            refine fi_step (pc' := 41) m_Mo_isPlace rfl rfl ?_
            exact s_retb m_Mo_isPlace rfl rfl (by omega) (by first | exact Or.inl rfl | exact Or.inr rfl | omega)
  · rw [if_neg hm, if_neg (fun h => hm h.1)]
    refine s_if_eq (p := 8) m_Mo_isPlace rfl rfl (by omega) (by omega) (fun hbr => ?_) (fun hbr => False.elim (by omega))
    refine fi_step (pc' := 41) m_Mo_isPlace rfl rfl ?_
    exact s_retb m_Mo_isPlace rfl rfl (by omega) (by first | exact Or.inl rfl | exact Or.inr rfl | omega)
end MOL
end
section
/-! digits: the value of n parts of a function, from o on, to a base -/
def dvB (B : Int) (f : Int → Int) (o : Int) : Nat → Int
  | 0 => 0
  | n + 1 => dvB B f o n + f (o + n) * B ^ n
abbrev dv (f : Int → Int) (o : Int) (n : Nat) : Int := dvB 16777216 f o n
def digB (B : Int) (f : Int → Int) (o : Int) (n : Nat) : Prop := ∀ i : Nat, i < n → 0 ≤ f (o + i) ∧ f (o + i) < B
theorem dvB_zero (B : Int) (f : Int → Int) (o : Int) : dvB B f o 0 = 0 := rfl
theorem dvB_succ (B : Int) (f : Int → Int) (o : Int) (n : Nat) : dvB B f o (n + 1) = dvB B f o n + f (o + n) * B ^ n := rfl
theorem dvB_congr {B : Int} {f g : Int → Int} {o p : Int} : ∀ {n : Nat}, (∀ i : Nat, i < n → f (o + i) = g (p + i)) → dvB B f o n = dvB B g p n
  | 0, _ => rfl
  | n + 1, h => by rw [dvB_succ, dvB_succ, dvB_congr (fun i hi => h i (by omega)), h n (by omega)]
theorem dvB_low (B : Int) (f : Int → Int) (o : Int) : ∀ n : Nat, dvB B f o (n + 1) = f o + B * dvB B f (o + 1) n
  | 0 => by simp [dvB]
  | n + 1 => by
    rw [dvB_succ, dvB_low B f o n, dvB_succ]
    have : o + ((n + 1 : Nat) : Int) = o + 1 + (n : Int) := by omega
    rw [this]; grind
theorem dvB_split (B : Int) (f : Int → Int) (o : Int) (a : Nat) : ∀ b : Nat, dvB B f o (a + b) = dvB B f o a + B ^ a * dvB B f (o + a) b
  | 0 => by simp [dvB]
  | b + 1 => by
    rw [show a + (b + 1) = (a + b) + 1 from rfl, dvB_succ, dvB_split B f o a b, dvB_succ]
    have : o + ((a + b : Nat) : Int) = o + a + (b : Int) := by omega
    rw [this]; grind
theorem powB_pos {B : Int} (hB : 0 < B) (n : Nat) : 0 < B ^ n := Int.pow_pos hB
theorem dvB_nonneg {B : Int} (hB : 0 < B) {f : Int → Int} {o : Int} : ∀ {n : Nat}, (∀ i : Nat, i < n → 0 ≤ f (o + i)) → 0 ≤ dvB B f o n
  | 0, _ => by simp [dvB]
  | n + 1, h => by
    rw [dvB_succ]
    have h1 := dvB_nonneg hB (n := n) (fun i hi => h i (by omega))
    have h2 := Int.mul_nonneg (h n (by omega)) (Int.le_of_lt (powB_pos hB n))
    omega
theorem dvB_lt {B : Int} (hB : 0 < B) {f : Int → Int} {o : Int} : ∀ {n : Nat}, digB B f o n → dvB B f o n < B ^ n
  | 0, _ => by simp [dvB]
  | n + 1, h => by
    rw [dvB_succ]
    have h1 := dvB_lt hB (n := n) (fun i hi => h i (by omega))
    have h2 : f (o + n) * B ^ n ≤ (B - 1) * B ^ n := Int.mul_le_mul_of_nonneg_right (by have := (h n (by omega)).2; omega) (Int.le_of_lt (powB_pos hB n))
    have h3 : (B - 1) * B ^ n + B ^ n = B ^ (n + 1) := by grind
    omega
theorem dvB_ge {B : Int} (hB : 0 < B) {f : Int → Int} {o : Int} {n : Nat} (h : digB B f o (n + 1)) (ht : f (o + n) ≠ 0) : B ^ n ≤ dvB B f o (n + 1) := by
  rw [dvB_succ]
  have h1 := dvB_nonneg hB (f := f) (o := o) (n := n) (fun i hi => (h i (by omega)).1)
  have h2 : 1 * B ^ n ≤ f (o + n) * B ^ n := Int.mul_le_mul_of_nonneg_right (by have := (h n (by omega)).1; omega) (Int.le_of_lt (powB_pos hB n))
  omega
theorem dvB_up_out {B : Int} {f : Int → Int} {o x v : Int} {n : Nat} (h : x < o ∨ o + n ≤ x) : dvB B (up1 f x v) o n = dvB B f o n :=
  dvB_congr (fun i hi => up1_ne f (by omega) v)
theorem digB_mono {B : Int} {f : Int → Int} {o : Int} {n m : Nat} (h : digB B f o n) (hm : m ≤ n) : digB B f o m := fun i hi => h i (by omega)
theorem digB_up {B : Int} {f : Int → Int} {o x v : Int} {n : Nat} (h : ∀ i : Nat, i < n → o + i ≠ x → 0 ≤ f (o + i) ∧ f (o + i) < B) (v0 : 0 ≤ v) (v1 : v < B) : digB B (up1 f x v) o n := by
  intro i hi
  by_cases e : o + i = x
  · rw [e, up1_same]; exact ⟨v0, v1⟩
  · rw [up1_ne f e]; exact h i hi e
theorem digB_up_out {B : Int} {f : Int → Int} {o x v : Int} {n : Nat} (h : digB B f o n) (hx : x < o ∨ o + n ≤ x) : digB B (up1 f x v) o n := by
  intro i hi
  rw [up1_ne f (by omega)]; exact h i hi
theorem digB_congr {B : Int} {f g : Int → Int} {o p : Int} {n : Nat} (h : digB B f o n) (hg : ∀ i : Nat, i < n → g (p + i) = f (o + i)) : digB B g p n := by
  intro i hi; rw [hg i hi]; exact h i hi
theorem pow_mono {B : Int} (hB : 1 < B) {n m : Nat} (h : n ≤ m) : B ^ n ≤ B ^ m := by
  obtain ⟨k, rfl⟩ := Nat.exists_eq_add_of_le h
  induction k with
  | zero => exact Int.le_refl _
  | succ k ih =>
    have h1 := ih (by omega)
    have h2 : 1 * B ^ (n + k) ≤ B * B ^ (n + k) := Int.mul_le_mul_of_nonneg_right (by omega) (Int.le_of_lt (powB_pos (by omega) _))
    have h3 : B * B ^ (n + k) = B ^ (n + (k + 1)) := by rw [← Nat.add_assoc]; grind
    omega
theorem pow_inj_lt {B : Int} (hB : 1 < B) {n m : Nat} (h : B ^ n < B ^ m) : n < m := by
  rcases Nat.lt_or_ge n m with h' | h'
  · exact h'
  · have := pow_mono hB h'; omega
/-- two numbers of the same places are the same when their digits are; the first difference from above decides -/
theorem dvB_cmp {B : Int} (hB : 0 < B) {f g : Int → Int} {o p : Int} {n i : Nat} (hf : digB B f o n) (hg : digB B g p n) (hi : i < n) (heq : ∀ j : Nat, i < j → j < n → f (o + j) = g (p + j)) (hlt : f (o + i) < g (p + i)) : dvB B f o n < dvB B g p n := by
  obtain ⟨m, rfl⟩ := Nat.exists_eq_add_of_lt hi
  rw [show i + m + 1 = (i + 1) + m by omega, dvB_split B f o (i + 1) m, dvB_split B g p (i + 1) m, dvB_succ, dvB_succ]
  have e : dvB B f (o + ((i + 1 : Nat) : Int)) m = dvB B g (p + ((i + 1 : Nat) : Int)) m := dvB_congr (fun j hj => by
    have := heq (i + 1 + j) (by omega) (by omega)
    rw [show o + ((i + 1 : Nat) : Int) + (j : Int) = o + ((i + 1 + j : Nat) : Int) by omega, show p + ((i + 1 : Nat) : Int) + (j : Int) = p + ((i + 1 + j : Nat) : Int) by omega]; exact this)
  rw [e]
  have h1 := dvB_lt hB (digB_mono hf (show i ≤ i + m + 1 by omega))
  have h2 := dvB_nonneg hB (f := g) (o := p) (n := i) (fun j hj => (hg j (by omega)).1)
  have h3 : (f (o + i) + 1) * B ^ i ≤ g (p + i) * B ^ i := Int.mul_le_mul_of_nonneg_right (by omega) (Int.le_of_lt (powB_pos hB i))
  have h4 : (f (o + i) + 1) * B ^ i = f (o + i) * B ^ i + B ^ i := by grind
  omega
end
section
/-! THE REFERENCE'S NUMBERS: number k has n parts, and its size is m -/
def Mag (s : mo_S) (k : Int) (n : Nat) (m : Int) : Prop := s 2 k = n ∧ n ≤ 140 ∧ digB 16777216 (s 1) (140 * k) n ∧ (∀ j : Nat, n = j + 1 → s 1 (140 * k + j) ≠ 0) ∧ m = dvB 16777216 (s 1) (140 * k) n
/-- a power of the base, not to be computed -/
def rm (n : Nat) : Int := 16777216 ^ n
theorem rm_le {n i : Nat} (h : n ≤ i) : rm n ≤ 16777216 ^ i := pow_mono (by decide) h
theorem le_rm {n i : Nat} (h : i ≤ n) : 16777216 ^ i ≤ rm n := pow_mono (by decide) h
theorem rm_pos (n : Nat) : 0 < rm n := powB_pos (by decide) n
def isN (s : mo_S) (k v : Int) : Prop := ∃ n m, Mag s k n m ∧ ((s 3 k = 0 ∧ v = m) ∨ (s 3 k = 1 ∧ v = -m))
/-- only number k has changed -/
def chP (k : Int) (s s' : mo_S) : Prop := (∀ b, b < 140 * k ∨ 140 * k + 140 ≤ b → s' 1 b = s 1 b) ∧ (∀ b, b ≠ k → s' 2 b = s 2 b) ∧ (∀ b, b ≠ k → s' 3 b = s 3 b) ∧ ∀ a, a ≠ 1 → a ≠ 2 → a ≠ 3 → s' a = s a
def Bg (s : mo_S) (r : Int → Int) : Prop := ∀ k, 0 ≤ k → k < 277 → isN s k (r k)
/-- what isn't a number's part, length or sign stays -/
def oth (s s' : mo_S) : Prop := ∀ a, a ≠ 1 → a ≠ 2 → a ≠ 3 → s' a = s a
theorem oth_refl (s : mo_S) : oth s s := fun _ _ _ _ => rfl
theorem oth_trans {s s' s'' : mo_S} (h : oth s s') (h' : oth s' s'') : oth s s'' := fun a h1 h2 h3 => (h' a h1 h2 h3).trans (h a h1 h2 h3)
theorem chP_oth {k : Int} {s s' : mo_S} (h : chP k s s') : oth s s' := h.2.2.2
theorem chP_refl (k : Int) (s : mo_S) : chP k s s := ⟨fun _ _ => rfl, fun _ _ => rfl, fun _ _ => rfl, fun _ _ _ _ => rfl⟩
theorem chP_trans {k : Int} {s s' s'' : mo_S} (h : chP k s s') (h' : chP k s' s'') : chP k s s'' :=
  ⟨fun b hb => (h'.1 b hb).trans (h.1 b hb), fun b hb => (h'.2.1 b hb).trans (h.2.1 b hb), fun b hb => (h'.2.2.1 b hb).trans (h.2.2.1 b hb), fun a h1 h2 h3 => (h'.2.2.2 a h1 h2 h3).trans (h.2.2.2 a h1 h2 h3)⟩
theorem chP_up1 {k x : Int} (s : mo_S) (v : Int) (h0 : 140 * k ≤ x) (h1 : x < 140 * k + 140) : chP k s (up s 1 x v) :=
  ⟨fun b hb => by rw [up_same, up1_ne _ (by omega)], fun b _ => by rw [up_ne s (by decide)], fun b _ => by rw [up_ne s (by decide)], fun a h _ _ => up_ne s h x v⟩
theorem chP_up2 (k : Int) (s : mo_S) (v : Int) : chP k s (up s 2 k v) :=
  ⟨fun b hb => by rw [up_ne s (by decide)], fun b h => by rw [up_same, up1_ne _ h], fun b _ => by rw [up_ne s (by decide)], fun a _ h _ => up_ne s h k v⟩
theorem chP_up3 (k : Int) (s : mo_S) (v : Int) : chP k s (up s 3 k v) :=
  ⟨fun b hb => by rw [up_ne s (by decide)], fun b _ => by rw [up_ne s (by decide)], fun b h => by rw [up_same, up1_ne _ h], fun a _ _ h => up_ne s h k v⟩
theorem up_id {s : mo_S} {k : Nat} {i v : Int} (h : s k i = v) : up s k i v = s := by
  funext a b
  by_cases e : a = k
  · subst e; rw [up_same]
    by_cases f : b = i
    · subst f; rw [up1_same, h]
    · rw [up1_ne _ f]
  · rw [up_ne s e]
theorem up1_up1 (f : Int → Int) (i v u : Int) : up1 (up1 f i v) i u = up1 f i u := by
  funext b; by_cases e : b = i <;> simp [up1, e]
theorem up_up (s : mo_S) (k : Nat) (i v u : Int) : up (up s k i v) k i u = up s k i u := by
  funext a
  by_cases e : a = k
  · subst e; rw [up_same, up_same, up_same, up1_up1]
  · rw [up_ne _ e, up_ne _ e, up_ne _ e]
theorem Mag_ch {s s' : mo_S} {j k : Int} {n : Nat} {m : Int} (h : Mag s j n m) (hc : chP k s s') (hj : j ≠ k) : Mag s' j n m := by
  obtain ⟨h1, h2, h3, h4, h5⟩ := h
  have e : ∀ i : Nat, i < n → s' 1 (140 * j + i) = s 1 (140 * j + i) := fun i hi => hc.1 _ (by omega)
  refine ⟨by rw [hc.2.1 j hj, h1], h2, digB_congr h3 e, fun i hi => ?_, ?_⟩
  · rw [e i (by omega)]; exact h4 i hi
  · rw [h5]; exact (dvB_congr e).symm
theorem isN_ch {s s' : mo_S} {j k v : Int} (h : isN s j v) (hc : chP k s s') (hj : j ≠ k) : isN s' j v := by
  obtain ⟨n, m, h1, h2⟩ := h
  exact ⟨n, m, Mag_ch h1 hc hj, by rw [hc.2.2.1 j hj]; exact h2⟩
theorem Bg_ch {s s' : mo_S} {r : Int → Int} {k v : Int} (h : Bg s r) (hc : chP k s s') (hk : isN s' k v) : Bg s' (up1 r k v) := by
  intro j j0 j1
  by_cases e : j = k
  · subst e; rw [up1_same]; exact hk
  · rw [up1_ne _ e]; exact isN_ch (h j j0 j1) hc e
theorem Mag_nn {s : mo_S} {k : Int} {n : Nat} {m : Int} (h : Mag s k n m) : 0 ≤ m := by
  rw [h.2.2.2.2]; exact dvB_nonneg (by decide) (fun i hi => (h.2.2.1 i hi).1)
theorem Mag_lt {s : mo_S} {k : Int} {n : Nat} {m : Int} (h : Mag s k n m) : m < 16777216 ^ n := by
  rw [h.2.2.2.2]; exact dvB_lt (by decide) h.2.2.1
theorem Mag_ge {s : mo_S} {k : Int} {n : Nat} {m : Int} (h : Mag s k (n + 1) m) : 16777216 ^ n ≤ m := by
  rw [h.2.2.2.2]; exact dvB_ge (by decide) h.2.2.1 (h.2.2.2.1 n rfl)
theorem Mag_zero {s : mo_S} {k : Int} {n : Nat} {m : Int} (h : Mag s k n m) : n = 0 ↔ m = 0 := by
  constructor
  · intro e; subst e; rw [h.2.2.2.2]; rfl
  · intro e
    cases n with
    | zero => rfl
    | succ n => have := Mag_ge h; have := powB_pos (B := 16777216) (by decide) n; omega
theorem isN_abs {s : mo_S} {k v : Int} (h : isN s k v) : ∃ n, Mag s k n (v.natAbs : Int) ∧ (s 3 k = 0 ∨ s 3 k = 1) ∧ (s 3 k = 0 → 0 ≤ v) ∧ (s 3 k = 1 → v ≤ 0) := by
  obtain ⟨n, m, h1, h2⟩ := h
  have h0 := Mag_nn h1
  rcases h2 with ⟨e, rfl⟩ | ⟨e, rfl⟩
  · exact ⟨n, by rw [show ((v.natAbs : Nat) : Int) = v by omega]; exact h1, by omega, by omega, by omega⟩
  · exact ⟨n, by rw [show (((-m).natAbs : Nat) : Int) = m by omega]; exact h1, by omega, by omega, by omega⟩
theorem isN_of {s : mo_S} {k : Int} {n : Nat} {m v : Int} (h : Mag s k n m) (hm : m = (v.natAbs : Int)) (h3 : (s 3 k = 0 ∧ 0 ≤ v) ∨ (s 3 k = 1 ∧ v ≤ 0)) : isN s k v := by
  refine ⟨n, m, h, ?_⟩
  rcases h3 with ⟨e, q⟩ | ⟨e, q⟩
  · exact Or.inl ⟨e, by omega⟩
  · exact Or.inr ⟨e, by omega⟩
section BIG
variable {xs : List Int32} {fr lo : Nat} {w0 : ax_W}
theorem c_bigTrim {k : Int} (k0 : 0 ≤ k) (k1 : k < 277) : ∀ (n : Nat) (w : ax_W) (s : mo_S), RW w0 w s → s 2 k = n → n ≤ 140 → digB 16777216 (s 1) (140 * k) n →
    fin xs fr lo 133 0 (ax_ent [.ref 425, .int (jI k)] 2) [] w (Ret fun v w' => v = none ∧ ∃ n', RW w0 w' (up s 2 k (n' : Nat)) ∧ Mag (up s 2 k n') k n' (dvB 16777216 (s 1) (140 * k) n)) := by
  intro n
  induction n with
  | zero =>
    intro w s hw hn hm hd
    refine fi_step (pc' := 1) m_Mo_bigTrim rfl rfl ?_
    refine r_get (p := 4) m_Mo_bigTrim rfl rfl (by assumption) rfl ?_
    refine fi_step (pc' := 5) m_Mo_bigTrim rfl rfl ?_
    refine r_ldI (p := 6) m_Mo_bigTrim rfl rfl (by assumption) (by decide) rfl (by decide) (by omega) (by omega) ?_
    refine s_if_le (p := 9) m_Mo_bigTrim rfl rfl (by omega) (by omega) (fun hbr => ?_) (fun hbr => False.elim (by omega))
    refine p_ret m_Mo_bigTrim rfl rfl ?_
    refine ⟨rfl, 0, ?_, ?_⟩
    · rw [up_id hn]; exact hw
    · rw [up_id hn]; exact ⟨hn, by omega, hd, fun j hj => by omega, rfl⟩
  | succ n ih =>
    intro w s hw hn hm hd
    have hq : 0 ≤ s 1 (140 * k + s 2 k - 1) ∧ s 1 (140 * k + s 2 k - 1) < 16777216 := by
      have := hd n (by omega)
      rwa [show 140 * k + (n : Int) = 140 * k + s 2 k - 1 by omega] at this
    refine fi_step (pc' := 1) m_Mo_bigTrim rfl rfl ?_
    refine r_get (p := 4) m_Mo_bigTrim rfl rfl (by assumption) rfl ?_
    refine fi_step (pc' := 5) m_Mo_bigTrim rfl rfl ?_
    refine r_ldI (p := 6) m_Mo_bigTrim rfl rfl (by assumption) (by decide) rfl (by decide) (by omega) (by omega) ?_
    refine s_if_le (p := 9) m_Mo_bigTrim rfl rfl (by omega) (by omega) (fun hbr => False.elim (by omega)) (fun hbr => ?_)
    refine fi_step (pc' := 10) m_Mo_bigTrim rfl rfl ?_
    refine r_get (p := 13) m_Mo_bigTrim rfl rfl (by assumption) rfl ?_
    refine s_sipush (p := 16) m_Mo_bigTrim rfl rfl rfl ?_
    refine fi_step (pc' := 17) m_Mo_bigTrim rfl rfl ?_
    refine s_imul (p := 18) m_Mo_bigTrim rfl rfl ?_
    refine fi_step (pc' := 19) m_Mo_bigTrim rfl rfl ?_
    refine r_get (p := 22) m_Mo_bigTrim rfl rfl (by assumption) rfl ?_
    refine fi_step (pc' := 23) m_Mo_bigTrim rfl rfl ?_
    refine r_ldI (p := 24) m_Mo_bigTrim rfl rfl (by assumption) (by decide) rfl (by decide) (by omega) (by omega) ?_
    refine s_iadd (p := 25) m_Mo_bigTrim rfl rfl ?_
    refine fi_step (pc' := 26) m_Mo_bigTrim rfl rfl ?_
    refine s_isub (p := 27) m_Mo_bigTrim rfl rfl ?_
    refine r_ldI (p := 28) m_Mo_bigTrim rfl rfl (by assumption) (by decide) rfl (by decide) (by omega) (by omega) ?_
    refine s_if_ne (p := 31) m_Mo_bigTrim rfl rfl (by omega) (by omega) (fun h => ?_) (fun h => ?_)
    · refine p_ret m_Mo_bigTrim rfl rfl ?_
      refine ⟨rfl, n + 1, ?_, ?_⟩
      · rw [up_id hn]; exact hw
      · rw [up_id hn]; refine ⟨hn, by omega, hd, fun j hj => ?_, rfl⟩
        rw [show 140 * k + (j : Int) = 140 * k + s 2 k - 1 by omega]; exact h
    · refine fi_step (pc' := 32) m_Mo_bigTrim rfl rfl ?_
      refine r_get (p := 35) m_Mo_bigTrim rfl rfl (by assumption) rfl ?_
      refine fi_step (pc' := 36) m_Mo_bigTrim rfl rfl ?_
      refine fi_step (pc' := 37) m_Mo_bigTrim rfl rfl ?_
      refine r_ldI (p := 38) m_Mo_bigTrim rfl rfl (by assumption) (by decide) rfl (by decide) (by omega) (by omega) ?_
      refine fi_step (pc' := 39) m_Mo_bigTrim rfl rfl ?_
      refine s_isub (p := 40) m_Mo_bigTrim rfl rfl ?_
      refine r_stI (p := 41) m_Mo_bigTrim rfl rfl (by assumption) (by decide) (fun _ => rfl) (by decide) (by omega) (by omega) (fun w hw => ?_)
      refine fi_step (pc' := 0) m_Mo_bigTrim rfl rfl ?_
      have e2 : s 2 k - 1 = (n : Int) := by omega
      rw [e2] at hw
      refine fi_mono (ih w _ hw (by rw [up_same, up1_same]) (by omega) (by rw [up_ne s (by decide)]; exact digB_mono hd (by omega))) ?_
      rintro o w' ⟨v, rfl, hv, n', h1, h2⟩
      have e3 : up (up s 2 k (n : Int)) 2 k (n' : Int) = up s 2 k (n' : Int) := up_up s 2 k _ _
      rw [e3] at h1 h2
      refine ⟨v, rfl, hv, n', h1, ?_⟩
      have e4 : dvB 16777216 (s 1) (140 * k) (n + 1) = dvB 16777216 (up s 2 k (n : Int) 1) (140 * k) n := by
        rw [dvB_succ, up_ne s (by decide), show 140 * k + (n : Int) = 140 * k + s 2 k - 1 by omega, h]; simp
      rw [e4]; exact h2
theorem bigSet_loop {k : Int} {x : Value} (k0 : 0 ≤ k) (k1 : k < 277) : ∀ (j n : Nat) (left : Int) (w : ax_W) (s : mo_S), RW w0 w s → 0 ≤ left → left < 16777216 ^ j → left < 9223372036854775808 → n + j ≤ 140 → digB 16777216 (s 1) (140 * k) n → (left = 0 → ∀ i : Nat, n = i + 1 → s 1 (140 * k + i) ≠ 0) →
    fin xs fr lo 130 34 [some (.ref 425), some (.int (jI k)), some x, none, some (.int (jI n)), some (.long (jL left)), none] [] w (Ret fun v w' => v = none ∧ ∃ s' n', RW w0 w' s' ∧ chP k s s' ∧ s' 3 = s 3 ∧ Mag s' k n' (dvB 16777216 (s 1) (140 * k) n + left * 16777216 ^ n)) := by
  intro j
  induction j with
  | zero =>
    intro n left w s hw l0 l1 l2 hn hd ht
    have : left = 0 := by simp at l1; omega
    subst this
    refine fi_step (pc' := 36) m_Mo_bigSet rfl rfl ?_
    refine s_lconst (p := 37) (v := 0) m_Mo_bigSet rfl rfl rfl ?_
    refine s_lc_eq (q := 38) (p := 41) m_Mo_bigSet rfl rfl rfl rfl (by omega) (by omega) (by omega) (by omega) (fun hbr => ?_) (fun hbr => False.elim (by omega))
    refine fi_step (pc' := 75) m_Mo_bigSet rfl rfl ?_
    refine r_get (p := 78) m_Mo_bigSet rfl rfl (by assumption) rfl ?_
    refine fi_step (pc' := 79) m_Mo_bigSet rfl rfl ?_
    refine fi_step (pc' := 81) m_Mo_bigSet rfl rfl ?_
    refine r_stI (p := 82) m_Mo_bigSet rfl rfl (by assumption) (by decide) (fun _ => rfl) (by decide) (by omega) (by omega) (fun w hw => ?_)
    refine p_ret m_Mo_bigSet rfl rfl ?_
    refine ⟨rfl, _, n, hw, chP_up2 k s _, by rw [up_ne s (by decide)], ?_⟩
    refine ⟨by rw [up_same, up1_same], by omega, by rw [up_ne s (by decide)]; exact hd, by rw [up_ne s (by decide)]; exact ht rfl, by rw [up_ne s (by decide)]; simp⟩
  | succ j ih =>
    intro n left w s hw l0 l1 l2 hn hd ht
    refine fi_step (pc' := 36) m_Mo_bigSet rfl rfl ?_
    refine s_lconst (p := 37) (v := 0) m_Mo_bigSet rfl rfl rfl ?_
    refine s_lc_eq (q := 38) (p := 41) m_Mo_bigSet rfl rfl rfl rfl (by omega) (by omega) (by omega) (by omega) (fun h => ?_) (fun h => ?_)
    · subst h
      refine fi_step (pc' := 75) m_Mo_bigSet rfl rfl ?_
      refine r_get (p := 78) m_Mo_bigSet rfl rfl (by assumption) rfl ?_
      refine fi_step (pc' := 79) m_Mo_bigSet rfl rfl ?_
      refine fi_step (pc' := 81) m_Mo_bigSet rfl rfl ?_
      refine r_stI (p := 82) m_Mo_bigSet rfl rfl (by assumption) (by decide) (fun _ => rfl) (by decide) (by omega) (by omega) (fun w hw => ?_)
      refine p_ret m_Mo_bigSet rfl rfl ?_
      refine ⟨rfl, _, n, hw, chP_up2 k s _, by rw [up_ne s (by decide)], ?_⟩
      refine ⟨by rw [up_same, up1_same], by omega, by rw [up_ne s (by decide)]; exact hd, by rw [up_ne s (by decide)]; exact ht rfl, by rw [up_ne s (by decide)]; simp⟩
    · refine fi_step (pc' := 42) m_Mo_bigSet rfl rfl ?_
      refine r_get (p := 45) m_Mo_bigSet rfl rfl (by assumption) rfl ?_
      refine s_sipush (p := 48) m_Mo_bigSet rfl rfl rfl ?_
      refine fi_step (pc' := 49) m_Mo_bigSet rfl rfl ?_
      refine s_imul (p := 50) m_Mo_bigSet rfl rfl ?_
      refine fi_step (pc' := 52) m_Mo_bigSet rfl rfl ?_
      refine s_iadd (p := 53) m_Mo_bigSet rfl rfl ?_
      refine fi_step (pc' := 55) m_Mo_bigSet rfl rfl ?_
      refine s_ldc2 (p := 58) 16777215 m_Mo_bigSet rfl rfl rfl ?_
      refine b_land (p := 59) m_Mo_bigSet rfl rfl  ?_
      refine s_l2i (p := 60) m_Mo_bigSet rfl rfl ?_
      refine r_stI (p := 61) m_Mo_bigSet rfl rfl (by assumption) (by decide) (fun _ => rfl) (by decide) (by omega) (by omega) (fun w hw => ?_)
      refine s_iinc (p := 64) m_Mo_bigSet rfl rfl rfl ?_
      refine fi_step (pc' := 66) m_Mo_bigSet rfl rfl ?_
      refine s_bipush (p := 68) m_Mo_bigSet rfl rfl rfl ?_
      refine b_lushr (p := 69) m_Mo_bigSet rfl rfl (by omega) (by omega) ?_
      refine fi_step (pc' := 71) m_Mo_bigSet rfl rfl ?_
      refine fi_step (pc' := 34) m_Mo_bigSet rfl rfl ?_
      have hp : (16777216 : Int) ^ (j + 1) = 16777216 * 16777216 ^ j := by grind
      have hb := powB_pos (B := 16777216) (by decide) j
      have m0 := Int.emod_nonneg left (show (16777216 : Int) ≠ 0 by decide)
      have m1 := Int.emod_lt_of_pos left (show (0 : Int) < 16777216 by decide)
      have me := Int.emod_add_mul_ediv left 16777216
      have d0 : 0 ≤ left / 16777216 := by omega
      have d1 : left / 16777216 < 16777216 ^ j := Int.ediv_lt_of_lt_mul (by decide) (by rw [Int.mul_comm]; omega)
      refine fi_mono (ih (n + 1) (left / 16777216) w _ hw d0 d1 (by omega) (by omega) ?_ ?_) ?_
      · rw [up_same]; exact digB_up (fun i hi hne => hd i (by omega)) m0 m1
      · intro q i hi
        rw [show i = n by omega, up_same, up1_same]; omega
      · rintro o w' ⟨v, rfl, hv, s', n', h1, h2, h3, h4⟩
        refine ⟨v, rfl, hv, s', n', h1, chP_trans (chP_up1 s _ (by omega) (by omega)) h2, by rw [h3, up_ne s (by decide)], ?_⟩
        have e : dvB 16777216 (up s 1 (140 * k + n) (left % 16777216) 1) (140 * k) (n + 1) + left / 16777216 * 16777216 ^ (n + 1) = dvB 16777216 (s 1) (140 * k) n + left * 16777216 ^ n := by
          rw [dvB_succ, up_same, up1_same, dvB_up_out (by omega)]
          have : left * 16777216 ^ n = (left % 16777216 + 16777216 * (left / 16777216)) * 16777216 ^ n := by rw [me]
          rw [this]; grind
        rw [← e]; exact h4
theorem c_bigSet {k v : Int} {w : ax_W} {s : mo_S} {r : Int → Int} (hw : RW w0 w s) (hb : Bg s r) (k0 : 0 ≤ k) (k1 : k < 277) (v0 : -4611686018427387904 ≤ v) (v1 : v ≤ 4611686018427387904) :
    fin xs fr lo 130 0 (ax_ent [.ref 425, .int (jI k), .long (jL v)] 7) [] w (Ret fun u w' => u = none ∧ ∃ s', RW w0 w' s' ∧ oth s s' ∧ Bg s' (up1 r k v)) := by
  refine fi_step (pc' := 1) m_Mo_bigSet rfl rfl ?_
  refine r_get (p := 4) m_Mo_bigSet rfl rfl (by assumption) rfl ?_
  refine fi_step (pc' := 5) m_Mo_bigSet rfl rfl ?_
  refine fi_step (pc' := 6) m_Mo_bigSet rfl rfl ?_
  refine s_lconst (p := 7) (v := 0) m_Mo_bigSet rfl rfl rfl ?_
  refine s_lc_ge (q := 8) (p := 11) m_Mo_bigSet rfl rfl rfl rfl (by omega) (by omega) (by omega) (by omega) (fun h => ?_) (fun h => ?_)
  · refine fi_step (pc' := 16) m_Mo_bigSet rfl rfl ?_
    refine r_stB (p := 17) m_Mo_bigSet rfl rfl (by assumption) (by decide) (fun _ => rfl) (by decide) (by omega) (by omega) (by omega) (by omega) (fun w hw => ?_)
    refine fi_step (pc' := 18) m_Mo_bigSet rfl rfl ?_
    refine fi_step (pc' := 20) m_Mo_bigSet rfl rfl ?_
    refine fi_step (pc' := 21) m_Mo_bigSet rfl rfl ?_
    refine s_lconst (p := 22) (v := 0) m_Mo_bigSet rfl rfl rfl ?_
    refine s_lc_ge (q := 23) (p := 26) m_Mo_bigSet rfl rfl rfl rfl (by omega) (by omega) (by omega) (by omega) (fun hbr => ?_) (fun hbr => False.elim (by omega))
    refine fi_step (pc' := 32) m_Mo_bigSet rfl rfl ?_
    refine fi_step (pc' := 34) m_Mo_bigSet rfl rfl ?_
    refine fi_mono (bigSet_loop k0 k1 3 0 v w _ hw h (by omega) (by omega) (by omega) (fun i hi => by omega) (fun _ i hi => by omega)) ?_
    rintro o w' ⟨u, rfl, hu, s', n', h1, h2, h3, h4⟩
    have h5 := chP_trans (chP_up3 k s 0) h2
    refine ⟨u, rfl, hu, s', h1, chP_oth h5, Bg_ch hb h5 (isN_of h4 ?_ (Or.inl ⟨?_, h⟩))⟩
    · simp [dvB_zero]; omega
    · rw [h3, up_same, up1_same]
  · refine fi_step (pc' := 12) m_Mo_bigSet rfl rfl ?_
    refine fi_step (pc' := 16) m_Mo_bigSet rfl rfl ?_
    refine r_stB (p := 17) m_Mo_bigSet rfl rfl (by assumption) (by decide) (fun _ => rfl) (by decide) (by omega) (by omega) (by omega) (by omega) (fun w hw => ?_)
    refine fi_step (pc' := 18) m_Mo_bigSet rfl rfl ?_
    refine fi_step (pc' := 20) m_Mo_bigSet rfl rfl ?_
    refine fi_step (pc' := 21) m_Mo_bigSet rfl rfl ?_
    refine s_lconst (p := 22) (v := 0) m_Mo_bigSet rfl rfl rfl ?_
    refine s_lc_ge (q := 23) (p := 26) m_Mo_bigSet rfl rfl rfl rfl (by omega) (by omega) (by omega) (by omega) (fun hbr => False.elim (by omega)) (fun hbr => ?_)
    refine fi_step (pc' := 27) m_Mo_bigSet rfl rfl ?_
    refine s_lneg (p := 28) m_Mo_bigSet rfl rfl ?_
    refine fi_step (pc' := 32) m_Mo_bigSet rfl rfl ?_
    refine fi_step (pc' := 34) m_Mo_bigSet rfl rfl ?_
    refine fi_mono (bigSet_loop k0 k1 3 0 (-v) w _ hw (by omega) (by omega) (by omega) (by omega) (fun i hi => by omega) (fun _ i hi => by omega)) ?_
    rintro o w' ⟨u, rfl, hu, s', n', h1, h2, h3, h4⟩
    have h5 := chP_trans (chP_up3 k s 1) h2
    refine ⟨u, rfl, hu, s', h1, chP_oth h5, Bg_ch hb h5 (isN_of h4 ?_ (Or.inr ⟨?_, by omega⟩))⟩
    · simp [dvB_zero]; omega
    · rw [h3, up_same, up1_same]
end BIG
end
section
/-! copies, comparisons, sums of the reference's numbers -/
section BIG2
variable {xs : List Int32} {fr lo : Nat} {w0 : ax_W}
theorem bigCopy_loop {k u : Int} {n : Nat} (k0 : 0 ≤ k) (k1 : k < 277) (u0 : 0 ≤ u) (u1 : u < 277) (hku : k ≠ u) (hn : n ≤ 140) : ∀ (c i : Nat) (w : ax_W) (s : mo_S), RW w0 w s → i + c = n → s 2 u = n → (∀ j : Nat, j < i → s 1 (140 * k + j) = s 1 (140 * u + j)) →
    fin xs fr lo 153 26 [some (.ref 425), some (.int (jI k)), some (.int (jI u)), some (.int (jI i))] [] w (Ret fun v w' => v = none ∧ ∃ s', RW w0 w' s' ∧ chP k s s' ∧ s' 2 = s 2 ∧ s' 3 = s 3 ∧ ∀ j : Nat, j < n → s' 1 (140 * k + j) = s 1 (140 * u + j)) := by
  intro c
  induction c with
  | zero =>
    intro i w s hw hi h2 he
    refine fi_step (pc' := 27) m_Mo_bigCopy rfl rfl ?_
    refine fi_step (pc' := 28) m_Mo_bigCopy rfl rfl ?_
    refine r_get (p := 31) m_Mo_bigCopy rfl rfl (by assumption) rfl ?_
    refine fi_step (pc' := 32) m_Mo_bigCopy rfl rfl ?_
    refine r_ldI (p := 33) m_Mo_bigCopy rfl rfl (by assumption) (by decide) rfl (by decide) (by omega) (by omega) ?_
    refine s_ic_ge (p := 36) m_Mo_bigCopy rfl rfl (by omega) (by omega) (by omega) (by omega) (fun hbr => ?_) (fun hbr => False.elim (by omega))
    refine p_ret m_Mo_bigCopy rfl rfl ?_
    exact ⟨rfl, s, hw, chP_refl k s, rfl, rfl, fun j hj => he j (by omega)⟩
  | succ c ih =>
    intro i w s hw hi h2 he
    refine fi_step (pc' := 27) m_Mo_bigCopy rfl rfl ?_
    refine fi_step (pc' := 28) m_Mo_bigCopy rfl rfl ?_
    refine r_get (p := 31) m_Mo_bigCopy rfl rfl (by assumption) rfl ?_
    refine fi_step (pc' := 32) m_Mo_bigCopy rfl rfl ?_
    refine r_ldI (p := 33) m_Mo_bigCopy rfl rfl (by assumption) (by decide) rfl (by decide) (by omega) (by omega) ?_
    refine s_ic_ge (p := 36) m_Mo_bigCopy rfl rfl (by omega) (by omega) (by omega) (by omega) (fun hbr => False.elim (by omega)) (fun hbr => ?_)
    refine fi_step (pc' := 37) m_Mo_bigCopy rfl rfl ?_
    refine r_get (p := 40) m_Mo_bigCopy rfl rfl (by assumption) rfl ?_
    refine s_sipush (p := 43) m_Mo_bigCopy rfl rfl rfl ?_
    refine fi_step (pc' := 44) m_Mo_bigCopy rfl rfl ?_
    refine s_imul (p := 45) m_Mo_bigCopy rfl rfl ?_
    refine fi_step (pc' := 46) m_Mo_bigCopy rfl rfl ?_
    refine s_iadd (p := 47) m_Mo_bigCopy rfl rfl ?_
    refine fi_step (pc' := 48) m_Mo_bigCopy rfl rfl ?_
    refine r_get (p := 51) m_Mo_bigCopy rfl rfl (by assumption) rfl ?_
    refine s_sipush (p := 54) m_Mo_bigCopy rfl rfl rfl ?_
    refine fi_step (pc' := 55) m_Mo_bigCopy rfl rfl ?_
    refine s_imul (p := 56) m_Mo_bigCopy rfl rfl ?_
    refine fi_step (pc' := 57) m_Mo_bigCopy rfl rfl ?_
    refine s_iadd (p := 58) m_Mo_bigCopy rfl rfl ?_
    refine r_ldI (p := 59) m_Mo_bigCopy rfl rfl (by assumption) (by decide) rfl (by decide) (by omega) (by omega) ?_
    refine r_stI (p := 60) m_Mo_bigCopy rfl rfl (by assumption) (by decide) (fun _ => rfl) (by decide) (by omega) (by omega) (fun w hw => ?_)
    refine s_iinc (p := 63) m_Mo_bigCopy rfl rfl rfl ?_
    refine fi_step (pc' := 26) m_Mo_bigCopy rfl rfl ?_
    have hu : ∀ j : Nat, j < 140 → up s 1 (140 * k + i) (s 1 (140 * u + i)) 1 (140 * u + j) = s 1 (140 * u + j) := by
      intro j hj; rw [up_same, up1_ne _ (by omega)]
    refine fi_mono (ih (i + 1) w _ hw (by omega) (by rw [up_ne s (by decide)]; exact h2) ?_) ?_
    · intro j hj
      rw [hu j (by omega), up_same]
      by_cases e : j = i
      · subst e; rw [up1_same]
      · rw [up1_ne _ (by omega)]; exact he j (by omega)
    · rintro o w' ⟨v, rfl, hv, s', h1, h2', h3, h4, h5⟩
      refine ⟨v, rfl, hv, s', h1, chP_trans (chP_up1 s _ (by omega) (by omega)) h2', by rw [h3, up_ne s (by decide)], by rw [h4, up_ne s (by decide)], fun j hj => ?_⟩
      rw [h5 j hj, hu j (by omega)]
theorem c_bigCopy {k u : Int} {w : ax_W} {s : mo_S} {r : Int → Int} (hw : RW w0 w s) (hB : Bg s r) (k0 : 0 ≤ k) (k1 : k < 277) (u0 : 0 ≤ u) (u1 : u < 277) (hku : k ≠ u) :
    fin xs fr lo 153 0 (ax_ent [.ref 425, .int (jI k), .int (jI u)] 4) [] w (Ret fun v w' => v = none ∧ ∃ s', RW w0 w' s' ∧ oth s s' ∧ Bg s' (up1 r k (r u))) := by
  obtain ⟨n, m, ⟨h1, h2, h3, h4, h5⟩, h6⟩ := hB u u0 u1
  have h3u : 0 ≤ s 3 u ∧ s 3 u ≤ 1 := by rcases h6 with ⟨h, _⟩ | ⟨h, _⟩ <;> omega
  have huk : ¬ u = k := fun e => hku e.symm
  have eL : up s 3 k (s 3 u) 2 u = s 2 u := by rw [up_ne s (by decide)]
  refine fi_step (pc' := 1) m_Mo_bigCopy rfl rfl ?_
  refine r_get (p := 4) m_Mo_bigCopy rfl rfl (by assumption) rfl ?_
  refine fi_step (pc' := 5) m_Mo_bigCopy rfl rfl ?_
  refine fi_step (pc' := 6) m_Mo_bigCopy rfl rfl ?_
  refine r_get (p := 9) m_Mo_bigCopy rfl rfl (by assumption) rfl ?_
  refine fi_step (pc' := 10) m_Mo_bigCopy rfl rfl ?_
  refine r_ldB (p := 11) m_Mo_bigCopy rfl rfl (by assumption) (by decide) rfl (by decide) (by omega) (by omega) ?_
  refine r_stB (p := 12) m_Mo_bigCopy rfl rfl (by assumption) (by decide) (fun _ => rfl) (by decide) (by omega) (by omega) (by omega) (by omega) (fun w hw => ?_)
  refine fi_step (pc' := 13) m_Mo_bigCopy rfl rfl ?_
  refine r_get (p := 16) m_Mo_bigCopy rfl rfl (by assumption) rfl ?_
  refine fi_step (pc' := 17) m_Mo_bigCopy rfl rfl ?_
  refine fi_step (pc' := 18) m_Mo_bigCopy rfl rfl ?_
  refine r_get (p := 21) m_Mo_bigCopy rfl rfl (by assumption) rfl ?_
  refine fi_step (pc' := 22) m_Mo_bigCopy rfl rfl ?_
  refine r_ldI (p := 23) m_Mo_bigCopy rfl rfl (by assumption) (by decide) rfl (by decide) (by omega) (by omega) ?_
  refine r_stI (p := 24) m_Mo_bigCopy rfl rfl (by assumption) (by decide) (fun _ => rfl) (by decide) (by omega) (by omega) (fun w hw => ?_)
  refine fi_step (pc' := 25) m_Mo_bigCopy rfl rfl ?_
  refine fi_step (pc' := 26) m_Mo_bigCopy rfl rfl ?_
  refine fi_mono (bigCopy_loop k0 k1 u0 u1 hku h2 n 0 w _ hw (by omega) ?_ (fun j hj => by omega)) ?_
  · rw [up_same, up1_ne _ huk, eL, h1]
  · rintro o w' ⟨v, rfl, hv, s', g1, g2, g3, g4, g5⟩
    have gc := chP_trans (chP_trans (chP_up3 k s (s 3 u)) (chP_up2 k _ (up s 3 k (s 3 u) 2 u))) g2
    have e1 : ∀ j : Nat, j < n → s' 1 (140 * k + j) = s 1 (140 * u + j) := fun j hj => by
      rw [g5 j hj, up_ne _ (by decide), up_ne _ (by decide)]
    refine ⟨v, rfl, hv, s', g1, chP_oth gc, Bg_ch hB gc ⟨n, m, ⟨?_, h2, digB_congr h3 e1, fun j hj => ?_, ?_⟩, ?_⟩⟩
    · rw [g3, up_same, up1_same, eL, h1]
    · rw [e1 j (by omega)]; exact h4 j hj
    · rw [h5]; exact (dvB_congr e1).symm
    · rw [g4, up_ne _ (by decide), up_same, up1_same]; exact h6
theorem bigSizes_loop {k u : Int} {n : Nat} {m m' : Int} {w : ax_W} {s : mo_S} (hfr : 1 ≤ fr) (hlo : 22 ≤ lo) (hw : RW w0 w s) (k0 : 0 ≤ k) (k1 : k < 277) (u0 : 0 ≤ u) (u1 : u < 277) (hk : Mag s k n m) (hu : Mag s u n m') : ∀ (t : Nat), t ≤ n → (∀ j : Nat, t ≤ j → j < n → s 1 (140 * k + j) = s 1 (140 * u + j)) →
    fin xs fr lo 137 45 [some (.ref 425), some (.int (jI k)), some (.int (jI u)), some (.int (jI ((t : Int) - 1)))] [] w (Same (.int (jI (if m < m' then -1 else if m = m' then 0 else 1))) w) := by
  have ⟨k2, k3, k4, k5, k6⟩ := hk
  have ⟨u2, u3, u4, u5, u6⟩ := hu
  intro t
  induction t with
  | zero =>
    intro ht he
    have : m = m' := by rw [k6, u6]; exact dvB_congr (fun i hi => he i (by omega) hi)
    rw [if_neg (by omega), if_pos this]
    refine fi_step (pc' := 46) m_Mo_bigSizes rfl rfl ?_
    refine s_if_lt (p := 49) m_Mo_bigSizes rfl rfl (by omega) (by omega) (fun hbr => ?_) (fun hbr => False.elim (by omega))
    refine fi_step (pc' := 71) m_Mo_bigSizes rfl rfl ?_
    refine s_if_ge (p := 74) m_Mo_bigSizes rfl rfl (by omega) (by omega) (fun hbr => False.elim (by omega)) (fun hbr => ?_)
    refine fi_step (pc' := 75) m_Mo_bigSizes rfl rfl ?_
    refine fi_step (pc' := 98) m_Mo_bigSizes rfl rfl ?_
    exact s_reti m_Mo_bigSizes rfl rfl (by omega)
  | succ t ih =>
    intro ht he
    have q1 := k4 t (by omega)
    have q2 := u4 t (by omega)
    rw [show ((t + 1 : Nat) : Int) - 1 = (t : Int) by omega]
    refine fi_step (pc' := 46) m_Mo_bigSizes rfl rfl ?_
    refine s_if_lt (p := 49) m_Mo_bigSizes rfl rfl (by omega) (by omega) (fun hbr => False.elim (by omega)) (fun hbr => ?_)
    refine fi_step (pc' := 50) m_Mo_bigSizes rfl rfl ?_
    refine fi_step (pc' := 51) m_Mo_bigSizes rfl rfl ?_
    refine fi_step (pc' := 52) m_Mo_bigSizes rfl rfl ?_
    refine c_3 (p := 55) m_Mo_bigSizes rfl inv_v (by decide) m_Mo_bigAt rfl rfl (by omega) (by omega) (Nat.le_of_ble_eq_true rfl) (Nat.le_of_ble_eq_true rfl) (RW_rcv hw _) (c_bigAt hw k0 k1 (by omega) (by omega) (by omega) (by omega)) ?_
    refine fi_step (pc' := 56) m_Mo_bigSizes rfl rfl ?_
    refine fi_step (pc' := 57) m_Mo_bigSizes rfl rfl ?_
    refine fi_step (pc' := 58) m_Mo_bigSizes rfl rfl ?_
    refine c_3 (p := 61) m_Mo_bigSizes rfl inv_v (by decide) m_Mo_bigAt rfl rfl (by omega) (by omega) (Nat.le_of_ble_eq_true rfl) (Nat.le_of_ble_eq_true rfl) (RW_rcv hw _) (c_bigAt hw u0 u1 (by omega) (by omega) (by omega) (by omega)) ?_
    rw [if_pos (by omega), if_pos (by omega)]
    refine s_ic_ne (p := 64) m_Mo_bigSizes rfl rfl (by omega) (by omega) (by omega) (by omega) (fun h => ?_) (fun h => ?_)
    · refine fi_step (pc' := 71) m_Mo_bigSizes rfl rfl ?_
      refine s_if_ge (p := 74) m_Mo_bigSizes rfl rfl (by omega) (by omega) (fun hbr => ?_) (fun hbr => False.elim (by omega))
      refine fi_step (pc' := 79) m_Mo_bigSizes rfl rfl ?_
      refine fi_step (pc' := 80) m_Mo_bigSizes rfl rfl ?_
      refine fi_step (pc' := 81) m_Mo_bigSizes rfl rfl ?_
      refine c_3 (p := 84) m_Mo_bigSizes rfl inv_v (by decide) m_Mo_bigAt rfl rfl (by omega) (by omega) (Nat.le_of_ble_eq_true rfl) (Nat.le_of_ble_eq_true rfl) (RW_rcv hw _) (c_bigAt hw k0 k1 (by omega) (by omega) (by omega) (by omega)) ?_
      refine fi_step (pc' := 85) m_Mo_bigSizes rfl rfl ?_
      refine fi_step (pc' := 86) m_Mo_bigSizes rfl rfl ?_
      refine fi_step (pc' := 87) m_Mo_bigSizes rfl rfl ?_
      refine c_3 (p := 90) m_Mo_bigSizes rfl inv_v (by decide) m_Mo_bigAt rfl rfl (by omega) (by omega) (Nat.le_of_ble_eq_true rfl) (Nat.le_of_ble_eq_true rfl) (RW_rcv hw _) (c_bigAt hw u0 u1 (by omega) (by omega) (by omega) (by omega)) ?_
      rw [if_pos (show (t : Int) < s 2 k by omega), if_pos (show (t : Int) < s 2 u by omega)]
      refine s_ic_ge (p := 93) m_Mo_bigSizes rfl rfl (by omega) (by omega) (by omega) (by omega) (fun g => ?_) (fun g => ?_)
      · have := dvB_cmp (by decide) u4 k4 (show t < n by omega) (fun j h1 h2 => (he j (by omega) h2).symm) (by omega)
        rw [if_neg (by omega), if_neg (by omega)]
        refine fi_step (pc' := 98) m_Mo_bigSizes rfl rfl ?_
        exact s_reti m_Mo_bigSizes rfl rfl (by omega)
      · have := dvB_cmp (by decide) k4 u4 (show t < n by omega) (fun j h1 h2 => he j (by omega) h2) (by omega)
        rw [if_pos (by omega)]
        refine fi_step (pc' := 94) m_Mo_bigSizes rfl rfl ?_
        refine fi_step (pc' := 98) m_Mo_bigSizes rfl rfl ?_
        exact s_reti m_Mo_bigSizes rfl rfl (by omega)
    · refine s_iinc (p := 67) m_Mo_bigSizes rfl rfl rfl ?_
      refine fi_step (pc' := 45) m_Mo_bigSizes rfl rfl ?_
      exact ih (by omega) (fun j h1 h2 => by
        by_cases e : j = t
        · subst e; exact h
        · exact he j (by omega) h2)
theorem c_bigSizes {k u : Int} {n n' : Nat} {m m' : Int} {w : ax_W} {s : mo_S} (hfr : 1 ≤ fr) (hlo : 22 ≤ lo) (hw : RW w0 w s) (k0 : 0 ≤ k) (k1 : k < 277) (u0 : 0 ≤ u) (u1 : u < 277) (hk : Mag s k n m) (hu : Mag s u n' m') :
    fin xs fr lo 137 0 (ax_ent [.ref 425, .int (jI k), .int (jI u)] 4) [] w (Same (.int (jI (if m < m' then -1 else if m = m' then 0 else 1))) w) := by
  have ⟨k2, k3, k4, k5, k6⟩ := hk
  have ⟨u2, u3, u4, u5, u6⟩ := hu
  refine fi_step (pc' := 1) m_Mo_bigSizes rfl rfl ?_
  refine r_get (p := 4) m_Mo_bigSizes rfl rfl (by assumption) rfl ?_
  refine fi_step (pc' := 5) m_Mo_bigSizes rfl rfl ?_
  refine r_ldI (p := 6) m_Mo_bigSizes rfl rfl (by assumption) (by decide) rfl (by decide) (by omega) (by omega) ?_
  refine fi_step (pc' := 7) m_Mo_bigSizes rfl rfl ?_
  refine r_get (p := 10) m_Mo_bigSizes rfl rfl (by assumption) rfl ?_
  refine fi_step (pc' := 11) m_Mo_bigSizes rfl rfl ?_
  refine r_ldI (p := 12) m_Mo_bigSizes rfl rfl (by assumption) (by decide) rfl (by decide) (by omega) (by omega) ?_
  refine s_ic_eq (p := 15) m_Mo_bigSizes rfl rfl (by omega) (by omega) (by omega) (by omega) (fun h => ?_) (fun h => ?_)
  · have e : n = n' := by omega
    subst e
    refine fi_step (pc' := 37) m_Mo_bigSizes rfl rfl ?_
    refine r_get (p := 40) m_Mo_bigSizes rfl rfl (by assumption) rfl ?_
    refine fi_step (pc' := 41) m_Mo_bigSizes rfl rfl ?_
    refine r_ldI (p := 42) m_Mo_bigSizes rfl rfl (by assumption) (by decide) rfl (by decide) (by omega) (by omega) ?_
    refine fi_step (pc' := 43) m_Mo_bigSizes rfl rfl ?_
    refine s_isub (p := 44) m_Mo_bigSizes rfl rfl ?_
    refine fi_step (pc' := 45) m_Mo_bigSizes rfl rfl ?_
    rw [k2]
    exact bigSizes_loop hfr hlo hw k0 k1 u0 u1 hk hu n (by omega) (fun j h1 h2 => by omega)
  · have big : ∀ {a b : Int} {p q : Nat} {x y : Int}, Mag s a p x → Mag s b q y → p < q → x < y := by
      intro a b p q x y h1 h2 h3
      obtain ⟨q, rfl⟩ : ∃ q', q = q' + 1 := ⟨q - 1, by omega⟩
      have := Mag_lt h1; have := Mag_ge h2; have := pow_mono (B := 16777216) (by decide) (show p ≤ q by omega); omega
    refine fi_step (pc' := 16) m_Mo_bigSizes rfl rfl ?_
    refine r_get (p := 19) m_Mo_bigSizes rfl rfl (by assumption) rfl ?_
    refine fi_step (pc' := 20) m_Mo_bigSizes rfl rfl ?_
    refine r_ldI (p := 21) m_Mo_bigSizes rfl rfl (by assumption) (by decide) rfl (by decide) (by omega) (by omega) ?_
    refine fi_step (pc' := 22) m_Mo_bigSizes rfl rfl ?_
    refine r_get (p := 25) m_Mo_bigSizes rfl rfl (by assumption) rfl ?_
    refine fi_step (pc' := 26) m_Mo_bigSizes rfl rfl ?_
    refine r_ldI (p := 27) m_Mo_bigSizes rfl rfl (by assumption) (by decide) rfl (by decide) (by omega) (by omega) ?_
    refine s_ic_ge (p := 30) m_Mo_bigSizes rfl rfl (by omega) (by omega) (by omega) (by omega) (fun g => ?_) (fun g => ?_)
    · have := big hu hk (by omega)
      rw [if_neg (by omega), if_neg (by omega)]
      refine fi_step (pc' := 35) m_Mo_bigSizes rfl rfl ?_
      exact s_reti m_Mo_bigSizes rfl rfl (by omega)
    · have := big hk hu (by omega)
      rw [if_pos (by omega)]
      refine fi_step (pc' := 31) m_Mo_bigSizes rfl rfl ?_
      refine fi_step (pc' := 35) m_Mo_bigSizes rfl rfl ?_
      exact s_reti m_Mo_bigSizes rfl rfl (by omega)
/-- a number's digits, with 0 behind them -/
def pad (s : mo_S) (k : Int) : Int → Int := fun i => if i < s 2 k then s 1 (140 * k + i) else 0
theorem dvB_pad {s : mo_S} {k : Int} {n : Nat} (hn : s 2 k = n) : ∀ {N : Nat}, n ≤ N → dvB 16777216 (pad s k) 0 N = dvB 16777216 (s 1) (140 * k) n := by
  intro N h
  obtain ⟨d, rfl⟩ := Nat.exists_eq_add_of_le h
  rw [dvB_split, dvB_congr (f := pad s k) (o := 0) (g := s 1) (p := 140 * k) (n := n) (fun i hi => by rw [pad, if_pos (by omega)]; simp)]
  have : dvB 16777216 (pad s k) (0 + (n : Int)) d = dvB 16777216 (fun _ => 0) 0 d := dvB_congr (fun i hi => by rw [pad, if_neg (by omega)])
  have z : ∀ d : Nat, dvB 16777216 (fun _ => 0) 0 d = 0 := by
    intro d; induction d with
    | zero => rfl
    | succ d ih => rw [dvB_succ, ih]; simp
  rw [this, z]; simp
theorem pad_dig {s : mo_S} {k : Int} {n : Nat} (hn : s 2 k = n) (hd : digB 16777216 (s 1) (140 * k) n) {i : Int} (h0 : 0 ≤ i) : 0 ≤ pad s k i ∧ pad s k i < 16777216 := by
  unfold pad
  split
  · obtain ⟨j, rfl⟩ := Int.eq_ofNat_of_zero_le h0; exact hd j (by omega)
  · omega
theorem dvB_top {B : Int} (hB : 0 < B) {f : Int → Int} {o : Int} {n : Nat} (h : digB B f o (n + 1)) (hge : B ^ n ≤ dvB B f o (n + 1)) : f (o + n) ≠ 0 := by
  intro e
  rw [dvB_succ, e] at hge
  have := dvB_lt hB (digB_mono h (Nat.le_succ n))
  omega
theorem bigMore_loop {k u : Int} {n n' N : Nat} {m m' : Int} {s0 : mo_S} (hfr : 1 ≤ fr) (hlo : 22 ≤ lo) (k0 : 0 ≤ k) (k1 : k < 277) (u0 : 0 ≤ u) (u1 : u < 277) (hku : k ≠ u) (hk : Mag s0 k n m) (hu : Mag s0 u n' m') (hN : N = if n > n' then n else n') (hroom : m + m' < rm 140) :
    ∀ (c i : Nat) (cy : Int) (y : Option Value) (w : ax_W) (s : mo_S), RW w0 w s → i + c = N → chP k s0 s → s 2 k = n → s 3 = s0 3 → (∀ j : Nat, i ≤ j → s 1 (140 * k + j) = s0 1 (140 * k + j)) → digB 16777216 (s 1) (140 * k) i → 0 ≤ cy → cy ≤ 1 → dvB 16777216 (s 1) (140 * k) i + cy * 16777216 ^ i = dvB 16777216 (pad s0 k) 0 i + dvB 16777216 (pad s0 u) 0 i →
    fin xs fr lo 135 37 [some (.ref 425), some (.int (jI k)), some (.int (jI u)), some (.int (jI N)), some (.int (jI cy)), some (.int (jI i)), y] [] w (Ret fun v w' => v = none ∧ ∃ s' n1, RW w0 w' s' ∧ chP k s0 s' ∧ s' 3 = s0 3 ∧ Mag s' k n1 (m + m')) := by
  have ⟨k2, k3, k4, k5, k6⟩ := hk
  have ⟨u2, u3, u4, u5, u6⟩ := hu
  have hN1 : n ≤ N ∧ n' ≤ N ∧ N ≤ 140 ∧ (N = n ∨ N = n') := by split at hN <;> omega
  intro c
  induction c with
  | zero =>
    intro i cy y w s hw hi hc h2 h3 hs hd c0 c1 hinv
    have : i = N := by omega
    subst this
    rw [dvB_pad k2 hN1.1, dvB_pad u2 hN1.2.1] at hinv
    have hinv' : dvB 16777216 (s 1) (140 * k) i + cy * 16777216 ^ i = m + m' := by rw [k6, u6]; exact hinv
    have hmn := Mag_nn hk
    have hun := Mag_nn hu
    refine fi_step (pc' := 39) m_Mo_bigMore rfl rfl ?_
    refine fi_step (pc' := 40) m_Mo_bigMore rfl rfl ?_
    refine s_ic_ge (p := 43) m_Mo_bigMore rfl rfl (by omega) (by omega) (by omega) (by omega) (fun hbr => ?_) (fun hbr => False.elim (by omega))
    refine fi_step (pc' := 95) m_Mo_bigMore rfl rfl ?_
    refine r_get (p := 98) m_Mo_bigMore rfl rfl (by assumption) rfl ?_
    refine fi_step (pc' := 99) m_Mo_bigMore rfl rfl ?_
    refine fi_step (pc' := 100) m_Mo_bigMore rfl rfl ?_
    refine r_stI (p := 101) m_Mo_bigMore rfl rfl (by assumption) (by decide) (fun _ => rfl) (by decide) (by omega) (by omega) (fun w hw => ?_)
    refine fi_step (pc' := 103) m_Mo_bigMore rfl rfl ?_
    refine s_if_le (p := 106) m_Mo_bigMore rfl rfl (by omega) (by omega) (fun h => ?_) (fun h => ?_)
    · have : cy = 0 := by omega
      subst this
      refine p_ret m_Mo_bigMore rfl rfl ?_
      refine ⟨rfl, _, i, hw, chP_trans hc (chP_up2 k s _), by rw [up_ne s (by decide)]; exact h3, ?_⟩
      refine ⟨by rw [up_same, up1_same], hN1.2.2.1, by rw [up_ne s (by decide)]; exact hd, fun j hj => ?_, ?_⟩
      · subst hj
        rw [up_ne s (by decide)]
        refine dvB_top (by decide) hd ?_
        rcases hN1.2.2.2 with e | e
        · rw [← e] at hk; have := Mag_ge hk; omega
        · rw [← e] at hu; have := Mag_ge hu; omega
      · rw [up_ne s (by decide)]; show m + m' = dvB 16777216 (s 1) (140 * k) i; omega
    · have : cy = 1 := by omega
      subst this
      have hd0 := dvB_nonneg (B := 16777216) (by decide) (f := s 1) (o := 140 * k) (n := i) (fun j hj => (hd j hj).1)
      have hlt : i < 140 := by
        rcases Nat.lt_or_ge i 140 with h' | h'
        · exact h'
        · have := rm_le h'; omega
      refine fi_step (pc' := 107) m_Mo_bigMore rfl rfl ?_
      refine r_get (p := 110) m_Mo_bigMore rfl rfl (by assumption) rfl ?_
      refine s_sipush (p := 113) m_Mo_bigMore rfl rfl rfl ?_
      refine fi_step (pc' := 114) m_Mo_bigMore rfl rfl ?_
      refine s_imul (p := 115) m_Mo_bigMore rfl rfl ?_
      refine fi_step (pc' := 116) m_Mo_bigMore rfl rfl ?_
      refine s_iadd (p := 117) m_Mo_bigMore rfl rfl ?_
      refine fi_step (pc' := 119) m_Mo_bigMore rfl rfl ?_
      refine r_stI (p := 120) m_Mo_bigMore rfl rfl (by assumption) (by decide) (fun _ => rfl) (by decide) (by omega) (by omega) (fun w hw => ?_)
      refine fi_step (pc' := 121) m_Mo_bigMore rfl rfl ?_
      refine r_get (p := 124) m_Mo_bigMore rfl rfl (by assumption) rfl ?_
      refine fi_step (pc' := 125) m_Mo_bigMore rfl rfl ?_
      refine fi_step (pc' := 126) m_Mo_bigMore rfl rfl ?_
      refine fi_step (pc' := 127) m_Mo_bigMore rfl rfl ?_
      refine s_iadd (p := 128) m_Mo_bigMore rfl rfl ?_
      refine r_stI (p := 129) m_Mo_bigMore rfl rfl (by assumption) (by decide) (fun _ => rfl) (by decide) (by omega) (by omega) (fun w hw => ?_)
      refine p_ret m_Mo_bigMore rfl rfl ?_
      refine ⟨rfl, _, i + 1, hw, chP_trans hc (chP_trans (chP_up2 k s _) (chP_trans (chP_up1 _ _ (by omega) (by omega)) (chP_up2 k _ _))), by rw [up_ne _ (by decide), up_ne _ (by decide), up_ne _ (by decide)]; exact h3, ?_⟩
      have e1 : up (up (up s 2 k i) 1 (140 * k + i) 1) 2 k (i + 1) 1 = up1 (s 1) (140 * k + i) 1 := by
        rw [up_ne _ (by decide), up_same, up_ne _ (by decide)]
      refine ⟨by rw [up_same, up1_same]; omega, by omega, ?_, fun j hj => ?_, ?_⟩
      · rw [e1]
        exact digB_up (fun j hj hne => hd j (by omega)) (by decide) (by decide)
      · rw [e1, show j = i by omega, up1_same]; decide
      · rw [e1, dvB_succ, up1_same, dvB_up_out (by omega)]; omega
  | succ c ih =>
    intro i cy y w s hw hi hc h2 h3 hs hd c0 c1 hinv
    have pa := pad_dig k2 k4 (i := i) (by omega)
    have pb := pad_dig u2 u4 (i := i) (by omega)
    have eb2 : s 2 u = s0 2 u := hc.2.1 u (fun e => hku e.symm)
    refine fi_step (pc' := 39) m_Mo_bigMore rfl rfl ?_
    refine fi_step (pc' := 40) m_Mo_bigMore rfl rfl ?_
    refine s_ic_ge (p := 43) m_Mo_bigMore rfl rfl (by omega) (by omega) (by omega) (by omega) (fun hbr => False.elim (by omega)) (fun hbr => ?_)
    refine fi_step (pc' := 44) m_Mo_bigMore rfl rfl ?_
    refine fi_step (pc' := 45) m_Mo_bigMore rfl rfl ?_
    refine fi_step (pc' := 47) m_Mo_bigMore rfl rfl ?_
    refine c_3 (p := 50) m_Mo_bigMore rfl inv_v (by decide) m_Mo_bigAt rfl rfl (by omega) (by omega) (Nat.le_of_ble_eq_true rfl) (Nat.le_of_ble_eq_true rfl) (RW_rcv hw _) (c_bigAt hw k0 k1 (by omega) (by omega) (by omega) (by omega)) ?_
    refine fi_step (pc' := 51) m_Mo_bigMore rfl rfl ?_
    refine fi_step (pc' := 52) m_Mo_bigMore rfl rfl ?_
    refine fi_step (pc' := 54) m_Mo_bigMore rfl rfl ?_
    refine c_3 (p := 57) m_Mo_bigMore rfl inv_v (by decide) m_Mo_bigAt rfl rfl (by omega) (by omega) (Nat.le_of_ble_eq_true rfl) (Nat.le_of_ble_eq_true rfl) (RW_rcv hw _) (c_bigAt hw u0 u1 (by omega) (by omega) (by omega) (by omega)) ?_
    have ea : (if (i : Int) < s 2 k then s 1 (140 * k + i) else 0) = pad s0 k i := by
      rw [pad, h2, k2, hs i (Nat.le_refl i)]
    have eb : (if (i : Int) < s 2 u then s 1 (140 * u + i) else 0) = pad s0 u i := by
      rw [pad, eb2]
      split
      · exact hc.1 _ (by omega)
      · rfl
    rw [ea, eb]
    refine s_iadd (p := 58) m_Mo_bigMore rfl rfl ?_
    refine fi_step (pc' := 60) m_Mo_bigMore rfl rfl ?_
    refine s_iadd (p := 61) m_Mo_bigMore rfl rfl ?_
    refine fi_step (pc' := 63) m_Mo_bigMore rfl rfl ?_
    refine fi_step (pc' := 64) m_Mo_bigMore rfl rfl ?_
    refine r_get (p := 67) m_Mo_bigMore rfl rfl (by assumption) rfl ?_
    refine s_sipush (p := 70) m_Mo_bigMore rfl rfl rfl ?_
    refine fi_step (pc' := 71) m_Mo_bigMore rfl rfl ?_
    refine s_imul (p := 72) m_Mo_bigMore rfl rfl ?_
    refine fi_step (pc' := 74) m_Mo_bigMore rfl rfl ?_
    refine s_iadd (p := 75) m_Mo_bigMore rfl rfl ?_
    refine fi_step (pc' := 77) m_Mo_bigMore rfl rfl ?_
    refine s_ldc (p := 79) 16777216 m_Mo_bigMore rfl rfl rfl ?_
    refine s_irem (p := 80) m_Mo_bigMore rfl rfl (by omega) (by omega) (by omega) (by omega) ?_
    refine r_stI (p := 81) m_Mo_bigMore rfl rfl (by assumption) (by decide) (fun _ => rfl) (by decide) (by omega) (by omega) (fun w hw => ?_)
    refine fi_step (pc' := 83) m_Mo_bigMore rfl rfl ?_
    refine s_ldc (p := 85) 16777216 m_Mo_bigMore rfl rfl rfl ?_
    refine s_idiv (p := 86) m_Mo_bigMore rfl rfl (by omega) (by omega) (by omega) (by omega) ?_
    refine fi_step (pc' := 88) m_Mo_bigMore rfl rfl ?_
    refine s_iinc (p := 91) m_Mo_bigMore rfl rfl rfl ?_
    refine fi_step (pc' := 37) m_Mo_bigMore rfl rfl ?_
    have m0 := Int.emod_nonneg (pad s0 k i + pad s0 u i + cy) (show (16777216 : Int) ≠ 0 by decide)
    have m1 := Int.emod_lt_of_pos (pad s0 k i + pad s0 u i + cy) (show (0 : Int) < 16777216 by decide)
    have me := Int.emod_add_mul_ediv (pad s0 k i + pad s0 u i + cy) 16777216
    refine ih (i + 1) _ _ w _ hw (by omega) (chP_trans hc (chP_up1 s _ (by omega) (by omega))) (by rw [up_ne s (by decide)]; exact h2) (by rw [up_ne s (by decide)]; exact h3) ?_ ?_ (by omega) (by omega) ?_
    · intro j hj; rw [up_same, up1_ne _ (by omega)]; exact hs j (by omega)
    · rw [up_same]; exact digB_up (fun j hj hne => hd j (by omega)) m0 m1
    · rw [up_same, dvB_succ, dvB_succ, dvB_succ, up1_same, dvB_up_out (by omega), Int.zero_add]
      skip
      grind
theorem c_bigMore {k u : Int} {n n' : Nat} {m m' : Int} {w : ax_W} {s : mo_S} (hfr : 1 ≤ fr) (hlo : 22 ≤ lo) (hw : RW w0 w s) (k0 : 0 ≤ k) (k1 : k < 277) (u0 : 0 ≤ u) (u1 : u < 277) (hku : k ≠ u) (hk : Mag s k n m) (hu : Mag s u n' m') (hroom : m + m' < rm 140) :
    fin xs fr lo 135 0 (ax_ent [.ref 425, .int (jI k), .int (jI u)] 7) [] w (Ret fun v w' => v = none ∧ ∃ s' n1, RW w0 w' s' ∧ chP k s s' ∧ s' 3 = s 3 ∧ Mag s' k n1 (m + m')) := by
  have ⟨k2, k3, k4, k5, k6⟩ := hk
  have ⟨u2, u3, u4, u5, u6⟩ := hu
  refine fi_step (pc' := 1) m_Mo_bigMore rfl rfl ?_
  refine r_get (p := 4) m_Mo_bigMore rfl rfl (by assumption) rfl ?_
  refine fi_step (pc' := 5) m_Mo_bigMore rfl rfl ?_
  refine r_ldI (p := 6) m_Mo_bigMore rfl rfl (by assumption) (by decide) rfl (by decide) (by omega) (by omega) ?_
  refine fi_step (pc' := 7) m_Mo_bigMore rfl rfl ?_
  refine r_get (p := 10) m_Mo_bigMore rfl rfl (by assumption) rfl ?_
  refine fi_step (pc' := 11) m_Mo_bigMore rfl rfl ?_
  refine r_ldI (p := 12) m_Mo_bigMore rfl rfl (by assumption) (by decide) rfl (by decide) (by omega) (by omega) ?_
  refine s_ic_le (p := 15) m_Mo_bigMore rfl rfl (by omega) (by omega) (by omega) (by omega) (fun h => ?_) (fun h => ?_)
  · refine fi_step (pc' := 25) m_Mo_bigMore rfl rfl ?_
    refine r_get (p := 28) m_Mo_bigMore rfl rfl (by assumption) rfl ?_
    refine fi_step (pc' := 29) m_Mo_bigMore rfl rfl ?_
    refine r_ldI (p := 30) m_Mo_bigMore rfl rfl (by assumption) (by decide) rfl (by decide) (by omega) (by omega) ?_
    refine fi_step (pc' := 31) m_Mo_bigMore rfl rfl ?_
    refine fi_step (pc' := 32) m_Mo_bigMore rfl rfl ?_
    refine fi_step (pc' := 34) m_Mo_bigMore rfl rfl ?_
    refine fi_step (pc' := 35) m_Mo_bigMore rfl rfl ?_
    refine fi_step (pc' := 37) m_Mo_bigMore rfl rfl ?_
    rw [u2]
    exact bigMore_loop hfr hlo k0 k1 u0 u1 hku hk hu (N := n') (by rw [if_neg (by omega)]) hroom n' 0 0 _ w s hw (by omega) (chP_refl k s) k2 rfl (fun j hj => rfl) (fun j hj => by omega) (by decide) (by decide) rfl
  · refine fi_step (pc' := 16) m_Mo_bigMore rfl rfl ?_
    refine r_get (p := 19) m_Mo_bigMore rfl rfl (by assumption) rfl ?_
    refine fi_step (pc' := 20) m_Mo_bigMore rfl rfl ?_
    refine r_ldI (p := 21) m_Mo_bigMore rfl rfl (by assumption) (by decide) rfl (by decide) (by omega) (by omega) ?_
    refine fi_step (pc' := 30) m_Mo_bigMore rfl rfl ?_
    refine fi_step (pc' := 31) m_Mo_bigMore rfl rfl ?_
    refine fi_step (pc' := 32) m_Mo_bigMore rfl rfl ?_
    refine fi_step (pc' := 34) m_Mo_bigMore rfl rfl ?_
    refine fi_step (pc' := 35) m_Mo_bigMore rfl rfl ?_
    refine fi_step (pc' := 37) m_Mo_bigMore rfl rfl ?_
    rw [k2]
    exact bigMore_loop hfr hlo k0 k1 u0 u1 hku hk hu (N := n) (by rw [if_pos (by omega)]) hroom n 0 0 _ w s hw (by omega) (chP_refl k s) k2 rfl (fun j hj => rfl) (fun j hj => by omega) (by decide) (by decide) rfl
end BIG2
end
section
/-! differences, sums with signs, products of the reference's numbers -/
theorem dvB_up_in {B : Int} {f : Int → Int} {o v : Int} {p : Nat} : ∀ {N : Nat}, p < N → dvB B (up1 f (o + p) v) o N = dvB B f o N + (v - f (o + p)) * B ^ p := by
  intro N h
  obtain ⟨d, rfl⟩ := Nat.exists_eq_add_of_lt h
  rw [show p + d + 1 = (p + 1) + d by omega, dvB_split _ _ _ (p + 1), dvB_split _ _ _ (p + 1), dvB_succ, dvB_succ, up1_same, dvB_up_out (by omega), dvB_up_out (by omega)]
  grind
theorem mul_nn_pp {a b : Int} (ha : a ≤ 0) (hb : b ≤ 0) : 0 ≤ a * b := by
  have := Int.mul_nonneg (show 0 ≤ -a by omega) (show 0 ≤ -b by omega); rwa [Int.neg_mul_neg] at this
theorem mul_np_np {a b : Int} (ha : 0 ≤ a) (hb : b ≤ 0) : a * b ≤ 0 := by
  have := Int.mul_nonneg ha (show 0 ≤ -b by omega); rw [Int.mul_neg] at this; omega
theorem mul_pn_np {a b : Int} (ha : a ≤ 0) (hb : 0 ≤ b) : a * b ≤ 0 := by
  rw [Int.mul_comm]; exact mul_np_np hb ha
section BIG3
variable {xs : List Int32} {fr lo : Nat} {w0 : ax_W}
theorem bigDiffer_loop {k u t sg : Int} {n n' N : Nat} {m m' : Int} {s0 : mo_S} (hfr : 1 ≤ fr) (hlo : 22 ≤ lo) (k0 : 0 ≤ k) (k1 : k < 277) (u0 : 0 ≤ u) (u1 : u < 277) (hku : k ≠ u) (hk : Mag s0 k n m) (hu : Mag s0 u n' m') (hN1 : n ≤ N ∧ n' ≤ N ∧ N ≤ 140) (hsg : (t = 0 ∧ sg = 1) ∨ (t = 1 ∧ sg = -1)) (hpos : 0 ≤ sg * (m - m')) :
    ∀ (c i : Nat) (bo : Int) (y : Option Value) (w : ax_W) (s : mo_S), RW w0 w s → i + c = N → chP k s0 s → s 2 k = n → s 3 = s0 3 → (∀ j : Nat, i ≤ j → s 1 (140 * k + j) = s0 1 (140 * k + j)) → digB 16777216 (s 1) (140 * k) i → 0 ≤ bo → bo ≤ 1 → dvB 16777216 (s 1) (140 * k) i - bo * 16777216 ^ i = sg * (dvB 16777216 (pad s0 k) 0 i - dvB 16777216 (pad s0 u) 0 i) →
    fin xs fr lo 138 38 [some (.ref 425), some (.int (jI k)), some (.int (jI u)), some (.int (jI t)), some (.int (jI N)), some (.int (jI bo)), some (.int (jI i)), y] [] w (Ret fun v w' => v = none ∧ ∃ s' n1, RW w0 w' s' ∧ chP k s0 s' ∧ s' 3 = s0 3 ∧ Mag s' k n1 (sg * (m - m'))) := by
  have ⟨k2, k3, k4, k5, k6⟩ := hk
  have ⟨u2, u3, u4, u5, u6⟩ := hu
  intro c
  induction c with
  | zero =>
    intro i bo y w s hw hi hc h2 h3 hs hd c0 c1 hinv
    have : i = N := by omega
    subst this
    rw [dvB_pad k2 hN1.1, dvB_pad u2 hN1.2.1, ← k6, ← u6] at hinv
    have hlt := dvB_lt (B := 16777216) (by decide) hd
    have : bo = 0 := by
      rcases (show bo = 0 ∨ bo = 1 by omega) with e | e
      · exact e
      · subst e; omega
    subst this
    refine fi_step (pc' := 40) m_Mo_bigDiffer rfl rfl ?_
    refine fi_step (pc' := 42) m_Mo_bigDiffer rfl rfl ?_
    refine s_ic_ge (p := 45) m_Mo_bigDiffer rfl rfl (by omega) (by omega) (by omega) (by omega) (fun hbr => ?_) (fun hbr => False.elim (by omega))
    refine fi_step (pc' := 134) m_Mo_bigDiffer rfl rfl ?_
    refine r_get (p := 137) m_Mo_bigDiffer rfl rfl (by assumption) rfl ?_
    refine fi_step (pc' := 138) m_Mo_bigDiffer rfl rfl ?_
    refine fi_step (pc' := 140) m_Mo_bigDiffer rfl rfl ?_
    refine r_stI (p := 141) m_Mo_bigDiffer rfl rfl (by assumption) (by decide) (fun _ => rfl) (by decide) (by omega) (by omega) (fun w hw => ?_)
    refine fi_step (pc' := 142) m_Mo_bigDiffer rfl rfl ?_
    refine fi_step (pc' := 143) m_Mo_bigDiffer rfl rfl ?_
    refine g_2 (p := 146) m_Mo_bigDiffer rfl inv_v (by decide) m_Mo_bigTrim rfl rfl (by omega) (by omega) (Nat.le_of_ble_eq_true rfl) (Nat.le_of_ble_eq_true rfl) (RW_rcv hw _) (c_bigTrim k0 k1 i w _ hw (by rw [up_same, up1_same]) hN1.2.2 (by rw [up_ne s (by decide)]; exact hd)) (fun v w hP => ?_)
    obtain ⟨rfl, n1, g1, g2⟩ := hP
    refine p_ret m_Mo_bigDiffer rfl rfl ?_
    rw [up_ne s (by decide)] at g2
    refine ⟨rfl, _, n1, g1, chP_trans hc (chP_trans (chP_up2 k s _) (chP_up2 k _ _)), by rw [up_ne _ (by decide), up_ne _ (by decide)]; exact h3, ?_⟩
    rw [show sg * (m - m') = dvB 16777216 (s 1) (140 * k) i by omega]; exact g2
  | succ c ih =>
    intro i bo y w s hw hi hc h2 h3 hs hd c0 c1 hinv
    have pa := pad_dig k2 k4 (i := i) (by omega)
    have pb := pad_dig u2 u4 (i := i) (by omega)
    have eb2 : s 2 u = s0 2 u := hc.2.1 u (fun e => hku e.symm)
    have ea : (if (i : Int) < s 2 k then s 1 (140 * k + i) else 0) = pad s0 k i := by
      rw [pad, h2, k2, hs i (Nat.le_refl i)]
    have eb : (if (i : Int) < s 2 u then s 1 (140 * u + i) else 0) = pad s0 u i := by
      rw [pad, eb2]
      split
      · exact hc.1 _ (by omega)
      · rfl
    have hsg' : sg = 1 ∨ sg = -1 := by omega
    have hr : -16777216 < sg * (pad s0 k i - pad s0 u i) ∧ sg * (pad s0 k i - pad s0 u i) < 16777216 := by
      rcases hsg' with rfl | rfl <;> omega
    have mid : ∀ d : Int, d = sg * (pad s0 k i - pad s0 u i) → fin xs fr lo 138 82 [some (.ref 425), some (.int (jI k)), some (.int (jI u)), some (.int (jI t)), some (.int (jI N)), some (.int (jI bo)), some (.int (jI i)), y] [.int (jI d)] w (Ret fun v w' => v = none ∧ ∃ s' n1, RW w0 w' s' ∧ chP k s0 s' ∧ s' 3 = s0 3 ∧ Mag s' k n1 (sg * (m - m'))) := by
      intro d hd1
      have hd2 : -16777216 < d ∧ d < 16777216 := by rw [hd1]; exact hr
      have fin1 : ∀ (dig b' : Int) (y' : Option Value) (w1 : ax_W), 0 ≤ dig → dig < 16777216 → 0 ≤ b' → b' ≤ 1 → dig - b' * 16777216 = d - bo → RW w0 w1 (up s 1 (140 * k + i) dig) → fin xs fr lo 138 38 [some (.ref 425), some (.int (jI k)), some (.int (jI u)), some (.int (jI t)), some (.int (jI N)), some (.int (jI b')), some (.int (jI ((i + 1 : Nat) : Int))), y'] [] w1 (Ret fun v w' => v = none ∧ ∃ s' n1, RW w0 w' s' ∧ chP k s0 s' ∧ s' 3 = s0 3 ∧ Mag s' k n1 (sg * (m - m'))) := by
        intro dig b' y' w1 d0 d1 b0 b1 he hw1
        refine ih (i + 1) b' y' w1 _ hw1 (by omega) (chP_trans hc (chP_up1 s _ (by omega) (by omega))) (by rw [up_ne s (by decide)]; exact h2) (by rw [up_ne s (by decide)]; exact h3) ?_ ?_ b0 b1 ?_
        · intro j hj; rw [up_same, up1_ne _ (by omega)]; exact hs j (by omega)
        · rw [up_same]; exact digB_up (fun j hj hne => hd j (by omega)) d0 d1
        · rw [up_same, dvB_succ, dvB_succ, dvB_succ, up1_same, dvB_up_out (by omega), Int.zero_add]
          have : dig = sg * (pad s0 k i - pad s0 u i) - bo + b' * 16777216 := by omega
          rw [this]; grind
      refine fi_step (pc' := 84) m_Mo_bigDiffer rfl rfl ?_
      refine s_isub (p := 85) m_Mo_bigDiffer rfl rfl ?_
      refine fi_step (pc' := 87) m_Mo_bigDiffer rfl rfl ?_
      refine fi_step (pc' := 89) m_Mo_bigDiffer rfl rfl ?_
      refine s_if_ge (p := 92) m_Mo_bigDiffer rfl rfl (by omega) (by omega) (fun g => ?_) (fun g => ?_)
      · refine fi_step (pc' := 97) m_Mo_bigDiffer rfl rfl ?_
        refine fi_step (pc' := 99) m_Mo_bigDiffer rfl rfl ?_
        refine fi_step (pc' := 100) m_Mo_bigDiffer rfl rfl ?_
        refine r_get (p := 103) m_Mo_bigDiffer rfl rfl (by assumption) rfl ?_
        refine s_sipush (p := 106) m_Mo_bigDiffer rfl rfl rfl ?_
        refine fi_step (pc' := 107) m_Mo_bigDiffer rfl rfl ?_
        refine s_imul (p := 108) m_Mo_bigDiffer rfl rfl ?_
        refine fi_step (pc' := 110) m_Mo_bigDiffer rfl rfl ?_
        refine s_iadd (p := 111) m_Mo_bigDiffer rfl rfl ?_
        refine fi_step (pc' := 113) m_Mo_bigDiffer rfl rfl ?_
        refine s_if_ge (p := 116) m_Mo_bigDiffer rfl rfl (by omega) (by omega) (fun hbr => ?_) (fun hbr => False.elim (by omega))
        refine fi_step (pc' := 126) m_Mo_bigDiffer rfl rfl ?_
        refine r_stI (p := 127) m_Mo_bigDiffer rfl rfl (by assumption) (by decide) (fun _ => rfl) (by decide) (by omega) (by omega) (fun w hw => ?_)
        refine s_iinc (p := 130) m_Mo_bigDiffer rfl rfl rfl ?_
        refine fi_step (pc' := 38) m_Mo_bigDiffer rfl rfl ?_
        exact fin1 (d - bo) 0 _ w (by omega) (by omega) (by decide) (by decide) (by omega) hw
      · refine fi_step (pc' := 93) m_Mo_bigDiffer rfl rfl ?_
        refine fi_step (pc' := 97) m_Mo_bigDiffer rfl rfl ?_
        refine fi_step (pc' := 99) m_Mo_bigDiffer rfl rfl ?_
        refine fi_step (pc' := 100) m_Mo_bigDiffer rfl rfl ?_
        refine r_get (p := 103) m_Mo_bigDiffer rfl rfl (by assumption) rfl ?_
        refine s_sipush (p := 106) m_Mo_bigDiffer rfl rfl rfl ?_
        refine fi_step (pc' := 107) m_Mo_bigDiffer rfl rfl ?_
        refine s_imul (p := 108) m_Mo_bigDiffer rfl rfl ?_
        refine fi_step (pc' := 110) m_Mo_bigDiffer rfl rfl ?_
        refine s_iadd (p := 111) m_Mo_bigDiffer rfl rfl ?_
        refine fi_step (pc' := 113) m_Mo_bigDiffer rfl rfl ?_
        refine s_if_ge (p := 116) m_Mo_bigDiffer rfl rfl (by omega) (by omega) (fun hbr => False.elim (by omega)) (fun hbr => ?_)
        refine fi_step (pc' := 118) m_Mo_bigDiffer rfl rfl ?_
        refine s_ldc (p := 120) 16777216 m_Mo_bigDiffer rfl rfl rfl ?_
        refine s_iadd (p := 121) m_Mo_bigDiffer rfl rfl ?_
        refine fi_step (pc' := 126) m_Mo_bigDiffer rfl rfl ?_
        refine r_stI (p := 127) m_Mo_bigDiffer rfl rfl (by assumption) (by decide) (fun _ => rfl) (by decide) (by omega) (by omega) (fun w hw => ?_)
        refine s_iinc (p := 130) m_Mo_bigDiffer rfl rfl rfl ?_
        refine fi_step (pc' := 38) m_Mo_bigDiffer rfl rfl ?_
        exact fin1 (d - bo + 16777216) 1 _ w (by omega) (by omega) (by decide) (by decide) (by omega) hw
    rcases hsg with ⟨rfl, rfl⟩ | ⟨rfl, rfl⟩
    · refine fi_step (pc' := 40) m_Mo_bigDiffer rfl rfl ?_
      refine fi_step (pc' := 42) m_Mo_bigDiffer rfl rfl ?_
      refine s_ic_ge (p := 45) m_Mo_bigDiffer rfl rfl (by omega) (by omega) (by omega) (by omega) (fun hbr => False.elim (by omega)) (fun hbr => ?_)
      refine fi_step (pc' := 46) m_Mo_bigDiffer rfl rfl ?_
      refine s_if_eq (p := 49) m_Mo_bigDiffer rfl rfl (by omega) (by omega) (fun hbr => ?_) (fun hbr => False.elim (by omega))
      refine fi_step (pc' := 68) m_Mo_bigDiffer rfl rfl ?_
      refine fi_step (pc' := 69) m_Mo_bigDiffer rfl rfl ?_
      refine fi_step (pc' := 71) m_Mo_bigDiffer rfl rfl ?_
      refine c_3 (p := 74) m_Mo_bigDiffer rfl inv_v (by decide) m_Mo_bigAt rfl rfl (by omega) (by omega) (Nat.le_of_ble_eq_true rfl) (Nat.le_of_ble_eq_true rfl) (RW_rcv hw _) (c_bigAt hw k0 k1 (by omega) (by omega) (by omega) (by omega)) ?_
      refine fi_step (pc' := 75) m_Mo_bigDiffer rfl rfl ?_
      refine fi_step (pc' := 76) m_Mo_bigDiffer rfl rfl ?_
      refine fi_step (pc' := 78) m_Mo_bigDiffer rfl rfl ?_
      refine c_3 (p := 81) m_Mo_bigDiffer rfl inv_v (by decide) m_Mo_bigAt rfl rfl (by omega) (by omega) (Nat.le_of_ble_eq_true rfl) (Nat.le_of_ble_eq_true rfl) (RW_rcv hw _) (c_bigAt hw u0 u1 (by omega) (by omega) (by omega) (by omega)) ?_
      rw [ea, eb]
      refine s_isub (p := 82) m_Mo_bigDiffer rfl rfl ?_
      exact mid _ (by omega)
    · refine fi_step (pc' := 40) m_Mo_bigDiffer rfl rfl ?_
      refine fi_step (pc' := 42) m_Mo_bigDiffer rfl rfl ?_
      refine s_ic_ge (p := 45) m_Mo_bigDiffer rfl rfl (by omega) (by omega) (by omega) (by omega) (fun hbr => False.elim (by omega)) (fun hbr => ?_)
      refine fi_step (pc' := 46) m_Mo_bigDiffer rfl rfl ?_
      refine s_if_eq (p := 49) m_Mo_bigDiffer rfl rfl (by omega) (by omega) (fun hbr => False.elim (by omega)) (fun hbr => ?_)
      refine fi_step (pc' := 50) m_Mo_bigDiffer rfl rfl ?_
      refine fi_step (pc' := 51) m_Mo_bigDiffer rfl rfl ?_
      refine fi_step (pc' := 53) m_Mo_bigDiffer rfl rfl ?_
      refine c_3 (p := 56) m_Mo_bigDiffer rfl inv_v (by decide) m_Mo_bigAt rfl rfl (by omega) (by omega) (Nat.le_of_ble_eq_true rfl) (Nat.le_of_ble_eq_true rfl) (RW_rcv hw _) (c_bigAt hw u0 u1 (by omega) (by omega) (by omega) (by omega)) ?_
      refine fi_step (pc' := 57) m_Mo_bigDiffer rfl rfl ?_
      refine fi_step (pc' := 58) m_Mo_bigDiffer rfl rfl ?_
      refine fi_step (pc' := 60) m_Mo_bigDiffer rfl rfl ?_
      refine c_3 (p := 63) m_Mo_bigDiffer rfl inv_v (by decide) m_Mo_bigAt rfl rfl (by omega) (by omega) (Nat.le_of_ble_eq_true rfl) (Nat.le_of_ble_eq_true rfl) (RW_rcv hw _) (c_bigAt hw k0 k1 (by omega) (by omega) (by omega) (by omega)) ?_
      rw [ea, eb]
      refine s_isub (p := 64) m_Mo_bigDiffer rfl rfl ?_
      refine fi_step (pc' := 82) m_Mo_bigDiffer rfl rfl ?_
      exact mid _ (by omega)
theorem c_bigDiffer {k u t sg : Int} {n n' : Nat} {m m' : Int} {w : ax_W} {s : mo_S} (hfr : 1 ≤ fr) (hlo : 22 ≤ lo) (hw : RW w0 w s) (k0 : 0 ≤ k) (k1 : k < 277) (u0 : 0 ≤ u) (u1 : u < 277) (hku : k ≠ u) (hk : Mag s k n m) (hu : Mag s u n' m') (hsg : (t = 0 ∧ sg = 1) ∨ (t = 1 ∧ sg = -1)) (hpos : 0 ≤ sg * (m - m')) :
    fin xs fr lo 138 0 (ax_ent [.ref 425, .int (jI k), .int (jI u), .int (jI t)] 8) [] w (Ret fun v w' => v = none ∧ ∃ s' n1, RW w0 w' s' ∧ chP k s s' ∧ s' 3 = s 3 ∧ Mag s' k n1 (sg * (m - m'))) := by
  have ⟨k2, k3, k4, k5, k6⟩ := hk
  have ⟨u2, u3, u4, u5, u6⟩ := hu
  refine fi_step (pc' := 1) m_Mo_bigDiffer rfl rfl ?_
  refine r_get (p := 4) m_Mo_bigDiffer rfl rfl (by assumption) rfl ?_
  refine fi_step (pc' := 5) m_Mo_bigDiffer rfl rfl ?_
  refine r_ldI (p := 6) m_Mo_bigDiffer rfl rfl (by assumption) (by decide) rfl (by decide) (by omega) (by omega) ?_
  refine fi_step (pc' := 7) m_Mo_bigDiffer rfl rfl ?_
  refine r_get (p := 10) m_Mo_bigDiffer rfl rfl (by assumption) rfl ?_
  refine fi_step (pc' := 11) m_Mo_bigDiffer rfl rfl ?_
  refine r_ldI (p := 12) m_Mo_bigDiffer rfl rfl (by assumption) (by decide) rfl (by decide) (by omega) (by omega) ?_
  refine s_ic_le (p := 15) m_Mo_bigDiffer rfl rfl (by omega) (by omega) (by omega) (by omega) (fun h => ?_) (fun h => ?_)
  · refine fi_step (pc' := 25) m_Mo_bigDiffer rfl rfl ?_
    refine r_get (p := 28) m_Mo_bigDiffer rfl rfl (by assumption) rfl ?_
    refine fi_step (pc' := 29) m_Mo_bigDiffer rfl rfl ?_
    refine r_ldI (p := 30) m_Mo_bigDiffer rfl rfl (by assumption) (by decide) rfl (by decide) (by omega) (by omega) ?_
    refine fi_step (pc' := 32) m_Mo_bigDiffer rfl rfl ?_
    refine fi_step (pc' := 33) m_Mo_bigDiffer rfl rfl ?_
    refine fi_step (pc' := 35) m_Mo_bigDiffer rfl rfl ?_
    refine fi_step (pc' := 36) m_Mo_bigDiffer rfl rfl ?_
    refine fi_step (pc' := 38) m_Mo_bigDiffer rfl rfl ?_
    rw [u2]
    exact bigDiffer_loop hfr hlo k0 k1 u0 u1 hku hk hu (N := n') ⟨by omega, by omega, by omega⟩ hsg hpos n' 0 0 _ w s hw (by omega) (chP_refl k s) k2 rfl (fun j hj => rfl) (fun j hj => by omega) (by decide) (by decide) (by simp [dvB_zero])
  · refine fi_step (pc' := 16) m_Mo_bigDiffer rfl rfl ?_
    refine r_get (p := 19) m_Mo_bigDiffer rfl rfl (by assumption) rfl ?_
    refine fi_step (pc' := 20) m_Mo_bigDiffer rfl rfl ?_
    refine r_ldI (p := 21) m_Mo_bigDiffer rfl rfl (by assumption) (by decide) rfl (by decide) (by omega) (by omega) ?_
    refine fi_step (pc' := 30) m_Mo_bigDiffer rfl rfl ?_
    refine fi_step (pc' := 32) m_Mo_bigDiffer rfl rfl ?_
    refine fi_step (pc' := 33) m_Mo_bigDiffer rfl rfl ?_
    refine fi_step (pc' := 35) m_Mo_bigDiffer rfl rfl ?_
    refine fi_step (pc' := 36) m_Mo_bigDiffer rfl rfl ?_
    refine fi_step (pc' := 38) m_Mo_bigDiffer rfl rfl ?_
    rw [k2]
    exact bigDiffer_loop hfr hlo k0 k1 u0 u1 hku hk hu (N := n) ⟨by omega, by omega, by omega⟩ hsg hpos n 0 0 _ w s hw (by omega) (chP_refl k s) k2 rfl (fun j hj => rfl) (fun j hj => by omega) (by decide) (by decide) (by simp [dvB_zero])
theorem bigAdd_mid {k u l ot : Int} {w : ax_W} {s : mo_S} {r : Int → Int} {e : Int} (hfr : 2 ≤ fr) (hlo : 80 ≤ lo) (hw : RW w0 w s) (hB : Bg s r) (k0 : 0 ≤ k) (k1 : k < 277) (u0 : 0 ≤ u) (u1 : u < 277) (hku : k ≠ u) (he : e = r u ∨ e = - r u) (hot : (ot = 0 ∧ 0 ≤ e) ∨ (ot = 1 ∧ e ≤ 0)) (hroom : ((r k).natAbs : Int) + ((r u).natAbs : Int) < rm 140) :
    fin xs fr lo 134 17 [some (.ref 425), some (.int (jI k)), some (.int (jI u)), some (.int (jI l)), some (.int (jI ot))] [] w (Ret fun v w' => v = none ∧ ∃ s', RW w0 w' s' ∧ oth s s' ∧ Bg s' (up1 r k (r k + e))) := by
  obtain ⟨n, hk, a1, a2, a3⟩ := isN_abs (hB k k0 k1)
  obtain ⟨n', hu, b1, b2, b3⟩ := isN_abs (hB u u0 u1)
  have ea : (e.natAbs : Int) = ((r u).natAbs : Int) := by omega
  refine fi_step (pc' := 18) m_Mo_bigAdd rfl rfl ?_
  refine r_get (p := 21) m_Mo_bigAdd rfl rfl (by assumption) rfl ?_
  refine fi_step (pc' := 22) m_Mo_bigAdd rfl rfl ?_
  refine r_ldB (p := 23) m_Mo_bigAdd rfl rfl (by assumption) (by decide) rfl (by decide) (by omega) (by omega) ?_
  refine fi_step (pc' := 25) m_Mo_bigAdd rfl rfl ?_
  refine s_ic_ne (p := 28) m_Mo_bigAdd rfl rfl (by omega) (by omega) (by omega) (by omega) (fun h => ?_) (fun h => ?_)
  · refine fi_step (pc' := 38) m_Mo_bigAdd rfl rfl ?_
    refine fi_step (pc' := 39) m_Mo_bigAdd rfl rfl ?_
    refine fi_step (pc' := 40) m_Mo_bigAdd rfl rfl ?_
    refine c_3 (p := 43) m_Mo_bigAdd rfl inv_v (by decide) m_Mo_bigSizes rfl rfl (by omega) (by omega) (Nat.le_of_ble_eq_true rfl) (Nat.le_of_ble_eq_true rfl) (RW_rcv hw _) (c_bigSizes (by omega) (by omega) hw k0 k1 u0 u1 hk hu) ?_
    by_cases hlt : ((r k).natAbs : Int) < ((r u).natAbs : Int)
    · rw [if_pos hlt]
      refine s_if_lt (p := 46) m_Mo_bigAdd rfl rfl (by omega) (by omega) (fun hbr => ?_) (fun hbr => False.elim (by omega))
      refine fi_step (pc' := 57) m_Mo_bigAdd rfl rfl ?_
      refine fi_step (pc' := 58) m_Mo_bigAdd rfl rfl ?_
      refine fi_step (pc' := 59) m_Mo_bigAdd rfl rfl ?_
      refine fi_step (pc' := 60) m_Mo_bigAdd rfl rfl ?_
      refine g_4 (p := 63) m_Mo_bigAdd rfl inv_v (by decide) m_Mo_bigDiffer rfl rfl (by omega) (by omega) (Nat.le_of_ble_eq_true rfl) (Nat.le_of_ble_eq_true rfl) (RW_rcv hw _) (c_bigDiffer (by omega) (by omega) hw k0 k1 u0 u1 hku hk hu (Or.inr ⟨rfl, rfl⟩) (by omega)) (fun v w hP => ?_)
      obtain ⟨rfl, s', n1, g1, g2, g3, g4⟩ := hP
      refine fi_step (pc' := 64) m_Mo_bigAdd rfl rfl ?_
      refine r_get (p := 67) m_Mo_bigAdd rfl rfl (by assumption) rfl ?_
      refine fi_step (pc' := 68) m_Mo_bigAdd rfl rfl ?_
      refine fi_step (pc' := 70) m_Mo_bigAdd rfl rfl ?_
      refine r_stB (p := 71) m_Mo_bigAdd rfl rfl (by assumption) (by decide) (fun _ => rfl) (by decide) (by omega) (by omega) (by omega) (by omega) (fun w hw => ?_)
      refine p_ret m_Mo_bigAdd rfl rfl ?_
      have gc := chP_trans g2 (chP_up3 k s' ot)
      refine ⟨rfl, _, hw, chP_oth gc, Bg_ch hB gc (isN_of (n := n1) (m := -1 * (((r k).natAbs : Int) - ((r u).natAbs : Int))) ?_ ?_ ?_)⟩
      · obtain ⟨q1, q2, q3, q4, q5⟩ := g4
        refine ⟨by rw [up_ne _ (by decide)]; exact q1, q2, ?_, ?_, ?_⟩
        · rw [up_ne _ (by decide)]; exact q3
        · rw [up_ne _ (by decide)]; exact q4
        · rw [up_ne _ (by decide)]; exact q5
      · omega
      · rw [up_same, up1_same]; omega
    · have : (if ((r k).natAbs : Int) < ((r u).natAbs : Int) then (-1 : Int) else if ((r k).natAbs : Int) = ((r u).natAbs : Int) then 0 else 1) = 0 ∨ (if ((r k).natAbs : Int) < ((r u).natAbs : Int) then (-1 : Int) else if ((r k).natAbs : Int) = ((r u).natAbs : Int) then 0 else 1) = 1 := by
        rw [if_neg hlt]; split
        · exact Or.inl rfl
        · exact Or.inr rfl
      refine s_if_lt (p := 46) m_Mo_bigAdd rfl rfl (by omega) (by omega) (fun hbr => False.elim (by omega)) (fun hbr => ?_)
      refine fi_step (pc' := 47) m_Mo_bigAdd rfl rfl ?_
      refine fi_step (pc' := 48) m_Mo_bigAdd rfl rfl ?_
      refine fi_step (pc' := 49) m_Mo_bigAdd rfl rfl ?_
      refine fi_step (pc' := 50) m_Mo_bigAdd rfl rfl ?_
      refine g_4 (p := 53) m_Mo_bigAdd rfl inv_v (by decide) m_Mo_bigDiffer rfl rfl (by omega) (by omega) (Nat.le_of_ble_eq_true rfl) (Nat.le_of_ble_eq_true rfl) (RW_rcv hw _) (c_bigDiffer (by omega) (by omega) hw k0 k1 u0 u1 hku hk hu (Or.inl ⟨rfl, rfl⟩) (by omega)) (fun v w hP => ?_)
      obtain ⟨rfl, s', n1, g1, g2, g3, g4⟩ := hP
      refine fi_step (pc' := 71) m_Mo_bigAdd rfl rfl ?_
      refine p_ret m_Mo_bigAdd rfl rfl ?_
      refine ⟨rfl, _, g1, chP_oth g2, Bg_ch hB g2 (isN_of g4 ?_ ?_)⟩
      · omega
      · rw [g3]; omega
  · refine fi_step (pc' := 29) m_Mo_bigAdd rfl rfl ?_
    refine fi_step (pc' := 30) m_Mo_bigAdd rfl rfl ?_
    refine fi_step (pc' := 31) m_Mo_bigAdd rfl rfl ?_
    refine g_3 (p := 34) m_Mo_bigAdd rfl inv_v (by decide) m_Mo_bigMore rfl rfl (by omega) (by omega) (Nat.le_of_ble_eq_true rfl) (Nat.le_of_ble_eq_true rfl) (RW_rcv hw _) (c_bigMore (by omega) (by omega) hw k0 k1 u0 u1 hku hk hu hroom) (fun v w hP => ?_)
    obtain ⟨rfl, s', n1, g1, g2, g3, g4⟩ := hP
    refine fi_step (pc' := 71) m_Mo_bigAdd rfl rfl ?_
    refine p_ret m_Mo_bigAdd rfl rfl ?_
    refine ⟨rfl, _, g1, chP_oth g2, Bg_ch hB g2 (isN_of g4 ?_ ?_)⟩
    · omega
    · rw [g3]; omega
theorem c_bigAdd {k u l : Int} {w : ax_W} {s : mo_S} {r : Int → Int} (hfr : 2 ≤ fr) (hlo : 80 ≤ lo) (hw : RW w0 w s) (hB : Bg s r) (k0 : 0 ≤ k) (k1 : k < 277) (u0 : 0 ≤ u) (u1 : u < 277) (hku : k ≠ u) (hl : l = 0 ∨ l = 1) (hroom : ((r k).natAbs : Int) + ((r u).natAbs : Int) < rm 140) :
    fin xs fr lo 134 0 (ax_ent [.ref 425, .int (jI k), .int (jI u), .int (jI l)] 5) [] w (Ret fun v w' => v = none ∧ ∃ s', RW w0 w' s' ∧ oth s s' ∧ Bg s' (up1 r k (if l = 1 then r k - r u else r k + r u))) := by
  obtain ⟨n', hu, b1, b2, b3⟩ := isN_abs (hB u u0 u1)
  rcases hl with rfl | rfl
  · rw [if_neg (by decide)]
    refine fi_step (pc' := 1) m_Mo_bigAdd rfl rfl ?_
    refine r_get (p := 4) m_Mo_bigAdd rfl rfl (by assumption) rfl ?_
    refine fi_step (pc' := 5) m_Mo_bigAdd rfl rfl ?_
    refine r_ldB (p := 6) m_Mo_bigAdd rfl rfl (by assumption) (by decide) rfl (by decide) (by omega) (by omega) ?_
    refine fi_step (pc' := 7) m_Mo_bigAdd rfl rfl ?_
    refine s_ic_eq (p := 10) m_Mo_bigAdd rfl rfl (by omega) (by omega) (by omega) (by omega) (fun h => ?_) (fun h => ?_)
    · refine fi_step (pc' := 15) m_Mo_bigAdd rfl rfl ?_
      refine fi_step (pc' := 17) m_Mo_bigAdd rfl rfl ?_
      exact bigAdd_mid hfr hlo hw hB k0 k1 u0 u1 hku (Or.inl rfl) (by omega) hroom
    · refine fi_step (pc' := 11) m_Mo_bigAdd rfl rfl ?_
      refine fi_step (pc' := 15) m_Mo_bigAdd rfl rfl ?_
      refine fi_step (pc' := 17) m_Mo_bigAdd rfl rfl ?_
      exact bigAdd_mid hfr hlo hw hB k0 k1 u0 u1 hku (Or.inl rfl) (by omega) hroom
  · rw [if_pos rfl, Int.sub_eq_add_neg]
    refine fi_step (pc' := 1) m_Mo_bigAdd rfl rfl ?_
    refine r_get (p := 4) m_Mo_bigAdd rfl rfl (by assumption) rfl ?_
    refine fi_step (pc' := 5) m_Mo_bigAdd rfl rfl ?_
    refine r_ldB (p := 6) m_Mo_bigAdd rfl rfl (by assumption) (by decide) rfl (by decide) (by omega) (by omega) ?_
    refine fi_step (pc' := 7) m_Mo_bigAdd rfl rfl ?_
    refine s_ic_eq (p := 10) m_Mo_bigAdd rfl rfl (by omega) (by omega) (by omega) (by omega) (fun h => ?_) (fun h => ?_)
    · refine fi_step (pc' := 15) m_Mo_bigAdd rfl rfl ?_
      refine fi_step (pc' := 17) m_Mo_bigAdd rfl rfl ?_
      exact bigAdd_mid hfr hlo hw hB k0 k1 u0 u1 hku (Or.inr rfl) (by omega) hroom
    · refine fi_step (pc' := 11) m_Mo_bigAdd rfl rfl ?_
      refine fi_step (pc' := 15) m_Mo_bigAdd rfl rfl ?_
      refine fi_step (pc' := 17) m_Mo_bigAdd rfl rfl ?_
      exact bigAdd_mid hfr hlo hw hB k0 k1 u0 u1 hku (Or.inr rfl) (by omega) hroom
end BIG3
end
section
/-! products of the reference's numbers -/
section BIG4
variable {xs : List Int32} {fr lo : Nat} {w0 : ax_W} {Q : Outcome → ax_W → Prop} {k a b : Int} {na nb : Nat} {S : mo_S}
theorem bigProduct_zero {N : Nat} (k0 : 0 ≤ k) (k1 : k < 277) (hN : N ≤ 140) (h2 : S 2 k = N)
    (K : ∀ w' s', RW w0 w' s' → chP k S s' → s' 2 = S 2 → s' 3 = S 3 → (∀ j : Nat, j < N → s' 1 (140 * k + j) = 0) → fin xs fr lo 132 53 [some (.ref 425), some (.int (jI k)), some (.int (jI a)), some (.int (jI b)), some (.int (jI N)), none, none, none, none] [] w' Q) :
    ∀ (c i : Nat) (w : ax_W) (s : mo_S), RW w0 w s → i + c = N → chP k S s → s 2 = S 2 → s 3 = S 3 → (∀ j : Nat, j < i → s 1 (140 * k + j) = 0) →
    fin xs fr lo 132 22 [some (.ref 425), some (.int (jI k)), some (.int (jI a)), some (.int (jI b)), some (.int (jI i)), none, none, none, none] [] w Q := by
  intro c
  induction c with
  | zero =>
    intro i w s hw hi hc e2 e3 hz
    have : i = N := by omega
    subst this
    have e4 : s 2 k = i := by rw [e2]; exact h2
    refine fi_step (pc' := 24) m_Mo_bigProduct rfl rfl ?_
    refine fi_step (pc' := 25) m_Mo_bigProduct rfl rfl ?_
    refine r_get (p := 28) m_Mo_bigProduct rfl rfl (by assumption) rfl ?_
    refine fi_step (pc' := 29) m_Mo_bigProduct rfl rfl ?_
    refine r_ldI (p := 30) m_Mo_bigProduct rfl rfl (by assumption) (by decide) rfl (by decide) (by omega) (by omega) ?_
    refine s_ic_ge (p := 33) m_Mo_bigProduct rfl rfl (by omega) (by omega) (by omega) (by omega) (fun hbr => ?_) (fun hbr => False.elim (by omega))
    exact K w s hw hc e2 e3 hz
  | succ c ih =>
    intro i w s hw hi hc e2 e3 hz
    have e4 : s 2 k = N := by rw [e2]; exact h2
    refine fi_step (pc' := 24) m_Mo_bigProduct rfl rfl ?_
    refine fi_step (pc' := 25) m_Mo_bigProduct rfl rfl ?_
    refine r_get (p := 28) m_Mo_bigProduct rfl rfl (by assumption) rfl ?_
    refine fi_step (pc' := 29) m_Mo_bigProduct rfl rfl ?_
    refine r_ldI (p := 30) m_Mo_bigProduct rfl rfl (by assumption) (by decide) rfl (by decide) (by omega) (by omega) ?_
    refine s_ic_ge (p := 33) m_Mo_bigProduct rfl rfl (by omega) (by omega) (by omega) (by omega) (fun hbr => False.elim (by omega)) (fun hbr => ?_)
    refine fi_step (pc' := 34) m_Mo_bigProduct rfl rfl ?_
    refine r_get (p := 37) m_Mo_bigProduct rfl rfl (by assumption) rfl ?_
    refine s_sipush (p := 40) m_Mo_bigProduct rfl rfl rfl ?_
    refine fi_step (pc' := 41) m_Mo_bigProduct rfl rfl ?_
    refine s_imul (p := 42) m_Mo_bigProduct rfl rfl ?_
    refine fi_step (pc' := 44) m_Mo_bigProduct rfl rfl ?_
    refine s_iadd (p := 45) m_Mo_bigProduct rfl rfl ?_
    refine fi_step (pc' := 46) m_Mo_bigProduct rfl rfl ?_
    refine r_stI (p := 47) m_Mo_bigProduct rfl rfl (by assumption) (by decide) (fun _ => rfl) (by decide) (by omega) (by omega) (fun w hw => ?_)
    refine s_iinc (p := 50) m_Mo_bigProduct rfl rfl rfl ?_
    refine fi_step (pc' := 22) m_Mo_bigProduct rfl rfl ?_
    refine ih (i + 1) w _ hw (by omega) (chP_trans hc (chP_up1 s _ (by omega) (by omega))) (by rw [up_ne s (by decide)]; exact e2) (by rw [up_ne s (by decide)]; exact e3) (fun j hj => ?_)
    rw [up_same]
    by_cases e : j = i
    · subst e; rw [up1_same]
    · rw [up1_ne _ (by omega)]; exact hz j (by omega)
theorem bigProduct_in {N i : Nat} {V : Int} (k0 : 0 ≤ k) (k1 : k < 277) (a0 : 0 ≤ a) (a1 : a < 277) (b0 : 0 ≤ b) (b1 : b < 277) (hka : k ≠ a) (hkb : k ≠ b) (hN : N ≤ 140) (hNe : N = na + nb) (hi : i < na)
    (ha : S 2 a = na) (hb : S 2 b = nb) (da : digB 16777216 (S 1) (140 * a) na) (db : digB 16777216 (S 1) (140 * b) nb)
    (K : ∀ w' s' cy y, RW w0 w' s' → chP k S s' → s' 2 = S 2 → s' 3 = S 3 → digB 16777216 (s' 1) (140 * k) N → (∀ j : Nat, i + nb ≤ j → j < N → s' 1 (140 * k + j) = 0) → 0 ≤ cy → cy < 16777216 → dvB 16777216 (s' 1) (140 * k) N + cy * 16777216 ^ (i + nb) = V + S 1 (140 * a + i) * dvB 16777216 (S 1) (140 * b) nb * 16777216 ^ i →
      fin xs fr lo 132 168 [some (.ref 425), some (.int (jI k)), some (.int (jI a)), some (.int (jI b)), some (.int (jI i)), some (.long (jL cy)), none, some (.int (jI nb)), y] [] w' Q) :
    ∀ (c j : Nat) (cy : Int) (y : Option Value) (w : ax_W) (s : mo_S), RW w0 w s → j + c = nb → chP k S s → s 2 = S 2 → s 3 = S 3 → digB 16777216 (s 1) (140 * k) N → (∀ j : Nat, i + nb ≤ j → j < N → s 1 (140 * k + j) = 0) → 0 ≤ cy → cy < 16777216 → dvB 16777216 (s 1) (140 * k) N + cy * 16777216 ^ (i + j) = V + S 1 (140 * a + i) * dvB 16777216 (S 1) (140 * b) j * 16777216 ^ i →
    fin xs fr lo 132 73 [some (.ref 425), some (.int (jI k)), some (.int (jI a)), some (.int (jI b)), some (.int (jI i)), some (.long (jL cy)), none, some (.int (jI j)), y] [] w Q := by
  intro c
  induction c with
  | zero =>
    intro j cy y w s hw hj hc e2 e3 hd hz c0 c1 hinv
    have : j = nb := by omega
    subst this
    have e4 : s 2 b = j := by rw [e2]; exact hb
    refine fi_step (pc' := 75) m_Mo_bigProduct rfl rfl ?_
    refine fi_step (pc' := 76) m_Mo_bigProduct rfl rfl ?_
    refine r_get (p := 79) m_Mo_bigProduct rfl rfl (by assumption) rfl ?_
    refine fi_step (pc' := 80) m_Mo_bigProduct rfl rfl ?_
    refine r_ldI (p := 81) m_Mo_bigProduct rfl rfl (by assumption) (by decide) rfl (by decide) (by omega) (by omega) ?_
    refine s_ic_ge (p := 84) m_Mo_bigProduct rfl rfl (by omega) (by omega) (by omega) (by omega) (fun hbr => ?_) (fun hbr => False.elim (by omega))
    exact K w s cy y hw hc e2 e3 hd hz c0 c1 hinv
  | succ c ih =>
    intro j cy y w s hw hj hc e2 e3 hd hz c0 c1 hinv
    have e4 : s 2 b = nb := by rw [e2]; exact hb
    have dA := da i hi
    have dB := db j (by omega)
    have eA : s 1 (140 * a + i) = S 1 (140 * a + i) := hc.1 _ (by omega)
    have eB : s 1 (140 * b + j) = S 1 (140 * b + j) := hc.1 _ (by omega)
    have dK := hd (i + j) (by omega)
    have eK : 140 * k + (i : Int) + (j : Int) = 140 * k + ((i + j : Nat) : Int) := by omega
    have p0 : 0 ≤ S 1 (140 * a + i) * S 1 (140 * b + j) := Int.mul_nonneg dA.1 dB.1
    have p1 : S 1 (140 * a + i) * S 1 (140 * b + j) ≤ 16777215 * 16777215 := Int.mul_le_mul (by omega) (by omega) dB.1 (by decide)
    have x0 : 0 ≤ s 1 (140 * k + i + j) ∧ s 1 (140 * k + i + j) < 16777216 := by rw [eK]; exact dK
    rw [← eA, ← eB] at p0 p1
    rw [← eA] at dA
    rw [← eB] at dB
    generalize hT : cy + s 1 (140 * k + i + j) + s 1 (140 * a + i) * s 1 (140 * b + j) = T
    have m0 := Int.emod_nonneg T (show (16777216 : Int) ≠ 0 by decide)
    have m1 := Int.emod_lt_of_pos T (show (0 : Int) < 16777216 by decide)
    have me := Int.emod_add_mul_ediv T 16777216
    refine fi_step (pc' := 75) m_Mo_bigProduct rfl rfl ?_
    refine fi_step (pc' := 76) m_Mo_bigProduct rfl rfl ?_
    refine r_get (p := 79) m_Mo_bigProduct rfl rfl (by assumption) rfl ?_
    refine fi_step (pc' := 80) m_Mo_bigProduct rfl rfl ?_
    refine r_ldI (p := 81) m_Mo_bigProduct rfl rfl (by assumption) (by decide) rfl (by decide) (by omega) (by omega) ?_
    refine s_ic_ge (p := 84) m_Mo_bigProduct rfl rfl (by omega) (by omega) (by omega) (by omega) (fun hbr => False.elim (by omega)) (fun hbr => ?_)
    refine s_sipush (p := 87) m_Mo_bigProduct rfl rfl rfl ?_
    refine fi_step (pc' := 88) m_Mo_bigProduct rfl rfl ?_
    refine s_imul (p := 89) m_Mo_bigProduct rfl rfl ?_
    refine fi_step (pc' := 91) m_Mo_bigProduct rfl rfl ?_
    refine s_iadd (p := 92) m_Mo_bigProduct rfl rfl ?_
    refine fi_step (pc' := 94) m_Mo_bigProduct rfl rfl ?_
    refine s_iadd (p := 95) m_Mo_bigProduct rfl rfl ?_
    refine fi_step (pc' := 97) m_Mo_bigProduct rfl rfl ?_
    refine fi_step (pc' := 99) m_Mo_bigProduct rfl rfl ?_
    refine fi_step (pc' := 100) m_Mo_bigProduct rfl rfl ?_
    refine r_get (p := 103) m_Mo_bigProduct rfl rfl (by assumption) rfl ?_
    refine fi_step (pc' := 105) m_Mo_bigProduct rfl rfl ?_
    refine r_ldI (p := 106) m_Mo_bigProduct rfl rfl (by assumption) (by decide) rfl (by decide) (by omega) (by omega) ?_
    refine s_i2l (p := 107) m_Mo_bigProduct rfl rfl (by omega) (by omega) ?_
    refine s_ladd (p := 108) m_Mo_bigProduct rfl rfl ?_
    refine fi_step (pc' := 109) m_Mo_bigProduct rfl rfl ?_
    refine r_get (p := 112) m_Mo_bigProduct rfl rfl (by assumption) rfl ?_
    refine s_sipush (p := 115) m_Mo_bigProduct rfl rfl rfl ?_
    refine fi_step (pc' := 116) m_Mo_bigProduct rfl rfl ?_
    refine s_imul (p := 117) m_Mo_bigProduct rfl rfl ?_
    refine fi_step (pc' := 119) m_Mo_bigProduct rfl rfl ?_
    refine s_iadd (p := 120) m_Mo_bigProduct rfl rfl ?_
    refine r_ldI (p := 121) m_Mo_bigProduct rfl rfl (by assumption) (by decide) rfl (by decide) (by omega) (by omega) ?_
    refine s_i2l (p := 122) m_Mo_bigProduct rfl rfl (by omega) (by omega) ?_
    refine fi_step (pc' := 123) m_Mo_bigProduct rfl rfl ?_
    refine r_get (p := 126) m_Mo_bigProduct rfl rfl (by assumption) rfl ?_
    refine s_sipush (p := 129) m_Mo_bigProduct rfl rfl rfl ?_
    refine fi_step (pc' := 130) m_Mo_bigProduct rfl rfl ?_
    refine s_imul (p := 131) m_Mo_bigProduct rfl rfl ?_
    refine fi_step (pc' := 133) m_Mo_bigProduct rfl rfl ?_
    refine s_iadd (p := 134) m_Mo_bigProduct rfl rfl ?_
    refine r_ldI (p := 135) m_Mo_bigProduct rfl rfl (by assumption) (by decide) rfl (by decide) (by omega) (by omega) ?_
    refine s_i2l (p := 136) m_Mo_bigProduct rfl rfl (by omega) (by omega) ?_
    refine s_lmul (p := 137) m_Mo_bigProduct rfl rfl ?_
    refine s_ladd (p := 138) m_Mo_bigProduct rfl rfl ?_
    rw [hT]
    refine fi_step (pc' := 140) m_Mo_bigProduct rfl rfl ?_
    refine fi_step (pc' := 141) m_Mo_bigProduct rfl rfl ?_
    refine r_get (p := 144) m_Mo_bigProduct rfl rfl (by assumption) rfl ?_
    refine fi_step (pc' := 146) m_Mo_bigProduct rfl rfl ?_
    refine fi_step (pc' := 148) m_Mo_bigProduct rfl rfl ?_
    refine s_ldc2 (p := 151) 16777216 m_Mo_bigProduct rfl rfl rfl ?_
    refine s_lrem (p := 152) m_Mo_bigProduct rfl rfl (by omega) (by omega) (by omega) (by omega) ?_
    refine s_l2i (p := 153) m_Mo_bigProduct rfl rfl ?_
    refine r_stI (p := 154) m_Mo_bigProduct rfl rfl (by assumption) (by decide) (fun _ => rfl) (by decide) (by omega) (by omega) (fun w hw => ?_)
    refine fi_step (pc' := 156) m_Mo_bigProduct rfl rfl ?_
    refine s_ldc2 (p := 159) 16777216 m_Mo_bigProduct rfl rfl rfl ?_
    refine s_ldiv (p := 160) m_Mo_bigProduct rfl rfl (by omega) (by omega) (by omega) (by omega) ?_
    refine fi_step (pc' := 162) m_Mo_bigProduct rfl rfl ?_
    refine s_iinc (p := 165) m_Mo_bigProduct rfl rfl rfl ?_
    refine fi_step (pc' := 73) m_Mo_bigProduct rfl rfl ?_
    refine ih (j + 1) _ _ w _ hw (by omega) (chP_trans hc (chP_up1 s _ (by omega) (by omega))) (by rw [up_ne s (by decide)]; exact e2) (by rw [up_ne s (by decide)]; exact e3) ?_ ?_ (by omega) (by omega) ?_
    · rw [up_same]; exact digB_up (fun q hq hne => hd q hq) m0 m1
    · intro q q0 q1; rw [up_same, up1_ne _ (by omega)]; exact hz q q0 q1
    · rw [up_same, eK, dvB_up_in (by omega), dvB_succ]
      rw [eA, eB, eK] at hT
      grind
theorem bigProduct_out {N : Nat} (hfr : 1 ≤ fr) (hlo : 21 ≤ lo) (k0 : 0 ≤ k) (k1 : k < 277) (a0 : 0 ≤ a) (a1 : a < 277) (b0 : 0 ≤ b) (b1 : b < 277) (hka : k ≠ a) (hkb : k ≠ b) (hN : N ≤ 140) (hNe : N = na + nb)
    (ha : S 2 a = na) (hb : S 2 b = nb) (da : digB 16777216 (S 1) (140 * a) na) (db : digB 16777216 (S 1) (140 * b) nb) (h2 : S 2 k = N) (sa : S 3 a = 0 ∨ S 3 a = 1) (sb : S 3 b = 0 ∨ S 3 b = 1) :
    ∀ (c i : Nat) (y5 y6 y7 y8 : Option Value) (w : ax_W) (s : mo_S), RW w0 w s → i + c = na → chP k S s → s 2 = S 2 → s 3 = S 3 → digB 16777216 (s 1) (140 * k) N → (∀ j : Nat, i + nb ≤ j → j < N → s 1 (140 * k + j) = 0) → dvB 16777216 (s 1) (140 * k) N = dvB 16777216 (S 1) (140 * a) i * dvB 16777216 (S 1) (140 * b) nb →
    fin xs fr lo 132 56 [some (.ref 425), some (.int (jI k)), some (.int (jI a)), some (.int (jI b)), some (.int (jI i)), y5, y6, y7, y8] [] w (Ret fun v w' => v = none ∧ ∃ s' n', RW w0 w' s' ∧ chP k S s' ∧ Mag s' k n' (dvB 16777216 (S 1) (140 * a) na * dvB 16777216 (S 1) (140 * b) nb) ∧ s' 3 k = (if S 3 a = S 3 b then 0 else 1)) := by
  intro c
  induction c with
  | zero =>
    intro i y5 y6 y7 y8 w s hw hi hc e2 e3 hd hz hinv
    have : i = na := by omega
    subst this
    have e4 : s 2 a = i := by rw [e2]; exact ha
    have fin1 : ∀ (sg : Int) (w1 : ax_W), sg = (if S 3 a = S 3 b then 0 else 1) → RW w0 w1 (up s 3 k sg) → fin xs fr lo 132 223 [some (.ref 425), some (.int (jI k)), some (.int (jI a)), some (.int (jI b)), some (.int (jI i)), y5, y6, y7, y8] [] w1 (Ret fun v w' => v = none ∧ ∃ s' n', RW w0 w' s' ∧ chP k S s' ∧ Mag s' k n' (dvB 16777216 (S 1) (140 * a) i * dvB 16777216 (S 1) (140 * b) nb) ∧ s' 3 k = (if S 3 a = S 3 b then 0 else 1)) := by
      intro sg w1 hsg hw
      refine fi_step (pc' := 224) m_Mo_bigProduct rfl rfl ?_
      refine fi_step (pc' := 225) m_Mo_bigProduct rfl rfl ?_
      refine g_2 (p := 228) m_Mo_bigProduct rfl inv_v (by decide) m_Mo_bigTrim rfl rfl (by omega) (by omega) (Nat.le_of_ble_eq_true rfl) (Nat.le_of_ble_eq_true rfl) (RW_rcv hw _) (c_bigTrim k0 k1 N w1 _ hw (by rw [up_ne _ (by decide), e2]; exact h2) hN (by rw [up_ne _ (by decide)]; exact hd)) (fun v w hP => ?_)
      obtain ⟨rfl, n1, g1, g2⟩ := hP
      refine p_ret m_Mo_bigProduct rfl rfl ?_
      rw [up_ne s (by decide), hinv] at g2
      exact ⟨rfl, _, n1, g1, chP_trans hc (chP_trans (chP_up3 k s sg) (chP_up2 k _ _)), g2, by rw [up_ne _ (by decide), up_same, up1_same, hsg]⟩
    have sa' : s 3 a = S 3 a := by rw [e3]
    have sb' : s 3 b = S 3 b := by rw [e3]
    refine fi_step (pc' := 58) m_Mo_bigProduct rfl rfl ?_
    refine fi_step (pc' := 59) m_Mo_bigProduct rfl rfl ?_
    refine r_get (p := 62) m_Mo_bigProduct rfl rfl (by assumption) rfl ?_
    refine fi_step (pc' := 63) m_Mo_bigProduct rfl rfl ?_
    refine r_ldI (p := 64) m_Mo_bigProduct rfl rfl (by assumption) (by decide) rfl (by decide) (by omega) (by omega) ?_
    refine s_ic_ge (p := 67) m_Mo_bigProduct rfl rfl (by omega) (by omega) (by omega) (by omega) (fun hbr => ?_) (fun hbr => False.elim (by omega))
    refine fi_step (pc' := 198) m_Mo_bigProduct rfl rfl ?_
    refine r_get (p := 201) m_Mo_bigProduct rfl rfl (by assumption) rfl ?_
    refine fi_step (pc' := 202) m_Mo_bigProduct rfl rfl ?_
    refine fi_step (pc' := 203) m_Mo_bigProduct rfl rfl ?_
    refine r_get (p := 206) m_Mo_bigProduct rfl rfl (by assumption) rfl ?_
    refine fi_step (pc' := 207) m_Mo_bigProduct rfl rfl ?_
    refine r_ldB (p := 208) m_Mo_bigProduct rfl rfl (by assumption) (by decide) rfl (by decide) (by omega) (by omega) ?_
    refine fi_step (pc' := 209) m_Mo_bigProduct rfl rfl ?_
    refine r_get (p := 212) m_Mo_bigProduct rfl rfl (by assumption) rfl ?_
    refine fi_step (pc' := 213) m_Mo_bigProduct rfl rfl ?_
    refine r_ldB (p := 214) m_Mo_bigProduct rfl rfl (by assumption) (by decide) rfl (by decide) (by omega) (by omega) ?_
    refine s_ic_eq (p := 217) m_Mo_bigProduct rfl rfl (by omega) (by omega) (by omega) (by omega) (fun h => ?_) (fun h => ?_)
    · refine fi_step (pc' := 222) m_Mo_bigProduct rfl rfl ?_
      refine r_stB (p := 223) m_Mo_bigProduct rfl rfl (by assumption) (by decide) (fun _ => rfl) (by decide) (by omega) (by omega) (by omega) (by omega) (fun w hw => ?_)
      exact fin1 0 w (by rw [if_pos (by omega)]) hw
    · refine fi_step (pc' := 218) m_Mo_bigProduct rfl rfl ?_
      refine fi_step (pc' := 222) m_Mo_bigProduct rfl rfl ?_
      refine r_stB (p := 223) m_Mo_bigProduct rfl rfl (by assumption) (by decide) (fun _ => rfl) (by decide) (by omega) (by omega) (by omega) (by omega) (fun w hw => ?_)
      exact fin1 1 w (by rw [if_neg (by omega)]) hw
  | succ c ih =>
    intro i y5 y6 y7 y8 w s hw hi hc e2 e3 hd hz hinv
    have e4 : s 2 a = na := by rw [e2]; exact ha
    refine fi_step (pc' := 58) m_Mo_bigProduct rfl rfl ?_
    refine fi_step (pc' := 59) m_Mo_bigProduct rfl rfl ?_
    refine r_get (p := 62) m_Mo_bigProduct rfl rfl (by assumption) rfl ?_
    refine fi_step (pc' := 63) m_Mo_bigProduct rfl rfl ?_
    refine r_ldI (p := 64) m_Mo_bigProduct rfl rfl (by assumption) (by decide) rfl (by decide) (by omega) (by omega) ?_
    refine s_ic_ge (p := 67) m_Mo_bigProduct rfl rfl (by omega) (by omega) (by omega) (by omega) (fun hbr => False.elim (by omega)) (fun hbr => ?_)
    refine s_lconst (p := 68) (v := 0) m_Mo_bigProduct rfl rfl rfl ?_
    refine fi_step (pc' := 70) m_Mo_bigProduct rfl rfl ?_
    refine fi_step (pc' := 71) m_Mo_bigProduct rfl rfl ?_
    refine fi_step (pc' := 73) m_Mo_bigProduct rfl rfl ?_
    refine bigProduct_in (N := N) (i := i) (V := dvB 16777216 (S 1) (140 * a) i * dvB 16777216 (S 1) (140 * b) nb) k0 k1 a0 a1 b0 b1 hka hkb hN hNe (by omega) ha hb da db ?_ nb 0 0 _ w s hw (by omega) hc e2 e3 hd hz (by decide) (by decide) (by rw [dvB_zero]; simp; exact hinv)
    intro w1 s1 cy y hw f1 f2 f3 f4 f5 f6 f7 f8
    have e5 : s1 2 b = nb := by rw [f2]; exact hb
    have eK : 140 * k + (i : Int) + (nb : Int) = 140 * k + ((i + nb : Nat) : Int) := by omega
    refine fi_step (pc' := 169) m_Mo_bigProduct rfl rfl ?_
    refine r_get (p := 172) m_Mo_bigProduct rfl rfl (by assumption) rfl ?_
    refine s_sipush (p := 175) m_Mo_bigProduct rfl rfl rfl ?_
    refine fi_step (pc' := 176) m_Mo_bigProduct rfl rfl ?_
    refine s_imul (p := 177) m_Mo_bigProduct rfl rfl ?_
    refine fi_step (pc' := 179) m_Mo_bigProduct rfl rfl ?_
    refine s_iadd (p := 180) m_Mo_bigProduct rfl rfl ?_
    refine fi_step (pc' := 181) m_Mo_bigProduct rfl rfl ?_
    refine r_get (p := 184) m_Mo_bigProduct rfl rfl (by assumption) rfl ?_
    refine fi_step (pc' := 185) m_Mo_bigProduct rfl rfl ?_
    refine r_ldI (p := 186) m_Mo_bigProduct rfl rfl (by assumption) (by decide) rfl (by decide) (by omega) (by omega) ?_
    refine s_iadd (p := 187) m_Mo_bigProduct rfl rfl ?_
    refine fi_step (pc' := 189) m_Mo_bigProduct rfl rfl ?_
    refine s_l2i (p := 190) m_Mo_bigProduct rfl rfl ?_
    refine r_stI (p := 191) m_Mo_bigProduct rfl rfl (by assumption) (by decide) (fun _ => rfl) (by decide) (by omega) (by omega) (fun w hw => ?_)
    refine s_iinc (p := 194) m_Mo_bigProduct rfl rfl rfl ?_
    refine fi_step (pc' := 56) m_Mo_bigProduct rfl rfl ?_
    rw [e5] at hw
    refine ih (i + 1) _ _ _ _ w _ hw (by omega) (chP_trans f1 (chP_up1 s1 _ (by omega) (by omega))) (by rw [up_ne _ (by decide)]; exact f2) (by rw [up_ne _ (by decide)]; exact f3) ?_ ?_ ?_
    · rw [up_same]; exact digB_up (fun q hq hne => f4 q hq) f6 f7
    · intro q q0 q1; rw [up_same, up1_ne _ (by omega)]; exact f5 q (by omega) q1
    · have z := f5 (i + nb) (by omega) (by omega)
      rw [up_same, eK, dvB_up_in (by omega), z, dvB_succ]
      grind
theorem c_bigProduct {w : ax_W} {s : mo_S} {r : Int → Int} (hfr : 1 ≤ fr) (hlo : 21 ≤ lo) (hw : RW w0 w s) (hB : Bg s r) (k0 : 0 ≤ k) (k1 : k < 277) (a0 : 0 ≤ a) (a1 : a < 277) (b0 : 0 ≤ b) (b1 : b < 277) (hka : k ≠ a) (hkb : k ≠ b) (hroom : ((r a).natAbs : Int) * ((r b).natAbs : Int) < rm 138) :
    fin xs fr lo 132 0 (ax_ent [.ref 425, .int (jI k), .int (jI a), .int (jI b)] 9) [] w (Ret fun v w' => v = none ∧ ∃ s', RW w0 w' s' ∧ oth s s' ∧ Bg s' (up1 r k (r a * r b))) := by
  obtain ⟨na, ha, sa, sa0, sa1⟩ := isN_abs (hB a a0 a1)
  obtain ⟨nb, hb, sb, sb0, sb1⟩ := isN_abs (hB b b0 b1)
  have ⟨a2, a3, a4, a5, a6⟩ := ha
  have ⟨b2, b3, b4, b5, b6⟩ := hb
  have hN : na + nb ≤ 140 := by
    rcases Nat.eq_zero_or_pos na with e | e
    · omega
    · rcases Nat.eq_zero_or_pos nb with f | f
      · omega
      · obtain ⟨p, rfl⟩ : ∃ p, na = p + 1 := ⟨na - 1, by omega⟩
        obtain ⟨q, rfl⟩ : ∃ q, nb = q + 1 := ⟨nb - 1, by omega⟩
        have g1 := Mag_ge ha
        have g2 := Mag_ge hb
        have g3 : (16777216 : Int) ^ p * 16777216 ^ q ≤ ((r a).natAbs : Int) * ((r b).natAbs : Int) := Int.mul_le_mul g1 g2 (Int.le_of_lt (powB_pos (by decide) q)) (by omega)
        rw [← Int.pow_add] at g3
        rcases Nat.lt_or_ge (p + q) 138 with h' | h'
        · omega
        · have := rm_le h'; omega
  have eL : s 2 a + s 2 b = ((na + nb : Nat) : Int) := by omega
  have hc0 := chP_up2 k s ((na + nb : Nat) : Int)
  have hane : a ≠ k := fun e => hka e.symm
  have hbne : b ≠ k := fun e => hkb e.symm
  have ha' := Mag_ch ha hc0 hane
  have hb' := Mag_ch hb hc0 hbne
  refine fi_step (pc' := 1) m_Mo_bigProduct rfl rfl ?_
  refine r_get (p := 4) m_Mo_bigProduct rfl rfl (by assumption) rfl ?_
  refine fi_step (pc' := 5) m_Mo_bigProduct rfl rfl ?_
  refine fi_step (pc' := 6) m_Mo_bigProduct rfl rfl ?_
  refine r_get (p := 9) m_Mo_bigProduct rfl rfl (by assumption) rfl ?_
  refine fi_step (pc' := 10) m_Mo_bigProduct rfl rfl ?_
  refine r_ldI (p := 11) m_Mo_bigProduct rfl rfl (by assumption) (by decide) rfl (by decide) (by omega) (by omega) ?_
  refine fi_step (pc' := 12) m_Mo_bigProduct rfl rfl ?_
  refine r_get (p := 15) m_Mo_bigProduct rfl rfl (by assumption) rfl ?_
  refine fi_step (pc' := 16) m_Mo_bigProduct rfl rfl ?_
  refine r_ldI (p := 17) m_Mo_bigProduct rfl rfl (by assumption) (by decide) rfl (by decide) (by omega) (by omega) ?_
  refine s_iadd (p := 18) m_Mo_bigProduct rfl rfl ?_
  refine r_stI (p := 19) m_Mo_bigProduct rfl rfl (by assumption) (by decide) (fun _ => rfl) (by decide) (by omega) (by omega) (fun w hw => ?_)
  refine fi_step (pc' := 20) m_Mo_bigProduct rfl rfl ?_
  refine fi_step (pc' := 22) m_Mo_bigProduct rfl rfl ?_
  rw [eL] at hw
  refine bigProduct_zero (S := up s 2 k ((na + nb : Nat) : Int)) (N := na + nb) k0 k1 hN (by rw [up_same, up1_same]) ?_ (na + nb) 0 w _ hw (by omega) (chP_refl k _) rfl rfl (fun j hj => by omega)
  intro w1 s1 hw f1 f2 f3 f4
  refine fi_step (pc' := 54) m_Mo_bigProduct rfl rfl ?_
  refine fi_step (pc' := 56) m_Mo_bigProduct rfl rfl ?_
  refine fi_mono (bigProduct_out (S := up s 2 k ((na + nb : Nat) : Int)) (N := na + nb) hfr hlo k0 k1 a0 a1 b0 b1 hka hkb hN rfl ha'.1 hb'.1 ha'.2.2.1 hb'.2.2.1 (by rw [up_same, up1_same]) (by rw [up_ne _ (by decide)]; exact sa) (by rw [up_ne _ (by decide)]; exact sb) na 0 _ _ _ _ w1 s1 hw (by omega) f1 f2 f3 (fun j hj => by rw [f4 j hj]; decide) (fun j _ hj => f4 j hj) ?_) ?_
  · rw [dvB_zero, Int.zero_mul, dvB_congr (g := fun _ => 0) (p := 0) (fun i hi => f4 i hi)]
    have z : ∀ d : Nat, dvB 16777216 (fun _ => 0) 0 d = 0 := by
      intro d; induction d with
      | zero => rfl
      | succ d ih => rw [dvB_succ, ih]; simp
    exact z _
  · rintro o w' ⟨v, rfl, hv, s', n', g1, g2, g3, g4⟩
    have gc := chP_trans hc0 g2
    rw [up_ne _ (by decide)] at g4
    rw [← ha'.2.2.2.2, ← hb'.2.2.2.2] at g3
    refine ⟨v, rfl, hv, s', g1, chP_oth gc, Bg_ch hB gc (isN_of g3 ?_ ?_)⟩
    · rw [Int.natAbs_mul]; simp
    · rw [g4]
      rcases sa with e | e <;> rcases sb with f | f <;> rw [e, f]
      · exact Or.inl ⟨rfl, Int.mul_nonneg (sa0 e) (sb0 f)⟩
      · exact Or.inr ⟨rfl, mul_np_np (sa0 e) (sb1 f)⟩
      · exact Or.inr ⟨rfl, mul_pn_np (sa1 e) (sb0 f)⟩
      · exact Or.inl ⟨rfl, mul_nn_pp (sa1 e) (sb1 f)⟩
end BIG4
end
section
/-! division of the reference's numbers -/
section BIG5
variable {xs : List Int32} {fr lo : Nat} {w0 : ax_W}
theorem bigHolds_loop {k u : Int} {n' sh : Nat} {m m' : Int} {w : ax_W} {s : mo_S} (hfr : 1 ≤ fr) (hlo : 22 ≤ lo) (hw : RW w0 w s) (k0 : 0 ≤ k) (k1 : k < 277) (u0 : 0 ≤ u) (u1 : u < 277) (hk : Mag s k (sh + n') m) (hu : Mag s u n' m') : ∀ (t : Nat), t ≤ n' → (∀ j : Nat, t ≤ j → j < n' → s 1 (140 * k + sh + j) = s 1 (140 * u + j)) →
    fin xs fr lo 155 50 [some (.ref 425), some (.int (jI k)), some (.int (jI u)), some (.int (jI sh)), some (.int (jI ((sh : Int) + (t : Int) - 1)))] [] w (Same (.int (jI (if m' * 16777216 ^ sh ≤ m then 1 else 0))) w) := by
  have ⟨k2, k3, k4, k5, k6⟩ := hk
  have ⟨u2, u3, u4, u5, u6⟩ := hu
  have k7 : m = dvB 16777216 (s 1) (140 * k) sh + 16777216 ^ sh * dvB 16777216 (s 1) (140 * k + sh) n' := by rw [k6, dvB_split]
  have lo0 := dvB_nonneg (B := 16777216) (by decide) (f := s 1) (o := 140 * k) (n := sh) (fun i hi => (k4 i (by omega)).1)
  have lo1 := dvB_lt (B := 16777216) (by decide) (f := s 1) (o := 140 * k) (n := sh) (fun i hi => k4 i (by omega))
  have pp := powB_pos (B := 16777216) (by decide) sh
  have kd : digB 16777216 (s 1) (140 * k + sh) n' := fun i hi => by
    have := k4 (sh + i) (by omega); rwa [show 140 * k + ((sh + i : Nat) : Int) = 140 * k + sh + i by omega] at this
  intro t
  induction t with
  | zero =>
    intro ht he
    have e : dvB 16777216 (s 1) (140 * k + sh) n' = m' := by rw [u6]; exact dvB_congr (fun i hi => he i (by omega) hi)
    rw [e] at k7
    rw [if_pos (by rw [k7, Int.mul_comm]; omega)]
    refine fi_step (pc' := 52) m_Mo_bigHolds rfl rfl ?_
    refine fi_step (pc' := 53) m_Mo_bigHolds rfl rfl ?_
    refine s_ic_lt (p := 56) m_Mo_bigHolds rfl rfl (by omega) (by omega) (by omega) (by omega) (fun hbr => ?_) (fun hbr => False.elim (by omega))
    refine fi_step (pc' := 83) m_Mo_bigHolds rfl rfl ?_
    refine fi_step (pc' := 84) m_Mo_bigHolds rfl rfl ?_
    refine s_ic_lt (p := 87) m_Mo_bigHolds rfl rfl (by omega) (by omega) (by omega) (by omega) (fun hbr => ?_) (fun hbr => False.elim (by omega))
    refine fi_step (pc' := 107) m_Mo_bigHolds rfl rfl ?_
    refine fi_step (pc' := 111) m_Mo_bigHolds rfl rfl ?_
    exact s_retb m_Mo_bigHolds rfl rfl (by omega) (by first | exact Or.inl rfl | exact Or.inr rfl | omega)
  | succ t ih =>
    intro ht he
    have q1 := k4 (sh + t) (by omega)
    have q2 := u4 t (by omega)
    rw [show 140 * k + ((sh + t : Nat) : Int) = 140 * k + ((sh : Int) + t) by omega] at q1
    rw [show (sh : Int) + ((t + 1 : Nat) : Int) - 1 = (sh : Int) + (t : Int) by omega]
    have ex : (sh : Int) + (t : Int) - (sh : Int) = t := by omega
    refine fi_step (pc' := 52) m_Mo_bigHolds rfl rfl ?_
    refine fi_step (pc' := 53) m_Mo_bigHolds rfl rfl ?_
    refine s_ic_lt (p := 56) m_Mo_bigHolds rfl rfl (by omega) (by omega) (by omega) (by omega) (fun hbr => False.elim (by omega)) (fun hbr => ?_)
    refine fi_step (pc' := 57) m_Mo_bigHolds rfl rfl ?_
    refine fi_step (pc' := 58) m_Mo_bigHolds rfl rfl ?_
    refine fi_step (pc' := 60) m_Mo_bigHolds rfl rfl ?_
    refine c_3 (p := 63) m_Mo_bigHolds rfl inv_v (by decide) m_Mo_bigAt rfl rfl (by omega) (by omega) (Nat.le_of_ble_eq_true rfl) (Nat.le_of_ble_eq_true rfl) (RW_rcv hw _) (c_bigAt hw k0 k1 (by omega) (by omega) (by omega) (by omega)) ?_
    refine fi_step (pc' := 64) m_Mo_bigHolds rfl rfl ?_
    refine fi_step (pc' := 65) m_Mo_bigHolds rfl rfl ?_
    refine fi_step (pc' := 67) m_Mo_bigHolds rfl rfl ?_
    refine fi_step (pc' := 68) m_Mo_bigHolds rfl rfl ?_
    refine s_isub (p := 69) m_Mo_bigHolds rfl rfl ?_
    refine c_3 (p := 72) m_Mo_bigHolds rfl inv_v (by decide) m_Mo_bigAt rfl rfl (by omega) (by omega) (Nat.le_of_ble_eq_true rfl) (Nat.le_of_ble_eq_true rfl) (RW_rcv hw _) (c_bigAt hw u0 u1 (by omega) (by omega) (by omega) (by omega)) ?_
    rw [ex, if_pos (by omega), if_pos (by omega)]
    refine s_ic_ne (p := 75) m_Mo_bigHolds rfl rfl (by omega) (by omega) (by omega) (by omega) (fun h => ?_) (fun h => ?_)
    · refine fi_step (pc' := 83) m_Mo_bigHolds rfl rfl ?_
      refine fi_step (pc' := 84) m_Mo_bigHolds rfl rfl ?_
      refine s_ic_lt (p := 87) m_Mo_bigHolds rfl rfl (by omega) (by omega) (by omega) (by omega) (fun hbr => False.elim (by omega)) (fun hbr => ?_)
      refine fi_step (pc' := 88) m_Mo_bigHolds rfl rfl ?_
      refine fi_step (pc' := 89) m_Mo_bigHolds rfl rfl ?_
      refine fi_step (pc' := 91) m_Mo_bigHolds rfl rfl ?_
      refine c_3 (p := 94) m_Mo_bigHolds rfl inv_v (by decide) m_Mo_bigAt rfl rfl (by omega) (by omega) (Nat.le_of_ble_eq_true rfl) (Nat.le_of_ble_eq_true rfl) (RW_rcv hw _) (c_bigAt hw k0 k1 (by omega) (by omega) (by omega) (by omega)) ?_
      refine fi_step (pc' := 95) m_Mo_bigHolds rfl rfl ?_
      refine fi_step (pc' := 96) m_Mo_bigHolds rfl rfl ?_
      refine fi_step (pc' := 98) m_Mo_bigHolds rfl rfl ?_
      refine fi_step (pc' := 99) m_Mo_bigHolds rfl rfl ?_
      refine s_isub (p := 100) m_Mo_bigHolds rfl rfl ?_
      refine c_3 (p := 103) m_Mo_bigHolds rfl inv_v (by decide) m_Mo_bigAt rfl rfl (by omega) (by omega) (Nat.le_of_ble_eq_true rfl) (Nat.le_of_ble_eq_true rfl) (RW_rcv hw _) (c_bigAt hw u0 u1 (by omega) (by omega) (by omega) (by omega)) ?_
      rw [ex, if_pos (show (sh : Int) + (t : Int) < s 2 k by omega), if_pos (show (t : Int) < s 2 u by omega)]
      have ee : 140 * k + (sh : Int) + (t : Int) = 140 * k + ((sh : Int) + t) := by omega
      refine s_ic_le (p := 106) m_Mo_bigHolds rfl rfl (by omega) (by omega) (by omega) (by omega) (fun g => ?_) (fun g => ?_)
      · have h1 := dvB_cmp (by decide) kd u4 (show t < n' by omega) (fun j h1 h2 => he j (by omega) h2) (by rw [ee]; omega)
        have h2 : 16777216 ^ sh * (dvB 16777216 (s 1) (140 * k + sh) n' + 1) ≤ 16777216 ^ sh * m' := Int.mul_le_mul_of_nonneg_left (by omega) (Int.le_of_lt pp)
        have h3 : ¬ m' * 16777216 ^ sh ≤ m := by rw [Int.mul_comm]; rw [Int.mul_add, Int.mul_one] at h2; omega
        rw [if_neg h3]
        refine fi_step (pc' := 111) m_Mo_bigHolds rfl rfl ?_
        exact s_retb m_Mo_bigHolds rfl rfl (by omega) (by first | exact Or.inl rfl | exact Or.inr rfl | omega)
      · have h1 := dvB_cmp (by decide) u4 kd (show t < n' by omega) (fun j h1 h2 => (he j (by omega) h2).symm) (by rw [ee]; omega)
        have h2 : 16777216 ^ sh * m' ≤ 16777216 ^ sh * dvB 16777216 (s 1) (140 * k + sh) n' := Int.mul_le_mul_of_nonneg_left (by omega) (Int.le_of_lt pp)
        have h3 : m' * 16777216 ^ sh ≤ m := by rw [Int.mul_comm]; omega
        rw [if_pos h3]
        refine fi_step (pc' := 107) m_Mo_bigHolds rfl rfl ?_
        refine fi_step (pc' := 111) m_Mo_bigHolds rfl rfl ?_
        exact s_retb m_Mo_bigHolds rfl rfl (by omega) (by first | exact Or.inl rfl | exact Or.inr rfl | omega)
    · refine s_iinc (p := 78) m_Mo_bigHolds rfl rfl rfl ?_
      refine fi_step (pc' := 50) m_Mo_bigHolds rfl rfl ?_
      refine ih (by omega) (fun j h1 h2 => ?_)
      by_cases e : j = t
      · subst e; rw [show 140 * k + (sh : Int) + (j : Int) = 140 * k + ((sh : Int) + j) by omega]; exact h
      · exact he j (by omega) h2
theorem c_bigHolds {k u : Int} {n n' sh : Nat} {m m' : Int} {w : ax_W} {s : mo_S} (hfr : 1 ≤ fr) (hlo : 22 ≤ lo) (hw : RW w0 w s) (k0 : 0 ≤ k) (k1 : k < 277) (u0 : 0 ≤ u) (u1 : u < 277) (hk : Mag s k n m) (hu : Mag s u n' m') (hn : 1 ≤ n') (hsh : sh ≤ 140) :
    fin xs fr lo 155 0 (ax_ent [.ref 425, .int (jI k), .int (jI u), .int (jI sh)] 5) [] w (Same (.int (jI (if m' * 16777216 ^ sh ≤ m then 1 else 0))) w) := by
  have ⟨k2, k3, k4, k5, k6⟩ := hk
  have ⟨u2, u3, u4, u5, u6⟩ := hu
  have pp := powB_pos (B := 16777216) (by decide) sh
  refine fi_step (pc' := 1) m_Mo_bigHolds rfl rfl ?_
  refine r_get (p := 4) m_Mo_bigHolds rfl rfl (by assumption) rfl ?_
  refine fi_step (pc' := 5) m_Mo_bigHolds rfl rfl ?_
  refine r_ldI (p := 6) m_Mo_bigHolds rfl rfl (by assumption) (by decide) rfl (by decide) (by omega) (by omega) ?_
  refine fi_step (pc' := 7) m_Mo_bigHolds rfl rfl ?_
  refine r_get (p := 10) m_Mo_bigHolds rfl rfl (by assumption) rfl ?_
  refine fi_step (pc' := 11) m_Mo_bigHolds rfl rfl ?_
  refine r_ldI (p := 12) m_Mo_bigHolds rfl rfl (by assumption) (by decide) rfl (by decide) (by omega) (by omega) ?_
  refine fi_step (pc' := 13) m_Mo_bigHolds rfl rfl ?_
  refine s_iadd (p := 14) m_Mo_bigHolds rfl rfl ?_
  refine s_ic_eq (p := 17) m_Mo_bigHolds rfl rfl (by omega) (by omega) (by omega) (by omega) (fun h => ?_) (fun h => ?_)
  · have e : n = sh + n' := by omega
    subst e
    refine fi_step (pc' := 41) m_Mo_bigHolds rfl rfl ?_
    refine r_get (p := 44) m_Mo_bigHolds rfl rfl (by assumption) rfl ?_
    refine fi_step (pc' := 45) m_Mo_bigHolds rfl rfl ?_
    refine r_ldI (p := 46) m_Mo_bigHolds rfl rfl (by assumption) (by decide) rfl (by decide) (by omega) (by omega) ?_
    refine fi_step (pc' := 47) m_Mo_bigHolds rfl rfl ?_
    refine s_isub (p := 48) m_Mo_bigHolds rfl rfl ?_
    refine fi_step (pc' := 50) m_Mo_bigHolds rfl rfl ?_
    rw [show s 2 k - 1 = (sh : Int) + (n' : Int) - 1 by omega]
    exact bigHolds_loop hfr hlo hw k0 k1 u0 u1 hk hu n' (by omega) (fun j h1 h2 => by omega)
  · refine fi_step (pc' := 18) m_Mo_bigHolds rfl rfl ?_
    refine r_get (p := 21) m_Mo_bigHolds rfl rfl (by assumption) rfl ?_
    refine fi_step (pc' := 22) m_Mo_bigHolds rfl rfl ?_
    refine r_ldI (p := 23) m_Mo_bigHolds rfl rfl (by assumption) (by decide) rfl (by decide) (by omega) (by omega) ?_
    refine fi_step (pc' := 24) m_Mo_bigHolds rfl rfl ?_
    refine r_get (p := 27) m_Mo_bigHolds rfl rfl (by assumption) rfl ?_
    refine fi_step (pc' := 28) m_Mo_bigHolds rfl rfl ?_
    refine r_ldI (p := 29) m_Mo_bigHolds rfl rfl (by assumption) (by decide) rfl (by decide) (by omega) (by omega) ?_
    refine fi_step (pc' := 30) m_Mo_bigHolds rfl rfl ?_
    refine s_iadd (p := 31) m_Mo_bigHolds rfl rfl ?_
    refine s_ic_le (p := 34) m_Mo_bigHolds rfl rfl (by omega) (by omega) (by omega) (by omega) (fun g => ?_) (fun g => ?_)
    · obtain ⟨p, rfl⟩ : ∃ p, n' = p + 1 := ⟨n' - 1, by omega⟩
      have h1 := Mag_lt hk
      have h2 := Mag_ge hu
      have h3 := pow_mono (B := 16777216) (by decide) (show n ≤ p + sh by omega)
      have h4 : (16777216 : Int) ^ p * 16777216 ^ sh ≤ m' * 16777216 ^ sh := Int.mul_le_mul_of_nonneg_right h2 (Int.le_of_lt pp)
      rw [← Int.pow_add] at h4
      rw [if_neg (by omega)]
      refine fi_step (pc' := 39) m_Mo_bigHolds rfl rfl ?_
      exact s_retb m_Mo_bigHolds rfl rfl (by omega) (by first | exact Or.inl rfl | exact Or.inr rfl | omega)
    · obtain ⟨p, rfl⟩ : ∃ p, n = p + 1 := ⟨n - 1, by omega⟩
      have h1 := Mag_ge hk
      have h2 := Mag_lt hu
      have h3 := pow_mono (B := 16777216) (by decide) (show n' + sh ≤ p by omega)
      have h4 : m' * 16777216 ^ sh ≤ 16777216 ^ n' * 16777216 ^ sh := Int.mul_le_mul_of_nonneg_right (by omega) (Int.le_of_lt pp)
      rw [← Int.pow_add] at h4
      rw [if_pos (by omega)]
      refine fi_step (pc' := 35) m_Mo_bigHolds rfl rfl ?_
      refine fi_step (pc' := 39) m_Mo_bigHolds rfl rfl ?_
      exact s_retb m_Mo_bigHolds rfl rfl (by omega) (by first | exact Or.inl rfl | exact Or.inr rfl | omega)
theorem bigLose_loop {k u ti : Int} {n n' sh : Nat} {m m' : Int} {S : mo_S} (hfr : 1 ≤ fr) (hlo : 21 ≤ lo) (k0 : 0 ≤ k) (k1 : k < 277) (u0 : 0 ≤ u) (u1 : u < 277) (hku : k ≠ u) (hk : Mag S k n m) (hu : Mag S u n' m') (hn : sh + n' ≤ n) (t0 : 0 ≤ ti) (t1 : ti < 16777216) (hle : ti * m' * 16777216 ^ sh ≤ m) :
    ∀ (c j : Nat) (bo : Int) (y9 y10 y11 y12 : Option Value) (w : ax_W) (s : mo_S), RW w0 w s → sh + j + c = n → chP k S s → s 2 = S 2 → s 3 = S 3 → (∀ i : Nat, sh + j ≤ i → s 1 (140 * k + i) = S 1 (140 * k + i)) → digB 16777216 (s 1) (140 * k) (sh + j) → 0 ≤ bo → bo ≤ ti → dvB 16777216 (s 1) (140 * k) (sh + j) - bo * 16777216 ^ (sh + j) = dvB 16777216 (S 1) (140 * k) (sh + j) - ti * dvB 16777216 (pad S u) 0 j * 16777216 ^ sh →
    fin xs fr lo 156 7 [some (.ref 425), some (.int (jI k)), some (.int (jI u)), some (.long (jL ti)), none, some (.int (jI sh)), some (.long (jL bo)), none, some (.int (jI ((sh : Int) + (j : Int)))), y9, y10, y11, y12] [] w (Ret fun v w' => v = none ∧ ∃ s' n1, RW w0 w' s' ∧ chP k S s' ∧ s' 3 = S 3 ∧ Mag s' k n1 (m - ti * m' * 16777216 ^ sh)) := by
  have ⟨k2, k3, k4, k5, k6⟩ := hk
  have ⟨u2, u3, u4, u5, u6⟩ := hu
  intro c
  induction c with
  | zero =>
    intro j bo y9 y10 y11 y12 w s hw hj hc e2 e3 hs hd b0 b1 hinv
    have hjn : sh + j = n := by omega
    rw [dvB_pad u2 (by omega), ← u6, hjn, ← k6] at hinv
    rw [hjn] at hd
    have hlt := dvB_lt (B := 16777216) (by decide) hd
    have pn := powB_pos (B := 16777216) (by decide) n
    have hb0 : bo = 0 := by
      rcases Int.lt_or_le 0 bo with h' | h'
      · have : 1 * 16777216 ^ n ≤ bo * 16777216 ^ n := Int.mul_le_mul_of_nonneg_right (by omega) (Int.le_of_lt pn)
        omega
      · omega
    subst hb0
    have e4 : s 2 k = n := by rw [e2]; exact k2
    refine fi_step (pc' := 9) m_Mo_bigLose rfl rfl ?_
    refine fi_step (pc' := 10) m_Mo_bigLose rfl rfl ?_
    refine r_get (p := 13) m_Mo_bigLose rfl rfl (by assumption) rfl ?_
    refine fi_step (pc' := 14) m_Mo_bigLose rfl rfl ?_
    refine r_ldI (p := 15) m_Mo_bigLose rfl rfl (by assumption) (by decide) rfl (by decide) (by omega) (by omega) ?_
    refine s_ic_ge (p := 18) m_Mo_bigLose rfl rfl (by omega) (by omega) (by omega) (by omega) (fun hbr => ?_) (fun hbr => False.elim (by omega))
    refine fi_step (pc' := 116) m_Mo_bigLose rfl rfl ?_
    refine fi_step (pc' := 117) m_Mo_bigLose rfl rfl ?_
    refine g_2 (p := 120) m_Mo_bigLose rfl inv_v (by decide) m_Mo_bigTrim rfl rfl (by omega) (by omega) (Nat.le_of_ble_eq_true rfl) (Nat.le_of_ble_eq_true rfl) (RW_rcv hw _) (c_bigTrim k0 k1 n w _ hw e4 k3 hd) (fun v w hP => ?_)
    obtain ⟨rfl, n1, g1, g2⟩ := hP
    refine p_ret m_Mo_bigLose rfl rfl ?_
    refine ⟨rfl, _, n1, g1, chP_trans hc (chP_up2 k s _), by rw [up_ne _ (by decide)]; exact e3, ?_⟩
    rw [show m - ti * m' * 16777216 ^ sh = dvB 16777216 (s 1) (140 * k) n by omega]; exact g2
  | succ c ih =>
    intro j bo y9 y10 y11 y12 w s hw hj hc e2 e3 hs hd b0 b1 hinv
    have e4 : s 2 k = n := by rw [e2]; exact k2
    have e5 : s 2 u = S 2 u := by rw [e2]
    have eK := hs (sh + j) (by omega)
    rw [show 140 * k + ((sh + j : Nat) : Int) = 140 * k + ((sh : Int) + j) by omega] at eK
    have dK := k4 (sh + j) (by omega)
    rw [show 140 * k + ((sh + j : Nat) : Int) = 140 * k + ((sh : Int) + j) by omega, ← eK] at dK
    have dU := pad_dig u2 u4 (i := j) (by omega)
    have t2 : 0 ≤ ti * pad S u j := Int.mul_nonneg t0 dU.1
    have t3 : ti * pad S u j ≤ ti * 16777215 := Int.mul_le_mul_of_nonneg_left (by omega) t0
    have ex : (sh : Int) + (j : Int) - (sh : Int) = j := by omega
    have mid : ∀ T : Int, T = ti * pad S u j → fin xs fr lo 156 72 [some (.ref 425), some (.int (jI k)), some (.int (jI u)), some (.long (jL ti)), none, some (.int (jI sh)), some (.long (jL bo)), none, some (.int (jI ((sh : Int) + (j : Int)))), y9, y10, y11, y12] [.long (jL T), .long (jL (s 1 (140 * k + ((sh : Int) + j)) - bo))] w (Ret fun v w' => v = none ∧ ∃ s' n1, RW w0 w' s' ∧ chP k S s' ∧ s' 3 = S 3 ∧ Mag s' k n1 (m - ti * m' * 16777216 ^ sh)) := by
      intro T hT
      have T0 : 0 ≤ T := by omega
      have T1 : T ≤ ti * 16777215 := by omega
      refine s_lsub (p := 73) m_Mo_bigLose rfl rfl ?_
      generalize hv : s 1 (140 * k + ((sh : Int) + j)) - bo - T = v
      refine fi_step (pc' := 75) m_Mo_bigLose rfl rfl ?_
      refine fi_step (pc' := 77) m_Mo_bigLose rfl rfl ?_
      refine s_ldc2 (p := 80) 16777215 m_Mo_bigLose rfl rfl rfl ?_
      refine b_land (p := 81) m_Mo_bigLose rfl rfl  ?_
      refine fi_step (pc' := 83) m_Mo_bigLose rfl rfl ?_
      refine fi_step (pc' := 85) m_Mo_bigLose rfl rfl ?_
      refine fi_step (pc' := 87) m_Mo_bigLose rfl rfl ?_
      refine s_lsub (p := 88) m_Mo_bigLose rfl rfl ?_
      refine s_bipush (p := 90) m_Mo_bigLose rfl rfl rfl ?_
      refine b_lshr (p := 91) m_Mo_bigLose rfl rfl (by omega) (by omega) ?_
      refine fi_step (pc' := 93) m_Mo_bigLose rfl rfl ?_
      refine fi_step (pc' := 94) m_Mo_bigLose rfl rfl ?_
      refine r_get (p := 97) m_Mo_bigLose rfl rfl (by assumption) rfl ?_
      refine s_sipush (p := 100) m_Mo_bigLose rfl rfl rfl ?_
      refine fi_step (pc' := 101) m_Mo_bigLose rfl rfl ?_
      refine s_imul (p := 102) m_Mo_bigLose rfl rfl ?_
      refine fi_step (pc' := 104) m_Mo_bigLose rfl rfl ?_
      refine s_iadd (p := 105) m_Mo_bigLose rfl rfl ?_
      refine fi_step (pc' := 107) m_Mo_bigLose rfl rfl ?_
      refine s_l2i (p := 108) m_Mo_bigLose rfl rfl ?_
      refine r_stI (p := 109) m_Mo_bigLose rfl rfl (by assumption) (by decide) (fun _ => rfl) (by decide) (by omega) (by omega) (fun w hw => ?_)
      refine s_iinc (p := 112) m_Mo_bigLose rfl rfl rfl ?_
      refine fi_step (pc' := 7) m_Mo_bigLose rfl rfl ?_
      have ve := Int.emod_add_mul_ediv v 16777216
      have v0 := Int.emod_nonneg v (show (16777216 : Int) ≠ 0 by decide)
      have v1 := Int.emod_lt_of_pos v (show (0 : Int) < 16777216 by decide)
      have hb : (v % 16777216 - v) / 16777216 = -(v / 16777216) := by omega
      rw [hb]
      have := ih (j + 1) (-(v / 16777216)) (some (.long (jL v))) none (some (.long (jL (v % 16777216)))) none w _ hw (by omega) (chP_trans hc (chP_up1 s _ (by omega) (by omega))) (by rw [up_ne s (by decide)]; exact e2) (by rw [up_ne s (by decide)]; exact e3) ?_ ?_ (by omega) (by omega) ?_
      · rw [show (sh : Int) + ((j + 1 : Nat) : Int) = (sh : Int) + (j : Int) + 1 by omega] at this
        exact this
      · intro i hi; rw [up_same, up1_ne _ (by omega)]; exact hs i (by omega)
      · rw [up_same]; exact digB_up (fun i hi hne => hd i (by omega)) v0 v1
      · rw [up_same, ← Nat.add_assoc, dvB_succ, dvB_succ, dvB_succ, show 140 * k + ((sh : Int) + (j : Int)) = 140 * k + ((sh + j : Nat) : Int) by omega, up1_same, dvB_up_out (by omega), Int.zero_add]
        rw [show 140 * k + ((sh : Int) + (j : Int)) = 140 * k + ((sh + j : Nat) : Int) by omega] at hv eK
        rw [eK] at hv
        have e6 : v % 16777216 = S 1 (140 * k + ((sh + j : Nat) : Int)) - bo - ti * pad S u j - 16777216 * (v / 16777216) := by omega
        rw [e6]
        grind
    refine fi_step (pc' := 9) m_Mo_bigLose rfl rfl ?_
    refine fi_step (pc' := 10) m_Mo_bigLose rfl rfl ?_
    refine r_get (p := 13) m_Mo_bigLose rfl rfl (by assumption) rfl ?_
    refine fi_step (pc' := 14) m_Mo_bigLose rfl rfl ?_
    refine r_ldI (p := 15) m_Mo_bigLose rfl rfl (by assumption) (by decide) rfl (by decide) (by omega) (by omega) ?_
    refine s_ic_ge (p := 18) m_Mo_bigLose rfl rfl (by omega) (by omega) (by omega) (by omega) (fun hbr => False.elim (by omega)) (fun hbr => ?_)
    refine fi_step (pc' := 19) m_Mo_bigLose rfl rfl ?_
    refine r_get (p := 22) m_Mo_bigLose rfl rfl (by assumption) rfl ?_
    refine s_sipush (p := 25) m_Mo_bigLose rfl rfl rfl ?_
    refine fi_step (pc' := 26) m_Mo_bigLose rfl rfl ?_
    refine s_imul (p := 27) m_Mo_bigLose rfl rfl ?_
    refine fi_step (pc' := 29) m_Mo_bigLose rfl rfl ?_
    refine s_iadd (p := 30) m_Mo_bigLose rfl rfl ?_
    refine r_ldI (p := 31) m_Mo_bigLose rfl rfl (by assumption) (by decide) rfl (by decide) (by omega) (by omega) ?_
    refine s_i2l (p := 32) m_Mo_bigLose rfl rfl (by omega) (by omega) ?_
    refine fi_step (pc' := 34) m_Mo_bigLose rfl rfl ?_
    refine s_lsub (p := 35) m_Mo_bigLose rfl rfl ?_
    refine fi_step (pc' := 37) m_Mo_bigLose rfl rfl ?_
    refine fi_step (pc' := 39) m_Mo_bigLose rfl rfl ?_
    refine s_isub (p := 40) m_Mo_bigLose rfl rfl ?_
    refine fi_step (pc' := 41) m_Mo_bigLose rfl rfl ?_
    refine r_get (p := 44) m_Mo_bigLose rfl rfl (by assumption) rfl ?_
    refine fi_step (pc' := 45) m_Mo_bigLose rfl rfl ?_
    refine r_ldI (p := 46) m_Mo_bigLose rfl rfl (by assumption) (by decide) rfl (by decide) (by omega) (by omega) ?_
    refine s_ic_ge (p := 49) m_Mo_bigLose rfl rfl (by omega) (by omega) (by omega) (by omega) (fun h => ?_) (fun h => ?_)
    · have : pad S u j = 0 := by rw [pad, if_neg (by omega)]
      refine s_lconst (p := 72) (v := 0) m_Mo_bigLose rfl rfl rfl ?_
      exact mid 0 (by rw [this]; simp)
    · have e7 : pad S u j = s 1 (140 * u + ((sh : Int) + j) - sh) := by
        rw [pad, if_pos (by omega), hc.1 _ (by omega), show 140 * u + ((sh : Int) + j) - sh = 140 * u + j by omega]
      rw [e7] at dU t2 t3
      refine fi_step (pc' := 50) m_Mo_bigLose rfl rfl ?_
      refine fi_step (pc' := 51) m_Mo_bigLose rfl rfl ?_
      refine r_get (p := 54) m_Mo_bigLose rfl rfl (by assumption) rfl ?_
      refine s_sipush (p := 57) m_Mo_bigLose rfl rfl rfl ?_
      refine fi_step (pc' := 58) m_Mo_bigLose rfl rfl ?_
      refine s_imul (p := 59) m_Mo_bigLose rfl rfl ?_
      refine fi_step (pc' := 61) m_Mo_bigLose rfl rfl ?_
      refine s_iadd (p := 62) m_Mo_bigLose rfl rfl ?_
      refine fi_step (pc' := 64) m_Mo_bigLose rfl rfl ?_
      refine s_isub (p := 65) m_Mo_bigLose rfl rfl ?_
      refine r_ldI (p := 66) m_Mo_bigLose rfl rfl (by assumption) (by decide) rfl (by decide) (by omega) (by omega) ?_
      refine s_i2l (p := 67) m_Mo_bigLose rfl rfl (by omega) (by omega) ?_
      refine s_lmul (p := 68) m_Mo_bigLose rfl rfl ?_
      refine fi_step (pc' := 72) m_Mo_bigLose rfl rfl ?_
      exact mid _ (by rw [e7])
theorem c_bigLose {k u ti : Int} {n n' sh : Nat} {m m' : Int} {w : ax_W} {s : mo_S} (hfr : 1 ≤ fr) (hlo : 21 ≤ lo) (hw : RW w0 w s) (k0 : 0 ≤ k) (k1 : k < 277) (u0 : 0 ≤ u) (u1 : u < 277) (hku : k ≠ u) (hk : Mag s k n m) (hu : Mag s u n' m') (hn : sh + n' ≤ n) (t0 : 0 ≤ ti) (t1 : ti < 16777216) (hle : ti * m' * 16777216 ^ sh ≤ m) :
    fin xs fr lo 156 0 (ax_ent [.ref 425, .int (jI k), .int (jI u), .long (jL ti), .int (jI sh)] 13) [] w (Ret fun v w' => v = none ∧ ∃ s' n1, RW w0 w' s' ∧ chP k s s' ∧ s' 3 = s 3 ∧ Mag s' k n1 (m - ti * m' * 16777216 ^ sh)) := by
  have ⟨k2, k3, k4, k5, k6⟩ := hk
  refine s_lconst (p := 1) (v := 0) m_Mo_bigLose rfl rfl rfl ?_
  refine fi_step (pc' := 3) m_Mo_bigLose rfl rfl ?_
  refine fi_step (pc' := 5) m_Mo_bigLose rfl rfl ?_
  refine fi_step (pc' := 7) m_Mo_bigLose rfl rfl ?_
  have := bigLose_loop (xs := xs) (w0 := w0) hfr hlo k0 k1 u0 u1 hku hk hu hn t0 t1 hle (n - sh) 0 0 none none none none w s hw (by omega) (chP_refl k s) rfl rfl (fun i hi => rfl) (fun i hi => k4 i (by omega)) (by decide) t0 (by rw [dvB_zero]; simp)
  rw [show (sh : Int) + ((0 : Nat) : Int) = sh by omega] at this
  exact this
end BIG5
end
section
/-! division of the reference's numbers: the whole of it -/
/-- everything but numbers k and q is as r says, number b has the size u, number k the size mk -/
def dvI (S s : mo_S) (r : Int → Int) (k b q : Int) (nb : Nat) (u mk : Int) : Prop := oth S s ∧ (∀ j, 0 ≤ j → j < 277 → j ≠ k → j ≠ q → isN s j (r j)) ∧ Mag s b nb u ∧ (∃ n, Mag s k n mk) ∧ s 3 k = 0 ∧ s 3 q = 0
theorem dvI_ch {S s s' : mo_S} {r : Int → Int} {k b q : Int} {nb n : Nat} {u mk mk' : Int} (h : dvI S s r k b q nb u mk) (hc : chP k s s') (h3 : s' 3 = s 3) (hbk : b ≠ k) (hm : Mag s' k n mk') : dvI S s' r k b q nb u mk' :=
  ⟨oth_trans h.1 (chP_oth hc), fun j j0 j1 jk jq => isN_ch (h.2.1 j j0 j1 jk jq) hc jk, Mag_ch h.2.2.1 hc hbk, ⟨n, hm⟩, by rw [h3]; exact h.2.2.2.2.1, by rw [h3]; exact h.2.2.2.2.2⟩
theorem div_guess {s : mo_S} {k b : Int} {n nb sh : Nat} {u mk top hi : Int} (hk : Mag s k n mk) (hb : Mag s b (nb + 1) u) (htop : top = s 1 (140 * b + nb) + 1) (hhi : hi = pad s k ((sh + nb + 1 : Nat) : Int) * 16777216 + pad s k ((sh + nb : Nat) : Int)) (h1 : mk < u * 16777216 ^ sh * 16777216) :
    1 ≤ top ∧ top ≤ 16777216 ∧ 0 ≤ hi ∧ hi < 281474976710656 ∧ hi / top * u * 16777216 ^ sh ≤ mk ∧ hi / top < 16777216 := by
  have ⟨k2, k3, k4, k5, k6⟩ := hk
  have ⟨b2, b3, b4, b5, b6⟩ := hb
  have d0 := b4 nb (by omega)
  have p1 := pad_dig k2 k4 (i := ((sh + nb + 1 : Nat) : Int)) (by omega)
  have p2 := pad_dig k2 k4 (i := ((sh + nb : Nat) : Int)) (by omega)
  have P := powB_pos (B := 16777216) (by decide) sh
  have Pn := powB_pos (B := 16777216) (by decide) nb
  have hn : n ≤ sh + nb + 2 := by
    rcases Nat.lt_or_ge (sh + nb + 2) n with h' | h'
    · obtain ⟨p, rfl⟩ : ∃ p, n = p + 1 := ⟨n - 1, by omega⟩
      have g1 := Mag_ge hk
      have g2 := Mag_lt hb
      have g3 := pow_mono (B := 16777216) (by decide) (show nb + 1 + sh + 1 ≤ p by omega)
      have g4 : u * 16777216 ^ sh * 16777216 ≤ 16777216 ^ (nb + 1) * 16777216 ^ sh * 16777216 := Int.mul_le_mul_of_nonneg_right (Int.mul_le_mul_of_nonneg_right (by omega) (Int.le_of_lt P)) (by decide)
      rw [← Int.pow_add, ← Int.pow_succ] at g4
      omega
    · exact h'
  have e1 : mk = dvB 16777216 (pad s k) 0 (sh + nb) + 16777216 ^ (sh + nb) * hi := by
    rw [k6, ← dvB_pad k2 hn, dvB_split _ _ _ (sh + nb) 2, dvB_succ, dvB_succ, dvB_zero, hhi]
    simp only [Int.zero_add, Int.pow_zero, Int.pow_one, Int.mul_one]
    rw [show ((sh + nb : Nat) : Int) + ((0 : Nat) : Int) = ((sh + nb : Nat) : Int) by omega, show ((sh + nb : Nat) : Int) + ((0 + 1 : Nat) : Int) = ((sh + nb + 1 : Nat) : Int) by omega]
    grind
  have e2 : 0 ≤ dvB 16777216 (pad s k) 0 (sh + nb) := dvB_nonneg (by decide) (fun i hi => (pad_dig k2 k4 (by omega)).1)
  have e3 : u ≤ top * 16777216 ^ nb := by
    have := dvB_lt (B := 16777216) (by decide) (digB_mono b4 (Nat.le_succ nb))
    rw [b6, dvB_succ, htop, Int.add_mul, Int.one_mul]; omega
  have t1 : 1 ≤ top ∧ top ≤ 16777216 := by omega
  have h0 : 0 ≤ hi := by omega
  have q0 : 0 ≤ hi / top := Int.ediv_nonneg h0 (by omega)
  have q1 : hi / top * top ≤ hi := Int.ediv_mul_le hi (by omega)
  have f1 : hi / top * u * 16777216 ^ sh ≤ hi / top * (top * 16777216 ^ nb) * 16777216 ^ sh := Int.mul_le_mul_of_nonneg_right (Int.mul_le_mul_of_nonneg_left e3 q0) (Int.le_of_lt P)
  have f2 : hi / top * (top * 16777216 ^ nb) * 16777216 ^ sh = hi / top * top * 16777216 ^ (sh + nb) := by rw [Int.pow_add]; grind
  have f3 : hi / top * top * 16777216 ^ (sh + nb) ≤ hi * 16777216 ^ (sh + nb) := Int.mul_le_mul_of_nonneg_right q1 (Int.le_of_lt (powB_pos (by decide) _))
  have f4 : hi / top * u * 16777216 ^ sh ≤ mk := by rw [e1, Int.mul_comm (16777216 ^ (sh + nb)) hi]; omega
  refine ⟨t1.1, t1.2, h0, by omega, f4, ?_⟩
  rcases Int.lt_or_le (hi / top) 16777216 with h' | h'
  · exact h'
  · have uP : 0 ≤ u * 16777216 ^ sh := Int.mul_nonneg (Mag_nn hb) (Int.le_of_lt P)
    have : 16777216 * (u * 16777216 ^ sh) ≤ hi / top * (u * 16777216 ^ sh) := Int.mul_le_mul_of_nonneg_right h' uP
    rw [← Int.mul_assoc, ← Int.mul_assoc] at this
    have e : 16777216 * u * 16777216 ^ sh = u * 16777216 ^ sh * 16777216 := by grind
    omega
section BIG6
variable {xs : List Int32} {fr lo : Nat} {w0 : ax_W} {Q : Outcome → ax_W → Prop}
theorem bigDivide_in {k b q mm top : Int} {nb sh : Nat} {u W : Int} {S T : mo_S} {r : Int → Int} (hfr : 2 ≤ fr) (hlo : 60 ≤ lo) (k0 : 0 ≤ k) (k1 : k < 277) (b0 : 0 ≤ b) (b1 : b < 277) (hbk : b ≠ k) (hsh : sh + nb + 1 ≤ 140) (hT : chP k T T) (htop : top = T 1 (140 * b + nb) + 1) (hW : W < u * 16777216 ^ sh * 16777216) (hu : 0 < u)
    (K : ∀ (w' : ax_W) (s' : mo_S) (al mk' : Int) (y10 y12 : Option Value), RW w0 w' s' → dvI S s' r k b q (nb + 1) u mk' → chP k T s' → 0 ≤ al → al < 16777216 → mk' + al * (u * 16777216 ^ sh) = W → mk' < u * 16777216 ^ sh →
      fin xs fr lo 154 170 [some (.ref 425), some (.int (jI k)), some (.int (jI b)), some (.int (jI q)), some (.int (jI mm)), some (.long (jL top)), none, some (.int (jI sh)), some (.long (jL al)), none, y10, none, y12, none] [] w' Q) :
    ∀ (g : Nat) (al mk : Int) (y10 y12 : Option Value) (w : ax_W) (s : mo_S), RW w0 w s → dvI S s r k b q (nb + 1) u mk → chP k T s → mk ≤ g → 0 ≤ al → mk + al * (u * 16777216 ^ sh) = W →
      fin xs fr lo 154 78 [some (.ref 425), some (.int (jI k)), some (.int (jI b)), some (.int (jI q)), some (.int (jI mm)), some (.long (jL top)), none, some (.int (jI sh)), some (.long (jL al)), none, y10, none, y12, none] [] w Q := by
  have P := powB_pos (B := 16777216) (by decide) sh
  have uP : 0 < u * 16777216 ^ sh := Int.mul_pos hu P
  intro g
  induction g with
  | zero =>
    intro al mk y10 y12 w s hw hI hc hg a0 hinv
    obtain ⟨n, hk⟩ := hI.2.2.2.1
    have hm := Mag_nn hk
    have ab : al < 16777216 := by
      rcases Int.lt_or_le al 16777216 with h' | h'
      · exact h'
      · have : 16777216 * (u * 16777216 ^ sh) ≤ al * (u * 16777216 ^ sh) := Int.mul_le_mul_of_nonneg_right h' (Int.le_of_lt uP)
        have e : 16777216 * (u * 16777216 ^ sh) = u * 16777216 ^ sh * 16777216 := by grind
        omega
    refine fi_step (pc' := 79) m_Mo_bigDivide rfl rfl ?_
    refine fi_step (pc' := 80) m_Mo_bigDivide rfl rfl ?_
    refine fi_step (pc' := 81) m_Mo_bigDivide rfl rfl ?_
    refine fi_step (pc' := 83) m_Mo_bigDivide rfl rfl ?_
    refine c_4 (p := 86) m_Mo_bigDivide rfl inv_v (by decide) m_Mo_bigHolds rfl rfl (by omega) (by omega) (Nat.le_of_ble_eq_true rfl) (Nat.le_of_ble_eq_true rfl) (RW_rcv hw _) (c_bigHolds (by omega) (by omega) hw k0 k1 b0 b1 hk hI.2.2.1 (by omega) (by omega)) ?_
    rw [if_neg (by omega)]
    refine s_if_eq (p := 89) m_Mo_bigDivide rfl rfl (by omega) (by omega) (fun hbr => ?_) (fun hbr => False.elim (by omega))
    exact K w s al mk _ _ hw hI hc a0 ab hinv (by omega)
  | succ g ih =>
    intro al mk y10 y12 w s hw hI hc hg a0 hinv
    obtain ⟨n, hk⟩ := hI.2.2.2.1
    have hb := hI.2.2.1
    have ⟨k2, k3, k4, k5, k6⟩ := hk
    have ⟨b2, b3, b4, b5, b6⟩ := hb
    have hm := Mag_nn hk
    have aP : 0 ≤ al * (u * 16777216 ^ sh) := Int.mul_nonneg a0 (Int.le_of_lt uP)
    have ab : al < 16777216 := by
      rcases Int.lt_or_le al 16777216 with h' | h'
      · exact h'
      · have : 16777216 * (u * 16777216 ^ sh) ≤ al * (u * 16777216 ^ sh) := Int.mul_le_mul_of_nonneg_right h' (Int.le_of_lt uP)
        have e : 16777216 * (u * 16777216 ^ sh) = u * 16777216 ^ sh * 16777216 := by grind
        omega
    refine fi_step (pc' := 79) m_Mo_bigDivide rfl rfl ?_
    refine fi_step (pc' := 80) m_Mo_bigDivide rfl rfl ?_
    refine fi_step (pc' := 81) m_Mo_bigDivide rfl rfl ?_
    refine fi_step (pc' := 83) m_Mo_bigDivide rfl rfl ?_
    refine c_4 (p := 86) m_Mo_bigDivide rfl inv_v (by decide) m_Mo_bigHolds rfl rfl (by omega) (by omega) (Nat.le_of_ble_eq_true rfl) (Nat.le_of_ble_eq_true rfl) (RW_rcv hw _) (c_bigHolds (by omega) (by omega) hw k0 k1 b0 b1 hk hI.2.2.1 (by omega) (by omega)) ?_
    by_cases hh : u * 16777216 ^ sh ≤ mk
    · rw [if_pos hh]
      have htop' : top = s 1 (140 * b + nb) + 1 := by rw [htop, hc.1 _ (by omega)]
      obtain ⟨t0, t1, h0, h1, h2, h3⟩ := div_guess (sh := sh) hk hb htop' rfl (by omega)
      have hnn : sh + (nb + 1) ≤ n := by
        have g1 := Mag_lt hk
        have g2 := Mag_ge hb
        have g3 : (16777216 : Int) ^ nb * 16777216 ^ sh ≤ u * 16777216 ^ sh := Int.mul_le_mul_of_nonneg_right g2 (Int.le_of_lt P)
        rw [← Int.pow_add] at g3
        have := pow_inj_lt (B := 16777216) (by decide) (show (16777216 : Int) ^ (nb + sh) < 16777216 ^ n by omega)
        omega
      have mid : ∀ (qq : Int) (y10 y12 : Option Value), 1 ≤ qq → qq < 16777216 → qq * u * 16777216 ^ sh ≤ mk → fin xs fr lo 154 148 [some (.ref 425), some (.int (jI k)), some (.int (jI b)), some (.int (jI q)), some (.int (jI mm)), some (.long (jL top)), none, some (.int (jI sh)), some (.long (jL al)), none, y10, none, y12, none] [.long (jL qq)] w Q := by
        intro qq y10 y12 q0 q1 q2
        refine fi_step (pc' := 150) m_Mo_bigDivide rfl rfl ?_
        refine fi_step (pc' := 151) m_Mo_bigDivide rfl rfl ?_
        refine fi_step (pc' := 152) m_Mo_bigDivide rfl rfl ?_
        refine fi_step (pc' := 153) m_Mo_bigDivide rfl rfl ?_
        refine fi_step (pc' := 155) m_Mo_bigDivide rfl rfl ?_
        refine fi_step (pc' := 157) m_Mo_bigDivide rfl rfl ?_
        refine g_5 (p := 160) m_Mo_bigDivide rfl inv_v (by decide) m_Mo_bigLose rfl rfl (by omega) (by omega) (Nat.le_of_ble_eq_true rfl) (Nat.le_of_ble_eq_true rfl) (RW_rcv hw _) (c_bigLose (by omega) (by omega) hw k0 k1 b0 b1 (fun e => hbk e.symm) hk hb hnn (by omega) q1 q2) (fun v w hP => ?_)
        obtain ⟨rfl, s', n1, g1, g2, g3, g4⟩ := hP
        refine fi_step (pc' := 162) m_Mo_bigDivide rfl rfl ?_
        refine fi_step (pc' := 164) m_Mo_bigDivide rfl rfl ?_
        refine s_ladd (p := 165) m_Mo_bigDivide rfl rfl ?_
        refine fi_step (pc' := 167) m_Mo_bigDivide rfl rfl ?_
        refine fi_step (pc' := 78) m_Mo_bigDivide rfl rfl ?_
        have e3 : qq * u * 16777216 ^ sh = qq * (u * 16777216 ^ sh) := Int.mul_assoc _ _ _
        have e4 : 1 * (u * 16777216 ^ sh) ≤ qq * (u * 16777216 ^ sh) := Int.mul_le_mul_of_nonneg_right q0 (Int.le_of_lt uP)
        refine ih (al + qq) _ _ _ w s' g1 (dvI_ch hI g2 g3 hbk g4) (chP_trans hc g2) (by omega) (by omega) ?_
        rw [Int.add_mul]; omega
      have ea : (if (sh : Int) + s 2 b < s 2 k then s 1 (140 * k + ((sh : Int) + s 2 b)) else 0) = pad s k ((sh + nb + 1 : Nat) : Int) := by
        rw [pad, show (sh : Int) + s 2 b = ((sh + nb + 1 : Nat) : Int) by omega]
      have eb : (if (sh : Int) + s 2 b - 1 < s 2 k then s 1 (140 * k + ((sh : Int) + s 2 b - 1)) else 0) = pad s k ((sh + nb : Nat) : Int) := by
        rw [pad, show (sh : Int) + s 2 b - 1 = ((sh + nb : Nat) : Int) by omega]
      have p1 := pad_dig k2 k4 (i := ((sh + nb + 1 : Nat) : Int)) (by omega)
      have p2 := pad_dig k2 k4 (i := ((sh + nb : Nat) : Int)) (by omega)
      refine s_if_eq (p := 89) m_Mo_bigDivide rfl rfl (by omega) (by omega) (fun hbr => False.elim (by omega)) (fun hbr => ?_)
      refine fi_step (pc' := 90) m_Mo_bigDivide rfl rfl ?_
      refine fi_step (pc' := 91) m_Mo_bigDivide rfl rfl ?_
      refine fi_step (pc' := 93) m_Mo_bigDivide rfl rfl ?_
      refine fi_step (pc' := 94) m_Mo_bigDivide rfl rfl ?_
      refine r_get (p := 97) m_Mo_bigDivide rfl rfl (by assumption) rfl ?_
      refine fi_step (pc' := 98) m_Mo_bigDivide rfl rfl ?_
      refine r_ldI (p := 99) m_Mo_bigDivide rfl rfl (by assumption) (by decide) rfl (by decide) (by omega) (by omega) ?_
      refine s_iadd (p := 100) m_Mo_bigDivide rfl rfl ?_
      refine c_3 (p := 103) m_Mo_bigDivide rfl inv_v (by decide) m_Mo_bigAt rfl rfl (by omega) (by omega) (Nat.le_of_ble_eq_true rfl) (Nat.le_of_ble_eq_true rfl) (RW_rcv hw _) (c_bigAt hw k0 k1 (by omega) (by omega) (by omega) (by omega)) ?_
      rw [ea]
      refine s_i2l (p := 104) m_Mo_bigDivide rfl rfl (by omega) (by omega) ?_
      refine s_ldc2 (p := 107) 16777216 m_Mo_bigDivide rfl rfl rfl ?_
      refine s_lmul (p := 108) m_Mo_bigDivide rfl rfl ?_
      refine fi_step (pc' := 109) m_Mo_bigDivide rfl rfl ?_
      refine fi_step (pc' := 110) m_Mo_bigDivide rfl rfl ?_
      refine fi_step (pc' := 112) m_Mo_bigDivide rfl rfl ?_
      refine fi_step (pc' := 113) m_Mo_bigDivide rfl rfl ?_
      refine r_get (p := 116) m_Mo_bigDivide rfl rfl (by assumption) rfl ?_
      refine fi_step (pc' := 117) m_Mo_bigDivide rfl rfl ?_
      refine r_ldI (p := 118) m_Mo_bigDivide rfl rfl (by assumption) (by decide) rfl (by decide) (by omega) (by omega) ?_
      refine s_iadd (p := 119) m_Mo_bigDivide rfl rfl ?_
      refine fi_step (pc' := 120) m_Mo_bigDivide rfl rfl ?_
      refine s_isub (p := 121) m_Mo_bigDivide rfl rfl ?_
      refine c_3 (p := 124) m_Mo_bigDivide rfl inv_v (by decide) m_Mo_bigAt rfl rfl (by omega) (by omega) (Nat.le_of_ble_eq_true rfl) (Nat.le_of_ble_eq_true rfl) (RW_rcv hw _) (c_bigAt hw k0 k1 (by omega) (by omega) (by omega) (by omega)) ?_
      rw [eb]
      refine s_i2l (p := 125) m_Mo_bigDivide rfl rfl (by omega) (by omega) ?_
      refine s_ladd (p := 126) m_Mo_bigDivide rfl rfl ?_
      refine fi_step (pc' := 128) m_Mo_bigDivide rfl rfl ?_
      refine fi_step (pc' := 130) m_Mo_bigDivide rfl rfl ?_
      refine fi_step (pc' := 132) m_Mo_bigDivide rfl rfl ?_
      refine s_ldiv (p := 133) m_Mo_bigDivide rfl rfl (by omega) (by omega) (by omega) (by omega) ?_
      refine fi_step (pc' := 135) m_Mo_bigDivide rfl rfl ?_
      generalize pad s k ((sh + nb + 1 : Nat) : Int) * 16777216 + pad s k ((sh + nb : Nat) : Int) = hi at h0 h1 h2 h3 ⊢
      have q0 : 0 ≤ hi / top := Int.ediv_nonneg h0 (by omega)
      refine fi_step (pc' := 137) m_Mo_bigDivide rfl rfl ?_
      refine s_lconst (p := 138) (v := 1) m_Mo_bigDivide rfl rfl rfl ?_
      refine s_lc_ge (q := 139) (p := 142) m_Mo_bigDivide rfl rfl rfl rfl (by omega) (by omega) (by omega) (by omega) (fun hq => ?_) (fun hq => ?_)
      · refine fi_step (pc' := 148) m_Mo_bigDivide rfl rfl ?_
        exact mid _ _ _ hq h3 h2
      · refine s_lconst (p := 143) (v := 1) m_Mo_bigDivide rfl rfl rfl ?_
        refine fi_step (pc' := 148) m_Mo_bigDivide rfl rfl ?_
        exact mid 1 _ _ (by decide) (by decide) (by rw [Int.one_mul]; exact hh)
    · rw [if_neg hh]
      refine s_if_eq (p := 89) m_Mo_bigDivide rfl rfl (by omega) (by omega) (fun hbr => ?_) (fun hbr => False.elim (by omega))
      exact K w s al mk _ _ hw hI hc a0 ab hinv (by omega)
end BIG6
end
section
/-! division of the reference's numbers: the outer loop, the contract -/
theorem dvI_chq {S s s' : mo_S} {r : Int → Int} {k b q : Int} {nb : Nat} {u mk : Int} (h : dvI S s r k b q nb u mk) (hc : chP q s s') (h3 : s' 3 = s 3) (hbq : b ≠ q) (hkq : k ≠ q) : dvI S s' r k b q nb u mk := by
  obtain ⟨h1, h2, h4, ⟨n, h5⟩, h6, h7⟩ := h
  exact ⟨oth_trans h1 (chP_oth hc), fun j j0 j1 jk jq => isN_ch (h2 j j0 j1 jk jq) hc jq, Mag_ch h4 hc hbq, ⟨n, Mag_ch h5 hc hkq⟩, by rw [h3]; exact h6, by rw [h3]; exact h7⟩
theorem ediv_unique' {W u q m : Int} (hu : 0 < u) (h : q * u + m = W) (m0 : 0 ≤ m) (m1 : m < u) : W / u = q ∧ W % u = m := by
  have := (Int.ediv_emod_unique (a := W) (b := u) (r := m) (q := q) hu).mpr ⟨by rw [Int.mul_comm]; omega, m0, m1⟩
  exact this
section BIG7
variable {xs : List Int32} {fr lo : Nat} {w0 : ax_W}
theorem bigDivide_out {k b q mm top : Int} {nb mN : Nat} {u W : Int} {S : mo_S} {r : Int → Int} (hfr : 2 ≤ fr) (hlo : 60 ≤ lo) (k0 : 0 ≤ k) (k1 : k < 277) (b0 : 0 ≤ b) (b1 : b < 277) (q0 : 0 ≤ q) (q1 : q < 277) (hbk : b ≠ k) (hbq : b ≠ q) (hkq : k ≠ q) (hmn : mN + nb ≤ 140) (hu : 0 < u) :
    ∀ (t : Nat) (mk : Int) (y8 y10 y12 : Option Value) (w : ax_W) (s : mo_S), RW w0 w s → dvI S s r k b q (nb + 1) u mk → t ≤ mN → s 2 q = mN → (∀ i : Nat, t ≤ i → i < mN → 0 ≤ s 1 (140 * q + i) ∧ s 1 (140 * q + i) < 16777216) → top = s 1 (140 * b + nb) + 1 → mk < u * 16777216 ^ t → dvB 16777216 (s 1) (140 * q + t) (mN - t) * (u * 16777216 ^ t) + mk = W →
      fin xs fr lo 154 70 [some (.ref 425), some (.int (jI k)), some (.int (jI b)), some (.int (jI q)), some (.int (jI mm)), some (.long (jL top)), none, some (.int (jI ((t : Int) - 1))), y8, none, y10, none, y12, none] [] w (Ret fun v w' => v = none ∧ ∃ s', RW w0 w' s' ∧ oth S s' ∧ Bg s' (up1 (up1 r q (W / u)) k (W % u))) := by
  intro t
  induction t with
  | zero =>
    intro mk y8 y10 y12 w s hw hI ht h2 hd htop hlt hinv
    simp only [Nat.sub_zero, Int.pow_zero, Int.mul_one, show ((0 : Nat) : Int) = 0 from rfl, Int.add_zero] at hinv hlt
    obtain ⟨n, hk⟩ := hI.2.2.2.1
    obtain ⟨e1, e2⟩ := ediv_unique' hu hinv (Mag_nn hk) hlt
    have hdq : digB 16777216 (s 1) (140 * q) mN := fun i hi => hd i (by omega) hi
    have hq0 : 0 ≤ dvB 16777216 (s 1) (140 * q) mN := dvB_nonneg (by decide) (fun i hi => (hdq i hi).1)
    refine fi_step (pc' := 72) m_Mo_bigDivide rfl rfl ?_
    refine s_if_lt (p := 75) m_Mo_bigDivide rfl rfl (by omega) (by omega) (fun hbr => ?_) (fun hbr => False.elim (by omega))
    refine fi_step (pc' := 193) m_Mo_bigDivide rfl rfl ?_
    refine fi_step (pc' := 194) m_Mo_bigDivide rfl rfl ?_
    refine g_2 (p := 197) m_Mo_bigDivide rfl inv_v (by decide) m_Mo_bigTrim rfl rfl (by omega) (by omega) (Nat.le_of_ble_eq_true rfl) (Nat.le_of_ble_eq_true rfl) (RW_rcv hw _) (c_bigTrim q0 q1 mN w s hw h2 (by omega) hdq) (fun v w hP => ?_)
    obtain ⟨rfl, n', g1, g2⟩ := hP
    refine p_ret m_Mo_bigDivide rfl rfl ?_
    have gc := chP_up2 q s (n' : Int)
    have g3 : up s 2 q (n' : Int) 3 = s 3 := up_ne _ (by decide) _ _
    refine ⟨rfl, _, g1, oth_trans hI.1 (chP_oth gc), ?_⟩
    intro j j0 j1
    by_cases ej : j = k
    · subst ej
      rw [up1_same, e2]
      refine isN_of (Mag_ch hk gc hkq) (by have := Mag_nn hk; omega) (Or.inl ⟨by rw [g3]; exact hI.2.2.2.2.1, Mag_nn hk⟩)
    · rw [up1_ne _ ej]
      by_cases eq : j = q
      · subst eq
        rw [up1_same, e1]
        exact isN_of g2 (by omega) (Or.inl ⟨by rw [g3]; exact hI.2.2.2.2.2, hq0⟩)
      · rw [up1_ne _ eq]
        exact isN_ch (hI.2.1 j j0 j1 ej eq) gc eq
  | succ t ih =>
    intro mk y8 y10 y12 w s hw hI ht h2 hd htop hlt hinv
    obtain ⟨n, hk⟩ := hI.2.2.2.1
    rw [show ((t + 1 : Nat) : Int) - 1 = (t : Int) by omega]
    refine fi_step (pc' := 72) m_Mo_bigDivide rfl rfl ?_
    refine s_if_lt (p := 75) m_Mo_bigDivide rfl rfl (by omega) (by omega) (fun hbr => False.elim (by omega)) (fun hbr => ?_)
    refine s_lconst (p := 76) (v := 0) m_Mo_bigDivide rfl rfl rfl ?_
    refine fi_step (pc' := 78) m_Mo_bigDivide rfl rfl ?_
    refine bigDivide_in (sh := t) (W := mk) (T := s) hfr hlo k0 k1 b0 b1 hbk (by omega) (chP_refl k s) htop (by rw [Int.pow_succ] at hlt; rw [Int.mul_assoc]; exact hlt) hu ?_ mk.toNat 0 mk _ _ w s hw hI (chP_refl k s) (by omega) (by decide) (by omega)
    intro w1 s1 al mk' z10 z12 hw f1 f2 f3 f4 f5 f6
    have eq1 : ∀ x : Nat, x < 140 → s1 1 (140 * q + x) = s 1 (140 * q + x) := fun x hx => f2.1 _ (by omega)
    refine fi_step (pc' := 171) m_Mo_bigDivide rfl rfl ?_
    refine r_get (p := 174) m_Mo_bigDivide rfl rfl (by assumption) rfl ?_
    refine s_sipush (p := 177) m_Mo_bigDivide rfl rfl rfl ?_
    refine fi_step (pc' := 178) m_Mo_bigDivide rfl rfl ?_
    refine s_imul (p := 179) m_Mo_bigDivide rfl rfl ?_
    refine fi_step (pc' := 181) m_Mo_bigDivide rfl rfl ?_
    refine s_iadd (p := 182) m_Mo_bigDivide rfl rfl ?_
    refine fi_step (pc' := 184) m_Mo_bigDivide rfl rfl ?_
    refine s_l2i (p := 185) m_Mo_bigDivide rfl rfl ?_
    refine r_stI (p := 186) m_Mo_bigDivide rfl rfl (by assumption) (by decide) (fun _ => rfl) (by decide) (by omega) (by omega) (fun w hw => ?_)
    refine s_iinc (p := 189) m_Mo_bigDivide rfl rfl rfl ?_
    refine fi_step (pc' := 70) m_Mo_bigDivide rfl rfl ?_
    have gc := chP_up1 (k := q) (x := 140 * q + t) s1 al (by omega) (by omega)
    refine ih mk' _ _ _ w _ hw (dvI_chq f1 gc (up_ne _ (by decide) _ _) hbq hkq) (by omega) ?_ ?_ ?_ f6 ?_
    · rw [up_ne _ (by decide), f2.2.1 q (fun e => hkq e.symm)]; exact h2
    · intro i hi1 hi2
      rw [up_same]
      by_cases e : i = t
      · subst e; rw [up1_same]; exact ⟨f3, f4⟩
      · rw [up1_ne _ (by omega), eq1 i (by omega)]; exact hd i (by omega) hi2
    · rw [up_same, up1_ne _ (by omega), f2.1 _ (by omega)]; exact htop
    · rw [show mN - t = (mN - (t + 1)) + 1 by omega, dvB_low, up_same, up1_same, dvB_up_out (by omega)]
      rw [dvB_congr (f := s1 1) (g := s 1) (o := 140 * q + t + 1) (p := 140 * q + ((t + 1 : Nat) : Int)) (fun i hi => by
        have := eq1 (t + 1 + i) (by omega)
        rw [show 140 * q + (t : Int) + 1 + (i : Int) = 140 * q + ((t + 1 + i : Nat) : Int) by omega, this]; congr 1; omega)]
      rw [Int.pow_succ] at hinv
      generalize dvB 16777216 (s 1) (140 * q + ((t + 1 : Nat) : Int)) (mN - (t + 1)) = D at hinv ⊢
      rw [← hinv, ← f5]; grind
theorem c_bigDivide {k b q : Int} {w : ax_W} {s : mo_S} {r : Int → Int} (hfr : 2 ≤ fr) (hlo : 60 ≤ lo) (hw : RW w0 w s) (hB : Bg s r) (k0 : 0 ≤ k) (k1 : k < 277) (b0 : 0 ≤ b) (b1 : b < 277) (q0 : 0 ≤ q) (q1 : q < 277) (hbk : b ≠ k) (hbq : b ≠ q) (hkq : k ≠ q) (hnz : r b ≠ 0) :
    fin xs fr lo 154 0 (ax_ent [.ref 425, .int (jI k), .int (jI b), .int (jI q)] 14) [] w (Ret fun v w' => v = none ∧ ∃ s', RW w0 w' s' ∧ oth s s' ∧ Bg s' (up1 (up1 r q (((r k).natAbs : Int) / ((r b).natAbs : Int))) k (((r k).natAbs : Int) % ((r b).natAbs : Int)))) := by
  obtain ⟨n, hk, sk, sk0, sk1⟩ := isN_abs (hB k k0 k1)
  obtain ⟨nb', hb, sb, sb0, sb1⟩ := isN_abs (hB b b0 b1)
  have hnb : nb' ≠ 0 := fun e => by have := (Mag_zero hb).mp e; omega
  obtain ⟨nb, rfl⟩ : ∃ p, nb' = p + 1 := ⟨nb' - 1, by omega⟩
  have ⟨k2, k3, k4, k5, k6⟩ := hk
  have ⟨b2, b3, b4, b5, b6⟩ := hb
  have dtop := b4 nb (by omega)
  have c1 := chP_up3 k s 0
  have c2 := chP_up3 q (up s 3 k 0) 0
  have mid : ∀ (mN : Nat) (w1 : ax_W), RW w0 w1 (up (up (up s 3 k 0) 3 q 0) 2 q mN) → mN + nb ≤ 140 → (mN : Int) - 1 = s 2 k - s 2 b ∨ (mN = 0 ∧ s 2 k - s 2 b < 0) → fin xs fr lo 154 48 [some (.ref 425), some (.int (jI k)), some (.int (jI b)), some (.int (jI q)), some (.int (jI (s 2 k - s 2 b))), none, none, none, none, none, none, none, none, none] [] w1 (Ret fun v w' => v = none ∧ ∃ s', RW w0 w' s' ∧ oth s s' ∧ Bg s' (up1 (up1 r q (((r k).natAbs : Int) / ((r b).natAbs : Int))) k (((r k).natAbs : Int) % ((r b).natAbs : Int)))) := by
    intro mN w1 hw hmn hm
    generalize hS : up (up (up s 3 k 0) 3 q 0) 2 q mN = s3 at hw
    have c3 : chP q (up (up s 3 k 0) 3 q 0) s3 := by rw [← hS]; exact chP_up2 q _ _
    have hb3 : Mag s3 b (nb + 1) ((r b).natAbs : Int) := Mag_ch (Mag_ch (Mag_ch hb c1 hbk) c2 hbq) c3 hbq
    have hk1 : Mag (up s 3 k 0) k n ((r k).natAbs : Int) := by
      refine ⟨by rw [up_ne _ (by decide)]; exact k2, k3, ?_, ?_, ?_⟩
      · rw [up_ne _ (by decide)]; exact k4
      · rw [up_ne _ (by decide)]; exact k5
      · rw [up_ne _ (by decide)]; exact k6
    have hk3 : Mag s3 k n ((r k).natAbs : Int) := Mag_ch (Mag_ch hk1 c2 hkq) c3 hkq
    have e3k : s3 3 k = 0 := by rw [← hS, up_ne _ (by decide), up_same, up1_ne _ hkq, up_same, up1_same]
    have e3q : s3 3 q = 0 := by rw [← hS, up_ne _ (by decide), up_same, up1_same]
    have e2q : s3 2 q = mN := by rw [← hS, up_same, up1_same]
    have hI : dvI s s3 r k b q (nb + 1) ((r b).natAbs : Int) ((r k).natAbs : Int) :=
      ⟨oth_trans (oth_trans (chP_oth c1) (chP_oth c2)) (chP_oth c3), fun j j0 j1 jk jq => isN_ch (isN_ch (isN_ch (hB j j0 j1) c1 jk) c2 jq) c3 jq, hb3, ⟨n, hk3⟩, e3k, e3q⟩
    have e2b : s3 2 b = ((nb + 1 : Nat) : Int) := hb3.1
    have dt := hb3.2.2.1 nb (by omega)
    refine fi_step (pc' := 49) m_Mo_bigDivide rfl rfl ?_
    refine fi_step (pc' := 50) m_Mo_bigDivide rfl rfl ?_
    refine fi_step (pc' := 51) m_Mo_bigDivide rfl rfl ?_
    refine r_get (p := 54) m_Mo_bigDivide rfl rfl (by assumption) rfl ?_
    refine fi_step (pc' := 55) m_Mo_bigDivide rfl rfl ?_
    refine r_ldI (p := 56) m_Mo_bigDivide rfl rfl (by assumption) (by decide) rfl (by decide) (by omega) (by omega) ?_
    refine fi_step (pc' := 57) m_Mo_bigDivide rfl rfl ?_
    refine s_isub (p := 58) m_Mo_bigDivide rfl rfl ?_
    refine c_3 (p := 61) m_Mo_bigDivide rfl inv_v (by decide) m_Mo_bigAt rfl rfl (by omega) (by omega) (Nat.le_of_ble_eq_true rfl) (Nat.le_of_ble_eq_true rfl) (RW_rcv hw _) (c_bigAt hw b0 b1 (by omega) (by omega) (by omega) (by omega)) ?_
    rw [if_pos (by omega), show s3 2 b - 1 = (nb : Int) by omega]
    have hup : 0 < ((r b).natAbs : Int) := by omega
    have hlt0 := Mag_lt hk
    have hgeb := Mag_ge hb
    rcases hm with hm | ⟨hm, hneg⟩
    · have hlt : ((r k).natAbs : Int) < ((r b).natAbs : Int) * 16777216 ^ mN := by
        have g1 : (16777216 : Int) ^ nb * 16777216 ^ mN ≤ ((r b).natAbs : Int) * 16777216 ^ mN := Int.mul_le_mul_of_nonneg_right hgeb (Int.le_of_lt (powB_pos (by decide) _))
        rw [← Int.pow_add] at g1
        have := pow_mono (B := 16777216) (by decide) (show n ≤ nb + mN by omega)
        omega
      refine s_i2l (p := 62) m_Mo_bigDivide rfl rfl (by omega) (by omega) ?_
      refine s_lconst (p := 63) (v := 1) m_Mo_bigDivide rfl rfl rfl ?_
      refine s_ladd (p := 64) m_Mo_bigDivide rfl rfl ?_
      refine fi_step (pc' := 66) m_Mo_bigDivide rfl rfl ?_
      refine fi_step (pc' := 68) m_Mo_bigDivide rfl rfl ?_
      refine fi_step (pc' := 70) m_Mo_bigDivide rfl rfl ?_
      rw [← hm]
      exact bigDivide_out hfr hlo k0 k1 b0 b1 q0 q1 hbk hbq hkq hmn hup mN _ _ _ _ w1 s3 hw hI (Nat.le_refl _) e2q (fun i h1 h2 => by omega) rfl hlt (by rw [Nat.sub_self, dvB_zero]; omega)
    · subst hm
      have hlt : ((r k).natAbs : Int) < ((r b).natAbs : Int) := by
        have := pow_mono (B := 16777216) (by decide) (show n ≤ nb by omega)
        omega
      refine s_i2l (p := 62) m_Mo_bigDivide rfl rfl (by omega) (by omega) ?_
      refine s_lconst (p := 63) (v := 1) m_Mo_bigDivide rfl rfl rfl ?_
      refine s_ladd (p := 64) m_Mo_bigDivide rfl rfl ?_
      refine fi_step (pc' := 66) m_Mo_bigDivide rfl rfl ?_
      refine fi_step (pc' := 68) m_Mo_bigDivide rfl rfl ?_
      refine fi_step (pc' := 70) m_Mo_bigDivide rfl rfl ?_
      refine fi_step (pc' := 72) m_Mo_bigDivide rfl rfl ?_
      refine s_if_lt (p := 75) m_Mo_bigDivide rfl rfl (by omega) (by omega) (fun hbr => ?_) (fun hbr => False.elim (by omega))
      refine fi_step (pc' := 193) m_Mo_bigDivide rfl rfl ?_
      refine fi_step (pc' := 194) m_Mo_bigDivide rfl rfl ?_
      refine g_2 (p := 197) m_Mo_bigDivide rfl inv_v (by decide) m_Mo_bigTrim rfl rfl (by omega) (by omega) (Nat.le_of_ble_eq_true rfl) (Nat.le_of_ble_eq_true rfl) (RW_rcv hw _) (c_bigTrim q0 q1 0 w1 s3 hw e2q (by omega) (fun i hi => by omega)) (fun v w hP => ?_)
      obtain ⟨rfl, n', g1, g2⟩ := hP
      refine p_ret m_Mo_bigDivide rfl rfl ?_
      have gc := chP_up2 q s3 (n' : Int)
      have g3 : up s3 2 q (n' : Int) 3 = s3 3 := up_ne _ (by decide) _ _
      refine ⟨rfl, _, g1, oth_trans hI.1 (chP_oth gc), ?_⟩
      intro j j0 j1
      by_cases ej : j = k
      · subst ej
        rw [up1_same, Int.emod_eq_of_lt (by omega) hlt]
        exact isN_of (Mag_ch hk3 gc hkq) (by omega) (Or.inl ⟨by rw [g3]; exact e3k, by omega⟩)
      · rw [up1_ne _ ej]
        by_cases eq : j = q
        · subst eq
          rw [up1_same, Int.ediv_eq_zero_of_lt (by omega) hlt]
          exact isN_of g2 (by rw [dvB_zero]; rfl) (Or.inl ⟨by rw [g3]; exact e3q, by decide⟩)
        · rw [up1_ne _ eq]
          exact isN_ch (hI.2.1 j j0 j1 ej eq) gc eq
  have eL : up (up s 3 k 0) 3 q 0 2 k - up (up s 3 k 0) 3 q 0 2 b = s 2 k - s 2 b := by rw [up_ne _ (by decide), up_ne _ (by decide)]
  refine fi_step (pc' := 1) m_Mo_bigDivide rfl rfl ?_
  refine r_get (p := 4) m_Mo_bigDivide rfl rfl (by assumption) rfl ?_
  refine fi_step (pc' := 5) m_Mo_bigDivide rfl rfl ?_
  refine fi_step (pc' := 6) m_Mo_bigDivide rfl rfl ?_
  refine r_stB (p := 7) m_Mo_bigDivide rfl rfl (by assumption) (by decide) (fun _ => rfl) (by decide) (by omega) (by omega) (by omega) (by omega) (fun w hw => ?_)
  refine fi_step (pc' := 8) m_Mo_bigDivide rfl rfl ?_
  refine r_get (p := 11) m_Mo_bigDivide rfl rfl (by assumption) rfl ?_
  refine fi_step (pc' := 12) m_Mo_bigDivide rfl rfl ?_
  refine fi_step (pc' := 13) m_Mo_bigDivide rfl rfl ?_
  refine r_stB (p := 14) m_Mo_bigDivide rfl rfl (by assumption) (by decide) (fun _ => rfl) (by decide) (by omega) (by omega) (by omega) (by omega) (fun w hw => ?_)
  refine fi_step (pc' := 15) m_Mo_bigDivide rfl rfl ?_
  refine r_get (p := 18) m_Mo_bigDivide rfl rfl (by assumption) rfl ?_
  refine fi_step (pc' := 19) m_Mo_bigDivide rfl rfl ?_
  refine r_ldI (p := 20) m_Mo_bigDivide rfl rfl (by assumption) (by decide) rfl (by decide) (by omega) (by omega) ?_
  refine fi_step (pc' := 21) m_Mo_bigDivide rfl rfl ?_
  refine r_get (p := 24) m_Mo_bigDivide rfl rfl (by assumption) rfl ?_
  refine fi_step (pc' := 25) m_Mo_bigDivide rfl rfl ?_
  refine r_ldI (p := 26) m_Mo_bigDivide rfl rfl (by assumption) (by decide) rfl (by decide) (by omega) (by omega) ?_
  refine s_isub (p := 27) m_Mo_bigDivide rfl rfl ?_
  refine fi_step (pc' := 29) m_Mo_bigDivide rfl rfl ?_
  refine fi_step (pc' := 30) m_Mo_bigDivide rfl rfl ?_
  refine r_get (p := 33) m_Mo_bigDivide rfl rfl (by assumption) rfl ?_
  refine fi_step (pc' := 34) m_Mo_bigDivide rfl rfl ?_
  rw [eL]
  refine fi_step (pc' := 36) m_Mo_bigDivide rfl rfl ?_
  refine s_if_ge (p := 39) m_Mo_bigDivide rfl rfl (by omega) (by omega) (fun h => ?_) (fun h => ?_)
  · refine fi_step (pc' := 45) m_Mo_bigDivide rfl rfl ?_
    refine fi_step (pc' := 46) m_Mo_bigDivide rfl rfl ?_
    refine s_iadd (p := 47) m_Mo_bigDivide rfl rfl ?_
    refine r_stI (p := 48) m_Mo_bigDivide rfl rfl (by assumption) (by decide) (fun _ => rfl) (by decide) (by omega) (by omega) (fun w hw => ?_)
    rw [show s 2 k - s 2 b + 1 = ((n - nb : Nat) : Int) by omega] at hw
    exact mid (n - nb) w hw (by omega) (Or.inl (by omega))
  · refine fi_step (pc' := 40) m_Mo_bigDivide rfl rfl ?_
    refine fi_step (pc' := 47) m_Mo_bigDivide rfl rfl ?_
    refine r_stI (p := 48) m_Mo_bigDivide rfl rfl (by assumption) (by decide) (fun _ => rfl) (by decide) (by omega) (by omega) (fun w hw => ?_)
    exact mid 0 w hw (by omega) (Or.inr ⟨rfl, h⟩)
end BIG7
end
section
/-! a tenth, the value, the sign of the reference's numbers -/
theorem tdiv_abs (v : Int) (d : Nat) : ((v.tdiv d).natAbs : Int) = (v.natAbs : Int) / d := by
  rw [Int.natAbs_tdiv]; simp only [Int.natAbs_natCast]
  show ((v.natAbs / d : Nat) : Int) = _
  rw [Int.natCast_ediv]
section BIG8
variable {xs : List Int32} {fr lo : Nat} {w0 : ax_W}
theorem bigTenth_loop {k : Int} {n : Nat} {S : mo_S} {m : Int} (hfr : 1 ≤ fr) (hlo : 21 ≤ lo) (k0 : 0 ≤ k) (k1 : k < 277) (hk : Mag S k n m) :
    ∀ (t : Nat) (le : Int) (y : Option Value) (w : ax_W) (s : mo_S), RW w0 w s → t ≤ n → chP k S s → s 2 = S 2 → s 3 = S 3 → (∀ i : Nat, i < t → s 1 (140 * k + i) = S 1 (140 * k + i)) → (∀ i : Nat, t ≤ i → i < n → 0 ≤ s 1 (140 * k + i) ∧ s 1 (140 * k + i) < 16777216) → 0 ≤ le → le < 10 → dvB 16777216 (S 1) (140 * k + t) (n - t) = 10 * dvB 16777216 (s 1) (140 * k + t) (n - t) + le →
      fin xs fr lo 176 11 [some (.ref 425), some (.int (jI k)), some (.int (jI le)), some (.int (jI ((t : Int) - 1))), y] [] w (Ret fun v w' => v = some (.int (jI (m % 10))) ∧ ∃ s' n', RW w0 w' s' ∧ chP k S s' ∧ s' 3 = S 3 ∧ Mag s' k n' (m / 10)) := by
  have ⟨k2, k3, k4, k5, k6⟩ := hk
  intro t
  induction t with
  | zero =>
    intro le y w s hw ht hc e2 e3 hs hd l0 l1 hinv
    simp only [Nat.sub_zero, show ((0 : Nat) : Int) = 0 from rfl, Int.add_zero] at hinv
    rw [← k6] at hinv
    have hdk : digB 16777216 (s 1) (140 * k) n := fun i hi => hd i (by omega) hi
    refine fi_step (pc' := 12) m_Mo_bigTenth rfl rfl ?_
    refine s_if_lt (p := 15) m_Mo_bigTenth rfl rfl (by omega) (by omega) (fun hbr => ?_) (fun hbr => False.elim (by omega))
    refine fi_step (pc' := 64) m_Mo_bigTenth rfl rfl ?_
    refine fi_step (pc' := 65) m_Mo_bigTenth rfl rfl ?_
    refine g_2 (p := 68) m_Mo_bigTenth rfl inv_v (by decide) m_Mo_bigTrim rfl rfl (by omega) (by omega) (Nat.le_of_ble_eq_true rfl) (Nat.le_of_ble_eq_true rfl) (RW_rcv hw _) (c_bigTrim k0 k1 n w s hw (by rw [e2]; exact k2) k3 hdk) (fun v w hP => ?_)
    obtain ⟨rfl, n', g1, g2⟩ := hP
    refine fi_step (pc' := 69) m_Mo_bigTenth rfl rfl ?_
    refine p_reti m_Mo_bigTenth rfl rfl ?_
    refine ⟨by rw [show le = m % 10 by omega], _, n', g1, chP_trans hc (chP_up2 k s _), by rw [up_ne _ (by decide)]; exact e3, ?_⟩
    rw [show m / 10 = dvB 16777216 (s 1) (140 * k) n by omega]; exact g2
  | succ t ih =>
    intro le y w s hw ht hc e2 e3 hs hd l0 l1 hinv
    have d1 := k4 t (by omega)
    have e4 := hs t (by omega)
    rw [← e4] at d1
    rw [show ((t + 1 : Nat) : Int) - 1 = (t : Int) by omega]
    refine fi_step (pc' := 12) m_Mo_bigTenth rfl rfl ?_
    refine s_if_lt (p := 15) m_Mo_bigTenth rfl rfl (by omega) (by omega) (fun hbr => False.elim (by omega)) (fun hbr => ?_)
    refine fi_step (pc' := 16) m_Mo_bigTenth rfl rfl ?_
    refine s_ldc (p := 18) 16777216 m_Mo_bigTenth rfl rfl rfl ?_
    refine s_imul (p := 19) m_Mo_bigTenth rfl rfl ?_
    refine fi_step (pc' := 20) m_Mo_bigTenth rfl rfl ?_
    refine r_get (p := 23) m_Mo_bigTenth rfl rfl (by assumption) rfl ?_
    refine s_sipush (p := 26) m_Mo_bigTenth rfl rfl rfl ?_
    refine fi_step (pc' := 27) m_Mo_bigTenth rfl rfl ?_
    refine s_imul (p := 28) m_Mo_bigTenth rfl rfl ?_
    refine fi_step (pc' := 29) m_Mo_bigTenth rfl rfl ?_
    refine s_iadd (p := 30) m_Mo_bigTenth rfl rfl ?_
    refine r_ldI (p := 31) m_Mo_bigTenth rfl rfl (by assumption) (by decide) rfl (by decide) (by omega) (by omega) ?_
    refine s_iadd (p := 32) m_Mo_bigTenth rfl rfl ?_
    generalize hv : le * 16777216 + s 1 (140 * k + t) = v
    refine fi_step (pc' := 34) m_Mo_bigTenth rfl rfl ?_
    refine fi_step (pc' := 35) m_Mo_bigTenth rfl rfl ?_
    refine r_get (p := 38) m_Mo_bigTenth rfl rfl (by assumption) rfl ?_
    refine s_sipush (p := 41) m_Mo_bigTenth rfl rfl rfl ?_
    refine fi_step (pc' := 42) m_Mo_bigTenth rfl rfl ?_
    refine s_imul (p := 43) m_Mo_bigTenth rfl rfl ?_
    refine fi_step (pc' := 44) m_Mo_bigTenth rfl rfl ?_
    refine s_iadd (p := 45) m_Mo_bigTenth rfl rfl ?_
    refine fi_step (pc' := 47) m_Mo_bigTenth rfl rfl ?_
    refine s_bipush (p := 49) m_Mo_bigTenth rfl rfl rfl ?_
    refine s_idiv (p := 50) m_Mo_bigTenth rfl rfl (by omega) (by omega) (by omega) (by omega) ?_
    refine r_stI (p := 51) m_Mo_bigTenth rfl rfl (by assumption) (by decide) (fun _ => rfl) (by decide) (by omega) (by omega) (fun w hw => ?_)
    refine fi_step (pc' := 53) m_Mo_bigTenth rfl rfl ?_
    refine s_bipush (p := 55) m_Mo_bigTenth rfl rfl rfl ?_
    refine s_irem (p := 56) m_Mo_bigTenth rfl rfl (by omega) (by omega) (by omega) (by omega) ?_
    refine fi_step (pc' := 57) m_Mo_bigTenth rfl rfl ?_
    refine s_iinc (p := 60) m_Mo_bigTenth rfl rfl rfl ?_
    refine fi_step (pc' := 11) m_Mo_bigTenth rfl rfl ?_
    refine ih (v % 10) _ w _ hw (by omega) (chP_trans hc (chP_up1 s _ (by omega) (by omega))) (by rw [up_ne _ (by decide)]; exact e2) (by rw [up_ne _ (by decide)]; exact e3) ?_ ?_ (by omega) (by omega) ?_
    · intro i hi; rw [up_same, up1_ne _ (by omega)]; exact hs i (by omega)
    · intro i h1 h2
      rw [up_same]
      by_cases e : i = t
      · subst e; rw [up1_same]; omega
      · rw [up1_ne _ (by omega)]; exact hd i (by omega) h2
    · rw [show n - t = (n - (t + 1)) + 1 by omega, dvB_low, dvB_low, up_same, up1_same, dvB_up_out (by omega)]
      rw [show 140 * k + ((t + 1 : Nat) : Int) = 140 * k + t + 1 by omega] at hinv
      rw [hinv, ← e4]
      omega
theorem c_bigTenth {k : Int} {w : ax_W} {s : mo_S} {r : Int → Int} (hfr : 1 ≤ fr) (hlo : 21 ≤ lo) (hw : RW w0 w s) (hB : Bg s r) (k0 : 0 ≤ k) (k1 : k < 277) :
    fin xs fr lo 176 0 (ax_ent [.ref 425, .int (jI k)] 5) [] w (Ret fun v w' => v = some (.int (jI (((r k).natAbs : Int) % 10))) ∧ ∃ s', RW w0 w' s' ∧ oth s s' ∧ Bg s' (up1 r k ((r k).tdiv 10))) := by
  obtain ⟨n, hk, sk, sk0, sk1⟩ := isN_abs (hB k k0 k1)
  have ⟨k2, k3, k4, k5, k6⟩ := hk
  refine fi_step (pc' := 1) m_Mo_bigTenth rfl rfl ?_
  refine fi_step (pc' := 2) m_Mo_bigTenth rfl rfl ?_
  refine fi_step (pc' := 3) m_Mo_bigTenth rfl rfl ?_
  refine r_get (p := 6) m_Mo_bigTenth rfl rfl (by assumption) rfl ?_
  refine fi_step (pc' := 7) m_Mo_bigTenth rfl rfl ?_
  refine r_ldI (p := 8) m_Mo_bigTenth rfl rfl (by assumption) (by decide) rfl (by decide) (by omega) (by omega) ?_
  refine fi_step (pc' := 9) m_Mo_bigTenth rfl rfl ?_
  refine s_isub (p := 10) m_Mo_bigTenth rfl rfl ?_
  refine fi_step (pc' := 11) m_Mo_bigTenth rfl rfl ?_
  rw [k2]
  refine fi_mono (bigTenth_loop hfr hlo k0 k1 hk n 0 _ w s hw (Nat.le_refl _) (chP_refl k s) rfl rfl (fun i hi => rfl) (fun i h1 h2 => by omega) (by decide) (by decide) (by rw [Nat.sub_self]; rfl)) ?_
  rintro o w' ⟨v, rfl, hv, s', n', g1, g2, g3, g4⟩
  refine ⟨v, rfl, hv, s', g1, chP_oth g2, Bg_ch hB g2 (isN_of g4 ?_ ?_)⟩
  · exact (tdiv_abs (r k) 10).symm
  · rw [g3]
    rcases sk with e | e
    · exact Or.inl ⟨e, Int.tdiv_nonneg (sk0 e) (by decide)⟩
    · refine Or.inr ⟨e, ?_⟩
      have := Int.tdiv_nonneg (show 0 ≤ -(r k) by have := sk1 e; omega) (show (0 : Int) ≤ 10 by decide)
      rw [Int.neg_tdiv] at this; omega
theorem bigValue_loop {k : Int} {n : Nat} {s : mo_S} {m : Int} {w : ax_W} (hw : RW w0 w s) (k0 : 0 ≤ k) (k1 : k < 277) (hk : Mag s k n m) (hm : m < 4611686018427387904) (h3 : s 3 k = 0 ∨ s 3 k = 1) :
    ∀ (t : Nat) (v : Int), t ≤ n → v = dvB 16777216 (s 1) (140 * k + t) (n - t) →
      fin xs fr lo 140 12 [some (.ref 425), some (.int (jI k)), some (.long (jL v)), none, some (.int (jI ((t : Int) - 1)))] [] w (Same (.long (jL (if s 3 k = 1 then -m else m))) w) := by
  have ⟨k2, k3, k4, k5, k6⟩ := hk
  intro t
  induction t with
  | zero =>
    intro v ht hv
    simp only [Nat.sub_zero, show ((0 : Nat) : Int) = 0 from rfl, Int.add_zero] at hv
    rw [← k6] at hv
    subst hv
    refine fi_step (pc' := 14) m_Mo_bigValue rfl rfl ?_
    refine s_if_lt (p := 17) m_Mo_bigValue rfl rfl (by omega) (by omega) (fun hbr => ?_) (fun hbr => False.elim (by omega))
    refine fi_step (pc' := 45) m_Mo_bigValue rfl rfl ?_
    refine r_get (p := 48) m_Mo_bigValue rfl rfl (by assumption) rfl ?_
    refine fi_step (pc' := 49) m_Mo_bigValue rfl rfl ?_
    refine r_ldB (p := 50) m_Mo_bigValue rfl rfl (by assumption) (by decide) rfl (by decide) (by omega) (by omega) ?_
    refine s_if_eq (p := 53) m_Mo_bigValue rfl rfl (by omega) (by omega) (fun h => ?_) (fun h => ?_)
    · rw [if_neg (by omega)]
      refine fi_step (pc' := 59) m_Mo_bigValue rfl rfl ?_
      exact s_retl m_Mo_bigValue rfl rfl (by omega)
    · rw [if_pos (by omega)]
      refine fi_step (pc' := 54) m_Mo_bigValue rfl rfl ?_
      refine s_lneg (p := 55) m_Mo_bigValue rfl rfl ?_
      refine fi_step (pc' := 59) m_Mo_bigValue rfl rfl ?_
      exact s_retl m_Mo_bigValue rfl rfl (by omega)
  | succ t ih =>
    intro v ht hv
    have d1 := k4 t (by omega)
    have e1 : v * 16777216 + s 1 (140 * k + t) = dvB 16777216 (s 1) (140 * k + t) (n - t) := by
      rw [show n - t = (n - (t + 1)) + 1 by omega, dvB_low, hv, show 140 * k + ((t + 1 : Nat) : Int) = 140 * k + t + 1 by omega]; omega
    have e2 : m = dvB 16777216 (s 1) (140 * k) t + 16777216 ^ t * dvB 16777216 (s 1) (140 * k + t) (n - t) := by
      rw [k6, ← dvB_split, show t + (n - t) = n by omega]
    have e3 : 0 ≤ dvB 16777216 (s 1) (140 * k) t := dvB_nonneg (by decide) (fun i hi => (k4 i (by omega)).1)
    have e4 : 0 ≤ dvB 16777216 (s 1) (140 * k + t) (n - t) := dvB_nonneg (by decide) (fun i hi => by
      have := (k4 (t + i) (by omega)).1; rwa [show 140 * k + ((t + i : Nat) : Int) = 140 * k + t + i by omega] at this)
    have e5 : 1 * dvB 16777216 (s 1) (140 * k + t) (n - t) ≤ 16777216 ^ t * dvB 16777216 (s 1) (140 * k + t) (n - t) := Int.mul_le_mul_of_nonneg_right (by have := powB_pos (B := 16777216) (by decide) t; omega) e4
    rw [show ((t + 1 : Nat) : Int) - 1 = (t : Int) by omega]
    refine fi_step (pc' := 14) m_Mo_bigValue rfl rfl ?_
    refine s_if_lt (p := 17) m_Mo_bigValue rfl rfl (by omega) (by omega) (fun hbr => False.elim (by omega)) (fun hbr => ?_)
    refine fi_step (pc' := 18) m_Mo_bigValue rfl rfl ?_
    refine s_ldc2 (p := 21) 16777216 m_Mo_bigValue rfl rfl rfl ?_
    refine s_lmul (p := 22) m_Mo_bigValue rfl rfl ?_
    refine fi_step (pc' := 23) m_Mo_bigValue rfl rfl ?_
    refine r_get (p := 26) m_Mo_bigValue rfl rfl (by assumption) rfl ?_
    refine s_sipush (p := 29) m_Mo_bigValue rfl rfl rfl ?_
    refine fi_step (pc' := 30) m_Mo_bigValue rfl rfl ?_
    refine s_imul (p := 31) m_Mo_bigValue rfl rfl ?_
    refine fi_step (pc' := 33) m_Mo_bigValue rfl rfl ?_
    refine s_iadd (p := 34) m_Mo_bigValue rfl rfl ?_
    refine r_ldI (p := 35) m_Mo_bigValue rfl rfl (by assumption) (by decide) rfl (by decide) (by omega) (by omega) ?_
    refine s_i2l (p := 36) m_Mo_bigValue rfl rfl (by omega) (by omega) ?_
    refine s_ladd (p := 37) m_Mo_bigValue rfl rfl ?_
    refine fi_step (pc' := 38) m_Mo_bigValue rfl rfl ?_
    refine s_iinc (p := 41) m_Mo_bigValue rfl rfl rfl ?_
    refine fi_step (pc' := 12) m_Mo_bigValue rfl rfl ?_
    exact ih _ (by omega) e1
theorem c_bigValue {k : Int} {w : ax_W} {s : mo_S} {r : Int → Int} (hw : RW w0 w s) (hB : Bg s r) (k0 : 0 ≤ k) (k1 : k < 277) (hm : ((r k).natAbs : Int) < 4611686018427387904) :
    fin xs fr lo 140 0 (ax_ent [.ref 425, .int (jI k)] 5) [] w (Same (.long (jL (r k))) w) := by
  obtain ⟨n, hk, sk, sk0, sk1⟩ := isN_abs (hB k k0 k1)
  have ⟨k2, k3, k4, k5, k6⟩ := hk
  refine s_lconst (p := 1) (v := 0) m_Mo_bigValue rfl rfl rfl ?_
  refine fi_step (pc' := 2) m_Mo_bigValue rfl rfl ?_
  refine fi_step (pc' := 3) m_Mo_bigValue rfl rfl ?_
  refine r_get (p := 6) m_Mo_bigValue rfl rfl (by assumption) rfl ?_
  refine fi_step (pc' := 7) m_Mo_bigValue rfl rfl ?_
  refine r_ldI (p := 8) m_Mo_bigValue rfl rfl (by assumption) (by decide) rfl (by decide) (by omega) (by omega) ?_
  refine fi_step (pc' := 9) m_Mo_bigValue rfl rfl ?_
  refine s_isub (p := 10) m_Mo_bigValue rfl rfl ?_
  refine fi_step (pc' := 12) m_Mo_bigValue rfl rfl ?_
  rw [k2]
  have := bigValue_loop (xs := xs) (fr := fr) (lo := lo) hw k0 k1 hk hm sk n 0 (Nat.le_refl _) (by rw [Nat.sub_self]; rfl)
  rw [show (if s 3 k = 1 then -((r k).natAbs : Int) else ((r k).natAbs : Int)) = r k by split <;> omega] at this
  exact this
theorem c_bigSign {k : Int} {w : ax_W} {s : mo_S} {r : Int → Int} (hw : RW w0 w s) (hB : Bg s r) (k0 : 0 ≤ k) (k1 : k < 277) :
    fin xs fr lo 174 0 (ax_ent [.ref 425, .int (jI k)] 2) [] w (Same (.int (jI (if r k = 0 then 0 else if r k < 0 then -1 else 1))) w) := by
  obtain ⟨n, hk, sk, sk0, sk1⟩ := isN_abs (hB k k0 k1)
  have ⟨k2, k3, k4, k5, k6⟩ := hk
  have hz := Mag_zero hk
  refine fi_step (pc' := 1) m_Mo_bigSign rfl rfl ?_
  refine r_get (p := 4) m_Mo_bigSign rfl rfl (by assumption) rfl ?_
  refine fi_step (pc' := 5) m_Mo_bigSign rfl rfl ?_
  refine r_ldI (p := 6) m_Mo_bigSign rfl rfl (by assumption) (by decide) rfl (by decide) (by omega) (by omega) ?_
  refine s_if_ne (p := 9) m_Mo_bigSign rfl rfl (by omega) (by omega) (fun h => ?_) (fun h => ?_)
  · have : r k ≠ 0 := fun e => by rw [e] at hz; simp at hz; omega
    rw [if_neg this]
    refine fi_step (pc' := 14) m_Mo_bigSign rfl rfl ?_
    refine r_get (p := 17) m_Mo_bigSign rfl rfl (by assumption) rfl ?_
    refine fi_step (pc' := 18) m_Mo_bigSign rfl rfl ?_
    refine r_ldB (p := 19) m_Mo_bigSign rfl rfl (by assumption) (by decide) rfl (by decide) (by omega) (by omega) ?_
    refine s_if_eq (p := 22) m_Mo_bigSign rfl rfl (by omega) (by omega) (fun g => ?_) (fun g => ?_)
    · have := sk0 g
      rw [if_neg (by omega)]
      refine fi_step (pc' := 27) m_Mo_bigSign rfl rfl ?_
      exact s_reti m_Mo_bigSign rfl rfl (by omega)
    · have := sk1 (by omega)
      rw [if_pos (by omega)]
      refine fi_step (pc' := 23) m_Mo_bigSign rfl rfl ?_
      refine fi_step (pc' := 27) m_Mo_bigSign rfl rfl ?_
      exact s_reti m_Mo_bigSign rfl rfl (by omega)
  · rw [if_pos (by omega)]
    refine fi_step (pc' := 10) m_Mo_bigSign rfl rfl ?_
    refine fi_step (pc' := 27) m_Mo_bigSign rfl rfl ?_
    exact s_reti m_Mo_bigSign rfl rfl (by omega)
theorem c_bigIsOne {k : Int} {w : ax_W} {s : mo_S} {r : Int → Int} (hw : RW w0 w s) (hB : Bg s r) (k0 : 0 ≤ k) (k1 : k < 277) :
    fin xs fr lo 180 0 (ax_ent [.ref 425, .int (jI k)] 2) [] w (Same (.int (jI (if (r k).natAbs = 1 then 1 else 0))) w) := by
  obtain ⟨n, hk, sk, sk0, sk1⟩ := isN_abs (hB k k0 k1)
  have ⟨k2, k3, k4, k5, k6⟩ := hk
  refine fi_step (pc' := 1) m_Mo_bigIsOne rfl rfl ?_
  refine r_get (p := 4) m_Mo_bigIsOne rfl rfl (by assumption) rfl ?_
  refine fi_step (pc' := 5) m_Mo_bigIsOne rfl rfl ?_
  refine r_ldI (p := 6) m_Mo_bigIsOne rfl rfl (by assumption) (by decide) rfl (by decide) (by omega) (by omega) ?_
  refine fi_step (pc' := 7) m_Mo_bigIsOne rfl rfl ?_
  refine s_ic_ne (p := 10) m_Mo_bigIsOne rfl rfl (by omega) (by omega) (by omega) (by omega) (fun h => ?_) (fun h => ?_)
  · have : ¬ (r k).natAbs = 1 := by
      intro e
      rcases Nat.lt_or_ge n 2 with h' | h'
      · have : n = 0 := by omega
        subst this; rw [dvB_zero] at k6; omega
      · obtain ⟨p, rfl⟩ : ∃ p, n = p + 1 := ⟨n - 1, by omega⟩
        have h1 := Mag_ge hk
        have h2 := pow_mono (B := 16777216) (by decide) (show 1 ≤ p by omega)
        rw [Int.pow_one] at h2; omega
    rw [if_neg this]
    refine fi_step (pc' := 29) m_Mo_bigIsOne rfl rfl ?_
    exact s_retb m_Mo_bigIsOne rfl rfl (by omega) (by first | exact Or.inl rfl | exact Or.inr rfl | omega)
  · have hn : n = 1 := by omega
    subst hn
    rw [dvB_succ, dvB_zero] at k6
    simp only [Int.pow_zero, Int.mul_one, Int.zero_add, show ((0 : Nat) : Int) = 0 from rfl, Int.add_zero] at k6
    have d0 := k4 0 (by decide)
    simp only [show ((0 : Nat) : Int) = 0 from rfl, Int.add_zero] at d0
    refine fi_step (pc' := 11) m_Mo_bigIsOne rfl rfl ?_
    refine r_get (p := 14) m_Mo_bigIsOne rfl rfl (by assumption) rfl ?_
    refine s_sipush (p := 17) m_Mo_bigIsOne rfl rfl rfl ?_
    refine fi_step (pc' := 18) m_Mo_bigIsOne rfl rfl ?_
    refine s_imul (p := 19) m_Mo_bigIsOne rfl rfl ?_
    refine r_ldI (p := 20) m_Mo_bigIsOne rfl rfl (by assumption) (by decide) rfl (by decide) (by omega) (by omega) ?_
    refine fi_step (pc' := 21) m_Mo_bigIsOne rfl rfl ?_
    refine s_ic_ne (p := 24) m_Mo_bigIsOne rfl rfl (by omega) (by omega) (by omega) (by omega) (fun g => ?_) (fun g => ?_)
    · rw [if_neg (by omega)]
      refine fi_step (pc' := 29) m_Mo_bigIsOne rfl rfl ?_
      exact s_retb m_Mo_bigIsOne rfl rfl (by omega) (by first | exact Or.inl rfl | exact Or.inr rfl | omega)
    · rw [if_pos (by omega)]
      refine fi_step (pc' := 25) m_Mo_bigIsOne rfl rfl ?_
      refine fi_step (pc' := 29) m_Mo_bigIsOne rfl rfl ?_
      exact s_retb m_Mo_bigIsOne rfl rfl (by omega) (by first | exact Or.inl rfl | exact Or.inr rfl | omega)
theorem c_isZ {k : Int} {w : ax_W} {s : mo_S} {r : Int → Int} (hw : RW w0 w s) (hB : Bg s r) (k0 : 0 ≤ k) (k1 : k < 277) :
    fin xs fr lo 151 0 (ax_ent [.ref 425, .int (jI k)] 2) [] w (Same (.int (jI (if r k = 0 then 1 else 0))) w) := by
  obtain ⟨n, hk, sk, sk0, sk1⟩ := isN_abs (hB k k0 k1)
  have ⟨k2, k3, k4, k5, k6⟩ := hk
  have hz := Mag_zero hk
  have := c_bigIsZero (xs := xs) (fr := fr) (lo := lo) hw k0 k1 (by omega) (by omega)
  rw [show (if s 2 k = 0 then (1 : Int) else 0) = (if r k = 0 then 1 else 0) by
    by_cases e : s 2 k = 0
    · rw [if_pos e, if_pos (by omega)]
    · rw [if_neg e, if_neg (by omega)]] at this
  exact this
theorem c_bigCmp {k u : Int} {w : ax_W} {s : mo_S} {r : Int → Int} (hfr : 1 ≤ fr) (hlo : 22 ≤ lo) (hw : RW w0 w s) (hB : Bg s r) (k0 : 0 ≤ k) (k1 : k < 277) (u0 : 0 ≤ u) (u1 : u < 277) :
    fin xs fr lo 137 0 (ax_ent [.ref 425, .int (jI k), .int (jI u)] 4) [] w (Same (.int (jI (if ((r k).natAbs : Int) < ((r u).natAbs : Int) then -1 else if ((r k).natAbs : Int) = ((r u).natAbs : Int) then 0 else 1))) w) := by
  obtain ⟨n, hk, _⟩ := isN_abs (hB k k0 k1)
  obtain ⟨n', hu, _⟩ := isN_abs (hB u u0 u1)
  exact c_bigSizes hfr hlo hw k0 k1 u0 u1 hk hu
end BIG8
end
section
/-! THE REFERENCE'S MATRICES -/
/-- what isn't a matrix stays -/
def keepO (s s' : mo_S) : Prop := ∀ a, a ≠ 4 → a ≠ 5 → a ≠ 6 → s' a = s a
def keepM (s s' : mo_S) : Prop := s' 4 = s 4 ∧ s' 5 = s 5 ∧ s' 6 = s 6
/-- numbers of six matrices after matrix m has got the numbers g -/
def newN (f : Int → Int) (m r c : Int) (g : Int → Int → Int) : Int → Int := fun x => if 36 * m ≤ x ∧ x < 36 * m + 36 then (if (x - 36 * m) / 6 < r ∧ (x - 36 * m) % 6 < c then g ((x - 36 * m) / 6) ((x - 36 * m) % 6) else 0) else f x
def MI (s : mo_S) : Prop := (∀ m, 0 ≤ m → m < 6 → 1 ≤ s 5 m ∧ s 5 m ≤ 6) ∧ (∀ m, 0 ≤ m → m < 6 → 1 ≤ s 6 m ∧ s 6 m ≤ 6) ∧ ∀ x, 0 ≤ x → x < 216 → -1000000000000000000 < s 4 x ∧ s 4 x < 1000000000000000000
theorem Bg_congr {s s' : mo_S} {r : Int → Int} (h : Bg s r) (h1 : s' 1 = s 1) (h2 : s' 2 = s 2) (h3 : s' 3 = s 3) : Bg s' r := by
  intro k k0 k1
  have := h k k0 k1
  unfold isN Mag at this ⊢
  rw [h1, h2, h3]; exact this
theorem MI_congr {s s' : mo_S} (h : MI s) (hk : keepM s s') : MI s' := by
  unfold MI; rw [hk.1, hk.2.1, hk.2.2]; exact h
theorem keepM_oth {s s' : mo_S} (h : oth s s') : keepM s s' := ⟨h 4 (by decide) (by decide) (by decide), h 5 (by decide) (by decide) (by decide), h 6 (by decide) (by decide) (by decide)⟩
theorem keepM_trans {s s' s'' : mo_S} (h : keepM s s') (h' : keepM s' s'') : keepM s s'' := ⟨h'.1.trans h.1, h'.2.1.trans h.2.1, h'.2.2.trans h.2.2⟩
section MAT
variable {xs : List Int32} {fr lo : Nat} {w0 : ax_W}
theorem clear_loop {m r c : Int} {S : mo_S} (m0 : 0 ≤ m) (m1 : m < 6) : ∀ (f : Nat) (k : Int) (w : ax_W) (s : mo_S), RW w0 w s → 36 * m ≤ k → k ≤ 36 * m + 36 → 36 * m + 36 - k ≤ f → (∀ a, a ≠ 4 → s a = S a) → (∀ x, s 4 x = if 36 * m ≤ x ∧ x < k then 0 else S 4 x) →
    fin xs fr lo 121 20 [some (.ref 425), some (.int (jI m)), some (.int (jI r)), some (.int (jI c)), some (.int (jI k))] [] w (Ret fun v w' => v = none ∧ ∃ s', RW w0 w' s' ∧ (∀ a, a ≠ 4 → s' a = S a) ∧ s' 4 = fun x => if 36 * m ≤ x ∧ x < 36 * m + 36 then 0 else S 4 x) := by
  intro f
  induction f with
  | zero =>
    intro k w s hw h0 h1 hf ho hz
    refine fi_step (pc' := 22) m_Mo_clear rfl rfl ?_
    refine s_bipush (p := 24) m_Mo_clear rfl rfl rfl ?_
    refine fi_step (pc' := 25) m_Mo_clear rfl rfl ?_
    refine s_imul (p := 26) m_Mo_clear rfl rfl ?_
    refine s_bipush (p := 28) m_Mo_clear rfl rfl rfl ?_
    refine s_iadd (p := 29) m_Mo_clear rfl rfl ?_
    refine s_ic_ge (p := 32) m_Mo_clear rfl rfl (by omega) (by omega) (by omega) (by omega) (fun hbr => ?_) (fun hbr => False.elim (by omega))
    refine p_ret m_Mo_clear rfl rfl ?_
    refine ⟨rfl, s, hw, ho, ?_⟩
    funext x; rw [hz x, show k = 36 * m + 36 by omega]
  | succ f ih =>
    intro k w s hw h0 h1 hf ho hz
    refine fi_step (pc' := 22) m_Mo_clear rfl rfl ?_
    refine s_bipush (p := 24) m_Mo_clear rfl rfl rfl ?_
    refine fi_step (pc' := 25) m_Mo_clear rfl rfl ?_
    refine s_imul (p := 26) m_Mo_clear rfl rfl ?_
    refine s_bipush (p := 28) m_Mo_clear rfl rfl rfl ?_
    refine s_iadd (p := 29) m_Mo_clear rfl rfl ?_
    refine s_ic_ge (p := 32) m_Mo_clear rfl rfl (by omega) (by omega) (by omega) (by omega) (fun h => ?_) (fun h => ?_)
    · refine p_ret m_Mo_clear rfl rfl ?_
      refine ⟨rfl, s, hw, ho, ?_⟩
      funext x; rw [hz x, show k = 36 * m + 36 by omega]
    · refine fi_step (pc' := 33) m_Mo_clear rfl rfl ?_
      refine r_get (p := 36) m_Mo_clear rfl rfl (by assumption) rfl ?_
      refine fi_step (pc' := 38) m_Mo_clear rfl rfl ?_
      refine s_lconst (p := 39) (v := 0) m_Mo_clear rfl rfl rfl ?_
      refine r_stL (p := 40) m_Mo_clear rfl rfl (by assumption) (by decide) (fun _ => rfl) (by decide) (by omega) (by omega) (fun w hw => ?_)
      refine s_iinc (p := 43) m_Mo_clear rfl rfl rfl ?_
      refine fi_step (pc' := 20) m_Mo_clear rfl rfl ?_
      refine ih (k + 1) w _ hw (by omega) (by omega) (by omega) (fun a ha => by rw [up_ne _ ha]; exact ho a ha) (fun x => ?_)
      rw [up_same]
      by_cases e : x = k
      · subst e; rw [up1_same, if_pos (by omega)]
      · rw [up1_ne _ e, hz x]
        by_cases e' : 36 * m ≤ x ∧ x < k
        · rw [if_pos e', if_pos (by omega)]
        · rw [if_neg e', if_neg (by omega)]
theorem c_clear {m r c : Int} {w : ax_W} {s : mo_S} (hw : RW w0 w s) (m0 : 0 ≤ m) (m1 : m < 6) :
    fin xs fr lo 121 0 (ax_ent [.ref 425, .int (jI m), .int (jI r), .int (jI c)] 5) [] w (Ret fun v w' => v = none ∧ ∃ s', RW w0 w' s' ∧ keepO s s' ∧ s' 5 = up1 (s 5) m r ∧ s' 6 = up1 (s 6) m c ∧ s' 4 = newN (s 4) m 0 0 (fun _ _ => 0)) := by
  refine fi_step (pc' := 1) m_Mo_clear rfl rfl ?_
  refine r_get (p := 4) m_Mo_clear rfl rfl (by assumption) rfl ?_
  refine fi_step (pc' := 5) m_Mo_clear rfl rfl ?_
  refine fi_step (pc' := 6) m_Mo_clear rfl rfl ?_
  refine r_stI (p := 7) m_Mo_clear rfl rfl (by assumption) (by decide) (fun _ => rfl) (by decide) (by omega) (by omega) (fun w hw => ?_)
  refine fi_step (pc' := 8) m_Mo_clear rfl rfl ?_
  refine r_get (p := 11) m_Mo_clear rfl rfl (by assumption) rfl ?_
  refine fi_step (pc' := 12) m_Mo_clear rfl rfl ?_
  refine fi_step (pc' := 13) m_Mo_clear rfl rfl ?_
  refine r_stI (p := 14) m_Mo_clear rfl rfl (by assumption) (by decide) (fun _ => rfl) (by decide) (by omega) (by omega) (fun w hw => ?_)
  refine s_bipush (p := 16) m_Mo_clear rfl rfl rfl ?_
  refine fi_step (pc' := 17) m_Mo_clear rfl rfl ?_
  refine s_imul (p := 18) m_Mo_clear rfl rfl ?_
  refine fi_step (pc' := 20) m_Mo_clear rfl rfl ?_
  refine fi_mono (clear_loop m0 m1 36 _ w _ hw (by omega) (by omega) (by omega) (fun _ _ => rfl) (fun x => by rw [if_neg (by omega)])) ?_
  rintro o w' ⟨v, rfl, hv, s', g1, g2, g3⟩
  refine ⟨v, rfl, hv, s', g1, fun a h4 h5 h6 => by rw [g2 a h4, up_ne _ h6, up_ne _ h5], by rw [g2 5 (by decide), up_ne _ (by decide), up_same], by rw [g2 6 (by decide), up_same, up_ne _ (by decide)], ?_⟩
  rw [g3]; funext x
  unfold newN
  by_cases e : 36 * m ≤ x ∧ x < 36 * m + 36
  · rw [if_pos e, if_pos e]; split <;> rfl
  · rw [if_neg e, if_neg e, up_ne _ (by decide), up_ne _ (by decide)]
theorem c_make {m r c : Int} {w : ax_W} {s : mo_S} (hfr : 1 ≤ fr) (hlo : 24 ≤ lo) (hw : RW w0 w s) (m0 : -2147483648 ≤ m) (m1 : m < 2147483648) (r0 : -2147483648 ≤ r) (r1 : r < 2147483648) (c0 : -2147483648 ≤ c) (c1 : c < 2147483648) :
    fin xs fr lo 119 0 (ax_ent [.ref 425, .int (jI m), .int (jI r), .int (jI c)] 4) [] w (Ret fun v w' => v = none ∧ ∃ s', RW w0 w' s' ∧ (∀ a, a ≠ 0 → a ≠ 4 → a ≠ 5 → a ≠ 6 → s' a = s a) ∧ (∀ i, i ≠ 0 → s' 0 i = s 0 i) ∧
      if ¬ (0 ≤ m ∧ m < 6) then s' 0 0 = 1 ∧ keepM s s' else if ¬ (1 ≤ r ∧ r ≤ 6 ∧ 1 ≤ c ∧ c ≤ 6) then s' 0 0 = 2 ∧ keepM s s' else s' 0 0 = 0 ∧ s' 5 = up1 (s 5) m r ∧ s' 6 = up1 (s 6) m c ∧ s' 4 = newN (s 4) m 0 0 (fun _ _ => 0)) := by
  have bad : ∀ (t : Int) (w1 : ax_W), (t = 1 ∧ ¬ (0 ≤ m ∧ m < 6)) ∨ (t = 2 ∧ (0 ≤ m ∧ m < 6) ∧ ¬ (1 ≤ r ∧ r ≤ 6 ∧ 1 ≤ c ∧ c ≤ 6)) → RW w0 w1 s → fin xs fr lo 119 40 (ax_ent [.ref 425, .int (jI m), .int (jI r), .int (jI c)] 4) [.int (jI t), .ref 425] w1 (Ret fun v w' => v = none ∧ ∃ s', RW w0 w' s' ∧ (∀ a, a ≠ 0 → a ≠ 4 → a ≠ 5 → a ≠ 6 → s' a = s a) ∧ (∀ i, i ≠ 0 → s' 0 i = s 0 i) ∧
      if ¬ (0 ≤ m ∧ m < 6) then s' 0 0 = 1 ∧ keepM s s' else if ¬ (1 ≤ r ∧ r ≤ 6 ∧ 1 ≤ c ∧ c ≤ 6) then s' 0 0 = 2 ∧ keepM s s' else s' 0 0 = 0 ∧ s' 5 = up1 (s 5) m r ∧ s' 6 = up1 (s 6) m c ∧ s' 4 = newN (s 4) m 0 0 (fun _ _ => 0)) := by
    intro t w1 ht hw
    have e0 : up s 0 0 t 0 0 = t := by rw [up_same, up1_same]
    refine r_put (p := 43) 0 m_Mo_make rfl rfl (by assumption) (r_put0 _ _) rfl (fun w hw => ?_)
    refine fi_step (pc' := 44) m_Mo_make rfl rfl ?_
    refine r_get (p := 47) m_Mo_make rfl rfl (by assumption) rfl ?_
    refine s_if_ne (p := 50) m_Mo_make rfl rfl (by omega) (by omega) (fun hbr => ?_) (fun hbr => False.elim (by omega))
    refine p_ret m_Mo_make rfl rfl ?_
    refine ⟨rfl, _, hw, fun a h _ _ _ => up_ne _ h _ _, fun i hi => by rw [up_same, up1_ne _ hi], ?_⟩
    rcases ht with ⟨rfl, h⟩ | ⟨rfl, h, h'⟩
    · rw [if_pos h]; exact ⟨e0, up_ne _ (by decide) _ _, up_ne _ (by decide) _ _, up_ne _ (by decide) _ _⟩
    · rw [if_neg (by omega), if_pos h']; exact ⟨e0, up_ne _ (by decide) _ _, up_ne _ (by decide) _ _, up_ne _ (by decide) _ _⟩
  refine fi_step (pc' := 1) m_Mo_make rfl rfl ?_
  refine fi_step (pc' := 2) m_Mo_make rfl rfl ?_
  refine fi_step (pc' := 3) m_Mo_make rfl rfl ?_
  refine c_2 (p := 6) m_Mo_make rfl inv_v (by decide) m_Mo_isMatrix rfl rfl (by omega) (by omega) (Nat.le_of_ble_eq_true rfl) (Nat.le_of_ble_eq_true rfl) (RW_rcv hw _) (c_isMatrix m0 m1) ?_
  by_cases hm : 0 ≤ m ∧ m < 6
  · rw [if_pos hm]
    refine s_if_ne (p := 9) m_Mo_make rfl rfl (by omega) (by omega) (fun hbr => ?_) (fun hbr => False.elim (by omega))
    refine fi_step (pc' := 14) m_Mo_make rfl rfl ?_
    refine fi_step (pc' := 15) m_Mo_make rfl rfl ?_
    refine s_ic_lt (p := 18) m_Mo_make rfl rfl (by omega) (by omega) (by omega) (by omega) (fun h1 => ?_) (fun h1 => ?_)
    · refine fi_step (pc' := 36) m_Mo_make rfl rfl ?_
      refine fi_step (pc' := 40) m_Mo_make rfl rfl ?_
      exact bad 2 w (Or.inr ⟨rfl, hm, by omega⟩) hw
    · refine fi_step (pc' := 19) m_Mo_make rfl rfl ?_
      refine s_bipush (p := 21) m_Mo_make rfl rfl rfl ?_
      refine s_ic_gt (p := 24) m_Mo_make rfl rfl (by omega) (by omega) (by omega) (by omega) (fun h2 => ?_) (fun h2 => ?_)
      · refine fi_step (pc' := 36) m_Mo_make rfl rfl ?_
        refine fi_step (pc' := 40) m_Mo_make rfl rfl ?_
        exact bad 2 w (Or.inr ⟨rfl, hm, by omega⟩) hw
      · refine fi_step (pc' := 25) m_Mo_make rfl rfl ?_
        refine fi_step (pc' := 26) m_Mo_make rfl rfl ?_
        refine s_ic_lt (p := 29) m_Mo_make rfl rfl (by omega) (by omega) (by omega) (by omega) (fun h3 => ?_) (fun h3 => ?_)
        · refine fi_step (pc' := 36) m_Mo_make rfl rfl ?_
          refine fi_step (pc' := 40) m_Mo_make rfl rfl ?_
          exact bad 2 w (Or.inr ⟨rfl, hm, by omega⟩) hw
        · refine fi_step (pc' := 30) m_Mo_make rfl rfl ?_
          refine s_bipush (p := 32) m_Mo_make rfl rfl rfl ?_
          refine s_ic_le (p := 35) m_Mo_make rfl rfl (by omega) (by omega) (by omega) (by omega) (fun h4 => ?_) (fun h4 => ?_)
          · have e0 : up s 0 0 0 0 0 = 0 := by rw [up_same, up1_same]
            refine fi_step (pc' := 40) m_Mo_make rfl rfl ?_
            refine r_put (p := 43) 0 m_Mo_make rfl rfl (by assumption) (r_put0 _ _) rfl (fun w hw => ?_)
            refine fi_step (pc' := 44) m_Mo_make rfl rfl ?_
            refine r_get (p := 47) m_Mo_make rfl rfl (by assumption) rfl ?_
            refine s_if_ne (p := 50) m_Mo_make rfl rfl (by omega) (by omega) (fun hbr => False.elim (by omega)) (fun hbr => ?_)
            refine fi_step (pc' := 51) m_Mo_make rfl rfl ?_
            refine fi_step (pc' := 52) m_Mo_make rfl rfl ?_
            refine fi_step (pc' := 53) m_Mo_make rfl rfl ?_
            refine fi_step (pc' := 54) m_Mo_make rfl rfl ?_
            refine g_4 (p := 57) m_Mo_make rfl inv_v (by decide) m_Mo_clear rfl rfl (by omega) (by omega) (Nat.le_of_ble_eq_true rfl) (Nat.le_of_ble_eq_true rfl) (RW_rcv hw _) (c_clear hw hm.1 hm.2) (fun v w hP => ?_)
            obtain ⟨rfl, s', g1, g2, g3, g4, g5⟩ := hP
            refine p_ret m_Mo_make rfl rfl ?_
            refine ⟨rfl, s', g1, fun a h h4 h5 h6 => by rw [g2 a h4 h5 h6, up_ne _ h], fun i hi => by rw [g2 0 (by decide) (by decide) (by decide), up_same, up1_ne _ hi], ?_⟩
            rw [if_neg (by omega), if_neg (by omega)]
            refine ⟨by rw [g2 0 (by decide) (by decide) (by decide)]; exact e0, by rw [g3, up_ne _ (by decide)], by rw [g4, up_ne _ (by decide)], by rw [g5, up_ne _ (by decide)]⟩
          · refine fi_step (pc' := 36) m_Mo_make rfl rfl ?_
            refine fi_step (pc' := 40) m_Mo_make rfl rfl ?_
            exact bad 2 w (Or.inr ⟨rfl, hm, by omega⟩) hw
  · rw [if_neg hm]
    refine s_if_ne (p := 9) m_Mo_make rfl rfl (by omega) (by omega) (fun hbr => False.elim (by omega)) (fun hbr => ?_)
    refine fi_step (pc' := 10) m_Mo_make rfl rfl ?_
    refine fi_step (pc' := 40) m_Mo_make rfl rfl ?_
    exact bad 1 w (Or.inl ⟨rfl, hm⟩) hw
theorem c_put {m i j v : Int} {w : ax_W} {s : mo_S} (hfr : 2 ≤ fr) (hlo : 80 ≤ lo) (hw : RW w0 w s) (hM : MI s) (m0 : -2147483648 ≤ m) (m1 : m < 2147483648) (i0 : -2147483648 ≤ i) (i1 : i < 2147483648) (j0 : -2147483648 ≤ j) (j1 : j < 2147483648) (v0 : -9223372036854775808 ≤ v) (v1 : v < 9223372036854775808) :
    fin xs fr lo 122 0 (ax_ent [.ref 425, .int (jI m), .int (jI i), .int (jI j), .long (jL v)] 6) [] w (Ret fun u w' => u = none ∧ ∃ s', RW w0 w' s' ∧ (∀ a, a ≠ 0 → a ≠ 4 → s' a = s a) ∧ (∀ i, i ≠ 0 → s' 0 i = s 0 i) ∧
      if ¬ ((0 ≤ m ∧ m < 6) ∧ (0 ≤ i ∧ i < s 5 m) ∧ 0 ≤ j ∧ j < s 6 m) then s' 0 0 = 1 ∧ s' 4 = s 4 else if v ≤ -1000000000000000000 ∨ 1000000000000000000 ≤ v then s' 0 0 = 2 ∧ s' 4 = s 4 else s' 0 0 = 0 ∧ s' 4 = up1 (s 4) (36 * m + 6 * i + j) v) := by
  have bad : ∀ (t : Int) (w1 : ax_W), (t = 1 ∧ ¬ ((0 ≤ m ∧ m < 6) ∧ (0 ≤ i ∧ i < s 5 m) ∧ 0 ≤ j ∧ j < s 6 m)) ∨ (t = 2 ∧ ((0 ≤ m ∧ m < 6) ∧ (0 ≤ i ∧ i < s 5 m) ∧ 0 ≤ j ∧ j < s 6 m) ∧ (v ≤ -1000000000000000000 ∨ 1000000000000000000 ≤ v)) → RW w0 w1 s → fin xs fr lo 122 38 (ax_ent [.ref 425, .int (jI m), .int (jI i), .int (jI j), .long (jL v)] 6) [.int (jI t), .ref 425] w1 (Ret fun u w' => u = none ∧ ∃ s', RW w0 w' s' ∧ (∀ a, a ≠ 0 → a ≠ 4 → s' a = s a) ∧ (∀ i, i ≠ 0 → s' 0 i = s 0 i) ∧
      if ¬ ((0 ≤ m ∧ m < 6) ∧ (0 ≤ i ∧ i < s 5 m) ∧ 0 ≤ j ∧ j < s 6 m) then s' 0 0 = 1 ∧ s' 4 = s 4 else if v ≤ -1000000000000000000 ∨ 1000000000000000000 ≤ v then s' 0 0 = 2 ∧ s' 4 = s 4 else s' 0 0 = 0 ∧ s' 4 = up1 (s 4) (36 * m + 6 * i + j) v) := by
    intro t w1 ht hw
    have e0 : up s 0 0 t 0 0 = t := by rw [up_same, up1_same]
    refine r_put (p := 41) 0 m_Mo_put rfl rfl (by assumption) (r_put0 _ _) rfl (fun w hw => ?_)
    refine fi_step (pc' := 42) m_Mo_put rfl rfl ?_
    refine r_get (p := 45) m_Mo_put rfl rfl (by assumption) rfl ?_
    refine s_if_ne (p := 48) m_Mo_put rfl rfl (by omega) (by omega) (fun hbr => ?_) (fun hbr => False.elim (by omega))
    refine p_ret m_Mo_put rfl rfl ?_
    refine ⟨rfl, _, hw, fun a h _ => up_ne _ h _ _, fun i hi => by rw [up_same, up1_ne _ hi], ?_⟩
    rcases ht with ⟨rfl, h⟩ | ⟨rfl, h, h'⟩
    · rw [if_pos h]; exact ⟨e0, up_ne _ (by decide) _ _⟩
    · rw [if_neg (fun q => q h), if_pos h']; exact ⟨e0, up_ne _ (by decide) _ _⟩
  refine fi_step (pc' := 1) m_Mo_put rfl rfl ?_
  refine fi_step (pc' := 2) m_Mo_put rfl rfl ?_
  refine fi_step (pc' := 3) m_Mo_put rfl rfl ?_
  refine fi_step (pc' := 4) m_Mo_put rfl rfl ?_
  refine fi_step (pc' := 5) m_Mo_put rfl rfl ?_
  refine c_4 (p := 8) m_Mo_put rfl inv_v (by decide) m_Mo_isPlace rfl rfl (by omega) (by omega) (Nat.le_of_ble_eq_true rfl) (Nat.le_of_ble_eq_true rfl) (RW_rcv hw _) (c_isPlace hw (by omega) (by omega) m0 m1 i0 i1 j0 j1 hM.1 hM.2.1) ?_
  by_cases hp : (0 ≤ m ∧ m < 6) ∧ (0 ≤ i ∧ i < s 5 m) ∧ 0 ≤ j ∧ j < s 6 m
  · have hr := hM.1 m hp.1.1 hp.1.2
    have hc := hM.2.1 m hp.1.1 hp.1.2
    rw [if_pos hp]
    refine s_if_ne (p := 11) m_Mo_put rfl rfl (by omega) (by omega) (fun hbr => ?_) (fun hbr => False.elim (by omega))
    refine fi_step (pc' := 17) m_Mo_put rfl rfl ?_
    refine s_ldc2 (p := 20) (-1000000000000000000) m_Mo_put rfl rfl rfl ?_
    refine s_lc_le (q := 21) (p := 24) m_Mo_put rfl rfl rfl rfl (by omega) (by omega) (by omega) (by omega) (fun h1 => ?_) (fun h1 => ?_)
    · refine fi_step (pc' := 34) m_Mo_put rfl rfl ?_
      refine fi_step (pc' := 38) m_Mo_put rfl rfl ?_
      exact bad 2 w (Or.inr ⟨rfl, hp, by omega⟩) hw
    · refine fi_step (pc' := 26) m_Mo_put rfl rfl ?_
      refine s_ldc2 (p := 29) 1000000000000000000 m_Mo_put rfl rfl rfl ?_
      refine s_lc_lt (q := 30) (p := 33) m_Mo_put rfl rfl rfl rfl (by omega) (by omega) (by omega) (by omega) (fun h2 => ?_) (fun h2 => ?_)
      · have e0 : up s 0 0 0 0 0 = 0 := by rw [up_same, up1_same]
        refine fi_step (pc' := 38) m_Mo_put rfl rfl ?_
        refine r_put (p := 41) 0 m_Mo_put rfl rfl (by assumption) (r_put0 _ _) rfl (fun w hw => ?_)
        refine fi_step (pc' := 42) m_Mo_put rfl rfl ?_
        refine r_get (p := 45) m_Mo_put rfl rfl (by assumption) rfl ?_
        refine s_if_ne (p := 48) m_Mo_put rfl rfl (by omega) (by omega) (fun hbr => False.elim (by omega)) (fun hbr => ?_)
        refine fi_step (pc' := 49) m_Mo_put rfl rfl ?_
        refine r_get (p := 52) m_Mo_put rfl rfl (by assumption) rfl ?_
        refine s_bipush (p := 54) m_Mo_put rfl rfl rfl ?_
        refine fi_step (pc' := 55) m_Mo_put rfl rfl ?_
        refine s_imul (p := 56) m_Mo_put rfl rfl ?_
        refine s_bipush (p := 58) m_Mo_put rfl rfl rfl ?_
        refine fi_step (pc' := 59) m_Mo_put rfl rfl ?_
        refine s_imul (p := 60) m_Mo_put rfl rfl ?_
        refine s_iadd (p := 61) m_Mo_put rfl rfl ?_
        refine fi_step (pc' := 62) m_Mo_put rfl rfl ?_
        refine s_iadd (p := 63) m_Mo_put rfl rfl ?_
        refine fi_step (pc' := 65) m_Mo_put rfl rfl ?_
        refine r_stL (p := 66) m_Mo_put rfl rfl (by assumption) (by decide) (fun _ => rfl) (by decide) (by omega) (by omega) (fun w hw => ?_)
        refine p_ret m_Mo_put rfl rfl ?_
        refine ⟨rfl, _, hw, fun a h h4 => by rw [up_ne _ h4, up_ne _ h], fun i hi => by rw [up_ne _ (by decide), up_same, up1_ne _ hi], ?_⟩
        rw [if_neg (fun q => q hp), if_neg (by omega)]
        exact ⟨by rw [up_ne _ (by decide)]; exact e0, by rw [up_same, up_ne _ (by decide)]⟩
      · refine fi_step (pc' := 34) m_Mo_put rfl rfl ?_
        refine fi_step (pc' := 38) m_Mo_put rfl rfl ?_
        exact bad 2 w (Or.inr ⟨rfl, hp, by omega⟩) hw
  · rw [if_neg hp]
    refine s_if_ne (p := 11) m_Mo_put rfl rfl (by omega) (by omega) (fun hbr => False.elim (by omega)) (fun hbr => ?_)
    refine fi_step (pc' := 12) m_Mo_put rfl rfl ?_
    refine fi_step (pc' := 38) m_Mo_put rfl rfl ?_
    exact bad 1 w (Or.inl ⟨rfl, hp⟩) hw
theorem c_at {m i j : Int} {w : ax_W} {s : mo_S} (hfr : 2 ≤ fr) (hlo : 80 ≤ lo) (hw : RW w0 w s) (hM : MI s) (m0 : -2147483648 ≤ m) (m1 : m < 2147483648) (i0 : -2147483648 ≤ i) (i1 : i < 2147483648) (j0 : -2147483648 ≤ j) (j1 : j < 2147483648) :
    fin xs fr lo 124 0 (ax_ent [.ref 425, .int (jI m), .int (jI i), .int (jI j)] 4) [] w (Ret fun u w' => RW w0 w' (up s 0 0 (if (0 ≤ m ∧ m < 6) ∧ (0 ≤ i ∧ i < s 5 m) ∧ 0 ≤ j ∧ j < s 6 m then 0 else 1)) ∧ u = some (.long (jL (if (0 ≤ m ∧ m < 6) ∧ (0 ≤ i ∧ i < s 5 m) ∧ 0 ≤ j ∧ j < s 6 m then s 4 (36 * m + 6 * i + j) else 0)))) := by
  refine fi_step (pc' := 1) m_Mo_at rfl rfl ?_
  refine fi_step (pc' := 2) m_Mo_at rfl rfl ?_
  refine fi_step (pc' := 3) m_Mo_at rfl rfl ?_
  refine fi_step (pc' := 4) m_Mo_at rfl rfl ?_
  refine fi_step (pc' := 5) m_Mo_at rfl rfl ?_
  refine c_4 (p := 8) m_Mo_at rfl inv_v (by decide) m_Mo_isPlace rfl rfl (by omega) (by omega) (Nat.le_of_ble_eq_true rfl) (Nat.le_of_ble_eq_true rfl) (RW_rcv hw _) (c_isPlace hw (by omega) (by omega) m0 m1 i0 i1 j0 j1 hM.1 hM.2.1) ?_
  by_cases hp : (0 ≤ m ∧ m < 6) ∧ (0 ≤ i ∧ i < s 5 m) ∧ 0 ≤ j ∧ j < s 6 m
  · have hr := hM.1 m hp.1.1 hp.1.2
    have hc := hM.2.1 m hp.1.1 hp.1.2
    have e0 : up s 0 0 0 0 0 = 0 := by rw [up_same, up1_same]
    rw [if_pos hp, if_pos hp]
    refine s_if_eq (p := 11) m_Mo_at rfl rfl (by omega) (by omega) (fun hbr => False.elim (by omega)) (fun hbr => ?_)
    refine fi_step (pc' := 12) m_Mo_at rfl rfl ?_
    refine fi_step (pc' := 16) m_Mo_at rfl rfl ?_
    refine r_put (p := 19) 0 m_Mo_at rfl rfl (by assumption) (r_put0 _ _) rfl (fun w hw => ?_)
    refine fi_step (pc' := 20) m_Mo_at rfl rfl ?_
    refine r_get (p := 23) m_Mo_at rfl rfl (by assumption) rfl ?_
    refine s_if_le (p := 26) m_Mo_at rfl rfl (by omega) (by omega) (fun hbr => ?_) (fun hbr => False.elim (by omega))
    refine fi_step (pc' := 31) m_Mo_at rfl rfl ?_
    refine fi_step (pc' := 32) m_Mo_at rfl rfl ?_
    refine fi_step (pc' := 33) m_Mo_at rfl rfl ?_
    refine fi_step (pc' := 34) m_Mo_at rfl rfl ?_
    refine c_4 (p := 37) m_Mo_at rfl inv_v (by decide) m_Mo_number rfl rfl (by omega) (by omega) (Nat.le_of_ble_eq_true rfl) (Nat.le_of_ble_eq_true rfl) (RW_rcv hw _) (c_number hw hp.1.1 hp.1.2 (by omega) (by omega) (by omega) (by omega)) ?_
    refine p_retl m_Mo_at rfl rfl ?_
    rw [if_pos hp, up_ne _ (by decide)]
    exact ⟨hw, rfl⟩
  · have e0 : up s 0 0 1 0 0 = 1 := by rw [up_same, up1_same]
    rw [if_neg hp, if_neg hp]
    refine s_if_eq (p := 11) m_Mo_at rfl rfl (by omega) (by omega) (fun hbr => ?_) (fun hbr => False.elim (by omega))
    refine fi_step (pc' := 16) m_Mo_at rfl rfl ?_
    refine r_put (p := 19) 0 m_Mo_at rfl rfl (by assumption) (r_put0 _ _) rfl (fun w hw => ?_)
    refine fi_step (pc' := 20) m_Mo_at rfl rfl ?_
    refine r_get (p := 23) m_Mo_at rfl rfl (by assumption) rfl ?_
    refine s_if_le (p := 26) m_Mo_at rfl rfl (by omega) (by omega) (fun hbr => False.elim (by omega)) (fun hbr => ?_)
    refine s_lconst (p := 27) (v := 0) m_Mo_at rfl rfl rfl ?_
    refine fi_step (pc' := 37) m_Mo_at rfl rfl ?_
    refine p_retl m_Mo_at rfl rfl ?_
    rw [if_neg hp]
    exact ⟨hw, rfl⟩
theorem c_size {m q : Int} {w : ax_W} {s : mo_S} (hfr : 1 ≤ fr) (hlo : 30 ≤ lo) (hw : RW w0 w s) (hM : MI s) (m0 : -2147483648 ≤ m) (m1 : m < 2147483648) (q0 : -2147483648 ≤ q) (q1 : q < 2147483648) :
    fin xs fr lo 126 0 (ax_ent [.ref 425, .int (jI m), .int (jI q)] 3) [] w (Ret fun u w' => RW w0 w' (up s 0 0 0) ∧ u = some (.int (jI (if 0 ≤ m ∧ m < 6 then (if q = 0 then s 5 m else if q = 1 then s 6 m else -1) else -1)))) := by
  refine fi_step (pc' := 1) m_Mo_size rfl rfl ?_
  refine fi_step (pc' := 2) m_Mo_size rfl rfl ?_
  refine r_put (p := 5) 0 m_Mo_size rfl rfl (by assumption) (r_put0 _ _) rfl (fun w hw => ?_)
  refine fi_step (pc' := 6) m_Mo_size rfl rfl ?_
  refine fi_step (pc' := 7) m_Mo_size rfl rfl ?_
  refine c_2 (p := 10) m_Mo_size rfl inv_v (by decide) m_Mo_isMatrix rfl rfl (by omega) (by omega) (Nat.le_of_ble_eq_true rfl) (Nat.le_of_ble_eq_true rfl) (RW_rcv hw _) (c_isMatrix m0 m1) ?_
  by_cases hm : 0 ≤ m ∧ m < 6
  · have hr := hM.1 m hm.1 hm.2
    have hc := hM.2.1 m hm.1 hm.2
    have e5 : up s 0 0 0 5 = s 5 := up_ne _ (by decide) _ _
    have e6 : up s 0 0 0 6 = s 6 := up_ne _ (by decide) _ _
    rw [if_pos hm, if_pos hm]
    refine s_if_ne (p := 13) m_Mo_size rfl rfl (by omega) (by omega) (fun hbr => ?_) (fun hbr => False.elim (by omega))
    refine fi_step (pc' := 18) m_Mo_size rfl rfl ?_
    refine s_if_ne (p := 21) m_Mo_size rfl rfl (by omega) (by omega) (fun h1 => ?_) (fun h1 => ?_)
    · refine fi_step (pc' := 31) m_Mo_size rfl rfl ?_
      refine fi_step (pc' := 32) m_Mo_size rfl rfl ?_
      refine s_ic_ne (p := 35) m_Mo_size rfl rfl (by omega) (by omega) (by omega) (by omega) (fun h2 => ?_) (fun h2 => ?_)
      · refine fi_step (pc' := 45) m_Mo_size rfl rfl ?_
        refine p_reti m_Mo_size rfl rfl ?_
        rw [if_neg h1, if_neg h2]; exact ⟨hw, rfl⟩
      · refine fi_step (pc' := 36) m_Mo_size rfl rfl ?_
        refine r_get (p := 39) m_Mo_size rfl rfl (by assumption) rfl ?_
        refine fi_step (pc' := 40) m_Mo_size rfl rfl ?_
        refine r_ldI (p := 41) m_Mo_size rfl rfl (by assumption) (by decide) rfl (by decide) (by omega) (by omega) ?_
        refine fi_step (pc' := 45) m_Mo_size rfl rfl ?_
        refine p_reti m_Mo_size rfl rfl ?_
        rw [if_neg h1, if_pos h2, e6]; exact ⟨hw, rfl⟩
    · refine fi_step (pc' := 22) m_Mo_size rfl rfl ?_
      refine r_get (p := 25) m_Mo_size rfl rfl (by assumption) rfl ?_
      refine fi_step (pc' := 26) m_Mo_size rfl rfl ?_
      refine r_ldI (p := 27) m_Mo_size rfl rfl (by assumption) (by decide) rfl (by decide) (by omega) (by omega) ?_
      refine fi_step (pc' := 45) m_Mo_size rfl rfl ?_
      refine p_reti m_Mo_size rfl rfl ?_
      rw [if_pos h1, e5]; exact ⟨hw, rfl⟩
  · rw [if_neg hm, if_neg hm]
    refine s_if_ne (p := 13) m_Mo_size rfl rfl (by omega) (by omega) (fun hbr => False.elim (by omega)) (fun hbr => ?_)
    refine fi_step (pc' := 14) m_Mo_size rfl rfl ?_
    refine fi_step (pc' := 45) m_Mo_size rfl rfl ?_
    refine p_reti m_Mo_size rfl rfl ?_
    exact ⟨hw, rfl⟩
theorem c_areThere {a b c : Int} {w : ax_W} {s : mo_S} (hfr : 1 ≤ fr) (hlo : 30 ≤ lo) (hw : RW w0 w s) (a0 : -2147483648 ≤ a) (a1 : a < 2147483648) (b0 : -2147483648 ≤ b) (b1 : b < 2147483648) (c0 : -2147483648 ≤ c) (c1 : c < 2147483648) :
    fin xs fr lo 128 0 (ax_ent [.ref 425, .int (jI a), .int (jI b), .int (jI c)] 4) [] w (Ret fun u w' => RW w0 w' (up s 0 0 (if (0 ≤ a ∧ a < 6) ∧ (0 ≤ b ∧ b < 6) ∧ (0 ≤ c ∧ c < 6) then 0 else 1)) ∧ u = some (.int (jI (if (0 ≤ a ∧ a < 6) ∧ (0 ≤ b ∧ b < 6) ∧ (0 ≤ c ∧ c < 6) then 1 else 0)))) := by
  have bad : ∀ (w1 : ax_W), ¬ ((0 ≤ a ∧ a < 6) ∧ (0 ≤ b ∧ b < 6) ∧ (0 ≤ c ∧ c < 6)) → RW w0 w1 s → fin xs fr lo 128 29 (ax_ent [.ref 425, .int (jI a), .int (jI b), .int (jI c)] 4) [.ref 425] w1 (Ret fun u w' => RW w0 w' (up s 0 0 (if (0 ≤ a ∧ a < 6) ∧ (0 ≤ b ∧ b < 6) ∧ (0 ≤ c ∧ c < 6) then 0 else 1)) ∧ u = some (.int (jI (if (0 ≤ a ∧ a < 6) ∧ (0 ≤ b ∧ b < 6) ∧ (0 ≤ c ∧ c < 6) then 1 else 0)))) := by
    intro w1 h hw
    have e0 : up s 0 0 1 0 0 = 1 := by rw [up_same, up1_same]
    rw [if_neg h, if_neg h]
    refine fi_step (pc' := 30) m_Mo_areThere rfl rfl ?_
    refine r_put (p := 33) 0 m_Mo_areThere rfl rfl (by assumption) (r_put0 _ _) rfl (fun w hw => ?_)
    refine fi_step (pc' := 34) m_Mo_areThere rfl rfl ?_
    refine r_get (p := 37) m_Mo_areThere rfl rfl (by assumption) rfl ?_
    refine s_if_ne (p := 40) m_Mo_areThere rfl rfl (by omega) (by omega) (fun hbr => ?_) (fun hbr => False.elim (by omega))
    refine fi_step (pc' := 45) m_Mo_areThere rfl rfl ?_
    refine p_retb m_Mo_areThere rfl rfl (by first | exact Or.inl rfl | exact Or.inr rfl | omega) ?_
    exact ⟨hw, rfl⟩
  refine fi_step (pc' := 1) m_Mo_areThere rfl rfl ?_
  refine fi_step (pc' := 2) m_Mo_areThere rfl rfl ?_
  refine fi_step (pc' := 3) m_Mo_areThere rfl rfl ?_
  refine c_2 (p := 6) m_Mo_areThere rfl inv_v (by decide) m_Mo_isMatrix rfl rfl (by omega) (by omega) (Nat.le_of_ble_eq_true rfl) (Nat.le_of_ble_eq_true rfl) (RW_rcv hw _) (c_isMatrix a0 a1) ?_
  by_cases ha : 0 ≤ a ∧ a < 6
  · rw [if_pos ha]
    refine s_if_eq (p := 9) m_Mo_areThere rfl rfl (by omega) (by omega) (fun hbr => False.elim (by omega)) (fun hbr => ?_)
    refine fi_step (pc' := 10) m_Mo_areThere rfl rfl ?_
    refine fi_step (pc' := 11) m_Mo_areThere rfl rfl ?_
    refine c_2 (p := 14) m_Mo_areThere rfl inv_v (by decide) m_Mo_isMatrix rfl rfl (by omega) (by omega) (Nat.le_of_ble_eq_true rfl) (Nat.le_of_ble_eq_true rfl) (RW_rcv hw _) (c_isMatrix b0 b1) ?_
    by_cases hb : 0 ≤ b ∧ b < 6
    · rw [if_pos hb]
      refine s_if_eq (p := 17) m_Mo_areThere rfl rfl (by omega) (by omega) (fun hbr => False.elim (by omega)) (fun hbr => ?_)
      refine fi_step (pc' := 18) m_Mo_areThere rfl rfl ?_
      refine fi_step (pc' := 19) m_Mo_areThere rfl rfl ?_
      refine c_2 (p := 22) m_Mo_areThere rfl inv_v (by decide) m_Mo_isMatrix rfl rfl (by omega) (by omega) (Nat.le_of_ble_eq_true rfl) (Nat.le_of_ble_eq_true rfl) (RW_rcv hw _) (c_isMatrix c0 c1) ?_
      by_cases hc : 0 ≤ c ∧ c < 6
      · have e0 : up s 0 0 0 0 0 = 0 := by rw [up_same, up1_same]
        rw [if_pos hc, if_pos ⟨ha, hb, hc⟩, if_pos ⟨ha, hb, hc⟩]
        refine s_if_eq (p := 25) m_Mo_areThere rfl rfl (by omega) (by omega) (fun hbr => False.elim (by omega)) (fun hbr => ?_)
        refine fi_step (pc' := 26) m_Mo_areThere rfl rfl ?_
        refine fi_step (pc' := 30) m_Mo_areThere rfl rfl ?_
        refine r_put (p := 33) 0 m_Mo_areThere rfl rfl (by assumption) (r_put0 _ _) rfl (fun w hw => ?_)
        refine fi_step (pc' := 34) m_Mo_areThere rfl rfl ?_
        refine r_get (p := 37) m_Mo_areThere rfl rfl (by assumption) rfl ?_
        refine s_if_ne (p := 40) m_Mo_areThere rfl rfl (by omega) (by omega) (fun hbr => False.elim (by omega)) (fun hbr => ?_)
        refine fi_step (pc' := 41) m_Mo_areThere rfl rfl ?_
        refine fi_step (pc' := 45) m_Mo_areThere rfl rfl ?_
        refine p_retb m_Mo_areThere rfl rfl (by first | exact Or.inl rfl | exact Or.inr rfl | omega) ?_
        exact ⟨hw, rfl⟩
      · rw [if_neg hc]
        refine s_if_eq (p := 25) m_Mo_areThere rfl rfl (by omega) (by omega) (fun hbr => ?_) (fun hbr => False.elim (by omega))
        exact bad w (fun q => hc q.2.2) hw
    · rw [if_neg hb]
      refine s_if_eq (p := 17) m_Mo_areThere rfl rfl (by omega) (by omega) (fun hbr => ?_) (fun hbr => False.elim (by omega))
      exact bad w (fun q => hb q.2.1) hw
  · rw [if_neg ha]
    refine s_if_eq (p := 9) m_Mo_areThere rfl rfl (by omega) (by omega) (fun hbr => ?_) (fun hbr => False.elim (by omega))
    exact bad w (fun q => ha q.1) hw
end MAT
end
