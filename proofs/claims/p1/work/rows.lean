section
-- ===== PART A: goes FIRST, ahead of the names: the tables' words, and 'selects' of the private methods out of them =====
/-- a private method of a class that the tables say can be made, by its rows of tables_1 -/
def lw_okq (q : MethodName × Nat) : Prop := (q.1.cls ≠ "java/lang/invoke/MethodHandle" ∧ q.1.cls ≠ "java/lang/invoke/VarHandle") ∧ Cond.instantiable q.1.cls q.2 ∈ tables_1 ∧ Cond.privateMethod q.1 ∈ tables_1 ∧ Cond.instanceMethod q.1 ∈ tables_1
theorem lw_p0 : lw_okq (⟨"UnwindTower", "refresh", "()V"⟩, 12) := ⟨⟨by decide +kernel, by decide +kernel⟩, List.mem_of_getElem? (i := 47) (by decide +kernel), List.mem_of_getElem? (i := 545) (by decide +kernel), List.mem_of_getElem? (i := 546) (by decide +kernel)⟩
theorem lw_p1 : lw_okq (⟨"UnwindTower$Program", "deriveFromAround", "(I)V"⟩, 19) := ⟨⟨by decide +kernel, by decide +kernel⟩, List.mem_of_getElem? (i := 55) (by decide +kernel), List.mem_of_getElem? (i := 553) (by decide +kernel), List.mem_of_getElem? (i := 554) (by decide +kernel)⟩
theorem lw_p2 : lw_okq (⟨"UnwindTower$Program", "canOf", "(I)I"⟩, 19) := ⟨⟨by decide +kernel, by decide +kernel⟩, List.mem_of_getElem? (i := 55) (by decide +kernel), List.mem_of_getElem? (i := 561) (by decide +kernel), List.mem_of_getElem? (i := 562) (by decide +kernel)⟩
theorem lw_p3 : lw_okq (⟨"UnwindTower$Program", "toldOf", "(I)I"⟩, 19) := ⟨⟨by decide +kernel, by decide +kernel⟩, List.mem_of_getElem? (i := 55) (by decide +kernel), List.mem_of_getElem? (i := 565) (by decide +kernel), List.mem_of_getElem? (i := 566) (by decide +kernel)⟩
theorem lw_p4 : lw_okq (⟨"UnwindTower$Program", "canOfPart", "(I)I"⟩, 19) := ⟨⟨by decide +kernel, by decide +kernel⟩, List.mem_of_getElem? (i := 55) (by decide +kernel), List.mem_of_getElem? (i := 569) (by decide +kernel), List.mem_of_getElem? (i := 570) (by decide +kernel)⟩
theorem lw_p5 : lw_okq (⟨"UnwindTower$Program", "canOfTry", "(I)I"⟩, 19) := ⟨⟨by decide +kernel, by decide +kernel⟩, List.mem_of_getElem? (i := 55) (by decide +kernel), List.mem_of_getElem? (i := 573) (by decide +kernel), List.mem_of_getElem? (i := 574) (by decide +kernel)⟩
theorem lw_p6 : lw_okq (⟨"UnwindTower$Program", "neverEnds", "(I)Z"⟩, 19) := ⟨⟨by decide +kernel, by decide +kernel⟩, List.mem_of_getElem? (i := 55) (by decide +kernel), List.mem_of_getElem? (i := 585) (by decide +kernel), List.mem_of_getElem? (i := 586) (by decide +kernel)⟩
theorem lw_p7 : lw_okq (⟨"UnwindTower$Program", "isNever", "(I)Z"⟩, 19) := ⟨⟨by decide +kernel, by decide +kernel⟩, List.mem_of_getElem? (i := 55) (by decide +kernel), List.mem_of_getElem? (i := 589) (by decide +kernel), List.mem_of_getElem? (i := 590) (by decide +kernel)⟩
theorem lw_p8 : lw_okq (⟨"UnwindTower$Program", "neverPastTry", "(I)Z"⟩, 19) := ⟨⟨by decide +kernel, by decide +kernel⟩, List.mem_of_getElem? (i := 55) (by decide +kernel), List.mem_of_getElem? (i := 593) (by decide +kernel), List.mem_of_getElem? (i := 594) (by decide +kernel)⟩
theorem lw_p9 : lw_okq (⟨"UnwindTower$Faults", "findInNodes", "(II)V"⟩, 5) := ⟨⟨by decide +kernel, by decide +kernel⟩, List.mem_of_getElem? (i := 154) (by decide +kernel), List.mem_of_getElem? (i := 607) (by decide +kernel), List.mem_of_getElem? (i := 608) (by decide +kernel)⟩
theorem lw_p10 : lw_okq (⟨"UnwindTower$Faults", "push", "(I)V"⟩, 5) := ⟨⟨by decide +kernel, by decide +kernel⟩, List.mem_of_getElem? (i := 154) (by decide +kernel), List.mem_of_getElem? (i := 611) (by decide +kernel), List.mem_of_getElem? (i := 612) (by decide +kernel)⟩
theorem lw_p11 : lw_okq (⟨"UnwindTower$Faults", "faultOf", "(I)I"⟩, 5) := ⟨⟨by decide +kernel, by decide +kernel⟩, List.mem_of_getElem? (i := 154) (by decide +kernel), List.mem_of_getElem? (i := 615) (by decide +kernel), List.mem_of_getElem? (i := 616) (by decide +kernel)⟩
theorem lw_p12 : lw_okq (⟨"UnwindTower$Faults", "faultOfCatch", "(I)I"⟩, 5) := ⟨⟨by decide +kernel, by decide +kernel⟩, List.mem_of_getElem? (i := 154) (by decide +kernel), List.mem_of_getElem? (i := 619) (by decide +kernel), List.mem_of_getElem? (i := 620) (by decide +kernel)⟩
theorem lw_p13 : lw_okq (⟨"UnwindTower$Faults", "findUntold", "(I)V"⟩, 5) := ⟨⟨by decide +kernel, by decide +kernel⟩, List.mem_of_getElem? (i := 154) (by decide +kernel), List.mem_of_getElem? (i := 633) (by decide +kernel), List.mem_of_getElem? (i := 634) (by decide +kernel)⟩
theorem lw_p14 : lw_okq (⟨"UnwindTower$Compiler", "placeAt", "(I)LUnwindTower$Place;"⟩, 15) := ⟨⟨by decide +kernel, by decide +kernel⟩, List.mem_of_getElem? (i := 258) (by decide +kernel), List.mem_of_getElem? (i := 655) (by decide +kernel), List.mem_of_getElem? (i := 656) (by decide +kernel)⟩
theorem lw_p15 : lw_okq (⟨"UnwindTower$Compiler", "lay", "(II)V"⟩, 15) := ⟨⟨by decide +kernel, by decide +kernel⟩, List.mem_of_getElem? (i := 258) (by decide +kernel), List.mem_of_getElem? (i := 660) (by decide +kernel), List.mem_of_getElem? (i := 661) (by decide +kernel)⟩
def lw_privs_1 : List (MethodName × Nat) := [(⟨"UnwindTower", "refresh", "()V"⟩, 12), (⟨"UnwindTower$Program", "deriveFromAround", "(I)V"⟩, 19), (⟨"UnwindTower$Program", "canOf", "(I)I"⟩, 19), (⟨"UnwindTower$Program", "toldOf", "(I)I"⟩, 19), (⟨"UnwindTower$Program", "canOfPart", "(I)I"⟩, 19), (⟨"UnwindTower$Program", "canOfTry", "(I)I"⟩, 19), (⟨"UnwindTower$Program", "neverEnds", "(I)Z"⟩, 19), (⟨"UnwindTower$Program", "isNever", "(I)Z"⟩, 19), (⟨"UnwindTower$Program", "neverPastTry", "(I)Z"⟩, 19), (⟨"UnwindTower$Faults", "findInNodes", "(II)V"⟩, 5), (⟨"UnwindTower$Faults", "push", "(I)V"⟩, 5), (⟨"UnwindTower$Faults", "faultOf", "(I)I"⟩, 5), (⟨"UnwindTower$Faults", "faultOfCatch", "(I)I"⟩, 5), (⟨"UnwindTower$Faults", "findUntold", "(I)V"⟩, 5), (⟨"UnwindTower$Compiler", "placeAt", "(I)LUnwindTower$Place;"⟩, 15), (⟨"UnwindTower$Compiler", "lay", "(II)V"⟩, 15)]
theorem lw_r1 : ∀ q ∈ lw_privs_1, lw_okq q := List.forall_mem_cons.mpr ⟨lw_p0, List.forall_mem_cons.mpr ⟨lw_p1, List.forall_mem_cons.mpr ⟨lw_p2, List.forall_mem_cons.mpr ⟨lw_p3, List.forall_mem_cons.mpr ⟨lw_p4, List.forall_mem_cons.mpr ⟨lw_p5, List.forall_mem_cons.mpr ⟨lw_p6, List.forall_mem_cons.mpr ⟨lw_p7, List.forall_mem_cons.mpr ⟨lw_p8, List.forall_mem_cons.mpr ⟨lw_p9, List.forall_mem_cons.mpr ⟨lw_p10, List.forall_mem_cons.mpr ⟨lw_p11, List.forall_mem_cons.mpr ⟨lw_p12, List.forall_mem_cons.mpr ⟨lw_p13, List.forall_mem_cons.mpr ⟨lw_p14, List.forall_mem_cons.mpr ⟨lw_p15, fun _ h => absurd h List.not_mem_nil⟩⟩⟩⟩⟩⟩⟩⟩⟩⟩⟩⟩⟩⟩⟩⟩
theorem lw_p16 : lw_okq (⟨"UnwindTower$Compiler", "inner", "(I)LUnwindTower$Place;"⟩, 15) := ⟨⟨by decide +kernel, by decide +kernel⟩, List.mem_of_getElem? (i := 258) (by decide +kernel), List.mem_of_getElem? (i := 673) (by decide +kernel), List.mem_of_getElem? (i := 674) (by decide +kernel)⟩
theorem lw_p17 : lw_okq (⟨"UnwindTower$Compiler", "inner", "(II)LUnwindTower$Place;"⟩, 15) := ⟨⟨by decide +kernel, by decide +kernel⟩, List.mem_of_getElem? (i := 258) (by decide +kernel), List.mem_of_getElem? (i := 677) (by decide +kernel), List.mem_of_getElem? (i := 678) (by decide +kernel)⟩
theorem lw_p18 : lw_okq (⟨"UnwindTower$Compiler", "layIf", "(II)V"⟩, 15) := ⟨⟨by decide +kernel, by decide +kernel⟩, List.mem_of_getElem? (i := 258) (by decide +kernel), List.mem_of_getElem? (i := 685) (by decide +kernel), List.mem_of_getElem? (i := 686) (by decide +kernel)⟩
theorem lw_p19 : lw_okq (⟨"UnwindTower$Compiler", "newLabel", "()I"⟩, 15) := ⟨⟨by decide +kernel, by decide +kernel⟩, List.mem_of_getElem? (i := 258) (by decide +kernel), List.mem_of_getElem? (i := 689) (by decide +kernel), List.mem_of_getElem? (i := 690) (by decide +kernel)⟩
theorem lw_p20 : lw_okq (⟨"UnwindTower$Compiler", "emitTo", "(IIIII)V"⟩, 15) := ⟨⟨by decide +kernel, by decide +kernel⟩, List.mem_of_getElem? (i := 258) (by decide +kernel), List.mem_of_getElem? (i := 693) (by decide +kernel), List.mem_of_getElem? (i := 694) (by decide +kernel)⟩
theorem lw_p21 : lw_okq (⟨"UnwindTower$Compiler", "settle", "(II)V"⟩, 15) := ⟨⟨by decide +kernel, by decide +kernel⟩, List.mem_of_getElem? (i := 258) (by decide +kernel), List.mem_of_getElem? (i := 702) (by decide +kernel), List.mem_of_getElem? (i := 703) (by decide +kernel)⟩
theorem lw_p22 : lw_okq (⟨"UnwindTower$Compiler", "layLoop", "(II)V"⟩, 15) := ⟨⟨by decide +kernel, by decide +kernel⟩, List.mem_of_getElem? (i := 258) (by decide +kernel), List.mem_of_getElem? (i := 706) (by decide +kernel), List.mem_of_getElem? (i := 707) (by decide +kernel)⟩
theorem lw_p23 : lw_okq (⟨"UnwindTower$Compiler", "emit", "(IIIIII)V"⟩, 15) := ⟨⟨by decide +kernel, by decide +kernel⟩, List.mem_of_getElem? (i := 258) (by decide +kernel), List.mem_of_getElem? (i := 710) (by decide +kernel), List.mem_of_getElem? (i := 711) (by decide +kernel)⟩
theorem lw_p24 : lw_okq (⟨"UnwindTower$Compiler", "layBreak", "(II)V"⟩, 15) := ⟨⟨by decide +kernel, by decide +kernel⟩, List.mem_of_getElem? (i := 258) (by decide +kernel), List.mem_of_getElem? (i := 714) (by decide +kernel), List.mem_of_getElem? (i := 715) (by decide +kernel)⟩
theorem lw_p25 : lw_okq (⟨"UnwindTower$Compiler", "layWayOut", "(II)V"⟩, 15) := ⟨⟨by decide +kernel, by decide +kernel⟩, List.mem_of_getElem? (i := 258) (by decide +kernel), List.mem_of_getElem? (i := 718) (by decide +kernel), List.mem_of_getElem? (i := 719) (by decide +kernel)⟩
theorem lw_p26 : lw_okq (⟨"UnwindTower$Compiler", "layClose", "(II)V"⟩, 15) := ⟨⟨by decide +kernel, by decide +kernel⟩, List.mem_of_getElem? (i := 258) (by decide +kernel), List.mem_of_getElem? (i := 722) (by decide +kernel), List.mem_of_getElem? (i := 723) (by decide +kernel)⟩
theorem lw_p27 : lw_okq (⟨"UnwindTower$Compiler", "layReturn", "(II)V"⟩, 15) := ⟨⟨by decide +kernel, by decide +kernel⟩, List.mem_of_getElem? (i := 258) (by decide +kernel), List.mem_of_getElem? (i := 726) (by decide +kernel), List.mem_of_getElem? (i := 727) (by decide +kernel)⟩
theorem lw_p28 : lw_okq (⟨"UnwindTower$Compiler", "layTry", "(II)V"⟩, 15) := ⟨⟨by decide +kernel, by decide +kernel⟩, List.mem_of_getElem? (i := 258) (by decide +kernel), List.mem_of_getElem? (i := 730) (by decide +kernel), List.mem_of_getElem? (i := 731) (by decide +kernel)⟩
theorem lw_p29 : lw_okq (⟨"UnwindTower$Compiler", "newGuard", "(II)I"⟩, 15) := ⟨⟨by decide +kernel, by decide +kernel⟩, List.mem_of_getElem? (i := 258) (by decide +kernel), List.mem_of_getElem? (i := 734) (by decide +kernel), List.mem_of_getElem? (i := 735) (by decide +kernel)⟩
theorem lw_p30 : lw_okq (⟨"UnwindTower$Compiler", "layFinally", "(III)V"⟩, 15) := ⟨⟨by decide +kernel, by decide +kernel⟩, List.mem_of_getElem? (i := 258) (by decide +kernel), List.mem_of_getElem? (i := 738) (by decide +kernel), List.mem_of_getElem? (i := 739) (by decide +kernel)⟩
theorem lw_p31 : lw_okq (⟨"UnwindTower$Compiler", "layCatch", "(III)V"⟩, 15) := ⟨⟨by decide +kernel, by decide +kernel⟩, List.mem_of_getElem? (i := 258) (by decide +kernel), List.mem_of_getElem? (i := 742) (by decide +kernel), List.mem_of_getElem? (i := 743) (by decide +kernel)⟩
def lw_privs_2 : List (MethodName × Nat) := [(⟨"UnwindTower$Compiler", "inner", "(I)LUnwindTower$Place;"⟩, 15), (⟨"UnwindTower$Compiler", "inner", "(II)LUnwindTower$Place;"⟩, 15), (⟨"UnwindTower$Compiler", "layIf", "(II)V"⟩, 15), (⟨"UnwindTower$Compiler", "newLabel", "()I"⟩, 15), (⟨"UnwindTower$Compiler", "emitTo", "(IIIII)V"⟩, 15), (⟨"UnwindTower$Compiler", "settle", "(II)V"⟩, 15), (⟨"UnwindTower$Compiler", "layLoop", "(II)V"⟩, 15), (⟨"UnwindTower$Compiler", "emit", "(IIIIII)V"⟩, 15), (⟨"UnwindTower$Compiler", "layBreak", "(II)V"⟩, 15), (⟨"UnwindTower$Compiler", "layWayOut", "(II)V"⟩, 15), (⟨"UnwindTower$Compiler", "layClose", "(II)V"⟩, 15), (⟨"UnwindTower$Compiler", "layReturn", "(II)V"⟩, 15), (⟨"UnwindTower$Compiler", "layTry", "(II)V"⟩, 15), (⟨"UnwindTower$Compiler", "newGuard", "(II)I"⟩, 15), (⟨"UnwindTower$Compiler", "layFinally", "(III)V"⟩, 15), (⟨"UnwindTower$Compiler", "layCatch", "(III)V"⟩, 15)]
theorem lw_r2 : ∀ q ∈ lw_privs_2, lw_okq q := List.forall_mem_cons.mpr ⟨lw_p16, List.forall_mem_cons.mpr ⟨lw_p17, List.forall_mem_cons.mpr ⟨lw_p18, List.forall_mem_cons.mpr ⟨lw_p19, List.forall_mem_cons.mpr ⟨lw_p20, List.forall_mem_cons.mpr ⟨lw_p21, List.forall_mem_cons.mpr ⟨lw_p22, List.forall_mem_cons.mpr ⟨lw_p23, List.forall_mem_cons.mpr ⟨lw_p24, List.forall_mem_cons.mpr ⟨lw_p25, List.forall_mem_cons.mpr ⟨lw_p26, List.forall_mem_cons.mpr ⟨lw_p27, List.forall_mem_cons.mpr ⟨lw_p28, List.forall_mem_cons.mpr ⟨lw_p29, List.forall_mem_cons.mpr ⟨lw_p30, List.forall_mem_cons.mpr ⟨lw_p31, fun _ h => absurd h List.not_mem_nil⟩⟩⟩⟩⟩⟩⟩⟩⟩⟩⟩⟩⟩⟩⟩⟩
theorem lw_p32 : lw_okq (⟨"UnwindTower$Compiler", "layCatchRows", "(IIII)V"⟩, 15) := ⟨⟨by decide +kernel, by decide +kernel⟩, List.mem_of_getElem? (i := 258) (by decide +kernel), List.mem_of_getElem? (i := 746) (by decide +kernel), List.mem_of_getElem? (i := 747) (by decide +kernel)⟩
theorem lw_p33 : lw_okq (⟨"UnwindTower$Compiler", "layRows", "(IIIII)V"⟩, 15) := ⟨⟨by decide +kernel, by decide +kernel⟩, List.mem_of_getElem? (i := 258) (by decide +kernel), List.mem_of_getElem? (i := 750) (by decide +kernel), List.mem_of_getElem? (i := 751) (by decide +kernel)⟩
theorem lw_p34 : lw_okq (⟨"UnwindTower$Compiler", "isGuarded", "(II)Z"⟩, 15) := ⟨⟨by decide +kernel, by decide +kernel⟩, List.mem_of_getElem? (i := 258) (by decide +kernel), List.mem_of_getElem? (i := 754) (by decide +kernel), List.mem_of_getElem? (i := 755) (by decide +kernel)⟩
theorem lw_p35 : lw_okq (⟨"UnwindTower$Compiler", "layFinallyRows", "(IIIII)V"⟩, 15) := ⟨⟨by decide +kernel, by decide +kernel⟩, List.mem_of_getElem? (i := 258) (by decide +kernel), List.mem_of_getElem? (i := 783) (by decide +kernel), List.mem_of_getElem? (i := 784) (by decide +kernel)⟩
theorem lw_p36 : lw_okq (⟨"UnwindTower$Compiler", "layUsing", "(II)V"⟩, 15) := ⟨⟨by decide +kernel, by decide +kernel⟩, List.mem_of_getElem? (i := 258) (by decide +kernel), List.mem_of_getElem? (i := 787) (by decide +kernel), List.mem_of_getElem? (i := 788) (by decide +kernel)⟩
theorem lw_p37 : lw_okq (⟨"UnwindTower$Compiler", "laySingle", "(ILUnwindTower$Place;)V"⟩, 15) := ⟨⟨by decide +kernel, by decide +kernel⟩, List.mem_of_getElem? (i := 258) (by decide +kernel), List.mem_of_getElem? (i := 791) (by decide +kernel), List.mem_of_getElem? (i := 792) (by decide +kernel)⟩
theorem lw_p38 : lw_okq (⟨"UnwindTower", "readMany", "(I)I"⟩, 12) := ⟨⟨by decide +kernel, by decide +kernel⟩, List.mem_of_getElem? (i := 47) (by decide +kernel), List.mem_of_getElem? (i := 798) (by decide +kernel), List.mem_of_getElem? (i := 799) (by decide +kernel)⟩
theorem lw_p39 : lw_okq (⟨"UnwindTower", "lengthOfAll", "()I"⟩, 12) := ⟨⟨by decide +kernel, by decide +kernel⟩, List.mem_of_getElem? (i := 47) (by decide +kernel), List.mem_of_getElem? (i := 806) (by decide +kernel), List.mem_of_getElem? (i := 807) (by decide +kernel)⟩
theorem lw_p40 : lw_okq (⟨"UnwindTower", "lengthOf", "(I)I"⟩, 12) := ⟨⟨by decide +kernel, by decide +kernel⟩, List.mem_of_getElem? (i := 47) (by decide +kernel), List.mem_of_getElem? (i := 810) (by decide +kernel), List.mem_of_getElem? (i := 811) (by decide +kernel)⟩
theorem lw_p41 : lw_okq (⟨"UnwindTower", "readKind", "(II)I"⟩, 12) := ⟨⟨by decide +kernel, by decide +kernel⟩, List.mem_of_getElem? (i := 47) (by decide +kernel), List.mem_of_getElem? (i := 815) (by decide +kernel), List.mem_of_getElem? (i := 816) (by decide +kernel)⟩
theorem lw_p42 : lw_okq (⟨"UnwindTower", "digestProcedure", "(JI)J"⟩, 12) := ⟨⟨by decide +kernel, by decide +kernel⟩, List.mem_of_getElem? (i := 47) (by decide +kernel), List.mem_of_getElem? (i := 823) (by decide +kernel), List.mem_of_getElem? (i := 824) (by decide +kernel)⟩
theorem lw_p43 : lw_okq (⟨"UnwindTower", "readProcedure", "(II)I"⟩, 12) := ⟨⟨by decide +kernel, by decide +kernel⟩, List.mem_of_getElem? (i := 47) (by decide +kernel), List.mem_of_getElem? (i := 827) (by decide +kernel), List.mem_of_getElem? (i := 828) (by decide +kernel)⟩
theorem lw_p44 : lw_okq (⟨"UnwindTower", "rowsOf", "(I)I"⟩, 12) := ⟨⟨by decide +kernel, by decide +kernel⟩, List.mem_of_getElem? (i := 47) (by decide +kernel), List.mem_of_getElem? (i := 832) (by decide +kernel), List.mem_of_getElem? (i := 833) (by decide +kernel)⟩
theorem lw_p45 : lw_okq (⟨"UnwindTower", "readNode", "(II)I"⟩, 12) := ⟨⟨by decide +kernel, by decide +kernel⟩, List.mem_of_getElem? (i := 47) (by decide +kernel), List.mem_of_getElem? (i := 845) (by decide +kernel), List.mem_of_getElem? (i := 846) (by decide +kernel)⟩
theorem lw_p46 : lw_okq (⟨"UnwindTower$Program", "firstCatch", "(II)I"⟩, 19) := ⟨⟨by decide +kernel, by decide +kernel⟩, List.mem_of_getElem? (i := 55) (by decide +kernel), List.mem_of_getElem? (i := 853) (by decide +kernel), List.mem_of_getElem? (i := 854) (by decide +kernel)⟩
theorem lw_p47 : lw_okq (⟨"UnwindTower", "digestRun", "(J)J"⟩, 12) := ⟨⟨by decide +kernel, by decide +kernel⟩, List.mem_of_getElem? (i := 47) (by decide +kernel), List.mem_of_getElem? (i := 862) (by decide +kernel), List.mem_of_getElem? (i := 863) (by decide +kernel)⟩
def lw_privs_3 : List (MethodName × Nat) := [(⟨"UnwindTower$Compiler", "layCatchRows", "(IIII)V"⟩, 15), (⟨"UnwindTower$Compiler", "layRows", "(IIIII)V"⟩, 15), (⟨"UnwindTower$Compiler", "isGuarded", "(II)Z"⟩, 15), (⟨"UnwindTower$Compiler", "layFinallyRows", "(IIIII)V"⟩, 15), (⟨"UnwindTower$Compiler", "layUsing", "(II)V"⟩, 15), (⟨"UnwindTower$Compiler", "laySingle", "(ILUnwindTower$Place;)V"⟩, 15), (⟨"UnwindTower", "readMany", "(I)I"⟩, 12), (⟨"UnwindTower", "lengthOfAll", "()I"⟩, 12), (⟨"UnwindTower", "lengthOf", "(I)I"⟩, 12), (⟨"UnwindTower", "readKind", "(II)I"⟩, 12), (⟨"UnwindTower", "digestProcedure", "(JI)J"⟩, 12), (⟨"UnwindTower", "readProcedure", "(II)I"⟩, 12), (⟨"UnwindTower", "rowsOf", "(I)I"⟩, 12), (⟨"UnwindTower", "readNode", "(II)I"⟩, 12), (⟨"UnwindTower$Program", "firstCatch", "(II)I"⟩, 19), (⟨"UnwindTower", "digestRun", "(J)J"⟩, 12)]
theorem lw_r3 : ∀ q ∈ lw_privs_3, lw_okq q := List.forall_mem_cons.mpr ⟨lw_p32, List.forall_mem_cons.mpr ⟨lw_p33, List.forall_mem_cons.mpr ⟨lw_p34, List.forall_mem_cons.mpr ⟨lw_p35, List.forall_mem_cons.mpr ⟨lw_p36, List.forall_mem_cons.mpr ⟨lw_p37, List.forall_mem_cons.mpr ⟨lw_p38, List.forall_mem_cons.mpr ⟨lw_p39, List.forall_mem_cons.mpr ⟨lw_p40, List.forall_mem_cons.mpr ⟨lw_p41, List.forall_mem_cons.mpr ⟨lw_p42, List.forall_mem_cons.mpr ⟨lw_p43, List.forall_mem_cons.mpr ⟨lw_p44, List.forall_mem_cons.mpr ⟨lw_p45, List.forall_mem_cons.mpr ⟨lw_p46, List.forall_mem_cons.mpr ⟨lw_p47, fun _ h => absurd h List.not_mem_nil⟩⟩⟩⟩⟩⟩⟩⟩⟩⟩⟩⟩⟩⟩⟩⟩
theorem lw_p48 : lw_okq (⟨"UnwindTower", "readRun", "(I)I"⟩, 12) := ⟨⟨by decide +kernel, by decide +kernel⟩, List.mem_of_getElem? (i := 47) (by decide +kernel), List.mem_of_getElem? (i := 866) (by decide +kernel), List.mem_of_getElem? (i := 867) (by decide +kernel)⟩
theorem lw_p49 : lw_okq (⟨"UnwindTower", "digestException", "(JI)J"⟩, 12) := ⟨⟨by decide +kernel, by decide +kernel⟩, List.mem_of_getElem? (i := 47) (by decide +kernel), List.mem_of_getElem? (i := 883) (by decide +kernel), List.mem_of_getElem? (i := 884) (by decide +kernel)⟩
theorem lw_p50 : lw_okq (⟨"UnwindTower", "readHeld", "(I)I"⟩, 12) := ⟨⟨by decide +kernel, by decide +kernel⟩, List.mem_of_getElem? (i := 47) (by decide +kernel), List.mem_of_getElem? (i := 896) (by decide +kernel), List.mem_of_getElem? (i := 897) (by decide +kernel)⟩
theorem lw_p51 : lw_okq (⟨"UnwindTower$Machine", "clear", "()V"⟩, 18) := ⟨⟨by decide +kernel, by decide +kernel⟩, List.mem_of_getElem? (i := 342) (by decide +kernel), List.mem_of_getElem? (i := 904) (by decide +kernel), List.mem_of_getElem? (i := 905) (by decide +kernel)⟩
theorem lw_p52 : lw_okq (⟨"UnwindTower$Machine", "enter", "(III)V"⟩, 18) := ⟨⟨by decide +kernel, by decide +kernel⟩, List.mem_of_getElem? (i := 342) (by decide +kernel), List.mem_of_getElem? (i := 915) (by decide +kernel), List.mem_of_getElem? (i := 916) (by decide +kernel)⟩
theorem lw_p53 : lw_okq (⟨"UnwindTower$Machine", "raise", "(IIII)V"⟩, 18) := ⟨⟨by decide +kernel, by decide +kernel⟩, List.mem_of_getElem? (i := 342) (by decide +kernel), List.mem_of_getElem? (i := 919) (by decide +kernel), List.mem_of_getElem? (i := 920) (by decide +kernel)⟩
theorem lw_p54 : lw_okq (⟨"UnwindTower$Machine", "fly", "(I)V"⟩, 18) := ⟨⟨by decide +kernel, by decide +kernel⟩, List.mem_of_getElem? (i := 342) (by decide +kernel), List.mem_of_getElem? (i := 933) (by decide +kernel), List.mem_of_getElem? (i := 934) (by decide +kernel)⟩
theorem lw_p55 : lw_okq (⟨"UnwindTower$Machine", "performNext", "()V"⟩, 18) := ⟨⟨by decide +kernel, by decide +kernel⟩, List.mem_of_getElem? (i := 342) (by decide +kernel), List.mem_of_getElem? (i := 939) (by decide +kernel), List.mem_of_getElem? (i := 940) (by decide +kernel)⟩
theorem lw_p56 : lw_okq (⟨"UnwindTower$Machine", "begin", "(LUnwindTower$Code;I)Z"⟩, 18) := ⟨⟨by decide +kernel, by decide +kernel⟩, List.mem_of_getElem? (i := 342) (by decide +kernel), List.mem_of_getElem? (i := 944) (by decide +kernel), List.mem_of_getElem? (i := 945) (by decide +kernel)⟩
theorem lw_p57 : lw_okq (⟨"UnwindTower$Machine", "performRisky", "(LUnwindTower$Code;ILUnwindTower$Frame;)V"⟩, 18) := ⟨⟨by decide +kernel, by decide +kernel⟩, List.mem_of_getElem? (i := 342) (by decide +kernel), List.mem_of_getElem? (i := 949) (by decide +kernel), List.mem_of_getElem? (i := 950) (by decide +kernel)⟩
theorem lw_p58 : lw_okq (⟨"UnwindTower$Machine", "valueOf", "(I)I"⟩, 18) := ⟨⟨by decide +kernel, by decide +kernel⟩, List.mem_of_getElem? (i := 342) (by decide +kernel), List.mem_of_getElem? (i := 953) (by decide +kernel), List.mem_of_getElem? (i := 954) (by decide +kernel)⟩
theorem lw_p59 : lw_okq (⟨"UnwindTower$Machine", "divide", "(IILUnwindTower$Frame;I)V"⟩, 18) := ⟨⟨by decide +kernel, by decide +kernel⟩, List.mem_of_getElem? (i := 342) (by decide +kernel), List.mem_of_getElem? (i := 957) (by decide +kernel), List.mem_of_getElem? (i := 958) (by decide +kernel)⟩
theorem lw_p60 : lw_okq (⟨"UnwindTower$Machine", "suppress", "(I)V"⟩, 18) := ⟨⟨by decide +kernel, by decide +kernel⟩, List.mem_of_getElem? (i := 342) (by decide +kernel), List.mem_of_getElem? (i := 961) (by decide +kernel), List.mem_of_getElem? (i := 962) (by decide +kernel)⟩
theorem lw_p61 : lw_okq (⟨"UnwindTower$Machine", "link", "(IILUnwindTower$Frame;I)V"⟩, 18) := ⟨⟨by decide +kernel, by decide +kernel⟩, List.mem_of_getElem? (i := 342) (by decide +kernel), List.mem_of_getElem? (i := 969) (by decide +kernel), List.mem_of_getElem? (i := 970) (by decide +kernel)⟩
theorem lw_p62 : lw_okq (⟨"UnwindTower$Machine", "throwHeld", "(II)V"⟩, 18) := ⟨⟨by decide +kernel, by decide +kernel⟩, List.mem_of_getElem? (i := 342) (by decide +kernel), List.mem_of_getElem? (i := 981) (by decide +kernel), List.mem_of_getElem? (i := 982) (by decide +kernel)⟩
theorem lw_p63 : lw_okq (⟨"UnwindTower$Machine", "performSafe", "(LUnwindTower$Code;ILUnwindTower$Frame;)V"⟩, 18) := ⟨⟨by decide +kernel, by decide +kernel⟩, List.mem_of_getElem? (i := 342) (by decide +kernel), List.mem_of_getElem? (i := 985) (by decide +kernel), List.mem_of_getElem? (i := 986) (by decide +kernel)⟩
def lw_privs_4 : List (MethodName × Nat) := [(⟨"UnwindTower", "readRun", "(I)I"⟩, 12), (⟨"UnwindTower", "digestException", "(JI)J"⟩, 12), (⟨"UnwindTower", "readHeld", "(I)I"⟩, 12), (⟨"UnwindTower$Machine", "clear", "()V"⟩, 18), (⟨"UnwindTower$Machine", "enter", "(III)V"⟩, 18), (⟨"UnwindTower$Machine", "raise", "(IIII)V"⟩, 18), (⟨"UnwindTower$Machine", "fly", "(I)V"⟩, 18), (⟨"UnwindTower$Machine", "performNext", "()V"⟩, 18), (⟨"UnwindTower$Machine", "begin", "(LUnwindTower$Code;I)Z"⟩, 18), (⟨"UnwindTower$Machine", "performRisky", "(LUnwindTower$Code;ILUnwindTower$Frame;)V"⟩, 18), (⟨"UnwindTower$Machine", "valueOf", "(I)I"⟩, 18), (⟨"UnwindTower$Machine", "divide", "(IILUnwindTower$Frame;I)V"⟩, 18), (⟨"UnwindTower$Machine", "suppress", "(I)V"⟩, 18), (⟨"UnwindTower$Machine", "link", "(IILUnwindTower$Frame;I)V"⟩, 18), (⟨"UnwindTower$Machine", "throwHeld", "(II)V"⟩, 18), (⟨"UnwindTower$Machine", "performSafe", "(LUnwindTower$Code;ILUnwindTower$Frame;)V"⟩, 18)]
theorem lw_r4 : ∀ q ∈ lw_privs_4, lw_okq q := List.forall_mem_cons.mpr ⟨lw_p48, List.forall_mem_cons.mpr ⟨lw_p49, List.forall_mem_cons.mpr ⟨lw_p50, List.forall_mem_cons.mpr ⟨lw_p51, List.forall_mem_cons.mpr ⟨lw_p52, List.forall_mem_cons.mpr ⟨lw_p53, List.forall_mem_cons.mpr ⟨lw_p54, List.forall_mem_cons.mpr ⟨lw_p55, List.forall_mem_cons.mpr ⟨lw_p56, List.forall_mem_cons.mpr ⟨lw_p57, List.forall_mem_cons.mpr ⟨lw_p58, List.forall_mem_cons.mpr ⟨lw_p59, List.forall_mem_cons.mpr ⟨lw_p60, List.forall_mem_cons.mpr ⟨lw_p61, List.forall_mem_cons.mpr ⟨lw_p62, List.forall_mem_cons.mpr ⟨lw_p63, fun _ h => absurd h List.not_mem_nil⟩⟩⟩⟩⟩⟩⟩⟩⟩⟩⟩⟩⟩⟩⟩⟩
theorem lw_p64 : lw_okq (⟨"UnwindTower$Machine", "print", "(II)V"⟩, 18) := ⟨⟨by decide +kernel, by decide +kernel⟩, List.mem_of_getElem? (i := 342) (by decide +kernel), List.mem_of_getElem? (i := 989) (by decide +kernel), List.mem_of_getElem? (i := 990) (by decide +kernel)⟩
theorem lw_p65 : lw_okq (⟨"UnwindTower$Machine", "leave", "(LUnwindTower$Frame;I)V"⟩, 18) := ⟨⟨by decide +kernel, by decide +kernel⟩, List.mem_of_getElem? (i := 342) (by decide +kernel), List.mem_of_getElem? (i := 993) (by decide +kernel), List.mem_of_getElem? (i := 994) (by decide +kernel)⟩
theorem lw_p66 : lw_okq (⟨"UnwindTower$Machine", "unwind", "()V"⟩, 18) := ⟨⟨by decide +kernel, by decide +kernel⟩, List.mem_of_getElem? (i := 342) (by decide +kernel), List.mem_of_getElem? (i := 997) (by decide +kernel), List.mem_of_getElem? (i := 998) (by decide +kernel)⟩
theorem lw_p67 : lw_okq (⟨"UnwindTower$Machine", "placeFor", "(LUnwindTower$Code;I)I"⟩, 18) := ⟨⟨by decide +kernel, by decide +kernel⟩, List.mem_of_getElem? (i := 342) (by decide +kernel), List.mem_of_getElem? (i := 1001) (by decide +kernel), List.mem_of_getElem? (i := 1002) (by decide +kernel)⟩
theorem lw_p68 : lw_okq (⟨"java/lang/Throwable", "fillInStackTrace", "(I)Ljava/lang/Throwable;"⟩, 6) := ⟨⟨by decide +kernel, by decide +kernel⟩, List.mem_of_getElem? (i := 1058) (by decide +kernel), List.mem_of_getElem? (i := 1056) (by decide +kernel), List.mem_of_getElem? (i := 1057) (by decide +kernel)⟩
theorem lw_p69 : lw_okq (⟨"UnwindTower$Program", "isVariable", "(I)Z"⟩, 19) := ⟨⟨by decide +kernel, by decide +kernel⟩, List.mem_of_getElem? (i := 55) (by decide +kernel), List.mem_of_getElem? (i := 1182) (by decide +kernel), List.mem_of_getElem? (i := 1183) (by decide +kernel)⟩
theorem lw_p70 : lw_okq (⟨"UnwindTower$Program", "isOperand", "(I)Z"⟩, 19) := ⟨⟨by decide +kernel, by decide +kernel⟩, List.mem_of_getElem? (i := 55) (by decide +kernel), List.mem_of_getElem? (i := 1186) (by decide +kernel), List.mem_of_getElem? (i := 1187) (by decide +kernel)⟩
theorem lw_p71 : lw_okq (⟨"UnwindTower$Program", "isFreeStatement", "(I)Z"⟩, 19) := ⟨⟨by decide +kernel, by decide +kernel⟩, List.mem_of_getElem? (i := 55) (by decide +kernel), List.mem_of_getElem? (i := 1190) (by decide +kernel), List.mem_of_getElem? (i := 1191) (by decide +kernel)⟩
theorem lw_p72 : lw_okq (⟨"UnwindTower$Program", "isTry", "(III)Z"⟩, 19) := ⟨⟨by decide +kernel, by decide +kernel⟩, List.mem_of_getElem? (i := 55) (by decide +kernel), List.mem_of_getElem? (i := 1208) (by decide +kernel), List.mem_of_getElem? (i := 1209) (by decide +kernel)⟩
theorem lw_p73 : lw_okq (⟨"UnwindTower$Program", "isFreeCatch", "(I)Z"⟩, 19) := ⟨⟨by decide +kernel, by decide +kernel⟩, List.mem_of_getElem? (i := 55) (by decide +kernel), List.mem_of_getElem? (i := 1212) (by decide +kernel), List.mem_of_getElem? (i := 1213) (by decide +kernel)⟩
theorem lw_p74 : lw_okq (⟨"UnwindTower$Program", "isUsing", "(III)Z"⟩, 19) := ⟨⟨by decide +kernel, by decide +kernel⟩, List.mem_of_getElem? (i := 55) (by decide +kernel), List.mem_of_getElem? (i := 1216) (by decide +kernel), List.mem_of_getElem? (i := 1217) (by decide +kernel)⟩
theorem lw_p75 : lw_okq (⟨"java/util/ArrayList", "add", "(Ljava/lang/Object;[Ljava/lang/Object;I)V"⟩, 3) := ⟨⟨by decide +kernel, by decide +kernel⟩, List.mem_of_getElem? (i := 1388) (by decide +kernel), List.mem_of_getElem? (i := 1441) (by decide +kernel), List.mem_of_getElem? (i := 1442) (by decide +kernel)⟩
theorem lw_p76 : lw_okq (⟨"java/util/ArrayList", "grow", "()[Ljava/lang/Object;"⟩, 3) := ⟨⟨by decide +kernel, by decide +kernel⟩, List.mem_of_getElem? (i := 1388) (by decide +kernel), List.mem_of_getElem? (i := 1445) (by decide +kernel), List.mem_of_getElem? (i := 1446) (by decide +kernel)⟩
theorem lw_p77 : lw_okq (⟨"java/util/ArrayList", "grow", "(I)[Ljava/lang/Object;"⟩, 3) := ⟨⟨by decide +kernel, by decide +kernel⟩, List.mem_of_getElem? (i := 1388) (by decide +kernel), List.mem_of_getElem? (i := 1449) (by decide +kernel), List.mem_of_getElem? (i := 1450) (by decide +kernel)⟩
theorem lw_p78 : lw_okq (⟨"UnwindTowerModel", "isNoKind", "(I)Z"⟩, 7) := ⟨⟨by decide +kernel, by decide +kernel⟩, List.mem_of_getElem? (i := 1376) (by decide +kernel), List.mem_of_getElem? (i := 1571) (by decide +kernel), List.mem_of_getElem? (i := 1572) (by decide +kernel)⟩
theorem lw_p79 : lw_okq (⟨"UnwindTowerModel", "start", "(ZI)Z"⟩, 7) := ⟨⟨by decide +kernel, by decide +kernel⟩, List.mem_of_getElem? (i := 1376) (by decide +kernel), List.mem_of_getElem? (i := 1582) (by decide +kernel), List.mem_of_getElem? (i := 1583) (by decide +kernel)⟩
def lw_privs_5 : List (MethodName × Nat) := [(⟨"UnwindTower$Machine", "print", "(II)V"⟩, 18), (⟨"UnwindTower$Machine", "leave", "(LUnwindTower$Frame;I)V"⟩, 18), (⟨"UnwindTower$Machine", "unwind", "()V"⟩, 18), (⟨"UnwindTower$Machine", "placeFor", "(LUnwindTower$Code;I)I"⟩, 18), (⟨"java/lang/Throwable", "fillInStackTrace", "(I)Ljava/lang/Throwable;"⟩, 6), (⟨"UnwindTower$Program", "isVariable", "(I)Z"⟩, 19), (⟨"UnwindTower$Program", "isOperand", "(I)Z"⟩, 19), (⟨"UnwindTower$Program", "isFreeStatement", "(I)Z"⟩, 19), (⟨"UnwindTower$Program", "isTry", "(III)Z"⟩, 19), (⟨"UnwindTower$Program", "isFreeCatch", "(I)Z"⟩, 19), (⟨"UnwindTower$Program", "isUsing", "(III)Z"⟩, 19), (⟨"java/util/ArrayList", "add", "(Ljava/lang/Object;[Ljava/lang/Object;I)V"⟩, 3), (⟨"java/util/ArrayList", "grow", "()[Ljava/lang/Object;"⟩, 3), (⟨"java/util/ArrayList", "grow", "(I)[Ljava/lang/Object;"⟩, 3), (⟨"UnwindTowerModel", "isNoKind", "(I)Z"⟩, 7), (⟨"UnwindTowerModel", "start", "(ZI)Z"⟩, 7)]
theorem lw_r5 : ∀ q ∈ lw_privs_5, lw_okq q := List.forall_mem_cons.mpr ⟨lw_p64, List.forall_mem_cons.mpr ⟨lw_p65, List.forall_mem_cons.mpr ⟨lw_p66, List.forall_mem_cons.mpr ⟨lw_p67, List.forall_mem_cons.mpr ⟨lw_p68, List.forall_mem_cons.mpr ⟨lw_p69, List.forall_mem_cons.mpr ⟨lw_p70, List.forall_mem_cons.mpr ⟨lw_p71, List.forall_mem_cons.mpr ⟨lw_p72, List.forall_mem_cons.mpr ⟨lw_p73, List.forall_mem_cons.mpr ⟨lw_p74, List.forall_mem_cons.mpr ⟨lw_p75, List.forall_mem_cons.mpr ⟨lw_p76, List.forall_mem_cons.mpr ⟨lw_p77, List.forall_mem_cons.mpr ⟨lw_p78, List.forall_mem_cons.mpr ⟨lw_p79, fun _ h => absurd h List.not_mem_nil⟩⟩⟩⟩⟩⟩⟩⟩⟩⟩⟩⟩⟩⟩⟩⟩
theorem lw_p80 : lw_okq (⟨"UnwindTowerModel", "refuse", "(ZI)Z"⟩, 7) := ⟨⟨by decide +kernel, by decide +kernel⟩, List.mem_of_getElem? (i := 1376) (by decide +kernel), List.mem_of_getElem? (i := 1586) (by decide +kernel), List.mem_of_getElem? (i := 1587) (by decide +kernel)⟩
theorem lw_p81 : lw_okq (⟨"UnwindTowerModel", "ofKindNow", "(II)I"⟩, 7) := ⟨⟨by decide +kernel, by decide +kernel⟩, List.mem_of_getElem? (i := 1376) (by decide +kernel), List.mem_of_getElem? (i := 1597) (by decide +kernel), List.mem_of_getElem? (i := 1598) (by decide +kernel)⟩
theorem lw_p82 : lw_okq (⟨"UnwindTowerModel", "isNoSet", "(I)Z"⟩, 7) := ⟨⟨by decide +kernel, by decide +kernel⟩, List.mem_of_getElem? (i := 1376) (by decide +kernel), List.mem_of_getElem? (i := 1690) (by decide +kernel), List.mem_of_getElem? (i := 1691) (by decide +kernel)⟩
theorem lw_p83 : lw_okq (⟨"UnwindTowerModel", "isNoProcedure", "(I)Z"⟩, 7) := ⟨⟨by decide +kernel, by decide +kernel⟩, List.mem_of_getElem? (i := 1376) (by decide +kernel), List.mem_of_getElem? (i := 1700) (by decide +kernel), List.mem_of_getElem? (i := 1701) (by decide +kernel)⟩
theorem lw_p84 : lw_okq (⟨"UnwindTowerModel", "isFaulty", "()Z"⟩, 7) := ⟨⟨by decide +kernel, by decide +kernel⟩, List.mem_of_getElem? (i := 1376) (by decide +kernel), List.mem_of_getElem? (i := 1708) (by decide +kernel), List.mem_of_getElem? (i := 1709) (by decide +kernel)⟩
theorem lw_p85 : lw_okq (⟨"UnwindTowerModel$Program", "look", "(Ljava/util/ArrayList;II)V"⟩, 3) := ⟨⟨by decide +kernel, by decide +kernel⟩, List.mem_of_getElem? (i := 1382) (by decide +kernel), List.mem_of_getElem? (i := 1716) (by decide +kernel), List.mem_of_getElem? (i := 1717) (by decide +kernel)⟩
theorem lw_p86 : lw_okq (⟨"UnwindTowerModel$Program", "faultOf", "(LUnwindTowerModel$Node;)I"⟩, 3) := ⟨⟨by decide +kernel, by decide +kernel⟩, List.mem_of_getElem? (i := 1382) (by decide +kernel), List.mem_of_getElem? (i := 1720) (by decide +kernel), List.mem_of_getElem? (i := 1721) (by decide +kernel)⟩
theorem lw_p87 : lw_okq (⟨"UnwindTowerModel$Program", "faultOfCatch", "(LUnwindTowerModel$Node;)I"⟩, 3) := ⟨⟨by decide +kernel, by decide +kernel⟩, List.mem_of_getElem? (i := 1382) (by decide +kernel), List.mem_of_getElem? (i := 1724) (by decide +kernel), List.mem_of_getElem? (i := 1725) (by decide +kernel)⟩
theorem lw_p88 : lw_okq (⟨"UnwindTowerModel$Program", "tellsOf", "(I)I"⟩, 3) := ⟨⟨by decide +kernel, by decide +kernel⟩, List.mem_of_getElem? (i := 1382) (by decide +kernel), List.mem_of_getElem? (i := 1733) (by decide +kernel), List.mem_of_getElem? (i := 1734) (by decide +kernel)⟩
theorem lw_p89 : lw_okq (⟨"UnwindTowerModel$Program", "canCaught", "(LUnwindTowerModel$Node;)I"⟩, 3) := ⟨⟨by decide +kernel, by decide +kernel⟩, List.mem_of_getElem? (i := 1382) (by decide +kernel), List.mem_of_getElem? (i := 1745) (by decide +kernel), List.mem_of_getElem? (i := 1746) (by decide +kernel)⟩
theorem lw_p90 : lw_okq (⟨"UnwindTowerModel$Program", "isTold", "(II)Z"⟩, 3) := ⟨⟨by decide +kernel, by decide +kernel⟩, List.mem_of_getElem? (i := 1382) (by decide +kernel), List.mem_of_getElem? (i := 1798) (by decide +kernel), List.mem_of_getElem? (i := 1799) (by decide +kernel)⟩
theorem lw_p91 : lw_okq (⟨"UnwindTowerModel$Code", "lay", "(I)V"⟩, 9) := ⟨⟨by decide +kernel, by decide +kernel⟩, List.mem_of_getElem? (i := 1806) (by decide +kernel), List.mem_of_getElem? (i := 1816) (by decide +kernel), List.mem_of_getElem? (i := 1817) (by decide +kernel)⟩
theorem lw_p92 : lw_okq (⟨"UnwindTowerModel$Code", "put", "(IIII)I"⟩, 9) := ⟨⟨by decide +kernel, by decide +kernel⟩, List.mem_of_getElem? (i := 1806) (by decide +kernel), List.mem_of_getElem? (i := 1822) (by decide +kernel), List.mem_of_getElem? (i := 1823) (by decide +kernel)⟩
theorem lw_p93 : lw_okq (⟨"UnwindTowerModel$Code", "layIf", "(LUnwindTowerModel$Node;)V"⟩, 9) := ⟨⟨by decide +kernel, by decide +kernel⟩, List.mem_of_getElem? (i := 1806) (by decide +kernel), List.mem_of_getElem? (i := 1827) (by decide +kernel), List.mem_of_getElem? (i := 1828) (by decide +kernel)⟩
theorem lw_p94 : lw_okq (⟨"UnwindTowerModel$Code", "aim", "(II)V"⟩, 9) := ⟨⟨by decide +kernel, by decide +kernel⟩, List.mem_of_getElem? (i := 1806) (by decide +kernel), List.mem_of_getElem? (i := 1831) (by decide +kernel), List.mem_of_getElem? (i := 1832) (by decide +kernel)⟩
theorem lw_p95 : lw_okq (⟨"UnwindTowerModel$Code", "layLoop", "(LUnwindTowerModel$Node;)V"⟩, 9) := ⟨⟨by decide +kernel, by decide +kernel⟩, List.mem_of_getElem? (i := 1806) (by decide +kernel), List.mem_of_getElem? (i := 1836) (by decide +kernel), List.mem_of_getElem? (i := 1837) (by decide +kernel)⟩
def lw_privs_6 : List (MethodName × Nat) := [(⟨"UnwindTowerModel", "refuse", "(ZI)Z"⟩, 7), (⟨"UnwindTowerModel", "ofKindNow", "(II)I"⟩, 7), (⟨"UnwindTowerModel", "isNoSet", "(I)Z"⟩, 7), (⟨"UnwindTowerModel", "isNoProcedure", "(I)Z"⟩, 7), (⟨"UnwindTowerModel", "isFaulty", "()Z"⟩, 7), (⟨"UnwindTowerModel$Program", "look", "(Ljava/util/ArrayList;II)V"⟩, 3), (⟨"UnwindTowerModel$Program", "faultOf", "(LUnwindTowerModel$Node;)I"⟩, 3), (⟨"UnwindTowerModel$Program", "faultOfCatch", "(LUnwindTowerModel$Node;)I"⟩, 3), (⟨"UnwindTowerModel$Program", "tellsOf", "(I)I"⟩, 3), (⟨"UnwindTowerModel$Program", "canCaught", "(LUnwindTowerModel$Node;)I"⟩, 3), (⟨"UnwindTowerModel$Program", "isTold", "(II)Z"⟩, 3), (⟨"UnwindTowerModel$Code", "lay", "(I)V"⟩, 9), (⟨"UnwindTowerModel$Code", "put", "(IIII)I"⟩, 9), (⟨"UnwindTowerModel$Code", "layIf", "(LUnwindTowerModel$Node;)V"⟩, 9), (⟨"UnwindTowerModel$Code", "aim", "(II)V"⟩, 9), (⟨"UnwindTowerModel$Code", "layLoop", "(LUnwindTowerModel$Node;)V"⟩, 9)]
theorem lw_r6 : ∀ q ∈ lw_privs_6, lw_okq q := List.forall_mem_cons.mpr ⟨lw_p80, List.forall_mem_cons.mpr ⟨lw_p81, List.forall_mem_cons.mpr ⟨lw_p82, List.forall_mem_cons.mpr ⟨lw_p83, List.forall_mem_cons.mpr ⟨lw_p84, List.forall_mem_cons.mpr ⟨lw_p85, List.forall_mem_cons.mpr ⟨lw_p86, List.forall_mem_cons.mpr ⟨lw_p87, List.forall_mem_cons.mpr ⟨lw_p88, List.forall_mem_cons.mpr ⟨lw_p89, List.forall_mem_cons.mpr ⟨lw_p90, List.forall_mem_cons.mpr ⟨lw_p91, List.forall_mem_cons.mpr ⟨lw_p92, List.forall_mem_cons.mpr ⟨lw_p93, List.forall_mem_cons.mpr ⟨lw_p94, List.forall_mem_cons.mpr ⟨lw_p95, fun _ h => absurd h List.not_mem_nil⟩⟩⟩⟩⟩⟩⟩⟩⟩⟩⟩⟩⟩⟩⟩⟩
theorem lw_p96 : lw_okq (⟨"java/util/ArrayList", "fastRemove", "([Ljava/lang/Object;I)V"⟩, 3) := ⟨⟨by decide +kernel, by decide +kernel⟩, List.mem_of_getElem? (i := 1388) (by decide +kernel), List.mem_of_getElem? (i := 1865) (by decide +kernel), List.mem_of_getElem? (i := 1866) (by decide +kernel)⟩
theorem lw_p97 : lw_okq (⟨"UnwindTowerModel$Code", "layOut", "(LUnwindTowerModel$Node;)V"⟩, 9) := ⟨⟨by decide +kernel, by decide +kernel⟩, List.mem_of_getElem? (i := 1806) (by decide +kernel), List.mem_of_getElem? (i := 1877) (by decide +kernel), List.mem_of_getElem? (i := 1878) (by decide +kernel)⟩
theorem lw_p98 : lw_okq (⟨"java/util/ArrayList$SubList", "checkForComodification", "()V"⟩, 5) := ⟨⟨by decide +kernel, by decide +kernel⟩, List.mem_of_getElem? (i := 2129) (by decide +kernel), List.mem_of_getElem? (i := 2168) (by decide +kernel), List.mem_of_getElem? (i := 2169) (by decide +kernel)⟩
theorem lw_p99 : lw_okq (⟨"UnwindTowerModel$Code", "layFinally", "(LUnwindTowerModel$Node;)V"⟩, 9) := ⟨⟨by decide +kernel, by decide +kernel⟩, List.mem_of_getElem? (i := 1806) (by decide +kernel), List.mem_of_getElem? (i := 2190) (by decide +kernel), List.mem_of_getElem? (i := 2191) (by decide +kernel)⟩
theorem lw_p100 : lw_okq (⟨"UnwindTowerModel$Code", "layTry", "(LUnwindTowerModel$Node;)V"⟩, 9) := ⟨⟨by decide +kernel, by decide +kernel⟩, List.mem_of_getElem? (i := 1806) (by decide +kernel), List.mem_of_getElem? (i := 2195) (by decide +kernel), List.mem_of_getElem? (i := 2196) (by decide +kernel)⟩
theorem lw_p101 : lw_okq (⟨"UnwindTowerModel$Code", "layWithin", "(LUnwindTowerModel$Node;II)Ljava/util/ArrayList;"⟩, 9) := ⟨⟨by decide +kernel, by decide +kernel⟩, List.mem_of_getElem? (i := 1806) (by decide +kernel), List.mem_of_getElem? (i := 2199) (by decide +kernel), List.mem_of_getElem? (i := 2200) (by decide +kernel)⟩
theorem lw_p102 : lw_okq (⟨"UnwindTowerModel$Code", "addPiece", "(Ljava/util/ArrayList;II)V"⟩, 9) := ⟨⟨by decide +kernel, by decide +kernel⟩, List.mem_of_getElem? (i := 1806) (by decide +kernel), List.mem_of_getElem? (i := 2203) (by decide +kernel), List.mem_of_getElem? (i := 2204) (by decide +kernel)⟩
theorem lw_p103 : lw_okq (⟨"UnwindTowerModel$Code", "addRows", "(Ljava/util/ArrayList;II)V"⟩, 9) := ⟨⟨by decide +kernel, by decide +kernel⟩, List.mem_of_getElem? (i := 1806) (by decide +kernel), List.mem_of_getElem? (i := 2214) (by decide +kernel), List.mem_of_getElem? (i := 2215) (by decide +kernel)⟩
theorem lw_p104 : lw_okq (⟨"UnwindTowerModel$Code", "layUsing", "(LUnwindTowerModel$Node;)V"⟩, 9) := ⟨⟨by decide +kernel, by decide +kernel⟩, List.mem_of_getElem? (i := 1806) (by decide +kernel), List.mem_of_getElem? (i := 2218) (by decide +kernel), List.mem_of_getElem? (i := 2219) (by decide +kernel)⟩
theorem lw_p105 : lw_okq (⟨"UnwindTowerModel$Code", "layCaught", "(LUnwindTowerModel$Node;)V"⟩, 9) := ⟨⟨by decide +kernel, by decide +kernel⟩, List.mem_of_getElem? (i := 1806) (by decide +kernel), List.mem_of_getElem? (i := 2222) (by decide +kernel), List.mem_of_getElem? (i := 2223) (by decide +kernel)⟩
theorem lw_p106 : lw_okq (⟨"UnwindTowerModel", "ofProcedureNow", "(IIZ)I"⟩, 7) := ⟨⟨by decide +kernel, by decide +kernel⟩, List.mem_of_getElem? (i := 1376) (by decide +kernel), List.mem_of_getElem? (i := 2259) (by decide +kernel), List.mem_of_getElem? (i := 2260) (by decide +kernel)⟩
theorem lw_p107 : lw_okq (⟨"UnwindTowerModel", "codeOf", "(I)LUnwindTowerModel$Code;"⟩, 7) := ⟨⟨by decide +kernel, by decide +kernel⟩, List.mem_of_getElem? (i := 1376) (by decide +kernel), List.mem_of_getElem? (i := 2264) (by decide +kernel), List.mem_of_getElem? (i := 2265) (by decide +kernel)⟩
theorem lw_p108 : lw_okq (⟨"UnwindTowerModel$Program", "isVariable", "(I)Z"⟩, 3) := ⟨⟨by decide +kernel, by decide +kernel⟩, List.mem_of_getElem? (i := 1382) (by decide +kernel), List.mem_of_getElem? (i := 2278) (by decide +kernel), List.mem_of_getElem? (i := 2279) (by decide +kernel)⟩
theorem lw_p109 : lw_okq (⟨"UnwindTowerModel$Program", "isPart", "(IZ)Z"⟩, 3) := ⟨⟨by decide +kernel, by decide +kernel⟩, List.mem_of_getElem? (i := 1382) (by decide +kernel), List.mem_of_getElem? (i := 2287) (by decide +kernel), List.mem_of_getElem? (i := 2288) (by decide +kernel)⟩
theorem lw_p110 : lw_okq (⟨"UnwindTowerModel$Program", "isPartOrNone", "(IZ)Z"⟩, 3) := ⟨⟨by decide +kernel, by decide +kernel⟩, List.mem_of_getElem? (i := 1382) (by decide +kernel), List.mem_of_getElem? (i := 2291) (by decide +kernel), List.mem_of_getElem? (i := 2292) (by decide +kernel)⟩
theorem lw_p111 : lw_okq (⟨"UnwindTowerModel$Program", "isProcedure", "(I)Z"⟩, 3) := ⟨⟨by decide +kernel, by decide +kernel⟩, List.mem_of_getElem? (i := 1382) (by decide +kernel), List.mem_of_getElem? (i := 2295) (by decide +kernel), List.mem_of_getElem? (i := 2296) (by decide +kernel)⟩
def lw_privs_7 : List (MethodName × Nat) := [(⟨"java/util/ArrayList", "fastRemove", "([Ljava/lang/Object;I)V"⟩, 3), (⟨"UnwindTowerModel$Code", "layOut", "(LUnwindTowerModel$Node;)V"⟩, 9), (⟨"java/util/ArrayList$SubList", "checkForComodification", "()V"⟩, 5), (⟨"UnwindTowerModel$Code", "layFinally", "(LUnwindTowerModel$Node;)V"⟩, 9), (⟨"UnwindTowerModel$Code", "layTry", "(LUnwindTowerModel$Node;)V"⟩, 9), (⟨"UnwindTowerModel$Code", "layWithin", "(LUnwindTowerModel$Node;II)Ljava/util/ArrayList;"⟩, 9), (⟨"UnwindTowerModel$Code", "addPiece", "(Ljava/util/ArrayList;II)V"⟩, 9), (⟨"UnwindTowerModel$Code", "addRows", "(Ljava/util/ArrayList;II)V"⟩, 9), (⟨"UnwindTowerModel$Code", "layUsing", "(LUnwindTowerModel$Node;)V"⟩, 9), (⟨"UnwindTowerModel$Code", "layCaught", "(LUnwindTowerModel$Node;)V"⟩, 9), (⟨"UnwindTowerModel", "ofProcedureNow", "(IIZ)I"⟩, 7), (⟨"UnwindTowerModel", "codeOf", "(I)LUnwindTowerModel$Code;"⟩, 7), (⟨"UnwindTowerModel$Program", "isVariable", "(I)Z"⟩, 3), (⟨"UnwindTowerModel$Program", "isPart", "(IZ)Z"⟩, 3), (⟨"UnwindTowerModel$Program", "isPartOrNone", "(IZ)Z"⟩, 3), (⟨"UnwindTowerModel$Program", "isProcedure", "(I)Z"⟩, 3)]
theorem lw_r7 : ∀ q ∈ lw_privs_7, lw_okq q := List.forall_mem_cons.mpr ⟨lw_p96, List.forall_mem_cons.mpr ⟨lw_p97, List.forall_mem_cons.mpr ⟨lw_p98, List.forall_mem_cons.mpr ⟨lw_p99, List.forall_mem_cons.mpr ⟨lw_p100, List.forall_mem_cons.mpr ⟨lw_p101, List.forall_mem_cons.mpr ⟨lw_p102, List.forall_mem_cons.mpr ⟨lw_p103, List.forall_mem_cons.mpr ⟨lw_p104, List.forall_mem_cons.mpr ⟨lw_p105, List.forall_mem_cons.mpr ⟨lw_p106, List.forall_mem_cons.mpr ⟨lw_p107, List.forall_mem_cons.mpr ⟨lw_p108, List.forall_mem_cons.mpr ⟨lw_p109, List.forall_mem_cons.mpr ⟨lw_p110, List.forall_mem_cons.mpr ⟨lw_p111, fun _ h => absurd h List.not_mem_nil⟩⟩⟩⟩⟩⟩⟩⟩⟩⟩⟩⟩⟩⟩⟩⟩
theorem lw_p112 : lw_okq (⟨"UnwindTowerModel$Program", "isKind", "(I)Z"⟩, 3) := ⟨⟨by decide +kernel, by decide +kernel⟩, List.mem_of_getElem? (i := 1382) (by decide +kernel), List.mem_of_getElem? (i := 2299) (by decide +kernel), List.mem_of_getElem? (i := 2300) (by decide +kernel)⟩
theorem lw_p113 : lw_okq (⟨"UnwindTowerModel$Program", "isSlot", "(I)Z"⟩, 3) := ⟨⟨by decide +kernel, by decide +kernel⟩, List.mem_of_getElem? (i := 1382) (by decide +kernel), List.mem_of_getElem? (i := 2303) (by decide +kernel), List.mem_of_getElem? (i := 2304) (by decide +kernel)⟩
theorem lw_p114 : lw_okq (⟨"UnwindTowerModel", "isNoNode", "(I)Z"⟩, 7) := ⟨⟨by decide +kernel, by decide +kernel⟩, List.mem_of_getElem? (i := 1376) (by decide +kernel), List.mem_of_getElem? (i := 2367) (by decide +kernel), List.mem_of_getElem? (i := 2368) (by decide +kernel)⟩
theorem lw_p115 : lw_okq (⟨"UnwindTowerModel", "ofNodeNow", "(II)I"⟩, 7) := ⟨⟨by decide +kernel, by decide +kernel⟩, List.mem_of_getElem? (i := 1376) (by decide +kernel), List.mem_of_getElem? (i := 2375) (by decide +kernel), List.mem_of_getElem? (i := 2376) (by decide +kernel)⟩
theorem lw_p116 : lw_okq (⟨"UnwindTowerModel$Run", "call", "(I)LUnwindTowerModel$Way;"⟩, 18) := ⟨⟨by decide +kernel, by decide +kernel⟩, List.mem_of_getElem? (i := 2408) (by decide +kernel), List.mem_of_getElem? (i := 2416) (by decide +kernel), List.mem_of_getElem? (i := 2417) (by decide +kernel)⟩
theorem lw_p117 : lw_okq (⟨"UnwindTowerModel$Run", "go", "(II)LUnwindTowerModel$Way;"⟩, 18) := ⟨⟨by decide +kernel, by decide +kernel⟩, List.mem_of_getElem? (i := 2408) (by decide +kernel), List.mem_of_getElem? (i := 2423) (by decide +kernel), List.mem_of_getElem? (i := 2424) (by decide +kernel)⟩
theorem lw_p118 : lw_okq (⟨"UnwindTowerModel$Run", "valueOf", "(I)I"⟩, 18) := ⟨⟨by decide +kernel, by decide +kernel⟩, List.mem_of_getElem? (i := 2408) (by decide +kernel), List.mem_of_getElem? (i := 2430) (by decide +kernel), List.mem_of_getElem? (i := 2431) (by decide +kernel)⟩
theorem lw_p119 : lw_okq (⟨"UnwindTowerModel$Run", "fail", "(II)LUnwindTowerModel$Way;"⟩, 18) := ⟨⟨by decide +kernel, by decide +kernel⟩, List.mem_of_getElem? (i := 2408) (by decide +kernel), List.mem_of_getElem? (i := 2436) (by decide +kernel), List.mem_of_getElem? (i := 2437) (by decide +kernel)⟩
theorem lw_p120 : lw_okq (⟨"UnwindTowerModel$Run", "make", "(III)I"⟩, 18) := ⟨⟨by decide +kernel, by decide +kernel⟩, List.mem_of_getElem? (i := 2408) (by decide +kernel), List.mem_of_getElem? (i := 2442) (by decide +kernel), List.mem_of_getElem? (i := 2443) (by decide +kernel)⟩
theorem lw_p121 : lw_okq (⟨"UnwindTowerModel$Run", "loop", "(LUnwindTowerModel$Node;I)LUnwindTowerModel$Way;"⟩, 18) := ⟨⟨by decide +kernel, by decide +kernel⟩, List.mem_of_getElem? (i := 2408) (by decide +kernel), List.mem_of_getElem? (i := 2499) (by decide +kernel), List.mem_of_getElem? (i := 2500) (by decide +kernel)⟩
theorem lw_p122 : lw_okq (⟨"UnwindTowerModel$Run", "callFrom", "(II)LUnwindTowerModel$Way;"⟩, 18) := ⟨⟨by decide +kernel, by decide +kernel⟩, List.mem_of_getElem? (i := 2408) (by decide +kernel), List.mem_of_getElem? (i := 2503) (by decide +kernel), List.mem_of_getElem? (i := 2504) (by decide +kernel)⟩
theorem lw_p123 : lw_okq (⟨"UnwindTowerModel$Run", "tryAll", "(LUnwindTowerModel$Node;I)LUnwindTowerModel$Way;"⟩, 18) := ⟨⟨by decide +kernel, by decide +kernel⟩, List.mem_of_getElem? (i := 2408) (by decide +kernel), List.mem_of_getElem? (i := 2508) (by decide +kernel), List.mem_of_getElem? (i := 2509) (by decide +kernel)⟩
theorem lw_p124 : lw_okq (⟨"UnwindTowerModel$Run", "use", "(LUnwindTowerModel$Node;I)LUnwindTowerModel$Way;"⟩, 18) := ⟨⟨by decide +kernel, by decide +kernel⟩, List.mem_of_getElem? (i := 2408) (by decide +kernel), List.mem_of_getElem? (i := 2513) (by decide +kernel), List.mem_of_getElem? (i := 2514) (by decide +kernel)⟩
theorem lw_p125 : lw_okq (⟨"UnwindTowerModel$Run", "raise", "(LUnwindTowerModel$Node;I)LUnwindTowerModel$Way;"⟩, 18) := ⟨⟨by decide +kernel, by decide +kernel⟩, List.mem_of_getElem? (i := 2408) (by decide +kernel), List.mem_of_getElem? (i := 2517) (by decide +kernel), List.mem_of_getElem? (i := 2518) (by decide +kernel)⟩
theorem lw_p126 : lw_okq (⟨"UnwindTowerModel$Run", "link", "(LUnwindTowerModel$Node;I)LUnwindTowerModel$Way;"⟩, 18) := ⟨⟨by decide +kernel, by decide +kernel⟩, List.mem_of_getElem? (i := 2408) (by decide +kernel), List.mem_of_getElem? (i := 2521) (by decide +kernel), List.mem_of_getElem? (i := 2522) (by decide +kernel)⟩
theorem lw_p127 : lw_okq (⟨"UnwindTowerModel", "ofRunNow", "(I)I"⟩, 7) := ⟨⟨by decide +kernel, by decide +kernel⟩, List.mem_of_getElem? (i := 1376) (by decide +kernel), List.mem_of_getElem? (i := 2591) (by decide +kernel), List.mem_of_getElem? (i := 2592) (by decide +kernel)⟩
def lw_privs_8 : List (MethodName × Nat) := [(⟨"UnwindTowerModel$Program", "isKind", "(I)Z"⟩, 3), (⟨"UnwindTowerModel$Program", "isSlot", "(I)Z"⟩, 3), (⟨"UnwindTowerModel", "isNoNode", "(I)Z"⟩, 7), (⟨"UnwindTowerModel", "ofNodeNow", "(II)I"⟩, 7), (⟨"UnwindTowerModel$Run", "call", "(I)LUnwindTowerModel$Way;"⟩, 18), (⟨"UnwindTowerModel$Run", "go", "(II)LUnwindTowerModel$Way;"⟩, 18), (⟨"UnwindTowerModel$Run", "valueOf", "(I)I"⟩, 18), (⟨"UnwindTowerModel$Run", "fail", "(II)LUnwindTowerModel$Way;"⟩, 18), (⟨"UnwindTowerModel$Run", "make", "(III)I"⟩, 18), (⟨"UnwindTowerModel$Run", "loop", "(LUnwindTowerModel$Node;I)LUnwindTowerModel$Way;"⟩, 18), (⟨"UnwindTowerModel$Run", "callFrom", "(II)LUnwindTowerModel$Way;"⟩, 18), (⟨"UnwindTowerModel$Run", "tryAll", "(LUnwindTowerModel$Node;I)LUnwindTowerModel$Way;"⟩, 18), (⟨"UnwindTowerModel$Run", "use", "(LUnwindTowerModel$Node;I)LUnwindTowerModel$Way;"⟩, 18), (⟨"UnwindTowerModel$Run", "raise", "(LUnwindTowerModel$Node;I)LUnwindTowerModel$Way;"⟩, 18), (⟨"UnwindTowerModel$Run", "link", "(LUnwindTowerModel$Node;I)LUnwindTowerModel$Way;"⟩, 18), (⟨"UnwindTowerModel", "ofRunNow", "(I)I"⟩, 7)]
theorem lw_r8 : ∀ q ∈ lw_privs_8, lw_okq q := List.forall_mem_cons.mpr ⟨lw_p112, List.forall_mem_cons.mpr ⟨lw_p113, List.forall_mem_cons.mpr ⟨lw_p114, List.forall_mem_cons.mpr ⟨lw_p115, List.forall_mem_cons.mpr ⟨lw_p116, List.forall_mem_cons.mpr ⟨lw_p117, List.forall_mem_cons.mpr ⟨lw_p118, List.forall_mem_cons.mpr ⟨lw_p119, List.forall_mem_cons.mpr ⟨lw_p120, List.forall_mem_cons.mpr ⟨lw_p121, List.forall_mem_cons.mpr ⟨lw_p122, List.forall_mem_cons.mpr ⟨lw_p123, List.forall_mem_cons.mpr ⟨lw_p124, List.forall_mem_cons.mpr ⟨lw_p125, List.forall_mem_cons.mpr ⟨lw_p126, List.forall_mem_cons.mpr ⟨lw_p127, fun _ h => absurd h List.not_mem_nil⟩⟩⟩⟩⟩⟩⟩⟩⟩⟩⟩⟩⟩⟩⟩⟩
theorem lw_p128 : lw_okq (⟨"UnwindTowerModel", "keptPrinted", "()I"⟩, 7) := ⟨⟨by decide +kernel, by decide +kernel⟩, List.mem_of_getElem? (i := 1376) (by decide +kernel), List.mem_of_getElem? (i := 2603) (by decide +kernel), List.mem_of_getElem? (i := 2604) (by decide +kernel)⟩
theorem lw_p129 : lw_okq (⟨"UnwindTowerModel", "isNoThing", "(I)Z"⟩, 7) := ⟨⟨by decide +kernel, by decide +kernel⟩, List.mem_of_getElem? (i := 1376) (by decide +kernel), List.mem_of_getElem? (i := 2612) (by decide +kernel), List.mem_of_getElem? (i := 2613) (by decide +kernel)⟩
theorem lw_p130 : lw_okq (⟨"UnwindTowerModel", "kept", "()I"⟩, 7) := ⟨⟨by decide +kernel, by decide +kernel⟩, List.mem_of_getElem? (i := 1376) (by decide +kernel), List.mem_of_getElem? (i := 2616) (by decide +kernel), List.mem_of_getElem? (i := 2617) (by decide +kernel)⟩
theorem lw_p131 : lw_okq (⟨"UnwindTowerModel", "exceptionNow", "(II)I"⟩, 7) := ⟨⟨by decide +kernel, by decide +kernel⟩, List.mem_of_getElem? (i := 1376) (by decide +kernel), List.mem_of_getElem? (i := 2620) (by decide +kernel), List.mem_of_getElem? (i := 2621) (by decide +kernel)⟩
theorem lw_p132 : lw_okq (⟨"UnwindTowerModel", "heldNow", "(I)I"⟩, 7) := ⟨⟨by decide +kernel, by decide +kernel⟩, List.mem_of_getElem? (i := 1376) (by decide +kernel), List.mem_of_getElem? (i := 2636) (by decide +kernel), List.mem_of_getElem? (i := 2637) (by decide +kernel)⟩
theorem lw_p133 : lw_okq (⟨"UnwindTowerModel", "count", "(ILjava/util/ArrayList;)I"⟩, 7) := ⟨⟨by decide +kernel, by decide +kernel⟩, List.mem_of_getElem? (i := 1376) (by decide +kernel), List.mem_of_getElem? (i := 2648) (by decide +kernel), List.mem_of_getElem? (i := 2649) (by decide +kernel)⟩
theorem lw_p134 : lw_okq (⟨"UnwindTowerModel", "catcherNow", "(II)I"⟩, 7) := ⟨⟨by decide +kernel, by decide +kernel⟩, List.mem_of_getElem? (i := 1376) (by decide +kernel), List.mem_of_getElem? (i := 2660) (by decide +kernel), List.mem_of_getElem? (i := 2661) (by decide +kernel)⟩
def lw_privs_9 : List (MethodName × Nat) := [(⟨"UnwindTowerModel", "keptPrinted", "()I"⟩, 7), (⟨"UnwindTowerModel", "isNoThing", "(I)Z"⟩, 7), (⟨"UnwindTowerModel", "kept", "()I"⟩, 7), (⟨"UnwindTowerModel", "exceptionNow", "(II)I"⟩, 7), (⟨"UnwindTowerModel", "heldNow", "(I)I"⟩, 7), (⟨"UnwindTowerModel", "count", "(ILjava/util/ArrayList;)I"⟩, 7), (⟨"UnwindTowerModel", "catcherNow", "(II)I"⟩, 7)]
theorem lw_r9 : ∀ q ∈ lw_privs_9, lw_okq q := List.forall_mem_cons.mpr ⟨lw_p128, List.forall_mem_cons.mpr ⟨lw_p129, List.forall_mem_cons.mpr ⟨lw_p130, List.forall_mem_cons.mpr ⟨lw_p131, List.forall_mem_cons.mpr ⟨lw_p132, List.forall_mem_cons.mpr ⟨lw_p133, List.forall_mem_cons.mpr ⟨lw_p134, fun _ h => absurd h List.not_mem_nil⟩⟩⟩⟩⟩⟩⟩
def lw_privs : List (MethodName × Nat) := lw_privs_1 ++ (lw_privs_2 ++ (lw_privs_3 ++ (lw_privs_4 ++ (lw_privs_5 ++ (lw_privs_6 ++ (lw_privs_7 ++ (lw_privs_8 ++ (lw_privs_9))))))))
def lw_tbl : List Cond := k2_sels lw_privs ++ tables_1
theorem lw_privs_ok : ∀ q ∈ lw_privs, lw_okq q := by
  show ∀ q ∈ lw_privs_1 ++ (lw_privs_2 ++ (lw_privs_3 ++ (lw_privs_4 ++ (lw_privs_5 ++ (lw_privs_6 ++ (lw_privs_7 ++ (lw_privs_8 ++ (lw_privs_9)))))))), lw_okq q
  exact List.forall_mem_append.mpr ⟨lw_r1, List.forall_mem_append.mpr ⟨lw_r2, List.forall_mem_append.mpr ⟨lw_r3, List.forall_mem_append.mpr ⟨lw_r4, List.forall_mem_append.mpr ⟨lw_r5, List.forall_mem_append.mpr ⟨lw_r6, List.forall_mem_append.mpr ⟨lw_r7, List.forall_mem_append.mpr ⟨lw_r8, lw_r9⟩⟩⟩⟩⟩⟩⟩⟩
/-- the streams that the claim lets the run draw from -/
abbrev lw_cs : List Choice := [Jvm.Choice.named "NaN.bits"]
theorem lw_bits : nanBits ∈ lw_cs := by first | decide | exact List.mem_cons_self | simp [lw_cs, nanBits]
-- ===== end of PART A =====
end
section
/-! ===== BEGIN words of one list among another's, by their places ===== -/
theorem goodIn_r {big : List Cond} (ws : List Cond) (ps : List Nat) (hp : ws = ps.filterMap (fun i => big[i]?)) (h : ws.all goodWord = true) : GoodIn big ws := by
  intro w hw
  have h1 := List.all_eq_true.mp h w hw
  rw [hp] at hw
  obtain ⟨i, -, hi⟩ := List.mem_filterMap.mp hw
  have hm : w ∈ big := by first | exact List.mem_of_getElem? hi | exact List.getElem?_mem hi
  exact ⟨hm, good_of_word h1⟩
theorem goodIn_app {big a b : List Cond} (ha : GoodIn big a) (hb : GoodIn big b) : GoodIn big (a ++ b) := fun w h => (List.mem_append.mp h).elim (ha w) (hb w)
theorem goodIn_ca {big a b : List Cond} {c : Cond} (ha : GoodIn big (c :: a)) (hb : GoodIn big b) : GoodIn big (c :: (a ++ b)) := fun w h => (List.mem_cons.mp h).elim (fun e => ha w (List.mem_cons.mpr (Or.inl e))) (fun h => (List.mem_append.mp h).elim (fun h => ha w (List.mem_cons.mpr (Or.inr h))) (hb w))
theorem goodIn_sub {big ws : List Cond} (hm : ∀ w ∈ ws, w ∈ big) (h : ws.all goodWord = true) : GoodIn big ws := fun w hw => ⟨hm w hw, good_of_word (List.all_eq_true.mp h w hw)⟩
/-! ===== END ===== -/
/-! ===== BEGIN exceptions that leave a method, and their catching by the caller (launches without stack traces) ===== -/
section VXA
/-! The laws vx_back, vx_callV, vx_callS, vx_callSW, vx_throw0, vx_throwS follow proofs of the library, with one case more: JvmDerived/Free/Laws.lean (Back.of_free), Shelf42/LK1.lean (callV, callS), Shelf/KitTraced.lean (throwNew0V, throwNewS). -/
/-- where a method has thrown q: the class by its name, the cell, what was written, the world -/
def vx_T (XC : String → State → State → Prop) (st : State) (q : Addr) (t : State) (mc ms : Nat) (free : Addr → Prop) : Prop :=
  ∃ (E : String) (ce : Cell) (L : List Loc), XC E st t ∧ t.heap[q]? = some ce ∧ ce.vm = .none ∧ st.vm.findClass E = some ce.cls ∧ st.WarmedH t.vm ∧ st.sameButNew ({ t with vm := st.vm } : State) L mc ms ∧ ∀ z ∈ L, free z.base
def vx_Q (Qc : Array Value → State → Outcome → State → Prop) (XC : String → State → State → Prop) (mc ms : Nat) (free : Addr → Prop) : Array Value → State → Outcome → State → Prop := fun a st o t =>
  (Qc a st o t ∧ ∃ L, FrameEnd st o t L mc ms ∧ ∀ q ∈ L, free q.base) ∨ ∃ q, o = .threw q ∧ vx_T XC st q t mc ms free
/-- a callee that returns or throws -/
def vx_Met (l : Launch) (y : MethodName) (ws : List Cond) (rm : Room) (Pc : Array Value → State → Prop) (Qc : Array Value → State → Outcome → State → Prop) (XC : String → State → State → Prop) (mc ms : Nat) (free : Addr → Prop) : Prop :=
  MetFree l y (headSpec ws rm) Pc (fun _ _ _ _ _ => True) (vx_Q Qc XC mc ms free)
def vx_Post (XC : String → State → State → Prop) (mc ms : Nat) (free : Addr → Prop) : Pt → Array Value → Addr → Pt → Prop := fun A a q B =>
  ∃ (g : JFrame) (mk : MethodId) (t : State) (L : List Loc) (E : String) (ce : Cell), B.U.heap = t.heap ∧ B.U.vm = t.vm ∧ XC E (A.U.calling g mk a) t ∧ t.heap[q]? = some ce ∧ ce.vm = .none ∧ A.U.vm.findClass E = some ce.cls ∧ B.locs = A.locs ++ L ∧ (∀ z ∈ L, free z.base) ∧ B.cells = A.cells + mc ∧ B.slots = A.slots + ms
def vx_Back (l : Launch) (R : Room) (p : Program) (e : Env) (below : List Frame) (s : State) (sargs : Array Value) (y : MethodName) (len W9 : Nat)
    (Pre : Pt → Array Value → Prop) (Post : Pt → Array Value → Option Value → Pt → Prop) (PostX : Pt → Array Value → Addr → Pt → Prop) : Prop :=
  ∀ (m : MethodId) (meth : Method) (c : Code) (A : Pt) (g : JFrame) (ig : Instr) (mk : MethodId) (a : Array Value),
    Stand p l e R s m sargs below meth c A.U A.locs A.cells A.slots → g.method = m → g.locals.size = c.maxLocals → decode c.code g.pc = .ok (ig, len) →
    2 * g.monitorRoom + (g.stack.map fun v => v.category).sum ≤ W9 → A.U.methodNamed? y = some mk → Pre A a →
    (∃ (v : Option Value) (B : Pt), Stand p l e R s m sargs below meth c B.U B.locs B.cells B.slots ∧ Post A a v B ∧
      Steps p.tables e below (doInvoke e (A.U.setTop g) [] mk a).1 (B.U.setTop { g with pc := g.pc + len, stack := v.toList ++ g.stack })) ∨
    (∃ (q : Addr) (B : Pt), Stand p l e R s m sargs below meth c B.U B.locs B.cells B.slots ∧ PostX A a q B ∧
      Steps p.tables e below (doInvoke e (A.U.setTop g) [] mk a).1 ((B.U.setTop g).pushFrame (.throwing q)))
section Payer
variable {l : Launch} {R : Room} {p : Program} {e : Env} {below : List Frame} {s : State} {sargs : Array Value} {y : MethodName} {len W9 : Nat}
theorem vx_back {ws : List Cond} {rm : Room} {Pc : Array Value → State → Prop} {Qc : Array Value → State → Outcome → State → Prop} {XC : String → State → State → Prop} {mc ms : Nat} {free : Addr → Prop} {bytes : ByteArray} {maxL : Nat} {ret : Option FieldType}
    (hM : vx_Met l y ws rm Pc Qc XC mc ms free) (hblind : FrameBlind Pc) (hrc : rm.cells = mc) (hrs : rm.slots = ms)
    (hframes : rm.frames + 1 ≤ R.frames) (hlocals : W9 + (maxL + 11) + rm.locals ≤ R.locals)
    (hws : ∀ w ∈ ws, ∀ a' U, s.WarmedH U.vm → w.before a' U = true) (hcode : Cond.code y bytes maxL ret ∈ ws) (hinit : ∀ a' U, s.WarmedH U.vm → (Cond.initialized y.cls).before a' U = true) :
    vx_Back l R p e below s sargs y len W9 (PreOf R mc ms Pc) (PostOf Qc mc ms free) (vx_Post XC mc ms free) := by
  intro m meth c A g ig mk a X hg hsize hdg hW hn hp
  have h1 : (headSpec ws rm).pre.before a A.U = true := atoms_intro fun w hw => hws w hw _ _ X.warmed
  have h2 : (Cond.code y bytes maxL ret).before a A.U = true := hws _ hcode _ _ X.warmed
  have h3 : (Cond.initialized y.cls).before a A.U = true := hinit _ _ X.warmed
  have h4 : A.cells + (headSpec ws rm).room.cells ≤ R.cells := by rw [show (headSpec ws rm).room.cells = mc from hrc]; exact hp.1
  have h5 : A.slots + (headSpec ws rm).room.slots ≤ R.slots := by rw [show (headSpec ws rm).room.slots = ms from hrs]; exact hp.2.1
  have hPc : Pc a (A.U.calling g mk a) := hblind _ _ _ _ hp.2.2
  obtain ⟨U, Ls, c0, s0⟩ := A
  dsimp only [Pt.U, Pt.locs, Pt.cells, Pt.slots] at h1 h2 h3 h4 h5 X hn hPc ⊢
  obtain ⟨methY, cY, hmY, hcY, -, hlY, -, -, -, -⟩ := Cond.code_spec hn h2
  obtain ⟨kY, hkY, -⟩ := className_of_methodNamed hn
  have hinitY : kY.init = .initialized := Cond.initialized_spec (findClass_of_methodNamed hn) hkY h3
  have h : At U g.method c below := by rw [hg]; exact X.here
  have hlocals9 : W9 + (maxL + 11) + (headSpec ws rm).room.locals ≤ R.locals := hlocals
  have happ : (headSpec ws rm).appliesLoose y e.platform (U.calling g mk a) = true :=
    Spec.appliesLoose_calling (g := g) h hdg hn hkY hinitY
      (X.room_calling (g := g) (R' := (headSpec ws rm).room) hsize hmY hcY hframes (by rw [hlY]; omega) h4 h5) h1
  obtain ⟨mid, hmid⟩ := h.above
  have hfr : (U.setTop g).frames = (.java g :: mid) ++ below := by rw [State.frames_setTop' g h.top, hmid]; rfl
  obtain ⟨o, s₂, hsteps, -, hend, hq⟩ := Steps.callFree hM p X.admits X.cas X.clock (acts := []) hfr happ hPc trivial
  have hq' : vx_Q Qc XC mc ms free a (U.calling g mk a) o s₂ := hq
  rw [State.frames_setTop' g h.top] at hend
  obtain ⟨g₀, hg0⟩ := Option.isSome_iff_exists.mp h.top
  obtain ⟨r, hr⟩ := State.topJava?_eq_some.mp hg0
  have hr' : (({ U with heap := s₂.heap, slotsUsed := s₂.slotsUsed } : State).setVm s₂.vm).frames = .java g₀ :: r := hr
  rcases hq' with ⟨hqc, L, hfe, hL⟩ | ⟨q, rfl, E, ce, L, hx, hce, hcv, hcl, hW₂, hsm, hL⟩
  · obtain ⟨⟨v, rfl⟩, hW₂, e2, q2, q3, q4, q5, q6⟩ := id hfe
    have e3 : s₂ = ({ (U.calling g mk a).setFrames s₂.frames with heap := s₂.heap, slotsUsed := s₂.slotsUsed } : State).setVm s₂.vm := by
      have : s₂ = ({ s₂ with vm := (U.calling g mk a).vm } : State).setVm s₂.vm := rfl
      rw [e2] at this
      exact this
    obtain ⟨c₂, i₂, len₂, hc₂, hd₂, hf₂⟩ := hend
    have hW' : U.WarmedH s₂.vm := hW₂
    have hcc : c₂ = c := by
      have h1 : s₂.code? g.method = U.code? g.method := by
        rw [State.code?_eq, State.code?_eq, hW'.alike.method?]
      exact Option.some.inj (hc₂.symm.trans (h1.trans h.code))
    subst hcc
    have hlen : len₂ = len := by rw [hdg] at hd₂; cases hd₂; rfl
    subst hlen
    have hs₂ : s₂ = (({ U with heap := s₂.heap, slotsUsed := s₂.slotsUsed } : State).setVm s₂.vm).setTop { g with pc := g.pc + len₂, stack := v.toList ++ g.stack } := by
      refine e3.trans ?_
      rw [hf₂, State.calling_eq h.top, State.setFrames_setFrames, State.setTop_of_frames _ hr', hr]
      rfl
    have hsame : U.sameButNew ({ U with heap := s₂.heap, slotsUsed := s₂.slotsUsed } : State) L mc ms := by
      refine ⟨?_, q2, q3, q4, q5, q6⟩
      obtain ⟨t, ht, -⟩ := State.frames_cons hr
      show ({ U with heap := s₂.heap, slotsUsed := s₂.slotsUsed } : State) = { U.setFrames U.frames with heap := s₂.heap, slotsUsed := s₂.slotsUsed }
      rw [State.setFrames_self ht]
    subst hg
    refine Or.inl ⟨v, ⟨(({ U with heap := s₂.heap, slotsUsed := s₂.slotsUsed } : State).setVm s₂.vm), Ls ++ L, c0 + mc, s0 + ms⟩,
      ⟨X.admits, X.cas, X.clock, X.frames, X.room, X.hears, X.method, X.code, (X.here.setHeapUsed s₂.heap s₂.slotsUsed).setVm hW'.alike, X.tail, State.WarmedH.trans X.warmed hW', X.limits, X.bytes, X.same.trans (hsame.setVm s.vm)⟩,
      ⟨g, mk, s₂, L, rfl, rfl, hqc, rfl, hL, rfl, rfl⟩, ?_⟩
    show Steps p.tables e below _ ((({ U with heap := s₂.heap, slotsUsed := s₂.slotsUsed } : State).setVm s₂.vm).setTop { g with pc := g.pc + len₂, stack := v.toList ++ g.stack })
    rw [← hs₂]
    exact hsteps
  · obtain ⟨e2, q2, q3, q4, q5, q6⟩ := id hsm
    have e3 : s₂ = ({ (U.calling g mk a).setFrames s₂.frames with heap := s₂.heap, slotsUsed := s₂.slotsUsed } : State).setVm s₂.vm := by
      have : s₂ = ({ s₂ with vm := (U.calling g mk a).vm } : State).setVm s₂.vm := rfl
      rw [e2] at this
      exact this
    have hf₂ : s₂.frames = .throwing q :: .java g :: U.frames.tail := hend
    have hW' : U.WarmedH s₂.vm := hW₂
    have hs₂ : s₂ = ((({ U with heap := s₂.heap, slotsUsed := s₂.slotsUsed } : State).setVm s₂.vm).setTop g).pushFrame (.throwing q) := by
      refine e3.trans ?_
      rw [hf₂, State.calling_eq h.top, State.setFrames_setFrames, State.pushFrame, State.frames_setTop _ hr', State.setTop_of_frames _ hr', State.setFrames_setFrames, hr]
      rfl
    have hsame : U.sameButNew ({ U with heap := s₂.heap, slotsUsed := s₂.slotsUsed } : State) L mc ms := by
      refine ⟨?_, q2, q3, q4, q5, q6⟩
      obtain ⟨t, ht, -⟩ := State.frames_cons hr
      show ({ U with heap := s₂.heap, slotsUsed := s₂.slotsUsed } : State) = { U.setFrames U.frames with heap := s₂.heap, slotsUsed := s₂.slotsUsed }
      rw [State.setFrames_self ht]
    subst hg
    refine Or.inr ⟨q, ⟨(({ U with heap := s₂.heap, slotsUsed := s₂.slotsUsed } : State).setVm s₂.vm), Ls ++ L, c0 + mc, s0 + ms⟩,
      ⟨X.admits, X.cas, X.clock, X.frames, X.room, X.hears, X.method, X.code, (X.here.setHeapUsed s₂.heap s₂.slotsUsed).setVm hW'.alike, X.tail, State.WarmedH.trans X.warmed hW', X.limits, X.bytes, X.same.trans (hsame.setVm s.vm)⟩,
      ⟨g, mk, s₂, L, E, ce, rfl, rfl, hx, hce, hcv, hcl, rfl, hL, rfl, rfl⟩, ?_⟩
    show Steps p.tables e below _ (((({ U with heap := s₂.heap, slotsUsed := s₂.slotsUsed } : State).setVm s₂.vm).setTop g).pushFrame (.throwing q))
    rw [← hs₂]
    exact hsteps
end Payer
section Calls
variable {p : Program} {l : Launch} {e : Env} {R : Room} {s : State} {m : MethodId} {args : Array Value} {below : List Frame} {meth : Method} {c : Code} {T : State} {locs : List Loc} {cells slots : Nat}
theorem vx_callV (X : Stand p l e R s m args below meth c T locs cells slots) (hexec : p.tables.exec = Jvm.exec) {own C : String} {index : Nat} {y : MethodName} {bytes : ByteArray} {maxL : Nat} {ret : Option FieldType}
    (hown : s.vm.findClass own = some m.cls) (hlink : (Cond.methodLink own index y).before args s = true) (hinst : (Cond.instanceMethod y).before args s = true) (hsel : (Cond.selects C y y).before args s = true)
    (hcode : (Cond.code y bytes maxL ret).before args s = true) (hy : y.cls ≠ "java/lang/invoke/MethodHandle" ∧ y.cls ≠ "java/lang/invoke/VarHandle")
    {W9 : Nat} {Pre : Pt → Array Value → Prop} {Post : Pt → Array Value → Option Value → Pt → Prop} {PostX : Pt → Array Value → Addr → Pt → Prop} (hK : vx_Back l R p e below s args y 3 W9 Pre Post PostX)
    {b : Addr} {cellB : Cell} (hcell : T.heap[b]? = some cellB) (hobj : cellB.vm.isStatics = false) (hcls : s.vm.findClass C = some cellB.cls)
    {g : JFrame} (hg : g.method = m) (hsize : g.locals.size = c.maxLocals) {argsL rest : List Value} (hlen : ∀ sig, parseMethodDescriptor y.desc = some sig → argsL.length = sig.parameters.length)
    (hstack : g.stack = argsL.reverse ++ .ref b :: rest) (hW : 2 * g.monitorRoom + (rest.map fun v => v.category).sum ≤ W9) (hdg : decode c.code g.pc = .ok (.invokevirtual index, 3))
    (hpre : ∀ vm₁, s.WarmedH vm₁ → Pre ⟨T.setVm vm₁, locs, cells, slots⟩ (Value.ref b :: argsL).toArray) :
    (∃ (v : Option Value) (vm₁ : Vm) (B : Pt), s.WarmedH vm₁ ∧ Stand p l e R s m args below meth c B.U B.locs B.cells B.slots ∧ Post ⟨T.setVm vm₁, locs, cells, slots⟩ (Value.ref b :: argsL).toArray v B ∧
      ∀ target, Steps p.tables e below (B.U.setTop { g with pc := g.pc + 3, stack := v.toList ++ rest }) target → Steps p.tables e below (T.setTop g) target) ∨
    (∃ (q : Addr) (vm₁ : Vm) (B : Pt), s.WarmedH vm₁ ∧ Stand p l e R s m args below meth c B.U B.locs B.cells B.slots ∧ PostX ⟨T.setVm vm₁, locs, cells, slots⟩ (Value.ref b :: argsL).toArray q B ∧
      Steps p.tables e below (T.setTop g) ((B.U.setTop { g with stack := rest }).pushFrame (.throwing q))) := by
  obtain ⟨mk, methM, hnamed, hmethM, hstM, habM⟩ := Cond.instanceMethod_spec hinst
  obtain ⟨methM', cM, hmethM', -, -, -, -, -, -, hsigM⟩ := Cond.code_spec hnamed hcode
  cases hmethM.symm.trans hmethM'
  obtain ⟨c2, r2, m2, q1, q2, q3, q4, kP, hkP, hkPi⟩ := Cond.selects_spec hsel
  cases hcls.symm.trans q1
  cases (State.methodFound?_of_named hnamed hy).symm.trans q2
  cases hnamed.symm.trans q3
  have hselP : selectMethod e.platform s.vm cellB.cls mk = .method mk := by rw [Launch.admits_selectMethod X.admits]; exact q4
  obtain ⟨vm₁, X₁, hstep₁⟩ := X.invokevirtual hexec hown hlink hnamed hmethM hstM hkP hkPi hy (a := b) (cell := cellB) hcell
    (fun z h => by rw [h] at hobj; cases hobj) hselP hmethM habM hkP hkPi (g := g) hg (argsL := argsL) (rest := rest) (hlen _ hsigM) hstack hdg
  rcases hK m meth c ⟨T.setVm vm₁, locs, cells, slots⟩ { g with stack := rest } (.invokevirtual index) mk (Value.ref b :: argsL).toArray X₁ hg hsize hdg hW (X₁.named hnamed) (hpre vm₁ X₁.warmed) with ⟨v, B, X', hpost, hsteps⟩ | ⟨q, B, X', hpost, hsteps⟩
  · exact Or.inl ⟨v, vm₁, B, X₁.warmed, X', hpost, fun target h => hstep₁ _ fun acts => by rw [doInvoke_state]; exact hsteps.trans h⟩
  · exact Or.inr ⟨q, vm₁, B, X₁.warmed, X', hpost, hstep₁ _ fun acts => by rw [doInvoke_state]; exact hsteps⟩
theorem vx_callS (X : Stand p l e R s m args below meth c T locs cells slots) (hexec : p.tables.exec = Jvm.exec) {own : String} {index : Nat} {y : MethodName} {bytes : ByteArray} {maxL : Nat} {ret : Option FieldType}
    (hown : s.vm.findClass own = some m.cls) (hlink : (Cond.methodLink own index y).before args s = true) (hstat : (Cond.static y).before args s = true) (hinit : (Cond.initialized y.cls).before args s = true)
    (hcode : (Cond.code y bytes maxL ret).before args s = true) (hy : y.cls ≠ "java/lang/invoke/MethodHandle" ∧ y.cls ≠ "java/lang/invoke/VarHandle")
    {W9 : Nat} {Pre : Pt → Array Value → Prop} {Post : Pt → Array Value → Option Value → Pt → Prop} {PostX : Pt → Array Value → Addr → Pt → Prop} (hK : vx_Back l R p e below s args y 3 W9 Pre Post PostX)
    {g : JFrame} (hg : g.method = m) (hsize : g.locals.size = c.maxLocals) {argsL rest : List Value} (hlen : ∀ sig, parseMethodDescriptor y.desc = some sig → argsL.length = sig.parameters.length)
    (hstack : g.stack = argsL.reverse ++ rest) (hW : 2 * g.monitorRoom + (rest.map fun v => v.category).sum ≤ W9) (hdg : decode c.code g.pc = .ok (.invokestatic index, 3))
    (hpre : ∀ vm₁, s.WarmedH vm₁ → Pre ⟨T.setVm vm₁, locs, cells, slots⟩ argsL.toArray) :
    (∃ (v : Option Value) (vm₁ : Vm) (B : Pt), s.WarmedH vm₁ ∧ Stand p l e R s m args below meth c B.U B.locs B.cells B.slots ∧ Post ⟨T.setVm vm₁, locs, cells, slots⟩ argsL.toArray v B ∧
      ∀ target, Steps p.tables e below (B.U.setTop { g with pc := g.pc + 3, stack := v.toList ++ rest }) target → Steps p.tables e below (T.setTop g) target) ∨
    (∃ (q : Addr) (vm₁ : Vm) (B : Pt), s.WarmedH vm₁ ∧ Stand p l e R s m args below meth c B.U B.locs B.cells B.slots ∧ PostX ⟨T.setVm vm₁, locs, cells, slots⟩ argsL.toArray q B ∧
      Steps p.tables e below (T.setTop g) ((B.U.setTop { g with stack := rest }).pushFrame (.throwing q))) := by
  obtain ⟨mk, hnamed⟩ := Cond.code_named hcode
  obtain ⟨methM, cM, hmethM, -, -, -, -, -, -, hsigM⟩ := Cond.code_spec hnamed hcode
  have hstatic : methM.isStatic = true := Cond.static_spec hnamed hmethM hstat
  obtain ⟨kP, hkP, -⟩ := className_of_methodNamed hnamed
  have hinitP : kP.init = .initialized := Cond.initialized_spec (findClass_of_methodNamed hnamed) hkP hinit
  obtain ⟨vm₁, X₁, hstep₁⟩ := X.invokestatic hexec hown hlink hnamed hmethM hstatic hkP hinitP hy (g := g) hg (argsL := argsL) (rest := rest) (hlen _ hsigM) hstack hdg
  rcases hK m meth c ⟨T.setVm vm₁, locs, cells, slots⟩ { g with stack := rest } (.invokestatic index) mk argsL.toArray X₁ hg hsize hdg hW (X₁.named hnamed) (hpre vm₁ X₁.warmed) with ⟨v, B, X', hpost, hsteps⟩ | ⟨q, B, X', hpost, hsteps⟩
  · exact Or.inl ⟨v, vm₁, B, X₁.warmed, X', hpost, fun target h => hstep₁ _ fun acts => by rw [doInvoke_state]; exact hsteps.trans h⟩
  · exact Or.inr ⟨q, vm₁, B, X₁.warmed, X', hpost, hstep₁ _ fun acts => by rw [doInvoke_state]; exact hsteps⟩
end Calls
theorem vx_cls {s : State} {T : State} {vm₁ : Vm} {E : String} {k : ClassId} (hW : s.WarmedH vm₁) (h : (T.setVm vm₁).vm.findClass E = some k) : s.vm.findClass E = some k := by
  have h1 : vm₁.findClass E = some k := h
  rw [hW.alike.findClass] at h1
  exact h1
/-- the method's frame g, with q thrown over it -/
def vx_W (p : Program) (l : Launch) (e : Env) (R : Room) (s : State) (m : MethodId) (args : Array Value) (below : List Frame) (meth : Method) (c : Code) (H : Heap) (locs : List Loc) (cells slots : Nat) (Q : State → Prop) (g : JFrame) (q : Addr) : Prop :=
  ∀ T : State, T.heap = H → Stand p l e R s m args below meth c T locs cells slots → ∃ t, Steps p.tables e below ((T.setTop g).pushFrame (.throwing q)) t ∧ Q t
def vx_Run (p : Program) (l : Launch) (e : Env) (R : Room) (s : State) (m : MethodId) (args : Array Value) (below : List Frame) (meth : Method) (c : Code) (H : Heap) (locs : List Loc) (cells slots mc ms : Nat) (g : JFrame) (rest : List Value) (Qa : State → Outcome → State → Prop) (XC : String → State → State → Prop) (free : Addr → Prop) : Prop :=
  ∀ T : State, T.heap = H → Stand p l e R s m args below meth c T locs cells slots →
    (∃ (v : Option Value) (st₀ t T' : State) (L : List Loc), st₀.heap = H ∧ Stand p l e R s m args below meth c T' (locs ++ L) (cells + mc) (slots + ms) ∧ (∀ q ∈ L, free q.base) ∧ T'.heap = t.heap ∧ T'.vm = t.vm ∧ Qa st₀ (.returned v) t ∧
      Goes p e below T g T' { g with pc := g.pc + 3, stack := v.toList ++ rest }) ∨
    (∃ (q : Addr) (st₀ t T' : State) (L : List Loc) (E : String) (ce : Cell), st₀.heap = H ∧ Stand p l e R s m args below meth c T' (locs ++ L) (cells + mc) (slots + ms) ∧ (∀ z ∈ L, free z.base) ∧ T'.heap = t.heap ∧ T'.vm = t.vm ∧ XC E st₀ t ∧ t.heap[q]? = some ce ∧ ce.vm = .none ∧ s.vm.findClass E = some ce.cls ∧
      Steps p.tables e below (T.setTop g) ((T'.setTop { g with stack := rest }).pushFrame (.throwing q)))
def vx_X {S : Type} (px : S → Prop) (B : String → S → State → Prop) (A : Nat → Prop) : String → State → State → Prop := fun E st t => ∃ u : S, px u ∧ B E u t ∧ va_F A st t
section Runs
variable {p : Program} {l : Launch} {e : Env} {R : Room} {s : State} {m : MethodId} {args : Array Value} {below : List Frame} {meth : Method} {c : Code} {H : Heap} {locs : List Loc} {cells slots : Nat}
variable {y : MethodName} {bytes cc : ByteArray} {maxL nL mc ms n index : Nat} {ret : Option FieldType} {ws : List Cond} {rm : Room} {Pc : Array Value → State → Prop} {Qc : Array Value → State → Outcome → State → Prop} {XC : String → State → State → Prop} {free : Addr → Prop} {Ts : List Cond} {own C : String} {b : Addr} {As rest : List Value} {g : JFrame}
theorem vx_callBack (cb : CallB R s args own index y bytes maxL ret ws rm mc ms n) (hM : vx_Met l y ws rm Pc Qc XC mc ms free) (hbl : FrameBlind Pc) : vx_Back l R p e below s args y 3 8 (PreOf R mc ms Pc) (PostOf Qc mc ms free) (vx_Post XC mc ms free) := by
  obtain ⟨hrc, hrs, hfr, hlo, hws, hcw, -, hini, -⟩ := cb
  exact vx_back (bytes := bytes) (maxL := maxL) (ret := ret) hM hbl hrc hrs hfr hlo hws hcw (fun a' U hW => word_at hW (Or.inl (by first | rfl | simp [Cond.onTables, Cond.keeps, Cond.steady])) hini)
theorem vx_runV (S : CallFix p m c cc nL s args Ts own) (hM : vx_Met l y ws rm Pc Qc XC mc ms free) (cw : CallW R s args own C index y bytes maxL ret ws rm mc ms n) (hp : PreV s H C b Pc As)
    (hg : g.method = m) (hn : As.length = n) (hsize : g.locals.size = nL) (hstack : g.stack = As.reverse ++ .ref b :: rest) (hW : 2 * g.monitorRoom + (rest.map fun v => v.category).sum ≤ 8) (hdg : decode cc g.pc = .ok (.invokevirtual index, 3)) (hf : cells + mc ≤ R.cells ∧ slots + ms ≤ R.slots) :
    vx_Run p l e R s m args below meth c H locs cells slots mc ms g rest (Qc (Value.ref b :: As).toArray) XC free := by
  have hK : vx_Back l R p e below s args y 3 8 (PreOf R mc ms Pc) (PostOf Qc mc ms free) (vx_Post XC mc ms free) := vx_callBack cw.1 hM hp.1
  obtain ⟨⟨-, -, -, -, -, -, hcode, -, hy, hlen, hl⟩, hin, hse⟩ := cw
  obtain ⟨hx, hb, hml, ho, -⟩ := S
  obtain ⟨-, ⟨cellB, hcB, hoB, hclB⟩, hPc⟩ := hp
  intro T hT X
  rcases vx_callV X hx (C := C) (bytes := bytes) (maxL := maxL) (ret := ret) ho hl hin hse hcode hy hK (by rw [hT]; exact hcB) hoB hclB hg (hsize.trans hml.symm) (argsL := As) (rest := rest) (fun sig h => hn.trans (hlen sig h)) hstack hW (by rw [hb]; exact hdg)
    (fun vm₁ hW₁ => ⟨hf.1, hf.2, hPc (T.setVm vm₁) hT hW₁⟩) with ⟨v, vm₁, ⟨U', l2, c2, s2⟩, hW₁, X', ⟨g', mk, t, L, e1, e2, hq, h1, hL, h2, h3⟩, st⟩ | ⟨q, vm₁, ⟨U', l2, c2, s2⟩, hW₁, X', ⟨g', mk, t, L, E, ce, e1, e2, hq, hce, hcv, hcl, h1, hL, h2, h3⟩, st⟩
  · dsimp only [Pt.U, Pt.locs, Pt.cells, Pt.slots] at X' e1 e2 h1 h2 h3 st
    subst h1; subst h2; subst h3
    exact Or.inl ⟨v, (T.setVm vm₁).calling g' mk (Value.ref b :: As).toArray, t, U', L, hT, X', hL, e1, e2, hq, st⟩
  · dsimp only [Pt.U, Pt.locs, Pt.cells, Pt.slots] at X' e1 e2 h1 h2 h3 st hcl
    subst h1; subst h2; subst h3
    exact Or.inr ⟨q, (T.setVm vm₁).calling g' mk (Value.ref b :: As).toArray, t, U', L, E, ce, hT, X', hL, e1, e2, hq, hce, hcv, vx_cls hW₁ hcl, st⟩
theorem vx_runS (S : CallFix p m c cc nL s args Ts own) (hM : vx_Met l y ws rm Pc Qc XC mc ms free) (cw : CallB R s args own index y bytes maxL ret ws rm mc ms n ∧ (Cond.static y).before args s = true) (hp : PreS s H Pc As)
    (hg : g.method = m) (hn : As.length = n) (hsize : g.locals.size = nL) (hstack : g.stack = As.reverse ++ rest) (hW : 2 * g.monitorRoom + (rest.map fun v => v.category).sum ≤ 8) (hdg : decode cc g.pc = .ok (.invokestatic index, 3)) (hf : cells + mc ≤ R.cells ∧ slots + ms ≤ R.slots) :
    vx_Run p l e R s m args below meth c H locs cells slots mc ms g rest (Qc As.toArray) XC free := by
  have hK : vx_Back l R p e below s args y 3 8 (PreOf R mc ms Pc) (PostOf Qc mc ms free) (vx_Post XC mc ms free) := vx_callBack cw.1 hM hp.1
  obtain ⟨⟨-, -, -, -, -, -, hcode, hini, hy, hlen, hl⟩, hstt⟩ := cw
  obtain ⟨hx, hb, hml, ho, -⟩ := S
  intro T hT X
  rcases vx_callS X hx (bytes := bytes) (maxL := maxL) (ret := ret) ho hl hstt hini hcode hy hK hg (hsize.trans hml.symm) (argsL := As) (rest := rest) (fun sig h => hn.trans (hlen sig h)) hstack hW (by rw [hb]; exact hdg)
    (fun vm₁ hW₁ => ⟨hf.1, hf.2, hp.2 (T.setVm vm₁) hT hW₁⟩) with ⟨v, vm₁, ⟨U', l2, c2, s2⟩, hW₁, X', ⟨g', mk, t, L, e1, e2, hq, h1, hL, h2, h3⟩, st⟩ | ⟨q, vm₁, ⟨U', l2, c2, s2⟩, hW₁, X', ⟨g', mk, t, L, E, ce, e1, e2, hq, hce, hcv, hcl, h1, hL, h2, h3⟩, st⟩
  · dsimp only [Pt.U, Pt.locs, Pt.cells, Pt.slots] at X' e1 e2 h1 h2 h3 st
    subst h1; subst h2; subst h3
    exact Or.inl ⟨v, (T.setVm vm₁).calling g' mk As.toArray, t, U', L, hT, X', hL, e1, e2, hq, st⟩
  · dsimp only [Pt.U, Pt.locs, Pt.cells, Pt.slots] at X' e1 e2 h1 h2 h3 st hcl
    subst h1; subst h2; subst h3
    exact Or.inr ⟨q, (T.setVm vm₁).calling g' mk As.toArray, t, U', L, E, ce, hT, X', hL, e1, e2, hq, hce, hcv, vx_cls hW₁ hcl, st⟩
end Runs
section Rows
variable {p : Program} {l : Launch} {e : Env} {R : Room} {s : State} {m : MethodId} {args : Array Value} {below : List Frame} {meth : Method} {c : Code} {H : Heap} {locs : List Loc} {cells slots : Nat} {Q : State → Prop}
variable {mc ms : Nat} {free : Addr → Prop} {A0 A1 : Nat → Prop} {H0 : Heap} {a : Array Value} {pc : Nat} {ls : Array Slot} {st0 rest : List Value}
theorem vx_keep {st₀ t T' : State} {L : List Loc} (h0 : st₀.heap = H) (e1 : T'.heap = t.heap) (hS : va_S A0 H0 H locs) (hA : ∀ q, q < H.size → A1 q → A0 q) (hf : ∀ q, free q → A0 q) (hL : ∀ q ∈ L, free q.base) (hF : va_F A1 st₀ t) :
    H.size ≤ T'.heap.size ∧ (∀ q : Nat, q < H.size → ¬ A1 q → T'.heap[q]? = H[q]?) ∧ va_S A0 H0 T'.heap (locs ++ L) := by
  obtain ⟨hz, hk⟩ := hF
  rw [h0] at hz hk
  exact ⟨by rw [e1]; exact hz, fun q h1 h2 => by rw [e1]; exact hk q h1 h2,
    ⟨Nat.le_trans hS.1 (by rw [e1]; exact hz), fun q h1 h2 => by rw [e1, hk q (Nat.lt_of_lt_of_le h1 hS.1) (fun z => h2 (hA q (Nat.lt_of_lt_of_le h1 hS.1) z))]; exact hS.2.1 q h1 h2, fun q hq => by
      rcases List.mem_append.mp hq with h | h
      · exact hS.2.2 q h
      · exact hf _ (hL q h)⟩⟩
theorem vx_calli {S SX : Type} {post : Int32 → S → Prop} {px : SX → Prop} {B : S → State → Prop} {BX : String → SX → State → Prop} {AX : Nat → Prop} (hr : vx_Run p l e R s m args below meth c H locs cells slots mc ms (F0 m pc ls st0) rest (va_Qi post B A1 a) (vx_X px BX AX) free) (hS : va_S A0 H0 H locs) (hA : ∀ q, q < H.size → A1 q → A0 q) (hf : ∀ q, free q → A0 q) (hAX : ∀ q, q < H.size → AX q → A0 q)
    (kx : ∀ (E : String) (ce : Cell) (q9 : Addr) (u : SX) (t : State) (H1 : Heap) (locs1 : List Loc), t.heap = H1 → s.vm.Alike t.vm → px u → BX E u t → H.size ≤ H1.size → (∀ q : Nat, q < H.size → ¬ AX q → H1[q]? = H[q]?) → va_S A0 H0 H1 locs1 → H1[q9]? = some ce → ce.vm = .none → s.vm.findClass E = some ce.cls → vx_W p l e R s m args below meth c H1 locs1 (cells + mc) (slots + ms) Q (F0 m pc ls rest) q9)
    (kk : ∀ (r : Int32) (u : S) (t : State) (H1 : Heap) (locs1 : List Loc), t.heap = H1 → s.vm.Alike t.vm → post r u → B u t → H.size ≤ H1.size → (∀ q : Nat, q < H.size → ¬ A1 q → H1[q]? = H[q]?) → va_S A0 H0 H1 locs1 → W p l e R s m args below meth c H1 locs1 (cells + mc) (slots + ms) Q (F0 m (pc + 3) ls (.int r :: rest))) : W p l e R s m args below meth c H locs cells slots Q (F0 m pc ls st0) := by
  intro T hT X
  rcases hr T hT X with ⟨v, st₀, t, T', L, h0, X', hL, e1, e2, ⟨⟨r, u, hv, hp, hb⟩, hF⟩, st⟩ | ⟨q, st₀, t, T', L, E, ce, h0, X', hL, e1, e2, ⟨u, hp, hb, hF⟩, hce, hcv, hcl, st⟩
  · cases hv
    obtain ⟨k1, k2, k3⟩ := vx_keep h0 e1 hS hA hf hL hF
    obtain ⟨t2, a1, b1⟩ := kk r u t T'.heap (locs ++ L) e1.symm (by rw [← e2]; exact X'.warmed.alike) hp hb k1 k2 k3 T' rfl X'
    exact ⟨t2, st t2 a1, b1⟩
  · obtain ⟨k1, k2, k3⟩ := vx_keep h0 e1 hS hAX hf hL hF
    obtain ⟨t2, a1, b1⟩ := kx E ce q u t T'.heap (locs ++ L) e1.symm (by rw [← e2]; exact X'.warmed.alike) hp hb k1 k2 k3 (by rw [e1]; exact hce) hcv hcl T' rfl X'
    exact ⟨t2, st.trans a1, b1⟩
theorem vx_calll {S SX : Type} {post : Int64 → S → Prop} {px : SX → Prop} {B : S → State → Prop} {BX : String → SX → State → Prop} {AX : Nat → Prop} (hr : vx_Run p l e R s m args below meth c H locs cells slots mc ms (F0 m pc ls st0) rest (va_Ql post B A1 a) (vx_X px BX AX) free) (hS : va_S A0 H0 H locs) (hA : ∀ q, q < H.size → A1 q → A0 q) (hf : ∀ q, free q → A0 q) (hAX : ∀ q, q < H.size → AX q → A0 q)
    (kx : ∀ (E : String) (ce : Cell) (q9 : Addr) (u : SX) (t : State) (H1 : Heap) (locs1 : List Loc), t.heap = H1 → s.vm.Alike t.vm → px u → BX E u t → H.size ≤ H1.size → (∀ q : Nat, q < H.size → ¬ AX q → H1[q]? = H[q]?) → va_S A0 H0 H1 locs1 → H1[q9]? = some ce → ce.vm = .none → s.vm.findClass E = some ce.cls → vx_W p l e R s m args below meth c H1 locs1 (cells + mc) (slots + ms) Q (F0 m pc ls rest) q9)
    (kk : ∀ (r : Int64) (u : S) (t : State) (H1 : Heap) (locs1 : List Loc), t.heap = H1 → s.vm.Alike t.vm → post r u → B u t → H.size ≤ H1.size → (∀ q : Nat, q < H.size → ¬ A1 q → H1[q]? = H[q]?) → va_S A0 H0 H1 locs1 → W p l e R s m args below meth c H1 locs1 (cells + mc) (slots + ms) Q (F0 m (pc + 3) ls (.long r :: rest))) : W p l e R s m args below meth c H locs cells slots Q (F0 m pc ls st0) := by
  intro T hT X
  rcases hr T hT X with ⟨v, st₀, t, T', L, h0, X', hL, e1, e2, ⟨⟨r, u, hv, hp, hb⟩, hF⟩, st⟩ | ⟨q, st₀, t, T', L, E, ce, h0, X', hL, e1, e2, ⟨u, hp, hb, hF⟩, hce, hcv, hcl, st⟩
  · cases hv
    obtain ⟨k1, k2, k3⟩ := vx_keep h0 e1 hS hA hf hL hF
    obtain ⟨t2, a1, b1⟩ := kk r u t T'.heap (locs ++ L) e1.symm (by rw [← e2]; exact X'.warmed.alike) hp hb k1 k2 k3 T' rfl X'
    exact ⟨t2, st t2 a1, b1⟩
  · obtain ⟨k1, k2, k3⟩ := vx_keep h0 e1 hS hAX hf hL hF
    obtain ⟨t2, a1, b1⟩ := kx E ce q u t T'.heap (locs ++ L) e1.symm (by rw [← e2]; exact X'.warmed.alike) hp hb k1 k2 k3 (by rw [e1]; exact hce) hcv hcl T' rfl X'
    exact ⟨t2, st.trans a1, b1⟩
theorem vx_callf {S SX : Type} {post : UInt32 → S → Prop} {px : SX → Prop} {B : S → State → Prop} {BX : String → SX → State → Prop} {AX : Nat → Prop} (hr : vx_Run p l e R s m args below meth c H locs cells slots mc ms (F0 m pc ls st0) rest (va_Qf post B A1 a) (vx_X px BX AX) free) (hS : va_S A0 H0 H locs) (hA : ∀ q, q < H.size → A1 q → A0 q) (hf : ∀ q, free q → A0 q) (hAX : ∀ q, q < H.size → AX q → A0 q)
    (kx : ∀ (E : String) (ce : Cell) (q9 : Addr) (u : SX) (t : State) (H1 : Heap) (locs1 : List Loc), t.heap = H1 → s.vm.Alike t.vm → px u → BX E u t → H.size ≤ H1.size → (∀ q : Nat, q < H.size → ¬ AX q → H1[q]? = H[q]?) → va_S A0 H0 H1 locs1 → H1[q9]? = some ce → ce.vm = .none → s.vm.findClass E = some ce.cls → vx_W p l e R s m args below meth c H1 locs1 (cells + mc) (slots + ms) Q (F0 m pc ls rest) q9)
    (kk : ∀ (r : UInt32) (u : S) (t : State) (H1 : Heap) (locs1 : List Loc), t.heap = H1 → s.vm.Alike t.vm → post r u → B u t → H.size ≤ H1.size → (∀ q : Nat, q < H.size → ¬ A1 q → H1[q]? = H[q]?) → va_S A0 H0 H1 locs1 → W p l e R s m args below meth c H1 locs1 (cells + mc) (slots + ms) Q (F0 m (pc + 3) ls (.float r :: rest))) : W p l e R s m args below meth c H locs cells slots Q (F0 m pc ls st0) := by
  intro T hT X
  rcases hr T hT X with ⟨v, st₀, t, T', L, h0, X', hL, e1, e2, ⟨⟨r, u, hv, hp, hb⟩, hF⟩, st⟩ | ⟨q, st₀, t, T', L, E, ce, h0, X', hL, e1, e2, ⟨u, hp, hb, hF⟩, hce, hcv, hcl, st⟩
  · cases hv
    obtain ⟨k1, k2, k3⟩ := vx_keep h0 e1 hS hA hf hL hF
    obtain ⟨t2, a1, b1⟩ := kk r u t T'.heap (locs ++ L) e1.symm (by rw [← e2]; exact X'.warmed.alike) hp hb k1 k2 k3 T' rfl X'
    exact ⟨t2, st t2 a1, b1⟩
  · obtain ⟨k1, k2, k3⟩ := vx_keep h0 e1 hS hAX hf hL hF
    obtain ⟨t2, a1, b1⟩ := kx E ce q u t T'.heap (locs ++ L) e1.symm (by rw [← e2]; exact X'.warmed.alike) hp hb k1 k2 k3 (by rw [e1]; exact hce) hcv hcl T' rfl X'
    exact ⟨t2, st.trans a1, b1⟩
theorem vx_calld {S SX : Type} {post : UInt64 → S → Prop} {px : SX → Prop} {B : S → State → Prop} {BX : String → SX → State → Prop} {AX : Nat → Prop} (hr : vx_Run p l e R s m args below meth c H locs cells slots mc ms (F0 m pc ls st0) rest (va_Qd post B A1 a) (vx_X px BX AX) free) (hS : va_S A0 H0 H locs) (hA : ∀ q, q < H.size → A1 q → A0 q) (hf : ∀ q, free q → A0 q) (hAX : ∀ q, q < H.size → AX q → A0 q)
    (kx : ∀ (E : String) (ce : Cell) (q9 : Addr) (u : SX) (t : State) (H1 : Heap) (locs1 : List Loc), t.heap = H1 → s.vm.Alike t.vm → px u → BX E u t → H.size ≤ H1.size → (∀ q : Nat, q < H.size → ¬ AX q → H1[q]? = H[q]?) → va_S A0 H0 H1 locs1 → H1[q9]? = some ce → ce.vm = .none → s.vm.findClass E = some ce.cls → vx_W p l e R s m args below meth c H1 locs1 (cells + mc) (slots + ms) Q (F0 m pc ls rest) q9)
    (kk : ∀ (r : UInt64) (u : S) (t : State) (H1 : Heap) (locs1 : List Loc), t.heap = H1 → s.vm.Alike t.vm → post r u → B u t → H.size ≤ H1.size → (∀ q : Nat, q < H.size → ¬ A1 q → H1[q]? = H[q]?) → va_S A0 H0 H1 locs1 → W p l e R s m args below meth c H1 locs1 (cells + mc) (slots + ms) Q (F0 m (pc + 3) ls (.double r :: rest))) : W p l e R s m args below meth c H locs cells slots Q (F0 m pc ls st0) := by
  intro T hT X
  rcases hr T hT X with ⟨v, st₀, t, T', L, h0, X', hL, e1, e2, ⟨⟨r, u, hv, hp, hb⟩, hF⟩, st⟩ | ⟨q, st₀, t, T', L, E, ce, h0, X', hL, e1, e2, ⟨u, hp, hb, hF⟩, hce, hcv, hcl, st⟩
  · cases hv
    obtain ⟨k1, k2, k3⟩ := vx_keep h0 e1 hS hA hf hL hF
    obtain ⟨t2, a1, b1⟩ := kk r u t T'.heap (locs ++ L) e1.symm (by rw [← e2]; exact X'.warmed.alike) hp hb k1 k2 k3 T' rfl X'
    exact ⟨t2, st t2 a1, b1⟩
  · obtain ⟨k1, k2, k3⟩ := vx_keep h0 e1 hS hAX hf hL hF
    obtain ⟨t2, a1, b1⟩ := kx E ce q u t T'.heap (locs ++ L) e1.symm (by rw [← e2]; exact X'.warmed.alike) hp hb k1 k2 k3 (by rw [e1]; exact hce) hcv hcl T' rfl X'
    exact ⟨t2, st.trans a1, b1⟩
theorem vx_callv {S SX : Type} {post : S → Prop} {px : SX → Prop} {B : S → State → Prop} {BX : String → SX → State → Prop} {AX : Nat → Prop} (hr : vx_Run p l e R s m args below meth c H locs cells slots mc ms (F0 m pc ls st0) rest (va_Qv post B A1 a) (vx_X px BX AX) free) (hS : va_S A0 H0 H locs) (hA : ∀ q, q < H.size → A1 q → A0 q) (hf : ∀ q, free q → A0 q) (hAX : ∀ q, q < H.size → AX q → A0 q)
    (kx : ∀ (E : String) (ce : Cell) (q9 : Addr) (u : SX) (t : State) (H1 : Heap) (locs1 : List Loc), t.heap = H1 → s.vm.Alike t.vm → px u → BX E u t → H.size ≤ H1.size → (∀ q : Nat, q < H.size → ¬ AX q → H1[q]? = H[q]?) → va_S A0 H0 H1 locs1 → H1[q9]? = some ce → ce.vm = .none → s.vm.findClass E = some ce.cls → vx_W p l e R s m args below meth c H1 locs1 (cells + mc) (slots + ms) Q (F0 m pc ls rest) q9)
    (kk : ∀ (u : S) (t : State) (H1 : Heap) (locs1 : List Loc), t.heap = H1 → s.vm.Alike t.vm → post u → B u t → H.size ≤ H1.size → (∀ q : Nat, q < H.size → ¬ A1 q → H1[q]? = H[q]?) → va_S A0 H0 H1 locs1 → W p l e R s m args below meth c H1 locs1 (cells + mc) (slots + ms) Q (F0 m (pc + 3) ls (rest))) : W p l e R s m args below meth c H locs cells slots Q (F0 m pc ls st0) := by
  intro T hT X
  rcases hr T hT X with ⟨v, st₀, t, T', L, h0, X', hL, e1, e2, ⟨⟨u, hv, hp, hb⟩, hF⟩, st⟩ | ⟨q, st₀, t, T', L, E, ce, h0, X', hL, e1, e2, ⟨u, hp, hb, hF⟩, hce, hcv, hcl, st⟩
  · cases hv
    obtain ⟨k1, k2, k3⟩ := vx_keep h0 e1 hS hA hf hL hF
    obtain ⟨t2, a1, b1⟩ := kk u t T'.heap (locs ++ L) e1.symm (by rw [← e2]; exact X'.warmed.alike) hp hb k1 k2 k3 T' rfl X'
    exact ⟨t2, st t2 a1, b1⟩
  · obtain ⟨k1, k2, k3⟩ := vx_keep h0 e1 hS hAX hf hL hF
    obtain ⟨t2, a1, b1⟩ := kx E ce q u t T'.heap (locs ++ L) e1.symm (by rw [← e2]; exact X'.warmed.alike) hp hb k1 k2 k3 (by rw [e1]; exact hce) hcv hcl T' rfl X'
    exact ⟨t2, st.trans a1, b1⟩
/-- caught by the row x of this method's table; the rows ahead don't take it -/
theorem vx_catch {own name : String} {E : String} {ce : Cell} {q : Addr} (hown : s.vm.findClass own = some m.cls) (pre : List ExceptionTableEntry) (x : ExceptionTableEntry) (suf : List ExceptionTableEntry) (hsplit : c.exceptionTable.toList = pre ++ x :: suf)
    (hpass : ∀ z ∈ pre, covers z pc = false ∨ (z.catchType ≠ 0 ∧ ∃ nm : String, (Cond.classLink own z.catchType nm).before args s = true ∧ va_Nc E nm s)) (hx : covers x pc = true) (h0 : x.catchType ≠ 0)
    (hlink : (Cond.classLink own x.catchType name).before args s = true) (hcast : (Cond.castable E name).before args s = true) (hcell : H[q]? = some ce) (hv : ce.vm = .none) (hcl : s.vm.findClass E = some ce.cls)
    (kk : W p l e R s m args below meth c H locs cells slots Q (F0 m x.handlerPc ls [.ref q])) : vx_W p l e R s m args below meth c H locs cells slots Q (F0 m pc ls rest) q := by
  intro T hT X
  have hpl : e.platform.magicAccessors = ({} : Platform).magicAccessors := by rw [X.admits.platform]
  obtain ⟨c3, c4, hc3, hc4, hasg⟩ := Cond.castable_spec hcast
  cases Option.some.inj (hc3.symm.trans hcl)
  obtain ⟨c5, hc5, hcl5⟩ := Cond.classLink_spec hown hlink e.platform hpl
  cases Option.some.inj (hc4.symm.trans hc5)
  obtain ⟨vm', X', st⟩ := X.thenCaughtThrough q (g := F0 m pc ls rest) rfl (Steps.refl _) (by rw [hT]; exact hcell) (by rw [hv]; rfl) (by obtain ⟨k9, h9, -⟩ := Vm.findClass_spec hcl; exact ⟨k9, h9⟩) pre x suf hsplit
    (fun z hz => by
      rcases hpass z hz with h | ⟨hz0, nm, hl1, hn1⟩
      · exact Or.inl h
      · obtain ⟨c6, hc6, hcl6⟩ := Cond.classLink_spec hown hl1 e.platform hpl
        obtain ⟨a8, b8, h1, h2, h3⟩ := hn1
        cases Option.some.inj (h1.symm.trans hcl)
        cases Option.some.inj (h2.symm.trans hc6)
        exact Or.inr ⟨hz0, _, hcl6, h3⟩) hx (Or.inr ⟨h0, c4, hcl5, hasg⟩)
  obtain ⟨t, a1, b1⟩ := kk (T.setVm vm') hT X'
  exact ⟨t, st.trans a1, b1⟩
end Rows
section Ends
variable {p : Program} {l : Launch} {e : Env} {R : Room} {s : State} {m : MethodId} {args : Array Value} {below : List Frame} {meth : Method} {c : Code} {H : Heap} {locs : List Loc} {cells slots : Nat} {Q : State → Prop}
variable {mc ms : Nat} {free : Addr → Prop} {A0 A1 : Nat → Prop} {H0 : Heap} {a : Array Value} {ls : Array Slot} {st0 rest : List Value}
variable {Qc : Array Value → State → Outcome → State → Prop} {XC : String → State → State → Prop}
/-- what a body that may throw owes at its end -/
def vx_MQ (below : List Frame) (Qc : Array Value → State → Outcome → State → Prop) (XC : String → State → State → Prop) (a : Array Value) (s : State) (mc ms : Nat) (free : Addr → Prop) : State → Prop := fun t =>
  ∃ o, t.status = .running ∧ Ended t below o ∧ vx_Q Qc XC mc ms free a s o t
theorem vx_ret {g : JFrame} {mc ms : Nat} (k : W p l e R s m args below meth c H locs cells slots (MQ below Qc args s mc ms free) g) : W p l e R s m args below meth c H locs cells slots (vx_MQ below Qc XC args s mc ms free) g := by
  intro T hT X
  obtain ⟨t, a1, o, b1, b2, b3, b4⟩ := k T hT X
  exact ⟨t, a1, o, b1, b2, Or.inl ⟨b3, b4⟩⟩
/-- not caught here: it goes on to the caller -/
theorem vx_widen {g : JFrame} {q : Addr} {k n : Nat} (h1 : cells ≤ k) (h2 : slots ≤ n) (kk : vx_W p l e R s m args below meth c H locs k n Q g q) : vx_W p l e R s m args below meth c H locs cells slots Q g q := fun T hT X => kk T hT (stand_widen X h1 h2)
theorem vx_out {pc : Nat} {E : String} {ce : Cell} {q : Addr} {mc ms : Nat} (hout : ∀ x ∈ c.exceptionTable.toList, covers x pc = false) (hlocks : meth.locks = false) (hcell : H[q]? = some ce) (hv : ce.vm = .none) (hcl : s.vm.findClass E = some ce.cls)
    (hx : ∀ t : State, t.heap = H → s.vm.Alike t.vm → XC E s t) (hf : ∀ z ∈ locs, free z.base) (hc : cells ≤ mc) (hs : slots ≤ ms) :
    vx_W p l e R s m args below meth c H locs cells slots (vx_MQ below Qc XC args s mc ms free) (F0 m pc ls rest) q := by
  intro T hT X
  obtain ⟨st1, hrun, hend, hW, hsm⟩ := X.leaveThrown q (g := F0 m pc ls rest) rfl rfl rfl hout hlocks
  have hcell9 : (T.setFrames (.throwing q :: below)).heap[q]? = some ce := by
    show T.heap[q]? = some ce
    rw [hT]; exact hcell
  exact ⟨_, st1, .threw q, hrun, hend, Or.inr ⟨q, rfl, E, ce, locs, hx _ hT hW.alike, hcell9, hv, hcl, hW, hsm.mono hc hs, hf⟩⟩
theorem vx_frame {U : State} {k n : Nat} (h : s.sameButNew ({ U with vm := s.vm } : State) locs k n) : s.heap.size ≤ U.heap.size ∧ ∀ q : Nat, q < s.heap.size → (∀ z ∈ locs, z.base ≠ q) → U.heap[q]? = s.heap[q]? := by
  obtain ⟨-, h2, -, -, -, h6⟩ := h
  refine ⟨h2, fun q hq hz => ?_⟩
  obtain ⟨c9, e1, e2, e3, e4⟩ := h6 q _ (Array.getElem?_eq_getElem hq)
  have hs : c9.slots = (s.heap[q]).slots := Array.ext_getElem? fun i => e4 i fun hm => hz _ hm rfl
  have h9 : c9 = s.heap[q] := by
    rw [hs] at e2
    exact e2
  have e5 : U.heap[q]? = some c9 := e1
  rw [e5, h9, Array.getElem?_eq_getElem hq]
/-- the words of a throw but the four that speak of the heap -/
def vx_no (w : Cond) : Bool := decide (w ≠ .isRef (.static Bundle.tN "UNASSIGNED_STACK" Bundle.steD)) && decide (w ≠ .isRef (.static Bundle.tN "SUPPRESSED_SENTINEL" Bundle.listD)) && decide (w ≠ .laysStatic Bundle.tN "UNASSIGNED_STACK" Bundle.steD) && decide (w ≠ .laysStatic Bundle.tN "SUPPRESSED_SENTINEL" Bundle.listD)
def vx_at0 (own : String) (ic : Nat) (X : String) (names : List String) : List Cond := (Bundle.ownAtoms0 own ic X names).filter vx_no
def vx_atS (own : String) (ic : Nat) (X : String) (names : List String) : List Cond := (Bundle.ownAtoms own ic X names).filter vx_no
/-- a word that the tables alone decide, or a good one -/
def vx_ot (w : Cond) : Bool := w.onTables || goodWord w
theorem vx_ot_at {args a' : Array Value} {s U : State} {w : Cond} (hW : s.WarmedH U.vm) (hvm : s.vm = U.vm) (hg : vx_ot w = true) (h : w.before args s = true) : w.before a' U = true := by
  simp only [vx_ot, Bool.or_eq_true] at hg
  rcases hg with hg | hg
  · exact va_tabs hg hvm h
  · exact word_at hW (good_of_word hg) h
/-- a list's words: the good ones out of the method's own list, the others by premises of their own -/
theorem vx_hat {args : Array Value} {s : State} {L B : List Cond} (h1 : ∀ w ∈ L.filter goodWord, w.before args s = true) (h2 : ∀ w ∈ L.filter (fun w => !goodWord w), w ∈ B) (h3 : ∀ w ∈ B, w.before args s = true) : ∀ w ∈ L, w.before args s = true := by
  intro w hw
  by_cases g : goodWord w = true
  · exact h1 w (List.mem_filter.mpr ⟨hw, g⟩)
  · refine h3 w (h2 w (List.mem_filter.mpr ⟨hw, ?_⟩))
    show (!goodWord w) = true
    cases hgw : goodWord w
    · rfl
    · exact absurd hgw g
theorem vx_c {args : Array Value} {s : State} {w : Cond} {B : List Cond} (h : w.before args s = true) (t : ∀ w ∈ B, w.before args s = true) : ∀ w' ∈ w :: B, w'.before args s = true := fun w' h' => (List.mem_cons.mp h').elim (fun e => by rw [e]; exact h) (t w')
theorem vx_n {args : Array Value} {s : State} : ∀ w ∈ ([] : List Cond), w.before args s = true := fun _ h => nomatch h
theorem vx_own {args : Array Value} {s : State} {L : List Cond} (h1 : ∀ w ∈ L.filter vx_no, w.before args s = true)
    (hU : (Cond.isRef (.static Bundle.tN "UNASSIGNED_STACK" Bundle.steD)).before args s = true) (hN : (Cond.isRef (.static Bundle.tN "SUPPRESSED_SENTINEL" Bundle.listD)).before args s = true)
    (lU : (Cond.laysStatic Bundle.tN "UNASSIGNED_STACK" Bundle.steD).before args s = true) (lN : (Cond.laysStatic Bundle.tN "SUPPRESSED_SENTINEL" Bundle.listD).before args s = true) : ∀ w ∈ L, w.before args s = true := by
  intro w hw
  by_cases e1 : w = .isRef (.static Bundle.tN "UNASSIGNED_STACK" Bundle.steD)
  · rw [e1]; exact hU
  · by_cases e2 : w = .isRef (.static Bundle.tN "SUPPRESSED_SENTINEL" Bundle.listD)
    · rw [e2]; exact hN
    · by_cases e3 : w = .laysStatic Bundle.tN "UNASSIGNED_STACK" Bundle.steD
      · rw [e3]; exact lU
      · by_cases e4 : w = .laysStatic Bundle.tN "SUPPRESSED_SENTINEL" Bundle.listD
        · rw [e4]; exact lN
        · exact h1 w (List.mem_filter.mpr ⟨hw, by unfold vx_no; rw [decide_eq_true e1, decide_eq_true e2, decide_eq_true e3, decide_eq_true e4]; rfl⟩)
/-- where a static field lies, its class's statics cell in H -/
def vx_L (C n d : String) (A : Nat → Prop) (U : State) (H : Heap) : Prop := ∃ (c : ClassId) (k : Class) (i : Nat) (f : Field) (a : Nat) (cell : Cell), U.vm.findClass C = some c ∧ U.fieldFound? C n d = some (c, k, i, f) ∧ f.isStatic = true ∧ k.statics = some a ∧ H[a]? = some cell ∧ cell.vm.isStatics = true ∧ cell.cls = c ∧ f.slot < cell.slots.size ∧ k.staticTypes[f.slot]? = some f.type ∧ ¬ A a
theorem vx_L.moved {C n d : String} {A : Nat → Prop} {u U : State} {H : Heap} (hvm : u.vm.Alike U.vm) (h : vx_L C n d A u H) : vx_L C n d A U H := by
  obtain ⟨c, k, i, f, a, cell, h1, h2, h3, h4, h5, h6, h7, h8, h9, h10⟩ := h
  obtain ⟨k', hi', he⟩ := State.fieldFound?_setVm hvm h2
  exact ⟨c, k', i, f, a, cell, by rw [hvm.findClass]; exact h1, hi', h3, by rw [he]; exact h4, h5, h6, h7, h8, by rw [he]; exact h9, h10⟩
theorem vx_L.kept {C n d : String} {A : Nat → Prop} {U : State} {H H1 : Heap} (h : vx_L C n d A U H) (hq : ∀ a : Nat, a < H.size → ¬ A a → H1[a]? = H[a]?) : vx_L C n d A U H1 := by
  obtain ⟨c, k, i, f, a, cell, h1, h2, h3, h4, h5, h6, h7, h8, h9, h10⟩ := h
  exact ⟨c, k, i, f, a, cell, h1, h2, h3, h4, by rw [hq a (Array.getElem?_eq_some_iff.mp h5).1 h10]; exact h5, h6, h7, h8, h9, h10⟩
theorem vx_L.narrow {C n d : String} {A B : Nat → Prop} {U : State} {H : Heap} (h : vx_L C n d A U H) (hAB : ∀ q, B q → A q) : vx_L C n d B U H := by
  obtain ⟨c, k, i, f, a, cell, h1, h2, h3, h4, h5, h6, h7, h8, h9, h10⟩ := h
  exact ⟨c, k, i, f, a, cell, h1, h2, h3, h4, h5, h6, h7, h8, h9, fun z => h10 (hAB _ z)⟩
theorem vx_L.word {C n d : String} {A : Nat → Prop} {s : State} {args : Array Value} (h : vx_L C n d A s s.heap) : (Cond.laysStatic C n d).before args s = true := by
  obtain ⟨c, k, i, f, a, cell, h1, h2, h3, h4, h5, h6, h7, h8, h9, -⟩ := h
  show (Cond.laysStatic C n d).holds args s none s [] = true
  exact Cond.laysStatic_of h1 h2 h3 h4 h5 h6 h7 h8 h9
/-- .. and what it holds: null or some reference -/
def vx_Zq (C n d : String) (A : Nat → Prop) (U : State) (H : Heap) : Prop := va_Zq C n d A U H ∧ vx_L C n d A U H
theorem vx_Zq.moved {C n d : String} {A : Nat → Prop} {u U : State} {H : Heap} (hvm : u.vm.Alike U.vm) (h : vx_Zq C n d A u H) : vx_Zq C n d A U H := ⟨va_Zq.moved hvm h.1, vx_L.moved hvm h.2⟩
theorem vx_Zq.kept {C n d : String} {A : Nat → Prop} {U : State} {H H1 : Heap} (h : vx_Zq C n d A U H) (hq : ∀ a : Nat, a < H.size → ¬ A a → H1[a]? = H[a]?) : vx_Zq C n d A U H1 := ⟨va_Zq.kept h.1 hq, vx_L.kept h.2 hq⟩
theorem vx_Zq.narrow {C n d : String} {A B : Nat → Prop} {U : State} {H : Heap} (h : vx_Zq C n d A U H) (hAB : ∀ q, B q → A q) : vx_Zq C n d B U H := ⟨va_Zq.narrow h.1 hAB, vx_L.narrow h.2 hAB⟩
theorem vx_Zqof {args : Array Value} {s : State} {C n d : String} {A : Nat → Prop} (hl : (Cond.laysStatic C n d).before args s = true) (hini : (Cond.initialized C).before args s = true) (h : (Cond.isRef (.static C n d)).before args s = true) (hA : ∀ a : Nat, a < s.heap.size → ¬ A a) : vx_Zq C n d A s s.heap := by
  refine ⟨va_Zqof hl hini h hA, ?_⟩
  obtain ⟨c, k, i, f, a, cell, h1, h2, h3, h4, h5, h6, h7, h8, h9⟩ := Cond.laysStatic_spec hl
  exact ⟨c, k, i, f, a, cell, h1, h2, h3, h4, h5, h6, h7, h8, h9, hA a (Array.getElem?_eq_some_iff.mp h5).1⟩
theorem vx_isRef {C n d : String} {v : Value} {A : Nat → Prop} {s : State} {args : Array Value} (h : va_Z C n d v A s s.heap) (hv : v.isRef = true) : (Cond.isRef (.static C n d)).before args s = true := by
  obtain ⟨cf, kf, fi, f, a, cell, h1, h2, h3, h4, h5, h6, h7, -⟩ := h
  have he : (Term.static C n d).eval args s none [] s = some v := by
    simp [Term.eval, State.fieldNamed?, h1, h2, h4, h5, h6, h7]
  simp only [Cond.before, Cond.holds, Cond.value, he]
  cases v <;> simp_all [Value.isRef]
theorem vx_isRefq {C n d : String} {A : Nat → Prop} {s : State} {args : Array Value} (h : va_Zq C n d A s s.heap) : (Cond.isRef (.static C n d)).before args s = true := by
  rcases h with h | ⟨t, h⟩
  · exact vx_isRef h rfl
  · exact vx_isRef h rfl
/-- the same frame, seen from here: as if the method were called anew in this heap -/
theorem vx_rebase {T : State} (X : Stand p l e R s m args below meth c T locs cells slots) {R' : Room} (hf : R'.frames ≤ R.frames) (hl : R'.locals ≤ R.locals) (hc : cells + R'.cells ≤ R.cells) (hs : slots + R'.slots ≤ R.slots) :
    Stand p l e R' ((T.setVm s.vm).setFrames (.invoking m args :: below)) m args below meth c T [] 0 0 := by
  have htop : (T.setVm s.vm).topJava?.isSome := X.here.top
  have hF : ((T.setVm s.vm).setFrames (.invoking m args :: below)).frames = .invoking m args :: below := State.frames_setFrames _ (State.cur_lt_of_top htop)
  obtain ⟨g₀, hg0⟩ := Option.isSome_iff_exists.mp htop
  obtain ⟨r, hr⟩ := State.topJava?_eq_some.mp hg0
  have hl9 : e.platform.stackLimits (T.setVm s.vm).me = e.platform.stackLimits s.me := X.limits
  have hb9 : (T.setVm s.vm).me.stackBytes = s.me.stackBytes := X.bytes
  refine ⟨X.admits, X.cas, X.clock, hF, ?_, X.hears, X.method, X.code, X.here, X.tail, X.warmed, ?_, ?_, ?_⟩
  · have h := X.room
    have hU : ((T.setVm s.vm).setFrames (.invoking m args :: below)).localsInUse = s.localsInUse := by
      rw [State.localsInUse_invoking hF (meth := meth) (c := c) X.method X.code, State.localsInUse_invoking X.frames X.method X.code]
    simp only [State.hasRoom, Bool.and_eq_true, decide_eq_true_eq] at h ⊢
    obtain ⟨⟨⟨⟨h1, h2, h3, h4, h5, h6⟩, h7⟩, h8⟩, h9⟩ := h
    rw [X.frames, List.length_cons] at h2 h3
    have q1 := X.heapSize
    have q2 := X.used
    simp only [hF, hU, List.length_cons, State.stackLimits_setFrames, State.stackBytes_setFrames, hl9, hb9]
    refine ⟨⟨⟨⟨by omega, by omega, by omega, by omega, by omega, h6⟩, ?_⟩, ?_⟩, X.book⟩
    · show T.heap.size + R'.cells ≤ e.platform.maxCells
      omega
    · show T.slotsUsed + R'.slots ≤ e.platform.maxSlots
      omega
  · rw [State.stackLimits_setFrames]; rfl
  · rw [State.stackBytes_setFrames]; rfl
  · refine ⟨?_, Nat.le_refl _, Nat.le_refl _, ?_, ?_, fun a c9 h9 => ⟨c9, h9, rfl, rfl, fun _ _ => rfl⟩⟩
    · obtain ⟨t, ht, -⟩ := State.frames_cons hr
      show T.setVm s.vm = { ((T.setVm s.vm).setFrames (.invoking m args :: below)).setFrames (T.setVm s.vm).frames with heap := T.heap, slotsUsed := T.slotsUsed }
      rw [State.setFrames_setFrames, State.setFrames_self ht]
      rfl
    · show T.slotsUsed = T.slotsUsed + ((T.heap.toList.drop T.heap.size).map (·.slots.size)).sum
      rw [List.drop_eq_nil_of_le (Nat.le_of_eq Array.length_toList)]
      rfl
    · show ((T.heap.toList.drop T.heap.size).map (·.slots.size)).sum ≤ 0
      rw [List.drop_eq_nil_of_le (Nat.le_of_eq Array.length_toList)]
      exact Nat.le_refl _
/-- 'throw new E()': new; dup; invokespecial; athrow -/
theorem vx_throw0 {cc : ByteArray} {pc : Nat} (hexec : p.tables.exec = Jvm.exec) (hb : c.code = cc) (hl : l.stackTraces = false) {own cls : String} {names : List String} {ik ic mc ms : Nat} {A : Nat → Prop}
    (hown : s.vm.findClass own = some m.cls) (hcls : Bundle.fit cls = true) (hnames : ∀ n ∈ names, Bundle.fit n = true)
    (hk : (Cond.classLink own ik cls).before args s = true) (hini : (Cond.initialized cls).before args s = true) (hat : ∀ w ∈ vx_at0 own ic cls names, w.before args s = true)
    (hgood : ∀ w ∈ Cond.classLink own ik cls :: Cond.initialized cls :: vx_at0 own ic cls names, vx_ot w = true)
    (hU : vx_Zq Bundle.tN "UNASSIGNED_STACK" Bundle.steD A s s.heap) (hN : vx_Zq Bundle.tN "SUPPRESSED_SENTINEL" Bundle.listD A s s.heap) (hS : va_S A s.heap H locs) (hsize : ls.size = c.maxLocals)
    (d0 : decode cc pc = .ok (.new ik, 3)) (d3 : decode cc (pc + 3) = .ok (.dup, 1)) (d4 : decode cc (pc + 4) = .ok (.invokespecial ic, 3)) (d7 : decode cc (pc + 7) = .ok (.athrow, 1))
    (hout : ∀ x ∈ c.exceptionTable.toList, covers x (pc + 7) = false)
    (hRframes : names.length + 3 < R.frames) (hRlocals : (rest.map fun v => v.category).sum + (13 * (names.length + 1) + 42) ≤ R.locals) (hRcells : cells + 1 ≤ R.cells) (hRslots : slots + 6 ≤ R.slots) (hlocks : meth.locks = false)
    (hx : ∀ t : State, s.vm.Alike t.vm → H.size ≤ t.heap.size → (∀ q : Nat, q < H.size → t.heap[q]? = H[q]?) → XC cls s t)
    (hf : ∀ z ∈ locs, free z.base) (hc : cells + 1 ≤ mc) (hs : slots + 6 ≤ ms) :
    W p l e R s m args below meth c H locs cells slots (vx_MQ below Qc XC args s mc ms free) (F0 m pc ls rest) := by
  intro T hT X
  have htr : e.platform.stackTraces = false := (show e.platform.stackTraces = l.stackTraces by rw [X.admits.platform]).trans hl
  have Y := vx_rebase X (R' := { frames := R.frames, locals := R.locals, cells := 1, slots := 6 }) (Nat.le_refl _) (Nat.le_refl _) hRcells hRslots
  obtain ⟨s', hA⟩ : ∃ z, z = (T.setVm s.vm).setFrames (.invoking m args :: below) := ⟨_, rfl⟩
  rw [← hA] at Y
  have hvm : s'.vm = s.vm := by rw [hA]; rfl
  have hhp : s'.heap = H := by rw [hA]; exact hT
  have hW0 : s.WarmedH s'.vm := by rw [hvm]; exact State.WarmedH.refl s
  have hat' : ∀ w ∈ vx_at0 own ic cls names, w.before args s' = true := fun w hw => vx_ot_at hW0 hvm.symm (hgood w (List.mem_cons_of_mem _ (List.mem_cons_of_mem _ hw))) (hat w hw)
  have hk' : (Cond.classLink own ik cls).before args s' = true := vx_ot_at hW0 hvm.symm (hgood _ List.mem_cons_self) hk
  have hini' : (Cond.initialized cls).before args s' = true := vx_ot_at hW0 hvm.symm (hgood _ (List.mem_cons_of_mem _ List.mem_cons_self)) hini
  have hU' : vx_Zq Bundle.tN "UNASSIGNED_STACK" Bundle.steD A s' s'.heap := by rw [hhp]; exact vx_Zq.moved hW0.alike (hU.kept hS.2.1)
  have hN' : vx_Zq Bundle.tN "SUPPRESSED_SENTINEL" Bundle.listD A s' s'.heap := by rw [hhp]; exact vx_Zq.moved hW0.alike (hN.kept hS.2.1)
  have h : ∀ w ∈ Bundle.ownAtoms0 own ic cls names, w.before args s' = true := vx_own hat' (vx_isRefq hU'.1) (vx_isRefq hN'.1) hU'.2.word hN'.2.word
  have hown' : s'.vm.findClass own = some m.cls := by rw [hvm]; exact hown
  have hins : (Cond.instantiable cls 6).before args s' = true := h _ (by simp [Bundle.ownAtoms0])
  obtain ⟨vm₁, cX, kX, hfX, hkX, -, -, X₁, st1⟩ := Y.newCold hexec (own := own) (C := cls) (index := ik) (n := 6) hown' hk' hins hini'
    (g := F0 m pc ls rest) rfl (by rw [hb]; exact d0) (Nat.le_refl _) (Nat.le_refl _)
  generalize hT1 : (T.setVm vm₁).pushCell { cls := cX, slots := kX.instanceTypes.map defaultValue, vm := .none } = T1 at X₁ st1
  have hcat : (Value.ref T.heap.size).category = 1 := rfl
  have hcellA : T1.heap[T.heap.size]? = some (freshCell cX kX) := by rw [← hT1]; exact State.heap_pushCell_size _ _
  have d3' : decode c.code (pc + 3) = .ok (.dup, 1) := by rw [hb]; exact d3
  obtain ⟨U, hsteps, hrun, hend, hW, hsame, ce, hce, hO⟩ := X₁.ctorThrow0 hexec htr (own := own) (cls := cls) (names := names) (ic := ic) hown' hcls hnames h (fun x hx => nomatch hx) hfX hkX hcellA (by rw [hhp, hT]; exact Nat.le_refl _)
    (g := { method := m, pc := pc + 4, locals := ls, stack := .ref T.heap.size :: .ref T.heap.size :: rest, locked := none }) rfl hsize rfl rfl (rest := rest) rfl
    (by rw [hb]; exact d4) (by rw [hb]; exact d7) hout hRframes (by simp only [List.map_cons, List.sum_cons, hcat]; omega) hlocks
  obtain ⟨f1, f2⟩ := vx_frame hsame
  rw [hhp] at f1 f2
  have hWs : s.WarmedH U.vm := State.WarmedH.trans hW0 hW
  have hcl : s.vm.findClass cls = some ce.cls := by
    have h9 := hO.cls
    rw [hvm] at h9
    exact h9
  have hall : s.sameButNew ({ U with vm := s.vm } : State) locs mc ms := by
    subst hA
    obtain ⟨e1, e2⟩ := hsame
    rw [State.setFrames_setFrames] at e1
    have h2 : (T.setVm s.vm).sameButNew ({ U with vm := s.vm } : State) [] (0 + 1) (0 + 6) := ⟨e1, e2⟩
    have h3 := X.same.trans h2
    rw [List.append_nil] at h3
    exact h3.mono hc hs
  refine ⟨U, ?_, .threw T.heap.size, hrun, hend, Or.inr ⟨T.heap.size, rfl, cls, ce, locs, hx U hWs.alike f1 (fun q hq => f2 q hq (fun z hz => nomatch hz)), hce, hO.vm, hcl, hWs, hall, hf⟩⟩
  refine st1 _ ?_
  show Steps p.tables e below (T1.setTop { method := m, pc := pc + 3, locals := ls, stack := .ref T.heap.size :: rest, locked := none }) _
  jvm_step X₁.here [X₁.here.top, hexec, d3', Value.category]
  exact hsteps
/-- 'throw new E("text")': new; dup; ldc; invokespecial; athrow -/
theorem vx_throwS {cc : ByteArray} {pc : Nat} (hexec : p.tables.exec = Jvm.exec) (hb : c.code = cc) (hl : l.stackTraces = false) {own cls text : String} {names : List String} {ik is ic mc ms sa : Nat} {A : Nat → Prop}
    (hown : s.vm.findClass own = some m.cls) (hcls : Bundle.fit cls = true) (hnames : ∀ n ∈ names, Bundle.fit n = true)
    (hk : (Cond.classLink own ik cls).before args s = true) (hini : (Cond.initialized cls).before args s = true) (hstr : vk_R own is text sa s) (hat : ∀ w ∈ vx_atS own ic cls names, w.before args s = true)
    (hgood : ∀ w ∈ Cond.classLink own ik cls :: Cond.initialized cls :: vx_atS own ic cls names, vx_ot w = true)
    (hU : vx_Zq Bundle.tN "UNASSIGNED_STACK" Bundle.steD A s s.heap) (hN : vx_Zq Bundle.tN "SUPPRESSED_SENTINEL" Bundle.listD A s s.heap) (hS : va_S A s.heap H locs) (hsize : ls.size = c.maxLocals)
    (d0 : decode cc pc = .ok (.new ik, 3)) (d3 : decode cc (pc + 3) = .ok (.dup, 1)) (d4 : decode cc (pc + 4) = .ok (.ldc is, 2)) (d6 : decode cc (pc + 6) = .ok (.invokespecial ic, 3)) (d9 : decode cc (pc + 9) = .ok (.athrow, 1))
    (hout : ∀ x ∈ c.exceptionTable.toList, covers x (pc + 9) = false)
    (hRframes : names.length + 3 < R.frames) (hRlocals : (rest.map fun v => v.category).sum + (13 * (names.length + 1) + 43) ≤ R.locals) (hRcells : cells + 1 ≤ R.cells) (hRslots : slots + 6 ≤ R.slots) (hlocks : meth.locks = false)
    (hx : ∀ t : State, s.vm.Alike t.vm → H.size ≤ t.heap.size → (∀ q : Nat, q < H.size → t.heap[q]? = H[q]?) → XC cls s t)
    (hf : ∀ z ∈ locs, free z.base) (hc : cells + 1 ≤ mc) (hs : slots + 6 ≤ ms) :
    W p l e R s m args below meth c H locs cells slots (vx_MQ below Qc XC args s mc ms free) (F0 m pc ls rest) := by
  intro T hT X
  have htr : e.platform.stackTraces = false := (show e.platform.stackTraces = l.stackTraces by rw [X.admits.platform]).trans hl
  have Y := vx_rebase X (R' := { frames := R.frames, locals := R.locals, cells := 1, slots := 6 }) (Nat.le_refl _) (Nat.le_refl _) hRcells hRslots
  obtain ⟨s', hA⟩ : ∃ z, z = (T.setVm s.vm).setFrames (.invoking m args :: below) := ⟨_, rfl⟩
  rw [← hA] at Y
  have hvm : s'.vm = s.vm := by rw [hA]; rfl
  have hhp : s'.heap = H := by rw [hA]; exact hT
  have hW0 : s.WarmedH s'.vm := by rw [hvm]; exact State.WarmedH.refl s
  have hat' : ∀ w ∈ vx_atS own ic cls names, w.before args s' = true := fun w hw => vx_ot_at hW0 hvm.symm (hgood w (List.mem_cons_of_mem _ (List.mem_cons_of_mem _ hw))) (hat w hw)
  have hk' : (Cond.classLink own ik cls).before args s' = true := vx_ot_at hW0 hvm.symm (hgood _ List.mem_cons_self) hk
  have hini' : (Cond.initialized cls).before args s' = true := vx_ot_at hW0 hvm.symm (hgood _ (List.mem_cons_of_mem _ List.mem_cons_self)) hini
  have hU' : vx_Zq Bundle.tN "UNASSIGNED_STACK" Bundle.steD A s' s'.heap := by rw [hhp]; exact vx_Zq.moved hW0.alike (hU.kept hS.2.1)
  have hN' : vx_Zq Bundle.tN "SUPPRESSED_SENTINEL" Bundle.listD A s' s'.heap := by rw [hhp]; exact vx_Zq.moved hW0.alike (hN.kept hS.2.1)
  have h : ∀ w ∈ Bundle.ownAtoms own ic cls names, w.before args s' = true := vx_own hat' (vx_isRefq hU'.1) (vx_isRefq hN'.1) hU'.2.word hN'.2.word
  have hown' : s'.vm.findClass own = some m.cls := by rw [hvm]; exact hown
  have hins : (Cond.instantiable cls 6).before args s' = true := h _ (by simp [Bundle.ownAtoms])
  obtain ⟨vm₁, cX, kX, hfX, hkX, -, -, X₁, st1⟩ := Y.newCold hexec (own := own) (C := cls) (index := ik) (n := 6) hown' hk' hins hini'
    (g := F0 m pc ls rest) rfl (by rw [hb]; exact d0) (Nat.le_refl _) (Nat.le_refl _)
  generalize hT1 : (T.setVm vm₁).pushCell { cls := cX, slots := kX.instanceTypes.map defaultValue, vm := .none } = T1 at X₁ st1
  have hcat : (Value.ref T.heap.size).category = 1 := rfl
  have hcellA : T1.heap[T.heap.size]? = some (freshCell cX kX) := by rw [← hT1]; exact State.heap_pushCell_size _ _
  have d3' : decode c.code (pc + 3) = .ok (.dup, 1) := by rw [hb]; exact d3
  have d4' : decode c.code (pc + 4) = .ok (.ldc is, 2) := by rw [hb]; exact d4
  have hstr' : vk_R own is text sa s' := vk_R.warm hW0 hstr
  obtain ⟨U, hsteps, hrun, hend, hW, hsame, ce, hce, hO⟩ := X₁.ctorThrowS hexec htr (own := own) (cls := cls) (names := names) (ic := ic) hown' hcls hnames h (fun x hx => nomatch hx) hfX hkX hcellA (by rw [hhp, hT]; exact Nat.le_refl _) (msg := .ref sa) rfl
    (g := { method := m, pc := pc + 6, locals := ls, stack := .ref sa :: .ref T.heap.size :: .ref T.heap.size :: rest, locked := none }) rfl hsize rfl rfl (rest := rest) rfl
    (by rw [hb]; exact d6) (by rw [hb]; exact d9) hout hRframes (by simp only [List.map_cons, List.sum_cons, hcat]; omega) hlocks
  obtain ⟨f1, f2⟩ := vx_frame hsame
  rw [hhp] at f1 f2
  have hWs : s.WarmedH U.vm := State.WarmedH.trans hW0 hW
  have hcl : s.vm.findClass cls = some ce.cls := by
    have h9 := hO.cls
    rw [hvm] at h9
    exact h9
  have hall : s.sameButNew ({ U with vm := s.vm } : State) locs mc ms := by
    subst hA
    obtain ⟨e1, e2⟩ := hsame
    rw [State.setFrames_setFrames] at e1
    have h2 : (T.setVm s.vm).sameButNew ({ U with vm := s.vm } : State) [] (0 + 1) (0 + 6) := ⟨e1, e2⟩
    have h3 := X.same.trans h2
    rw [List.append_nil] at h3
    exact h3.mono hc hs
  refine ⟨U, ?_, .threw T.heap.size, hrun, hend, Or.inr ⟨T.heap.size, rfl, cls, ce, locs, hx U hWs.alike f1 (fun q hq => f2 q hq (fun z hz => nomatch hz)), hce, hO.vm, hcl, hWs, hall, hf⟩⟩
  refine st1 _ ?_
  show Steps p.tables e below (T1.setTop { method := m, pc := pc + 3, locals := ls, stack := .ref T.heap.size :: rest, locked := none }) _
  jvm_step X₁.here [X₁.here.top, hexec, d3', Value.category]
  exact X₁.ldcString hexec (own := own) (text := text) (index := is) (a := sa) hown' hstr'.1 hstr'.2
    (g := { method := m, pc := pc + 4, locals := ls, stack := .ref T.heap.size :: .ref T.heap.size :: rest, locked := none }) rfl d4' _ hsteps
/-- 'throw new E("text")', the text by a wide index -/
theorem vx_throwSW {cc : ByteArray} {pc : Nat} (hexec : p.tables.exec = Jvm.exec) (hb : c.code = cc) (hl : l.stackTraces = false) {own cls text : String} {names : List String} {ik is ic mc ms sa : Nat} {A : Nat → Prop}
    (hown : s.vm.findClass own = some m.cls) (hcls : Bundle.fit cls = true) (hnames : ∀ n ∈ names, Bundle.fit n = true)
    (hk : (Cond.classLink own ik cls).before args s = true) (hini : (Cond.initialized cls).before args s = true) (hstr : vk_R own is text sa s) (hat : ∀ w ∈ vx_atS own ic cls names, w.before args s = true)
    (hgood : ∀ w ∈ Cond.classLink own ik cls :: Cond.initialized cls :: vx_atS own ic cls names, vx_ot w = true)
    (hU : vx_Zq Bundle.tN "UNASSIGNED_STACK" Bundle.steD A s s.heap) (hN : vx_Zq Bundle.tN "SUPPRESSED_SENTINEL" Bundle.listD A s s.heap) (hS : va_S A s.heap H locs) (hsize : ls.size = c.maxLocals)
    (d0 : decode cc pc = .ok (.new ik, 3)) (d3 : decode cc (pc + 3) = .ok (.dup, 1)) (d4 : decode cc (pc + 4) = .ok (.ldc_w is, 3)) (d7 : decode cc (pc + 7) = .ok (.invokespecial ic, 3)) (d10 : decode cc (pc + 10) = .ok (.athrow, 1))
    (hout : ∀ x ∈ c.exceptionTable.toList, covers x (pc + 10) = false)
    (hRframes : names.length + 3 < R.frames) (hRlocals : (rest.map fun v => v.category).sum + (13 * (names.length + 1) + 43) ≤ R.locals) (hRcells : cells + 1 ≤ R.cells) (hRslots : slots + 6 ≤ R.slots) (hlocks : meth.locks = false)
    (hx : ∀ t : State, s.vm.Alike t.vm → H.size ≤ t.heap.size → (∀ q : Nat, q < H.size → t.heap[q]? = H[q]?) → XC cls s t)
    (hf : ∀ z ∈ locs, free z.base) (hc : cells + 1 ≤ mc) (hs : slots + 6 ≤ ms) :
    W p l e R s m args below meth c H locs cells slots (vx_MQ below Qc XC args s mc ms free) (F0 m pc ls rest) := by
  intro T hT X
  have htr : e.platform.stackTraces = false := (show e.platform.stackTraces = l.stackTraces by rw [X.admits.platform]).trans hl
  have Y := vx_rebase X (R' := { frames := R.frames, locals := R.locals, cells := 1, slots := 6 }) (Nat.le_refl _) (Nat.le_refl _) hRcells hRslots
  obtain ⟨s', hA⟩ : ∃ z, z = (T.setVm s.vm).setFrames (.invoking m args :: below) := ⟨_, rfl⟩
  rw [← hA] at Y
  have hvm : s'.vm = s.vm := by rw [hA]; rfl
  have hhp : s'.heap = H := by rw [hA]; exact hT
  have hW0 : s.WarmedH s'.vm := by rw [hvm]; exact State.WarmedH.refl s
  have hat' : ∀ w ∈ vx_atS own ic cls names, w.before args s' = true := fun w hw => vx_ot_at hW0 hvm.symm (hgood w (List.mem_cons_of_mem _ (List.mem_cons_of_mem _ hw))) (hat w hw)
  have hk' : (Cond.classLink own ik cls).before args s' = true := vx_ot_at hW0 hvm.symm (hgood _ List.mem_cons_self) hk
  have hini' : (Cond.initialized cls).before args s' = true := vx_ot_at hW0 hvm.symm (hgood _ (List.mem_cons_of_mem _ List.mem_cons_self)) hini
  have hU' : vx_Zq Bundle.tN "UNASSIGNED_STACK" Bundle.steD A s' s'.heap := by rw [hhp]; exact vx_Zq.moved hW0.alike (hU.kept hS.2.1)
  have hN' : vx_Zq Bundle.tN "SUPPRESSED_SENTINEL" Bundle.listD A s' s'.heap := by rw [hhp]; exact vx_Zq.moved hW0.alike (hN.kept hS.2.1)
  have h : ∀ w ∈ Bundle.ownAtoms own ic cls names, w.before args s' = true := vx_own hat' (vx_isRefq hU'.1) (vx_isRefq hN'.1) hU'.2.word hN'.2.word
  have hown' : s'.vm.findClass own = some m.cls := by rw [hvm]; exact hown
  have hins : (Cond.instantiable cls 6).before args s' = true := h _ (by simp [Bundle.ownAtoms])
  obtain ⟨vm₁, cX, kX, hfX, hkX, -, -, X₁, st1⟩ := Y.newCold hexec (own := own) (C := cls) (index := ik) (n := 6) hown' hk' hins hini'
    (g := F0 m pc ls rest) rfl (by rw [hb]; exact d0) (Nat.le_refl _) (Nat.le_refl _)
  generalize hT1 : (T.setVm vm₁).pushCell { cls := cX, slots := kX.instanceTypes.map defaultValue, vm := .none } = T1 at X₁ st1
  have hcat : (Value.ref T.heap.size).category = 1 := rfl
  have hcellA : T1.heap[T.heap.size]? = some (freshCell cX kX) := by rw [← hT1]; exact State.heap_pushCell_size _ _
  have d3' : decode c.code (pc + 3) = .ok (.dup, 1) := by rw [hb]; exact d3
  have d4' : decode c.code (pc + 4) = .ok (.ldc_w is, 3) := by rw [hb]; exact d4
  have hstr' : vk_R own is text sa s' := vk_R.warm hW0 hstr
  obtain ⟨U, hsteps, hrun, hend, hW, hsame, ce, hce, hO⟩ := X₁.ctorThrowS hexec htr (own := own) (cls := cls) (names := names) (ic := ic) hown' hcls hnames h (fun x hx => nomatch hx) hfX hkX hcellA (by rw [hhp, hT]; exact Nat.le_refl _) (msg := .ref sa) rfl
    (g := { method := m, pc := pc + 7, locals := ls, stack := .ref sa :: .ref T.heap.size :: .ref T.heap.size :: rest, locked := none }) rfl hsize rfl rfl (rest := rest) rfl
    (by rw [hb]; exact d7) (by rw [hb]; exact d10) hout hRframes (by simp only [List.map_cons, List.sum_cons, hcat]; omega) hlocks
  obtain ⟨f1, f2⟩ := vx_frame hsame
  rw [hhp] at f1 f2
  have hWs : s.WarmedH U.vm := State.WarmedH.trans hW0 hW
  have hcl : s.vm.findClass cls = some ce.cls := by
    have h9 := hO.cls
    rw [hvm] at h9
    exact h9
  have hall : s.sameButNew ({ U with vm := s.vm } : State) locs mc ms := by
    subst hA
    obtain ⟨e1, e2⟩ := hsame
    rw [State.setFrames_setFrames] at e1
    have h2 : (T.setVm s.vm).sameButNew ({ U with vm := s.vm } : State) [] (0 + 1) (0 + 6) := ⟨e1, e2⟩
    have h3 := X.same.trans h2
    rw [List.append_nil] at h3
    exact h3.mono hc hs
  refine ⟨U, ?_, .threw T.heap.size, hrun, hend, Or.inr ⟨T.heap.size, rfl, cls, ce, locs, hx U hWs.alike f1 (fun q hq => f2 q hq (fun z hz => nomatch hz)), hce, hO.vm, hcl, hWs, hall, hf⟩⟩
  refine st1 _ ?_
  show Steps p.tables e below (T1.setTop { method := m, pc := pc + 3, locals := ls, stack := .ref T.heap.size :: rest, locked := none }) _
  jvm_step X₁.here [X₁.here.top, hexec, d3', Value.category]
  exact X₁.ldcStringW hexec (own := own) (text := text) (index := is) (a := sa) hown' hstr'.1 hstr'.2
    (g := { method := m, pc := pc + 4, locals := ls, stack := .ref T.heap.size :: .ref T.heap.size :: rest, locked := none }) rfl d4' _ hsteps
end Ends
section Bodies
variable {l : Launch}
theorem vx_ofW {y : MethodName} {ws ws' : List Cond} {rm : Room} {Pc : Array Value → State → Prop} {Qc : Array Value → State → Outcome → State → Prop} {XC : String → State → State → Prop} {mc ms : Nat} {free : Addr → Prop} {cc : ByteArray} {maxL : Nat} {ret : Option FieldType}
    (hy : plainName y.cls = true) (hw : ws = Cond.code y cc maxL ret :: ws')
    (body : ∀ p e s m args below meth c s₁, BodyLoose p l y (headSpec ws rm) cc maxL ret e s m args below meth c s₁ → c.maxLocals = maxL → (∀ x ∈ c.exceptionTable.toList, False) → Pc args s →
      W p l e (headSpec ws rm).room s m args below meth c s.heap [] 0 0 (vx_MQ below Qc XC args s mc ms free) (entryFrame m args maxL)) : vx_Met l y ws rm Pc Qc XC mc ms free := by
  refine MetFree.of_bodyS (code := cc) (maxLocals := maxL) (ret := ret) hy ?_ ?_
  · intro args s m h hn
    obtain ⟨meth, c, h1, h2, h3, h4, h5, h6, -, -⟩ := Cond.code_spec hn (atoms_spec (ws := ws) h _ (by rw [hw]; exact List.mem_cons_self))
    exact ⟨meth, c, h1, h2, h3, h4, h5, h6⟩
  · intro p e s m args below meth c s₁ B hml hP _
    have hh0 : s₁.heap = s.heap := by rw [B.state]; rfl
    have ht : ∀ x ∈ c.exceptionTable.toList, False := by
      obtain ⟨meth9, c9, h1, h2, -, -, -, -, h7, -⟩ := Cond.code_spec B.named (atoms_spec (ws := ws) B.pre _ (by rw [hw]; exact List.mem_cons_self))
      cases Option.some.inj (h1.symm.trans B.method)
      cases Option.some.inj (h2.symm.trans (Stand.of_body B).code)
      intro x hx
      rw [Array.isEmpty_iff.mp h7] at hx
      cases hx
    obtain ⟨t, a1, o, b1, b2, b3⟩ := body p e s m args below meth c s₁ B hml ht hP s₁ hh0 (Stand.of_body B)
    exact ⟨t, o, a1, b1, b2, b3⟩
/-- the table of a body with handlers -/
theorem vx_table {p : Program} {x y : MethodName} {S : Spec} {cc bytes : ByteArray} {maxL maxL' : Nat} {ret ret' : Option FieldType} {e : Env} {s s₁ : State} {m : MethodId} {args : Array Value} {below : List Frame} {meth : Method} {c : Code} {hh : List (Nat × Nat × Nat × Nat)}
    (B : BodyLoose p l y S cc maxL ret e s m args below meth c s₁) (h : (Cond.codeWith y bytes maxL' ret' hh).before args s = true) : c.exceptionTable.toList = tableOf hh := by
  obtain ⟨m9, meth9, c9, hn9, h1, h2, -, -, h6, -⟩ := Cond.codeWith_spec h
  cases Option.some.inj (hn9.symm.trans B.named)
  cases Option.some.inj (h1.symm.trans B.method)
  cases Option.some.inj (h2.symm.trans (Stand.of_body B).code)
  rw [← h6, table_eq]
end Bodies
end VXA
/-! ===== END ===== -/
/-! ===== BEGIN a static call of a method with an exception table ===== -/
section VXS
variable {p : Program} {l : Launch} {e : Env} {R : Room} {s : State} {m : MethodId} {args : Array Value} {below : List Frame} {meth : Method} {c : Code} {T : State} {H : Heap} {locs : List Loc} {cells slots : Nat}
abbrev vx_CSW (R : Room) (s : State) (args : Array Value) (own : String) (index : Nat) (y : MethodName) (bytes : ByteArray) (maxL : Nat) (ret : Option FieldType) (hh : List (Nat × Nat × Nat × Nat)) (ws : List Cond) (rm : Room) (mc ms n : Nat) : Prop :=
  (rm.cells = mc ∧ rm.slots = ms ∧ rm.frames + 1 ≤ R.frames ∧ 8 + (maxL + 11) + rm.locals ≤ R.locals ∧ (∀ w ∈ ws, ∀ (a' : Array Value) (U : State), s.WarmedH U.vm → w.before a' U = true) ∧ Cond.codeWith y bytes maxL ret hh ∈ ws) ∧
  (Cond.codeWith y bytes maxL ret hh).before args s = true ∧ (Cond.initialized y.cls).before args s = true ∧ (y.cls ≠ "java/lang/invoke/MethodHandle" ∧ y.cls ≠ "java/lang/invoke/VarHandle") ∧
  (∀ sig, parseMethodDescriptor y.desc = some sig → n = sig.parameters.length) ∧ (Cond.methodLink own index y).before args s = true ∧ (Cond.static y).before args s = true
theorem vx_cwSW {own : String} {index maxL mc ms : Nat} {y : MethodName} {bytes : ByteArray} {ret : Option FieldType} {hh : List (Nat × Nat × Nat × Nat)} {Ts ws ws' : List Cond} {rm : Room} (n : Nat) (ht : ∀ w ∈ Ts, w.before args s = true) (hT : GoodIn Ts (va_wsS own index y ws)) (hw : ws = Cond.codeWith y bytes maxL ret hh :: ws') (hrc : rm.cells = mc) (hrs : rm.slots = ms)
    (hd : y.cls ≠ "java/lang/invoke/MethodHandle" ∧ y.cls ≠ "java/lang/invoke/VarHandle" ∧ (parseMethodDescriptor y.desc).map (fun d => d.parameters.length) = some n) (hR : rm.frames + 1 ≤ R.frames ∧ 8 + (maxL + 11) + rm.locals ≤ R.locals) :
    vx_CSW R s args own index y bytes maxL ret hh ws rm mc ms n := by
  have ok : ∀ w ∈ va_wsS own index y ws, w.before args s = true := fun w h => ht w (hT w h).1
  have hG : GoodIn Ts ws := fun w h => hT w (by unfold va_wsS; exact List.mem_append_right _ h)
  have hc : Cond.codeWith y bytes maxL ret hh ∈ ws := by rw [hw]; exact List.mem_cons_self
  refine ⟨⟨hrc, hrs, hR.1, hR.2, pay_in ht hG, hc⟩, ht _ (hG _ hc).1, ok _ (by simp [va_wsS]), ⟨hd.1, hd.2.1⟩, fun sig h => ?_, ok _ (by simp [va_wsS]), ok _ (by simp [va_wsS])⟩
  have h2 := hd.2.2
  rw [h] at h2
  exact (Option.some.inj h2).symm
theorem vx_callSW (X : Stand p l e R s m args below meth c T locs cells slots) (hexec : p.tables.exec = Jvm.exec) {own : String} {index : Nat} {y : MethodName} {bytes : ByteArray} {maxL : Nat} {ret : Option FieldType} {hh : List (Nat × Nat × Nat × Nat)}
    (hown : s.vm.findClass own = some m.cls) (hlink : (Cond.methodLink own index y).before args s = true) (hstat : (Cond.static y).before args s = true) (hinit : (Cond.initialized y.cls).before args s = true)
    (hcode : (Cond.codeWith y bytes maxL ret hh).before args s = true) (hy : y.cls ≠ "java/lang/invoke/MethodHandle" ∧ y.cls ≠ "java/lang/invoke/VarHandle")
    {W9 : Nat} {Pre : Pt → Array Value → Prop} {Post : Pt → Array Value → Option Value → Pt → Prop} (hK : Back l R p e below s args y 3 W9 Pre Post)
    {g : JFrame} (hg : g.method = m) (hsize : g.locals.size = c.maxLocals) {argsL rest : List Value} (hlen : ∀ sig, parseMethodDescriptor y.desc = some sig → argsL.length = sig.parameters.length)
    (hstack : g.stack = argsL.reverse ++ rest) (hW : 2 * g.monitorRoom + (rest.map fun v => v.category).sum ≤ W9) (hdg : decode c.code g.pc = .ok (.invokestatic index, 3))
    (hpre : ∀ vm₁, s.WarmedH vm₁ → Pre ⟨T.setVm vm₁, locs, cells, slots⟩ argsL.toArray) :
    ∃ (v : Option Value) (vm₁ : Vm) (B : Pt), s.WarmedH vm₁ ∧ Stand p l e R s m args below meth c B.U B.locs B.cells B.slots ∧ Post ⟨T.setVm vm₁, locs, cells, slots⟩ argsL.toArray v B ∧
      ∀ target, Steps p.tables e below (B.U.setTop { g with pc := g.pc + 3, stack := v.toList ++ rest }) target → Steps p.tables e below (T.setTop g) target := by
  obtain ⟨mk, methM, cM, hnamed, hmethM, -, -, -, -, -, -, hsigM⟩ := Cond.codeWith_spec hcode
  have hstatic : methM.isStatic = true := Cond.static_spec hnamed hmethM hstat
  obtain ⟨kP, hkP, -⟩ := className_of_methodNamed hnamed
  have hinitP : kP.init = .initialized := Cond.initialized_spec (findClass_of_methodNamed hnamed) hkP hinit
  obtain ⟨vm₁, X₁, hstep₁⟩ := X.invokestatic hexec hown hlink hnamed hmethM hstatic hkP hinitP hy (g := g) hg (argsL := argsL) (rest := rest) (hlen _ hsigM) hstack hdg
  obtain ⟨v, B, X', hpost, hsteps⟩ := hK m meth c ⟨T.setVm vm₁, locs, cells, slots⟩ { g with stack := rest } (.invokestatic index) mk argsL.toArray X₁ hg hsize hdg hW (X₁.named hnamed) (hpre vm₁ X₁.warmed)
  exact ⟨v, vm₁, B, X₁.warmed, X', hpost, fun target h => hstep₁ _ fun acts => by rw [doInvoke_state]; exact hsteps.trans h⟩
theorem vx_runSW {y : MethodName} {bytes cc : ByteArray} {maxL nL mc ms n index : Nat} {ret : Option FieldType} {hh : List (Nat × Nat × Nat × Nat)} {ws : List Cond} {rm : Room} {Pc : Array Value → State → Prop} {Qc : Array Value → State → Outcome → State → Prop} {free : Addr → Prop} {Ts : List Cond} {own : String} {As rest : List Value} {g : JFrame}
    (S : CallFix p m c cc nL s args Ts own) (hM : Met l y ws rm Pc Qc mc ms free) (cw : vx_CSW R s args own index y bytes maxL ret hh ws rm mc ms n) (hp : PreS s H Pc As)
    (hg : g.method = m) (hn : As.length = n) (hsize : g.locals.size = nL) (hstack : g.stack = As.reverse ++ rest) (hW : 2 * g.monitorRoom + (rest.map fun v => v.category).sum ≤ 8) (hdg : decode cc g.pc = .ok (.invokestatic index, 3)) (hf : cells + mc ≤ R.cells ∧ slots + ms ≤ R.slots) :
    va_Run p l e R s m args below meth c H locs cells slots mc ms g rest (Qc As.toArray) (free) := by
  obtain ⟨⟨hrc, hrs, hfr, hlo, hws, hcw⟩, hcode, hini, hy, hlen, hl, hstt⟩ := cw
  have hK : Back l R p e below s args y 3 8 (PreOf R mc ms Pc) (PostOf Qc mc ms free) := va_backW (hh := hh) (bytes := bytes) (maxL := maxL) (ret := ret) hM hp.1 hrc hrs hfr hlo hws hcw (fun a' U hW => word_at hW (Or.inl (by first | rfl | simp [Cond.onTables, Cond.keeps, Cond.steady])) hini)
  obtain ⟨hx, hb, hml, ho, -⟩ := S
  intro T hT X
  obtain ⟨v, vm₁, ⟨U', l2, c2, s2⟩, hW₁, X', ⟨g', mk, t, L, e1, e2, hq, h1, hL, h2, h3⟩, st⟩ := vx_callSW X hx (hh := hh) (bytes := bytes) (maxL := maxL) (ret := ret) ho hl hstt hini hcode hy hK hg (hsize.trans hml.symm) (argsL := As) (rest := rest) (fun sig h => hn.trans (hlen sig h)) hstack hW (by rw [hb]; exact hdg)
    (fun vm₁ hW₁ => ⟨hf.1, hf.2, hp.2 (T.setVm vm₁) hT hW₁⟩)
  dsimp only [Pt.U, Pt.locs, Pt.cells, Pt.slots] at X' e1 e2 h1 h2 h3 st
  subst h1; subst h2; subst h3
  exact ⟨v, (T.setVm vm₁).calling g' mk As.toArray, t, U', L, hT, X', hL, e1, e2, hq, st⟩
/-- not caught here, past rows that name other classes: it goes on to the caller -/
theorem vx_outP {p : Program} {l : Launch} {e : Env} {R : Room} {s : State} {m : MethodId} {args : Array Value} {below : List Frame} {meth : Method} {c : Code} {H : Heap} {locs : List Loc} {cells slots : Nat} {free : Addr → Prop} {ls : Array Slot} {rest : List Value} {Qc : Array Value → State → Outcome → State → Prop} {XC : String → State → State → Prop}
    {pc : Nat} {own E : String} {ce : Cell} {q : Addr} {mc ms : Nat} (hown : s.vm.findClass own = some m.cls) (hlocks : meth.locks = false)
    (hpass : ∀ z ∈ c.exceptionTable.toList, covers z pc = false ∨ (z.catchType ≠ 0 ∧ ∃ nm : String, (Cond.classLink own z.catchType nm).before args s = true ∧ va_Nc E nm s)) (hcell : H[q]? = some ce) (hv : ce.vm = .none) (hcl : s.vm.findClass E = some ce.cls)
    (hx : ∀ t : State, t.heap = H → s.vm.Alike t.vm → XC E s t) (hf : ∀ z ∈ locs, free z.base) (hc : cells ≤ mc) (hs : slots ≤ ms) :
    vx_W p l e R s m args below meth c H locs cells slots (vx_MQ below Qc XC args s mc ms free) (F0 m pc ls rest) q := by
  intro T hT X
  have hpl : e.platform.magicAccessors = ({} : Platform).magicAccessors := by rw [X.admits.platform]
  obtain ⟨vm', hW', X', st⟩ := X.outThrough hlocks q (g := F0 m pc ls rest) rfl rfl rfl (cell := ce) (by rw [hT]; exact hcell) (by rw [hv]; rfl)
    (by obtain ⟨k9, h9, -⟩ := Vm.findClass_spec hcl; exact ⟨k9, h9⟩) (fun z hz => by
      rcases hpass z hz with h | ⟨hz0, nm, hl1, hn1⟩
      · exact Or.inl h
      · obtain ⟨c6, hc6, hcl6⟩ := Cond.classLink_spec hown hl1 e.platform hpl
        obtain ⟨a8, b8, h1, h2, h3⟩ := hn1
        cases Option.some.inj (h1.symm.trans hcl)
        cases Option.some.inj (h2.symm.trans hc6)
        exact Or.inr ⟨hz0, _, hcl6, h3⟩)
  obtain ⟨g₀, hfr⟩ := X'.frames_eq
  have hcell9 : ((T.setVm vm').setFrames (.throwing q :: below)).heap[q]? = some ce := by
    show T.heap[q]? = some ce
    rw [hT]; exact hcell
  have hend : Ended ((T.setVm vm').setFrames (.throwing q :: below)) below (.threw q) := State.frames_setFrames _ (State.cur_lt_of_frames hfr)
  refine ⟨(T.setVm vm').setFrames (.throwing q :: below), ?_, .threw q, X'.here.running, hend, Or.inr ⟨q, rfl, E, ce, locs, hx _ hT (X'.ends _).1.alike, hcell9, hv, hcl, (X'.ends _).1, (X'.ends _).2.mono hc hs, hf⟩⟩
  rw [X.pushThrowing_eq]
  exact st
/-- a thing of a world lies in the heap -/
theorem vx_lt {D : va_G} {cl : List vw_C} {ws : va_W} {H1 : Heap} (h : va_P D cl ws H1) {k : Nat} {q : Nat × va_E} (hk : ws[k]? = some q) : q.1 < H1.size := (h k q hk).lt
end VXS
/-! ===== END ===== -/
/-! ===== BEGIN methods with a table of their own: called by a name, returning or throwing ===== -/
section VXH
/-! vx_backW, vx_callVX, vx_callSX, vx_callVW, vx_runVW, vx_runVX, vx_runSX, vx_ofWH follow the same proofs as their sisters above (Free/Laws.lean, Shelf42/LK1.lean); vx_outP calls Shelf42/NT130.lean (outThrough). -/
section
variable {l : Launch} {R : Room} {p : Program} {e : Env} {below : List Frame} {s : State} {sargs : Array Value} {y : MethodName} {len W9 : Nat}
theorem vx_backW {ws : List Cond} {rm : Room} {Pc : Array Value → State → Prop} {Qc : Array Value → State → Outcome → State → Prop} {XC : String → State → State → Prop} {mc ms : Nat} {free : Addr → Prop} {bytes : ByteArray} {maxL : Nat} {ret : Option FieldType} {hh : List (Nat × Nat × Nat × Nat)}
    (hM : vx_Met l y ws rm Pc Qc XC mc ms free) (hblind : FrameBlind Pc) (hrc : rm.cells = mc) (hrs : rm.slots = ms)
    (hframes : rm.frames + 1 ≤ R.frames) (hlocals : W9 + (maxL + 11) + rm.locals ≤ R.locals)
    (hws : ∀ w ∈ ws, ∀ a' U, s.WarmedH U.vm → w.before a' U = true) (hcode : Cond.codeWith y bytes maxL ret hh ∈ ws) (hinit : ∀ a' U, s.WarmedH U.vm → (Cond.initialized y.cls).before a' U = true) :
    vx_Back l R p e below s sargs y len W9 (PreOf R mc ms Pc) (PostOf Qc mc ms free) (vx_Post XC mc ms free) := by
  intro m meth c A g ig mk a X hg hsize hdg hW hn hp
  have h1 : (headSpec ws rm).pre.before a A.U = true := atoms_intro fun w hw => hws w hw _ _ X.warmed
  have h2 : (Cond.codeWith y bytes maxL ret hh).before a A.U = true := hws _ hcode _ _ X.warmed
  have h3 : (Cond.initialized y.cls).before a A.U = true := hinit _ _ X.warmed
  have h4 : A.cells + (headSpec ws rm).room.cells ≤ R.cells := by rw [show (headSpec ws rm).room.cells = mc from hrc]; exact hp.1
  have h5 : A.slots + (headSpec ws rm).room.slots ≤ R.slots := by rw [show (headSpec ws rm).room.slots = ms from hrs]; exact hp.2.1
  have hPc : Pc a (A.U.calling g mk a) := hblind _ _ _ _ hp.2.2
  obtain ⟨U, Ls, c0, s0⟩ := A
  dsimp only [Pt.U, Pt.locs, Pt.cells, Pt.slots] at h1 h2 h3 h4 h5 X hn hPc ⊢
  obtain ⟨m9, methY, cY, hn9, hmY, hcY, -, hlY, -⟩ := Cond.codeWith_spec h2
  cases Option.some.inj (hn9.symm.trans hn)
  obtain ⟨kY, hkY, -⟩ := className_of_methodNamed hn
  have hinitY : kY.init = .initialized := Cond.initialized_spec (findClass_of_methodNamed hn) hkY h3
  have h : At U g.method c below := by rw [hg]; exact X.here
  have hlocals9 : W9 + (maxL + 11) + (headSpec ws rm).room.locals ≤ R.locals := hlocals
  have happ : (headSpec ws rm).appliesLoose y e.platform (U.calling g mk a) = true :=
    Spec.appliesLoose_calling (g := g) h hdg hn hkY hinitY
      (X.room_calling (g := g) (R' := (headSpec ws rm).room) hsize hmY hcY hframes (by rw [hlY]; omega) h4 h5) h1
  obtain ⟨mid, hmid⟩ := h.above
  have hfr : (U.setTop g).frames = (.java g :: mid) ++ below := by rw [State.frames_setTop' g h.top, hmid]; rfl
  obtain ⟨o, s₂, hsteps, -, hend, hq⟩ := Steps.callFree hM p X.admits X.cas X.clock (acts := []) hfr happ hPc trivial
  have hq' : vx_Q Qc XC mc ms free a (U.calling g mk a) o s₂ := hq
  rw [State.frames_setTop' g h.top] at hend
  obtain ⟨g₀, hg0⟩ := Option.isSome_iff_exists.mp h.top
  obtain ⟨r, hr⟩ := State.topJava?_eq_some.mp hg0
  have hr' : (({ U with heap := s₂.heap, slotsUsed := s₂.slotsUsed } : State).setVm s₂.vm).frames = .java g₀ :: r := hr
  rcases hq' with ⟨hqc, L, hfe, hL⟩ | ⟨q, rfl, E, ce, L, hx, hce, hcv, hcl, hW₂, hsm, hL⟩
  · obtain ⟨⟨v, rfl⟩, hW₂, e2, q2, q3, q4, q5, q6⟩ := id hfe
    have e3 : s₂ = ({ (U.calling g mk a).setFrames s₂.frames with heap := s₂.heap, slotsUsed := s₂.slotsUsed } : State).setVm s₂.vm := by
      have : s₂ = ({ s₂ with vm := (U.calling g mk a).vm } : State).setVm s₂.vm := rfl
      rw [e2] at this
      exact this
    obtain ⟨c₂, i₂, len₂, hc₂, hd₂, hf₂⟩ := hend
    have hW' : U.WarmedH s₂.vm := hW₂
    have hcc : c₂ = c := by
      have h1 : s₂.code? g.method = U.code? g.method := by
        rw [State.code?_eq, State.code?_eq, hW'.alike.method?]
      exact Option.some.inj (hc₂.symm.trans (h1.trans h.code))
    subst hcc
    have hlen : len₂ = len := by rw [hdg] at hd₂; cases hd₂; rfl
    subst hlen
    have hs₂ : s₂ = (({ U with heap := s₂.heap, slotsUsed := s₂.slotsUsed } : State).setVm s₂.vm).setTop { g with pc := g.pc + len₂, stack := v.toList ++ g.stack } := by
      refine e3.trans ?_
      rw [hf₂, State.calling_eq h.top, State.setFrames_setFrames, State.setTop_of_frames _ hr', hr]
      rfl
    have hsame : U.sameButNew ({ U with heap := s₂.heap, slotsUsed := s₂.slotsUsed } : State) L mc ms := by
      refine ⟨?_, q2, q3, q4, q5, q6⟩
      obtain ⟨t, ht, -⟩ := State.frames_cons hr
      show ({ U with heap := s₂.heap, slotsUsed := s₂.slotsUsed } : State) = { U.setFrames U.frames with heap := s₂.heap, slotsUsed := s₂.slotsUsed }
      rw [State.setFrames_self ht]
    subst hg
    refine Or.inl ⟨v, ⟨(({ U with heap := s₂.heap, slotsUsed := s₂.slotsUsed } : State).setVm s₂.vm), Ls ++ L, c0 + mc, s0 + ms⟩,
      ⟨X.admits, X.cas, X.clock, X.frames, X.room, X.hears, X.method, X.code, (X.here.setHeapUsed s₂.heap s₂.slotsUsed).setVm hW'.alike, X.tail, State.WarmedH.trans X.warmed hW', X.limits, X.bytes, X.same.trans (hsame.setVm s.vm)⟩,
      ⟨g, mk, s₂, L, rfl, rfl, hqc, rfl, hL, rfl, rfl⟩, ?_⟩
    show Steps p.tables e below _ ((({ U with heap := s₂.heap, slotsUsed := s₂.slotsUsed } : State).setVm s₂.vm).setTop { g with pc := g.pc + len₂, stack := v.toList ++ g.stack })
    rw [← hs₂]
    exact hsteps
  · obtain ⟨e2, q2, q3, q4, q5, q6⟩ := id hsm
    have e3 : s₂ = ({ (U.calling g mk a).setFrames s₂.frames with heap := s₂.heap, slotsUsed := s₂.slotsUsed } : State).setVm s₂.vm := by
      have : s₂ = ({ s₂ with vm := (U.calling g mk a).vm } : State).setVm s₂.vm := rfl
      rw [e2] at this
      exact this
    have hf₂ : s₂.frames = .throwing q :: .java g :: U.frames.tail := hend
    have hW' : U.WarmedH s₂.vm := hW₂
    have hs₂ : s₂ = ((({ U with heap := s₂.heap, slotsUsed := s₂.slotsUsed } : State).setVm s₂.vm).setTop g).pushFrame (.throwing q) := by
      refine e3.trans ?_
      rw [hf₂, State.calling_eq h.top, State.setFrames_setFrames, State.pushFrame, State.frames_setTop _ hr', State.setTop_of_frames _ hr', State.setFrames_setFrames, hr]
      rfl
    have hsame : U.sameButNew ({ U with heap := s₂.heap, slotsUsed := s₂.slotsUsed } : State) L mc ms := by
      refine ⟨?_, q2, q3, q4, q5, q6⟩
      obtain ⟨t, ht, -⟩ := State.frames_cons hr
      show ({ U with heap := s₂.heap, slotsUsed := s₂.slotsUsed } : State) = { U.setFrames U.frames with heap := s₂.heap, slotsUsed := s₂.slotsUsed }
      rw [State.setFrames_self ht]
    subst hg
    refine Or.inr ⟨q, ⟨(({ U with heap := s₂.heap, slotsUsed := s₂.slotsUsed } : State).setVm s₂.vm), Ls ++ L, c0 + mc, s0 + ms⟩,
      ⟨X.admits, X.cas, X.clock, X.frames, X.room, X.hears, X.method, X.code, (X.here.setHeapUsed s₂.heap s₂.slotsUsed).setVm hW'.alike, X.tail, State.WarmedH.trans X.warmed hW', X.limits, X.bytes, X.same.trans (hsame.setVm s.vm)⟩,
      ⟨g, mk, s₂, L, E, ce, rfl, rfl, hx, hce, hcv, hcl, rfl, hL, rfl, rfl⟩, ?_⟩
    show Steps p.tables e below _ (((({ U with heap := s₂.heap, slotsUsed := s₂.slotsUsed } : State).setVm s₂.vm).setTop g).pushFrame (.throwing q))
    rw [← hs₂]
    exact hsteps
end
variable {p : Program} {l : Launch} {e : Env} {R : Room} {s : State} {m : MethodId} {args : Array Value} {below : List Frame} {meth : Method} {c : Code} {T : State} {H : Heap} {locs : List Loc} {cells slots : Nat}
theorem vx_callVX (X : Stand p l e R s m args below meth c T locs cells slots) (hexec : p.tables.exec = Jvm.exec) {own C : String} {index : Nat} {y : MethodName} {bytes : ByteArray} {maxL : Nat} {ret : Option FieldType} {hh : List (Nat × Nat × Nat × Nat)}
    (hown : s.vm.findClass own = some m.cls) (hlink : (Cond.methodLink own index y).before args s = true) (hinst : (Cond.instanceMethod y).before args s = true) (hsel : (Cond.selects C y y).before args s = true)
    (hcode : (Cond.codeWith y bytes maxL ret hh).before args s = true) (hy : y.cls ≠ "java/lang/invoke/MethodHandle" ∧ y.cls ≠ "java/lang/invoke/VarHandle")
    {W9 : Nat} {Pre : Pt → Array Value → Prop} {Post : Pt → Array Value → Option Value → Pt → Prop} {PostX : Pt → Array Value → Addr → Pt → Prop} (hK : vx_Back l R p e below s args y 3 W9 Pre Post PostX)
    {b : Addr} {cellB : Cell} (hcell : T.heap[b]? = some cellB) (hobj : cellB.vm.isStatics = false) (hcls : s.vm.findClass C = some cellB.cls)
    {g : JFrame} (hg : g.method = m) (hsize : g.locals.size = c.maxLocals) {argsL rest : List Value} (hlen : ∀ sig, parseMethodDescriptor y.desc = some sig → argsL.length = sig.parameters.length)
    (hstack : g.stack = argsL.reverse ++ .ref b :: rest) (hW : 2 * g.monitorRoom + (rest.map fun v => v.category).sum ≤ W9) (hdg : decode c.code g.pc = .ok (.invokevirtual index, 3))
    (hpre : ∀ vm₁, s.WarmedH vm₁ → Pre ⟨T.setVm vm₁, locs, cells, slots⟩ (Value.ref b :: argsL).toArray) :
    (∃ (v : Option Value) (vm₁ : Vm) (B : Pt), s.WarmedH vm₁ ∧ Stand p l e R s m args below meth c B.U B.locs B.cells B.slots ∧ Post ⟨T.setVm vm₁, locs, cells, slots⟩ (Value.ref b :: argsL).toArray v B ∧
      ∀ target, Steps p.tables e below (B.U.setTop { g with pc := g.pc + 3, stack := v.toList ++ rest }) target → Steps p.tables e below (T.setTop g) target) ∨
    (∃ (q : Addr) (vm₁ : Vm) (B : Pt), s.WarmedH vm₁ ∧ Stand p l e R s m args below meth c B.U B.locs B.cells B.slots ∧ PostX ⟨T.setVm vm₁, locs, cells, slots⟩ (Value.ref b :: argsL).toArray q B ∧
      Steps p.tables e below (T.setTop g) ((B.U.setTop { g with stack := rest }).pushFrame (.throwing q))) := by
  obtain ⟨mk, methM, hnamed, hmethM, hstM, habM⟩ := Cond.instanceMethod_spec hinst
  obtain ⟨m8, methM', cM, hn8, hmethM', -, -, -, -, -, -, hsigM⟩ := Cond.codeWith_spec hcode
  cases Option.some.inj (hn8.symm.trans hnamed)
  cases hmethM.symm.trans hmethM'
  obtain ⟨c2, r2, m2, q1, q2, q3, q4, kP, hkP, hkPi⟩ := Cond.selects_spec hsel
  cases hcls.symm.trans q1
  cases (State.methodFound?_of_named hnamed hy).symm.trans q2
  cases hnamed.symm.trans q3
  have hselP : selectMethod e.platform s.vm cellB.cls mk = .method mk := by rw [Launch.admits_selectMethod X.admits]; exact q4
  obtain ⟨vm₁, X₁, hstep₁⟩ := X.invokevirtual hexec hown hlink hnamed hmethM hstM hkP hkPi hy (a := b) (cell := cellB) hcell
    (fun z h => by rw [h] at hobj; cases hobj) hselP hmethM habM hkP hkPi (g := g) hg (argsL := argsL) (rest := rest) (hlen _ hsigM) hstack hdg
  rcases hK m meth c ⟨T.setVm vm₁, locs, cells, slots⟩ { g with stack := rest } (.invokevirtual index) mk (Value.ref b :: argsL).toArray X₁ hg hsize hdg hW (X₁.named hnamed) (hpre vm₁ X₁.warmed) with ⟨v, B, X', hpost, hsteps⟩ | ⟨q, B, X', hpost, hsteps⟩
  · exact Or.inl ⟨v, vm₁, B, X₁.warmed, X', hpost, fun target h => hstep₁ _ fun acts => by rw [doInvoke_state]; exact hsteps.trans h⟩
  · exact Or.inr ⟨q, vm₁, B, X₁.warmed, X', hpost, hstep₁ _ fun acts => by rw [doInvoke_state]; exact hsteps⟩
theorem vx_callSX (X : Stand p l e R s m args below meth c T locs cells slots) (hexec : p.tables.exec = Jvm.exec) {own : String} {index : Nat} {y : MethodName} {bytes : ByteArray} {maxL : Nat} {ret : Option FieldType} {hh : List (Nat × Nat × Nat × Nat)}
    (hown : s.vm.findClass own = some m.cls) (hlink : (Cond.methodLink own index y).before args s = true) (hstat : (Cond.static y).before args s = true) (hinit : (Cond.initialized y.cls).before args s = true)
    (hcode : (Cond.codeWith y bytes maxL ret hh).before args s = true) (hy : y.cls ≠ "java/lang/invoke/MethodHandle" ∧ y.cls ≠ "java/lang/invoke/VarHandle")
    {W9 : Nat} {Pre : Pt → Array Value → Prop} {Post : Pt → Array Value → Option Value → Pt → Prop} {PostX : Pt → Array Value → Addr → Pt → Prop} (hK : vx_Back l R p e below s args y 3 W9 Pre Post PostX)
    {g : JFrame} (hg : g.method = m) (hsize : g.locals.size = c.maxLocals) {argsL rest : List Value} (hlen : ∀ sig, parseMethodDescriptor y.desc = some sig → argsL.length = sig.parameters.length)
    (hstack : g.stack = argsL.reverse ++ rest) (hW : 2 * g.monitorRoom + (rest.map fun v => v.category).sum ≤ W9) (hdg : decode c.code g.pc = .ok (.invokestatic index, 3))
    (hpre : ∀ vm₁, s.WarmedH vm₁ → Pre ⟨T.setVm vm₁, locs, cells, slots⟩ argsL.toArray) :
    (∃ (v : Option Value) (vm₁ : Vm) (B : Pt), s.WarmedH vm₁ ∧ Stand p l e R s m args below meth c B.U B.locs B.cells B.slots ∧ Post ⟨T.setVm vm₁, locs, cells, slots⟩ argsL.toArray v B ∧
      ∀ target, Steps p.tables e below (B.U.setTop { g with pc := g.pc + 3, stack := v.toList ++ rest }) target → Steps p.tables e below (T.setTop g) target) ∨
    (∃ (q : Addr) (vm₁ : Vm) (B : Pt), s.WarmedH vm₁ ∧ Stand p l e R s m args below meth c B.U B.locs B.cells B.slots ∧ PostX ⟨T.setVm vm₁, locs, cells, slots⟩ argsL.toArray q B ∧
      Steps p.tables e below (T.setTop g) ((B.U.setTop { g with stack := rest }).pushFrame (.throwing q))) := by
  obtain ⟨mk, methM, cM, hnamed, hmethM, -, -, -, -, -, -, hsigM⟩ := Cond.codeWith_spec hcode
  have hstatic : methM.isStatic = true := Cond.static_spec hnamed hmethM hstat
  obtain ⟨kP, hkP, -⟩ := className_of_methodNamed hnamed
  have hinitP : kP.init = .initialized := Cond.initialized_spec (findClass_of_methodNamed hnamed) hkP hinit
  obtain ⟨vm₁, X₁, hstep₁⟩ := X.invokestatic hexec hown hlink hnamed hmethM hstatic hkP hinitP hy (g := g) hg (argsL := argsL) (rest := rest) (hlen _ hsigM) hstack hdg
  rcases hK m meth c ⟨T.setVm vm₁, locs, cells, slots⟩ { g with stack := rest } (.invokestatic index) mk argsL.toArray X₁ hg hsize hdg hW (X₁.named hnamed) (hpre vm₁ X₁.warmed) with ⟨v, B, X', hpost, hsteps⟩ | ⟨q, B, X', hpost, hsteps⟩
  · exact Or.inl ⟨v, vm₁, B, X₁.warmed, X', hpost, fun target h => hstep₁ _ fun acts => by rw [doInvoke_state]; exact hsteps.trans h⟩
  · exact Or.inr ⟨q, vm₁, B, X₁.warmed, X', hpost, hstep₁ _ fun acts => by rw [doInvoke_state]; exact hsteps⟩
theorem vx_callVW (X : Stand p l e R s m args below meth c T locs cells slots) (hexec : p.tables.exec = Jvm.exec) {own C : String} {index : Nat} {y : MethodName} {bytes : ByteArray} {maxL : Nat} {ret : Option FieldType} {hh : List (Nat × Nat × Nat × Nat)}
    (hown : s.vm.findClass own = some m.cls) (hlink : (Cond.methodLink own index y).before args s = true) (hinst : (Cond.instanceMethod y).before args s = true) (hsel : (Cond.selects C y y).before args s = true)
    (hcode : (Cond.codeWith y bytes maxL ret hh).before args s = true) (hy : y.cls ≠ "java/lang/invoke/MethodHandle" ∧ y.cls ≠ "java/lang/invoke/VarHandle")
    {W9 : Nat} {Pre : Pt → Array Value → Prop} {Post : Pt → Array Value → Option Value → Pt → Prop} (hK : Back l R p e below s args y 3 W9 Pre Post)
    {b : Addr} {cellB : Cell} (hcell : T.heap[b]? = some cellB) (hobj : cellB.vm.isStatics = false) (hcls : s.vm.findClass C = some cellB.cls)
    {g : JFrame} (hg : g.method = m) (hsize : g.locals.size = c.maxLocals) {argsL rest : List Value} (hlen : ∀ sig, parseMethodDescriptor y.desc = some sig → argsL.length = sig.parameters.length)
    (hstack : g.stack = argsL.reverse ++ .ref b :: rest) (hW : 2 * g.monitorRoom + (rest.map fun v => v.category).sum ≤ W9) (hdg : decode c.code g.pc = .ok (.invokevirtual index, 3))
    (hpre : ∀ vm₁, s.WarmedH vm₁ → Pre ⟨T.setVm vm₁, locs, cells, slots⟩ (Value.ref b :: argsL).toArray) :
    ∃ (v : Option Value) (vm₁ : Vm) (B : Pt), s.WarmedH vm₁ ∧ Stand p l e R s m args below meth c B.U B.locs B.cells B.slots ∧ Post ⟨T.setVm vm₁, locs, cells, slots⟩ (Value.ref b :: argsL).toArray v B ∧
      ∀ target, Steps p.tables e below (B.U.setTop { g with pc := g.pc + 3, stack := v.toList ++ rest }) target → Steps p.tables e below (T.setTop g) target := by
  obtain ⟨mk, methM, hnamed, hmethM, hstM, habM⟩ := Cond.instanceMethod_spec hinst
  obtain ⟨m8, methM', cM, hn8, hmethM', -, -, -, -, -, -, hsigM⟩ := Cond.codeWith_spec hcode
  cases Option.some.inj (hn8.symm.trans hnamed)
  cases hmethM.symm.trans hmethM'
  obtain ⟨c2, r2, m2, q1, q2, q3, q4, kP, hkP, hkPi⟩ := Cond.selects_spec hsel
  cases hcls.symm.trans q1
  cases (State.methodFound?_of_named hnamed hy).symm.trans q2
  cases hnamed.symm.trans q3
  have hselP : selectMethod e.platform s.vm cellB.cls mk = .method mk := by rw [Launch.admits_selectMethod X.admits]; exact q4
  obtain ⟨vm₁, X₁, hstep₁⟩ := X.invokevirtual hexec hown hlink hnamed hmethM hstM hkP hkPi hy (a := b) (cell := cellB) hcell
    (fun z h => by rw [h] at hobj; cases hobj) hselP hmethM habM hkP hkPi (g := g) hg (argsL := argsL) (rest := rest) (hlen _ hsigM) hstack hdg
  obtain ⟨v, B, X', hpost, hsteps⟩ := hK m meth c ⟨T.setVm vm₁, locs, cells, slots⟩ { g with stack := rest } (.invokevirtual index) mk (Value.ref b :: argsL).toArray X₁ hg hsize hdg hW (X₁.named hnamed) (hpre vm₁ X₁.warmed)
  exact ⟨v, vm₁, B, X₁.warmed, X', hpost, fun target h => hstep₁ _ fun acts => by rw [doInvoke_state]; exact hsteps.trans h⟩
abbrev vx_CVW (R : Room) (s : State) (args : Array Value) (own C : String) (index : Nat) (y : MethodName) (bytes : ByteArray) (maxL : Nat) (ret : Option FieldType) (hh : List (Nat × Nat × Nat × Nat)) (ws : List Cond) (rm : Room) (mc ms n : Nat) : Prop :=
  (rm.cells = mc ∧ rm.slots = ms ∧ rm.frames + 1 ≤ R.frames ∧ 8 + (maxL + 11) + rm.locals ≤ R.locals ∧ (∀ w ∈ ws, ∀ (a' : Array Value) (U : State), s.WarmedH U.vm → w.before a' U = true) ∧ Cond.codeWith y bytes maxL ret hh ∈ ws) ∧
  (Cond.codeWith y bytes maxL ret hh).before args s = true ∧ (Cond.initialized y.cls).before args s = true ∧ (y.cls ≠ "java/lang/invoke/MethodHandle" ∧ y.cls ≠ "java/lang/invoke/VarHandle") ∧
  (∀ sig, parseMethodDescriptor y.desc = some sig → n = sig.parameters.length) ∧ (Cond.methodLink own index y).before args s = true ∧ (Cond.instanceMethod y).before args s = true ∧ (Cond.selects C y y).before args s = true
theorem vx_cwVW {own C : String} {index maxL mc ms : Nat} {y : MethodName} {bytes : ByteArray} {ret : Option FieldType} {hh : List (Nat × Nat × Nat × Nat)} {Ts ws ws' : List Cond} {rm : Room} (n : Nat) (ht : ∀ w ∈ Ts, w.before args s = true) (hT : GoodIn Ts (wsV own index C y ws)) (hw : ws = Cond.codeWith y bytes maxL ret hh :: ws') (hrc : rm.cells = mc) (hrs : rm.slots = ms)
    (hd : y.cls = C ∧ y.cls ≠ "java/lang/invoke/MethodHandle" ∧ y.cls ≠ "java/lang/invoke/VarHandle" ∧ (parseMethodDescriptor y.desc).map (fun d => d.parameters.length) = some n) (hR : rm.frames + 1 ≤ R.frames ∧ 8 + (maxL + 11) + rm.locals ≤ R.locals) :
    vx_CVW R s args own C index y bytes maxL ret hh ws rm mc ms n := by
  obtain ⟨hC, hd⟩ := hd
  subst hC
  have ok : ∀ w ∈ wsV own index y.cls y ws, w.before args s = true := fun w h => ht w (hT w h).1
  have hG : GoodIn Ts ws := fun w h => hT w (by unfold wsV; exact List.mem_append_right _ h)
  have hc : Cond.codeWith y bytes maxL ret hh ∈ ws := by rw [hw]; exact List.mem_cons_self
  refine ⟨⟨hrc, hrs, hR.1, hR.2, pay_in ht hG, hc⟩, ht _ (hG _ hc).1, ok _ (by simp [wsV]), ⟨hd.1, hd.2.1⟩, fun sig h => ?_, ok _ (by simp [wsV]), ok _ (by simp [wsV]), ok _ (by simp [wsV])⟩
  have h2 := hd.2.2
  rw [h] at h2
  exact (Option.some.inj h2).symm
theorem vx_runVW {y : MethodName} {bytes cc : ByteArray} {maxL nL mc ms n index : Nat} {ret : Option FieldType} {hh : List (Nat × Nat × Nat × Nat)} {ws : List Cond} {rm : Room} {Pc : Array Value → State → Prop} {Qc : Array Value → State → Outcome → State → Prop} {free : Addr → Prop} {Ts : List Cond} {own C : String} {b : Addr} {As rest : List Value} {g : JFrame}
    (S : CallFix p m c cc nL s args Ts own) (hM : Met l y ws rm Pc Qc mc ms free) (cw : vx_CVW R s args own C index y bytes maxL ret hh ws rm mc ms n) (hp : PreV s H C b Pc As)
    (hg : g.method = m) (hn : As.length = n) (hsize : g.locals.size = nL) (hstack : g.stack = As.reverse ++ .ref b :: rest) (hW : 2 * g.monitorRoom + (rest.map fun v => v.category).sum ≤ 8) (hdg : decode cc g.pc = .ok (.invokevirtual index, 3)) (hf : cells + mc ≤ R.cells ∧ slots + ms ≤ R.slots) :
    va_Run p l e R s m args below meth c H locs cells slots mc ms g rest (Qc (Value.ref b :: As).toArray) free := by
  obtain ⟨⟨hrc, hrs, hfr, hlo, hws, hcw⟩, hcode, hini, hy, hlen, hl, hin, hse⟩ := cw
  have hK : Back l R p e below s args y 3 8 (PreOf R mc ms Pc) (PostOf Qc mc ms free) := va_backW (hh := hh) (bytes := bytes) (maxL := maxL) (ret := ret) hM hp.1 hrc hrs hfr hlo hws hcw (fun a' U hW => word_at hW (Or.inl (by first | rfl | simp [Cond.onTables, Cond.keeps, Cond.steady])) hini)
  obtain ⟨hx, hb, hml, ho, -⟩ := S
  obtain ⟨-, ⟨cellB, hcB, hoB, hclB⟩, hPc⟩ := hp
  intro T hT X
  obtain ⟨v, vm₁, ⟨U', l2, c2, s2⟩, hW₁, X', ⟨g', mk, t, L, e1, e2, hq, h1, hL, h2, h3⟩, st⟩ := vx_callVW X hx (C := C) (hh := hh) (bytes := bytes) (maxL := maxL) (ret := ret) ho hl hin hse hcode hy hK (by rw [hT]; exact hcB) hoB hclB hg (hsize.trans hml.symm) (argsL := As) (rest := rest) (fun sig h => hn.trans (hlen sig h)) hstack hW (by rw [hb]; exact hdg)
    (fun vm₁ hW₁ => ⟨hf.1, hf.2, hPc (T.setVm vm₁) hT hW₁⟩)
  dsimp only [Pt.U, Pt.locs, Pt.cells, Pt.slots] at X' e1 e2 h1 h2 h3 st
  subst h1; subst h2; subst h3
  exact ⟨v, (T.setVm vm₁).calling g' mk (Value.ref b :: As).toArray, t, U', L, hT, X', hL, e1, e2, hq, st⟩
section
variable {y : MethodName} {bytes cc : ByteArray} {maxL nL mc ms n index : Nat} {ret : Option FieldType} {ws : List Cond} {rm : Room} {Pc : Array Value → State → Prop} {Qc : Array Value → State → Outcome → State → Prop} {XC : String → State → State → Prop} {free : Addr → Prop} {Ts : List Cond} {own C : String} {b : Addr} {As rest : List Value} {g : JFrame}
theorem vx_runVX {hh : List (Nat × Nat × Nat × Nat)} (S : CallFix p m c cc nL s args Ts own) (hM : vx_Met l y ws rm Pc Qc XC mc ms free) (cw : vx_CVW R s args own C index y bytes maxL ret hh ws rm mc ms n) (hp : PreV s H C b Pc As)
    (hg : g.method = m) (hn : As.length = n) (hsize : g.locals.size = nL) (hstack : g.stack = As.reverse ++ .ref b :: rest) (hW : 2 * g.monitorRoom + (rest.map fun v => v.category).sum ≤ 8) (hdg : decode cc g.pc = .ok (.invokevirtual index, 3)) (hf : cells + mc ≤ R.cells ∧ slots + ms ≤ R.slots) :
    vx_Run p l e R s m args below meth c H locs cells slots mc ms g rest (Qc (Value.ref b :: As).toArray) XC free := by
  obtain ⟨⟨hrc, hrs, hfr, hlo, hws, hcw⟩, hcode, hini, hy, hlen, hl, hin, hse⟩ := cw
  have hK : vx_Back l R p e below s args y 3 8 (PreOf R mc ms Pc) (PostOf Qc mc ms free) (vx_Post XC mc ms free) := vx_backW (hh := hh) (bytes := bytes) (maxL := maxL) (ret := ret) hM hp.1 hrc hrs hfr hlo hws hcw (fun a' U hW => word_at hW (Or.inl (by first | rfl | simp [Cond.onTables, Cond.keeps, Cond.steady])) hini)
  obtain ⟨hx, hb, hml, ho, -⟩ := S
  obtain ⟨-, ⟨cellB, hcB, hoB, hclB⟩, hPc⟩ := hp
  intro T hT X
  rcases vx_callVX X hx (C := C) (hh := hh) (bytes := bytes) (maxL := maxL) (ret := ret) ho hl hin hse hcode hy hK (by rw [hT]; exact hcB) hoB hclB hg (hsize.trans hml.symm) (argsL := As) (rest := rest) (fun sig h => hn.trans (hlen sig h)) hstack hW (by rw [hb]; exact hdg)
    (fun vm₁ hW₁ => ⟨hf.1, hf.2, hPc (T.setVm vm₁) hT hW₁⟩) with ⟨v, vm₁, ⟨U', l2, c2, s2⟩, hW₁, X', ⟨g', mk, t, L, e1, e2, hq, h1, hL, h2, h3⟩, st⟩ | ⟨q, vm₁, ⟨U', l2, c2, s2⟩, hW₁, X', ⟨g', mk, t, L, E, ce, e1, e2, hq, hce, hcv, hcl, h1, hL, h2, h3⟩, st⟩
  · dsimp only [Pt.U, Pt.locs, Pt.cells, Pt.slots] at X' e1 e2 h1 h2 h3 st
    subst h1; subst h2; subst h3
    exact Or.inl ⟨v, (T.setVm vm₁).calling g' mk (Value.ref b :: As).toArray, t, U', L, hT, X', hL, e1, e2, hq, st⟩
  · dsimp only [Pt.U, Pt.locs, Pt.cells, Pt.slots] at X' e1 e2 h1 h2 h3 st hcl
    subst h1; subst h2; subst h3
    exact Or.inr ⟨q, (T.setVm vm₁).calling g' mk (Value.ref b :: As).toArray, t, U', L, E, ce, hT, X', hL, e1, e2, hq, hce, hcv, vx_cls hW₁ hcl, st⟩
theorem vx_runSX {hh : List (Nat × Nat × Nat × Nat)} (S : CallFix p m c cc nL s args Ts own) (hM : vx_Met l y ws rm Pc Qc XC mc ms free) (cw : vx_CSW R s args own index y bytes maxL ret hh ws rm mc ms n) (hp : PreS s H Pc As)
    (hg : g.method = m) (hn : As.length = n) (hsize : g.locals.size = nL) (hstack : g.stack = As.reverse ++ rest) (hW : 2 * g.monitorRoom + (rest.map fun v => v.category).sum ≤ 8) (hdg : decode cc g.pc = .ok (.invokestatic index, 3)) (hf : cells + mc ≤ R.cells ∧ slots + ms ≤ R.slots) :
    vx_Run p l e R s m args below meth c H locs cells slots mc ms g rest (Qc As.toArray) XC free := by
  obtain ⟨⟨hrc, hrs, hfr, hlo, hws, hcw⟩, hcode, hini, hy, hlen, hl, hstt⟩ := cw
  have hK : vx_Back l R p e below s args y 3 8 (PreOf R mc ms Pc) (PostOf Qc mc ms free) (vx_Post XC mc ms free) := vx_backW (hh := hh) (bytes := bytes) (maxL := maxL) (ret := ret) hM hp.1 hrc hrs hfr hlo hws hcw (fun a' U hW => word_at hW (Or.inl (by first | rfl | simp [Cond.onTables, Cond.keeps, Cond.steady])) hini)
  obtain ⟨hx, hb, hml, ho, -⟩ := S
  intro T hT X
  rcases vx_callSX X hx (hh := hh) (bytes := bytes) (maxL := maxL) (ret := ret) ho hl hstt hini hcode hy hK hg (hsize.trans hml.symm) (argsL := As) (rest := rest) (fun sig h => hn.trans (hlen sig h)) hstack hW (by rw [hb]; exact hdg)
    (fun vm₁ hW₁ => ⟨hf.1, hf.2, hp.2 (T.setVm vm₁) hT hW₁⟩) with ⟨v, vm₁, ⟨U', l2, c2, s2⟩, hW₁, X', ⟨g', mk, t, L, e1, e2, hq, h1, hL, h2, h3⟩, st⟩ | ⟨q, vm₁, ⟨U', l2, c2, s2⟩, hW₁, X', ⟨g', mk, t, L, E, ce, e1, e2, hq, hce, hcv, hcl, h1, hL, h2, h3⟩, st⟩
  · dsimp only [Pt.U, Pt.locs, Pt.cells, Pt.slots] at X' e1 e2 h1 h2 h3 st
    subst h1; subst h2; subst h3
    exact Or.inl ⟨v, (T.setVm vm₁).calling g' mk As.toArray, t, U', L, hT, X', hL, e1, e2, hq, st⟩
  · dsimp only [Pt.U, Pt.locs, Pt.cells, Pt.slots] at X' e1 e2 h1 h2 h3 st hcl
    subst h1; subst h2; subst h3
    exact Or.inr ⟨q, (T.setVm vm₁).calling g' mk As.toArray, t, U', L, E, ce, hT, X', hL, e1, e2, hq, hce, hcv, vx_cls hW₁ hcl, st⟩
end
end VXH
theorem vx_ofWH {l : Launch} {y : MethodName} {ws ws' : List Cond} {rm : Room} {Pc : Array Value → State → Prop} {Qc : Array Value → State → Outcome → State → Prop} {XC : String → State → State → Prop} {mc ms : Nat} {free : Addr → Prop} {cc : ByteArray} {maxL : Nat} {ret : Option FieldType} {hh : List (Nat × Nat × Nat × Nat)}
    (hy : plainName y.cls = true) (hw : ws = Cond.codeWith y cc maxL ret hh :: ws')
    (body : ∀ p e s m args below meth c s₁, BodyLoose p l y (headSpec ws rm) cc maxL ret e s m args below meth c s₁ → c.maxLocals = maxL → Pc args s →
      W p l e (headSpec ws rm).room s m args below meth c s.heap [] 0 0 (vx_MQ below Qc XC args s mc ms free) (entryFrame m args maxL)) : vx_Met l y ws rm Pc Qc XC mc ms free := by
  refine MetFree.of_bodyS (code := cc) (maxLocals := maxL) (ret := ret) hy ?_ ?_
  · intro args s m h hn
    obtain ⟨m9, meth, c, hn9, h1, h2, h3, h4, -, h5, h6, -⟩ := Cond.codeWith_spec (atoms_spec (ws := ws) h _ (by rw [hw]; exact List.mem_cons_self))
    cases hn.symm.trans hn9
    exact ⟨meth, c, h1, h2, h3, h4, h5, h6⟩
  · intro p e s m args below meth c s₁ B hml hP _
    have hh0 : s₁.heap = s.heap := by rw [B.state]; rfl
    obtain ⟨t, a1, o, b1, b2, b3⟩ := body p e s m args below meth c s₁ B hml hP s₁ hh0 (Stand.of_body B)
    exact ⟨t, o, a1, b1, b2, b3⟩
/-! ===== END ===== -/
/-! ===== BEGIN what the machine throws by itself, no traces kept ===== -/
section VXM
set_option maxHeartbeats 1000000 in
/-- the machine throws cls with the message text, no traces kept: from its note over the frame g to 'throwing' over the same frame (follows the proofs of Stand.vmThrowsMessage, Shelf/KitTracedVmS.lean, and Stand.throwsMessageColdBareV, StandMessageColdV.lean, without the step out of the frame) -/
theorem vx_vmAt {p : Program} {l : Launch} {e : Env} {R : Room} {s : State} {m₀ : MethodId} {args : Array Value} {below : List Frame} {meth : Method} {c : Code} {W : State} {locs : List Loc} {cells slots : Nat}
    (X : Stand p l e R s m₀ args below meth c W locs cells slots) (hexec : p.tables.exec = Jvm.exec) (htr : e.platform.stackTraces = false) {cls : String} {names : List String} {text : String}
    (hcls : Bundle.fit cls = true) (hnames : ∀ n ∈ names, Bundle.fit n = true) (hsoe : (cls == "java/lang/StackOverflowError") = false) (hoom : (cls == "java/lang/OutOfMemoryError") = false)
    (h : ∀ a ∈ Bundle.messageArmAtoms cls names, a.before args s = true)
    (hlocs : ∀ x ∈ locs, ∀ cell, s.heap[x.base]? = some cell → cell.vm.isStatics = false)
    (htext : (text == notModelled) = false) (hlimit : ¬ (stringBytes (stringToUtf16 text)).size > e.platform.arrayLengthLimit) (hheap : ¬ (stringBytes (stringToUtf16 text)).size * componentBytes .byte > e.platform.maxHeapBytes)
    {g : JFrame} (hg : g.method = m₀) (hsize : g.locals.size = c.maxLocals)
    (hRframes : names.length + 4 < R.frames) (hRlocals : 2 * g.monitorRoom + (g.stack.map fun v => v.category).sum + 10240 ≤ R.locals) (hshort : 13 * names.length + 55 ≤ 10240)
    (hRcells : cells + 3 ≤ R.cells) (hRslots : slots + ((stringBytes (stringToUtf16 text)).size + 4 + 6) ≤ R.slots) (hlocks : meth.locks = false) :
    ∃ (S : State) (q : Addr) (ce : Cell), (∀ target, Steps p.tables e below ((S.setTop g).pushFrame (.throwing q)) target → Steps p.tables e below ((W.setTop g).pushFrame (.throwNew cls (some text) none)) target) ∧
      Stand p l e R s m₀ args below meth c S locs (cells + 3) (slots + ((stringBytes (stringToUtf16 text)).size + 4 + 6)) ∧ S.heap[q]? = some ce ∧ s.vm.findClass cls = some ce.cls ∧ ce.vm = .none := by
  have howns : e.platform.frameOwnsMonitors = true := by rw [X.admits.platform]
  have hfin : e.platform.finalization = false := by rw [X.admits.platform]
  have hpl : e.platform.magicAccessors = ({} : Platform).magicAccessors := by rw [X.admits.platform]
  have a : ∀ x, x ∈ Bundle.messageArmAtoms cls names → x.holds args s none s [] = true := fun x hx => h x hx
  obtain ⟨T, Z0, L, -, Y⟩ := ThrowableC.of_atoms (args := args) howns hfin hpl (fun x hx => h x (by simp [Bundle.messageArmAtoms, hx]))
  obtain ⟨Z, M, LZ, LM, hnZ⟩ := Init0T.ofS_atoms (args := args) hpl L Y (fun x hx => h x (by simp [Bundle.messageArmAtoms, hx]))
  obtain ⟨P1, Ps, hlen, L1, hL, hP1m, hlink1, hlink⟩ := Bundle.chainS (args := args) hpl hnZ names cls hcls hnames (fun x hx => h x (by simp [Bundle.messageArmAtoms, hx]))
  obtain ⟨Zs, LZs, hn4, hfitv, hfitc⟩ := StringT.of_atoms (args := args) (fun x hx => h x (by simp [Bundle.messageArmAtoms, hx]))
  have hfound : s.vm.findClass cls = some P1.m.cls := findClass_of_methodNamed hP1m
  obtain ⟨c1, kX, hc1, hk, hord, -, -, hn6⟩ := Cond.instantiable_spec (a (.instantiable cls 6) (by simp [Bundle.messageArmAtoms]))
  cases Option.some.inj (hc1.symm.trans hfound)
  have hinit := Cond.initialized_spec hfound hk (a (.initialized cls) (by simp [Bundle.messageArmAtoms]))
  have hctor : kX.findMethod "<init>" "(Ljava/lang/String;)V" = some P1.m.idx := findMethod_of_methodNamed hP1m hk
  have hsel0 : selectMethod e.platform s.vm P1.m.cls T.fill0 = .method T.fill0 := by
    obtain ⟨c2, r2, m2, q1, q2, q3, q4, -⟩ := Cond.selects_spec (a (.selects cls Bundle.tFill0 Bundle.tFill0) (by simp [Bundle.messageArmAtoms]))
    cases Option.some.inj (q1.symm.trans hfound)
    cases Option.some.inj (q2.symm.trans (State.methodFound?_of_named Y.fill0 (by decide)))
    cases Option.some.inj (q3.symm.trans Y.fill0)
    rw [Launch.admits_selectMethod X.admits]; exact q4
  have hselF : selectMethod e.platform s.vm P1.m.cls T.fill = .method T.fill := by
    obtain ⟨c2, r2, m2, q1, q2, q3, q4, -⟩ := Cond.selects_spec (a (.selects cls Bundle.tFill Bundle.tFill) (by simp [Bundle.messageArmAtoms]))
    cases Option.some.inj (q1.symm.trans hfound)
    cases Option.some.inj (q2.symm.trans (State.methodFound?_of_named Y.fill (by decide)))
    cases Option.some.inj (q3.symm.trans Y.fill)
    rw [Launch.admits_selectMethod X.admits]; exact q4
  obtain ⟨cellS0, hcS0, hiss⟩ := Y.statics
  obtain ⟨u0, hu0⟩ := Cond.staticRefV Y.unassigned L.unassignedStatic L.statics hcS0 hiss (a (.isRef (.static Bundle.tN "UNASSIGNED_STACK" Bundle.steD)) (by simp [Bundle.messageArmAtoms]))
  obtain ⟨sen, hsen⟩ := Cond.staticRefV Y.sentinel L.sentinelStatic L.statics hcS0 hiss (a (.isRef (.static Bundle.tN "SUPPRESSED_SENTINEL" Bundle.listD)) (by simp [Bundle.messageArmAtoms]))
  obtain ⟨ci198, i198, fB, hk198, hg198, ha198, hsB, -, hnB, htB, hffB⟩ := Cond.ownField (t := .object "java/lang/Object") Y.found L.cls (by decide +kernel) (a (.fieldLink Bundle.tN 198 Bundle.tN "backtrace" "Ljava/lang/Object;") (by simp [Bundle.messageArmAtoms])) (a (.lays Bundle.tN Bundle.tN "backtrace" "Ljava/lang/Object;") (by simp [Bundle.messageArmAtoms])) e.platform hpl
  obtain ⟨cellS, hcS', heS, -, hkeep⟩ := X.same.2.2.2.2.2 T.aS cellS0 hcS0
  have hcellS : W.heap[T.aS]? = some cellS := hcS'
  have hout' : ∀ i, (⟨T.aS, i⟩ : Loc) ∉ locs := fun i hmem => by
    have := hlocs _ hmem cellS0 hcS0
    rw [hiss] at this; cases this
  have hknownS : cellS.vm ≠ .unknown := by
    rw [heS]; intro hu
    rw [show cellS0.vm = .unknown from hu] at hiss
    cases hiss
  have hvU : cellS.slots[T.fUnassigned.slot]? = some u0.v := by rw [hkeep _ (hout' _)]; exact hu0
  have hvSen : cellS.slots[T.fSentinel.slot]? = some sen.v := by rw [hkeep _ (hout' _)]; exact hsen
  obtain ⟨iM, hffM⟩ := Y.msg
  obtain ⟨tyC, dC, hdC, hdnC⟩ := Cond.laysAt hfound hk Y.cause (a (.lays cls Bundle.tN "cause" "Ljava/lang/Throwable;") (by simp [Bundle.messageArmAtoms]))
  obtain ⟨tyS, dS, hdS, hdnS⟩ := Cond.laysAt hfound hk Y.stack (a (.lays cls Bundle.tN "stackTrace" Bundle.steD) (by simp [Bundle.messageArmAtoms]))
  obtain ⟨tyP, dP, hdP, hdnP⟩ := Cond.laysAt hfound hk Y.supp (a (.lays cls Bundle.tN "suppressedExceptions" Bundle.listD) (by simp [Bundle.messageArmAtoms]))
  obtain ⟨tyM, dM, hdM, hdnM⟩ := Cond.laysAt hfound hk hffM (a (.lays cls Bundle.tN "detailMessage" "Ljava/lang/String;") (by simp [Bundle.messageArmAtoms]))
  obtain ⟨tyB, dB, hdB, hdnB⟩ := Cond.laysAt hfound hk hffB (a (.lays cls Bundle.tN "backtrace" "Ljava/lang/Object;") (by simp [Bundle.messageArmAtoms]))
  have bC := Cond.laysApart hdB hdC hdnB hdnC (by rw [hnB, Y.causeName]; decide)
  have bS := Cond.laysApart hdB hdS hdnB hdnS (by rw [hnB, Y.stackName]; decide)
  have bP := Cond.laysApart hdB hdP hdnB hdnP (by rw [hnB, Y.suppName]; decide)
  have hbk : ((preparedCellV T.toThrowableT (freshCell P1.m.cls kX) (W.heap.size + 2) u0 sen).withEntry W.cur).slots[fB.slot]? = some .null := by
    have := fresh_default (c := P1.m.cls) tyB
    rw [htB] at this
    simpa [preparedCellV, Cell.setSlot, Cell.withEntry, Array.getElem?_setIfInBounds, bC, bS, bP, bC.symm, bS.symm, bP.symm, defaultValue] using this
  have tkC := Takes.of_laid (v := .ref (W.heap.size + 2)) hk hord tyC (by rw [Y.causeType]; rfl)
  have tkS := Takes.of_laid (v := u0.v) hk hord tyS (by rw [Y.stackType]; exact fits_refV_array _ u0)
  have tkP := Takes.of_laid (v := sen.v) hk hord tyP (by rw [Y.suppType]; exact fits_refV_object _ sen)
  have tkM := Takes.of_laid (v := .ref (W.heap.size + 1)) hk hord tyM (by rw [Y.msgType]; rfl)
  have hskip : SkipFacts T e.platform s (fun u => u) u0 ((preparedCellV T.toThrowableT (freshCell P1.m.cls kX) (W.heap.size + 2) u0 sen).withEntry W.cur) := ⟨{ ci198 := ci198, i198 := i198, fBack := fB }, ⟨hk198, hg198, ha198, hsB⟩, hbk, fun _ _ => rfl⟩
  have h0 : At W g.method c below := by rw [hg]; exact X.here
  obtain ⟨hbeyond, hfreeW⟩ := X.vmMayThrow hsize (.throwNew cls (some text) none) (fun f hf => by cases hf) rfl hRlocals
  have hfr' : W.frames.length + Ps.length + 4 < (e.platform.stackLimits W.me).1 := by have := X.framesAbove hRframes; omega
  have hwd' : (stackUse (.java g :: W.frames.tail)).2 + 13 * Ps.length + 55 ≤ (e.platform.stackLimits W.me).2 := by have := X.stackAbove hsize (K := 13 * Ps.length + 55) (by omega); omega
  have hslots : W.slotsUsed + (stringBytes (stringToUtf16 text)).size + Zs.kS.instanceTypes.size + kX.instanceTypes.size ≤ e.platform.maxSlots := by
    have := X.slotsAbove hRslots
    rw [hn4, hn6]
    omega
  obtain ⟨vm', hW', st⟩ := Steps.vmThrowsMessageColdByV p (s₀ := s) (S := W) (g := g) h0 hexec T L Z LZ M LM X.warmed (t := W.cur) rfl Zs LZs P1 L1 Ps hL hlink1 hlink hsoe hoom hfound hk hinit hord hctor
    (Launch.admits_hotImplicitExceptions X.admits) hbeyond hfreeW htext hlimit hheap (X.cellsAbove hRcells) hslots (hfitv _) (hfitc _)
    (Nn := fun u => u) heapOnly_id (fun _ _ => rfl) (fun _ => rfl) (fun u x y => setCell_twice _ _ _ _) (fun _ => Nat.le_refl _) (cN := ((preparedCellV T.toThrowableT (freshCell P1.m.cls kX) (W.heap.size + 2) u0 sen).withEntry W.cur))
    hsel0 hcellS hknownS hvU tkS (fun _ hu => hu) (fun _ hu => hu) rfl rfl rfl (by simp [preparedCellV, Cell.setSlot, Cell.withEntry]) hskip (fun _ _ hA hW _ hroom _ hrest => L.nativeOff p htr hA hW hroom hrest) hselF hvSen tkC tkP tkM Y.objLocals rfl hfr' hwd'
  rw [plainBareV_eq T.toThrowableT (W.heap.size + 2) u0 sen (.ref (W.heap.size + 1)) W.cur rfl rfl] at st
  obtain ⟨-, -, w3, w4, -, -, -⟩ := withThrown_facts e.platform W Zs text P1.m.cls kX
  have X3 := ((X.pushed (bytesOf Zs.cB (stringToUtf16 text))).pushed (stringAt Zs.cS Zs.kS Zs.fv Zs.fc (stringToUtf16 text) W.heap.size)).pushed (freshCell P1.m.cls kX)
  rw [← withString_eq] at X3
  have X4 := X3.noted hW'
  have ha : (W.heap.size + 2) < ((withThrown W Zs text P1.m.cls kX).setVm vm').heap.size := by show _ < (withThrown W Zs text P1.m.cls kX).heap.size; rw [w3]; omega
  have hcell : ((withThrown W Zs text P1.m.cls kX).setVm vm').heap[(W.heap.size + 2)]? = some (freshCell P1.m.cls kX) := w4
  have X5 := ((((X4.stored hcell T.fCause.slot (.ref (W.heap.size + 2))).storedAgain ha T.fStack.slot u0.v).storedAgain ha T.fSupp.slot sen.v).storedAgain ha T.fStack.slot u0.v).storedAgain ha T.fMsg.slot (.ref (W.heap.size + 1))
  obtain ⟨g₁, hfrM⟩ := X5.frames_eq
  have hU : ((((withThrown W Zs text P1.m.cls kX).setVm vm').setCell (W.heap.size + 2) (plainBareV T.toThrowableT (freshCell P1.m.cls kX) (W.heap.size + 2) u0 sen (.ref (W.heap.size + 1)))).setTop g).pushFrame (.throwing (W.heap.size + 2)) = (((withThrown W Zs text P1.m.cls kX).setVm vm').setCell (W.heap.size + 2) (plainBareV T.toThrowableT (freshCell P1.m.cls kX) (W.heap.size + 2) u0 sen (.ref (W.heap.size + 1)))).setFrames (.throwing (W.heap.size + 2) :: .java g :: below) := by
    rw [State.pushFrame, State.frames_setTop _ hfrM, State.setTop_of_frames _ hfrM, State.setFrames_setFrames]
  have b1 : (bytesOf Zs.cB (stringToUtf16 text)).slots.size = (stringBytes (stringToUtf16 text)).size := by
    rw [(Cell.writeAll_facts _ _).2.2]; simp [bytes0]
  have b2 : (stringAt Zs.cS Zs.kS Zs.fv Zs.fc (stringToUtf16 text) W.heap.size).slots.size = 4 := by simp [string0, Cell.setSlot, hn4]
  have b3 : (freshCell P1.m.cls kX).slots.size = 6 := by simp [hn6]
  rw [b1, b2, b3] at X5
  have e9 : slots + (stringBytes (stringToUtf16 text)).size + 4 + 6 = slots + ((stringBytes (stringToUtf16 text)).size + 4 + 6) := by omega
  rw [e9] at X5
  simp only [List.append_assoc, List.cons_append, List.nil_append] at X5
  refine ⟨((withThrown W Zs text P1.m.cls kX).setVm vm').setCell (W.heap.size + 2) (plainBareV T.toThrowableT (freshCell P1.m.cls kX) (W.heap.size + 2) u0 sen (.ref (W.heap.size + 1))), W.heap.size + 2, _, fun target ht => st _ (by rw [X.tail, ← hU]; exact ht),
    X5.forget (fun y hy => ?_), heapAt_setCell_self _ ha, hfound, rfl⟩
  simp only [List.mem_cons, List.not_mem_nil, or_false] at hy
  have hge : s.heap.size ≤ W.heap.size := X.same.2.1
  rcases hy with rfl | rfl | rfl | rfl | rfl <;> exact Nat.le_trans hge (Nat.le_add_right _ 2)
set_option maxHeartbeats 1000000 in
/-- the machine throws NullPointerException, no traces kept: from its note over the frame g to 'throwing' over the same frame (follows the proof of Stand.vmThrowsNpe, Shelf42/KT2.lean; throwsNpeColdBareVAt, Shelf42/NT91.lean, called) -/
theorem vx_npeAt {p : Program} {l : Launch} {e : Env} {R : Room} {s : State} {m₀ : MethodId} {args : Array Value} {below : List Frame} {meth : Method} {c : Code} {W : State} {locs : List Loc} {cells slots : Nat}
    (X : Stand p l e R s m₀ args below meth c W locs cells slots) (hexec : p.tables.exec = Jvm.exec) (htr : e.platform.stackTraces = false) {n : Nat}
    (h : ∀ a ∈ Bundle.npeArmAtoms n, a.before args s = true)
    (hlocs : ∀ x ∈ locs, ∀ cell, s.heap[x.base]? = some cell → cell.vm.isStatics = false)
    {g : JFrame} (hg : g.method = m₀) (hsize : g.locals.size = c.maxLocals)
    (hRframes : 7 < R.frames) (hRlocals : 2 * g.monitorRoom + (g.stack.map fun v => v.category).sum + 10240 ≤ R.locals)
    (hRcells : cells + 1 ≤ R.cells) (hRslots : slots + n ≤ R.slots) (hlocks : meth.locks = false) :
    ∃ (S : State) (q : Addr) (ce : Cell), (∀ target, Steps p.tables e below ((S.setTop g).pushFrame (.throwing q)) target → Steps p.tables e below ((W.setTop g).pushFrame (.throwNew "java/lang/NullPointerException" none none)) target) ∧
      Stand p l e R s m₀ args below meth c S locs (cells + 1) (slots + n) ∧ S.heap[q]? = some ce ∧ s.vm.findClass "java/lang/NullPointerException" = some ce.cls ∧ ce.vm = .none := by
  have howns : e.platform.frameOwnsMonitors = true := by rw [X.admits.platform]
  have hfin : e.platform.finalization = false := by rw [X.admits.platform]
  have hpl : e.platform.magicAccessors = ({} : Platform).magicAccessors := by rw [X.admits.platform]
  have hpl2 : e.platform.arrayCloneIsPublic = true := by rw [X.admits.platform]
  have a' : ∀ x, x ∈ Bundle.npeArmAtoms n → x.holds args s none s [] = true := fun x hx => h x hx
  obtain ⟨T, Z, L, LZ, Y⟩ := ThrowableC.of_atoms (args := args) howns hfin hpl (fun x hx => h x (by simp [Bundle.npeArmAtoms, hx]))
  obtain ⟨N, LN, hcN, hnNF, hordN, hffS⟩ := NpeC.of_atoms (args := args) hpl hpl2 L Y (fun x hx => h x (by simp [Bundle.npeArmAtoms, hx]))
  obtain ⟨P1, L1, hP1m, hP1s⟩ := PassC.of_atoms (args := args) (s := s) hpl (X := Bundle.nN) (Y := Bundle.rN) (by decide) (by decide) LibCode.NullPointerException.Init0.at_0 LibCode.NullPointerException.Init0.at_1 LibCode.NullPointerException.Init0.at_4 (fun x hx => h x (by simp [Bundle.npeArmAtoms, hx]))
  obtain ⟨PR, LR, hPRm, hPRs⟩ := PassC.of_atoms (args := args) (s := s) hpl (X := Bundle.rN) (Y := Bundle.eN) (by decide) (by decide) LibCode.RuntimeException.Init0.at_0 LibCode.RuntimeException.Init0.at_1 LibCode.RuntimeException.Init0.at_4 (fun x hx => h x (by simp [Bundle.npeArmAtoms, hx]))
  obtain ⟨PE, LEx, hPEm, hPEs⟩ := PassC.of_atoms (args := args) (s := s) hpl (X := Bundle.eN) (Y := Bundle.tN) (by decide) (by decide) LibCode.Exception.Init0.at_0 LibCode.Exception.Init0.at_1 LibCode.Exception.Init0.at_4 (fun x hx => h x (by simp [Bundle.npeArmAtoms, hx]))
  have hfound : s.vm.findClass Bundle.nN = some P1.m.cls := findClass_of_methodNamed hP1m
  have ecls : N.cN = P1.m.cls := Option.some.inj (hcN.symm.trans hfound)
  have hk : s.vm.classes[P1.m.cls]? = some N.kN := by rw [← ecls]; exact LN.cls
  have hinit := Cond.initialized_spec hfound hk (a' (.initialized Bundle.nN) (by simp [Bundle.npeArmAtoms]))
  have hctor : N.kN.findMethod "<init>" "()V" = some P1.m.idx := findMethod_of_methodNamed hP1m hk
  obtain ⟨c1, k1, hc1, hk1, -, -, -, hn⟩ := Cond.instantiable_spec (a' (.instantiable Bundle.nN n) (by simp [Bundle.npeArmAtoms]))
  cases Option.some.inj (hc1.symm.trans hfound)
  cases Option.some.inj (hk1.symm.trans hk)
  have hfsz : (freshCell P1.m.cls N.kN).slots.size = n := by simp [hn]
  have hlink1 : P1.sup = PR.m := Option.some.inj (hP1s.symm.trans hPRm)
  have hlinkR : PR.sup = PE.m := Option.some.inj (hPRs.symm.trans hPEm)
  have hlinkE : PE.sup = Z.m T.toThrowableT := Option.some.inj (hPEs.symm.trans Y.init0)
  have hLs : ∀ P, P ∈ [PR, PE] → P.Links0 e.platform s := fun P hP => by
    simp only [List.mem_cons, List.not_mem_nil, or_false] at hP
    rcases hP with rfl | rfl
    · exact LR
    · exact LEx
  have hsel0 : selectMethod e.platform s.vm P1.m.cls T.fill0 = .method T.fill0 := by
    obtain ⟨c2, r2, m2, q1, q2, q3, q4, -⟩ := Cond.selects_spec (a' (.selects Bundle.nN Bundle.tFill0 Bundle.tFill0) (by simp [Bundle.npeArmAtoms]))
    cases Option.some.inj (q1.symm.trans hfound)
    cases Option.some.inj (q2.symm.trans (State.methodFound?_of_named Y.fill0 (by decide)))
    cases Option.some.inj (q3.symm.trans Y.fill0)
    rw [Launch.admits_selectMethod X.admits]; exact q4
  have hselF : selectMethod e.platform s.vm P1.m.cls T.fill = .method N.fill := by
    obtain ⟨c2, r2, m2, q1, q2, q3, q4, -⟩ := Cond.selects_spec (a' (.selects Bundle.nN Bundle.tFill Bundle.nFill) (by simp [Bundle.npeArmAtoms]))
    cases Option.some.inj (q1.symm.trans hfound)
    cases Option.some.inj (q2.symm.trans (State.methodFound?_of_named Y.fill (by decide)))
    cases Option.some.inj (q3.symm.trans hnNF)
    rw [Launch.admits_selectMethod X.admits]; exact q4
  obtain ⟨cellS0, hcS0, hiss⟩ := Y.statics
  obtain ⟨u0, hu0⟩ := Cond.staticRefV Y.unassigned L.unassignedStatic L.statics hcS0 hiss (a' (.isRef (.static Bundle.tN "UNASSIGNED_STACK" Bundle.steD)) (by simp [Bundle.npeArmAtoms]))
  obtain ⟨sen, hsen⟩ := Cond.staticRefV Y.sentinel L.sentinelStatic L.statics hcS0 hiss (a' (.isRef (.static Bundle.tN "SUPPRESSED_SENTINEL" Bundle.listD)) (by simp [Bundle.npeArmAtoms]))
  obtain ⟨ci198, i198, fB, hk198, hg198, ha198, hsB, -, hnB, htB, hffB⟩ := Cond.ownField (t := .object "java/lang/Object") Y.found L.cls (by decide +kernel) (a' (.fieldLink Bundle.tN 198 Bundle.tN "backtrace" Bundle.objD) (by simp [Bundle.npeArmAtoms])) (a' (.lays Bundle.tN Bundle.tN "backtrace" Bundle.objD) (by simp [Bundle.npeArmAtoms])) e.platform hpl
  obtain ⟨cellS, hcS', heS, -, hkeep⟩ := X.same.2.2.2.2.2 T.aS cellS0 hcS0
  have hcellS : W.heap[T.aS]? = some cellS := hcS'
  have hout' : ∀ i, (⟨T.aS, i⟩ : Loc) ∉ locs := fun i hmem => by
    have := hlocs _ hmem cellS0 hcS0
    rw [hiss] at this; cases this
  have hknownS : cellS.vm ≠ .unknown := by
    rw [heS]; intro hu
    rw [show cellS0.vm = .unknown from hu] at hiss
    cases hiss
  have hvU : cellS.slots[T.fUnassigned.slot]? = some u0.v := by rw [hkeep _ (hout' _)]; exact hu0
  have hvSen : cellS.slots[T.fSentinel.slot]? = some sen.v := by rw [hkeep _ (hout' _)]; exact hsen
  obtain ⟨tyC, dC, hdC, hdnC⟩ := Cond.laysAt hfound hk Y.cause (a' (.lays Bundle.nN Bundle.tN "cause" "Ljava/lang/Throwable;") (by simp [Bundle.npeArmAtoms]))
  obtain ⟨tyS, dS, hdS, hdnS⟩ := Cond.laysAt hfound hk Y.stack (a' (.lays Bundle.nN Bundle.tN "stackTrace" Bundle.steD) (by simp [Bundle.npeArmAtoms]))
  obtain ⟨tyP, dP, hdP, hdnP⟩ := Cond.laysAt hfound hk Y.supp (a' (.lays Bundle.nN Bundle.tN "suppressedExceptions" Bundle.listD) (by simp [Bundle.npeArmAtoms]))
  obtain ⟨tyX, dX, hdX, hdnX⟩ := Cond.laysAt hfound hk hffS (a' (.lays Bundle.nN Bundle.nN "extendedMessageState" "I") (by simp [Bundle.npeArmAtoms, Bundle.npeAtoms]))
  obtain ⟨hnX, htX⟩ := State.fieldFound?_type hffS (t := .int) (by decide +kernel)
  have xC := Cond.laysApart hdC hdX hdnC hdnX (by rw [hnX, Y.causeName]; decide)
  have xS := Cond.laysApart hdS hdX hdnS hdnX (by rw [hnX, Y.stackName]; decide)
  have xP := Cond.laysApart hdP hdX hdnP hdnX (by rw [hnX, Y.suppName]; decide)
  have hv0 : (freshCell P1.m.cls N.kN).slots[N.fState.slot]? = some (.int 0) := by
    have := fresh_default (c := P1.m.cls) tyX
    rw [htX] at this; exact this
  obtain ⟨tyB, dB, hdB, hdnB⟩ := Cond.laysAt hfound hk hffB (a' (.lays Bundle.nN Bundle.tN "backtrace" Bundle.objD) (by simp [Bundle.npeArmAtoms]))
  have bC := Cond.laysApart hdB hdC hdnB hdnC (by rw [hnB, Y.causeName]; decide)
  have bS := Cond.laysApart hdB hdS hdnB hdnS (by rw [hnB, Y.stackName]; decide)
  have bP := Cond.laysApart hdB hdP hdnB hdnP (by rw [hnB, Y.suppName]; decide)
  have bX := Cond.laysApart hdB hdX hdnB hdnX (by rw [hnB, hnX]; decide)
  have hbk : ((npeCell N.toNpeT (preparedCellV T.toThrowableT (freshCell P1.m.cls N.kN) W.heap.size u0 sen) W.cur).withEntry W.cur).slots[fB.slot]? = some .null := by
    have := fresh_default (c := P1.m.cls) tyB
    rw [htB] at this
    simpa [npeCell, preparedCellV, Cell.setSlot, Cell.withEntry, Array.getElem?_setIfInBounds, bC, bS, bP, bX, bC.symm, bS.symm, bP.symm, bX.symm, defaultValue] using this
  have tkC := Takes.of_laid (v := .ref W.heap.size) hk hordN tyC (by rw [Y.causeType]; rfl)
  have tkS := Takes.of_laid (v := u0.v) hk hordN tyS (by rw [Y.stackType]; exact fits_refV_array _ u0)
  have tkP := Takes.of_laid (v := sen.v) hk hordN tyP (by rw [Y.suppType]; exact fits_refV_object _ sen)
  have tkX := Takes.of_laid (v := .int 1) hk hordN tyX (by rw [htX]; rfl)
  have hskip : SkipFacts T e.platform s (fun u => u) u0 ((npeCell N.toNpeT (preparedCellV T.toThrowableT (freshCell P1.m.cls N.kN) W.heap.size u0 sen) W.cur).withEntry W.cur) := ⟨{ ci198 := ci198, i198 := i198, fBack := fB }, ⟨hk198, hg198, ha198, hsB⟩, hbk, fun _ _ => rfl⟩
  obtain ⟨vm', X3, st, -⟩ := X.throwsNpeColdBareVAt hexec hg hsize T L Z LZ N LN P1 L1 [PR, PE] hLs hlink1 ⟨hlinkR, hlinkE, trivial⟩ hfound hk hinit hordN hctor hsel0 hselF hcellS hknownS hvU hvSen
    hv0 xC xS xP tkC tkS tkP tkX Y.objLocals hskip (fun _ _ hA hW _ hroom _ hrest => L.nativeOff p htr hA hW hroom hrest) (by simpa using hRframes) hRlocals (by simp) hRcells (by rw [hn]; exact hRslots)
  have hlt : W.heap.size < ((W.pushCell (freshCell P1.m.cls N.kN)).setVm vm').heap.size := by
    show W.heap.size < (W.pushCell (freshCell P1.m.cls N.kN)).heap.size
    rw [State.heap_size_pushCell]; omega
  rw [hfsz] at X3
  obtain ⟨g₁, hfrM⟩ := X3.frames_eq
  have hU : ((((W.pushCell (freshCell P1.m.cls N.kN)).setVm vm').setCell W.heap.size (npeBareV T.toThrowableT N.toNpeT (freshCell P1.m.cls N.kN) W.heap.size u0 sen)).setTop g).pushFrame (.throwing W.heap.size) = (((W.pushCell (freshCell P1.m.cls N.kN)).setVm vm').setCell W.heap.size (npeBareV T.toThrowableT N.toNpeT (freshCell P1.m.cls N.kN) W.heap.size u0 sen)).setFrames (.throwing W.heap.size :: .java g :: below) := by
    rw [State.pushFrame, State.frames_setTop _ hfrM, State.setTop_of_frames _ hfrM, State.setFrames_setFrames]
  refine ⟨_, W.heap.size, _, fun target ht => st.trans (by rw [← hU]; exact ht), X3.forget (fun y hy => ?_), heapAt_setCell_self _ hlt, hfound, rfl⟩
  simp only [List.mem_cons, List.not_mem_nil, or_false] at hy
  have hge : s.heap.size ≤ W.heap.size := X.same.2.1
  rcases hy with rfl | rfl | rfl | rfl | rfl <;> exact hge
/-- the words of a machine's NullPointerException, but the four that speak of the heap -/
def vx_atN (n : Nat) : List Cond := (Bundle.npeArmAtoms n).filter vx_no
/-- the words of a machine's throw with a message, but the four that speak of the heap -/
def vx_atM (X : String) (names : List String) : List Cond := (Bundle.messageArmAtoms X names).filter vx_no
section
variable {p : Program} {l : Launch} {e : Env} {R : Room} {s : State} {m : MethodId} {args : Array Value} {below : List Frame} {meth : Method} {c : Code} {H : Heap} {locs : List Loc} {cells slots : Nat}
/-- a frame seen from a rebased start, seen from the first start again -/
theorem vx_back9 {T S : State} {R' : Room} {k n : Nat} (X : Stand p l e R s m args below meth c T locs cells slots) (Y : Stand p l e R' ((T.setVm s.vm).setFrames (.invoking m args :: below)) m args below meth c T [] 0 0) (Z : Stand p l e R' ((T.setVm s.vm).setFrames (.invoking m args :: below)) m args below meth c S [] k n) :
    Stand p l e R s m args below meth c S locs (cells + k) (slots + n) := by
  have hW0 : s.WarmedH ((T.setVm s.vm).setFrames (.invoking m args :: below)).vm := State.WarmedH.refl s
  refine { admits := X.admits, cas := X.cas, clock := X.clock, frames := X.frames, room := X.room, hears := X.hears, method := X.method, code := X.code, here := Z.here, tail := Z.tail, warmed := State.WarmedH.trans hW0 Z.warmed, limits := Z.limits.trans (Y.limits.symm.trans X.limits), bytes := Z.bytes.trans (Y.bytes.symm.trans X.bytes), same := ?_ }
  obtain ⟨e1, e2⟩ := Z.same
  rw [State.setFrames_setFrames] at e1
  have h2 : (T.setVm s.vm).sameButNew (S.setVm s.vm) [] k n := ⟨e1, e2⟩
  have h3 := X.same.trans h2
  rw [List.append_nil] at h3
  exact h3
/-- from the machine's note that E is thrown here with this text -/
def vx_Note (p : Program) (l : Launch) (e : Env) (R : Room) (s : State) (m : MethodId) (args : Array Value) (below : List Frame) (meth : Method) (c : Code) (H : Heap) (locs : List Loc) (cells slots : Nat) (Q : State → Prop) (g : JFrame) (E text : String) : Prop :=
  ∀ T : State, T.heap = H → Stand p l e R s m args below meth c T locs cells slots → ∃ t, Steps p.tables e below ((T.setTop g).pushFrame (.throwNew E (some text) none)) t ∧ Q t
theorem vx_vm {pc : Nat} {ls : Array Slot} {rest : List Value} {Q : State → Prop} (hexec : p.tables.exec = Jvm.exec) (hl : l.stackTraces = false) {cls text : String} {names : List String} {nb : Nat} {A : Nat → Prop}
    (hcls : Bundle.fit cls = true) (hnames : ∀ n ∈ names, Bundle.fit n = true) (hsoe : (cls == "java/lang/StackOverflowError") = false) (hoom : (cls == "java/lang/OutOfMemoryError") = false)
    (hat : ∀ w ∈ vx_atM cls names, w.before args s = true) (hgood : ∀ w ∈ vx_atM cls names, vx_ot w = true)
    (hU : vx_Zq Bundle.tN "UNASSIGNED_STACK" Bundle.steD A s s.heap) (hN : vx_Zq Bundle.tN "SUPPRESSED_SENTINEL" Bundle.listD A s s.heap) (hS : va_S A s.heap H locs) (hsize : ls.size = c.maxLocals)
    (htext : (text == notModelled) = false) (hnb : (stringBytes (stringToUtf16 text)).size ≤ nb) (hnb1 : nb ≤ 1000)
    (hRframes : names.length + 4 < R.frames) (hRlocals : (rest.map fun v => v.category).sum + 10240 ≤ R.locals) (hshort : 13 * names.length + 55 ≤ 10240) (hRcells : cells + 3 ≤ R.cells) (hRslots : slots + (nb + 10) ≤ R.slots) (hlocks : meth.locks = false)
    (k : ∀ (H1 : Heap) (q9 : Addr) (ce : Cell), H.size ≤ H1.size → (∀ q : Nat, q < H.size → H1[q]? = H[q]?) → va_S A s.heap H1 locs → H1[q9]? = some ce → ce.vm = .none → s.vm.findClass cls = some ce.cls → vx_W p l e R s m args below meth c H1 locs (cells + 3) (slots + (nb + 10)) Q (F0 m pc ls rest) q9) :
    vx_Note p l e R s m args below meth c H locs cells slots Q (F0 m pc ls rest) cls text := by
  intro T hT X
  have htr : e.platform.stackTraces = false := (show e.platform.stackTraces = l.stackTraces by rw [X.admits.platform]).trans hl
  have Y := vx_rebase X (R' := { frames := R.frames, locals := R.locals, cells := 3, slots := nb + 10 }) (Nat.le_refl _) (Nat.le_refl _) hRcells hRslots
  have hhp : ((T.setVm s.vm).setFrames (.invoking m args :: below)).heap = H := hT
  have hW0 : s.WarmedH ((T.setVm s.vm).setFrames (.invoking m args :: below)).vm := State.WarmedH.refl s
  have hat' : ∀ w ∈ vx_atM cls names, w.before args ((T.setVm s.vm).setFrames (.invoking m args :: below)) = true := fun w hw => vx_ot_at hW0 rfl (hgood w hw) (hat w hw)
  have hU' : vx_Zq Bundle.tN "UNASSIGNED_STACK" Bundle.steD A ((T.setVm s.vm).setFrames (.invoking m args :: below)) ((T.setVm s.vm).setFrames (.invoking m args :: below)).heap := by rw [hhp]; exact vx_Zq.moved hW0.alike (hU.kept hS.2.1)
  have hN' : vx_Zq Bundle.tN "SUPPRESSED_SENTINEL" Bundle.listD A ((T.setVm s.vm).setFrames (.invoking m args :: below)) ((T.setVm s.vm).setFrames (.invoking m args :: below)).heap := by rw [hhp]; exact vx_Zq.moved hW0.alike (hN.kept hS.2.1)
  obtain ⟨S, q, ce, st, Z, hce, hcl', hv⟩ := vx_vmAt Y hexec htr (cls := cls) (names := names) (text := text) hcls hnames hsoe hoom (vx_own hat' (vx_isRefq hU'.1) (vx_isRefq hN'.1) hU'.2.word hN'.2.word) (fun x hx => nomatch hx) htext
    (by rw [Launch.admits_arrayLengthLimit X.admits]; omega) (by rw [Launch.admits_maxHeapBytes X.admits]; simp only [componentBytes]; omega)
    (g := F0 m pc ls rest) rfl hsize hRframes (by show 2 * 0 + (rest.map fun v => v.category).sum + 10240 ≤ R.locals; omega) hshort (by show 0 + 3 ≤ 3; omega) (by show 0 + (_ + 4 + 6) ≤ nb + 10; omega) hlocks
  obtain ⟨f1, f2⟩ := vx_frame Z.same
  have f1' : H.size ≤ S.heap.size := by rw [← hT]; exact f1
  have f2' : ∀ q : Nat, q < H.size → S.heap[q]? = H[q]? := fun q hq => by
    rw [← hT]
    exact f2 q (by rw [← hT] at hq; exact hq) (fun z hz => nomatch hz)
  have X5 := vx_back9 X Y Z
  have X6 : Stand p l e R s m args below meth c S locs (cells + 3) (slots + (nb + 10)) := { X5 with same := X5.same.mono (by omega) (by omega) }
  obtain ⟨t, a1, b1⟩ := k S.heap q ce f1' f2' ⟨Nat.le_trans hS.1 f1', fun q h1 h2 => (f2' q (Nat.lt_of_lt_of_le h1 hS.1)).trans (hS.2.1 q h1 h2), hS.2.2⟩ hce hv hcl' S rfl X6
  exact ⟨t, st t a1, b1⟩
/-- from the machine's note that NullPointerException is thrown here -/
def vx_NoteN (p : Program) (l : Launch) (e : Env) (R : Room) (s : State) (m : MethodId) (args : Array Value) (below : List Frame) (meth : Method) (c : Code) (H : Heap) (locs : List Loc) (cells slots : Nat) (Q : State → Prop) (g : JFrame) : Prop :=
  ∀ T : State, T.heap = H → Stand p l e R s m args below meth c T locs cells slots → ∃ t, Steps p.tables e below ((T.setTop g).pushFrame (.throwNew "java/lang/NullPointerException" none none)) t ∧ Q t
theorem vx_npe {pc : Nat} {ls : Array Slot} {rest : List Value} {Q : State → Prop} (hexec : p.tables.exec = Jvm.exec) (hl : l.stackTraces = false) {nb : Nat} {A : Nat → Prop}
    (hat : ∀ w ∈ vx_atN nb, w.before args s = true) (hgood : ∀ w ∈ vx_atN nb, vx_ot w = true)
    (hU : vx_Zq Bundle.tN "UNASSIGNED_STACK" Bundle.steD A s s.heap) (hN : vx_Zq Bundle.tN "SUPPRESSED_SENTINEL" Bundle.listD A s s.heap) (hS : va_S A s.heap H locs) (hsize : ls.size = c.maxLocals)
    (hRframes : 7 < R.frames) (hRlocals : (rest.map fun v => v.category).sum + 10240 ≤ R.locals) (hRcells : cells + 1 ≤ R.cells) (hRslots : slots + nb ≤ R.slots) (hlocks : meth.locks = false)
    (k : ∀ (H1 : Heap) (q9 : Addr) (ce : Cell), H.size ≤ H1.size → (∀ q : Nat, q < H.size → H1[q]? = H[q]?) → va_S A s.heap H1 locs → H1[q9]? = some ce → ce.vm = .none → s.vm.findClass "java/lang/NullPointerException" = some ce.cls → vx_W p l e R s m args below meth c H1 locs (cells + 1) (slots + nb) Q (F0 m pc ls rest) q9) :
    vx_NoteN p l e R s m args below meth c H locs cells slots Q (F0 m pc ls rest) := by
  intro T hT X
  have htr : e.platform.stackTraces = false := (show e.platform.stackTraces = l.stackTraces by rw [X.admits.platform]).trans hl
  have Y := vx_rebase X (R' := { frames := R.frames, locals := R.locals, cells := 1, slots := nb }) (Nat.le_refl _) (Nat.le_refl _) hRcells hRslots
  have hhp : ((T.setVm s.vm).setFrames (.invoking m args :: below)).heap = H := hT
  have hW0 : s.WarmedH ((T.setVm s.vm).setFrames (.invoking m args :: below)).vm := State.WarmedH.refl s
  have hat' : ∀ w ∈ vx_atN nb, w.before args ((T.setVm s.vm).setFrames (.invoking m args :: below)) = true := fun w hw => vx_ot_at hW0 rfl (hgood w hw) (hat w hw)
  have hU' : vx_Zq Bundle.tN "UNASSIGNED_STACK" Bundle.steD A ((T.setVm s.vm).setFrames (.invoking m args :: below)) ((T.setVm s.vm).setFrames (.invoking m args :: below)).heap := by rw [hhp]; exact vx_Zq.moved hW0.alike (hU.kept hS.2.1)
  have hN' : vx_Zq Bundle.tN "SUPPRESSED_SENTINEL" Bundle.listD A ((T.setVm s.vm).setFrames (.invoking m args :: below)) ((T.setVm s.vm).setFrames (.invoking m args :: below)).heap := by rw [hhp]; exact vx_Zq.moved hW0.alike (hN.kept hS.2.1)
  obtain ⟨S, q, ce, st, Z, hce, hcl', hv⟩ := vx_npeAt Y hexec htr (n := nb) (vx_own hat' (vx_isRefq hU'.1) (vx_isRefq hN'.1) hU'.2.word hN'.2.word) (fun x hx => nomatch hx)
    (g := F0 m pc ls rest) rfl hsize hRframes (by show 2 * 0 + (rest.map fun v => v.category).sum + 10240 ≤ R.locals; omega) (by show 0 + 1 ≤ 1; omega) (by show 0 + nb ≤ nb; omega) hlocks
  obtain ⟨f1, f2⟩ := vx_frame Z.same
  have f1' : H.size ≤ S.heap.size := by rw [← hT]; exact f1
  have f2' : ∀ q : Nat, q < H.size → S.heap[q]? = H[q]? := fun q hq => by
    rw [← hT]
    exact f2 q (by rw [← hT] at hq; exact hq) (fun z hz => nomatch hz)
  have X5 := vx_back9 X Y Z
  have X6 : Stand p l e R s m args below meth c S locs (cells + 1) (slots + nb) := { X5 with same := X5.same.mono (by omega) (by omega) }
  obtain ⟨t, a1, b1⟩ := k S.heap q ce f1' f2' ⟨Nat.le_trans hS.1 f1', fun q h1 h2 => (f2' q (Nat.lt_of_lt_of_le h1 hS.1)).trans (hS.2.1 q h1 h2), hS.2.2⟩ hce hv hcl' S rfl X6
  exact ⟨t, st t a1, b1⟩
variable {Q : State → Prop} {cc : ByteArray} {pc : Nat} {ls : Array Slot} {rest : List Value}
theorem vx_idivZ (hexec : p.tables.exec = Jvm.exec) (hb : c.code = cc) {a b : Int32} (h0 : b = 0) (d : decode cc pc = .ok (.idiv, 1)) (k : vx_Note p l e R s m args below meth c H locs cells slots Q (F0 m pc ls rest) "java/lang/ArithmeticException" "/ by zero") :
    W p l e R s m args below meth c H locs cells slots Q (F0 m pc ls (.int b :: .int a :: rest)) := by
  intro T hT X
  obtain ⟨t, st, q⟩ := k T hT X
  exact ⟨t, X.idivZero hexec (g := F0 m pc ls (.int b :: .int a :: rest)) rfl (a := a) (rest := rest) (by rw [h0]) (by rw [hb]; exact d) t st, q⟩
theorem vx_iremZ (hexec : p.tables.exec = Jvm.exec) (hb : c.code = cc) {a b : Int32} (h0 : b = 0) (d : decode cc pc = .ok (.irem, 1)) (k : vx_Note p l e R s m args below meth c H locs cells slots Q (F0 m pc ls rest) "java/lang/ArithmeticException" "/ by zero") :
    W p l e R s m args below meth c H locs cells slots Q (F0 m pc ls (.int b :: .int a :: rest)) := by
  intro T hT X
  obtain ⟨t, st, q⟩ := k T hT X
  exact ⟨t, X.iremZero hexec (g := F0 m pc ls (.int b :: .int a :: rest)) rfl (a := a) (rest := rest) (by rw [h0]) (by rw [hb]; exact d) t st, q⟩
theorem vx_ldivZ (hexec : p.tables.exec = Jvm.exec) (hb : c.code = cc) {a b : Int64} (h0 : b = 0) (d : decode cc pc = .ok (.ldiv, 1)) (k : vx_Note p l e R s m args below meth c H locs cells slots Q (F0 m pc ls rest) "java/lang/ArithmeticException" "/ by zero") :
    W p l e R s m args below meth c H locs cells slots Q (F0 m pc ls (.long b :: .long a :: rest)) := by
  intro T hT X
  obtain ⟨t, st, q⟩ := k T hT X
  exact ⟨t, X.ldivZero hexec (g := F0 m pc ls (.long b :: .long a :: rest)) rfl (a := a) (rest := rest) (by rw [h0]) (by rw [hb]; exact d) t st, q⟩
theorem vx_lremZ (hexec : p.tables.exec = Jvm.exec) (hb : c.code = cc) {a b : Int64} (h0 : b = 0) (d : decode cc pc = .ok (.lrem, 1)) (k : vx_Note p l e R s m args below meth c H locs cells slots Q (F0 m pc ls rest) "java/lang/ArithmeticException" "/ by zero") :
    W p l e R s m args below meth c H locs cells slots Q (F0 m pc ls (.long b :: .long a :: rest)) := by
  intro T hT X
  obtain ⟨t, st, q⟩ := k T hT X
  exact ⟨t, X.lremZero hexec (g := F0 m pc ls (.long b :: .long a :: rest)) rfl (a := a) (rest := rest) (by rw [h0]) (by rw [hb]; exact d) t st, q⟩
theorem vx_ialdZ {D : va_G} {cl : List vw_C} {ws : va_W} {tys : List (ClassId × FieldType)} {a : Nat} (hexec : p.tables.exec = Jvm.exec) (hb : c.code = cc) (hK : va_K D cl tys s) (hP : va_P D cl ws H) (q0 t0 : Nat) {cA : ClassId} {n : Nat} {f : Nat → Int32} (ha : ws[q0]? = some (a, .inl (cA, n, .inl f))) (ht : tys[t0]? = some (cA, .int)) {i : Int32} (hout : ¬ vp_in i n) (hdg : decode cc pc = .ok (.iaload, 1))
    (k : ∀ tx : String, tx = (toString "Index " ++ toString i ++ toString " out of bounds for length " ++ toString n : String) → vx_Note p l e R s m args below meth c H locs cells slots Q (F0 m pc ls rest) "java/lang/ArrayIndexOutOfBoundsException" tx) : W p l e R s m args below meth c H locs cells slots Q (F0 m pc ls (.int i :: .ref a :: rest)) := by
  intro T hT X
  obtain ⟨t, st, q⟩ := k _ rfl T hT X
  refine ⟨t, ?_, q⟩
  have h1 := X.ialoadOut hexec (by rw [hT]; exact hP q0 _ ha) ((hK.2 t0 _ ht).1 n (fun j => .int (f j))) (j := i) (by show (i < 0 ∨ (arrV _ _ _).slots.size ≤ _); rw [arrV_size]; exact Classical.byContradiction hout) (g := F0 m pc ls (.int i :: .ref a :: rest)) rfl (rest := rest) rfl (by rw [hb]; exact hdg) t
  simp only [arrV_size] at h1
  exact h1 st
theorem vx_iastZ {D : va_G} {cl : List vw_C} {ws : va_W} {tys : List (ClassId × FieldType)} {a : Nat} (hexec : p.tables.exec = Jvm.exec) (hb : c.code = cc) (hK : va_K D cl tys s) (hP : va_P D cl ws H) (q0 t0 : Nat) {cA : ClassId} {n : Nat} {f : Nat → Int32} (ha : ws[q0]? = some (a, .inl (cA, n, .inl f))) (ht : tys[t0]? = some (cA, .int)) {i : Int32} {x : Int32} (hout : ¬ vp_in i n) (hdg : decode cc pc = .ok (.iastore, 1))
    (k : ∀ tx : String, tx = (toString "Index " ++ toString i ++ toString " out of bounds for length " ++ toString n : String) → vx_Note p l e R s m args below meth c H locs cells slots Q (F0 m pc ls rest) "java/lang/ArrayIndexOutOfBoundsException" tx) : W p l e R s m args below meth c H locs cells slots Q (F0 m pc ls (.int x :: .int i :: .ref a :: rest)) := by
  intro T hT X
  obtain ⟨t, st, q⟩ := k _ rfl T hT X
  refine ⟨t, ?_, q⟩
  have h1 := X.iastoreOut hexec (by rw [hT]; exact hP q0 _ ha) ((hK.2 t0 _ ht).1 n (fun j => .int (f j))) (j := i) (by show (i < 0 ∨ (arrV _ _ _).slots.size ≤ _); rw [arrV_size]; exact Classical.byContradiction hout) (g := F0 m pc ls (.int x :: .int i :: .ref a :: rest)) rfl (rest := rest) rfl (by rw [hb]; exact hdg) t
  simp only [arrV_size] at h1
  exact h1 st
theorem vx_baldZ {D : va_G} {cl : List vw_C} {ws : va_W} {tys : List (ClassId × FieldType)} {a : Nat} (hexec : p.tables.exec = Jvm.exec) (hb : c.code = cc) (hK : va_K D cl tys s) (hP : va_P D cl ws H) (q0 t0 : Nat) {cA : ClassId} {n : Nat} {f : Nat → Int32} (ha : ws[q0]? = some (a, .inl (cA, n, .inl f))) (ht : tys[t0]? = some (cA, .byte)) {i : Int32} (hout : ¬ vp_in i n) (hdg : decode cc pc = .ok (.baload, 1))
    (k : ∀ tx : String, tx = (toString "Index " ++ toString i ++ toString " out of bounds for length " ++ toString n : String) → vx_Note p l e R s m args below meth c H locs cells slots Q (F0 m pc ls rest) "java/lang/ArrayIndexOutOfBoundsException" tx) : W p l e R s m args below meth c H locs cells slots Q (F0 m pc ls (.int i :: .ref a :: rest)) := by
  intro T hT X
  obtain ⟨t, st, q⟩ := k _ rfl T hT X
  refine ⟨t, ?_, q⟩
  have h1 := X.baloadOut hexec (by rw [hT]; exact hP q0 _ ha) ((hK.2 t0 _ ht).1 n (fun j => .int (f j))) (j := i) (by show (i < 0 ∨ (arrV _ _ _).slots.size ≤ _); rw [arrV_size]; exact Classical.byContradiction hout) (g := F0 m pc ls (.int i :: .ref a :: rest)) rfl (rest := rest) rfl (by rw [hb]; exact hdg) t
  simp only [arrV_size] at h1
  exact h1 st
theorem vx_bastZ {D : va_G} {cl : List vw_C} {ws : va_W} {tys : List (ClassId × FieldType)} {a : Nat} (hexec : p.tables.exec = Jvm.exec) (hb : c.code = cc) (hK : va_K D cl tys s) (hP : va_P D cl ws H) (q0 t0 : Nat) {cA : ClassId} {n : Nat} {f : Nat → Int32} (ha : ws[q0]? = some (a, .inl (cA, n, .inl f))) (ht : tys[t0]? = some (cA, .byte)) {i : Int32} {x : Int32} (hout : ¬ vp_in i n) (hdg : decode cc pc = .ok (.bastore, 1))
    (k : ∀ tx : String, tx = (toString "Index " ++ toString i ++ toString " out of bounds for length " ++ toString n : String) → vx_Note p l e R s m args below meth c H locs cells slots Q (F0 m pc ls rest) "java/lang/ArrayIndexOutOfBoundsException" tx) : W p l e R s m args below meth c H locs cells slots Q (F0 m pc ls (.int x :: .int i :: .ref a :: rest)) := by
  intro T hT X
  obtain ⟨t, st, q⟩ := k _ rfl T hT X
  refine ⟨t, ?_, q⟩
  have h1 := X.bastoreOut hexec (by rw [hT]; exact hP q0 _ ha) ((hK.2 t0 _ ht).1 n (fun j => .int (f j))) (j := i) (by show (i < 0 ∨ (arrV _ _ _).slots.size ≤ _); rw [arrV_size]; exact Classical.byContradiction hout) (g := F0 m pc ls (.int x :: .int i :: .ref a :: rest)) rfl (rest := rest) rfl (by rw [hb]; exact hdg) t
  simp only [arrV_size] at h1
  exact h1 st
theorem vx_zaldZ {D : va_G} {cl : List vw_C} {ws : va_W} {tys : List (ClassId × FieldType)} {a : Nat} (hexec : p.tables.exec = Jvm.exec) (hb : c.code = cc) (hK : va_K D cl tys s) (hP : va_P D cl ws H) (q0 t0 : Nat) {cA : ClassId} {n : Nat} {f : Nat → Int32} (ha : ws[q0]? = some (a, .inl (cA, n, .inl f))) (ht : tys[t0]? = some (cA, .boolean)) {i : Int32} (hout : ¬ vp_in i n) (hdg : decode cc pc = .ok (.baload, 1))
    (k : ∀ tx : String, tx = (toString "Index " ++ toString i ++ toString " out of bounds for length " ++ toString n : String) → vx_Note p l e R s m args below meth c H locs cells slots Q (F0 m pc ls rest) "java/lang/ArrayIndexOutOfBoundsException" tx) : W p l e R s m args below meth c H locs cells slots Q (F0 m pc ls (.int i :: .ref a :: rest)) := by
  intro T hT X
  obtain ⟨t, st, q⟩ := k _ rfl T hT X
  refine ⟨t, ?_, q⟩
  have h1 := X.baloadOut hexec (by rw [hT]; exact hP q0 _ ha) ((hK.2 t0 _ ht).1 n (fun j => .int (f j))) (j := i) (by show (i < 0 ∨ (arrV _ _ _).slots.size ≤ _); rw [arrV_size]; exact Classical.byContradiction hout) (g := F0 m pc ls (.int i :: .ref a :: rest)) rfl (rest := rest) rfl (by rw [hb]; exact hdg) t
  simp only [arrV_size] at h1
  exact h1 st
theorem vx_zastZ {D : va_G} {cl : List vw_C} {ws : va_W} {tys : List (ClassId × FieldType)} {a : Nat} (hexec : p.tables.exec = Jvm.exec) (hb : c.code = cc) (hK : va_K D cl tys s) (hP : va_P D cl ws H) (q0 t0 : Nat) {cA : ClassId} {n : Nat} {f : Nat → Int32} (ha : ws[q0]? = some (a, .inl (cA, n, .inl f))) (ht : tys[t0]? = some (cA, .boolean)) {i : Int32} {x : Int32} (hout : ¬ vp_in i n) (hdg : decode cc pc = .ok (.bastore, 1))
    (k : ∀ tx : String, tx = (toString "Index " ++ toString i ++ toString " out of bounds for length " ++ toString n : String) → vx_Note p l e R s m args below meth c H locs cells slots Q (F0 m pc ls rest) "java/lang/ArrayIndexOutOfBoundsException" tx) : W p l e R s m args below meth c H locs cells slots Q (F0 m pc ls (.int x :: .int i :: .ref a :: rest)) := by
  intro T hT X
  obtain ⟨t, st, q⟩ := k _ rfl T hT X
  refine ⟨t, ?_, q⟩
  have h1 := X.bastoreOut hexec (by rw [hT]; exact hP q0 _ ha) ((hK.2 t0 _ ht).1 n (fun j => .int (f j))) (j := i) (by show (i < 0 ∨ (arrV _ _ _).slots.size ≤ _); rw [arrV_size]; exact Classical.byContradiction hout) (g := F0 m pc ls (.int x :: .int i :: .ref a :: rest)) rfl (rest := rest) rfl (by rw [hb]; exact hdg) t
  simp only [arrV_size] at h1
  exact h1 st
theorem vx_caldZ {D : va_G} {cl : List vw_C} {ws : va_W} {tys : List (ClassId × FieldType)} {a : Nat} (hexec : p.tables.exec = Jvm.exec) (hb : c.code = cc) (hK : va_K D cl tys s) (hP : va_P D cl ws H) (q0 t0 : Nat) {cA : ClassId} {n : Nat} {f : Nat → Int32} (ha : ws[q0]? = some (a, .inl (cA, n, .inl f))) (ht : tys[t0]? = some (cA, .char)) {i : Int32} (hout : ¬ vp_in i n) (hdg : decode cc pc = .ok (.caload, 1))
    (k : ∀ tx : String, tx = (toString "Index " ++ toString i ++ toString " out of bounds for length " ++ toString n : String) → vx_Note p l e R s m args below meth c H locs cells slots Q (F0 m pc ls rest) "java/lang/ArrayIndexOutOfBoundsException" tx) : W p l e R s m args below meth c H locs cells slots Q (F0 m pc ls (.int i :: .ref a :: rest)) := by
  intro T hT X
  obtain ⟨t, st, q⟩ := k _ rfl T hT X
  refine ⟨t, ?_, q⟩
  have h1 := X.caloadOut hexec (by rw [hT]; exact hP q0 _ ha) ((hK.2 t0 _ ht).1 n (fun j => .int (f j))) (j := i) (by show (i < 0 ∨ (arrV _ _ _).slots.size ≤ _); rw [arrV_size]; exact Classical.byContradiction hout) (g := F0 m pc ls (.int i :: .ref a :: rest)) rfl (rest := rest) rfl (by rw [hb]; exact hdg) t
  simp only [arrV_size] at h1
  exact h1 st
theorem vx_castZ {D : va_G} {cl : List vw_C} {ws : va_W} {tys : List (ClassId × FieldType)} {a : Nat} (hexec : p.tables.exec = Jvm.exec) (hb : c.code = cc) (hK : va_K D cl tys s) (hP : va_P D cl ws H) (q0 t0 : Nat) {cA : ClassId} {n : Nat} {f : Nat → Int32} (ha : ws[q0]? = some (a, .inl (cA, n, .inl f))) (ht : tys[t0]? = some (cA, .char)) {i : Int32} {x : Int32} (hout : ¬ vp_in i n) (hdg : decode cc pc = .ok (.castore, 1))
    (k : ∀ tx : String, tx = (toString "Index " ++ toString i ++ toString " out of bounds for length " ++ toString n : String) → vx_Note p l e R s m args below meth c H locs cells slots Q (F0 m pc ls rest) "java/lang/ArrayIndexOutOfBoundsException" tx) : W p l e R s m args below meth c H locs cells slots Q (F0 m pc ls (.int x :: .int i :: .ref a :: rest)) := by
  intro T hT X
  obtain ⟨t, st, q⟩ := k _ rfl T hT X
  refine ⟨t, ?_, q⟩
  have h1 := X.castoreOut hexec (by rw [hT]; exact hP q0 _ ha) ((hK.2 t0 _ ht).1 n (fun j => .int (f j))) (j := i) (by show (i < 0 ∨ (arrV _ _ _).slots.size ≤ _); rw [arrV_size]; exact Classical.byContradiction hout) (g := F0 m pc ls (.int x :: .int i :: .ref a :: rest)) rfl (rest := rest) rfl (by rw [hb]; exact hdg) t
  simp only [arrV_size] at h1
  exact h1 st
theorem vx_saldZ {D : va_G} {cl : List vw_C} {ws : va_W} {tys : List (ClassId × FieldType)} {a : Nat} (hexec : p.tables.exec = Jvm.exec) (hb : c.code = cc) (hK : va_K D cl tys s) (hP : va_P D cl ws H) (q0 t0 : Nat) {cA : ClassId} {n : Nat} {f : Nat → Int32} (ha : ws[q0]? = some (a, .inl (cA, n, .inl f))) (ht : tys[t0]? = some (cA, .short)) {i : Int32} (hout : ¬ vp_in i n) (hdg : decode cc pc = .ok (.saload, 1))
    (k : ∀ tx : String, tx = (toString "Index " ++ toString i ++ toString " out of bounds for length " ++ toString n : String) → vx_Note p l e R s m args below meth c H locs cells slots Q (F0 m pc ls rest) "java/lang/ArrayIndexOutOfBoundsException" tx) : W p l e R s m args below meth c H locs cells slots Q (F0 m pc ls (.int i :: .ref a :: rest)) := by
  intro T hT X
  obtain ⟨t, st, q⟩ := k _ rfl T hT X
  refine ⟨t, ?_, q⟩
  have h1 := X.saloadOut hexec (by rw [hT]; exact hP q0 _ ha) ((hK.2 t0 _ ht).1 n (fun j => .int (f j))) (j := i) (by show (i < 0 ∨ (arrV _ _ _).slots.size ≤ _); rw [arrV_size]; exact Classical.byContradiction hout) (g := F0 m pc ls (.int i :: .ref a :: rest)) rfl (rest := rest) rfl (by rw [hb]; exact hdg) t
  simp only [arrV_size] at h1
  exact h1 st
theorem vx_sastZ {D : va_G} {cl : List vw_C} {ws : va_W} {tys : List (ClassId × FieldType)} {a : Nat} (hexec : p.tables.exec = Jvm.exec) (hb : c.code = cc) (hK : va_K D cl tys s) (hP : va_P D cl ws H) (q0 t0 : Nat) {cA : ClassId} {n : Nat} {f : Nat → Int32} (ha : ws[q0]? = some (a, .inl (cA, n, .inl f))) (ht : tys[t0]? = some (cA, .short)) {i : Int32} {x : Int32} (hout : ¬ vp_in i n) (hdg : decode cc pc = .ok (.sastore, 1))
    (k : ∀ tx : String, tx = (toString "Index " ++ toString i ++ toString " out of bounds for length " ++ toString n : String) → vx_Note p l e R s m args below meth c H locs cells slots Q (F0 m pc ls rest) "java/lang/ArrayIndexOutOfBoundsException" tx) : W p l e R s m args below meth c H locs cells slots Q (F0 m pc ls (.int x :: .int i :: .ref a :: rest)) := by
  intro T hT X
  obtain ⟨t, st, q⟩ := k _ rfl T hT X
  refine ⟨t, ?_, q⟩
  have h1 := X.sastoreOut hexec (by rw [hT]; exact hP q0 _ ha) ((hK.2 t0 _ ht).1 n (fun j => .int (f j))) (j := i) (by show (i < 0 ∨ (arrV _ _ _).slots.size ≤ _); rw [arrV_size]; exact Classical.byContradiction hout) (g := F0 m pc ls (.int x :: .int i :: .ref a :: rest)) rfl (rest := rest) rfl (by rw [hb]; exact hdg) t
  simp only [arrV_size] at h1
  exact h1 st
theorem vx_laldZ {D : va_G} {cl : List vw_C} {ws : va_W} {tys : List (ClassId × FieldType)} {a : Nat} (hexec : p.tables.exec = Jvm.exec) (hb : c.code = cc) (hK : va_K D cl tys s) (hP : va_P D cl ws H) (q0 t0 : Nat) {cA : ClassId} {n : Nat} {f : Nat → Int64} (ha : ws[q0]? = some (a, .inl (cA, n, .inr (.inl f)))) (ht : tys[t0]? = some (cA, .long)) {i : Int32} (hout : ¬ vp_in i n) (hdg : decode cc pc = .ok (.laload, 1))
    (k : ∀ tx : String, tx = (toString "Index " ++ toString i ++ toString " out of bounds for length " ++ toString n : String) → vx_Note p l e R s m args below meth c H locs cells slots Q (F0 m pc ls rest) "java/lang/ArrayIndexOutOfBoundsException" tx) : W p l e R s m args below meth c H locs cells slots Q (F0 m pc ls (.int i :: .ref a :: rest)) := by
  intro T hT X
  obtain ⟨t, st, q⟩ := k _ rfl T hT X
  refine ⟨t, ?_, q⟩
  have h1 := X.laloadOut hexec (by rw [hT]; exact hP q0 _ ha) ((hK.2 t0 _ ht).1 n (fun j => .long (f j))) (j := i) (by show (i < 0 ∨ (arrV _ _ _).slots.size ≤ _); rw [arrV_size]; exact Classical.byContradiction hout) (g := F0 m pc ls (.int i :: .ref a :: rest)) rfl (rest := rest) rfl (by rw [hb]; exact hdg) t
  simp only [arrV_size] at h1
  exact h1 st
theorem vx_lastZ {D : va_G} {cl : List vw_C} {ws : va_W} {tys : List (ClassId × FieldType)} {a : Nat} (hexec : p.tables.exec = Jvm.exec) (hb : c.code = cc) (hK : va_K D cl tys s) (hP : va_P D cl ws H) (q0 t0 : Nat) {cA : ClassId} {n : Nat} {f : Nat → Int64} (ha : ws[q0]? = some (a, .inl (cA, n, .inr (.inl f)))) (ht : tys[t0]? = some (cA, .long)) {i : Int32} {x : Int64} (hout : ¬ vp_in i n) (hdg : decode cc pc = .ok (.lastore, 1))
    (k : ∀ tx : String, tx = (toString "Index " ++ toString i ++ toString " out of bounds for length " ++ toString n : String) → vx_Note p l e R s m args below meth c H locs cells slots Q (F0 m pc ls rest) "java/lang/ArrayIndexOutOfBoundsException" tx) : W p l e R s m args below meth c H locs cells slots Q (F0 m pc ls (.long x :: .int i :: .ref a :: rest)) := by
  intro T hT X
  obtain ⟨t, st, q⟩ := k _ rfl T hT X
  refine ⟨t, ?_, q⟩
  have h1 := X.lastoreOut hexec (by rw [hT]; exact hP q0 _ ha) ((hK.2 t0 _ ht).1 n (fun j => .long (f j))) (j := i) (by show (i < 0 ∨ (arrV _ _ _).slots.size ≤ _); rw [arrV_size]; exact Classical.byContradiction hout) (g := F0 m pc ls (.long x :: .int i :: .ref a :: rest)) rfl (rest := rest) rfl (by rw [hb]; exact hdg) t
  simp only [arrV_size] at h1
  exact h1 st
theorem vx_faldZ {D : va_G} {cl : List vw_C} {ws : va_W} {tys : List (ClassId × FieldType)} {a : Nat} (hexec : p.tables.exec = Jvm.exec) (hb : c.code = cc) (hK : va_K D cl tys s) (hP : va_P D cl ws H) (q0 t0 : Nat) {cA : ClassId} {n : Nat} {f : Nat → UInt32} (ha : ws[q0]? = some (a, .inl (cA, n, .inr (.inr (.inl f))))) (ht : tys[t0]? = some (cA, .float)) {i : Int32} (hout : ¬ vp_in i n) (hdg : decode cc pc = .ok (.faload, 1))
    (k : ∀ tx : String, tx = (toString "Index " ++ toString i ++ toString " out of bounds for length " ++ toString n : String) → vx_Note p l e R s m args below meth c H locs cells slots Q (F0 m pc ls rest) "java/lang/ArrayIndexOutOfBoundsException" tx) : W p l e R s m args below meth c H locs cells slots Q (F0 m pc ls (.int i :: .ref a :: rest)) := by
  intro T hT X
  obtain ⟨t, st, q⟩ := k _ rfl T hT X
  refine ⟨t, ?_, q⟩
  have h1 := X.faloadOut hexec (by rw [hT]; exact hP q0 _ ha) ((hK.2 t0 _ ht).1 n (fun j => .float (f j))) (j := i) (by show (i < 0 ∨ (arrV _ _ _).slots.size ≤ _); rw [arrV_size]; exact Classical.byContradiction hout) (g := F0 m pc ls (.int i :: .ref a :: rest)) rfl (rest := rest) rfl (by rw [hb]; exact hdg) t
  simp only [arrV_size] at h1
  exact h1 st
theorem vx_fastZ {D : va_G} {cl : List vw_C} {ws : va_W} {tys : List (ClassId × FieldType)} {a : Nat} (hexec : p.tables.exec = Jvm.exec) (hb : c.code = cc) (hK : va_K D cl tys s) (hP : va_P D cl ws H) (q0 t0 : Nat) {cA : ClassId} {n : Nat} {f : Nat → UInt32} (ha : ws[q0]? = some (a, .inl (cA, n, .inr (.inr (.inl f))))) (ht : tys[t0]? = some (cA, .float)) {i : Int32} {x : UInt32} (hout : ¬ vp_in i n) (hdg : decode cc pc = .ok (.fastore, 1))
    (k : ∀ tx : String, tx = (toString "Index " ++ toString i ++ toString " out of bounds for length " ++ toString n : String) → vx_Note p l e R s m args below meth c H locs cells slots Q (F0 m pc ls rest) "java/lang/ArrayIndexOutOfBoundsException" tx) : W p l e R s m args below meth c H locs cells slots Q (F0 m pc ls (.float x :: .int i :: .ref a :: rest)) := by
  intro T hT X
  obtain ⟨t, st, q⟩ := k _ rfl T hT X
  refine ⟨t, ?_, q⟩
  have h1 := X.fastoreOut hexec (by rw [hT]; exact hP q0 _ ha) ((hK.2 t0 _ ht).1 n (fun j => .float (f j))) (j := i) (by show (i < 0 ∨ (arrV _ _ _).slots.size ≤ _); rw [arrV_size]; exact Classical.byContradiction hout) (g := F0 m pc ls (.float x :: .int i :: .ref a :: rest)) rfl (rest := rest) rfl (by rw [hb]; exact hdg) t
  simp only [arrV_size] at h1
  exact h1 st
theorem vx_daldZ {D : va_G} {cl : List vw_C} {ws : va_W} {tys : List (ClassId × FieldType)} {a : Nat} (hexec : p.tables.exec = Jvm.exec) (hb : c.code = cc) (hK : va_K D cl tys s) (hP : va_P D cl ws H) (q0 t0 : Nat) {cA : ClassId} {n : Nat} {f : Nat → UInt64} (ha : ws[q0]? = some (a, .inl (cA, n, .inr (.inr (.inr (.inl f)))))) (ht : tys[t0]? = some (cA, .double)) {i : Int32} (hout : ¬ vp_in i n) (hdg : decode cc pc = .ok (.daload, 1))
    (k : ∀ tx : String, tx = (toString "Index " ++ toString i ++ toString " out of bounds for length " ++ toString n : String) → vx_Note p l e R s m args below meth c H locs cells slots Q (F0 m pc ls rest) "java/lang/ArrayIndexOutOfBoundsException" tx) : W p l e R s m args below meth c H locs cells slots Q (F0 m pc ls (.int i :: .ref a :: rest)) := by
  intro T hT X
  obtain ⟨t, st, q⟩ := k _ rfl T hT X
  refine ⟨t, ?_, q⟩
  have h1 := X.daloadOut hexec (by rw [hT]; exact hP q0 _ ha) ((hK.2 t0 _ ht).1 n (fun j => .double (f j))) (j := i) (by show (i < 0 ∨ (arrV _ _ _).slots.size ≤ _); rw [arrV_size]; exact Classical.byContradiction hout) (g := F0 m pc ls (.int i :: .ref a :: rest)) rfl (rest := rest) rfl (by rw [hb]; exact hdg) t
  simp only [arrV_size] at h1
  exact h1 st
theorem vx_dastZ {D : va_G} {cl : List vw_C} {ws : va_W} {tys : List (ClassId × FieldType)} {a : Nat} (hexec : p.tables.exec = Jvm.exec) (hb : c.code = cc) (hK : va_K D cl tys s) (hP : va_P D cl ws H) (q0 t0 : Nat) {cA : ClassId} {n : Nat} {f : Nat → UInt64} (ha : ws[q0]? = some (a, .inl (cA, n, .inr (.inr (.inr (.inl f)))))) (ht : tys[t0]? = some (cA, .double)) {i : Int32} {x : UInt64} (hout : ¬ vp_in i n) (hdg : decode cc pc = .ok (.dastore, 1))
    (k : ∀ tx : String, tx = (toString "Index " ++ toString i ++ toString " out of bounds for length " ++ toString n : String) → vx_Note p l e R s m args below meth c H locs cells slots Q (F0 m pc ls rest) "java/lang/ArrayIndexOutOfBoundsException" tx) : W p l e R s m args below meth c H locs cells slots Q (F0 m pc ls (.double x :: .int i :: .ref a :: rest)) := by
  intro T hT X
  obtain ⟨t, st, q⟩ := k _ rfl T hT X
  refine ⟨t, ?_, q⟩
  have h1 := X.dastoreOut hexec (by rw [hT]; exact hP q0 _ ha) ((hK.2 t0 _ ht).1 n (fun j => .double (f j))) (j := i) (by show (i < 0 ∨ (arrV _ _ _).slots.size ≤ _); rw [arrV_size]; exact Classical.byContradiction hout) (g := F0 m pc ls (.double x :: .int i :: .ref a :: rest)) rfl (rest := rest) rfl (by rw [hb]; exact hdg) t
  simp only [arrV_size] at h1
  exact h1 st
theorem vx_arraylengthN (hexec : p.tables.exec = Jvm.exec) (hb : c.code = cc) (hdg : decode cc pc = .ok (.arraylength, 1)) (k : vx_NoteN p l e R s m args below meth c H locs cells slots Q (F0 m pc ls rest)) : W p l e R s m args below meth c H locs cells slots Q (F0 m pc ls (.null :: rest)) := by
  intro T hT X
  obtain ⟨t, st, q⟩ := k T hT X
  exact ⟨t, X.arraylengthNull hexec (g := F0 m pc ls (.null :: rest)) rfl (rest := rest) rfl (by rw [hb]; exact hdg) t st, q⟩
theorem vx_ialoadN (hexec : p.tables.exec = Jvm.exec) (hb : c.code = cc) {i : Int32} (hdg : decode cc pc = .ok (.iaload, 1)) (k : vx_NoteN p l e R s m args below meth c H locs cells slots Q (F0 m pc ls rest)) : W p l e R s m args below meth c H locs cells slots Q (F0 m pc ls (.int i :: .null :: rest)) := by
  intro T hT X
  obtain ⟨t, st, q⟩ := k T hT X
  exact ⟨t, X.ialoadNull hexec (g := F0 m pc ls (.int i :: .null :: rest)) rfl (rest := rest) rfl (by rw [hb]; exact hdg) t st, q⟩
theorem vx_laloadN (hexec : p.tables.exec = Jvm.exec) (hb : c.code = cc) {i : Int32} (hdg : decode cc pc = .ok (.laload, 1)) (k : vx_NoteN p l e R s m args below meth c H locs cells slots Q (F0 m pc ls rest)) : W p l e R s m args below meth c H locs cells slots Q (F0 m pc ls (.int i :: .null :: rest)) := by
  intro T hT X
  obtain ⟨t, st, q⟩ := k T hT X
  exact ⟨t, X.laloadNull hexec (g := F0 m pc ls (.int i :: .null :: rest)) rfl (rest := rest) rfl (by rw [hb]; exact hdg) t st, q⟩
theorem vx_faloadN (hexec : p.tables.exec = Jvm.exec) (hb : c.code = cc) {i : Int32} (hdg : decode cc pc = .ok (.faload, 1)) (k : vx_NoteN p l e R s m args below meth c H locs cells slots Q (F0 m pc ls rest)) : W p l e R s m args below meth c H locs cells slots Q (F0 m pc ls (.int i :: .null :: rest)) := by
  intro T hT X
  obtain ⟨t, st, q⟩ := k T hT X
  exact ⟨t, X.faloadNull hexec (g := F0 m pc ls (.int i :: .null :: rest)) rfl (rest := rest) rfl (by rw [hb]; exact hdg) t st, q⟩
theorem vx_daloadN (hexec : p.tables.exec = Jvm.exec) (hb : c.code = cc) {i : Int32} (hdg : decode cc pc = .ok (.daload, 1)) (k : vx_NoteN p l e R s m args below meth c H locs cells slots Q (F0 m pc ls rest)) : W p l e R s m args below meth c H locs cells slots Q (F0 m pc ls (.int i :: .null :: rest)) := by
  intro T hT X
  obtain ⟨t, st, q⟩ := k T hT X
  exact ⟨t, X.daloadNull hexec (g := F0 m pc ls (.int i :: .null :: rest)) rfl (rest := rest) rfl (by rw [hb]; exact hdg) t st, q⟩
theorem vx_aaloadN (hexec : p.tables.exec = Jvm.exec) (hb : c.code = cc) {i : Int32} (hdg : decode cc pc = .ok (.aaload, 1)) (k : vx_NoteN p l e R s m args below meth c H locs cells slots Q (F0 m pc ls rest)) : W p l e R s m args below meth c H locs cells slots Q (F0 m pc ls (.int i :: .null :: rest)) := by
  intro T hT X
  obtain ⟨t, st, q⟩ := k T hT X
  exact ⟨t, X.aaloadNull hexec (g := F0 m pc ls (.int i :: .null :: rest)) rfl (rest := rest) rfl (by rw [hb]; exact hdg) t st, q⟩
theorem vx_baloadN (hexec : p.tables.exec = Jvm.exec) (hb : c.code = cc) {i : Int32} (hdg : decode cc pc = .ok (.baload, 1)) (k : vx_NoteN p l e R s m args below meth c H locs cells slots Q (F0 m pc ls rest)) : W p l e R s m args below meth c H locs cells slots Q (F0 m pc ls (.int i :: .null :: rest)) := by
  intro T hT X
  obtain ⟨t, st, q⟩ := k T hT X
  exact ⟨t, X.baloadNull hexec (g := F0 m pc ls (.int i :: .null :: rest)) rfl (rest := rest) rfl (by rw [hb]; exact hdg) t st, q⟩
theorem vx_caloadN (hexec : p.tables.exec = Jvm.exec) (hb : c.code = cc) {i : Int32} (hdg : decode cc pc = .ok (.caload, 1)) (k : vx_NoteN p l e R s m args below meth c H locs cells slots Q (F0 m pc ls rest)) : W p l e R s m args below meth c H locs cells slots Q (F0 m pc ls (.int i :: .null :: rest)) := by
  intro T hT X
  obtain ⟨t, st, q⟩ := k T hT X
  exact ⟨t, X.caloadNull hexec (g := F0 m pc ls (.int i :: .null :: rest)) rfl (rest := rest) rfl (by rw [hb]; exact hdg) t st, q⟩
theorem vx_saloadN (hexec : p.tables.exec = Jvm.exec) (hb : c.code = cc) {i : Int32} (hdg : decode cc pc = .ok (.saload, 1)) (k : vx_NoteN p l e R s m args below meth c H locs cells slots Q (F0 m pc ls rest)) : W p l e R s m args below meth c H locs cells slots Q (F0 m pc ls (.int i :: .null :: rest)) := by
  intro T hT X
  obtain ⟨t, st, q⟩ := k T hT X
  exact ⟨t, X.saloadNull hexec (g := F0 m pc ls (.int i :: .null :: rest)) rfl (rest := rest) rfl (by rw [hb]; exact hdg) t st, q⟩
theorem vx_iastoreN (hexec : p.tables.exec = Jvm.exec) (hb : c.code = cc) {x : Int32} {i : Int32} (hdg : decode cc pc = .ok (.iastore, 1)) (k : vx_NoteN p l e R s m args below meth c H locs cells slots Q (F0 m pc ls rest)) : W p l e R s m args below meth c H locs cells slots Q (F0 m pc ls (.int x :: .int i :: .null :: rest)) := by
  intro T hT X
  obtain ⟨t, st, q⟩ := k T hT X
  exact ⟨t, X.iastoreNull hexec (g := F0 m pc ls (.int x :: .int i :: .null :: rest)) rfl (rest := rest) rfl (by rw [hb]; exact hdg) t st, q⟩
theorem vx_lastoreN (hexec : p.tables.exec = Jvm.exec) (hb : c.code = cc) {x : Int64} {i : Int32} (hdg : decode cc pc = .ok (.lastore, 1)) (k : vx_NoteN p l e R s m args below meth c H locs cells slots Q (F0 m pc ls rest)) : W p l e R s m args below meth c H locs cells slots Q (F0 m pc ls (.long x :: .int i :: .null :: rest)) := by
  intro T hT X
  obtain ⟨t, st, q⟩ := k T hT X
  exact ⟨t, X.lastoreNull hexec (g := F0 m pc ls (.long x :: .int i :: .null :: rest)) rfl (rest := rest) rfl (by rw [hb]; exact hdg) t st, q⟩
theorem vx_fastoreN (hexec : p.tables.exec = Jvm.exec) (hb : c.code = cc) {x : UInt32} {i : Int32} (hdg : decode cc pc = .ok (.fastore, 1)) (k : vx_NoteN p l e R s m args below meth c H locs cells slots Q (F0 m pc ls rest)) : W p l e R s m args below meth c H locs cells slots Q (F0 m pc ls (.float x :: .int i :: .null :: rest)) := by
  intro T hT X
  obtain ⟨t, st, q⟩ := k T hT X
  exact ⟨t, X.fastoreNull hexec (g := F0 m pc ls (.float x :: .int i :: .null :: rest)) rfl (rest := rest) rfl (by rw [hb]; exact hdg) t st, q⟩
theorem vx_dastoreN (hexec : p.tables.exec = Jvm.exec) (hb : c.code = cc) {x : UInt64} {i : Int32} (hdg : decode cc pc = .ok (.dastore, 1)) (k : vx_NoteN p l e R s m args below meth c H locs cells slots Q (F0 m pc ls rest)) : W p l e R s m args below meth c H locs cells slots Q (F0 m pc ls (.double x :: .int i :: .null :: rest)) := by
  intro T hT X
  obtain ⟨t, st, q⟩ := k T hT X
  exact ⟨t, X.dastoreNull hexec (g := F0 m pc ls (.double x :: .int i :: .null :: rest)) rfl (rest := rest) rfl (by rw [hb]; exact hdg) t st, q⟩
theorem vx_bastoreN (hexec : p.tables.exec = Jvm.exec) (hb : c.code = cc) {x : Int32} {i : Int32} (hdg : decode cc pc = .ok (.bastore, 1)) (k : vx_NoteN p l e R s m args below meth c H locs cells slots Q (F0 m pc ls rest)) : W p l e R s m args below meth c H locs cells slots Q (F0 m pc ls (.int x :: .int i :: .null :: rest)) := by
  intro T hT X
  obtain ⟨t, st, q⟩ := k T hT X
  exact ⟨t, X.bastoreNull hexec (g := F0 m pc ls (.int x :: .int i :: .null :: rest)) rfl (rest := rest) rfl (by rw [hb]; exact hdg) t st, q⟩
theorem vx_castoreN (hexec : p.tables.exec = Jvm.exec) (hb : c.code = cc) {x : Int32} {i : Int32} (hdg : decode cc pc = .ok (.castore, 1)) (k : vx_NoteN p l e R s m args below meth c H locs cells slots Q (F0 m pc ls rest)) : W p l e R s m args below meth c H locs cells slots Q (F0 m pc ls (.int x :: .int i :: .null :: rest)) := by
  intro T hT X
  obtain ⟨t, st, q⟩ := k T hT X
  exact ⟨t, X.castoreNull hexec (g := F0 m pc ls (.int x :: .int i :: .null :: rest)) rfl (rest := rest) rfl (by rw [hb]; exact hdg) t st, q⟩
theorem vx_sastoreN (hexec : p.tables.exec = Jvm.exec) (hb : c.code = cc) {x : Int32} {i : Int32} (hdg : decode cc pc = .ok (.sastore, 1)) (k : vx_NoteN p l e R s m args below meth c H locs cells slots Q (F0 m pc ls rest)) : W p l e R s m args below meth c H locs cells slots Q (F0 m pc ls (.int x :: .int i :: .null :: rest)) := by
  intro T hT X
  obtain ⟨t, st, q⟩ := k T hT X
  exact ⟨t, X.sastoreNull hexec (g := F0 m pc ls (.int x :: .int i :: .null :: rest)) rfl (rest := rest) rfl (by rw [hb]; exact hdg) t st, q⟩
theorem vx_invokeN {own C : String} {index maxL : Nat} {y : MethodName} {bytes : ByteArray} {ret : Option FieldType} (hexec : p.tables.exec = Jvm.exec) (hb : c.code = cc) (hown : s.vm.findClass own = some m.cls) (hlink : (Cond.methodLink own index y).before args s = true) (hinst : (Cond.instanceMethod y).before args s = true) (hcode : (Cond.code y bytes maxL ret).before args s = true) (hsel : (Cond.selects C y y).before args s = true)
    (hx : y.cls ≠ "java/lang/invoke/MethodHandle" ∧ y.cls ≠ "java/lang/invoke/VarHandle") {As : List Value} (hlen : (parseMethodDescriptor y.desc).map (fun d => d.parameters.length) = some As.length) (hdg : decode cc pc = .ok (.invokevirtual index, 3))
    (k : vx_NoteN p l e R s m args below meth c H locs cells slots Q (F0 m pc ls rest)) {st0 : List Value} (hst : st0 = As.reverse ++ .null :: rest) : W p l e R s m args below meth c H locs cells slots Q (F0 m pc ls st0) := by
  intro T hT X
  obtain ⟨r0, r, hn, hrm, hstR, hsigR⟩ := va_Decl.of hinst hcode
  obtain ⟨c2, r2, m2, q1, q2, q3, q4, kP, hkP, hkPi⟩ := Cond.selects_spec hsel
  cases hn.symm.trans q3
  have hl9 : As.length = r.sig.parameters.length := by
    rw [hsigR] at hlen
    exact (Option.some.inj hlen).symm
  obtain ⟨vm', X1, st1⟩ := X.invokevirtualNull hexec hown hlink hn hrm hstR hkP hkPi hx (g := F0 m pc ls st0) rfl (argsL := As) (rest := rest) hl9 hst (by rw [hb]; exact hdg)
  obtain ⟨t, st, q⟩ := k (T.setVm vm') hT X1
  exact ⟨t, st1 t st, q⟩
theorem vx_newarrayZ {atype : ArrayType} (hexec : p.tables.exec = Jvm.exec) (hb : c.code = cc) {n : Int32} (h0 : n < 0) (hdg : decode cc pc = .ok (.newarray atype, 2)) (k : ∀ tx : String, tx = toString n → vx_Note p l e R s m args below meth c H locs cells slots Q (F0 m pc ls rest) "java/lang/NegativeArraySizeException" tx) : W p l e R s m args below meth c H locs cells slots Q (F0 m pc ls (.int n :: rest)) := by
  intro T hT X
  obtain ⟨t, st, q⟩ := k _ rfl T hT X
  exact ⟨t, X.newarrayNegative hexec (g := F0 m pc ls (.int n :: rest)) rfl h0 (rest := rest) rfl (by rw [hb]; exact hdg) t st, q⟩
end
end VXM
/-! ===== END ===== -/
/-! ===== BEGIN an exception as an object: made, kept, thrown later (no traces kept) ===== -/
section VXK
variable {p : Program} {l : Launch} {e : Env} {R : Room} {s : State} {m₀ : MethodId} {args : Array Value} {below : List Frame} {meth : Method} {c : Code} {W : State} {locs : List Loc} {cells slots : Nat}
set_option maxHeartbeats 1000000 in
theorem vx_ctorMadeS (X : Stand p l e R s m₀ args below meth c W locs cells slots) (hexec : p.tables.exec = Jvm.exec) (htr : e.platform.stackTraces = false) {own cls : String} {names : List String} {ic : Nat}
    (hown : s.vm.findClass own = some m₀.cls) (hcls : Bundle.fit cls = true) (hnames : ∀ n ∈ names, Bundle.fit n = true)
    (h : ∀ a ∈ Bundle.ownAtoms own ic cls names, a.before args s = true)
    (hlocs : ∀ x ∈ locs, ∀ cell, s.heap[x.base]? = some cell → cell.vm.isStatics = false)
    {a : Addr} {cX : ClassId} {kX : Class} (hfoundX : s.vm.findClass cls = some cX) (hkX : s.vm.classes[cX]? = some kX) (hcell : W.heap[a]? = some (freshCell cX kX)) (hnew : s.heap.size ≤ a)
    {msg : Value} (hmsg : msg.isRef = true)
    {g : JFrame} (hg : g.method = m₀) (hsize : g.locals.size = c.maxLocals) {rest : List Value} (hstack : g.stack = msg :: .ref a :: .ref a :: rest)
    (hd6 : decode c.code g.pc = .ok (.invokespecial ic, 3))
    (hRframes : names.length + 3 < R.frames) (hRlocals : 2 * g.monitorRoom + ((Value.ref a :: rest).map fun v => v.category).sum + (13 * (names.length + 1) + 42) ≤ R.locals) :
    ∃ (V : State) (ce : Cell) (L : List Loc), Stand p l e R s m₀ args below meth c (V.setCell a ce) (locs ++ L) cells slots ∧ (∀ y ∈ L, y.base = a) ∧ a < V.heap.size ∧ ce.cls = cX ∧ ce.vm = .none ∧
      ∀ target, Steps p.tables e below ((V.setCell a ce).setTop { g with stack := .ref a :: rest, pc := g.pc + 3 }) target → Steps p.tables e below (W.setTop g) target := by
  have howns : e.platform.frameOwnsMonitors = true := by rw [X.admits.platform]
  have hfin : e.platform.finalization = false := by rw [X.admits.platform]
  have hpl : e.platform.magicAccessors = ({} : Platform).magicAccessors := by rw [X.admits.platform]
  have a' : ∀ x, x ∈ Bundle.ownAtoms own ic cls names → x.holds args s none s [] = true := fun x hx => h x hx
  obtain ⟨T, Z0, L, -, Y⟩ := ThrowableC.of_atoms (args := args) howns hfin hpl (fun x hx => h x (by simp [Bundle.ownAtoms, hx]))
  obtain ⟨Z, M, LZ, LM, hnZ⟩ := Init0T.ofS_atoms (args := args) hpl L Y (fun x hx => h x (by simp [Bundle.ownAtoms, hx]))
  obtain ⟨P1, Ps, hlen, L1, hL, hP1m, hlink1, hlink⟩ := Bundle.chainS (args := args) hpl hnZ names cls hcls hnames (fun x hx => h x (by simp [Bundle.ownAtoms, hx]))
  have hfound : s.vm.findClass cls = some P1.m.cls := findClass_of_methodNamed hP1m
  cases Option.some.inj (hfoundX.symm.trans hfound)
  obtain ⟨c1, kX', hc1, hk, hord, -, -, hn6⟩ := Cond.instantiable_spec (a' (.instantiable cls 6) (by simp [Bundle.ownAtoms]))
  cases Option.some.inj (hc1.symm.trans hfound)
  cases Option.some.inj (hkX.symm.trans hk)
  have hsel0 : selectMethod e.platform s.vm P1.m.cls T.fill0 = .method T.fill0 := by
    obtain ⟨c2, r2, m2, q1, q2, q3, q4, -⟩ := Cond.selects_spec (a' (.selects cls Bundle.tFill0 Bundle.tFill0) (by simp [Bundle.ownAtoms]))
    cases Option.some.inj (q1.symm.trans hfound)
    cases Option.some.inj (q2.symm.trans (State.methodFound?_of_named Y.fill0 (by decide)))
    cases Option.some.inj (q3.symm.trans Y.fill0)
    rw [Launch.admits_selectMethod X.admits]; exact q4
  have hselF : selectMethod e.platform s.vm P1.m.cls T.fill = .method T.fill := by
    obtain ⟨c2, r2, m2, q1, q2, q3, q4, -⟩ := Cond.selects_spec (a' (.selects cls Bundle.tFill Bundle.tFill) (by simp [Bundle.ownAtoms]))
    cases Option.some.inj (q1.symm.trans hfound)
    cases Option.some.inj (q2.symm.trans (State.methodFound?_of_named Y.fill (by decide)))
    cases Option.some.inj (q3.symm.trans Y.fill)
    rw [Launch.admits_selectMethod X.admits]; exact q4
  obtain ⟨cellS0, hcS0, hiss⟩ := Y.statics
  obtain ⟨u0, hu0⟩ := Cond.staticRefV Y.unassigned L.unassignedStatic L.statics hcS0 hiss (a' (.isRef (.static Bundle.tN "UNASSIGNED_STACK" Bundle.steD)) (by simp [Bundle.ownAtoms]))
  obtain ⟨sen, hsen⟩ := Cond.staticRefV Y.sentinel L.sentinelStatic L.statics hcS0 hiss (a' (.isRef (.static Bundle.tN "SUPPRESSED_SENTINEL" Bundle.listD)) (by simp [Bundle.ownAtoms]))
  obtain ⟨ci198, i198, fB, hk198, hg198, ha198, hsB, -, hnB, htB, hffB⟩ := Cond.ownField (t := .object "java/lang/Object") Y.found L.cls (by decide +kernel) (a' (.fieldLink Bundle.tN 198 Bundle.tN "backtrace" "Ljava/lang/Object;") (by simp [Bundle.ownAtoms])) (a' (.lays Bundle.tN Bundle.tN "backtrace" "Ljava/lang/Object;") (by simp [Bundle.ownAtoms])) e.platform hpl
  obtain ⟨cellS, hcS', heS, -, hkeep⟩ := X.same.2.2.2.2.2 T.aS cellS0 hcS0
  have hcellS : W.heap[T.aS]? = some cellS := hcS'
  have hout' : ∀ i, (⟨T.aS, i⟩ : Loc) ∉ locs := fun i hmem => by
    have := hlocs _ hmem cellS0 hcS0
    rw [hiss] at this; cases this
  have hknownS : cellS.vm ≠ .unknown := by
    rw [heS]; intro hu
    rw [show cellS0.vm = .unknown from hu] at hiss
    cases hiss
  have hneS : T.aS ≠ a := Nat.ne_of_lt (Nat.lt_of_lt_of_le (Array.getElem?_eq_some_iff.mp hcS0).1 hnew)
  obtain ⟨iM, hffM⟩ := Y.msg
  obtain ⟨tyC, dC, hdC, hdnC⟩ := Cond.laysAt hfound hk Y.cause (a' (.lays cls Bundle.tN "cause" "Ljava/lang/Throwable;") (by simp [Bundle.ownAtoms]))
  obtain ⟨tyS, dS, hdS, hdnS⟩ := Cond.laysAt hfound hk Y.stack (a' (.lays cls Bundle.tN "stackTrace" Bundle.steD) (by simp [Bundle.ownAtoms]))
  obtain ⟨tyP, dP, hdP, hdnP⟩ := Cond.laysAt hfound hk Y.supp (a' (.lays cls Bundle.tN "suppressedExceptions" Bundle.listD) (by simp [Bundle.ownAtoms]))
  obtain ⟨tyM, dM, hdM, hdnM⟩ := Cond.laysAt hfound hk hffM (a' (.lays cls Bundle.tN "detailMessage" "Ljava/lang/String;") (by simp [Bundle.ownAtoms]))
  obtain ⟨tyB, dB, hdB, hdnB⟩ := Cond.laysAt hfound hk hffB (a' (.lays cls Bundle.tN "backtrace" "Ljava/lang/Object;") (by simp [Bundle.ownAtoms]))
  have bC := Cond.laysApart hdB hdC hdnB hdnC (by rw [hnB, Y.causeName]; decide)
  have bS := Cond.laysApart hdB hdS hdnB hdnS (by rw [hnB, Y.stackName]; decide)
  have bP := Cond.laysApart hdB hdP hdnB hdnP (by rw [hnB, Y.suppName]; decide)
  have hskip : SkipFacts T e.platform s (fun u => u) u0 ((preparedCellV T.toThrowableT (freshCell P1.m.cls kX) a u0 sen).withEntry W.cur) :=
    ⟨{ ci198 := ci198, i198 := i198, fBack := fB }, ⟨hk198, hg198, ha198, hsB⟩, by
      have := fresh_default (c := P1.m.cls) tyB
      rw [htB] at this
      simpa [preparedCellV, Cell.setSlot, Cell.withEntry, Array.getElem?_setIfInBounds, bC, bS, bP, bC.symm, bS.symm, bP.symm, defaultValue] using this, fun _ _ => rfl⟩
  obtain ⟨tm, methC, cdC, kC, vm₁, hnC, -, -, -, -, -, -, -, hW₁, st1⟩ := Steps.initColdS (tb := p.tables) (e := e) (below := below) (s := s) (U := W) X.here hexec X.warmed hpl hown (t := Bundle.initS cls) rfl rfl (Bundle.fit_spec hcls).2
    (a' (.methodLink own ic (Bundle.initS cls)) (by simp [Bundle.ownAtoms])) (h (.instanceMethod (Bundle.initS cls)) (by cases names <;> simp [Bundle.ownAtoms, Bundle.chainSAtoms, Bundle.passSAtoms])) (bytes := Bundle.six) (maxL := 2) (h (.code (Bundle.initS cls) Bundle.six 2 none) (by cases names <;> simp [Bundle.ownAtoms, Bundle.chainSAtoms, Bundle.passSAtoms]))
    (f := g) hg (a := a) (msg := msg) (rest := .ref a :: rest) hstack hd6
  cases Option.some.inj (hnC.symm.trans hP1m)
  have X₁ := X.noted hW₁
  obtain ⟨vm₂, X₂, st2⟩ := X₁.ctorMessageOffV hexec (g := { g with stack := .ref a :: rest }) hg hsize T L Z LZ M LM (P1 :: Ps)
    (fun P hP => by rcases List.mem_cons.mp hP with rfl | hP; exact L1; exact hL P hP) ⟨hlink1, hlink⟩ (u0 := u0) (sen := sen) (self := a) hmsg (cell := freshCell P1.m.cls kX) (cellS := cellS)
    hcell (fun _ => by simp) (by simp) rfl rfl hsel0 hselF hcellS hneS hknownS (by rw [hkeep _ (hout' _)]; exact hu0) (by rw [hkeep _ (hout' _)]; exact hsen)
    (Takes.of_laid hk hord tyC (by rw [Y.causeType]; rfl)) (Takes.of_laid hk hord tyS (by rw [Y.stackType]; exact fits_refV_array _ u0)) (Takes.of_laid hk hord tyP (by rw [Y.suppType]; exact fits_refV_object _ sen))
    (Takes.of_laid hk hord tyM (by rw [Y.msgType]; exact fits_refV_object _ ⟨msg, hmsg⟩)) Y.objLocals hskip htr [] hd6
    (by simp only [List.length_cons, hlen]; omega) (by simp only [List.length_cons, hlen]; exact hRlocals)
  have hlt : a < ((W.setVm vm₁).setVm vm₂).heap.size := (Array.getElem?_eq_some_iff.mp hcell).1
  refine ⟨(W.setVm vm₁).setVm vm₂, _, _, X₂, fun y hy => ?_, hlt, rfl, rfl, fun target hwalk => st1 _ (fun acts => ?_)⟩
  · simp only [List.mem_cons, List.not_mem_nil, or_false] at hy
    rcases hy with rfl | rfl | rfl | rfl | rfl <;> rfl
  · rw [doInvoke_state]
    exact st2 _ hwalk
set_option maxHeartbeats 1000000 in
theorem vx_ctorMade0 (X : Stand p l e R s m₀ args below meth c W locs cells slots) (hexec : p.tables.exec = Jvm.exec) (htr : e.platform.stackTraces = false) {own cls : String} {names : List String} {ic : Nat}
    (hown : s.vm.findClass own = some m₀.cls) (hcls : Bundle.fit cls = true) (hnames : ∀ n ∈ names, Bundle.fit n = true)
    (h : ∀ a ∈ Bundle.ownAtoms0 own ic cls names, a.before args s = true)
    (hlocs : ∀ x ∈ locs, ∀ cell, s.heap[x.base]? = some cell → cell.vm.isStatics = false)
    {a : Addr} {cX : ClassId} {kX : Class} (hfoundX : s.vm.findClass cls = some cX) (hkX : s.vm.classes[cX]? = some kX) (hcell : W.heap[a]? = some (freshCell cX kX)) (hnew : s.heap.size ≤ a)
    {g : JFrame} (hg : g.method = m₀) (hsize : g.locals.size = c.maxLocals) {rest : List Value} (hstack : g.stack = .ref a :: .ref a :: rest)
    (hd6 : decode c.code g.pc = .ok (.invokespecial ic, 3))
    (hRframes : names.length + 3 < R.frames) (hRlocals : 2 * g.monitorRoom + ((Value.ref a :: rest).map fun v => v.category).sum + (13 * (names.length + 1) + 41) ≤ R.locals) :
    ∃ (V : State) (ce : Cell) (L : List Loc), Stand p l e R s m₀ args below meth c (V.setCell a ce) (locs ++ L) cells slots ∧ (∀ y ∈ L, y.base = a) ∧ a < V.heap.size ∧ ce.cls = cX ∧ ce.vm = .none ∧
      ∀ target, Steps p.tables e below ((V.setCell a ce).setTop { g with stack := .ref a :: rest, pc := g.pc + 3 }) target → Steps p.tables e below (W.setTop g) target := by
  have howns : e.platform.frameOwnsMonitors = true := by rw [X.admits.platform]
  have hfin : e.platform.finalization = false := by rw [X.admits.platform]
  have hpl : e.platform.magicAccessors = ({} : Platform).magicAccessors := by rw [X.admits.platform]
  have a' : ∀ x, x ∈ Bundle.ownAtoms0 own ic cls names → x.holds args s none s [] = true := fun x hx => h x hx
  obtain ⟨T, Z, L, LZ, Y⟩ := ThrowableC.of_atoms (args := args) howns hfin hpl (fun x hx => h x (by simp [Bundle.ownAtoms0, hx]))
  obtain ⟨P1, Ps, hlen, L1, hL, hP1m, hlink1, hlink⟩ := Bundle.chain0 (args := args) hpl Y.init0 names cls hcls hnames (fun x hx => h x (by simp [Bundle.ownAtoms0, hx]))
  have hfound : s.vm.findClass cls = some P1.m.cls := findClass_of_methodNamed hP1m
  cases Option.some.inj (hfoundX.symm.trans hfound)
  obtain ⟨c1, kX', hc1, hk, hord, -, -, hn6⟩ := Cond.instantiable_spec (a' (.instantiable cls 6) (by simp [Bundle.ownAtoms0]))
  cases Option.some.inj (hc1.symm.trans hfound)
  cases Option.some.inj (hkX.symm.trans hk)
  have hsel0 : selectMethod e.platform s.vm P1.m.cls T.fill0 = .method T.fill0 := by
    obtain ⟨c2, r2, m2, q1, q2, q3, q4, -⟩ := Cond.selects_spec (a' (.selects cls Bundle.tFill0 Bundle.tFill0) (by simp [Bundle.ownAtoms0]))
    cases Option.some.inj (q1.symm.trans hfound)
    cases Option.some.inj (q2.symm.trans (State.methodFound?_of_named Y.fill0 (by decide)))
    cases Option.some.inj (q3.symm.trans Y.fill0)
    rw [Launch.admits_selectMethod X.admits]; exact q4
  have hselF : selectMethod e.platform s.vm P1.m.cls T.fill = .method T.fill := by
    obtain ⟨c2, r2, m2, q1, q2, q3, q4, -⟩ := Cond.selects_spec (a' (.selects cls Bundle.tFill Bundle.tFill) (by simp [Bundle.ownAtoms0]))
    cases Option.some.inj (q1.symm.trans hfound)
    cases Option.some.inj (q2.symm.trans (State.methodFound?_of_named Y.fill (by decide)))
    cases Option.some.inj (q3.symm.trans Y.fill)
    rw [Launch.admits_selectMethod X.admits]; exact q4
  obtain ⟨cellS0, hcS0, hiss⟩ := Y.statics
  obtain ⟨u0, hu0⟩ := Cond.staticRefV Y.unassigned L.unassignedStatic L.statics hcS0 hiss (a' (.isRef (.static Bundle.tN "UNASSIGNED_STACK" Bundle.steD)) (by simp [Bundle.ownAtoms0]))
  obtain ⟨sen, hsen⟩ := Cond.staticRefV Y.sentinel L.sentinelStatic L.statics hcS0 hiss (a' (.isRef (.static Bundle.tN "SUPPRESSED_SENTINEL" Bundle.listD)) (by simp [Bundle.ownAtoms0]))
  obtain ⟨ci198, i198, fB, hk198, hg198, ha198, hsB, -, hnB, htB, hffB⟩ := Cond.ownField (t := .object "java/lang/Object") Y.found L.cls (by decide +kernel) (a' (.fieldLink Bundle.tN 198 Bundle.tN "backtrace" "Ljava/lang/Object;") (by simp [Bundle.ownAtoms0])) (a' (.lays Bundle.tN Bundle.tN "backtrace" "Ljava/lang/Object;") (by simp [Bundle.ownAtoms0])) e.platform hpl
  obtain ⟨cellS, hcS', heS, -, hkeep⟩ := X.same.2.2.2.2.2 T.aS cellS0 hcS0
  have hcellS : W.heap[T.aS]? = some cellS := hcS'
  have hout' : ∀ i, (⟨T.aS, i⟩ : Loc) ∉ locs := fun i hmem => by
    have := hlocs _ hmem cellS0 hcS0
    rw [hiss] at this; cases this
  have hknownS : cellS.vm ≠ .unknown := by
    rw [heS]; intro hu
    rw [show cellS0.vm = .unknown from hu] at hiss
    cases hiss
  have hneS : T.aS ≠ a := Nat.ne_of_lt (Nat.lt_of_lt_of_le (Array.getElem?_eq_some_iff.mp hcS0).1 hnew)
  obtain ⟨iM, hffM⟩ := Y.msg
  obtain ⟨tyC, dC, hdC, hdnC⟩ := Cond.laysAt hfound hk Y.cause (a' (.lays cls Bundle.tN "cause" "Ljava/lang/Throwable;") (by simp [Bundle.ownAtoms0]))
  obtain ⟨tyS, dS, hdS, hdnS⟩ := Cond.laysAt hfound hk Y.stack (a' (.lays cls Bundle.tN "stackTrace" Bundle.steD) (by simp [Bundle.ownAtoms0]))
  obtain ⟨tyP, dP, hdP, hdnP⟩ := Cond.laysAt hfound hk Y.supp (a' (.lays cls Bundle.tN "suppressedExceptions" Bundle.listD) (by simp [Bundle.ownAtoms0]))
  obtain ⟨tyM, dM, hdM, hdnM⟩ := Cond.laysAt hfound hk hffM (a' (.lays cls Bundle.tN "detailMessage" "Ljava/lang/String;") (by simp [Bundle.ownAtoms0]))
  obtain ⟨tyB, dB, hdB, hdnB⟩ := Cond.laysAt hfound hk hffB (a' (.lays cls Bundle.tN "backtrace" "Ljava/lang/Object;") (by simp [Bundle.ownAtoms0]))
  have bC := Cond.laysApart hdB hdC hdnB hdnC (by rw [hnB, Y.causeName]; decide)
  have bS := Cond.laysApart hdB hdS hdnB hdnS (by rw [hnB, Y.stackName]; decide)
  have bP := Cond.laysApart hdB hdP hdnB hdnP (by rw [hnB, Y.suppName]; decide)
  have hskip : SkipFacts T e.platform s (fun u => u) u0 ((preparedCellV T.toThrowableT (freshCell P1.m.cls kX) a u0 sen).withEntry W.cur) :=
    ⟨{ ci198 := ci198, i198 := i198, fBack := fB }, ⟨hk198, hg198, ha198, hsB⟩, by
      have := fresh_default (c := P1.m.cls) tyB
      rw [htB] at this
      simpa [preparedCellV, Cell.setSlot, Cell.withEntry, Array.getElem?_setIfInBounds, bC, bS, bP, bC.symm, bS.symm, bP.symm, defaultValue] using this, fun _ _ => rfl⟩
  obtain ⟨tm, methC, cdC, kC, vm₁, hnC, -, -, -, -, -, -, -, hW₁, st1⟩ := Steps.initCold (tb := p.tables) (e := e) (below := below) (s := s) (U := W) X.here hexec X.warmed hpl hown (t := Bundle.init0 cls) rfl rfl (Bundle.fit_spec hcls).2
    (a' (.methodLink own ic (Bundle.init0 cls)) (by simp [Bundle.ownAtoms0])) (h (.instanceMethod (Bundle.init0 cls)) (by cases names <;> simp [Bundle.ownAtoms0, Bundle.chain0Atoms, Bundle.passAtoms])) (bytes := Bundle.five) (maxL := 1) (h (.code (Bundle.init0 cls) Bundle.five 1 none) (by cases names <;> simp [Bundle.ownAtoms0, Bundle.chain0Atoms, Bundle.passAtoms]))
    (f := g) hg (a := a) (rest := .ref a :: rest) hstack hd6
  cases Option.some.inj (hnC.symm.trans hP1m)
  have X₁ := X.noted hW₁
  obtain ⟨vm₂, X₂, st2⟩ := X₁.ctorPlainOffV hexec (g := { g with stack := .ref a :: rest }) hg hsize T L Z LZ (P1 :: Ps)
    (fun P hP => by rcases List.mem_cons.mp hP with rfl | hP; exact L1; exact hL P hP) ⟨hlink1, hlink⟩ (u0 := u0) (sen := sen) (self := a) (cell := freshCell P1.m.cls kX) (cellS := cellS)
    hcell (fun _ => by simp) (by simp) rfl rfl hsel0 hselF hcellS hneS hknownS (by rw [hkeep _ (hout' _)]; exact hu0) (by rw [hkeep _ (hout' _)]; exact hsen)
    (Takes.of_laid hk hord tyC (by rw [Y.causeType]; rfl)) (Takes.of_laid hk hord tyS (by rw [Y.stackType]; exact fits_refV_array _ u0)) (Takes.of_laid hk hord tyP (by rw [Y.suppType]; exact fits_refV_object _ sen)) Y.objLocals hskip htr [] hd6
    (by simp only [List.length_cons, hlen]; omega) (by simp only [List.length_cons, hlen]; exact hRlocals)
  have hlt : a < ((W.setVm vm₁).setVm vm₂).heap.size := (Array.getElem?_eq_some_iff.mp hcell).1
  refine ⟨(W.setVm vm₁).setVm vm₂, _, _, X₂, fun y hy => ?_, hlt, rfl, rfl, fun target hwalk => st1 _ (fun acts => ?_)⟩
  · simp only [List.mem_cons, List.not_mem_nil, or_false] at hy
    rcases hy with rfl | rfl | rfl | rfl <;> rfl
  · rw [doInvoke_state]
    exact st2 _ hwalk
end VXK
section VXK2
variable {p : Program} {l : Launch} {e : Env} {R : Room} {s : State} {m : MethodId} {args : Array Value} {below : List Frame} {meth : Method} {c : Code} {H : Heap} {locs : List Loc} {cells slots : Nat} {Q : State → Prop}
variable {ls : Array Slot} {rest : List Value} {D : va_G} {cl : List vw_C} {tys : List (ClassId × FieldType)} {ws : va_W}
/-- 'new E("text")' that isn't thrown at once: the object goes on the stack -/
theorem vx_makeS {cc : ByteArray} {pc : Nat} (hexec : p.tables.exec = Jvm.exec) (hb : c.code = cc) (hl : l.stackTraces = false) {own cls text : String} {names : List String} {ik is ic sa ci : Nat} {A : Nat → Prop} {T0 : u_T}
    (hown : s.vm.findClass own = some m.cls) (hcls : Bundle.fit cls = true) (hnames : ∀ n ∈ names, Bundle.fit n = true)
    (hk : (Cond.classLink own ik cls).before args s = true) (hini : (Cond.initialized cls).before args s = true) (hstr : vk_R own is text sa s) (hat : ∀ w ∈ vx_atS own ic cls names, w.before args s = true)
    (hgood : ∀ w ∈ Cond.classLink own ik cls :: Cond.initialized cls :: vx_atS own ic cls names, vx_ot w = true)
    (hU : vx_Zq Bundle.tN "UNASSIGNED_STACK" Bundle.steD A s s.heap) (hN : vx_Zq Bundle.tN "SUPPRESSED_SENTINEL" Bundle.listD A s s.heap) (hS : va_S A s.heap H locs) (hsize : ls.size = c.maxLocals)
    (d0 : decode cc pc = .ok (.new ik, 3)) (d3 : decode cc (pc + 3) = .ok (.dup, 1)) (d4 : decode cc (pc + 4) = .ok (.ldc is, 2)) (d6 : decode cc (pc + 6) = .ok (.invokespecial ic, 3))
    (hK : va_K D cl tys s) (hP : va_P D cl ws H) (hD : va_D A ws) (hA : ∀ q, s.heap.size ≤ q → A q) (hc : cl[ci]? = some (cls, T0, 0))
    (hRframes : names.length + 3 < R.frames) (hRlocals : (rest.map fun v => v.category).sum + (13 * (names.length + 1) + 43) ≤ R.locals) (hRcells : cells + 1 ≤ R.cells) (hRslots : slots + 6 ≤ R.slots)
    (kk : ∀ (q : Nat) (H1 : Heap), va_P D cl (ws ++ [(q, .inr (ci, []))]) H1 → va_D A (ws ++ [(q, .inr (ci, []))]) → va_S A s.heap H1 locs → W p l e R s m args below meth c H1 locs (cells + 1) (slots + 6) Q (F0 m (pc + 9) ls (.ref q :: rest))) :
    W p l e R s m args below meth c H locs cells slots Q (F0 m pc ls rest) := by
  intro T hT X
  subst hT
  have htr : e.platform.stackTraces = false := (show e.platform.stackTraces = l.stackTraces by rw [X.admits.platform]).trans hl
  have Y := vx_rebase X (R' := { frames := R.frames, locals := R.locals, cells := 1, slots := 6 }) (Nat.le_refl _) (Nat.le_refl _) hRcells hRslots
  obtain ⟨s', hA'⟩ : ∃ z, z = (T.setVm s.vm).setFrames (.invoking m args :: below) := ⟨_, rfl⟩
  rw [← hA'] at Y
  have hvm : s'.vm = s.vm := by rw [hA']; rfl
  have hhp : s'.heap = T.heap := by rw [hA']; rfl
  have hW0 : s.WarmedH s'.vm := by rw [hvm]; exact State.WarmedH.refl s
  have hat' : ∀ w ∈ vx_atS own ic cls names, w.before args s' = true := fun w hw => vx_ot_at hW0 hvm.symm (hgood w (List.mem_cons_of_mem _ (List.mem_cons_of_mem _ hw))) (hat w hw)
  have hk' : (Cond.classLink own ik cls).before args s' = true := vx_ot_at hW0 hvm.symm (hgood _ List.mem_cons_self) hk
  have hini' : (Cond.initialized cls).before args s' = true := vx_ot_at hW0 hvm.symm (hgood _ (List.mem_cons_of_mem _ List.mem_cons_self)) hini
  have hU' : vx_Zq Bundle.tN "UNASSIGNED_STACK" Bundle.steD A s' s'.heap := by rw [hhp]; exact vx_Zq.moved hW0.alike (hU.kept hS.2.1)
  have hN' : vx_Zq Bundle.tN "SUPPRESSED_SENTINEL" Bundle.listD A s' s'.heap := by rw [hhp]; exact vx_Zq.moved hW0.alike (hN.kept hS.2.1)
  have h : ∀ w ∈ Bundle.ownAtoms own ic cls names, w.before args s' = true := vx_own hat' (vx_isRefq hU'.1) (vx_isRefq hN'.1) hU'.2.word hN'.2.word
  have hown' : s'.vm.findClass own = some m.cls := by rw [hvm]; exact hown
  have hins : (Cond.instantiable cls 6).before args s' = true := h _ (by simp [Bundle.ownAtoms])
  obtain ⟨vm₁, cX, kX, hfX, hkX, -, -, X₁, st1⟩ := Y.newCold hexec (own := own) (C := cls) (index := ik) (n := 6) hown' hk' hins hini'
    (g := F0 m pc ls rest) rfl (by rw [hb]; exact d0) (Nat.le_refl _) (Nat.le_refl _)
  generalize hT1 : (T.setVm vm₁).pushCell { cls := cX, slots := kX.instanceTypes.map defaultValue, vm := .none } = T1 at X₁ st1
  have hcat : (Value.ref T.heap.size).category = 1 := rfl
  have hcellA : T1.heap[T.heap.size]? = some (freshCell cX kX) := by rw [← hT1]; exact State.heap_pushCell_size _ _
  have d3' : decode c.code (pc + 3) = .ok (.dup, 1) := by rw [hb]; exact d3
  have d4' : decode c.code (pc + 4) = .ok (.ldc is, 2) := by rw [hb]; exact d4
  have hstr' : vk_R own is text sa s' := vk_R.warm hW0 hstr
  obtain ⟨V, ce, L, Z, hL, hlt, hcl9, hvm9, st⟩ := vx_ctorMadeS X₁ hexec htr (own := own) (cls := cls) (names := names) (ic := ic) hown' hcls hnames h (fun x hx => nomatch hx) hfX hkX hcellA (by rw [hhp]; exact Nat.le_refl _) (msg := .ref sa) rfl
    (g := { method := m, pc := pc + 6, locals := ls, stack := .ref sa :: .ref T.heap.size :: .ref T.heap.size :: rest, locked := none }) rfl hsize (rest := rest) rfl
    (by rw [hb]; exact d6) hRframes (by simp only [List.map_cons, List.sum_cons, hcat]; omega)
  have Z0 := Stand.forget (locs := []) Z (fun y hy => by rw [hL y hy, hhp]; exact Nat.le_refl _)
  obtain ⟨f1, f2⟩ := vx_frame Z0.same
  rw [hhp] at f1 f2
  have hcid : ce.cls = D.1 ci := by
    rw [hcl9]
    have h1 := (hK.1 ci _ hc).2.1
    rw [hvm] at hfX
    exact Option.some.inj (hfX.symm.trans h1)
  have hh : (V.setCell T.heap.size ce).heap[T.heap.size]? = some ce := heapAt_setCell_self (s := V) ce hlt
  subst hA'
  have X5 := vx_back9 X Y Z0
  have X6 : Stand p l e R s m args below meth c (V.setCell T.heap.size ce) locs (cells + 1) (slots + 6) := { X5 with same := X5.same.mono (by omega) (by omega) }
  have hk9 : ∀ (k : Nat) (x : Nat × va_E), ws[k]? = some x → (V.setCell T.heap.size ce).heap[x.1]? = T.heap[x.1]? := fun k x hx => f2 x.1 ((hP k x hx).lt) (fun z hz => nomatch hz)
  obtain ⟨t, a1, b1⟩ := kk T.heap.size (V.setCell T.heap.size ce).heap ((hP.kept hk9).app (fun k x hx => by
      have hz : k < 1 := (List.getElem?_eq_some_iff.mp hx).1
      rw [show k = 0 by omega] at hx
      cases hx
      exact ⟨_, hc, ce, hh, hcid, hvm9, fun k hk => absurd hk (Nat.not_lt_zero k)⟩)) (hD.push hP rfl (hA _ hS.1)) ⟨Nat.le_trans hS.1 f1, fun q h1 h2 => (f2 q (Nat.lt_of_lt_of_le h1 hS.1) (fun z hz => nomatch hz)).trans (hS.2.1 q h1 h2), hS.2.2⟩ _ rfl X6
  refine ⟨t, st1 _ ?_, b1⟩
  show Steps p.tables e below (T1.setTop { method := m, pc := pc + 3, locals := ls, stack := .ref T.heap.size :: rest, locked := none }) _
  jvm_step X₁.here [X₁.here.top, hexec, d3', Value.category]
  exact X₁.ldcString hexec (own := own) (text := text) (index := is) (a := sa) hown' hstr'.1 hstr'.2
    (g := { method := m, pc := pc + 4, locals := ls, stack := .ref T.heap.size :: .ref T.heap.size :: rest, locked := none }) rfl d4' _ (st _ a1)
/-- 'new E()' that isn't thrown at once: the object goes on the stack -/
theorem vx_make0 {cc : ByteArray} {pc : Nat} (hexec : p.tables.exec = Jvm.exec) (hb : c.code = cc) (hl : l.stackTraces = false) {own cls : String} {names : List String} {ik ic ci : Nat} {A : Nat → Prop} {T0 : u_T}
    (hown : s.vm.findClass own = some m.cls) (hcls : Bundle.fit cls = true) (hnames : ∀ n ∈ names, Bundle.fit n = true)
    (hk : (Cond.classLink own ik cls).before args s = true) (hini : (Cond.initialized cls).before args s = true) (hat : ∀ w ∈ vx_at0 own ic cls names, w.before args s = true)
    (hgood : ∀ w ∈ Cond.classLink own ik cls :: Cond.initialized cls :: vx_at0 own ic cls names, vx_ot w = true)
    (hU : vx_Zq Bundle.tN "UNASSIGNED_STACK" Bundle.steD A s s.heap) (hN : vx_Zq Bundle.tN "SUPPRESSED_SENTINEL" Bundle.listD A s s.heap) (hS : va_S A s.heap H locs) (hsize : ls.size = c.maxLocals)
    (d0 : decode cc pc = .ok (.new ik, 3)) (d3 : decode cc (pc + 3) = .ok (.dup, 1)) (d4 : decode cc (pc + 4) = .ok (.invokespecial ic, 3))
    (hK : va_K D cl tys s) (hP : va_P D cl ws H) (hD : va_D A ws) (hA : ∀ q, s.heap.size ≤ q → A q) (hc : cl[ci]? = some (cls, T0, 0))
    (hRframes : names.length + 3 < R.frames) (hRlocals : (rest.map fun v => v.category).sum + (13 * (names.length + 1) + 42) ≤ R.locals) (hRcells : cells + 1 ≤ R.cells) (hRslots : slots + 6 ≤ R.slots)
    (kk : ∀ (q : Nat) (H1 : Heap), va_P D cl (ws ++ [(q, .inr (ci, []))]) H1 → va_D A (ws ++ [(q, .inr (ci, []))]) → va_S A s.heap H1 locs → W p l e R s m args below meth c H1 locs (cells + 1) (slots + 6) Q (F0 m (pc + 7) ls (.ref q :: rest))) :
    W p l e R s m args below meth c H locs cells slots Q (F0 m pc ls rest) := by
  intro T hT X
  subst hT
  have htr : e.platform.stackTraces = false := (show e.platform.stackTraces = l.stackTraces by rw [X.admits.platform]).trans hl
  have Y := vx_rebase X (R' := { frames := R.frames, locals := R.locals, cells := 1, slots := 6 }) (Nat.le_refl _) (Nat.le_refl _) hRcells hRslots
  obtain ⟨s', hA'⟩ : ∃ z, z = (T.setVm s.vm).setFrames (.invoking m args :: below) := ⟨_, rfl⟩
  rw [← hA'] at Y
  have hvm : s'.vm = s.vm := by rw [hA']; rfl
  have hhp : s'.heap = T.heap := by rw [hA']; rfl
  have hW0 : s.WarmedH s'.vm := by rw [hvm]; exact State.WarmedH.refl s
  have hat' : ∀ w ∈ vx_at0 own ic cls names, w.before args s' = true := fun w hw => vx_ot_at hW0 hvm.symm (hgood w (List.mem_cons_of_mem _ (List.mem_cons_of_mem _ hw))) (hat w hw)
  have hk' : (Cond.classLink own ik cls).before args s' = true := vx_ot_at hW0 hvm.symm (hgood _ List.mem_cons_self) hk
  have hini' : (Cond.initialized cls).before args s' = true := vx_ot_at hW0 hvm.symm (hgood _ (List.mem_cons_of_mem _ List.mem_cons_self)) hini
  have hU' : vx_Zq Bundle.tN "UNASSIGNED_STACK" Bundle.steD A s' s'.heap := by rw [hhp]; exact vx_Zq.moved hW0.alike (hU.kept hS.2.1)
  have hN' : vx_Zq Bundle.tN "SUPPRESSED_SENTINEL" Bundle.listD A s' s'.heap := by rw [hhp]; exact vx_Zq.moved hW0.alike (hN.kept hS.2.1)
  have h : ∀ w ∈ Bundle.ownAtoms0 own ic cls names, w.before args s' = true := vx_own hat' (vx_isRefq hU'.1) (vx_isRefq hN'.1) hU'.2.word hN'.2.word
  have hown' : s'.vm.findClass own = some m.cls := by rw [hvm]; exact hown
  have hins : (Cond.instantiable cls 6).before args s' = true := h _ (by simp [Bundle.ownAtoms0])
  obtain ⟨vm₁, cX, kX, hfX, hkX, -, -, X₁, st1⟩ := Y.newCold hexec (own := own) (C := cls) (index := ik) (n := 6) hown' hk' hins hini'
    (g := F0 m pc ls rest) rfl (by rw [hb]; exact d0) (Nat.le_refl _) (Nat.le_refl _)
  generalize hT1 : (T.setVm vm₁).pushCell { cls := cX, slots := kX.instanceTypes.map defaultValue, vm := .none } = T1 at X₁ st1
  have hcat : (Value.ref T.heap.size).category = 1 := rfl
  have hcellA : T1.heap[T.heap.size]? = some (freshCell cX kX) := by rw [← hT1]; exact State.heap_pushCell_size _ _
  have d3' : decode c.code (pc + 3) = .ok (.dup, 1) := by rw [hb]; exact d3
  obtain ⟨V, ce, L, Z, hL, hlt, hcl9, hvm9, st⟩ := vx_ctorMade0 X₁ hexec htr (own := own) (cls := cls) (names := names) (ic := ic) hown' hcls hnames h (fun x hx => nomatch hx) hfX hkX hcellA (by rw [hhp]; exact Nat.le_refl _)
    (g := { method := m, pc := pc + 4, locals := ls, stack := .ref T.heap.size :: .ref T.heap.size :: rest, locked := none }) rfl hsize (rest := rest) rfl
    (by rw [hb]; exact d4) hRframes (by simp only [List.map_cons, List.sum_cons, hcat]; omega)
  have Z0 := Stand.forget (locs := []) Z (fun y hy => by rw [hL y hy, hhp]; exact Nat.le_refl _)
  obtain ⟨f1, f2⟩ := vx_frame Z0.same
  rw [hhp] at f1 f2
  have hcid : ce.cls = D.1 ci := by
    rw [hcl9]
    have h1 := (hK.1 ci _ hc).2.1
    rw [hvm] at hfX
    exact Option.some.inj (hfX.symm.trans h1)
  have hh : (V.setCell T.heap.size ce).heap[T.heap.size]? = some ce := heapAt_setCell_self (s := V) ce hlt
  subst hA'
  have X5 := vx_back9 X Y Z0
  have X6 : Stand p l e R s m args below meth c (V.setCell T.heap.size ce) locs (cells + 1) (slots + 6) := { X5 with same := X5.same.mono (by omega) (by omega) }
  have hk9 : ∀ (k : Nat) (x : Nat × va_E), ws[k]? = some x → (V.setCell T.heap.size ce).heap[x.1]? = T.heap[x.1]? := fun k x hx => f2 x.1 ((hP k x hx).lt) (fun z hz => nomatch hz)
  obtain ⟨t, a1, b1⟩ := kk T.heap.size (V.setCell T.heap.size ce).heap ((hP.kept hk9).app (fun k x hx => by
      have hz : k < 1 := (List.getElem?_eq_some_iff.mp hx).1
      rw [show k = 0 by omega] at hx
      cases hx
      exact ⟨_, hc, ce, hh, hcid, hvm9, fun k hk => absurd hk (Nat.not_lt_zero k)⟩)) (hD.push hP rfl (hA _ hS.1)) ⟨Nat.le_trans hS.1 f1, fun q h1 h2 => (f2 q (Nat.lt_of_lt_of_le h1 hS.1) (fun z hz => nomatch hz)).trans (hS.2.1 q h1 h2), hS.2.2⟩ _ rfl X6
  refine ⟨t, st1 _ ?_, b1⟩
  show Steps p.tables e below (T1.setTop { method := m, pc := pc + 3, locals := ls, stack := .ref T.heap.size :: rest, locked := none }) _
  jvm_step X₁.here [X₁.here.top, hexec, d3', Value.category]
  exact st _ a1
/-- 'throw x' of an object that was made before -/
theorem vx_athrow {cc : ByteArray} {pc : Nat} (hexec : p.tables.exec = Jvm.exec) (hb : c.code = cc) {q : Addr} (hdg : decode cc pc = .ok (.athrow, 1)) (k : vx_W p l e R s m args below meth c H locs cells slots Q (F0 m pc ls rest) q) : W p l e R s m args below meth c H locs cells slots Q (F0 m pc ls (.ref q :: rest)) := by
  intro T hT X
  obtain ⟨t, st, hq⟩ := k T hT X
  refine ⟨t, ?_, hq⟩
  have hdg' : decode c.code pc = .ok (.athrow, 1) := by rw [hb]; exact hdg
  jvm_step X.here [X.here.top, hexec, hdg', athrow.wp_sem]
  exact st
end VXK2
/-! ===== END ===== -/
/-! ===== BEGIN a constructor that throws (launches without stack traces) ===== -/
section VXIA
variable {p : Program} {l : Launch} {e : Env} {R : Room} {s : State} {m : MethodId} {args : Array Value} {below : List Frame} {meth : Method} {c : Code} {T : State} {locs : List Loc} {cells slots : Nat}
theorem vx_callI (X : Stand p l e R s m args below meth c T locs cells slots) (hexec : p.tables.exec = Jvm.exec) {own : String} {index : Nat} {y : MethodName} {bytes : ByteArray} {maxL : Nat}
    (hown : s.vm.findClass own = some m.cls) (hy1 : y.name = "<init>") (hlink : (Cond.methodLink own index y).before args s = true) (hinst : (Cond.instanceMethod y).before args s = true)
    (hcode : (Cond.code y bytes maxL none).before args s = true) (hy : y.cls ≠ "java/lang/invoke/MethodHandle" ∧ y.cls ≠ "java/lang/invoke/VarHandle")
    {W9 : Nat} {Pre : Pt → Array Value → Prop} {Post : Pt → Array Value → Option Value → Pt → Prop} {PostX : Pt → Array Value → Addr → Pt → Prop} (hK : vx_Back l R p e below s args y 3 W9 Pre Post PostX)
    {g : JFrame} (hg : g.method = m) (hsize : g.locals.size = c.maxLocals) {a : Addr} {argsL rest : List Value} (hlen : ∀ sig, parseMethodDescriptor y.desc = some sig → argsL.length = sig.parameters.length)
    (hstack : g.stack = argsL.reverse ++ .ref a :: rest) (hW : 2 * g.monitorRoom + (rest.map fun v => v.category).sum ≤ W9) (hdg : decode c.code g.pc = .ok (.invokespecial index, 3))
    (hpre : ∀ vm₁, s.WarmedH vm₁ → Pre ⟨T.setVm vm₁, locs, cells, slots⟩ (Value.ref a :: argsL).toArray) :
    (∃ (v : Option Value) (vm₁ : Vm) (B : Pt), s.WarmedH vm₁ ∧ Stand p l e R s m args below meth c B.U B.locs B.cells B.slots ∧ Post ⟨T.setVm vm₁, locs, cells, slots⟩ (Value.ref a :: argsL).toArray v B ∧
      ∀ target, Steps p.tables e below (B.U.setTop { g with pc := g.pc + 3, stack := v.toList ++ rest }) target → Steps p.tables e below (T.setTop g) target) ∨
    (∃ (q : Addr) (vm₁ : Vm) (B : Pt), s.WarmedH vm₁ ∧ Stand p l e R s m args below meth c B.U B.locs B.cells B.slots ∧ PostX ⟨T.setVm vm₁, locs, cells, slots⟩ (Value.ref a :: argsL).toArray q B ∧
      Steps p.tables e below (T.setTop g) ((B.U.setTop { g with stack := rest }).pushFrame (.throwing q))) := by
  subst hg
  have hpl : e.platform.magicAccessors = ({} : Platform).magicAccessors := by rw [X.admits.platform]
  obtain ⟨mk, methM, cM, kP, vm₁, hnamed, hmethM, hcodeM, -, hlocalsM, -, hkP, -, hW₁, hstep₁⟩ := Steps.initColdArgs (e := e) X.here hexec X.warmed hpl hown hy1 hy hlink hinst hcode (f := g) rfl hlen hstack hdg
  have X₁ := X.noted hW₁
  rcases hK g.method meth c ⟨T.setVm vm₁, locs, cells, slots⟩ { g with stack := rest } (.invokespecial index) mk (Value.ref a :: argsL).toArray X₁ rfl hsize hdg hW (X₁.named hnamed) (hpre vm₁ X₁.warmed) with ⟨v, B, X', hpost, hsteps⟩ | ⟨q, B, X', hpost, hsteps⟩
  · exact Or.inl ⟨v, vm₁, B, X₁.warmed, X', hpost, fun target h => hstep₁ _ fun acts => by rw [doInvoke_state]; exact hsteps.trans h⟩
  · exact Or.inr ⟨q, vm₁, B, X₁.warmed, X', hpost, hstep₁ _ fun acts => by rw [doInvoke_state]; exact hsteps⟩
end VXIA
section VXIB
variable {p : Program} {l : Launch} {e : Env} {R : Room} {s : State} {m : MethodId} {args : Array Value} {below : List Frame} {meth : Method} {c : Code} {H : Heap} {locs : List Loc} {cells slots : Nat}
variable {y : MethodName} {bytes cc : ByteArray} {maxL nL mc ms n index : Nat} {ret : Option FieldType} {ws : List Cond} {rm : Room} {Pc : Array Value → State → Prop} {Qc : Array Value → State → Outcome → State → Prop} {XC : String → State → State → Prop} {free : Addr → Prop} {Ts : List Cond} {own C : String} {b : Addr} {As rest : List Value} {g : JFrame}
theorem vx_runI (S : CallFix p m c cc nL s args Ts own) (hM : vx_Met l y ws rm Pc Qc XC mc ms free) (cw : CallB R s args own index y bytes maxL none ws rm mc ms n ∧ y.name = "<init>" ∧ (Cond.instanceMethod y).before args s = true) (hp : PreS s H Pc (.ref b :: As))
    (hg : g.method = m) (hn : As.length = n) (hsize : g.locals.size = nL) (hstack : g.stack = As.reverse ++ .ref b :: rest) (hW : 2 * g.monitorRoom + (rest.map fun v => v.category).sum ≤ 8) (hdg : decode cc g.pc = .ok (.invokespecial index, 3)) (hf : cells + mc ≤ R.cells ∧ slots + ms ≤ R.slots) :
    vx_Run p l e R s m args below meth c H locs cells slots mc ms g rest (Qc (Value.ref b :: As).toArray) XC free := by
  have hK : vx_Back l R p e below s args y 3 8 (PreOf R mc ms Pc) (PostOf Qc mc ms free) (vx_Post XC mc ms free) := vx_callBack cw.1 hM hp.1
  obtain ⟨⟨-, -, -, -, -, -, hcode, -, hy, hlen, hl⟩, hy1, hin⟩ := cw
  obtain ⟨hx, hb, hml, ho, -⟩ := S
  have hPc := hp.2
  intro T hT X
  rcases vx_callI X hx (bytes := bytes) (maxL := maxL) ho hy1 hl hin hcode hy hK hg (hsize.trans hml.symm) (a := b) (argsL := As) (rest := rest) (fun sig h => hn.trans (hlen sig h)) hstack hW (by rw [hb]; exact hdg)
    (fun vm₁ hW₁ => ⟨hf.1, hf.2, hPc (T.setVm vm₁) hT hW₁⟩) with ⟨v, vm₁, ⟨U', l2, c2, s2⟩, hW₁, X', ⟨g', mk, t, L, e1, e2, hq, h1, hL, h2, h3⟩, st⟩ | ⟨q, vm₁, ⟨U', l2, c2, s2⟩, hW₁, X', ⟨g', mk, t, L, E, ce, e1, e2, hq, hce, hcv, hcl, h1, hL, h2, h3⟩, st⟩
  · dsimp only [Pt.U, Pt.locs, Pt.cells, Pt.slots] at X' e1 e2 h1 h2 h3 st
    subst h1; subst h2; subst h3
    exact Or.inl ⟨v, (T.setVm vm₁).calling g' mk (Value.ref b :: As).toArray, t, U', L, hT, X', hL, e1, e2, hq, st⟩
  · dsimp only [Pt.U, Pt.locs, Pt.cells, Pt.slots] at X' e1 e2 h1 h2 h3 st hcl
    subst h1; subst h2; subst h3
    exact Or.inr ⟨q, (T.setVm vm₁).calling g' mk (Value.ref b :: As).toArray, t, U', L, E, ce, hT, X', hL, e1, e2, hq, hce, hcv, vx_cls hW₁ hcl, st⟩
end VXIB
/-! ===== END ===== -/
/-! ===== BEGIN a private constructor of a nest mate that throws ===== -/
section VXIC
variable {p : Program} {l : Launch} {e : Env} {R : Room} {s : State} {m : MethodId} {args : Array Value} {below : List Frame} {meth : Method} {c : Code} {T : State} {locs : List Loc} {cells slots : Nat}
theorem vx_callIN (X : Stand p l e R s m args below meth c T locs cells slots) (hexec : p.tables.exec = Jvm.exec) {own : String} {index : Nat} {host : String} {y : MethodName} {bytes : ByteArray} {maxL : Nat}
    (hown : s.vm.findClass own = some m.cls) (hy1 : y.name = "<init>") (hlink : (Cond.methodLinkNest own index y host).before args s = true) (hinst : (Cond.instanceMethod y).before args s = true)
    (hcode : (Cond.code y bytes maxL none).before args s = true) (hy : y.cls ≠ "java/lang/invoke/MethodHandle" ∧ y.cls ≠ "java/lang/invoke/VarHandle")
    {W9 : Nat} {Pre : Pt → Array Value → Prop} {Post : Pt → Array Value → Option Value → Pt → Prop} {PostX : Pt → Array Value → Addr → Pt → Prop} (hK : vx_Back l R p e below s args y 3 W9 Pre Post PostX)
    {g : JFrame} (hg : g.method = m) (hsize : g.locals.size = c.maxLocals) {a : Addr} {argsL rest : List Value} (hlen : ∀ sig, parseMethodDescriptor y.desc = some sig → argsL.length = sig.parameters.length)
    (hstack : g.stack = argsL.reverse ++ .ref a :: rest) (hW : 2 * g.monitorRoom + (rest.map fun v => v.category).sum ≤ W9) (hdg : decode c.code g.pc = .ok (.invokespecial index, 3))
    (hpre : ∀ vm₁, s.WarmedH vm₁ → Pre ⟨T.setVm vm₁, locs, cells, slots⟩ (Value.ref a :: argsL).toArray) :
    (∃ (v : Option Value) (vm₁ : Vm) (B : Pt), s.WarmedH vm₁ ∧ Stand p l e R s m args below meth c B.U B.locs B.cells B.slots ∧ Post ⟨T.setVm vm₁, locs, cells, slots⟩ (Value.ref a :: argsL).toArray v B ∧
      ∀ target, Steps p.tables e below (B.U.setTop { g with pc := g.pc + 3, stack := v.toList ++ rest }) target → Steps p.tables e below (T.setTop g) target) ∨
    (∃ (q : Addr) (vm₁ : Vm) (B : Pt), s.WarmedH vm₁ ∧ Stand p l e R s m args below meth c B.U B.locs B.cells B.slots ∧ PostX ⟨T.setVm vm₁, locs, cells, slots⟩ (Value.ref a :: argsL).toArray q B ∧
      Steps p.tables e below (T.setTop g) ((B.U.setTop { g with stack := rest }).pushFrame (.throwing q))) := by
  subst hg
  have hpl : e.platform.magicAccessors = ({} : Platform).magicAccessors := by rw [X.admits.platform]
  obtain ⟨mk, methM, cM, kP, vm₁, hnamed, hmethM, hcodeM, -, hlocalsM, -, hkP, -, hW₁, hstep₁⟩ := Steps.initColdArgsNest (e := e) X.here hexec X.warmed hpl hown hy1 hy hlink hinst hcode (f := g) rfl hlen hstack hdg
  have X₁ := X.noted hW₁
  rcases hK g.method meth c ⟨T.setVm vm₁, locs, cells, slots⟩ { g with stack := rest } (.invokespecial index) mk (Value.ref a :: argsL).toArray X₁ rfl hsize hdg hW (X₁.named hnamed) (hpre vm₁ X₁.warmed) with ⟨v, B, X', hpost, hsteps⟩ | ⟨q, B, X', hpost, hsteps⟩
  · exact Or.inl ⟨v, vm₁, B, X₁.warmed, X', hpost, fun target h => hstep₁ _ fun acts => by rw [doInvoke_state]; exact hsteps.trans h⟩
  · exact Or.inr ⟨q, vm₁, B, X₁.warmed, X', hpost, hstep₁ _ fun acts => by rw [doInvoke_state]; exact hsteps⟩
end VXIC
section VXID
variable {p : Program} {l : Launch} {e : Env} {R : Room} {s : State} {m : MethodId} {args : Array Value} {below : List Frame} {meth : Method} {c : Code} {H : Heap} {locs : List Loc} {cells slots : Nat}
theorem vx_runIN {y : MethodName} {bytes cc : ByteArray} {maxL nL mc ms n index : Nat} {ws : List Cond} {rm : Room} {Pc : Array Value → State → Prop} {Qc : Array Value → State → Outcome → State → Prop} {XC : String → State → State → Prop} {free : Addr → Prop} {Ts : List Cond} {own host : String} {b : Addr} {As rest : List Value} {g : JFrame}
    (S : CallFix p m c cc nL s args Ts own) (hM : vx_Met l y ws rm Pc Qc XC mc ms free) (cw : va_CN R s args own index y host bytes maxL none ws rm mc ms n ∧ y.name = "<init>" ∧ (Cond.instanceMethod y).before args s = true) (hp : PreS s H Pc (.ref b :: As))
    (hg : g.method = m) (hn : As.length = n) (hsize : g.locals.size = nL) (hstack : g.stack = As.reverse ++ .ref b :: rest) (hW : 2 * g.monitorRoom + (rest.map fun v => v.category).sum ≤ 8) (hdg : decode cc g.pc = .ok (.invokespecial index, 3)) (hf : cells + mc ≤ R.cells ∧ slots + ms ≤ R.slots) :
    vx_Run p l e R s m args below meth c H locs cells slots mc ms g rest (Qc (Value.ref b :: As).toArray) XC free := by
  obtain ⟨⟨⟨hrc, hrs, hfr, hlo, hws, hcw⟩, hcode, hini, hy, hlen, hl⟩, hx1, hx2⟩ := cw
  have hK : vx_Back l R p e below s args y 3 8 (PreOf R mc ms Pc) (PostOf Qc mc ms free) (vx_Post XC mc ms free) := vx_back (bytes := bytes) (maxL := maxL) (ret := none) hM hp.1 hrc hrs hfr hlo hws hcw (fun a' U hW => word_at hW (Or.inl (by first | rfl | simp [Cond.onTables, Cond.keeps, Cond.steady])) hini)
  obtain ⟨hx, hb, hml, ho, -⟩ := S
  have hPc := hp.2
  intro T hT X
  rcases vx_callIN X hx (bytes := bytes) (maxL := maxL) ho hx1 hl hx2 hcode hy hK hg (hsize.trans hml.symm) (a := b) (argsL := As) (rest := rest) (fun sig h => hn.trans (hlen sig h)) hstack hW (by rw [hb]; exact hdg)
    (fun vm₁ hW₁ => ⟨hf.1, hf.2, hPc (T.setVm vm₁) hT hW₁⟩) with ⟨v, vm₁, ⟨U', l2, c2, s2⟩, hW₁, X', ⟨g', mk, t, L, e1, e2, hq, h1, hL, h2, h3⟩, st⟩ | ⟨q, vm₁, ⟨U', l2, c2, s2⟩, hW₁, X', ⟨g', mk, t, L, E, ce, e1, e2, hq, hce, hcv, hcl, h1, hL, h2, h3⟩, st⟩
  · dsimp only [Pt.U, Pt.locs, Pt.cells, Pt.slots] at X' e1 e2 h1 h2 h3 st
    subst h1; subst h2; subst h3
    exact Or.inl ⟨v, (T.setVm vm₁).calling g' mk (Value.ref b :: As).toArray, t, U', L, hT, X', hL, e1, e2, hq, st⟩
  · dsimp only [Pt.U, Pt.locs, Pt.cells, Pt.slots] at X' e1 e2 h1 h2 h3 st hcl
    subst h1; subst h2; subst h3
    exact Or.inr ⟨q, (T.setVm vm₁).calling g' mk (Value.ref b :: As).toArray, t, U', L, E, ce, hT, X', hL, e1, e2, hq, hce, hcv, vx_cls hW₁ hcl, st⟩
end VXID
/-! ===== END ===== -/
/-! ===== BEGIN a method of a class above, found by the receiver, that may throw (follows va_callVU, va_runU of this kit) ===== -/
section
variable {p : Program} {l : Launch} {e : Env} {R : Room} {s : State} {m : MethodId} {args : Array Value} {below : List Frame} {meth : Method} {c : Code} {H : Heap} {locs : List Loc} {cells slots : Nat}
theorem vx_callVU {T : State} {locs : List Loc} {cells slots : Nat} (X : Stand p l e R s m args below meth c T locs cells slots) (hexec : p.tables.exec = Jvm.exec) {own C owner : String} {index : Nat} {x y : MethodName} {bytes : ByteArray} {maxL : Nat} {ret : Option FieldType}
    (hown : s.vm.findClass own = some m.cls) (hlink : (Cond.methodLink own index x).before args s = true) (hsame : (Cond.sameMethod x.cls owner x.name x.desc).before args s = true)
    (hd0 : va_Decl s ⟨owner, x.name, x.desc⟩) (howner : owner ≠ "java/lang/invoke/MethodHandle" ∧ owner ≠ "java/lang/invoke/VarHandle")
    (hsel : (Cond.selects C x y).before args s = true) (hinst : (Cond.instanceMethod y).before args s = true) (hcode : (Cond.code y bytes maxL ret).before args s = true)
    {W : Nat} {Pre : Pt → Array Value → Prop} {Post : Pt → Array Value → Option Value → Pt → Prop} {PostX : Pt → Array Value → Addr → Pt → Prop} (hK : vx_Back l R p e below s args y 3 W Pre Post PostX)
    {b : Addr} {cellB : Cell} (hcell : T.heap[b]? = some cellB) (hobj : cellB.vm.isStatics = false) (hcls : s.vm.findClass C = some cellB.cls)
    {g : JFrame} (hg : g.method = m) (hsize : g.locals.size = c.maxLocals) {argsL rest : List Value} (hlen : ∀ sig, parseMethodDescriptor x.desc = some sig → argsL.length = sig.parameters.length)
    (hstack : g.stack = argsL.reverse ++ .ref b :: rest) (hW : 2 * g.monitorRoom + (rest.map fun v => v.category).sum ≤ W) (hdg : decode c.code g.pc = .ok (.invokevirtual index, 3))
    (hpre : ∀ vm₁, s.WarmedH vm₁ → Pre ⟨T.setVm vm₁, locs, cells, slots⟩ (Value.ref b :: argsL).toArray) :
    (∃ (v : Option Value) (vm₁ : Vm) (B : Pt), s.WarmedH vm₁ ∧ Stand p l e R s m args below meth c B.U B.locs B.cells B.slots ∧ Post ⟨T.setVm vm₁, locs, cells, slots⟩ (Value.ref b :: argsL).toArray v B ∧
      ∀ target, Steps p.tables e below (B.U.setTop { g with pc := g.pc + 3, stack := v.toList ++ rest }) target → Steps p.tables e below (T.setTop g) target) ∨
    (∃ (q : Addr) (vm₁ : Vm) (B : Pt), s.WarmedH vm₁ ∧ Stand p l e R s m args below meth c B.U B.locs B.cells B.slots ∧ PostX ⟨T.setVm vm₁, locs, cells, slots⟩ (Value.ref b :: argsL).toArray q B ∧
      Steps p.tables e below (T.setTop g) ((B.U.setTop { g with stack := rest }).pushFrame (.throwing q))) := by
  obtain ⟨r0, r, hn, hrm, hstR, hsigR⟩ := hd0
  obtain ⟨cn, ck, r1, hcn, hck, hni, hf, hn1⟩ := Cond.sameMethod_found hsame
  cases hn.symm.trans hn1
  obtain ⟨mk, methM, hnamed, hmethM, -, habM⟩ := Cond.instanceMethod_spec hinst
  obtain ⟨c2, r2, m2, q1, q2, q3, q4, kP, hkP, hkPi⟩ := Cond.selects_spec hsel
  cases hcls.symm.trans q1
  cases hf.symm.trans q2
  cases hnamed.symm.trans q3
  have hselP : selectMethod e.platform s.vm cellB.cls r0 = .method mk := by rw [Launch.admits_selectMethod X.admits]; exact q4
  obtain ⟨vm₁, X₁, hstep₁⟩ := X.invokevirtualUp hexec hown hlink hsame howner hn hrm hstR (a := b) (cell := cellB) hcell
    (fun z h => by rw [h] at hobj; cases hobj) hselP hmethM habM hkP hkPi (g := g) hg (argsL := argsL) (rest := rest) (hlen _ hsigR) hstack hdg
  rcases hK m meth c ⟨T.setVm vm₁, locs, cells, slots⟩ { g with stack := rest } (.invokevirtual index) mk (Value.ref b :: argsL).toArray X₁ hg hsize hdg hW (X₁.named hnamed) (hpre vm₁ X₁.warmed) with ⟨v, B, X', hpost, hsteps⟩ | ⟨q, B, X', hpost, hsteps⟩
  · exact Or.inl ⟨v, vm₁, B, X₁.warmed, X', hpost, fun target h => hstep₁ _ fun acts => by rw [doInvoke_state]; exact hsteps.trans h⟩
  · exact Or.inr ⟨q, vm₁, B, X₁.warmed, X', hpost, hstep₁ _ fun acts => by rw [doInvoke_state]; exact hsteps⟩
theorem vx_runU {x y : MethodName} {bytes cc : ByteArray} {maxL nL mc ms n index : Nat} {ret : Option FieldType} {ws : List Cond} {rm : Room} {Pc : Array Value → State → Prop} {Qc : Array Value → State → Outcome → State → Prop} {XC : String → State → State → Prop} {free : Addr → Prop} {Ts : List Cond} {own C owner : String} {b : Addr} {As rest : List Value} {g : JFrame}
    (S : CallFix p m c cc nL s args Ts own) (hM : vx_Met l y ws rm Pc Qc XC mc ms free) (cw : va_CU R s args own C owner index x y bytes maxL ret ws rm mc ms n) (hp : PreV s H C b Pc As)
    (hg : g.method = m) (hn : As.length = n) (hsize : g.locals.size = nL) (hstack : g.stack = As.reverse ++ .ref b :: rest) (hW : 2 * g.monitorRoom + (rest.map fun v => v.category).sum ≤ 8) (hdg : decode cc g.pc = .ok (.invokevirtual index, 3)) (hf : cells + mc ≤ R.cells ∧ slots + ms ≤ R.slots) :
    vx_Run p l e R s m args below meth c H locs cells slots mc ms g rest (Qc (Value.ref b :: As).toArray) XC free := by
  obtain ⟨hrc, hrs, hfr, hlo, hws, hcw⟩ := cw.back
  have hini := cw.init
  have hK : vx_Back l R p e below s args y 3 8 (PreOf R mc ms Pc) (PostOf Qc mc ms free) (vx_Post XC mc ms free) := vx_back (bytes := bytes) (maxL := maxL) (ret := ret) hM hp.1 hrc hrs hfr hlo hws hcw (fun a' U hW => word_at hW (Or.inl (by first | rfl | simp [Cond.onTables, Cond.keeps, Cond.steady])) hini)
  obtain ⟨hx, hb, hml, ho, -⟩ := S
  obtain ⟨-, ⟨cellB, hcB, hoB, hclB⟩, hPc⟩ := hp
  intro T hT X
  rcases vx_callVU X hx (C := C) (owner := owner) (bytes := bytes) (maxL := maxL) (ret := ret) ho cw.link cw.same cw.decl cw.notMH cw.sel cw.inst cw.code hK (by rw [hT]; exact hcB) hoB hclB hg (hsize.trans hml.symm) (argsL := As) (rest := rest) (fun sig h => hn.trans (cw.len sig h)) hstack hW (by rw [hb]; exact hdg)
    (fun vm₁ hW₁ => ⟨hf.1, hf.2, hPc (T.setVm vm₁) hT hW₁⟩) with ⟨v, vm₁, ⟨U', l2, c2, s2⟩, hW₁, X', ⟨g', mk, t, L, e1, e2, hq, h1, hL, h2, h3⟩, st⟩ | ⟨q, vm₁, ⟨U', l2, c2, s2⟩, hW₁, X', ⟨g', mk, t, L, E, ce, e1, e2, hq, hce, hcv, hcl, h1, hL, h2, h3⟩, st⟩
  · dsimp only [Pt.U, Pt.locs, Pt.cells, Pt.slots] at X' e1 e2 h1 h2 h3 st
    subst h1; subst h2; subst h3
    exact Or.inl ⟨v, (T.setVm vm₁).calling g' mk (Value.ref b :: As).toArray, t, U', L, hT, X', hL, e1, e2, hq, st⟩
  · dsimp only [Pt.U, Pt.locs, Pt.cells, Pt.slots] at X' e1 e2 h1 h2 h3 st hcl
    subst h1; subst h2; subst h3
    exact Or.inr ⟨q, (T.setVm vm₁).calling g' mk (Value.ref b :: As).toArray, t, U', L, E, ce, hT, X', hL, e1, e2, hq, hce, hcv, vx_cls hW₁ hcl, st⟩
end
/-! ===== END ===== -/
/-! ===== BEGIN super.m(..) that may throw (follows va_callSU, va_runSU) ===== -/
section
variable {p : Program} {l : Launch} {e : Env} {R : Room} {s : State} {m : MethodId} {args : Array Value} {below : List Frame} {meth : Method} {c : Code} {H : Heap} {locs : List Loc} {cells slots : Nat}
theorem vx_callSU {T : State} {locs : List Loc} {cells slots : Nat} (X : Stand p l e R s m args below meth c T locs cells slots) (hexec : p.tables.exec = Jvm.exec) {own : String} {index : Nat} {y : MethodName} {bytes : ByteArray} {maxL : Nat} {ret : Option FieldType}
    (hown : s.vm.findClass own = some m.cls) (hlink : (Cond.methodLink own index y).before args s = true) (hsame : (Cond.sameMethod y.cls y.cls y.name y.desc).before args s = true) (hsup : (Cond.superclass own y.cls).before args s = true)
    (hinst : (Cond.instanceMethod y).before args s = true) (hcode : (Cond.code y bytes maxL ret).before args s = true) (hno : y.name ≠ "<init>")
    {W : Nat} {Pre : Pt → Array Value → Prop} {Post : Pt → Array Value → Option Value → Pt → Prop} {PostX : Pt → Array Value → Addr → Pt → Prop} (hK : vx_Back l R p e below s args y 3 W Pre Post PostX)
    {b : Addr} {cellB : Cell} {kB : Class} (hcell : T.heap[b]? = some cellB) (hobj : cellB.vm.isStatics = false) (hkB : s.vm.classes[cellB.cls]? = some kB)
    {g : JFrame} (hg : g.method = m) (hsize : g.locals.size = c.maxLocals) {argsL rest : List Value} (hlen : ∀ sig, parseMethodDescriptor y.desc = some sig → argsL.length = sig.parameters.length)
    (hstack : g.stack = argsL.reverse ++ .ref b :: rest) (hW : 2 * g.monitorRoom + (rest.map fun v => v.category).sum ≤ W) (hdg : decode c.code g.pc = .ok (.invokespecial index, 3))
    (hpre : ∀ vm₁, s.WarmedH vm₁ → Pre ⟨T.setVm vm₁, locs, cells, slots⟩ (Value.ref b :: argsL).toArray) :
    (∃ (v : Option Value) (vm₁ : Vm) (B : Pt), s.WarmedH vm₁ ∧ Stand p l e R s m args below meth c B.U B.locs B.cells B.slots ∧ Post ⟨T.setVm vm₁, locs, cells, slots⟩ (Value.ref b :: argsL).toArray v B ∧
      ∀ target, Steps p.tables e below (B.U.setTop { g with pc := g.pc + 3, stack := v.toList ++ rest }) target → Steps p.tables e below (T.setTop g) target) ∨
    (∃ (q : Addr) (vm₁ : Vm) (B : Pt), s.WarmedH vm₁ ∧ Stand p l e R s m args below meth c B.U B.locs B.cells B.slots ∧ PostX ⟨T.setVm vm₁, locs, cells, slots⟩ (Value.ref b :: argsL).toArray q B ∧
      Steps p.tables e below (T.setTop g) ((B.U.setTop { g with stack := rest }).pushFrame (.throwing q))) := by
  obtain ⟨mk, methM, hnamed, hmethM, hstM, habM⟩ := Cond.instanceMethod_spec hinst
  obtain ⟨methM', cM, hmethM', -, -, -, -, -, -, hsigM⟩ := Cond.code_spec hnamed hcode
  cases hmethM.symm.trans hmethM'
  obtain ⟨ps, dk, kp, hps, hdk, hkp, hsuper, -, -, hnid⟩ := Cond.superclass_spec hown hsup
  have hn : s.methodNamed? ⟨y.cls, y.name, y.desc⟩ = some mk := hnamed
  have hpm : ps = mk.cls := Option.some.inj (hps.symm.trans (findClass_of_methodNamed hnamed))
  have hsub : s.vm.isSubclass ps mk.cls = true := by rw [hpm]; simp [Vm.isSubclass, Vm.isSubclassAux]
  obtain ⟨vm₁, X₁, hstep₁⟩ := X.invokespecialUp hexec hown hlink hsame hn hmethM hstM habM hno hdk hnid hps hsuper hsub (a := b) (cell := cellB) hcell
    (fun z h => by rw [h] at hobj; cases hobj) hkB (g := g) hg (argsL := argsL) (rest := rest) (hlen _ hsigM) hstack hdg
  rcases hK m meth c ⟨T.setVm vm₁, locs, cells, slots⟩ { g with stack := rest } (.invokespecial index) mk (Value.ref b :: argsL).toArray X₁ hg hsize hdg hW (X₁.named hnamed) (hpre vm₁ X₁.warmed) with ⟨v, B, X', hpost, hsteps⟩ | ⟨q, B, X', hpost, hsteps⟩
  · exact Or.inl ⟨v, vm₁, B, X₁.warmed, X', hpost, fun target h => hstep₁ _ (by rw [doInvoke_state]; exact hsteps.trans h)⟩
  · exact Or.inr ⟨q, vm₁, B, X₁.warmed, X', hpost, hstep₁ _ (by rw [doInvoke_state]; exact hsteps)⟩
theorem vx_runSU {y : MethodName} {bytes cc : ByteArray} {maxL nL mc ms n index : Nat} {ret : Option FieldType} {ws : List Cond} {rm : Room} {Pc : Array Value → State → Prop} {Qc : Array Value → State → Outcome → State → Prop} {XC : String → State → State → Prop} {free : Addr → Prop} {Ts : List Cond} {own C : String} {cC : ClassId} {b : Addr} {As rest : List Value} {g : JFrame}
    (hat : ClassAt s C cC) (S : CallFix p m c cc nL s args Ts own) (hM : vx_Met l y ws rm Pc Qc XC mc ms free) (cw : va_CS R s args own index y bytes maxL ret ws rm mc ms n) (hp : PreV s H C b Pc As)
    (hg : g.method = m) (hn : As.length = n) (hsize : g.locals.size = nL) (hstack : g.stack = As.reverse ++ .ref b :: rest) (hW : 2 * g.monitorRoom + (rest.map fun v => v.category).sum ≤ 8) (hdg : decode cc g.pc = .ok (.invokespecial index, 3)) (hf : cells + mc ≤ R.cells ∧ slots + ms ≤ R.slots) :
    vx_Run p l e R s m args below meth c H locs cells slots mc ms g rest (Qc (Value.ref b :: As).toArray) XC free := by
  obtain ⟨⟨hrc, hrs, hfr, hlo, hws, hcw⟩, hl1, hl2, hl3, hl4, hini, hcode, hno, hlen⟩ := cw
  have hK : vx_Back l R p e below s args y 3 8 (PreOf R mc ms Pc) (PostOf Qc mc ms free) (vx_Post XC mc ms free) := vx_back (bytes := bytes) (maxL := maxL) (ret := ret) hM hp.1 hrc hrs hfr hlo hws hcw (fun a' U hW => word_at hW (Or.inl (by first | rfl | simp [Cond.onTables, Cond.keeps, Cond.steady])) hini)
  obtain ⟨hx, hb, hml, ho, -⟩ := S
  obtain ⟨-, ⟨cellB, hcB, hoB, hclB⟩, hPc⟩ := hp
  obtain ⟨hfc, kB, hkB, -⟩ := hat
  cases hfc.symm.trans hclB
  intro T hT X
  rcases vx_callSU X hx (bytes := bytes) (maxL := maxL) (ret := ret) ho hl1 hl2 hl3 hl4 hcode hno hK (by rw [hT]; exact hcB) hoB hkB hg (hsize.trans hml.symm) (argsL := As) (rest := rest) (fun sig h => hn.trans (hlen sig h)) hstack hW (by rw [hb]; exact hdg)
    (fun vm₁ hW₁ => ⟨hf.1, hf.2, hPc (T.setVm vm₁) hT hW₁⟩) with ⟨v, vm₁, ⟨U', l2, c2, s2⟩, hW₁, X', ⟨g', mk, t, L, e1, e2, hq, h1, hL, h2, h3⟩, st⟩ | ⟨q, vm₁, ⟨U', l2, c2, s2⟩, hW₁, X', ⟨g', mk, t, L, E, ce, e1, e2, hq, hce, hcv, hcl, h1, hL, h2, h3⟩, st⟩
  · dsimp only [Pt.U, Pt.locs, Pt.cells, Pt.slots] at X' e1 e2 h1 h2 h3 st
    subst h1; subst h2; subst h3
    exact Or.inl ⟨v, (T.setVm vm₁).calling g' mk (Value.ref b :: As).toArray, t, U', L, hT, X', hL, e1, e2, hq, st⟩
  · dsimp only [Pt.U, Pt.locs, Pt.cells, Pt.slots] at X' e1 e2 h1 h2 h3 st hcl
    subst h1; subst h2; subst h3
    exact Or.inr ⟨q, (T.setVm vm₁).calling g' mk (Value.ref b :: As).toArray, t, U', L, E, ce, hT, X', hL, e1, e2, hq, hce, hcv, vx_cls hW₁ hcl, st⟩
end
/-! ===== END ===== -/
/-! ===== BEGIN a private method of a nest mate that may throw (follows va_callVN, va_callSN, va_runVN, va_runSN) ===== -/
section
variable {p : Program} {l : Launch} {e : Env} {R : Room} {s : State} {m : MethodId} {args : Array Value} {below : List Frame} {meth : Method} {c : Code} {H : Heap} {locs : List Loc} {cells slots : Nat}
variable {T : State}
theorem vx_callVN (X : Stand p l e R s m args below meth c T locs cells slots) (hexec : p.tables.exec = Jvm.exec) {own C : String} {index : Nat} {host : String} {y : MethodName} {bytes : ByteArray} {maxL : Nat} {ret : Option FieldType}
    (hown : s.vm.findClass own = some m.cls) (hlink : (Cond.methodLinkNest own index y host).before args s = true) (hinst : (Cond.instanceMethod y).before args s = true) (hsel : (Cond.selects C y y).before args s = true)
    (hcode : (Cond.code y bytes maxL ret).before args s = true) (hy : y.cls ≠ "java/lang/invoke/MethodHandle" ∧ y.cls ≠ "java/lang/invoke/VarHandle")
    {W : Nat} {Pre : Pt → Array Value → Prop} {Post : Pt → Array Value → Option Value → Pt → Prop} {PostX : Pt → Array Value → Addr → Pt → Prop} (hK : vx_Back l R p e below s args y 3 W Pre Post PostX)
    {b : Addr} {cellB : Cell} (hcell : T.heap[b]? = some cellB) (hobj : cellB.vm.isStatics = false) (hcls : s.vm.findClass C = some cellB.cls)
    {g : JFrame} (hg : g.method = m) (hsize : g.locals.size = c.maxLocals) {argsL rest : List Value} (hlen : ∀ sig, parseMethodDescriptor y.desc = some sig → argsL.length = sig.parameters.length)
    (hstack : g.stack = argsL.reverse ++ .ref b :: rest) (hW : 2 * g.monitorRoom + (rest.map fun v => v.category).sum ≤ W) (hdg : decode c.code g.pc = .ok (.invokevirtual index, 3))
    (hpre : ∀ vm₁, s.WarmedH vm₁ → Pre ⟨T.setVm vm₁, locs, cells, slots⟩ (Value.ref b :: argsL).toArray) :
    (∃ (v : Option Value) (vm₁ : Vm) (B : Pt), s.WarmedH vm₁ ∧ Stand p l e R s m args below meth c B.U B.locs B.cells B.slots ∧ Post ⟨T.setVm vm₁, locs, cells, slots⟩ (Value.ref b :: argsL).toArray v B ∧
      ∀ target, Steps p.tables e below (B.U.setTop { g with pc := g.pc + 3, stack := v.toList ++ rest }) target → Steps p.tables e below (T.setTop g) target) ∨
    (∃ (q : Addr) (vm₁ : Vm) (B : Pt), s.WarmedH vm₁ ∧ Stand p l e R s m args below meth c B.U B.locs B.cells B.slots ∧ PostX ⟨T.setVm vm₁, locs, cells, slots⟩ (Value.ref b :: argsL).toArray q B ∧
      Steps p.tables e below (T.setTop g) ((B.U.setTop { g with stack := rest }).pushFrame (.throwing q))) := by
  obtain ⟨mk, methM, hnamed, hmethM, hstM, habM⟩ := Cond.instanceMethod_spec hinst
  obtain ⟨methM', cM, hmethM', -, -, -, -, -, -, hsigM⟩ := Cond.code_spec hnamed hcode
  cases hmethM.symm.trans hmethM'
  obtain ⟨c2, r2, m2, q1, q2, q3, q4, kP, hkP, hkPi⟩ := Cond.selects_spec hsel
  cases hcls.symm.trans q1
  cases (State.methodFound?_of_named hnamed hy).symm.trans q2
  cases hnamed.symm.trans q3
  have hselP : selectMethod e.platform s.vm cellB.cls mk = .method mk := by rw [Launch.admits_selectMethod X.admits]; exact q4
  obtain ⟨vm₁, X₁, hstep₁⟩ := X.invokevirtualNest hexec hown hlink hnamed hmethM hstM hkP hkPi hy (a := b) (cell := cellB) hcell
    (fun z h => by rw [h] at hobj; cases hobj) hselP hmethM habM hkP hkPi (g := g) hg (argsL := argsL) (rest := rest) (hlen _ hsigM) hstack hdg
  rcases hK m meth c ⟨T.setVm vm₁, locs, cells, slots⟩ { g with stack := rest } (.invokevirtual index) mk (Value.ref b :: argsL).toArray X₁ hg hsize hdg hW (X₁.named hnamed) (hpre vm₁ X₁.warmed) with ⟨v, B, X', hpost, hsteps⟩ | ⟨q, B, X', hpost, hsteps⟩
  · exact Or.inl ⟨v, vm₁, B, X₁.warmed, X', hpost, fun target h => hstep₁ _ fun acts => by rw [doInvoke_state]; exact hsteps.trans h⟩
  · exact Or.inr ⟨q, vm₁, B, X₁.warmed, X', hpost, hstep₁ _ fun acts => by rw [doInvoke_state]; exact hsteps⟩
theorem vx_callSN (X : Stand p l e R s m args below meth c T locs cells slots) (hexec : p.tables.exec = Jvm.exec) {own : String} {index : Nat} {host : String} {y : MethodName} {bytes : ByteArray} {maxL : Nat} {ret : Option FieldType}
    (hown : s.vm.findClass own = some m.cls) (hlink : (Cond.methodLinkNest own index y host).before args s = true) (hstat : (Cond.static y).before args s = true) (hinit : (Cond.initialized y.cls).before args s = true)
    (hcode : (Cond.code y bytes maxL ret).before args s = true) (hy : y.cls ≠ "java/lang/invoke/MethodHandle" ∧ y.cls ≠ "java/lang/invoke/VarHandle")
    {W : Nat} {Pre : Pt → Array Value → Prop} {Post : Pt → Array Value → Option Value → Pt → Prop} {PostX : Pt → Array Value → Addr → Pt → Prop} (hK : vx_Back l R p e below s args y 3 W Pre Post PostX)
    {g : JFrame} (hg : g.method = m) (hsize : g.locals.size = c.maxLocals) {argsL rest : List Value} (hlen : ∀ sig, parseMethodDescriptor y.desc = some sig → argsL.length = sig.parameters.length)
    (hstack : g.stack = argsL.reverse ++ rest) (hW : 2 * g.monitorRoom + (rest.map fun v => v.category).sum ≤ W) (hdg : decode c.code g.pc = .ok (.invokestatic index, 3))
    (hpre : ∀ vm₁, s.WarmedH vm₁ → Pre ⟨T.setVm vm₁, locs, cells, slots⟩ argsL.toArray) :
    (∃ (v : Option Value) (vm₁ : Vm) (B : Pt), s.WarmedH vm₁ ∧ Stand p l e R s m args below meth c B.U B.locs B.cells B.slots ∧ Post ⟨T.setVm vm₁, locs, cells, slots⟩ argsL.toArray v B ∧
      ∀ target, Steps p.tables e below (B.U.setTop { g with pc := g.pc + 3, stack := v.toList ++ rest }) target → Steps p.tables e below (T.setTop g) target) ∨
    (∃ (q : Addr) (vm₁ : Vm) (B : Pt), s.WarmedH vm₁ ∧ Stand p l e R s m args below meth c B.U B.locs B.cells B.slots ∧ PostX ⟨T.setVm vm₁, locs, cells, slots⟩ argsL.toArray q B ∧
      Steps p.tables e below (T.setTop g) ((B.U.setTop { g with stack := rest }).pushFrame (.throwing q))) := by
  obtain ⟨mk, hnamed⟩ := Cond.code_named hcode
  obtain ⟨methM, cM, hmethM, -, -, -, -, -, -, hsigM⟩ := Cond.code_spec hnamed hcode
  have hstatic : methM.isStatic = true := Cond.static_spec hnamed hmethM hstat
  obtain ⟨kP, hkP, -⟩ := className_of_methodNamed hnamed
  have hinitP : kP.init = .initialized := Cond.initialized_spec (findClass_of_methodNamed hnamed) hkP hinit
  obtain ⟨vm₁, X₁, hstep₁⟩ := X.invokestaticNest hexec hown hlink hnamed hmethM hstatic hkP hinitP hy (g := g) hg (argsL := argsL) (rest := rest) (hlen _ hsigM) hstack hdg
  rcases hK m meth c ⟨T.setVm vm₁, locs, cells, slots⟩ { g with stack := rest } (.invokestatic index) mk argsL.toArray X₁ hg hsize hdg hW (X₁.named hnamed) (hpre vm₁ X₁.warmed) with ⟨v, B, X', hpost, hsteps⟩ | ⟨q, B, X', hpost, hsteps⟩
  · exact Or.inl ⟨v, vm₁, B, X₁.warmed, X', hpost, fun target h => hstep₁ _ fun acts => by rw [doInvoke_state]; exact hsteps.trans h⟩
  · exact Or.inr ⟨q, vm₁, B, X₁.warmed, X', hpost, hstep₁ _ fun acts => by rw [doInvoke_state]; exact hsteps⟩
theorem vx_runVN {y : MethodName} {bytes cc : ByteArray} {maxL nL mc ms n index : Nat} {ret : Option FieldType} {ws : List Cond} {rm : Room} {Pc : Array Value → State → Prop} {Qc : Array Value → State → Outcome → State → Prop} {XC : String → State → State → Prop} {free : Addr → Prop} {Ts : List Cond} {own C host : String} {b : Addr} {As rest : List Value} {g : JFrame}
    (S : CallFix p m c cc nL s args Ts own) (hM : vx_Met l y ws rm Pc Qc XC mc ms free) (cw : va_CN R s args own index y host bytes maxL ret ws rm mc ms n ∧ (Cond.instanceMethod y).before args s = true ∧ (Cond.selects C y y).before args s = true) (hp : PreV s H C b Pc As)
    (hg : g.method = m) (hn : As.length = n) (hsize : g.locals.size = nL) (hstack : g.stack = As.reverse ++ .ref b :: rest) (hW : 2 * g.monitorRoom + (rest.map fun v => v.category).sum ≤ 8) (hdg : decode cc g.pc = .ok (.invokevirtual index, 3)) (hf : cells + mc ≤ R.cells ∧ slots + ms ≤ R.slots) :
    vx_Run p l e R s m args below meth c H locs cells slots mc ms g rest (Qc (Value.ref b :: As).toArray) XC free := by
  obtain ⟨⟨⟨hrc, hrs, hfr, hlo, hws, hcw⟩, hcode, hini, hy, hlen, hl⟩, hx1, hx2⟩ := cw
  have hK : vx_Back l R p e below s args y 3 8 (PreOf R mc ms Pc) (PostOf Qc mc ms free) (vx_Post XC mc ms free) := vx_back (bytes := bytes) (maxL := maxL) (ret := ret) hM hp.1 hrc hrs hfr hlo hws hcw (fun a' U hW => word_at hW (Or.inl (by first | rfl | simp [Cond.onTables, Cond.keeps, Cond.steady])) hini)
  obtain ⟨hx, hb, hml, ho, -⟩ := S
  obtain ⟨-, ⟨cellB, hcB, hoB, hclB⟩, hPc⟩ := hp
  intro T hT X
  rcases vx_callVN X hx (C := C) (bytes := bytes) (maxL := maxL) (ret := ret) ho hl hx1 hx2 hcode hy hK (by rw [hT]; exact hcB) hoB hclB hg (hsize.trans hml.symm) (argsL := As) (rest := rest) (fun sig h => hn.trans (hlen sig h)) hstack hW (by rw [hb]; exact hdg)
    (fun vm₁ hW₁ => ⟨hf.1, hf.2, hPc (T.setVm vm₁) hT hW₁⟩) with ⟨v, vm₁, ⟨U', l2, c2, s2⟩, hW₁, X', ⟨g', mk, t, L, e1, e2, hq, h1, hL, h2, h3⟩, st⟩ | ⟨q, vm₁, ⟨U', l2, c2, s2⟩, hW₁, X', ⟨g', mk, t, L, E, ce, e1, e2, hq, hce, hcv, hcl, h1, hL, h2, h3⟩, st⟩
  · dsimp only [Pt.U, Pt.locs, Pt.cells, Pt.slots] at X' e1 e2 h1 h2 h3 st
    subst h1; subst h2; subst h3
    exact Or.inl ⟨v, (T.setVm vm₁).calling g' mk (Value.ref b :: As).toArray, t, U', L, hT, X', hL, e1, e2, hq, st⟩
  · dsimp only [Pt.U, Pt.locs, Pt.cells, Pt.slots] at X' e1 e2 h1 h2 h3 st hcl
    subst h1; subst h2; subst h3
    exact Or.inr ⟨q, (T.setVm vm₁).calling g' mk (Value.ref b :: As).toArray, t, U', L, E, ce, hT, X', hL, e1, e2, hq, hce, hcv, vx_cls hW₁ hcl, st⟩
theorem vx_runSN {y : MethodName} {bytes cc : ByteArray} {maxL nL mc ms n index : Nat} {ret : Option FieldType} {ws : List Cond} {rm : Room} {Pc : Array Value → State → Prop} {Qc : Array Value → State → Outcome → State → Prop} {XC : String → State → State → Prop} {free : Addr → Prop} {Ts : List Cond} {own host : String} {As rest : List Value} {g : JFrame}
    (S : CallFix p m c cc nL s args Ts own) (hM : vx_Met l y ws rm Pc Qc XC mc ms free) (cw : va_CN R s args own index y host bytes maxL ret ws rm mc ms n ∧ (Cond.static y).before args s = true ∧ True) (hp : PreS s H Pc As)
    (hg : g.method = m) (hn : As.length = n) (hsize : g.locals.size = nL) (hstack : g.stack = As.reverse ++ rest) (hW : 2 * g.monitorRoom + (rest.map fun v => v.category).sum ≤ 8) (hdg : decode cc g.pc = .ok (.invokestatic index, 3)) (hf : cells + mc ≤ R.cells ∧ slots + ms ≤ R.slots) :
    vx_Run p l e R s m args below meth c H locs cells slots mc ms g rest (Qc As.toArray) XC free := by
  obtain ⟨⟨⟨hrc, hrs, hfr, hlo, hws, hcw⟩, hcode, hini, hy, hlen, hl⟩, hx1, hx2⟩ := cw
  have hK : vx_Back l R p e below s args y 3 8 (PreOf R mc ms Pc) (PostOf Qc mc ms free) (vx_Post XC mc ms free) := vx_back (bytes := bytes) (maxL := maxL) (ret := ret) hM hp.1 hrc hrs hfr hlo hws hcw (fun a' U hW => word_at hW (Or.inl (by first | rfl | simp [Cond.onTables, Cond.keeps, Cond.steady])) hini)
  obtain ⟨hx, hb, hml, ho, -⟩ := S
  have hPc := hp.2
  intro T hT X
  rcases vx_callSN X hx (bytes := bytes) (maxL := maxL) (ret := ret) ho hl hx1 hini hcode hy hK hg (hsize.trans hml.symm) (argsL := As) (rest := rest) (fun sig h => hn.trans (hlen sig h)) hstack hW (by rw [hb]; exact hdg)
    (fun vm₁ hW₁ => ⟨hf.1, hf.2, hPc (T.setVm vm₁) hT hW₁⟩) with ⟨v, vm₁, ⟨U', l2, c2, s2⟩, hW₁, X', ⟨g', mk, t, L, e1, e2, hq, h1, hL, h2, h3⟩, st⟩ | ⟨q, vm₁, ⟨U', l2, c2, s2⟩, hW₁, X', ⟨g', mk, t, L, E, ce, e1, e2, hq, hce, hcv, hcl, h1, hL, h2, h3⟩, st⟩
  · dsimp only [Pt.U, Pt.locs, Pt.cells, Pt.slots] at X' e1 e2 h1 h2 h3 st
    subst h1; subst h2; subst h3
    exact Or.inl ⟨v, (T.setVm vm₁).calling g' mk As.toArray, t, U', L, hT, X', hL, e1, e2, hq, st⟩
  · dsimp only [Pt.U, Pt.locs, Pt.cells, Pt.slots] at X' e1 e2 h1 h2 h3 st hcl
    subst h1; subst h2; subst h3
    exact Or.inr ⟨q, (T.setVm vm₁).calling g' mk As.toArray, t, U', L, E, ce, hT, X', hL, e1, e2, hq, hce, hcv, vx_cls hW₁ hcl, st⟩
end
/-! ===== END ===== -/
/-! ===== BEGIN calls by an interface of methods that may throw (vx_callIF, vx_runF follow va_callIF, va_runF of this kit) ===== -/
section
variable {p : Program} {l : Launch} {e : Env} {R : Room} {s : State} {m : MethodId} {args : Array Value} {below : List Frame} {meth : Method} {c : Code} {H : Heap} {locs : List Loc} {cells slots : Nat} {Q : State → Prop}
variable {mc ms : Nat} {free : Addr → Prop} {A0 A1 : Nat → Prop} {H0 : Heap} {a : Array Value} {pc : Nat} {ls : Array Slot} {st0 rest : List Value}
def vx_Run5 (p : Program) (l : Launch) (e : Env) (R : Room) (s : State) (m : MethodId) (args : Array Value) (below : List Frame) (meth : Method) (c : Code) (H : Heap) (locs : List Loc) (cells slots mc ms : Nat) (g : JFrame) (rest : List Value) (Qa : State → Outcome → State → Prop) (XC : String → State → State → Prop) (free : Addr → Prop) : Prop :=
  ∀ T : State, T.heap = H → Stand p l e R s m args below meth c T locs cells slots →
    (∃ (v : Option Value) (st₀ t T' : State) (L : List Loc), st₀.heap = H ∧ Stand p l e R s m args below meth c T' (locs ++ L) (cells + mc) (slots + ms) ∧ (∀ q ∈ L, free q.base) ∧ T'.heap = t.heap ∧ T'.vm = t.vm ∧ Qa st₀ (.returned v) t ∧
      Goes p e below T g T' { g with pc := g.pc + 5, stack := v.toList ++ rest }) ∨
    (∃ (q : Addr) (st₀ t T' : State) (L : List Loc) (E : String) (ce : Cell), st₀.heap = H ∧ Stand p l e R s m args below meth c T' (locs ++ L) (cells + mc) (slots + ms) ∧ (∀ z ∈ L, free z.base) ∧ T'.heap = t.heap ∧ T'.vm = t.vm ∧ XC E st₀ t ∧ t.heap[q]? = some ce ∧ ce.vm = .none ∧ s.vm.findClass E = some ce.cls ∧
      Steps p.tables e below (T.setTop g) ((T'.setTop { g with stack := rest }).pushFrame (.throwing q)))
theorem vx_callIF {T : State} (X : Stand p l e R s m args below meth c T locs cells slots) (hexec : p.tables.exec = Jvm.exec) {own C : String} {index count : Nat} {x y : MethodName} {bytes : ByteArray} {maxL : Nat} {ret : Option FieldType}
    (hown : s.vm.findClass own = some m.cls) (hlink : (Cond.methodLink own index x).before args s = true) (hdecl : (Cond.declares x).before args s = true) (hface : (Cond.interfaceMethod x.cls x.cls x.name x.desc).before args s = true)
    (hsel : (Cond.selects C x y).before args s = true) (hinst : (Cond.instanceMethod y).before args s = true) (hpub : (Cond.publicMethod y).before args s = true) (hunh : (Cond.unhidden C x.name x.desc).before args s = true)
    (hcast : (Cond.castable C x.cls).before args s = true) (hcode : (Cond.code y bytes maxL ret).before args s = true) (hx : x.cls ≠ "java/lang/invoke/MethodHandle" ∧ x.cls ≠ "java/lang/invoke/VarHandle")
    {W9 : Nat} {Pre : Pt → Array Value → Prop} {Post : Pt → Array Value → Option Value → Pt → Prop} {PostX : Pt → Array Value → Addr → Pt → Prop} (hK : vx_Back l R p e below s args y 5 W9 Pre Post PostX)
    {b : Addr} {cellB : Cell} {kB : Class} (hcell : T.heap[b]? = some cellB) (hobj : cellB.vm.isStatics = false) (hcls : s.vm.findClass C = some cellB.cls) (hkB : s.vm.classes[cellB.cls]? = some kB)
    {g : JFrame} (hg : g.method = m) (hsize : g.locals.size = c.maxLocals) {argsL rest : List Value} (hlen : ∀ sig, parseMethodDescriptor x.desc = some sig → argsL.length = sig.parameters.length)
    (hstack : g.stack = argsL.reverse ++ .ref b :: rest) (hW : 2 * g.monitorRoom + (rest.map fun v => v.category).sum ≤ W9) (hdg : decode c.code g.pc = .ok (.invokeinterface index count, 5))
    (hpre : ∀ vm₁, s.WarmedH vm₁ → Pre ⟨T.setVm vm₁, locs, cells, slots⟩ (Value.ref b :: argsL).toArray) :
    (∃ (v : Option Value) (vm₁ : Vm) (B : Pt), s.WarmedH vm₁ ∧ Stand p l e R s m args below meth c B.U B.locs B.cells B.slots ∧ Post ⟨T.setVm vm₁, locs, cells, slots⟩ (Value.ref b :: argsL).toArray v B ∧
      ∀ target, Steps p.tables e below (B.U.setTop { g with pc := g.pc + 5, stack := v.toList ++ rest }) target → Steps p.tables e below (T.setTop g) target) ∨
    (∃ (q : Addr) (vm₁ : Vm) (B : Pt), s.WarmedH vm₁ ∧ Stand p l e R s m args below meth c B.U B.locs B.cells B.slots ∧ PostX ⟨T.setVm vm₁, locs, cells, slots⟩ (Value.ref b :: argsL).toArray q B ∧
      Steps p.tables e below (T.setTop g) ((B.U.setTop { g with stack := rest }).pushFrame (.throwing q))) := by
  obtain ⟨r0, r, hn, hrm, hstR, hsigR⟩ := Cond.declares_spec hdecl
  obtain ⟨cL, kL, r1, hcL, hkL, hiL, hfoundL, hn1⟩ := Cond.interfaceMethod_spec hface
  cases hn.symm.trans hn1
  have hr0cls : r0.cls = cL := Option.some.inj ((findClass_of_methodNamed hn).symm.trans hcL)
  obtain ⟨hnameR, hdescR⟩ := name_of_methodNamed hn hrm
  obtain ⟨mk, methM, hnamed, hmethM, -, habM⟩ := Cond.instanceMethod_spec hinst
  obtain ⟨c2, r2, m2, q1, q2, q3, q4, -⟩ := Cond.selects_spec hsel
  cases hcls.symm.trans q1
  cases hfoundL.symm.trans q2
  cases hnamed.symm.trans q3
  have hselP : selectMethod e.platform s.vm cellB.cls r0 = .method mk := by rw [Launch.admits_selectMethod X.admits]; exact q4
  have hpubM : hasFlag methM.accessFlags Acc.public_ = true := Cond.publicMethod_spec hnamed hmethM hpub
  have hway : ((cellB.cls :: s.vm.superclasses cellB.cls).any fun k => (declaredIn s.vm r.name r.desc k).any fun (_, z) => z.isPrivate || z.isStatic) = false := by
    rw [hnameR, hdescR]; exact Cond.unhidden_spec hcls hunh
  obtain ⟨c3, t3, w1, w2, w3⟩ := Cond.castable_spec hcast
  cases hcls.symm.trans w1
  cases hcL.symm.trans w2
  obtain ⟨vm₁, X₁, hstep₁⟩ := X.invokeinterface hexec hown hlink hn hrm hstR (by rw [hr0cls]; exact hkL) hiL hx (a := b) (cell := cellB) (kcell := kB) hcell
    (fun z h => by rw [h] at hobj; cases hobj) hkB (by rw [hr0cls]; exact w3) hselP hmethM hway hpubM habM (g := g) hg (argsL := argsL) (rest := rest) (hlen _ hsigR) hstack hdg
  rcases hK m meth c ⟨T.setVm vm₁, locs, cells, slots⟩ { g with stack := rest } (.invokeinterface index count) mk (Value.ref b :: argsL).toArray X₁ hg hsize hdg hW (X₁.named hnamed) (hpre vm₁ X₁.warmed) with ⟨v, B, X', hpost, hsteps⟩ | ⟨q, B, X', hpost, hsteps⟩
  · exact Or.inl ⟨v, vm₁, B, X₁.warmed, X', hpost, fun target h => hstep₁ _ fun acts => by rw [doInvoke_state]; exact hsteps.trans h⟩
  · exact Or.inr ⟨q, vm₁, B, X₁.warmed, X', hpost, hstep₁ _ fun acts => by rw [doInvoke_state]; exact hsteps⟩
theorem vx_runF {x y : MethodName} {bytes cc : ByteArray} {maxL nL mc ms n index count : Nat} {ret : Option FieldType} {ws : List Cond} {rm : Room} {Pc : Array Value → State → Prop} {Qc : Array Value → State → Outcome → State → Prop} {XC : String → State → State → Prop} {free : Addr → Prop} {Ts : List Cond} {own C : String} {cC : ClassId} {b : Addr} {As rest : List Value} {g : JFrame}
    (hat : ClassAt s C cC) (S : CallFix p m c cc nL s args Ts own) (hM : vx_Met l y ws rm Pc Qc XC mc ms free) (cw : va_CI R s args own C index x y bytes maxL ret ws rm mc ms n) (hp : PreV s H C b Pc As)
    (hg : g.method = m) (hn : As.length = n) (hsize : g.locals.size = nL) (hstack : g.stack = As.reverse ++ .ref b :: rest) (hW : 2 * g.monitorRoom + (rest.map fun v => v.category).sum ≤ 8) (hdg : decode cc g.pc = .ok (.invokeinterface index count, 5)) (hf : cells + mc ≤ R.cells ∧ slots + ms ≤ R.slots) :
    vx_Run5 p l e R s m args below meth c H locs cells slots mc ms g rest (Qc (Value.ref b :: As).toArray) XC free := by
  obtain ⟨hrc, hrs, hfr, hlo, hws, hcw⟩ := cw.back
  have hini := cw.init
  have hK : vx_Back l R p e below s args y 5 8 (PreOf R mc ms Pc) (PostOf Qc mc ms free) (vx_Post XC mc ms free) := vx_back (bytes := bytes) (maxL := maxL) (ret := ret) hM hp.1 hrc hrs hfr hlo hws hcw (fun a' U hW => word_at hW (Or.inl (by first | rfl | simp [Cond.onTables, Cond.keeps, Cond.steady])) hini)
  obtain ⟨hx, hb, hml, ho, -⟩ := S
  obtain ⟨-, ⟨cellB, hcB, hoB, hclB⟩, hPc⟩ := hp
  obtain ⟨hfc, kB, hkB, -⟩ := hat
  cases hfc.symm.trans hclB
  intro T hT X
  rcases vx_callIF X hx (C := C) (bytes := bytes) (maxL := maxL) (ret := ret) ho cw.link cw.decl cw.face cw.sel cw.inst cw.pub cw.unh cw.cast cw.code cw.notMH hK (by rw [hT]; exact hcB) hoB hclB hkB hg (hsize.trans hml.symm) (argsL := As) (rest := rest) (fun sig h => hn.trans (cw.len sig h)) hstack hW (by rw [hb]; exact hdg)
    (fun vm₁ hW₁ => ⟨hf.1, hf.2, hPc (T.setVm vm₁) hT hW₁⟩) with ⟨v, vm₁, ⟨U', l2, c2, s2⟩, hW₁, X', ⟨g', mk, t, L, e1, e2, hq, h1, hL, h2, h3⟩, st⟩ | ⟨q, vm₁, ⟨U', l2, c2, s2⟩, hW₁, X', ⟨g', mk, t, L, E, ce, e1, e2, hq, hce, hcv, hcl, h1, hL, h2, h3⟩, st⟩
  · dsimp only [Pt.U, Pt.locs, Pt.cells, Pt.slots] at X' e1 e2 h1 h2 h3 st
    subst h1; subst h2; subst h3
    exact Or.inl ⟨v, (T.setVm vm₁).calling g' mk (Value.ref b :: As).toArray, t, U', L, hT, X', hL, e1, e2, hq, st⟩
  · dsimp only [Pt.U, Pt.locs, Pt.cells, Pt.slots] at X' e1 e2 h1 h2 h3 st hcl
    subst h1; subst h2; subst h3
    exact Or.inr ⟨q, (T.setVm vm₁).calling g' mk (Value.ref b :: As).toArray, t, U', L, E, ce, hT, X', hL, e1, e2, hq, hce, hcv, vx_cls hW₁ hcl, st⟩
theorem vx_callFv {S SX : Type} {post : S → Prop} {px : SX → Prop} {B : S → State → Prop} {BX : String → SX → State → Prop} {AX : Nat → Prop} (hr : vx_Run5 p l e R s m args below meth c H locs cells slots mc ms (F0 m pc ls st0) rest (va_Qv post B A1 a) (vx_X px BX AX) free) (hS : va_S A0 H0 H locs) (hA : ∀ q, q < H.size → A1 q → A0 q) (hf : ∀ q, free q → A0 q) (hAX : ∀ q, q < H.size → AX q → A0 q)
    (kx : ∀ (E : String) (ce : Cell) (q9 : Addr) (u : SX) (t : State) (H1 : Heap) (locs1 : List Loc), t.heap = H1 → s.vm.Alike t.vm → px u → BX E u t → H.size ≤ H1.size → (∀ q : Nat, q < H.size → ¬ AX q → H1[q]? = H[q]?) → va_S A0 H0 H1 locs1 → H1[q9]? = some ce → ce.vm = .none → s.vm.findClass E = some ce.cls → vx_W p l e R s m args below meth c H1 locs1 (cells + mc) (slots + ms) Q (F0 m pc ls rest) q9)
    (kk : ∀ (u : S) (t : State) (H1 : Heap) (locs1 : List Loc), t.heap = H1 → s.vm.Alike t.vm → post u → B u t → H.size ≤ H1.size → (∀ q : Nat, q < H.size → ¬ A1 q → H1[q]? = H[q]?) → va_S A0 H0 H1 locs1 → W p l e R s m args below meth c H1 locs1 (cells + mc) (slots + ms) Q (F0 m (pc + 5) ls (rest))) : W p l e R s m args below meth c H locs cells slots Q (F0 m pc ls st0) := by
  intro T hT X
  rcases hr T hT X with ⟨v, st₀, t, T', L, h0, X', hL, e1, e2, ⟨⟨u, hv, hp, hb⟩, hF⟩, st⟩ | ⟨q, st₀, t, T', L, E, ce, h0, X', hL, e1, e2, ⟨u, hp, hb, hF⟩, hce, hcv, hcl, st⟩
  · cases hv
    obtain ⟨k1, k2, k3⟩ := vx_keep h0 e1 hS hA hf hL hF
    obtain ⟨t2, a1, b1⟩ := kk u t T'.heap (locs ++ L) e1.symm (by rw [← e2]; exact X'.warmed.alike) hp hb k1 k2 k3 T' rfl X'
    exact ⟨t2, st t2 a1, b1⟩
  · obtain ⟨k1, k2, k3⟩ := vx_keep h0 e1 hS hAX hf hL hF
    obtain ⟨t2, a1, b1⟩ := kx E ce q u t T'.heap (locs ++ L) e1.symm (by rw [← e2]; exact X'.warmed.alike) hp hb k1 k2 k3 (by rw [e1]; exact hce) hcv hcl T' rfl X'
    exact ⟨t2, st.trans a1, b1⟩
theorem vx_callFi {S SX : Type} {post : Int32 → S → Prop} {px : SX → Prop} {B : S → State → Prop} {BX : String → SX → State → Prop} {AX : Nat → Prop} (hr : vx_Run5 p l e R s m args below meth c H locs cells slots mc ms (F0 m pc ls st0) rest (va_Qi post B A1 a) (vx_X px BX AX) free) (hS : va_S A0 H0 H locs) (hA : ∀ q, q < H.size → A1 q → A0 q) (hf : ∀ q, free q → A0 q) (hAX : ∀ q, q < H.size → AX q → A0 q)
    (kx : ∀ (E : String) (ce : Cell) (q9 : Addr) (u : SX) (t : State) (H1 : Heap) (locs1 : List Loc), t.heap = H1 → s.vm.Alike t.vm → px u → BX E u t → H.size ≤ H1.size → (∀ q : Nat, q < H.size → ¬ AX q → H1[q]? = H[q]?) → va_S A0 H0 H1 locs1 → H1[q9]? = some ce → ce.vm = .none → s.vm.findClass E = some ce.cls → vx_W p l e R s m args below meth c H1 locs1 (cells + mc) (slots + ms) Q (F0 m pc ls rest) q9)
    (kk : ∀ (r : Int32) (u : S) (t : State) (H1 : Heap) (locs1 : List Loc), t.heap = H1 → s.vm.Alike t.vm → post r u → B u t → H.size ≤ H1.size → (∀ q : Nat, q < H.size → ¬ A1 q → H1[q]? = H[q]?) → va_S A0 H0 H1 locs1 → W p l e R s m args below meth c H1 locs1 (cells + mc) (slots + ms) Q (F0 m (pc + 5) ls (.int r :: rest))) : W p l e R s m args below meth c H locs cells slots Q (F0 m pc ls st0) := by
  intro T hT X
  rcases hr T hT X with ⟨v, st₀, t, T', L, h0, X', hL, e1, e2, ⟨⟨r, u, hv, hp, hb⟩, hF⟩, st⟩ | ⟨q, st₀, t, T', L, E, ce, h0, X', hL, e1, e2, ⟨u, hp, hb, hF⟩, hce, hcv, hcl, st⟩
  · cases hv
    obtain ⟨k1, k2, k3⟩ := vx_keep h0 e1 hS hA hf hL hF
    obtain ⟨t2, a1, b1⟩ := kk r u t T'.heap (locs ++ L) e1.symm (by rw [← e2]; exact X'.warmed.alike) hp hb k1 k2 k3 T' rfl X'
    exact ⟨t2, st t2 a1, b1⟩
  · obtain ⟨k1, k2, k3⟩ := vx_keep h0 e1 hS hAX hf hL hF
    obtain ⟨t2, a1, b1⟩ := kx E ce q u t T'.heap (locs ++ L) e1.symm (by rw [← e2]; exact X'.warmed.alike) hp hb k1 k2 k3 (by rw [e1]; exact hce) hcv hcl T' rfl X'
    exact ⟨t2, st.trans a1, b1⟩
theorem vx_callFl {S SX : Type} {post : Int64 → S → Prop} {px : SX → Prop} {B : S → State → Prop} {BX : String → SX → State → Prop} {AX : Nat → Prop} (hr : vx_Run5 p l e R s m args below meth c H locs cells slots mc ms (F0 m pc ls st0) rest (va_Ql post B A1 a) (vx_X px BX AX) free) (hS : va_S A0 H0 H locs) (hA : ∀ q, q < H.size → A1 q → A0 q) (hf : ∀ q, free q → A0 q) (hAX : ∀ q, q < H.size → AX q → A0 q)
    (kx : ∀ (E : String) (ce : Cell) (q9 : Addr) (u : SX) (t : State) (H1 : Heap) (locs1 : List Loc), t.heap = H1 → s.vm.Alike t.vm → px u → BX E u t → H.size ≤ H1.size → (∀ q : Nat, q < H.size → ¬ AX q → H1[q]? = H[q]?) → va_S A0 H0 H1 locs1 → H1[q9]? = some ce → ce.vm = .none → s.vm.findClass E = some ce.cls → vx_W p l e R s m args below meth c H1 locs1 (cells + mc) (slots + ms) Q (F0 m pc ls rest) q9)
    (kk : ∀ (r : Int64) (u : S) (t : State) (H1 : Heap) (locs1 : List Loc), t.heap = H1 → s.vm.Alike t.vm → post r u → B u t → H.size ≤ H1.size → (∀ q : Nat, q < H.size → ¬ A1 q → H1[q]? = H[q]?) → va_S A0 H0 H1 locs1 → W p l e R s m args below meth c H1 locs1 (cells + mc) (slots + ms) Q (F0 m (pc + 5) ls (.long r :: rest))) : W p l e R s m args below meth c H locs cells slots Q (F0 m pc ls st0) := by
  intro T hT X
  rcases hr T hT X with ⟨v, st₀, t, T', L, h0, X', hL, e1, e2, ⟨⟨r, u, hv, hp, hb⟩, hF⟩, st⟩ | ⟨q, st₀, t, T', L, E, ce, h0, X', hL, e1, e2, ⟨u, hp, hb, hF⟩, hce, hcv, hcl, st⟩
  · cases hv
    obtain ⟨k1, k2, k3⟩ := vx_keep h0 e1 hS hA hf hL hF
    obtain ⟨t2, a1, b1⟩ := kk r u t T'.heap (locs ++ L) e1.symm (by rw [← e2]; exact X'.warmed.alike) hp hb k1 k2 k3 T' rfl X'
    exact ⟨t2, st t2 a1, b1⟩
  · obtain ⟨k1, k2, k3⟩ := vx_keep h0 e1 hS hAX hf hL hF
    obtain ⟨t2, a1, b1⟩ := kx E ce q u t T'.heap (locs ++ L) e1.symm (by rw [← e2]; exact X'.warmed.alike) hp hb k1 k2 k3 (by rw [e1]; exact hce) hcv hcl T' rfl X'
    exact ⟨t2, st.trans a1, b1⟩
theorem vx_callFf {S SX : Type} {post : UInt32 → S → Prop} {px : SX → Prop} {B : S → State → Prop} {BX : String → SX → State → Prop} {AX : Nat → Prop} (hr : vx_Run5 p l e R s m args below meth c H locs cells slots mc ms (F0 m pc ls st0) rest (va_Qf post B A1 a) (vx_X px BX AX) free) (hS : va_S A0 H0 H locs) (hA : ∀ q, q < H.size → A1 q → A0 q) (hf : ∀ q, free q → A0 q) (hAX : ∀ q, q < H.size → AX q → A0 q)
    (kx : ∀ (E : String) (ce : Cell) (q9 : Addr) (u : SX) (t : State) (H1 : Heap) (locs1 : List Loc), t.heap = H1 → s.vm.Alike t.vm → px u → BX E u t → H.size ≤ H1.size → (∀ q : Nat, q < H.size → ¬ AX q → H1[q]? = H[q]?) → va_S A0 H0 H1 locs1 → H1[q9]? = some ce → ce.vm = .none → s.vm.findClass E = some ce.cls → vx_W p l e R s m args below meth c H1 locs1 (cells + mc) (slots + ms) Q (F0 m pc ls rest) q9)
    (kk : ∀ (r : UInt32) (u : S) (t : State) (H1 : Heap) (locs1 : List Loc), t.heap = H1 → s.vm.Alike t.vm → post r u → B u t → H.size ≤ H1.size → (∀ q : Nat, q < H.size → ¬ A1 q → H1[q]? = H[q]?) → va_S A0 H0 H1 locs1 → W p l e R s m args below meth c H1 locs1 (cells + mc) (slots + ms) Q (F0 m (pc + 5) ls (.float r :: rest))) : W p l e R s m args below meth c H locs cells slots Q (F0 m pc ls st0) := by
  intro T hT X
  rcases hr T hT X with ⟨v, st₀, t, T', L, h0, X', hL, e1, e2, ⟨⟨r, u, hv, hp, hb⟩, hF⟩, st⟩ | ⟨q, st₀, t, T', L, E, ce, h0, X', hL, e1, e2, ⟨u, hp, hb, hF⟩, hce, hcv, hcl, st⟩
  · cases hv
    obtain ⟨k1, k2, k3⟩ := vx_keep h0 e1 hS hA hf hL hF
    obtain ⟨t2, a1, b1⟩ := kk r u t T'.heap (locs ++ L) e1.symm (by rw [← e2]; exact X'.warmed.alike) hp hb k1 k2 k3 T' rfl X'
    exact ⟨t2, st t2 a1, b1⟩
  · obtain ⟨k1, k2, k3⟩ := vx_keep h0 e1 hS hAX hf hL hF
    obtain ⟨t2, a1, b1⟩ := kx E ce q u t T'.heap (locs ++ L) e1.symm (by rw [← e2]; exact X'.warmed.alike) hp hb k1 k2 k3 (by rw [e1]; exact hce) hcv hcl T' rfl X'
    exact ⟨t2, st.trans a1, b1⟩
theorem vx_callFd {S SX : Type} {post : UInt64 → S → Prop} {px : SX → Prop} {B : S → State → Prop} {BX : String → SX → State → Prop} {AX : Nat → Prop} (hr : vx_Run5 p l e R s m args below meth c H locs cells slots mc ms (F0 m pc ls st0) rest (va_Qd post B A1 a) (vx_X px BX AX) free) (hS : va_S A0 H0 H locs) (hA : ∀ q, q < H.size → A1 q → A0 q) (hf : ∀ q, free q → A0 q) (hAX : ∀ q, q < H.size → AX q → A0 q)
    (kx : ∀ (E : String) (ce : Cell) (q9 : Addr) (u : SX) (t : State) (H1 : Heap) (locs1 : List Loc), t.heap = H1 → s.vm.Alike t.vm → px u → BX E u t → H.size ≤ H1.size → (∀ q : Nat, q < H.size → ¬ AX q → H1[q]? = H[q]?) → va_S A0 H0 H1 locs1 → H1[q9]? = some ce → ce.vm = .none → s.vm.findClass E = some ce.cls → vx_W p l e R s m args below meth c H1 locs1 (cells + mc) (slots + ms) Q (F0 m pc ls rest) q9)
    (kk : ∀ (r : UInt64) (u : S) (t : State) (H1 : Heap) (locs1 : List Loc), t.heap = H1 → s.vm.Alike t.vm → post r u → B u t → H.size ≤ H1.size → (∀ q : Nat, q < H.size → ¬ A1 q → H1[q]? = H[q]?) → va_S A0 H0 H1 locs1 → W p l e R s m args below meth c H1 locs1 (cells + mc) (slots + ms) Q (F0 m (pc + 5) ls (.double r :: rest))) : W p l e R s m args below meth c H locs cells slots Q (F0 m pc ls st0) := by
  intro T hT X
  rcases hr T hT X with ⟨v, st₀, t, T', L, h0, X', hL, e1, e2, ⟨⟨r, u, hv, hp, hb⟩, hF⟩, st⟩ | ⟨q, st₀, t, T', L, E, ce, h0, X', hL, e1, e2, ⟨u, hp, hb, hF⟩, hce, hcv, hcl, st⟩
  · cases hv
    obtain ⟨k1, k2, k3⟩ := vx_keep h0 e1 hS hA hf hL hF
    obtain ⟨t2, a1, b1⟩ := kk r u t T'.heap (locs ++ L) e1.symm (by rw [← e2]; exact X'.warmed.alike) hp hb k1 k2 k3 T' rfl X'
    exact ⟨t2, st t2 a1, b1⟩
  · obtain ⟨k1, k2, k3⟩ := vx_keep h0 e1 hS hAX hf hL hF
    obtain ⟨t2, a1, b1⟩ := kx E ce q u t T'.heap (locs ++ L) e1.symm (by rw [← e2]; exact X'.warmed.alike) hp hb k1 k2 k3 (by rw [e1]; exact hce) hcv hcl T' rfl X'
    exact ⟨t2, st.trans a1, b1⟩
end
/-! ===== END ===== -/
/-! ===== BEGIN by an interface, a method with a table of its own that may throw (follows va_callIFW, va_runFW) ===== -/
section
variable {p : Program} {l : Launch} {e : Env} {R : Room} {s : State} {m : MethodId} {args : Array Value} {below : List Frame} {meth : Method} {c : Code} {H : Heap} {locs : List Loc} {cells slots : Nat}
theorem vx_callIFW {T : State} (X : Stand p l e R s m args below meth c T locs cells slots) (hexec : p.tables.exec = Jvm.exec) {own C : String} {index count : Nat} {x y : MethodName} {bytes : ByteArray} {maxL : Nat} {ret : Option FieldType} {hh : List (Nat × Nat × Nat × Nat)}
    (hown : s.vm.findClass own = some m.cls) (hlink : (Cond.methodLink own index x).before args s = true) (hdecl : (Cond.declares x).before args s = true) (hface : (Cond.interfaceMethod x.cls x.cls x.name x.desc).before args s = true)
    (hsel : (Cond.selects C x y).before args s = true) (hinst : (Cond.instanceMethod y).before args s = true) (hpub : (Cond.publicMethod y).before args s = true) (hunh : (Cond.unhidden C x.name x.desc).before args s = true)
    (hcast : (Cond.castable C x.cls).before args s = true) (hcode : (Cond.codeWith y bytes maxL ret hh).before args s = true) (hx : x.cls ≠ "java/lang/invoke/MethodHandle" ∧ x.cls ≠ "java/lang/invoke/VarHandle")
    {W : Nat} {Pre : Pt → Array Value → Prop} {Post : Pt → Array Value → Option Value → Pt → Prop} {PostX : Pt → Array Value → Addr → Pt → Prop} (hK : vx_Back l R p e below s args y 5 W Pre Post PostX)
    {b : Addr} {cellB : Cell} {kB : Class} (hcell : T.heap[b]? = some cellB) (hobj : cellB.vm.isStatics = false) (hcls : s.vm.findClass C = some cellB.cls) (hkB : s.vm.classes[cellB.cls]? = some kB)
    {g : JFrame} (hg : g.method = m) (hsize : g.locals.size = c.maxLocals) {argsL rest : List Value} (hlen : ∀ sig, parseMethodDescriptor x.desc = some sig → argsL.length = sig.parameters.length)
    (hstack : g.stack = argsL.reverse ++ .ref b :: rest) (hW : 2 * g.monitorRoom + (rest.map fun v => v.category).sum ≤ W) (hdg : decode c.code g.pc = .ok (.invokeinterface index count, 5))
    (hpre : ∀ vm₁, s.WarmedH vm₁ → Pre ⟨T.setVm vm₁, locs, cells, slots⟩ (Value.ref b :: argsL).toArray) :
    (∃ (v : Option Value) (vm₁ : Vm) (B : Pt), s.WarmedH vm₁ ∧ Stand p l e R s m args below meth c B.U B.locs B.cells B.slots ∧ Post ⟨T.setVm vm₁, locs, cells, slots⟩ (Value.ref b :: argsL).toArray v B ∧
      ∀ target, Steps p.tables e below (B.U.setTop { g with pc := g.pc + 5, stack := v.toList ++ rest }) target → Steps p.tables e below (T.setTop g) target) ∨
    (∃ (q : Addr) (vm₁ : Vm) (B : Pt), s.WarmedH vm₁ ∧ Stand p l e R s m args below meth c B.U B.locs B.cells B.slots ∧ PostX ⟨T.setVm vm₁, locs, cells, slots⟩ (Value.ref b :: argsL).toArray q B ∧
      Steps p.tables e below (T.setTop g) ((B.U.setTop { g with stack := rest }).pushFrame (.throwing q))) := by
  obtain ⟨r0, r, hn, hrm, hstR, hsigR⟩ := Cond.declares_spec hdecl
  obtain ⟨cL, kL, r1, hcL, hkL, hiL, hfoundL, hn1⟩ := Cond.interfaceMethod_spec hface
  cases hn.symm.trans hn1
  have hr0cls : r0.cls = cL := Option.some.inj ((findClass_of_methodNamed hn).symm.trans hcL)
  obtain ⟨hnameR, hdescR⟩ := name_of_methodNamed hn hrm
  obtain ⟨mk, methM, hnamed, hmethM, -, habM⟩ := Cond.instanceMethod_spec hinst
  obtain ⟨c2, r2, m2, q1, q2, q3, q4, -⟩ := Cond.selects_spec hsel
  cases hcls.symm.trans q1
  cases hfoundL.symm.trans q2
  cases hnamed.symm.trans q3
  have hselP : selectMethod e.platform s.vm cellB.cls r0 = .method mk := by rw [Launch.admits_selectMethod X.admits]; exact q4
  have hpubM : hasFlag methM.accessFlags Acc.public_ = true := Cond.publicMethod_spec hnamed hmethM hpub
  have hway : ((cellB.cls :: s.vm.superclasses cellB.cls).any fun k => (declaredIn s.vm r.name r.desc k).any fun (_, z) => z.isPrivate || z.isStatic) = false := by
    rw [hnameR, hdescR]; exact Cond.unhidden_spec hcls hunh
  obtain ⟨c3, t3, w1, w2, w3⟩ := Cond.castable_spec hcast
  cases hcls.symm.trans w1
  cases hcL.symm.trans w2
  obtain ⟨vm₁, X₁, hstep₁⟩ := X.invokeinterface hexec hown hlink hn hrm hstR (by rw [hr0cls]; exact hkL) hiL hx (a := b) (cell := cellB) (kcell := kB) hcell
    (fun z h => by rw [h] at hobj; cases hobj) hkB (by rw [hr0cls]; exact w3) hselP hmethM hway hpubM habM (g := g) hg (argsL := argsL) (rest := rest) (hlen _ hsigR) hstack hdg
  rcases hK m meth c ⟨T.setVm vm₁, locs, cells, slots⟩ { g with stack := rest } (.invokeinterface index count) mk (Value.ref b :: argsL).toArray X₁ hg hsize hdg hW (X₁.named hnamed) (hpre vm₁ X₁.warmed) with ⟨v, B, X', hpost, hsteps⟩ | ⟨q, B, X', hpost, hsteps⟩
  · exact Or.inl ⟨v, vm₁, B, X₁.warmed, X', hpost, fun target h => hstep₁ _ fun acts => by rw [doInvoke_state]; exact hsteps.trans h⟩
  · exact Or.inr ⟨q, vm₁, B, X₁.warmed, X', hpost, hstep₁ _ fun acts => by rw [doInvoke_state]; exact hsteps⟩
theorem vx_runFW {x y : MethodName} {bytes cc : ByteArray} {maxL nL mc ms n index count : Nat} {ret : Option FieldType} {hh : List (Nat × Nat × Nat × Nat)} {ws : List Cond} {rm : Room} {Pc : Array Value → State → Prop} {Qc : Array Value → State → Outcome → State → Prop} {XC : String → State → State → Prop} {free : Addr → Prop} {Ts : List Cond} {own C : String} {cC : ClassId} {b : Addr} {As rest : List Value} {g : JFrame}
    (hat : ClassAt s C cC) (S : CallFix p m c cc nL s args Ts own) (hM : vx_Met l y ws rm Pc Qc XC mc ms free) (cw : va_CIW R s args own C index x y bytes maxL ret hh ws rm mc ms n) (hp : PreV s H C b Pc As)
    (hg : g.method = m) (hn : As.length = n) (hsize : g.locals.size = nL) (hstack : g.stack = As.reverse ++ .ref b :: rest) (hW : 2 * g.monitorRoom + (rest.map fun v => v.category).sum ≤ 8) (hdg : decode cc g.pc = .ok (.invokeinterface index count, 5)) (hf : cells + mc ≤ R.cells ∧ slots + ms ≤ R.slots) :
    vx_Run5 p l e R s m args below meth c H locs cells slots mc ms g rest (Qc (Value.ref b :: As).toArray) XC free := by
  obtain ⟨hrc, hrs, hfr, hlo, hws, hcw⟩ := cw.back
  have hini := cw.init
  have hK : vx_Back l R p e below s args y 5 8 (PreOf R mc ms Pc) (PostOf Qc mc ms free) (vx_Post XC mc ms free) := vx_backW (hh := hh) (bytes := bytes) (maxL := maxL) (ret := ret) hM hp.1 hrc hrs hfr hlo hws hcw (fun a' U hW => word_at hW (Or.inl (by first | rfl | simp [Cond.onTables, Cond.keeps, Cond.steady])) hini)
  obtain ⟨hx, hb, hml, ho, -⟩ := S
  obtain ⟨-, ⟨cellB, hcB, hoB, hclB⟩, hPc⟩ := hp
  obtain ⟨hfc, kB, hkB, -⟩ := hat
  cases hfc.symm.trans hclB
  intro T hT X
  rcases vx_callIFW X hx (C := C) (hh := hh) (bytes := bytes) (maxL := maxL) (ret := ret) ho cw.link cw.decl cw.face cw.sel cw.inst cw.pub cw.unh cw.cast cw.code cw.notMH hK (by rw [hT]; exact hcB) hoB hclB hkB hg (hsize.trans hml.symm) (argsL := As) (rest := rest) (fun sig h => hn.trans (cw.len sig h)) hstack hW (by rw [hb]; exact hdg)
    (fun vm₁ hW₁ => ⟨hf.1, hf.2, hPc (T.setVm vm₁) hT hW₁⟩) with ⟨v, vm₁, ⟨U', l2, c2, s2⟩, hW₁, X', ⟨g', mk, t, L, e1, e2, hq, h1, hL, h2, h3⟩, st⟩ | ⟨q, vm₁, ⟨U', l2, c2, s2⟩, hW₁, X', ⟨g', mk, t, L, E, ce, e1, e2, hq, hce, hcv, hcl, h1, hL, h2, h3⟩, st⟩
  · dsimp only [Pt.U, Pt.locs, Pt.cells, Pt.slots] at X' e1 e2 h1 h2 h3 st
    subst h1; subst h2; subst h3
    exact Or.inl ⟨v, (T.setVm vm₁).calling g' mk (Value.ref b :: As).toArray, t, U', L, hT, X', hL, e1, e2, hq, st⟩
  · dsimp only [Pt.U, Pt.locs, Pt.cells, Pt.slots] at X' e1 e2 h1 h2 h3 st hcl
    subst h1; subst h2; subst h3
    exact Or.inr ⟨q, (T.setVm vm₁).calling g' mk (Value.ref b :: As).toArray, t, U', L, E, ce, hT, X', hL, e1, e2, hq, hce, hcv, vx_cls hW₁ hcl, st⟩
end
/-! ===== END ===== -/
/-! ===== BEGIN .. of methods that hand back an object of the pool ===== -/
section
variable {p : Program} {l : Launch} {e : Env} {R : Room} {s : State} {m : MethodId} {args : Array Value} {below : List Frame} {meth : Method} {c : Code} {H : Heap} {locs : List Loc} {cells slots : Nat} {Q : State → Prop}
variable {mc ms : Nat} {free : Addr → Prop} {A0 A1 : Nat → Prop} {H0 : Heap} {a : Array Value} {pc : Nat} {ls : Array Slot} {st0 rest : List Value}
theorem vx_callq {S SX : Type} {post : Option Nat → S → Prop} {px : SX → Prop} {B : S → State → Prop} {BX : String → SX → State → Prop} {AX : Nat → Prop} (hr : vx_Run p l e R s m args below meth c H locs cells slots mc ms (F0 m pc ls st0) rest (va_Qq post B A1 a) (vx_X px BX AX) free) (hS : va_S A0 H0 H locs) (hA : ∀ q, q < H.size → A1 q → A0 q) (hf : ∀ q, free q → A0 q) (hAX : ∀ q, q < H.size → AX q → A0 q)
    (kx : ∀ (E : String) (ce : Cell) (q9 : Addr) (u : SX) (t : State) (H1 : Heap) (locs1 : List Loc), t.heap = H1 → s.vm.Alike t.vm → px u → BX E u t → H.size ≤ H1.size → (∀ q : Nat, q < H.size → ¬ AX q → H1[q]? = H[q]?) → va_S A0 H0 H1 locs1 → H1[q9]? = some ce → ce.vm = .none → s.vm.findClass E = some ce.cls → vx_W p l e R s m args below meth c H1 locs1 (cells + mc) (slots + ms) Q (F0 m pc ls rest) q9)
    (kk : ∀ (r : Option Nat) (u : S) (t : State) (H1 : Heap) (locs1 : List Loc), t.heap = H1 → s.vm.Alike t.vm → post r u → B u t → H.size ≤ H1.size → (∀ q : Nat, q < H.size → ¬ A1 q → H1[q]? = H[q]?) → va_S A0 H0 H1 locs1 → W p l e R s m args below meth c H1 locs1 (cells + mc) (slots + ms) Q (F0 m (pc + 3) ls (va_rf r :: rest))) : W p l e R s m args below meth c H locs cells slots Q (F0 m pc ls st0) := by
  intro T hT X
  rcases hr T hT X with ⟨v, st₀, t, T', L, h0, X', hL, e1, e2, ⟨⟨r, u, hv, hp, hb⟩, hF⟩, st⟩ | ⟨q, st₀, t, T', L, E, ce, h0, X', hL, e1, e2, ⟨u, hp, hb, hF⟩, hce, hcv, hcl, st⟩
  · cases hv
    obtain ⟨k1, k2, k3⟩ := vx_keep h0 e1 hS hA hf hL hF
    obtain ⟨t2, a1, b1⟩ := kk r u t T'.heap (locs ++ L) e1.symm (by rw [← e2]; exact X'.warmed.alike) hp hb k1 k2 k3 T' rfl X'
    exact ⟨t2, st t2 a1, b1⟩
  · obtain ⟨k1, k2, k3⟩ := vx_keep h0 e1 hS hAX hf hL hF
    obtain ⟨t2, a1, b1⟩ := kx E ce q u t T'.heap (locs ++ L) e1.symm (by rw [← e2]; exact X'.warmed.alike) hp hb k1 k2 k3 (by rw [e1]; exact hce) hcv hcl T' rfl X'
    exact ⟨t2, st.trans a1, b1⟩
end
/-! ===== END ===== -/
/-! ===== BEGIN .. a constant ===== -/
section
variable {p : Program} {l : Launch} {e : Env} {R : Room} {s : State} {m : MethodId} {args : Array Value} {below : List Frame} {meth : Method} {c : Code} {H : Heap} {locs : List Loc} {cells slots : Nat} {Q : State → Prop}
variable {mc ms : Nat} {free : Addr → Prop} {A0 A1 : Nat → Prop} {H0 : Heap} {a : Array Value} {pc : Nat} {ls : Array Slot} {st0 rest : List Value}
theorem vx_calle {ad : Nat → Nat} {S SX : Type} {post : Option Nat → S → Prop} {px : SX → Prop} {B : S → State → Prop} {BX : String → SX → State → Prop} {AX : Nat → Prop} (hr : vx_Run p l e R s m args below meth c H locs cells slots mc ms (F0 m pc ls st0) rest (va_Qe ad post B A1 a) (vx_X px BX AX) free) (hS : va_S A0 H0 H locs) (hA : ∀ q, q < H.size → A1 q → A0 q) (hf : ∀ q, free q → A0 q) (hAX : ∀ q, q < H.size → AX q → A0 q)
    (kx : ∀ (E : String) (ce : Cell) (q9 : Addr) (u : SX) (t : State) (H1 : Heap) (locs1 : List Loc), t.heap = H1 → s.vm.Alike t.vm → px u → BX E u t → H.size ≤ H1.size → (∀ q : Nat, q < H.size → ¬ AX q → H1[q]? = H[q]?) → va_S A0 H0 H1 locs1 → H1[q9]? = some ce → ce.vm = .none → s.vm.findClass E = some ce.cls → vx_W p l e R s m args below meth c H1 locs1 (cells + mc) (slots + ms) Q (F0 m pc ls rest) q9)
    (kk : ∀ (r : Option Nat) (u : S) (t : State) (H1 : Heap) (locs1 : List Loc), t.heap = H1 → s.vm.Alike t.vm → post r u → B u t → H.size ≤ H1.size → (∀ q : Nat, q < H.size → ¬ A1 q → H1[q]? = H[q]?) → va_S A0 H0 H1 locs1 → W p l e R s m args below meth c H1 locs1 (cells + mc) (slots + ms) Q (F0 m (pc + 3) ls (va_re ad r :: rest))) : W p l e R s m args below meth c H locs cells slots Q (F0 m pc ls st0) := by
  intro T hT X
  rcases hr T hT X with ⟨v, st₀, t, T', L, h0, X', hL, e1, e2, ⟨⟨r, u, hv, hp, hb⟩, hF⟩, st⟩ | ⟨q, st₀, t, T', L, E, ce, h0, X', hL, e1, e2, ⟨u, hp, hb, hF⟩, hce, hcv, hcl, st⟩
  · cases hv
    obtain ⟨k1, k2, k3⟩ := vx_keep h0 e1 hS hA hf hL hF
    obtain ⟨t2, a1, b1⟩ := kk r u t T'.heap (locs ++ L) e1.symm (by rw [← e2]; exact X'.warmed.alike) hp hb k1 k2 k3 T' rfl X'
    exact ⟨t2, st t2 a1, b1⟩
  · obtain ⟨k1, k2, k3⟩ := vx_keep h0 e1 hS hAX hf hL hF
    obtain ⟨t2, a1, b1⟩ := kx E ce q u t T'.heap (locs ++ L) e1.symm (by rw [← e2]; exact X'.warmed.alike) hp hb k1 k2 k3 (by rw [e1]; exact hce) hcv hcl T' rfl X'
    exact ⟨t2, st.trans a1, b1⟩
end
/-! ===== END ===== -/
/-! ===== BEGIN .. by an interface, an object ===== -/
section
variable {p : Program} {l : Launch} {e : Env} {R : Room} {s : State} {m : MethodId} {args : Array Value} {below : List Frame} {meth : Method} {c : Code} {H : Heap} {locs : List Loc} {cells slots : Nat} {Q : State → Prop}
variable {mc ms : Nat} {free : Addr → Prop} {A0 A1 : Nat → Prop} {H0 : Heap} {a : Array Value} {pc : Nat} {ls : Array Slot} {st0 rest : List Value}
theorem vx_callFq {S SX : Type} {post : Option Nat → S → Prop} {px : SX → Prop} {B : S → State → Prop} {BX : String → SX → State → Prop} {AX : Nat → Prop} (hr : vx_Run5 p l e R s m args below meth c H locs cells slots mc ms (F0 m pc ls st0) rest (va_Qq post B A1 a) (vx_X px BX AX) free) (hS : va_S A0 H0 H locs) (hA : ∀ q, q < H.size → A1 q → A0 q) (hf : ∀ q, free q → A0 q) (hAX : ∀ q, q < H.size → AX q → A0 q)
    (kx : ∀ (E : String) (ce : Cell) (q9 : Addr) (u : SX) (t : State) (H1 : Heap) (locs1 : List Loc), t.heap = H1 → s.vm.Alike t.vm → px u → BX E u t → H.size ≤ H1.size → (∀ q : Nat, q < H.size → ¬ AX q → H1[q]? = H[q]?) → va_S A0 H0 H1 locs1 → H1[q9]? = some ce → ce.vm = .none → s.vm.findClass E = some ce.cls → vx_W p l e R s m args below meth c H1 locs1 (cells + mc) (slots + ms) Q (F0 m pc ls rest) q9)
    (kk : ∀ (r : Option Nat) (u : S) (t : State) (H1 : Heap) (locs1 : List Loc), t.heap = H1 → s.vm.Alike t.vm → post r u → B u t → H.size ≤ H1.size → (∀ q : Nat, q < H.size → ¬ A1 q → H1[q]? = H[q]?) → va_S A0 H0 H1 locs1 → W p l e R s m args below meth c H1 locs1 (cells + mc) (slots + ms) Q (F0 m (pc + 5) ls (va_rf r :: rest))) : W p l e R s m args below meth c H locs cells slots Q (F0 m pc ls st0) := by
  intro T hT X
  rcases hr T hT X with ⟨v, st₀, t, T', L, h0, X', hL, e1, e2, ⟨⟨r, u, hv, hp, hb⟩, hF⟩, st⟩ | ⟨q, st₀, t, T', L, E, ce, h0, X', hL, e1, e2, ⟨u, hp, hb, hF⟩, hce, hcv, hcl, st⟩
  · cases hv
    obtain ⟨k1, k2, k3⟩ := vx_keep h0 e1 hS hA hf hL hF
    obtain ⟨t2, a1, b1⟩ := kk r u t T'.heap (locs ++ L) e1.symm (by rw [← e2]; exact X'.warmed.alike) hp hb k1 k2 k3 T' rfl X'
    exact ⟨t2, st t2 a1, b1⟩
  · obtain ⟨k1, k2, k3⟩ := vx_keep h0 e1 hS hAX hf hL hF
    obtain ⟨t2, a1, b1⟩ := kx E ce q u t T'.heap (locs ++ L) e1.symm (by rw [← e2]; exact X'.warmed.alike) hp hb k1 k2 k3 (by rw [e1]; exact hce) hcv hcl T' rfl X'
    exact ⟨t2, st.trans a1, b1⟩
end
/-! ===== END ===== -/
/-! ===== BEGIN .. by an interface, a constant ===== -/
section
variable {p : Program} {l : Launch} {e : Env} {R : Room} {s : State} {m : MethodId} {args : Array Value} {below : List Frame} {meth : Method} {c : Code} {H : Heap} {locs : List Loc} {cells slots : Nat} {Q : State → Prop}
variable {mc ms : Nat} {free : Addr → Prop} {A0 A1 : Nat → Prop} {H0 : Heap} {a : Array Value} {pc : Nat} {ls : Array Slot} {st0 rest : List Value}
theorem vx_callFe {ad : Nat → Nat} {S SX : Type} {post : Option Nat → S → Prop} {px : SX → Prop} {B : S → State → Prop} {BX : String → SX → State → Prop} {AX : Nat → Prop} (hr : vx_Run5 p l e R s m args below meth c H locs cells slots mc ms (F0 m pc ls st0) rest (va_Qe ad post B A1 a) (vx_X px BX AX) free) (hS : va_S A0 H0 H locs) (hA : ∀ q, q < H.size → A1 q → A0 q) (hf : ∀ q, free q → A0 q) (hAX : ∀ q, q < H.size → AX q → A0 q)
    (kx : ∀ (E : String) (ce : Cell) (q9 : Addr) (u : SX) (t : State) (H1 : Heap) (locs1 : List Loc), t.heap = H1 → s.vm.Alike t.vm → px u → BX E u t → H.size ≤ H1.size → (∀ q : Nat, q < H.size → ¬ AX q → H1[q]? = H[q]?) → va_S A0 H0 H1 locs1 → H1[q9]? = some ce → ce.vm = .none → s.vm.findClass E = some ce.cls → vx_W p l e R s m args below meth c H1 locs1 (cells + mc) (slots + ms) Q (F0 m pc ls rest) q9)
    (kk : ∀ (r : Option Nat) (u : S) (t : State) (H1 : Heap) (locs1 : List Loc), t.heap = H1 → s.vm.Alike t.vm → post r u → B u t → H.size ≤ H1.size → (∀ q : Nat, q < H.size → ¬ A1 q → H1[q]? = H[q]?) → va_S A0 H0 H1 locs1 → W p l e R s m args below meth c H1 locs1 (cells + mc) (slots + ms) Q (F0 m (pc + 5) ls (va_re ad r :: rest))) : W p l e R s m args below meth c H locs cells slots Q (F0 m pc ls st0) := by
  intro T hT X
  rcases hr T hT X with ⟨v, st₀, t, T', L, h0, X', hL, e1, e2, ⟨⟨r, u, hv, hp, hb⟩, hF⟩, st⟩ | ⟨q, st₀, t, T', L, E, ce, h0, X', hL, e1, e2, ⟨u, hp, hb, hF⟩, hce, hcv, hcl, st⟩
  · cases hv
    obtain ⟨k1, k2, k3⟩ := vx_keep h0 e1 hS hA hf hL hF
    obtain ⟨t2, a1, b1⟩ := kk r u t T'.heap (locs ++ L) e1.symm (by rw [← e2]; exact X'.warmed.alike) hp hb k1 k2 k3 T' rfl X'
    exact ⟨t2, st t2 a1, b1⟩
  · obtain ⟨k1, k2, k3⟩ := vx_keep h0 e1 hS hAX hf hL hF
    obtain ⟨t2, a1, b1⟩ := kx E ce q u t T'.heap (locs ++ L) e1.symm (by rw [← e2]; exact X'.warmed.alike) hp hb k1 k2 k3 (by rw [e1]; exact hce) hcv hcl T' rfl X'
    exact ⟨t2, st.trans a1, b1⟩
end
/-! ===== END ===== -/
/-! ===== BEGIN what the machine throws by itself: null at a field, at athrow ===== -/
section VXM2
variable {p : Program} {l : Launch} {e : Env} {R : Room} {s : State} {m : MethodId} {args : Array Value} {below : List Frame} {meth : Method} {c : Code} {H : Heap} {locs : List Loc} {cells slots : Nat}
variable {Q : State → Prop} {cc : ByteArray} {pc : Nat} {ls : Array Slot} {rest : List Value}
theorem vx_getfN {D cl tys} {own ref C : String} {T : u_T} {N ci index : Nat} {Ts : List Cond} (hexec : p.tables.exec = Jvm.exec) (hb : c.code = cc) (hts : ∀ w ∈ Ts, w.before args s = true) (hin : ∀ w ∈ u_ws C T N, w ∈ Ts) (hown : s.vm.findClass own = some m.cls) (hK : va_K D cl tys s) (hc : cl[ci]? = some (C, T, N)) (k : Nat) (hk : k < N) (hlink : (Cond.fieldLink own index ref (T k).2.1 (T k).2.2.1).before args s = true) (hsame : ∀ x, s.fieldFound? (T k).1 (T k).2.1 (T k).2.2.1 = some x → s.fieldFound? ref (T k).2.1 (T k).2.2.1 = some x) (hdg : decode cc pc = .ok (.getfield index, 3)) (kk : vx_NoteN p l e R s m args below meth c H locs cells slots Q (F0 m pc ls rest)) : W p l e R s m args below meth c H locs cells slots Q (F0 m pc ls (.null :: rest)) := by
  obtain ⟨hS, hfc, kC, hkC, -⟩ := hK.1 ci _ hc
  obtain ⟨cf, kf, fi, f, hi, -⟩ := hS k hk
  intro U hU X
  obtain ⟨vm', X1, st1⟩ := X.getfieldNull hexec hown hlink (hsame _ hi) (u_facts hfc hkC (u_lays hts hin hk) hi).1 (g := F0 m pc ls (.null :: rest)) rfl (rest := rest) rfl (by rw [hb]; exact hdg)
  obtain ⟨t, st, q⟩ := kk (U.setVm vm') hU X1
  exact ⟨t, st1 t st, q⟩
theorem vx_getfNN {D cl tys} {own ref C host : String} {T : u_T} {N ci index : Nat} {Ts : List Cond} (hexec : p.tables.exec = Jvm.exec) (hb : c.code = cc) (hts : ∀ w ∈ Ts, w.before args s = true) (hin : ∀ w ∈ u_ws C T N, w ∈ Ts) (hown : s.vm.findClass own = some m.cls) (hK : va_K D cl tys s) (hc : cl[ci]? = some (C, T, N)) (k : Nat) (hk : k < N) (hlink : (Cond.fieldLinkNest own index ref (T k).2.1 (T k).2.2.1 host).before args s = true) (hsame : ∀ x, s.fieldFound? (T k).1 (T k).2.1 (T k).2.2.1 = some x → s.fieldFound? ref (T k).2.1 (T k).2.2.1 = some x) (hdg : decode cc pc = .ok (.getfield index, 3)) (kk : vx_NoteN p l e R s m args below meth c H locs cells slots Q (F0 m pc ls rest)) : W p l e R s m args below meth c H locs cells slots Q (F0 m pc ls (.null :: rest)) := by
  obtain ⟨hS, hfc, kC, hkC, -⟩ := hK.1 ci _ hc
  obtain ⟨cf, kf, fi, f, hi, -⟩ := hS k hk
  intro U hU X
  obtain ⟨vm', X1, st1⟩ := X.getfieldNullNest hexec hown hlink (hsame _ hi) (u_facts hfc hkC (u_lays hts hin hk) hi).1 (g := F0 m pc ls (.null :: rest)) rfl (rest := rest) rfl (by rw [hb]; exact hdg)
  obtain ⟨t, st, q⟩ := kk (U.setVm vm') hU X1
  exact ⟨t, st1 t st, q⟩
theorem vx_putfN {D cl tys} {own ref C : String} {T : u_T} {N ci index : Nat} {Ts : List Cond} (hexec : p.tables.exec = Jvm.exec) (hb : c.code = cc) (hts : ∀ w ∈ Ts, w.before args s = true) (hin : ∀ w ∈ u_ws C T N, w ∈ Ts) (hown : s.vm.findClass own = some m.cls) (hK : va_K D cl tys s) (hc : cl[ci]? = some (C, T, N)) (k : Nat) (hk : k < N) (hlink : (Cond.fieldLink own index ref (T k).2.1 (T k).2.2.1).before args s = true) (hsame : ∀ x, s.fieldFound? (T k).1 (T k).2.1 (T k).2.2.1 = some x → s.fieldFound? ref (T k).2.1 (T k).2.2.1 = some x) (hfin : (T k).2.2.2 = false) {v : Value} (hdg : decode cc pc = .ok (.putfield index, 3)) (kk : vx_NoteN p l e R s m args below meth c H locs cells slots Q (F0 m pc ls rest)) : W p l e R s m args below meth c H locs cells slots Q (F0 m pc ls (v :: .null :: rest)) := by
  obtain ⟨hS, hfc, kC, hkC, -⟩ := hK.1 ci _ hc
  obtain ⟨cf, kf, fi, f, hi, -⟩ := hS k hk
  have hlay := hts _ (hin _ (u_in_lay hk))
  unfold u_lay at hlay
  rw [if_neg (by rw [hfin]; decide)] at hlay
  obtain ⟨c9, k9, cf9, kf9, fi9, f9, -, -, hi9, hst9, hnf9, -⟩ := Cond.lays_spec hlay
  cases hi.symm.trans hi9
  intro U hU X
  obtain ⟨vm', X1, st1⟩ := X.putfieldNull hexec hown hlink (hsame _ hi) hst9 hnf9 (g := F0 m pc ls (v :: .null :: rest)) rfl (v := v) (rest := rest) rfl (by rw [hb]; exact hdg)
  obtain ⟨t, st, q⟩ := kk (U.setVm vm') hU X1
  exact ⟨t, st1 t st, q⟩
theorem vx_putfNN {D cl tys} {own ref C host : String} {T : u_T} {N ci index : Nat} {Ts : List Cond} (hexec : p.tables.exec = Jvm.exec) (hb : c.code = cc) (hts : ∀ w ∈ Ts, w.before args s = true) (hin : ∀ w ∈ u_ws C T N, w ∈ Ts) (hown : s.vm.findClass own = some m.cls) (hK : va_K D cl tys s) (hc : cl[ci]? = some (C, T, N)) (k : Nat) (hk : k < N) (hlink : (Cond.fieldLinkNest own index ref (T k).2.1 (T k).2.2.1 host).before args s = true) (hsame : ∀ x, s.fieldFound? (T k).1 (T k).2.1 (T k).2.2.1 = some x → s.fieldFound? ref (T k).2.1 (T k).2.2.1 = some x) (hfin : (T k).2.2.2 = false) {v : Value} (hdg : decode cc pc = .ok (.putfield index, 3)) (kk : vx_NoteN p l e R s m args below meth c H locs cells slots Q (F0 m pc ls rest)) : W p l e R s m args below meth c H locs cells slots Q (F0 m pc ls (v :: .null :: rest)) := by
  obtain ⟨hS, hfc, kC, hkC, -⟩ := hK.1 ci _ hc
  obtain ⟨cf, kf, fi, f, hi, -⟩ := hS k hk
  have hlay := hts _ (hin _ (u_in_lay hk))
  unfold u_lay at hlay
  rw [if_neg (by rw [hfin]; decide)] at hlay
  obtain ⟨c9, k9, cf9, kf9, fi9, f9, -, -, hi9, hst9, hnf9, -⟩ := Cond.lays_spec hlay
  cases hi.symm.trans hi9
  intro U hU X
  obtain ⟨vm', X1, st1⟩ := X.putfieldNullNest hexec hown hlink (hsame _ hi) hst9 hnf9 (g := F0 m pc ls (v :: .null :: rest)) rfl (v := v) (rest := rest) rfl (by rw [hb]; exact hdg)
  obtain ⟨t, st, q⟩ := kk (U.setVm vm') hU X1
  exact ⟨t, st1 t st, q⟩
theorem vx_athrowN (hexec : p.tables.exec = Jvm.exec) (hb : c.code = cc) (hdg : decode cc pc = .ok (.athrow, 1)) (k : vx_NoteN p l e R s m args below meth c H locs cells slots Q (F0 m pc ls rest)) : W p l e R s m args below meth c H locs cells slots Q (F0 m pc ls (.null :: rest)) := by
  intro T hT X
  obtain ⟨t, st, q⟩ := k T hT X
  exact ⟨t, X.athrowNull hexec (g := F0 m pc ls (.null :: rest)) rfl (rest := rest) rfl (by rw [hb]; exact hdg) t st, q⟩
end VXM2
/-! ===== END ===== -/
end
section
def RX0 : String := "UnwindTower$Code"
def TX0 : u_T := fun k => match k with
  | 0 => ("UnwindTower$Code", "length", "I", false)
  | 1 => ("UnwindTower$Code", "isTooLong", "Z", false)
  | 2 => ("UnwindTower$Code", "ops", "[I", true)
  | 3 => ("UnwindTower$Code", "xs", "[I", true)
  | 4 => ("UnwindTower$Code", "ys", "[I", true)
  | 5 => ("UnwindTower$Code", "zs", "[I", true)
  | 6 => ("UnwindTower$Code", "nodes", "[I", true)
  | 7 => ("UnwindTower$Code", "firstBegins", "[I", true)
  | 8 => ("UnwindTower$Code", "manyBegins", "[I", true)
  | 9 => ("UnwindTower$Code", "begins", "[I", true)
  | 10 => ("UnwindTower$Code", "allBegins", "I", false)
  | 11 => ("UnwindTower$Code", "firstRow", "I", false)
  | _ => ("UnwindTower$Code", "rows", "I", false)
def tyX0 : Nat → FieldType := fun k => match k with
  | 0 => .int
  | 1 => .boolean
  | 2 => .array .int
  | 3 => .array .int
  | 4 => .array .int
  | 5 => .array .int
  | 6 => .array .int
  | 7 => .array .int
  | 8 => .array .int
  | 9 => .array .int
  | 10 => .int
  | 11 => .int
  | _ => .int
abbrev wsX00 : List Cond := u_ws RX0 TX0 13
theorem nmX0 : ∀ a, a < 13 → ∀ b, b < 13 → a ≠ b → (TX0 a).2.1 ≠ (TX0 b).2.1 := by decide +kernel
theorem tyX0_ok : ∀ k, k < 13 → parseFieldDescriptor (TX0 k).2.2.1 = some (tyX0 k) := by decide +kernel
abbrev cX0_init : ByteArray := prog_2_method_1_code
def yX0_init : MethodName := ⟨RX0, "<init>", "()V"⟩
abbrev cX0_clear : ByteArray := prog_2_method_2_code
def yX0_clear : MethodName := ⟨RX0, "clear", "()V"⟩
abbrev cX0_begin : ByteArray := prog_2_method_3_code
def yX0_begin : MethodName := ⟨RX0, "begin", "(I)V"⟩
abbrev cX0_add : ByteArray := prog_2_method_4_code
def yX0_add : MethodName := ⟨RX0, "add", "(IIIII)V"⟩
abbrev cX0_read : ByteArray := prog_2_method_5_code
def yX0_read : MethodName := ⟨RX0, "read", "(II)I"⟩
abbrev cX0_mayThrow : ByteArray := prog_2_method_6_code
def yX0_mayThrow : MethodName := ⟨RX0, "mayThrow", "(I)Z"⟩
def RX1 : String := "UnwindTower$Compiler"
def TX1 : u_T := fun k => match k with
  | 0 => ("UnwindTower$Compiler", "program", "LUnwindTower$Program;", true)
  | 1 => ("UnwindTower$Compiler", "codes", "[LUnwindTower$Code;", true)
  | 2 => ("UnwindTower$Compiler", "table", "LUnwindTower$Table;", true)
  | 3 => ("UnwindTower$Compiler", "places", "[LUnwindTower$Place;", true)
  | 4 => ("UnwindTower$Compiler", "guardNodes", "[I", true)
  | 5 => ("UnwindTower$Compiler", "guardOuters", "[I", true)
  | 6 => ("UnwindTower$Compiler", "guardDepths", "[I", true)
  | 7 => ("UnwindTower$Compiler", "guards", "I", false)
  | 8 => ("UnwindTower$Compiler", "guardOf", "[I", true)
  | 9 => ("UnwindTower$Compiler", "labels", "[I", true)
  | 10 => ("UnwindTower$Compiler", "lastLabel", "I", false)
  | 11 => ("UnwindTower$Compiler", "catchFrom", "[I", true)
  | 12 => ("UnwindTower$Compiler", "catchTo", "[I", true)
  | 13 => ("UnwindTower$Compiler", "code", "LUnwindTower$Code;", false)
  | _ => ("UnwindTower$Compiler", "isPruned", "Z", false)
def tyX1 : Nat → FieldType := fun k => match k with
  | 0 => .object "UnwindTower$Program"
  | 1 => .array (.object "UnwindTower$Code")
  | 2 => .object "UnwindTower$Table"
  | 3 => .array (.object "UnwindTower$Place")
  | 4 => .array .int
  | 5 => .array .int
  | 6 => .array .int
  | 7 => .int
  | 8 => .array .int
  | 9 => .array .int
  | 10 => .int
  | 11 => .array .int
  | 12 => .array .int
  | 13 => .object "UnwindTower$Code"
  | _ => .boolean
abbrev wsX10 : List Cond := u_ws RX1 TX1 15
theorem nmX1 : ∀ a, a < 15 → ∀ b, b < 15 → a ≠ b → (TX1 a).2.1 ≠ (TX1 b).2.1 := by decide +kernel
theorem tyX1_ok : ∀ k, k < 15 → parseFieldDescriptor (TX1 k).2.2.1 = some (tyX1 k) := by decide +kernel
abbrev cX1_init : ByteArray := prog_3_method_1_code
def yX1_init : MethodName := ⟨RX1, "<init>", "(LUnwindTower$Program;[LUnwindTower$Code;LUnwindTower$Table;)V"⟩
abbrev cX1_layProcedure : ByteArray := prog_3_method_2_code
def yX1_layProcedure : MethodName := ⟨RX1, "layProcedure", "(IZ)Z"⟩
abbrev cX1_lay : ByteArray := prog_3_method_3_code
def yX1_lay : MethodName := ⟨RX1, "lay", "(II)V"⟩
abbrev cX1_laySingle : ByteArray := prog_3_method_4_code
def yX1_laySingle : MethodName := ⟨RX1, "laySingle", "(ILUnwindTower$Place;)V"⟩
abbrev cX1_layIf : ByteArray := prog_3_method_5_code
def yX1_layIf : MethodName := ⟨RX1, "layIf", "(II)V"⟩
abbrev cX1_layLoop : ByteArray := prog_3_method_6_code
def yX1_layLoop : MethodName := ⟨RX1, "layLoop", "(II)V"⟩
abbrev cX1_layBreak : ByteArray := prog_3_method_7_code
def yX1_layBreak : MethodName := ⟨RX1, "layBreak", "(II)V"⟩
abbrev cX1_layReturn : ByteArray := prog_3_method_8_code
def yX1_layReturn : MethodName := ⟨RX1, "layReturn", "(II)V"⟩
abbrev cX1_layWayOut : ByteArray := prog_3_method_9_code
def yX1_layWayOut : MethodName := ⟨RX1, "layWayOut", "(II)V"⟩
abbrev cX1_layTry : ByteArray := prog_3_method_10_code
def yX1_layTry : MethodName := ⟨RX1, "layTry", "(II)V"⟩
abbrev cX1_layCatch : ByteArray := prog_3_method_11_code
def yX1_layCatch : MethodName := ⟨RX1, "layCatch", "(III)V"⟩
abbrev cX1_layFinally : ByteArray := prog_3_method_12_code
def yX1_layFinally : MethodName := ⟨RX1, "layFinally", "(III)V"⟩
abbrev cX1_layUsing : ByteArray := prog_3_method_13_code
def yX1_layUsing : MethodName := ⟨RX1, "layUsing", "(II)V"⟩
abbrev cX1_layClose : ByteArray := prog_3_method_14_code
def yX1_layClose : MethodName := ⟨RX1, "layClose", "(II)V"⟩
abbrev cX1_layCatchRows : ByteArray := prog_3_method_15_code
def yX1_layCatchRows : MethodName := ⟨RX1, "layCatchRows", "(IIII)V"⟩
abbrev cX1_layFinallyRows : ByteArray := prog_3_method_16_code
def yX1_layFinallyRows : MethodName := ⟨RX1, "layFinallyRows", "(IIIII)V"⟩
abbrev cX1_layRows : ByteArray := prog_3_method_17_code
def yX1_layRows : MethodName := ⟨RX1, "layRows", "(IIIII)V"⟩
abbrev cX1_isGuarded : ByteArray := prog_3_method_18_code
def yX1_isGuarded : MethodName := ⟨RX1, "isGuarded", "(II)Z"⟩
abbrev cX1_placeAt : ByteArray := prog_3_method_19_code
def yX1_placeAt : MethodName := ⟨RX1, "placeAt", "(I)LUnwindTower$Place;"⟩
abbrev cX1_inner : ByteArray := prog_3_method_20_code
def yX1_inner : MethodName := ⟨RX1, "inner", "(I)LUnwindTower$Place;"⟩
abbrev cX1_inner_ : ByteArray := prog_3_method_21_code
def yX1_inner_ : MethodName := ⟨RX1, "inner", "(II)LUnwindTower$Place;"⟩
abbrev cX1_newGuard : ByteArray := prog_3_method_22_code
def yX1_newGuard : MethodName := ⟨RX1, "newGuard", "(II)I"⟩
abbrev cX1_newLabel : ByteArray := prog_3_method_23_code
def yX1_newLabel : MethodName := ⟨RX1, "newLabel", "()I"⟩
abbrev cX1_emit : ByteArray := prog_3_method_24_code
def yX1_emit : MethodName := ⟨RX1, "emit", "(IIIIII)V"⟩
abbrev cX1_emitTo : ByteArray := prog_3_method_25_code
def yX1_emitTo : MethodName := ⟨RX1, "emitTo", "(IIIII)V"⟩
abbrev cX1_settle : ByteArray := prog_3_method_26_code
def yX1_settle : MethodName := ⟨RX1, "settle", "(II)V"⟩
def RX2 : String := "UnwindTower$Faults"
def TX2 : u_T := fun k => match k with
  | 0 => ("UnwindTower$Faults", "program", "LUnwindTower$Program;", true)
  | 1 => ("UnwindTower$Faults", "cells", "[I", true)
  | 2 => ("UnwindTower$Faults", "stack", "[I", true)
  | 3 => ("UnwindTower$Faults", "top", "I", false)
  | _ => ("UnwindTower$Faults", "count", "I", false)
def tyX2 : Nat → FieldType := fun k => match k with
  | 0 => .object "UnwindTower$Program"
  | 1 => .array .int
  | 2 => .array .int
  | 3 => .int
  | _ => .int
abbrev wsX20 : List Cond := u_ws RX2 TX2 5
theorem nmX2 : ∀ a, a < 5 → ∀ b, b < 5 → a ≠ b → (TX2 a).2.1 ≠ (TX2 b).2.1 := by decide +kernel
theorem tyX2_ok : ∀ k, k < 5 → parseFieldDescriptor (TX2 k).2.2.1 = some (tyX2 k) := by decide +kernel
abbrev cX2_init : ByteArray := prog_4_method_1_code
def yX2_init : MethodName := ⟨RX2, "<init>", "(LUnwindTower$Program;)V"⟩
abbrev cX2_read : ByteArray := prog_4_method_2_code
def yX2_read : MethodName := ⟨RX2, "read", "(II)I"⟩
abbrev cX2_add : ByteArray := prog_4_method_3_code
def yX2_add : MethodName := ⟨RX2, "add", "(IIII)V"⟩
abbrev cX2_find : ByteArray := prog_4_method_4_code
def yX2_find : MethodName := ⟨RX2, "find", "()V"⟩
abbrev cX2_findInNodes : ByteArray := prog_4_method_5_code
def yX2_findInNodes : MethodName := ⟨RX2, "findInNodes", "(II)V"⟩
abbrev cX2_push : ByteArray := prog_4_method_6_code
def yX2_push : MethodName := ⟨RX2, "push", "(I)V"⟩
abbrev cX2_faultOf : ByteArray := prog_4_method_7_code
def yX2_faultOf : MethodName := ⟨RX2, "faultOf", "(I)I"⟩
abbrev cX2_faultOfCatch : ByteArray := prog_4_method_8_code
def yX2_faultOfCatch : MethodName := ⟨RX2, "faultOfCatch", "(I)I"⟩
abbrev cX2_findUntold : ByteArray := prog_4_method_9_code
def yX2_findUntold : MethodName := ⟨RX2, "findUntold", "(I)V"⟩
def RX3 : String := "UnwindTower$Frame"
def TX3 : u_T := fun k => match k with
  | 0 => ("UnwindTower$Frame", "procedure", "I", false)
  | 1 => ("UnwindTower$Frame", "place", "I", false)
  | 2 => ("UnwindTower$Frame", "variable", "I", false)
  | 3 => ("UnwindTower$Frame", "node", "I", false)
  | 4 => ("UnwindTower$Frame", "caught", "[I", true)
  | _ => ("UnwindTower$Frame", "held", "[I", true)
def tyX3 : Nat → FieldType := fun k => match k with
  | 0 => .int
  | 1 => .int
  | 2 => .int
  | 3 => .int
  | 4 => .array .int
  | _ => .array .int
abbrev wsX30 : List Cond := u_ws RX3 TX3 6
theorem nmX3 : ∀ a, a < 6 → ∀ b, b < 6 → a ≠ b → (TX3 a).2.1 ≠ (TX3 b).2.1 := by decide +kernel
theorem tyX3_ok : ∀ k, k < 6 → parseFieldDescriptor (TX3 k).2.2.1 = some (tyX3 k) := by decide +kernel
abbrev cX3_init : ByteArray := prog_5_method_1_code
def yX3_init : MethodName := ⟨RX3, "<init>", "()V"⟩
def RX4 : String := "UnwindTower$Machine"
def TX4 : u_T := fun k => match k with
  | 0 => ("UnwindTower$Machine", "program", "LUnwindTower$Program;", true)
  | 1 => ("UnwindTower$Machine", "codes", "[LUnwindTower$Code;", true)
  | 2 => ("UnwindTower$Machine", "table", "LUnwindTower$Table;", true)
  | 3 => ("UnwindTower$Machine", "thrown", "LUnwindTower$Thrown;", true)
  | 4 => ("UnwindTower$Machine", "told", "[I", true)
  | 5 => ("UnwindTower$Machine", "variables", "[I", true)
  | 6 => ("UnwindTower$Machine", "slots", "[I", true)
  | 7 => ("UnwindTower$Machine", "begun", "[I", true)
  | 8 => ("UnwindTower$Machine", "called", "[I", true)
  | 9 => ("UnwindTower$Machine", "prints", "[I", true)
  | 10 => ("UnwindTower$Machine", "printSum", "J", false)
  | 11 => ("UnwindTower$Machine", "frames", "[LUnwindTower$Frame;", true)
  | 12 => ("UnwindTower$Machine", "depth", "I", false)
  | 13 => ("UnwindTower$Machine", "most", "I", false)
  | 14 => ("UnwindTower$Machine", "deep", "I", false)
  | 15 => ("UnwindTower$Machine", "isRunning", "Z", false)
  | 16 => ("UnwindTower$Machine", "flying", "I", false)
  | _ => ("UnwindTower$Machine", "isFlying", "Z", false)
def tyX4 : Nat → FieldType := fun k => match k with
  | 0 => .object "UnwindTower$Program"
  | 1 => .array (.object "UnwindTower$Code")
  | 2 => .object "UnwindTower$Table"
  | 3 => .object "UnwindTower$Thrown"
  | 4 => .array .int
  | 5 => .array .int
  | 6 => .array .int
  | 7 => .array .int
  | 8 => .array .int
  | 9 => .array .int
  | 10 => .long
  | 11 => .array (.object "UnwindTower$Frame")
  | 12 => .int
  | 13 => .int
  | 14 => .int
  | 15 => .boolean
  | 16 => .int
  | _ => .boolean
abbrev wsX40 : List Cond := u_ws RX4 TX4 18
theorem nmX4 : ∀ a, a < 18 → ∀ b, b < 18 → a ≠ b → (TX4 a).2.1 ≠ (TX4 b).2.1 := by decide +kernel
theorem tyX4_ok : ∀ k, k < 18 → parseFieldDescriptor (TX4 k).2.2.1 = some (tyX4 k) := by decide +kernel
abbrev cX4_init : ByteArray := prog_6_method_1_code
def yX4_init : MethodName := ⟨RX4, "<init>", "(LUnwindTower$Program;[LUnwindTower$Code;LUnwindTower$Table;)V"⟩
abbrev cX4_keptPrints : ByteArray := prog_6_method_2_code
def yX4_keptPrints : MethodName := ⟨RX4, "keptPrints", "()I"⟩
abbrev cX4_readPrint : ByteArray := prog_6_method_3_code
def yX4_readPrint : MethodName := ⟨RX4, "readPrint", "(II)I"⟩
abbrev cX4_perform : ByteArray := prog_6_method_4_code
def yX4_perform : MethodName := ⟨RX4, "perform", "(II)V"⟩
abbrev cX4_clear : ByteArray := prog_6_method_5_code
def yX4_clear : MethodName := ⟨RX4, "clear", "()V"⟩
abbrev cX4_performNext : ByteArray := prog_6_method_6_code
def yX4_performNext : MethodName := ⟨RX4, "performNext", "()V"⟩
abbrev cX4_begin : ByteArray := prog_6_method_7_code
def yX4_begin : MethodName := ⟨RX4, "begin", "(LUnwindTower$Code;I)Z"⟩
abbrev cX4_performSafe : ByteArray := prog_6_method_8_code
def yX4_performSafe : MethodName := ⟨RX4, "performSafe", "(LUnwindTower$Code;ILUnwindTower$Frame;)V"⟩
abbrev cX4_performRisky : ByteArray := prog_6_method_9_code
def yX4_performRisky : MethodName := ⟨RX4, "performRisky", "(LUnwindTower$Code;ILUnwindTower$Frame;)V"⟩
abbrev cX4_valueOf : ByteArray := prog_6_method_10_code
def yX4_valueOf : MethodName := ⟨RX4, "valueOf", "(I)I"⟩
abbrev cX4_print : ByteArray := prog_6_method_11_code
def yX4_print : MethodName := ⟨RX4, "print", "(II)V"⟩
abbrev cX4_divide : ByteArray := prog_6_method_12_code
def yX4_divide : MethodName := ⟨RX4, "divide", "(IILUnwindTower$Frame;I)V"⟩
abbrev cX4_link : ByteArray := prog_6_method_13_code
def yX4_link : MethodName := ⟨RX4, "link", "(IILUnwindTower$Frame;I)V"⟩
abbrev cX4_throwHeld : ByteArray := prog_6_method_14_code
def yX4_throwHeld : MethodName := ⟨RX4, "throwHeld", "(II)V"⟩
abbrev cX4_suppress : ByteArray := prog_6_method_15_code
def yX4_suppress : MethodName := ⟨RX4, "suppress", "(I)V"⟩
abbrev cX4_enter : ByteArray := prog_6_method_16_code
def yX4_enter : MethodName := ⟨RX4, "enter", "(III)V"⟩
abbrev cX4_leave : ByteArray := prog_6_method_17_code
def yX4_leave : MethodName := ⟨RX4, "leave", "(LUnwindTower$Frame;I)V"⟩
abbrev cX4_raise : ByteArray := prog_6_method_18_code
def yX4_raise : MethodName := ⟨RX4, "raise", "(IIII)V"⟩
abbrev cX4_fly : ByteArray := prog_6_method_19_code
def yX4_fly : MethodName := ⟨RX4, "fly", "(I)V"⟩
abbrev cX4_unwind : ByteArray := prog_6_method_20_code
def yX4_unwind : MethodName := ⟨RX4, "unwind", "()V"⟩
abbrev cX4_placeFor : ByteArray := prog_6_method_21_code
def yX4_placeFor : MethodName := ⟨RX4, "placeFor", "(LUnwindTower$Code;I)I"⟩
def RX5 : String := "UnwindTower$Place"
def TX5 : u_T := fun k => match k with
  | 0 => ("UnwindTower$Place", "guard", "I", false)
  | 1 => ("UnwindTower$Place", "caughts", "I", false)
  | 2 => ("UnwindTower$Place", "finallys", "I", false)
  | 3 => ("UnwindTower$Place", "catchCaught", "I", false)
  | 4 => ("UnwindTower$Place", "loopLabel", "I", false)
  | _ => ("UnwindTower$Place", "loopGuard", "I", false)
def tyX5 : Nat → FieldType := fun k => match k with
  | 0 => .int
  | 1 => .int
  | 2 => .int
  | 3 => .int
  | 4 => .int
  | _ => .int
abbrev wsX50 : List Cond := u_ws RX5 TX5 6
theorem nmX5 : ∀ a, a < 6 → ∀ b, b < 6 → a ≠ b → (TX5 a).2.1 ≠ (TX5 b).2.1 := by decide +kernel
theorem tyX5_ok : ∀ k, k < 6 → parseFieldDescriptor (TX5 k).2.2.1 = some (tyX5 k) := by decide +kernel
abbrev cX5_init : ByteArray := prog_7_method_1_code
def yX5_init : MethodName := ⟨RX5, "<init>", "()V"⟩
abbrev cX5_copy : ByteArray := prog_7_method_2_code
def yX5_copy : MethodName := ⟨RX5, "copy", "(LUnwindTower$Place;)V"⟩
def RX6 : String := "UnwindTower$Program"
def TX6 : u_T := fun k => match k with
  | 0 => ("UnwindTower$Program", "kinds", "I", false)
  | 1 => ("UnwindTower$Program", "parents", "[I", true)
  | 2 => ("UnwindTower$Program", "checked", "[I", true)
  | 3 => ("UnwindTower$Program", "below", "[I", true)
  | 4 => ("UnwindTower$Program", "procedures", "I", false)
  | 5 => ("UnwindTower$Program", "tells", "[I", true)
  | 6 => ("UnwindTower$Program", "bodies", "[I", true)
  | 7 => ("UnwindTower$Program", "nodes", "I", false)
  | 8 => ("UnwindTower$Program", "sorts", "[I", true)
  | 9 => ("UnwindTower$Program", "as", "[I", true)
  | 10 => ("UnwindTower$Program", "bs", "[I", true)
  | 11 => ("UnwindTower$Program", "cs", "[I", true)
  | 12 => ("UnwindTower$Program", "around", "[I", true)
  | 13 => ("UnwindTower$Program", "bodyOf", "[I", true)
  | 14 => ("UnwindTower$Program", "in", "[I", true)
  | 15 => ("UnwindTower$Program", "catchAround", "[I", true)
  | 16 => ("UnwindTower$Program", "loopAround", "[I", true)
  | 17 => ("UnwindTower$Program", "can", "[I", true)
  | _ => ("UnwindTower$Program", "never", "[I", true)
def tyX6 : Nat → FieldType := fun k => match k with
  | 0 => .int
  | 1 => .array .int
  | 2 => .array .int
  | 3 => .array .int
  | 4 => .int
  | 5 => .array .int
  | 6 => .array .int
  | 7 => .int
  | 8 => .array .int
  | 9 => .array .int
  | 10 => .array .int
  | 11 => .array .int
  | 12 => .array .int
  | 13 => .array .int
  | 14 => .array .int
  | 15 => .array .int
  | 16 => .array .int
  | 17 => .array .int
  | _ => .array .int
abbrev wsX60 : List Cond := u_ws RX6 TX6 19
theorem nmX6 : ∀ a, a < 19 → ∀ b, b < 19 → a ≠ b → (TX6 a).2.1 ≠ (TX6 b).2.1 := by decide +kernel
theorem tyX6_ok : ∀ k, k < 19 → parseFieldDescriptor (TX6 k).2.2.1 = some (tyX6 k) := by decide +kernel
abbrev cX6_init : ByteArray := prog_8_method_1_code
def yX6_init : MethodName := ⟨RX6, "<init>", "()V"⟩
abbrev cX6_hasKind : ByteArray := prog_8_method_2_code
def yX6_hasKind : MethodName := ⟨RX6, "hasKind", "(I)Z"⟩
abbrev cX6_hasProcedure : ByteArray := prog_8_method_3_code
def yX6_hasProcedure : MethodName := ⟨RX6, "hasProcedure", "(I)Z"⟩
abbrev cX6_hasNode : ByteArray := prog_8_method_4_code
def yX6_hasNode : MethodName := ⟨RX6, "hasNode", "(I)Z"⟩
abbrev cX6_isSet : ByteArray := prog_8_method_5_code
def yX6_isSet : MethodName := ⟨RX6, "isSet", "(I)Z"⟩
abbrev cX6_isStatement : ByteArray := prog_8_method_6_code
def yX6_isStatement : MethodName := ⟨RX6, "isStatement", "(I)Z"⟩
abbrev cX6_isFree : ByteArray := prog_8_method_7_code
def yX6_isFree : MethodName := ⟨RX6, "isFree", "(I)Z"⟩
abbrev cX6_isAtOrBelow : ByteArray := prog_8_method_8_code
def yX6_isAtOrBelow : MethodName := ⟨RX6, "isAtOrBelow", "(II)Z"⟩
abbrev cX6_addKind : ByteArray := prog_8_method_9_code
def yX6_addKind : MethodName := ⟨RX6, "addKind", "(IZ)I"⟩
abbrev cX6_addProcedure : ByteArray := prog_8_method_10_code
def yX6_addProcedure : MethodName := ⟨RX6, "addProcedure", "(I)I"⟩
abbrev cX6_setBody : ByteArray := prog_8_method_11_code
def yX6_setBody : MethodName := ⟨RX6, "setBody", "(II)I"⟩
abbrev cX6_addNode : ByteArray := prog_8_method_12_code
def yX6_addNode : MethodName := ⟨RX6, "addNode", "(IIII)I"⟩
abbrev cX6_partA : ByteArray := prog_8_method_13_code
def yX6_partA : MethodName := ⟨RX6, "partA", "(I)I"⟩
abbrev cX6_partB : ByteArray := prog_8_method_14_code
def yX6_partB : MethodName := ⟨RX6, "partB", "(I)I"⟩
abbrev cX6_partC : ByteArray := prog_8_method_15_code
def yX6_partC : MethodName := ⟨RX6, "partC", "(I)I"⟩
abbrev cX6_isNode : ByteArray := prog_8_method_16_code
def yX6_isNode : MethodName := ⟨RX6, "isNode", "(IIII)Z"⟩
abbrev cX6_isTry : ByteArray := prog_8_method_17_code
def yX6_isTry : MethodName := ⟨RX6, "isTry", "(III)Z"⟩
abbrev cX6_isUsing : ByteArray := prog_8_method_18_code
def yX6_isUsing : MethodName := ⟨RX6, "isUsing", "(III)Z"⟩
abbrev cX6_isVariable : ByteArray := prog_8_method_19_code
def yX6_isVariable : MethodName := ⟨RX6, "isVariable", "(I)Z"⟩
abbrev cX6_isOperand : ByteArray := prog_8_method_20_code
def yX6_isOperand : MethodName := ⟨RX6, "isOperand", "(I)Z"⟩
abbrev cX6_isFreeStatement : ByteArray := prog_8_method_21_code
def yX6_isFreeStatement : MethodName := ⟨RX6, "isFreeStatement", "(I)Z"⟩
abbrev cX6_isFreeCatch : ByteArray := prog_8_method_22_code
def yX6_isFreeCatch : MethodName := ⟨RX6, "isFreeCatch", "(I)Z"⟩
abbrev cX6_derive : ByteArray := prog_8_method_23_code
def yX6_derive : MethodName := ⟨RX6, "derive", "()V"⟩
abbrev cX6_deriveFromAround : ByteArray := prog_8_method_24_code
def yX6_deriveFromAround : MethodName := ⟨RX6, "deriveFromAround", "(I)V"⟩
abbrev cX6_canOf : ByteArray := prog_8_method_25_code
def yX6_canOf : MethodName := ⟨RX6, "canOf", "(I)I"⟩
abbrev cX6_toldOf : ByteArray := prog_8_method_26_code
def yX6_toldOf : MethodName := ⟨RX6, "toldOf", "(I)I"⟩
abbrev cX6_canOfPart : ByteArray := prog_8_method_27_code
def yX6_canOfPart : MethodName := ⟨RX6, "canOfPart", "(I)I"⟩
abbrev cX6_canOfTry : ByteArray := prog_8_method_28_code
def yX6_canOfTry : MethodName := ⟨RX6, "canOfTry", "(I)I"⟩
abbrev cX6_canOfBody : ByteArray := prog_8_method_29_code
def yX6_canOfBody : MethodName := ⟨RX6, "canOfBody", "(I)I"⟩
abbrev cX6_neverEnds : ByteArray := prog_8_method_30_code
def yX6_neverEnds : MethodName := ⟨RX6, "neverEnds", "(I)Z"⟩
abbrev cX6_isNever : ByteArray := prog_8_method_31_code
def yX6_isNever : MethodName := ⟨RX6, "isNever", "(I)Z"⟩
abbrev cX6_neverPastTry : ByteArray := prog_8_method_32_code
def yX6_neverPastTry : MethodName := ⟨RX6, "neverPastTry", "(I)Z"⟩
abbrev cX6_countCatches : ByteArray := prog_8_method_33_code
def yX6_countCatches : MethodName := ⟨RX6, "countCatches", "(I)I"⟩
abbrev cX6_countInNone : ByteArray := prog_8_method_34_code
def yX6_countInNone : MethodName := ⟨RX6, "countInNone", "()I"⟩
abbrev cX6_catchOf : ByteArray := prog_8_method_35_code
def yX6_catchOf : MethodName := ⟨RX6, "catchOf", "(II)I"⟩
abbrev cX6_firstCatch : ByteArray := prog_8_method_36_code
def yX6_firstCatch : MethodName := ⟨RX6, "firstCatch", "(II)I"⟩
def RX7 : String := "UnwindTower$Table"
def TX7 : u_T := fun k => match k with
  | 0 => ("UnwindTower$Table", "cells", "[I", false)
  | _ => ("UnwindTower$Table", "count", "I", false)
def tyX7 : Nat → FieldType := fun k => match k with
  | 0 => .array .int
  | _ => .int
abbrev wsX70 : List Cond := u_ws RX7 TX7 2
theorem nmX7 : ∀ a, a < 2 → ∀ b, b < 2 → a ≠ b → (TX7 a).2.1 ≠ (TX7 b).2.1 := by decide +kernel
theorem tyX7_ok : ∀ k, k < 2 → parseFieldDescriptor (TX7 k).2.2.1 = some (tyX7 k) := by decide +kernel
abbrev cX7_init : ByteArray := prog_9_method_1_code
def yX7_init : MethodName := ⟨RX7, "<init>", "()V"⟩
abbrev cX7_add : ByteArray := prog_9_method_2_code
def yX7_add : MethodName := ⟨RX7, "add", "(IIII)V"⟩
abbrev cX7_read : ByteArray := prog_9_method_3_code
def yX7_read : MethodName := ⟨RX7, "read", "(II)I"⟩
def RX8 : String := "UnwindTower$Thrown"
def TX8 : u_T := fun k => match k with
  | 0 => ("UnwindTower$Thrown", "made", "I", false)
  | 1 => ("UnwindTower$Thrown", "suppressions", "I", false)
  | 2 => ("UnwindTower$Thrown", "kinds", "[I", true)
  | 3 => ("UnwindTower$Thrown", "causes", "[I", true)
  | 4 => ("UnwindTower$Thrown", "ofEachKind", "[I", true)
  | 5 => ("UnwindTower$Thrown", "numbers", "[I", true)
  | 6 => ("UnwindTower$Thrown", "traceLength", "[I", true)
  | 7 => ("UnwindTower$Thrown", "traces", "[I", true)
  | 8 => ("UnwindTower$Thrown", "under", "[I", true)
  | 9 => ("UnwindTower$Thrown", "firstUnder", "[I", true)
  | 10 => ("UnwindTower$Thrown", "lastUnder", "[I", true)
  | 11 => ("UnwindTower$Thrown", "whichUnder", "[I", true)
  | _ => ("UnwindTower$Thrown", "nextUnder", "[I", true)
def tyX8 : Nat → FieldType := fun k => match k with
  | 0 => .int
  | 1 => .int
  | 2 => .array .int
  | 3 => .array .int
  | 4 => .array .int
  | 5 => .array .int
  | 6 => .array .int
  | 7 => .array .int
  | 8 => .array .int
  | 9 => .array .int
  | 10 => .array .int
  | 11 => .array .int
  | _ => .array .int
abbrev wsX80 : List Cond := u_ws RX8 TX8 13
theorem nmX8 : ∀ a, a < 13 → ∀ b, b < 13 → a ≠ b → (TX8 a).2.1 ≠ (TX8 b).2.1 := by decide +kernel
theorem tyX8_ok : ∀ k, k < 13 → parseFieldDescriptor (TX8 k).2.2.1 = some (tyX8 k) := by decide +kernel
abbrev cX8_init : ByteArray := prog_10_method_1_code
def yX8_init : MethodName := ⟨RX8, "<init>", "()V"⟩
abbrev cX8_clear : ByteArray := prog_10_method_2_code
def yX8_clear : MethodName := ⟨RX8, "clear", "()V"⟩
abbrev cX8_isKept : ByteArray := prog_10_method_3_code
def yX8_isKept : MethodName := ⟨RX8, "isKept", "(I)Z"⟩
abbrev cX8_make : ByteArray := prog_10_method_4_code
def yX8_make : MethodName := ⟨RX8, "make", "(III)I"⟩
abbrev cX8_addTrace : ByteArray := prog_10_method_5_code
def yX8_addTrace : MethodName := ⟨RX8, "addTrace", "(II)V"⟩
abbrev cX8_readTrace : ByteArray := prog_10_method_6_code
def yX8_readTrace : MethodName := ⟨RX8, "readTrace", "(II)I"⟩
abbrev cX8_suppress : ByteArray := prog_10_method_7_code
def yX8_suppress : MethodName := ⟨RX8, "suppress", "(II)V"⟩
abbrev cX8_setCause : ByteArray := prog_10_method_8_code
def yX8_setCause : MethodName := ⟨RX8, "setCause", "(II)V"⟩
abbrev cX8_isBehind : ByteArray := prog_10_method_9_code
def yX8_isBehind : MethodName := ⟨RX8, "isBehind", "(II)Z"⟩
abbrev cX8_read : ByteArray := prog_10_method_10_code
def yX8_read : MethodName := ⟨RX8, "read", "(II)I"⟩
def RX9 : String := "UnwindTower"
def TX9 : u_T := fun k => match k with
  | 0 => ("UnwindTower", "program", "LUnwindTower$Program;", true)
  | 1 => ("UnwindTower", "faults", "LUnwindTower$Faults;", true)
  | 2 => ("UnwindTower", "table", "LUnwindTower$Table;", true)
  | 3 => ("UnwindTower", "codes", "[LUnwindTower$Code;", true)
  | 4 => ("UnwindTower", "compiler", "LUnwindTower$Compiler;", true)
  | 5 => ("UnwindTower", "machine", "LUnwindTower$Machine;", true)
  | 6 => ("UnwindTower", "spare", "LUnwindTower$Machine;", true)
  | 7 => ("UnwindTower", "isPruned", "Z", false)
  | 8 => ("UnwindTower", "isStale", "Z", false)
  | 9 => ("UnwindTower", "most", "I", false)
  | 10 => ("UnwindTower", "deep", "I", false)
  | _ => ("UnwindTower", "runs", "I", false)
def tyX9 : Nat → FieldType := fun k => match k with
  | 0 => .object "UnwindTower$Program"
  | 1 => .object "UnwindTower$Faults"
  | 2 => .object "UnwindTower$Table"
  | 3 => .array (.object "UnwindTower$Code")
  | 4 => .object "UnwindTower$Compiler"
  | 5 => .object "UnwindTower$Machine"
  | 6 => .object "UnwindTower$Machine"
  | 7 => .boolean
  | 8 => .boolean
  | 9 => .int
  | 10 => .int
  | _ => .int
abbrev wsX90 : List Cond := u_ws RX9 TX9 12
theorem nmX9 : ∀ a, a < 12 → ∀ b, b < 12 → a ≠ b → (TX9 a).2.1 ≠ (TX9 b).2.1 := by decide +kernel
theorem tyX9_ok : ∀ k, k < 12 → parseFieldDescriptor (TX9 k).2.2.1 = some (tyX9 k) := by decide +kernel
abbrev cX9_init : ByteArray := prog_1_method_1_code
def yX9_init : MethodName := ⟨RX9, "<init>", "()V"⟩
abbrev cX9_kind : ByteArray := prog_1_method_2_code
def yX9_kind : MethodName := ⟨RX9, "kind", "(IZ)I"⟩
abbrev cX9_ofKind : ByteArray := prog_1_method_3_code
def yX9_ofKind : MethodName := ⟨RX9, "ofKind", "(II)I"⟩
abbrev cX9_procedure : ByteArray := prog_1_method_4_code
def yX9_procedure : MethodName := ⟨RX9, "procedure", "(I)I"⟩
abbrev cX9_tell : ByteArray := prog_1_method_5_code
def yX9_tell : MethodName := ⟨RX9, "tell", "(II)I"⟩
abbrev cX9_ofProcedure : ByteArray := prog_1_method_6_code
def yX9_ofProcedure : MethodName := ⟨RX9, "ofProcedure", "(II)I"⟩
abbrev cX9_node : ByteArray := prog_1_method_7_code
def yX9_node : MethodName := ⟨RX9, "node", "(IIII)I"⟩
abbrev cX9_body : ByteArray := prog_1_method_8_code
def yX9_body : MethodName := ⟨RX9, "body", "(II)I"⟩
abbrev cX9_ofNode : ByteArray := prog_1_method_9_code
def yX9_ofNode : MethodName := ⟨RX9, "ofNode", "(II)I"⟩
abbrev cX9_fault : ByteArray := prog_1_method_10_code
def yX9_fault : MethodName := ⟨RX9, "fault", "(II)I"⟩
abbrev cX9_prune : ByteArray := prog_1_method_11_code
def yX9_prune : MethodName := ⟨RX9, "prune", "(Z)Z"⟩
abbrev cX9_code : ByteArray := prog_1_method_12_code
def yX9_code : MethodName := ⟨RX9, "code", "(III)I"⟩
abbrev cX9_row : ByteArray := prog_1_method_13_code
def yX9_row : MethodName := ⟨RX9, "row", "(III)I"⟩
abbrev cX9_limits : ByteArray := prog_1_method_14_code
def yX9_limits : MethodName := ⟨RX9, "limits", "(II)I"⟩
abbrev cX9_run : ByteArray := prog_1_method_15_code
def yX9_run : MethodName := ⟨RX9, "run", "()I"⟩
abbrev cX9_ofRun : ByteArray := prog_1_method_16_code
def yX9_ofRun : MethodName := ⟨RX9, "ofRun", "(I)I"⟩
abbrev cX9_printed : ByteArray := prog_1_method_17_code
def yX9_printed : MethodName := ⟨RX9, "printed", "(II)I"⟩
abbrev cX9_exception : ByteArray := prog_1_method_18_code
def yX9_exception : MethodName := ⟨RX9, "exception", "(II)I"⟩
abbrev cX9_suppressed : ByteArray := prog_1_method_19_code
def yX9_suppressed : MethodName := ⟨RX9, "suppressed", "(II)I"⟩
abbrev cX9_trace : ByteArray := prog_1_method_20_code
def yX9_trace : MethodName := ⟨RX9, "trace", "(II)I"⟩
abbrev cX9_held : ByteArray := prog_1_method_21_code
def yX9_held : MethodName := ⟨RX9, "held", "(I)I"⟩
abbrev cX9_meanPrinted : ByteArray := prog_1_method_22_code
def yX9_meanPrinted : MethodName := ⟨RX9, "meanPrinted", "()D"⟩
abbrev cX9_many : ByteArray := prog_1_method_23_code
def yX9_many : MethodName := ⟨RX9, "many", "(I)I"⟩
abbrev cX9_wouldRun : ByteArray := prog_1_method_24_code
def yX9_wouldRun : MethodName := ⟨RX9, "wouldRun", "(III)I"⟩
abbrev cX9_catcher : ByteArray := prog_1_method_25_code
def yX9_catcher : MethodName := ⟨RX9, "catcher", "(II)I"⟩
abbrev cX9_faultsWith : ByteArray := prog_1_method_26_code
def yX9_faultsWith : MethodName := ⟨RX9, "faultsWith", "(II)I"⟩
abbrev cX9_digest : ByteArray := prog_1_method_27_code
def yX9_digest : MethodName := ⟨RX9, "digest", "()J"⟩
abbrev cX9_digestProcedure : ByteArray := prog_1_method_28_code
def yX9_digestProcedure : MethodName := ⟨RX9, "digestProcedure", "(JI)J"⟩
abbrev cX9_digestRun : ByteArray := prog_1_method_29_code
def yX9_digestRun : MethodName := ⟨RX9, "digestRun", "(J)J"⟩
abbrev cX9_digestException : ByteArray := prog_1_method_30_code
def yX9_digestException : MethodName := ⟨RX9, "digestException", "(JI)J"⟩
abbrev cX9_readKind : ByteArray := prog_1_method_31_code
def yX9_readKind : MethodName := ⟨RX9, "readKind", "(II)I"⟩
abbrev cX9_readProcedure : ByteArray := prog_1_method_32_code
def yX9_readProcedure : MethodName := ⟨RX9, "readProcedure", "(II)I"⟩
abbrev cX9_readNode : ByteArray := prog_1_method_33_code
def yX9_readNode : MethodName := ⟨RX9, "readNode", "(II)I"⟩
abbrev cX9_readRun : ByteArray := prog_1_method_34_code
def yX9_readRun : MethodName := ⟨RX9, "readRun", "(I)I"⟩
abbrev cX9_readHeld : ByteArray := prog_1_method_35_code
def yX9_readHeld : MethodName := ⟨RX9, "readHeld", "(I)I"⟩
abbrev cX9_readMany : ByteArray := prog_1_method_36_code
def yX9_readMany : MethodName := ⟨RX9, "readMany", "(I)I"⟩
abbrev cX9_lengthOf : ByteArray := prog_1_method_37_code
def yX9_lengthOf : MethodName := ⟨RX9, "lengthOf", "(I)I"⟩
abbrev cX9_rowsOf : ByteArray := prog_1_method_38_code
def yX9_rowsOf : MethodName := ⟨RX9, "rowsOf", "(I)I"⟩
abbrev cX9_lengthOfAll : ByteArray := prog_1_method_39_code
def yX9_lengthOfAll : MethodName := ⟨RX9, "lengthOfAll", "()I"⟩
abbrev cX9_areLimits : ByteArray := prog_1_method_40_code
def yX9_areLimits : MethodName := ⟨RX9, "areLimits", "(II)Z"⟩
abbrev cX9_refresh : ByteArray := prog_1_method_41_code
def yX9_refresh : MethodName := ⟨RX9, "refresh", "()V"⟩
abbrev cX9_at : ByteArray := prog_1_method_42_code
def yX9_at : MethodName := ⟨RX9, "at", "([II)I"⟩
abbrev cX9_put : ByteArray := prog_1_method_43_code
def yX9_put : MethodName := ⟨RX9, "put", "([III)V"⟩
abbrev cX9_increment : ByteArray := prog_1_method_44_code
def yX9_increment : MethodName := ⟨RX9, "increment", "([II)V"⟩
abbrev cX9_codeAt : ByteArray := prog_1_method_45_code
def yX9_codeAt : MethodName := ⟨RX9, "codeAt", "([LUnwindTower$Code;I)LUnwindTower$Code;"⟩
def RX10 : String := "UnwindTowerModel$Code"
def TX10 : u_T := fun k => match k with
  | 0 => ("UnwindTowerModel$Code", "program", "LUnwindTowerModel$Program;", true)
  | 1 => ("UnwindTowerModel$Code", "isPruned", "Z", true)
  | 2 => ("UnwindTowerModel$Code", "list", "Ljava/util/ArrayList;", true)
  | 3 => ("UnwindTowerModel$Code", "rows", "Ljava/util/ArrayList;", true)
  | 4 => ("UnwindTowerModel$Code", "isTooLong", "Z", false)
  | 5 => ("UnwindTowerModel$Code", "around", "Ljava/util/ArrayList;", false)
  | 6 => ("UnwindTowerModel$Code", "caughts", "I", false)
  | 7 => ("UnwindTowerModel$Code", "finallys", "I", false)
  | _ => ("UnwindTowerModel$Code", "caughtOf", "[I", true)
def tyX10 : Nat → FieldType := fun k => match k with
  | 0 => .object "UnwindTowerModel$Program"
  | 1 => .boolean
  | 2 => .object "java/util/ArrayList"
  | 3 => .object "java/util/ArrayList"
  | 4 => .boolean
  | 5 => .object "java/util/ArrayList"
  | 6 => .int
  | 7 => .int
  | _ => .array .int
abbrev wsX100 : List Cond := u_ws RX10 TX10 9
theorem nmX10 : ∀ a, a < 9 → ∀ b, b < 9 → a ≠ b → (TX10 a).2.1 ≠ (TX10 b).2.1 := by decide +kernel
theorem tyX10_ok : ∀ k, k < 9 → parseFieldDescriptor (TX10 k).2.2.1 = some (tyX10 k) := by decide +kernel
abbrev cX10_init : ByteArray := prog_13_method_1_code
def yX10_init : MethodName := ⟨RX10, "<init>", "(LUnwindTowerModel$Program;IZ)V"⟩
abbrev cX10_put : ByteArray := prog_13_method_2_code
def yX10_put : MethodName := ⟨RX10, "put", "(IIII)I"⟩
abbrev cX10_aim : ByteArray := prog_13_method_3_code
def yX10_aim : MethodName := ⟨RX10, "aim", "(II)V"⟩
abbrev cX10_lay : ByteArray := prog_13_method_4_code
def yX10_lay : MethodName := ⟨RX10, "lay", "(I)V"⟩
abbrev cX10_layCaught : ByteArray := prog_13_method_5_code
def yX10_layCaught : MethodName := ⟨RX10, "layCaught", "(LUnwindTowerModel$Node;)V"⟩
abbrev cX10_layIf : ByteArray := prog_13_method_6_code
def yX10_layIf : MethodName := ⟨RX10, "layIf", "(LUnwindTowerModel$Node;)V"⟩
abbrev cX10_layLoop : ByteArray := prog_13_method_7_code
def yX10_layLoop : MethodName := ⟨RX10, "layLoop", "(LUnwindTowerModel$Node;)V"⟩
abbrev cX10_layOut : ByteArray := prog_13_method_8_code
def yX10_layOut : MethodName := ⟨RX10, "layOut", "(LUnwindTowerModel$Node;)V"⟩
abbrev cX10_layFinally : ByteArray := prog_13_method_9_code
def yX10_layFinally : MethodName := ⟨RX10, "layFinally", "(LUnwindTowerModel$Node;)V"⟩
abbrev cX10_layWithin : ByteArray := prog_13_method_10_code
def yX10_layWithin : MethodName := ⟨RX10, "layWithin", "(LUnwindTowerModel$Node;II)Ljava/util/ArrayList;"⟩
abbrev cX10_addPiece : ByteArray := prog_13_method_11_code
def yX10_addPiece : MethodName := ⟨RX10, "addPiece", "(Ljava/util/ArrayList;II)V"⟩
abbrev cX10_canThrow : ByteArray := prog_13_method_12_code
def yX10_canThrow : MethodName := ⟨RX10, "canThrow", "(I)Z"⟩
abbrev cX10_addRows : ByteArray := prog_13_method_13_code
def yX10_addRows : MethodName := ⟨RX10, "addRows", "(Ljava/util/ArrayList;II)V"⟩
abbrev cX10_layTry : ByteArray := prog_13_method_14_code
def yX10_layTry : MethodName := ⟨RX10, "layTry", "(LUnwindTowerModel$Node;)V"⟩
abbrev cX10_layUsing : ByteArray := prog_13_method_15_code
def yX10_layUsing : MethodName := ⟨RX10, "layUsing", "(LUnwindTowerModel$Node;)V"⟩
def RX11 : String := "UnwindTowerModel$Kind"
def TX11 : u_T := fun k => match k with
  | 0 => ("UnwindTowerModel$Kind", "parent", "I", true)
  | _ => ("UnwindTowerModel$Kind", "isChecked", "Z", true)
def tyX11 : Nat → FieldType := fun k => match k with
  | 0 => .int
  | _ => .boolean
abbrev wsX110 : List Cond := u_ws RX11 TX11 2
theorem nmX11 : ∀ a, a < 2 → ∀ b, b < 2 → a ≠ b → (TX11 a).2.1 ≠ (TX11 b).2.1 := by decide +kernel
theorem tyX11_ok : ∀ k, k < 2 → parseFieldDescriptor (TX11 k).2.2.1 = some (tyX11 k) := by decide +kernel
abbrev cX11_init : ByteArray := prog_14_method_1_code
def yX11_init : MethodName := ⟨RX11, "<init>", "(IZ)V"⟩
def RX12 : String := "UnwindTowerModel$Node"
def TX12 : u_T := fun k => match k with
  | 0 => ("UnwindTowerModel$Node", "number", "I", true)
  | 1 => ("UnwindTowerModel$Node", "sort", "I", true)
  | 2 => ("UnwindTowerModel$Node", "a", "I", true)
  | 3 => ("UnwindTowerModel$Node", "b", "I", true)
  | 4 => ("UnwindTowerModel$Node", "c", "I", true)
  | 5 => ("UnwindTowerModel$Node", "whole", "I", false)
  | _ => ("UnwindTowerModel$Node", "procedure", "I", false)
def tyX12 : Nat → FieldType := fun k => match k with
  | 0 => .int
  | 1 => .int
  | 2 => .int
  | 3 => .int
  | 4 => .int
  | 5 => .int
  | _ => .int
abbrev wsX120 : List Cond := u_ws RX12 TX12 7
theorem nmX12 : ∀ a, a < 7 → ∀ b, b < 7 → a ≠ b → (TX12 a).2.1 ≠ (TX12 b).2.1 := by decide +kernel
theorem tyX12_ok : ∀ k, k < 7 → parseFieldDescriptor (TX12 k).2.2.1 = some (tyX12 k) := by decide +kernel
abbrev cX12_init : ByteArray := prog_15_method_1_code
def yX12_init : MethodName := ⟨RX12, "<init>", "(IIIII)V"⟩
abbrev cX12_parts : ByteArray := prog_15_method_2_code
def yX12_parts : MethodName := ⟨RX12, "parts", "()Ljava/util/ArrayList;"⟩
abbrev cX12_isWithinCatch : ByteArray := prog_15_method_3_code
def yX12_isWithinCatch : MethodName := ⟨RX12, "isWithinCatch", "()Z"⟩
def RX13 : String := "UnwindTowerModel$Procedure"
def TX13 : u_T := fun k => match k with
  | 0 => ("UnwindTowerModel$Procedure", "tells", "I", false)
  | _ => ("UnwindTowerModel$Procedure", "body", "I", false)
def tyX13 : Nat → FieldType := fun k => match k with
  | 0 => .int
  | _ => .int
abbrev wsX130 : List Cond := u_ws RX13 TX13 2
theorem nmX13 : ∀ a, a < 2 → ∀ b, b < 2 → a ≠ b → (TX13 a).2.1 ≠ (TX13 b).2.1 := by decide +kernel
theorem tyX13_ok : ∀ k, k < 2 → parseFieldDescriptor (TX13 k).2.2.1 = some (tyX13 k) := by decide +kernel
abbrev cX13_init : ByteArray := prog_16_method_1_code
def yX13_init : MethodName := ⟨RX13, "<init>", "(I)V"⟩
def RX14 : String := "UnwindTowerModel$Program"
def TX14 : u_T := fun k => match k with
  | 0 => ("UnwindTowerModel$Program", "kinds", "Ljava/util/ArrayList;", true)
  | 1 => ("UnwindTowerModel$Program", "procedures", "Ljava/util/ArrayList;", true)
  | _ => ("UnwindTowerModel$Program", "nodes", "Ljava/util/ArrayList;", true)
def tyX14 : Nat → FieldType := fun k => match k with
  | 0 => .object "java/util/ArrayList"
  | 1 => .object "java/util/ArrayList"
  | _ => .object "java/util/ArrayList"
abbrev wsX140 : List Cond := u_ws RX14 TX14 3
theorem nmX14 : ∀ a, a < 3 → ∀ b, b < 3 → a ≠ b → (TX14 a).2.1 ≠ (TX14 b).2.1 := by decide +kernel
theorem tyX14_ok : ∀ k, k < 3 → parseFieldDescriptor (TX14 k).2.2.1 = some (tyX14 k) := by decide +kernel
abbrev cX14_init : ByteArray := prog_17_method_1_code
def yX14_init : MethodName := ⟨RX14, "<init>", "()V"⟩
abbrev cX14_of : ByteArray := prog_17_method_2_code
def yX14_of : MethodName := ⟨RX14, "of", "(I)LUnwindTowerModel$Node;"⟩
abbrev cX14_isBelow : ByteArray := prog_17_method_3_code
def yX14_isBelow : MethodName := ⟨RX14, "isBelow", "(II)Z"⟩
abbrev cX14_isChecked : ByteArray := prog_17_method_4_code
def yX14_isChecked : MethodName := ⟨RX14, "isChecked", "(I)Z"⟩
abbrev cX14_below : ByteArray := prog_17_method_5_code
def yX14_below : MethodName := ⟨RX14, "below", "(I)I"⟩
abbrev cX14_isOperand : ByteArray := prog_17_method_6_code
def yX14_isOperand : MethodName := ⟨RX14, "isOperand", "(I)Z"⟩
abbrev cX14_isVariable : ByteArray := prog_17_method_7_code
def yX14_isVariable : MethodName := ⟨RX14, "isVariable", "(I)Z"⟩
abbrev cX14_isKind : ByteArray := prog_17_method_8_code
def yX14_isKind : MethodName := ⟨RX14, "isKind", "(I)Z"⟩
abbrev cX14_isProcedure : ByteArray := prog_17_method_9_code
def yX14_isProcedure : MethodName := ⟨RX14, "isProcedure", "(I)Z"⟩
abbrev cX14_isSlot : ByteArray := prog_17_method_10_code
def yX14_isSlot : MethodName := ⟨RX14, "isSlot", "(I)Z"⟩
abbrev cX14_isPart : ByteArray := prog_17_method_11_code
def yX14_isPart : MethodName := ⟨RX14, "isPart", "(IZ)Z"⟩
abbrev cX14_isPartOrNone : ByteArray := prog_17_method_12_code
def yX14_isPartOrNone : MethodName := ⟨RX14, "isPartOrNone", "(IZ)Z"⟩
abbrev cX14_isNode : ByteArray := prog_17_method_13_code
def yX14_isNode : MethodName := ⟨RX14, "isNode", "(IIII)Z"⟩
abbrev cX14_procedureOf : ByteArray := prog_17_method_14_code
def yX14_procedureOf : MethodName := ⟨RX14, "procedureOf", "(I)I"⟩
abbrev cX14_catchAround : ByteArray := prog_17_method_15_code
def yX14_catchAround : MethodName := ⟨RX14, "catchAround", "(I)I"⟩
abbrev cX14_hasLoopAround : ByteArray := prog_17_method_16_code
def yX14_hasLoopAround : MethodName := ⟨RX14, "hasLoopAround", "(I)Z"⟩
abbrev cX14_tellsOf : ByteArray := prog_17_method_17_code
def yX14_tellsOf : MethodName := ⟨RX14, "tellsOf", "(I)I"⟩
abbrev cX14_can : ByteArray := prog_17_method_18_code
def yX14_can : MethodName := ⟨RX14, "can", "(I)I"⟩
abbrev cX14_canCaught : ByteArray := prog_17_method_19_code
def yX14_canCaught : MethodName := ⟨RX14, "canCaught", "(LUnwindTowerModel$Node;)I"⟩
abbrev cX14_neverEnds : ByteArray := prog_17_method_20_code
def yX14_neverEnds : MethodName := ⟨RX14, "neverEnds", "(I)Z"⟩
abbrev cX14_faults : ByteArray := prog_17_method_21_code
def yX14_faults : MethodName := ⟨RX14, "faults", "()Ljava/util/ArrayList;"⟩
abbrev cX14_isTold : ByteArray := prog_17_method_22_code
def yX14_isTold : MethodName := ⟨RX14, "isTold", "(II)Z"⟩
abbrev cX14_look : ByteArray := prog_17_method_23_code
def yX14_look : MethodName := ⟨RX14, "look", "(Ljava/util/ArrayList;II)V"⟩
abbrev cX14_faultOf : ByteArray := prog_17_method_24_code
def yX14_faultOf : MethodName := ⟨RX14, "faultOf", "(LUnwindTowerModel$Node;)I"⟩
abbrev cX14_faultOfCatch : ByteArray := prog_17_method_25_code
def yX14_faultOfCatch : MethodName := ⟨RX14, "faultOfCatch", "(LUnwindTowerModel$Node;)I"⟩
def RX15 : String := "UnwindTowerModel$Region"
def TX15 : u_T := fun k => match k with
  | 0 => ("UnwindTowerModel$Region", "its", "LUnwindTowerModel$Node;", true)
  | 1 => ("UnwindTowerModel$Region", "gaps", "Ljava/util/ArrayList;", true)
  | _ => ("UnwindTowerModel$Region", "breaks", "Ljava/util/ArrayList;", true)
def tyX15 : Nat → FieldType := fun k => match k with
  | 0 => .object "UnwindTowerModel$Node"
  | 1 => .object "java/util/ArrayList"
  | _ => .object "java/util/ArrayList"
abbrev wsX150 : List Cond := u_ws RX15 TX15 3
theorem nmX15 : ∀ a, a < 3 → ∀ b, b < 3 → a ≠ b → (TX15 a).2.1 ≠ (TX15 b).2.1 := by decide +kernel
theorem tyX15_ok : ∀ k, k < 3 → parseFieldDescriptor (TX15 k).2.2.1 = some (tyX15 k) := by decide +kernel
abbrev cX15_init : ByteArray := prog_18_method_1_code
def yX15_init : MethodName := ⟨RX15, "<init>", "(LUnwindTowerModel$Node;)V"⟩
abbrev cX15_isLoop : ByteArray := prog_18_method_2_code
def yX15_isLoop : MethodName := ⟨RX15, "isLoop", "()Z"⟩
def RX16 : String := "UnwindTowerModel$Run"
def TX16 : u_T := fun k => match k with
  | 0 => ("UnwindTowerModel$Run", "program", "LUnwindTowerModel$Program;", true)
  | 1 => ("UnwindTowerModel$Run", "most", "I", true)
  | 2 => ("UnwindTowerModel$Run", "deep", "I", true)
  | 3 => ("UnwindTowerModel$Run", "variables", "[I", true)
  | 4 => ("UnwindTowerModel$Run", "slots", "[I", true)
  | 5 => ("UnwindTowerModel$Run", "things", "Ljava/util/ArrayList;", true)
  | 6 => ("UnwindTowerModel$Run", "printed", "Ljava/util/ArrayList;", true)
  | 7 => ("UnwindTowerModel$Run", "begun", "[I", true)
  | 8 => ("UnwindTowerModel$Run", "called", "[I", true)
  | 9 => ("UnwindTowerModel$Run", "under", "Ljava/util/ArrayList;", true)
  | 10 => ("UnwindTowerModel$Run", "depth", "I", false)
  | 11 => ("UnwindTowerModel$Run", "steps", "I", false)
  | 12 => ("UnwindTowerModel$Run", "calls", "I", false)
  | 13 => ("UnwindTowerModel$Run", "deepest", "I", false)
  | 14 => ("UnwindTowerModel$Run", "suppressions", "I", false)
  | 15 => ("UnwindTowerModel$Run", "told", "I", false)
  | 16 => ("UnwindTowerModel$Run", "gave", "I", false)
  | _ => ("UnwindTowerModel$Run", "ended", "I", false)
def tyX16 : Nat → FieldType := fun k => match k with
  | 0 => .object "UnwindTowerModel$Program"
  | 1 => .int
  | 2 => .int
  | 3 => .array .int
  | 4 => .array .int
  | 5 => .object "java/util/ArrayList"
  | 6 => .object "java/util/ArrayList"
  | 7 => .array .int
  | 8 => .array .int
  | 9 => .object "java/util/ArrayList"
  | 10 => .int
  | 11 => .int
  | 12 => .int
  | 13 => .int
  | 14 => .int
  | 15 => .int
  | 16 => .int
  | _ => .int
abbrev wsX160 : List Cond := u_ws RX16 TX16 18
theorem nmX16 : ∀ a, a < 18 → ∀ b, b < 18 → a ≠ b → (TX16 a).2.1 ≠ (TX16 b).2.1 := by decide +kernel
theorem tyX16_ok : ∀ k, k < 18 → parseFieldDescriptor (TX16 k).2.2.1 = some (tyX16 k) := by decide +kernel
abbrev cX16_init : ByteArray := prog_19_method_1_code
def yX16_init : MethodName := ⟨RX16, "<init>", "(LUnwindTowerModel$Program;II)V"⟩
abbrev cX16_valueOf : ByteArray := prog_19_method_2_code
def yX16_valueOf : MethodName := ⟨RX16, "valueOf", "(I)I"⟩
abbrev cX16_make : ByteArray := prog_19_method_3_code
def yX16_make : MethodName := ⟨RX16, "make", "(III)I"⟩
abbrev cX16_fail : ByteArray := prog_19_method_4_code
def yX16_fail : MethodName := ⟨RX16, "fail", "(II)LUnwindTowerModel$Way;"⟩
abbrev cX16_call : ByteArray := prog_19_method_5_code
def yX16_call : MethodName := ⟨RX16, "call", "(I)LUnwindTowerModel$Way;"⟩
abbrev cX16_callFrom : ByteArray := prog_19_method_6_code
def yX16_callFrom : MethodName := ⟨RX16, "callFrom", "(II)LUnwindTowerModel$Way;"⟩
abbrev cX16_go : ByteArray := prog_19_method_7_code
def yX16_go : MethodName := ⟨RX16, "go", "(II)LUnwindTowerModel$Way;"⟩
abbrev cX16_loop : ByteArray := prog_19_method_8_code
def yX16_loop : MethodName := ⟨RX16, "loop", "(LUnwindTowerModel$Node;I)LUnwindTowerModel$Way;"⟩
abbrev cX16_raise : ByteArray := prog_19_method_9_code
def yX16_raise : MethodName := ⟨RX16, "raise", "(LUnwindTowerModel$Node;I)LUnwindTowerModel$Way;"⟩
abbrev cX16_link : ByteArray := prog_19_method_10_code
def yX16_link : MethodName := ⟨RX16, "link", "(LUnwindTowerModel$Node;I)LUnwindTowerModel$Way;"⟩
abbrev cX16_tryAll : ByteArray := prog_19_method_11_code
def yX16_tryAll : MethodName := ⟨RX16, "tryAll", "(LUnwindTowerModel$Node;I)LUnwindTowerModel$Way;"⟩
abbrev cX16_use : ByteArray := prog_19_method_12_code
def yX16_use : MethodName := ⟨RX16, "use", "(LUnwindTowerModel$Node;I)LUnwindTowerModel$Way;"⟩
abbrev cX16_told : ByteArray := prog_19_method_13_code
def yX16_told : MethodName := ⟨RX16, "told", "(I)I"⟩
def RX17 : String := "UnwindTowerModel$Thing"
def TX17 : u_T := fun k => match k with
  | 0 => ("UnwindTowerModel$Thing", "kind", "I", true)
  | 1 => ("UnwindTowerModel$Thing", "value", "I", true)
  | 2 => ("UnwindTowerModel$Thing", "cause", "I", false)
  | 3 => ("UnwindTowerModel$Thing", "suppressed", "Ljava/util/ArrayList;", true)
  | _ => ("UnwindTowerModel$Thing", "trace", "Ljava/util/ArrayList;", true)
def tyX17 : Nat → FieldType := fun k => match k with
  | 0 => .int
  | 1 => .int
  | 2 => .int
  | 3 => .object "java/util/ArrayList"
  | _ => .object "java/util/ArrayList"
abbrev wsX170 : List Cond := u_ws RX17 TX17 5
theorem nmX17 : ∀ a, a < 5 → ∀ b, b < 5 → a ≠ b → (TX17 a).2.1 ≠ (TX17 b).2.1 := by decide +kernel
theorem tyX17_ok : ∀ k, k < 5 → parseFieldDescriptor (TX17 k).2.2.1 = some (tyX17 k) := by decide +kernel
abbrev cX17_init : ByteArray := prog_20_method_1_code
def yX17_init : MethodName := ⟨RX17, "<init>", "(II)V"⟩
def RX18 : String := "UnwindTowerModel$Way"
def TX18 : u_T := fun k => match k with
  | 0 => ("UnwindTowerModel$Way", "how", "I", true)
  | _ => ("UnwindTowerModel$Way", "value", "I", true)
def tyX18 : Nat → FieldType := fun k => match k with
  | 0 => .int
  | _ => .int
abbrev wsX180 : List Cond := u_ws RX18 TX18 2
theorem nmX18 : ∀ a, a < 2 → ∀ b, b < 2 → a ≠ b → (TX18 a).2.1 ≠ (TX18 b).2.1 := by decide +kernel
theorem tyX18_ok : ∀ k, k < 2 → parseFieldDescriptor (TX18 k).2.2.1 = some (tyX18 k) := by decide +kernel
abbrev cX18_init : ByteArray := prog_21_method_1_code
def yX18_init : MethodName := ⟨RX18, "<init>", "(II)V"⟩
abbrev cX18_is : ByteArray := prog_21_method_2_code
def yX18_is : MethodName := ⟨RX18, "is", "(I)Z"⟩
def RX19 : String := "UnwindTowerModel"
def TX19 : u_T := fun k => match k with
  | 0 => ("UnwindTowerModel", "thrown", "I", false)
  | 1 => ("UnwindTowerModel", "program", "LUnwindTowerModel$Program;", true)
  | 2 => ("UnwindTowerModel", "isPruned", "Z", false)
  | 3 => ("UnwindTowerModel", "most", "I", false)
  | 4 => ("UnwindTowerModel", "deep", "I", false)
  | 5 => ("UnwindTowerModel", "last", "LUnwindTowerModel$Run;", false)
  | _ => ("UnwindTowerModel", "runs", "I", false)
def tyX19 : Nat → FieldType := fun k => match k with
  | 0 => .int
  | 1 => .object "UnwindTowerModel$Program"
  | 2 => .boolean
  | 3 => .int
  | 4 => .int
  | 5 => .object "UnwindTowerModel$Run"
  | _ => .int
abbrev wsX190 : List Cond := u_ws RX19 TX19 7
theorem nmX19 : ∀ a, a < 7 → ∀ b, b < 7 → a ≠ b → (TX19 a).2.1 ≠ (TX19 b).2.1 := by decide +kernel
theorem tyX19_ok : ∀ k, k < 7 → parseFieldDescriptor (TX19 k).2.2.1 = some (tyX19 k) := by decide +kernel
abbrev cX19_isIn : ByteArray := prog_12_method_1_code
def yX19_isIn : MethodName := ⟨RX19, "isIn", "(III)Z"⟩
abbrev cX19_has : ByteArray := prog_12_method_2_code
def yX19_has : MethodName := ⟨RX19, "has", "(II)Z"⟩
abbrev cX19_init : ByteArray := prog_12_method_3_code
def yX19_init : MethodName := ⟨RX19, "<init>", "()V"⟩
abbrev cX19_thrown : ByteArray := prog_12_method_4_code
def yX19_thrown : MethodName := ⟨RX19, "thrown", "()I"⟩
abbrev cX19_refuse : ByteArray := prog_12_method_5_code
def yX19_refuse : MethodName := ⟨RX19, "refuse", "(ZI)Z"⟩
abbrev cX19_start : ByteArray := prog_12_method_6_code
def yX19_start : MethodName := ⟨RX19, "start", "(ZI)Z"⟩
abbrev cX19_isNoKind : ByteArray := prog_12_method_7_code
def yX19_isNoKind : MethodName := ⟨RX19, "isNoKind", "(I)Z"⟩
abbrev cX19_isNoProcedure : ByteArray := prog_12_method_8_code
def yX19_isNoProcedure : MethodName := ⟨RX19, "isNoProcedure", "(I)Z"⟩
abbrev cX19_isNoNode : ByteArray := prog_12_method_9_code
def yX19_isNoNode : MethodName := ⟨RX19, "isNoNode", "(I)Z"⟩
abbrev cX19_isNoSet : ByteArray := prog_12_method_10_code
def yX19_isNoSet : MethodName := ⟨RX19, "isNoSet", "(I)Z"⟩
abbrev cX19_isFaulty : ByteArray := prog_12_method_11_code
def yX19_isFaulty : MethodName := ⟨RX19, "isFaulty", "()Z"⟩
abbrev cX19_codeOf : ByteArray := prog_12_method_12_code
def yX19_codeOf : MethodName := ⟨RX19, "codeOf", "(I)LUnwindTowerModel$Code;"⟩
abbrev cX19_kind : ByteArray := prog_12_method_13_code
def yX19_kind : MethodName := ⟨RX19, "kind", "(IZ)I"⟩
abbrev cX19_ofKindNow : ByteArray := prog_12_method_14_code
def yX19_ofKindNow : MethodName := ⟨RX19, "ofKindNow", "(II)I"⟩
abbrev cX19_ofKind : ByteArray := prog_12_method_15_code
def yX19_ofKind : MethodName := ⟨RX19, "ofKind", "(II)I"⟩
abbrev cX19_procedure : ByteArray := prog_12_method_16_code
def yX19_procedure : MethodName := ⟨RX19, "procedure", "(I)I"⟩
abbrev cX19_tell : ByteArray := prog_12_method_17_code
def yX19_tell : MethodName := ⟨RX19, "tell", "(II)I"⟩
abbrev cX19_ofProcedureNow : ByteArray := prog_12_method_18_code
def yX19_ofProcedureNow : MethodName := ⟨RX19, "ofProcedureNow", "(IIZ)I"⟩
abbrev cX19_ofProcedure : ByteArray := prog_12_method_19_code
def yX19_ofProcedure : MethodName := ⟨RX19, "ofProcedure", "(II)I"⟩
abbrev cX19_node : ByteArray := prog_12_method_20_code
def yX19_node : MethodName := ⟨RX19, "node", "(IIII)I"⟩
abbrev cX19_body : ByteArray := prog_12_method_21_code
def yX19_body : MethodName := ⟨RX19, "body", "(II)I"⟩
abbrev cX19_ofNodeNow : ByteArray := prog_12_method_22_code
def yX19_ofNodeNow : MethodName := ⟨RX19, "ofNodeNow", "(II)I"⟩
abbrev cX19_ofNode : ByteArray := prog_12_method_23_code
def yX19_ofNode : MethodName := ⟨RX19, "ofNode", "(II)I"⟩
abbrev cX19_fault : ByteArray := prog_12_method_24_code
def yX19_fault : MethodName := ⟨RX19, "fault", "(II)I"⟩
abbrev cX19_prune : ByteArray := prog_12_method_25_code
def yX19_prune : MethodName := ⟨RX19, "prune", "(Z)Z"⟩
abbrev cX19_code : ByteArray := prog_12_method_26_code
def yX19_code : MethodName := ⟨RX19, "code", "(III)I"⟩
abbrev cX19_row : ByteArray := prog_12_method_27_code
def yX19_row : MethodName := ⟨RX19, "row", "(III)I"⟩
abbrev cX19_isNoLimit : ByteArray := prog_12_method_28_code
def yX19_isNoLimit : MethodName := ⟨RX19, "isNoLimit", "(II)Z"⟩
abbrev cX19_limits : ByteArray := prog_12_method_29_code
def yX19_limits : MethodName := ⟨RX19, "limits", "(II)I"⟩
abbrev cX19_run : ByteArray := prog_12_method_30_code
def yX19_run : MethodName := ⟨RX19, "run", "()I"⟩
abbrev cX19_ofRunNow : ByteArray := prog_12_method_31_code
def yX19_ofRunNow : MethodName := ⟨RX19, "ofRunNow", "(I)I"⟩
abbrev cX19_ofRun : ByteArray := prog_12_method_32_code
def yX19_ofRun : MethodName := ⟨RX19, "ofRun", "(I)I"⟩
abbrev cX19_kept : ByteArray := prog_12_method_33_code
def yX19_kept : MethodName := ⟨RX19, "kept", "()I"⟩
abbrev cX19_keptPrinted : ByteArray := prog_12_method_34_code
def yX19_keptPrinted : MethodName := ⟨RX19, "keptPrinted", "()I"⟩
abbrev cX19_printed : ByteArray := prog_12_method_35_code
def yX19_printed : MethodName := ⟨RX19, "printed", "(II)I"⟩
abbrev cX19_isNoThing : ByteArray := prog_12_method_36_code
def yX19_isNoThing : MethodName := ⟨RX19, "isNoThing", "(I)Z"⟩
abbrev cX19_exceptionNow : ByteArray := prog_12_method_37_code
def yX19_exceptionNow : MethodName := ⟨RX19, "exceptionNow", "(II)I"⟩
abbrev cX19_exception : ByteArray := prog_12_method_38_code
def yX19_exception : MethodName := ⟨RX19, "exception", "(II)I"⟩
abbrev cX19_suppressed : ByteArray := prog_12_method_39_code
def yX19_suppressed : MethodName := ⟨RX19, "suppressed", "(II)I"⟩
abbrev cX19_trace : ByteArray := prog_12_method_40_code
def yX19_trace : MethodName := ⟨RX19, "trace", "(II)I"⟩
abbrev cX19_heldNow : ByteArray := prog_12_method_41_code
def yX19_heldNow : MethodName := ⟨RX19, "heldNow", "(I)I"⟩
abbrev cX19_held : ByteArray := prog_12_method_42_code
def yX19_held : MethodName := ⟨RX19, "held", "(I)I"⟩
abbrev cX19_meanPrinted : ByteArray := prog_12_method_43_code
def yX19_meanPrinted : MethodName := ⟨RX19, "meanPrinted", "()D"⟩
abbrev cX19_count : ByteArray := prog_12_method_44_code
def yX19_count : MethodName := ⟨RX19, "count", "(ILjava/util/ArrayList;)I"⟩
abbrev cX19_many : ByteArray := prog_12_method_45_code
def yX19_many : MethodName := ⟨RX19, "many", "(I)I"⟩
abbrev cX19_wouldRun : ByteArray := prog_12_method_46_code
def yX19_wouldRun : MethodName := ⟨RX19, "wouldRun", "(III)I"⟩
abbrev cX19_catcherNow : ByteArray := prog_12_method_47_code
def yX19_catcherNow : MethodName := ⟨RX19, "catcherNow", "(II)I"⟩
abbrev cX19_catcher : ByteArray := prog_12_method_48_code
def yX19_catcher : MethodName := ⟨RX19, "catcher", "(II)I"⟩
abbrev cX19_faultsWith : ByteArray := prog_12_method_49_code
def yX19_faultsWith : MethodName := ⟨RX19, "faultsWith", "(II)I"⟩
abbrev cX19_add : ByteArray := prog_12_method_50_code
def yX19_add : MethodName := ⟨RX19, "add", "(JJ)J"⟩
abbrev cX19_digest : ByteArray := prog_12_method_51_code
def yX19_digest : MethodName := ⟨RX19, "digest", "()J"⟩
def RJx145de : String := "java/io/Serializable"
def TJx145de : u_T := fun k => match k with
  | _ => ("", "", "", false)
def tyJx145de : Nat → FieldType := fun k => match k with
  | _ => .int
abbrev wsJx145de0 : List Cond := u_ws RJx145de TJx145de 0
theorem nmJx145de : ∀ a, a < 0 → ∀ b, b < 0 → a ≠ b → (TJx145de a).2.1 ≠ (TJx145de b).2.1 := by decide +kernel
theorem tyJx145de_ok : ∀ k, k < 0 → parseFieldDescriptor (TJx145de k).2.2.1 = some (tyJx145de k) := by decide +kernel
def RJ5 : String := "java/lang/AbstractStringBuilder"
def TJ5 : u_T := fun k => match k with
  | _ => ("", "", "", false)
def tyJ5 : Nat → FieldType := fun k => match k with
  | _ => .int
abbrev wsJ50 : List Cond := u_ws RJ5 TJ5 0
theorem nmJ5 : ∀ a, a < 0 → ∀ b, b < 0 → a ≠ b → (TJ5 a).2.1 ≠ (TJ5 b).2.1 := by decide +kernel
theorem tyJ5_ok : ∀ k, k < 0 → parseFieldDescriptor (TJ5 k).2.2.1 = some (tyJ5 k) := by decide +kernel
abbrev cJ5_init_d00df : ByteArray := prog_23_method_2_code
def yJ5_init_d00df : MethodName := ⟨RJ5, "<init>", "(I)V"⟩
abbrev cJ5_length_8abf5 : ByteArray := prog_23_method_6_code
def yJ5_length_8abf5 : MethodName := ⟨RJ5, "length", "()I"⟩
abbrev cJ5_ensureCapacityInternal_d00df : ByteArray := prog_23_method_9_code
def yJ5_ensureCapacityInternal_d00df : MethodName := ⟨RJ5, "ensureCapacityInternal", "(I)V"⟩
abbrev cJ5_newCapacity_0f7a4 : ByteArray := prog_23_method_10_code
def yJ5_newCapacity_0f7a4 : MethodName := ⟨RJ5, "newCapacity", "(I)I"⟩
abbrev cJ5_inflate_da8c8 : ByteArray := prog_23_method_11_code
def yJ5_inflate_da8c8 : MethodName := ⟨RJ5, "inflate", "()V"⟩
abbrev cJ5_append_cf1ce : ByteArray := prog_23_method_22_code
def yJ5_append_cf1ce : MethodName := ⟨RJ5, "append", "(Ljava/lang/String;)Ljava/lang/AbstractStringBuilder;"⟩
abbrev cJ5_appendNull_278bc : ByteArray := prog_23_method_26_code
def yJ5_appendNull_278bc : MethodName := ⟨RJ5, "appendNull", "()Ljava/lang/AbstractStringBuilder;"⟩
abbrev cJ5_append_c97b9 : ByteArray := prog_23_method_32_code
def yJ5_append_c97b9 : MethodName := ⟨RJ5, "append", "(I)Ljava/lang/AbstractStringBuilder;"⟩
abbrev cJ5_getValue_6d5f1 : ByteArray := prog_23_method_64_code
def yJ5_getValue_6d5f1 : MethodName := ⟨RJ5, "getValue", "()[B"⟩
abbrev cJ5_isLatin1_aae02 : ByteArray := prog_23_method_68_code
def yJ5_isLatin1_aae02 : MethodName := ⟨RJ5, "isLatin1", "()Z"⟩
abbrev cJ5_inflateIfNeededFor_a7421 : ByteArray := prog_23_method_71_code
def yJ5_inflateIfNeededFor_a7421 : MethodName := ⟨RJ5, "inflateIfNeededFor", "(Ljava/lang/String;)V"⟩
abbrev cJ5_putStringAt_47b60 : ByteArray := prog_23_method_73_code
def yJ5_putStringAt_47b60 : MethodName := ⟨RJ5, "putStringAt", "(ILjava/lang/String;)V"⟩
def RJx2cfe8 : String := "java/lang/Appendable"
def TJx2cfe8 : u_T := fun k => match k with
  | _ => ("", "", "", false)
def tyJx2cfe8 : Nat → FieldType := fun k => match k with
  | _ => .int
abbrev wsJx2cfe80 : List Cond := u_ws RJx2cfe8 TJx2cfe8 0
theorem nmJx2cfe8 : ∀ a, a < 0 → ∀ b, b < 0 → a ≠ b → (TJx2cfe8 a).2.1 ≠ (TJx2cfe8 b).2.1 := by decide +kernel
theorem tyJx2cfe8_ok : ∀ k, k < 0 → parseFieldDescriptor (TJx2cfe8 k).2.2.1 = some (tyJx2cfe8 k) := by decide +kernel
def RJx9f9b0 : String := "java/lang/CharSequence"
def TJx9f9b0 : u_T := fun k => match k with
  | _ => ("", "", "", false)
def tyJx9f9b0 : Nat → FieldType := fun k => match k with
  | _ => .int
abbrev wsJx9f9b00 : List Cond := u_ws RJx9f9b0 TJx9f9b0 0
theorem nmJx9f9b0 : ∀ a, a < 0 → ∀ b, b < 0 → a ≠ b → (TJx9f9b0 a).2.1 ≠ (TJx9f9b0 b).2.1 := by decide +kernel
theorem tyJx9f9b0_ok : ∀ k, k < 0 → parseFieldDescriptor (TJx9f9b0 k).2.2.1 = some (tyJx9f9b0 k) := by decide +kernel
def RJx8e188 : String := "java/lang/Cloneable"
def TJx8e188 : u_T := fun k => match k with
  | _ => ("", "", "", false)
def tyJx8e188 : Nat → FieldType := fun k => match k with
  | _ => .int
abbrev wsJx8e1880 : List Cond := u_ws RJx8e188 TJx8e188 0
theorem nmJx8e188 : ∀ a, a < 0 → ∀ b, b < 0 → a ≠ b → (TJx8e188 a).2.1 ≠ (TJx8e188 b).2.1 := by decide +kernel
theorem tyJx8e188_ok : ∀ k, k < 0 → parseFieldDescriptor (TJx8e188 k).2.2.1 = some (tyJx8e188 k) := by decide +kernel
def RJxb160c : String := "java/lang/Comparable"
def TJxb160c : u_T := fun k => match k with
  | _ => ("", "", "", false)
def tyJxb160c : Nat → FieldType := fun k => match k with
  | _ => .int
abbrev wsJxb160c0 : List Cond := u_ws RJxb160c TJxb160c 0
theorem nmJxb160c : ∀ a, a < 0 → ∀ b, b < 0 → a ≠ b → (TJxb160c a).2.1 ≠ (TJxb160c b).2.1 := by decide +kernel
theorem tyJxb160c_ok : ∀ k, k < 0 → parseFieldDescriptor (TJxb160c k).2.2.1 = some (tyJxb160c k) := by decide +kernel
def RJxabbfe : String := "java/lang/Integer$IntegerCache"
def TJxabbfe : u_T := fun k => match k with
  | _ => ("", "", "", false)
def tyJxabbfe : Nat → FieldType := fun k => match k with
  | _ => .int
abbrev wsJxabbfe0 : List Cond := u_ws RJxabbfe TJxabbfe 0
theorem nmJxabbfe : ∀ a, a < 0 → ∀ b, b < 0 → a ≠ b → (TJxabbfe a).2.1 ≠ (TJxabbfe b).2.1 := by decide +kernel
theorem tyJxabbfe_ok : ∀ k, k < 0 → parseFieldDescriptor (TJxabbfe k).2.2.1 = some (tyJxabbfe k) := by decide +kernel
def RJ6 : String := "java/lang/Integer"
def TJ6 : u_T := fun k => match k with
  | _ => ("java/lang/Integer", "value", "I", true)
def tyJ6 : Nat → FieldType := fun k => match k with
  | _ => .int
abbrev wsJ60 : List Cond := u_ws RJ6 TJ6 1
theorem nmJ6 : ∀ a, a < 1 → ∀ b, b < 1 → a ≠ b → (TJ6 a).2.1 ≠ (TJ6 b).2.1 := by decide +kernel
theorem tyJ6_ok : ∀ k, k < 1 → parseFieldDescriptor (TJ6 k).2.2.1 = some (tyJ6 k) := by decide +kernel
abbrev cJ6_getChars_ba4f3 : ByteArray := prog_32_method_12_code
def yJ6_getChars_ba4f3 : MethodName := ⟨RJ6, "getChars", "(II[B)I"⟩
abbrev cJ6_stringSize_0f7a4 : ByteArray := prog_32_method_13_code
def yJ6_stringSize_0f7a4 : MethodName := ⟨RJ6, "stringSize", "(I)I"⟩
abbrev cJ6_valueOf_2dffe : ByteArray := prog_32_method_22_code
def yJ6_valueOf_2dffe : MethodName := ⟨RJ6, "valueOf", "(I)Ljava/lang/Integer;"⟩
abbrev cJ6_init_d00df : ByteArray := prog_32_method_23_code
def yJ6_init_d00df : MethodName := ⟨RJ6, "<init>", "(I)V"⟩
abbrev cJ6_intValue_8abf5 : ByteArray := prog_32_method_27_code
def yJ6_intValue_8abf5 : MethodName := ⟨RJ6, "intValue", "()I"⟩
def RJxab1ab : String := "java/lang/Iterable"
def TJxab1ab : u_T := fun k => match k with
  | _ => ("", "", "", false)
def tyJxab1ab : Nat → FieldType := fun k => match k with
  | _ => .int
abbrev wsJxab1ab0 : List Cond := u_ws RJxab1ab TJxab1ab 0
theorem nmJxab1ab : ∀ a, a < 0 → ∀ b, b < 0 → a ≠ b → (TJxab1ab a).2.1 ≠ (TJxab1ab b).2.1 := by decide +kernel
theorem tyJxab1ab_ok : ∀ k, k < 0 → parseFieldDescriptor (TJxab1ab k).2.2.1 = some (tyJxab1ab k) := by decide +kernel
def RJ9 : String := "java/lang/Math"
def TJ9 : u_T := fun k => match k with
  | _ => ("", "", "", false)
def tyJ9 : Nat → FieldType := fun k => match k with
  | _ => .int
abbrev wsJ90 : List Cond := u_ws RJ9 TJ9 0
theorem nmJ9 : ∀ a, a < 0 → ∀ b, b < 0 → a ≠ b → (TJ9 a).2.1 ≠ (TJ9 b).2.1 := by decide +kernel
theorem tyJ9_ok : ∀ k, k < 0 → parseFieldDescriptor (TJ9 k).2.2.1 = some (tyJ9 k) := by decide +kernel
abbrev cJ9_max_7cf53 : ByteArray := prog_35_method_65_code
def yJ9_max_7cf53 : MethodName := ⟨RJ9, "max", "(II)I"⟩
abbrev cJ9_min_7cf53 : ByteArray := prog_35_method_69_code
def yJ9_min_7cf53 : MethodName := ⟨RJ9, "min", "(II)I"⟩
def RJxd2413 : String := "java/lang/Number"
def TJxd2413 : u_T := fun k => match k with
  | _ => ("", "", "", false)
def tyJxd2413 : Nat → FieldType := fun k => match k with
  | _ => .int
abbrev wsJxd24130 : List Cond := u_ws RJxd2413 TJxd2413 0
theorem nmJxd2413 : ∀ a, a < 0 → ∀ b, b < 0 → a ≠ b → (TJxd2413 a).2.1 ≠ (TJxd2413 b).2.1 := by decide +kernel
theorem tyJxd2413_ok : ∀ k, k < 0 → parseFieldDescriptor (TJxd2413 k).2.2.1 = some (tyJxd2413 k) := by decide +kernel
abbrev cJxd2413_init_da8c8 : ByteArray := prog_36_method_1_code
def yJxd2413_init_da8c8 : MethodName := ⟨RJxd2413, "<init>", "()V"⟩
def RJ0 : String := "java/lang/String"
def TJ0 : u_T := fun k => match k with
  | 0 => ("java/lang/String", "value", "[B", true)
  | 1 => ("java/lang/String", "coder", "B", true)
  | 2 => ("java/lang/String", "hash", "I", false)
  | _ => ("java/lang/String", "hashIsZero", "Z", false)
def tyJ0 : Nat → FieldType := fun k => match k with
  | 0 => .array .byte
  | 1 => .byte
  | 2 => .int
  | _ => .boolean
abbrev wsJ00 : List Cond := u_ws RJ0 TJ0 4
theorem nmJ0 : ∀ a, a < 4 → ∀ b, b < 4 → a ≠ b → (TJ0 a).2.1 ≠ (TJ0 b).2.1 := by decide +kernel
theorem tyJ0_ok : ∀ k, k < 4 → parseFieldDescriptor (TJ0 k).2.2.1 = some (tyJ0 k) := by decide +kernel
abbrev cJ0_init_81219 : ByteArray := prog_38_method_53_code
def yJ0_init_81219 : MethodName := ⟨RJ0, "<init>", "(Ljava/lang/StringBuilder;)V"⟩
abbrev cJ0_length_8abf5 : ByteArray := prog_38_method_54_code
def yJ0_length_8abf5 : MethodName := ⟨RJ0, "length", "()I"⟩
abbrev cJ0_getBytes_840e7 : ByteArray := prog_38_method_147_code
def yJ0_getBytes_840e7 : MethodName := ⟨RJ0, "getBytes", "([BIB)V"⟩
abbrev cJ0_init_db425 : ByteArray := prog_38_method_150_code
def yJ0_init_db425 : MethodName := ⟨RJ0, "<init>", "(Ljava/lang/AbstractStringBuilder;Ljava/lang/Void;)V"⟩
abbrev cJ0_coder_7d493 : ByteArray := prog_38_method_152_code
def yJ0_coder_7d493 : MethodName := ⟨RJ0, "coder", "()B"⟩
abbrev cJ0_checkBoundsOffCount_cabcc : ByteArray := prog_38_method_157_code
def yJ0_checkBoundsOffCount_cabcc : MethodName := ⟨RJ0, "checkBoundsOffCount", "(III)I"⟩
abbrev cJ0_checkBoundsBeginEnd_23922 : ByteArray := prog_38_method_158_code
def yJ0_checkBoundsBeginEnd_23922 : MethodName := ⟨RJ0, "checkBoundsBeginEnd", "(III)V"⟩
def RJ4 : String := "java/lang/StringBuilder"
def TJ4 : u_T := fun k => match k with
  | 0 => ("java/lang/AbstractStringBuilder", "value", "[B", false)
  | 1 => ("java/lang/AbstractStringBuilder", "coder", "B", false)
  | 2 => ("java/lang/AbstractStringBuilder", "maybeLatin1", "Z", false)
  | _ => ("java/lang/AbstractStringBuilder", "count", "I", false)
def tyJ4 : Nat → FieldType := fun k => match k with
  | 0 => .array .byte
  | 1 => .byte
  | 2 => .boolean
  | _ => .int
abbrev wsJ40 : List Cond := u_ws RJ4 TJ4 4
theorem nmJ4 : ∀ a, a < 4 → ∀ b, b < 4 → a ≠ b → (TJ4 a).2.1 ≠ (TJ4 b).2.1 := by decide +kernel
theorem tyJ4_ok : ∀ k, k < 4 → parseFieldDescriptor (TJ4 k).2.2.1 = some (tyJ4 k) := by decide +kernel
abbrev cJ4_init_da8c8 : ByteArray := prog_39_method_1_code
def yJ4_init_da8c8 : MethodName := ⟨RJ4, "<init>", "()V"⟩
abbrev cJ4_append_15ec4 : ByteArray := prog_39_method_7_code
def yJ4_append_15ec4 : MethodName := ⟨RJ4, "append", "(Ljava/lang/String;)Ljava/lang/StringBuilder;"⟩
abbrev cJ4_append_bf812 : ByteArray := prog_39_method_15_code
def yJ4_append_bf812 : MethodName := ⟨RJ4, "append", "(I)Ljava/lang/StringBuilder;"⟩
abbrev cJ4_toString_0e30d : ByteArray := prog_39_method_42_code
def yJ4_toString_0e30d : MethodName := ⟨RJ4, "toString", "()Ljava/lang/String;"⟩
abbrev cJ4_length_8abf5 : ByteArray := prog_39_method_93_code
def yJ4_length_8abf5 : MethodName := ⟨RJ4, "length", "()I"⟩
def RJ1 : String := "java/lang/StringLatin1"
def TJ1 : u_T := fun k => match k with
  | _ => ("", "", "", false)
def tyJ1 : Nat → FieldType := fun k => match k with
  | _ => .int
abbrev wsJ10 : List Cond := u_ws RJ1 TJ1 0
theorem nmJ1 : ∀ a, a < 0 → ∀ b, b < 0 → a ≠ b → (TJ1 a).2.1 ≠ (TJ1 b).2.1 := by decide +kernel
theorem tyJ1_ok : ∀ k, k < 0 → parseFieldDescriptor (TJ1 k).2.2.1 = some (tyJ1 k) := by decide +kernel
abbrev cJ1_inflate_0e8fd : ByteArray := prog_40_method_50_code
def yJ1_inflate_0e8fd : MethodName := ⟨RJ1, "inflate", "([BI[BII)V"⟩
def RJ2 : String := "java/lang/StringUTF16"
def TJ2 : u_T := fun k => match k with
  | _ => ("", "", "", false)
def tyJ2 : Nat → FieldType := fun k => match k with
  | _ => .int
abbrev wsJ20 : List Cond := u_ws RJ2 TJ2 0
theorem nmJ2 : ∀ a, a < 0 → ∀ b, b < 0 → a ≠ b → (TJ2 a).2.1 ≠ (TJ2 b).2.1 := by decide +kernel
theorem tyJ2_ok : ∀ k, k < 0 → parseFieldDescriptor (TJ2 k).2.2.1 = some (tyJ2 k) := by decide +kernel
abbrev cJ2_newBytesFor_77867 : ByteArray := prog_41_method_2_code
def yJ2_newBytesFor_77867 : MethodName := ⟨RJ2, "newBytesFor", "(I)[B"⟩
abbrev cJ2_newBytesLength_0f7a4 : ByteArray := prog_41_method_3_code
def yJ2_newBytesLength_0f7a4 : MethodName := ⟨RJ2, "newBytesLength", "(I)I"⟩
abbrev cJ2_putChar_b72d1 : ByteArray := prog_41_method_4_code
def yJ2_putChar_b72d1 : MethodName := ⟨RJ2, "putChar", "([BII)V"⟩
abbrev cJ2_getChar_3b067 : ByteArray := prog_41_method_5_code
def yJ2_getChar_3b067 : MethodName := ⟨RJ2, "getChar", "([BI)C"⟩
abbrev cJ2_length_9d52b : ByteArray := prog_41_method_6_code
def yJ2_length_9d52b : MethodName := ⟨RJ2, "length", "([B)I"⟩
abbrev cJ2_coderFromArrayLen_85cad : ByteArray := prog_41_method_15_code
def yJ2_coderFromArrayLen_85cad : MethodName := ⟨RJ2, "coderFromArrayLen", "([BI)B"⟩
abbrev cJ2_compress_39247 : ByteArray := prog_41_method_17_code
def yJ2_compress_39247 : MethodName := ⟨RJ2, "compress", "([BII)[B"⟩
abbrev cJ2_compress_5af95 : ByteArray := prog_41_method_22_code
def yJ2_compress_5af95 : MethodName := ⟨RJ2, "compress", "([BI[BII)I"⟩
abbrev cJ2_getChars_46870 : ByteArray := prog_41_method_77_code
def yJ2_getChars_46870 : MethodName := ⟨RJ2, "getChars", "(III[B)I"⟩
abbrev cJ2_putCharsAt_cd4e5 : ByteArray := prog_41_method_81_code
def yJ2_putCharsAt_cd4e5 : MethodName := ⟨RJ2, "putCharsAt", "([BICCCC)I"⟩
abbrev cJ2_inflate_0e8fd : ByteArray := prog_41_method_86_code
def yJ2_inflate_0e8fd : MethodName := ⟨RJ2, "inflate", "([BI[BII)V"⟩
abbrev cJ2_getChars_ba4f3 : ByteArray := prog_41_method_89_code
def yJ2_getChars_ba4f3 : MethodName := ⟨RJ2, "getChars", "(II[B)I"⟩
abbrev cJ2_checkBoundsBeginEnd_d044e : ByteArray := prog_41_method_93_code
def yJ2_checkBoundsBeginEnd_d044e : MethodName := ⟨RJ2, "checkBoundsBeginEnd", "(II[B)V"⟩
abbrev cJ2_checkBoundsOffCount_d044e : ByteArray := prog_41_method_94_code
def yJ2_checkBoundsOffCount_d044e : MethodName := ⟨RJ2, "checkBoundsOffCount", "(II[B)V"⟩
def RJ10 : String := "java/lang/System"
def TJ10 : u_T := fun k => match k with
  | _ => ("", "", "", false)
def tyJ10 : Nat → FieldType := fun k => match k with
  | _ => .int
abbrev wsJ100 : List Cond := u_ws RJ10 TJ10 0
theorem nmJ10 : ∀ a, a < 0 → ∀ b, b < 0 → a ≠ b → (TJ10 a).2.1 ≠ (TJ10 b).2.1 := by decide +kernel
theorem tyJ10_ok : ∀ k, k < 0 → parseFieldDescriptor (TJ10 k).2.2.1 = some (tyJ10 k) := by decide +kernel
def RJxfd54e : String := "java/lang/constant/Constable"
def TJxfd54e : u_T := fun k => match k with
  | _ => ("", "", "", false)
def tyJxfd54e : Nat → FieldType := fun k => match k with
  | _ => .int
abbrev wsJxfd54e0 : List Cond := u_ws RJxfd54e TJxfd54e 0
theorem nmJxfd54e : ∀ a, a < 0 → ∀ b, b < 0 → a ≠ b → (TJxfd54e a).2.1 ≠ (TJxfd54e b).2.1 := by decide +kernel
theorem tyJxfd54e_ok : ∀ k, k < 0 → parseFieldDescriptor (TJxfd54e k).2.2.1 = some (tyJxfd54e k) := by decide +kernel
def RJx3cf43 : String := "java/lang/constant/ConstantDesc"
def TJx3cf43 : u_T := fun k => match k with
  | _ => ("", "", "", false)
def tyJx3cf43 : Nat → FieldType := fun k => match k with
  | _ => .int
abbrev wsJx3cf430 : List Cond := u_ws RJx3cf43 TJx3cf43 0
theorem nmJx3cf43 : ∀ a, a < 0 → ∀ b, b < 0 → a ≠ b → (TJx3cf43 a).2.1 ≠ (TJx3cf43 b).2.1 := by decide +kernel
theorem tyJx3cf43_ok : ∀ k, k < 0 → parseFieldDescriptor (TJx3cf43 k).2.2.1 = some (tyJx3cf43 k) := by decide +kernel
def RJxa1e45 : String := "java/util/AbstractCollection"
def TJxa1e45 : u_T := fun k => match k with
  | _ => ("", "", "", false)
def tyJxa1e45 : Nat → FieldType := fun k => match k with
  | _ => .int
abbrev wsJxa1e450 : List Cond := u_ws RJxa1e45 TJxa1e45 0
theorem nmJxa1e45 : ∀ a, a < 0 → ∀ b, b < 0 → a ≠ b → (TJxa1e45 a).2.1 ≠ (TJxa1e45 b).2.1 := by decide +kernel
theorem tyJxa1e45_ok : ∀ k, k < 0 → parseFieldDescriptor (TJxa1e45 k).2.2.1 = some (tyJxa1e45 k) := by decide +kernel
abbrev cJxa1e45_init_da8c8 : ByteArray := prog_46_method_1_code
def yJxa1e45_init_da8c8 : MethodName := ⟨RJxa1e45, "<init>", "()V"⟩
def RJxc12de : String := "java/util/AbstractList"
def TJxc12de : u_T := fun k => match k with
  | _ => ("", "", "", false)
def tyJxc12de : Nat → FieldType := fun k => match k with
  | _ => .int
abbrev wsJxc12de0 : List Cond := u_ws RJxc12de TJxc12de 0
theorem nmJxc12de : ∀ a, a < 0 → ∀ b, b < 0 → a ≠ b → (TJxc12de a).2.1 ≠ (TJxc12de b).2.1 := by decide +kernel
theorem tyJxc12de_ok : ∀ k, k < 0 → parseFieldDescriptor (TJxc12de k).2.2.1 = some (tyJxc12de k) := by decide +kernel
abbrev cJxc12de_init_da8c8 : ByteArray := prog_47_method_1_code
def yJxc12de_init_da8c8 : MethodName := ⟨RJxc12de, "<init>", "()V"⟩
abbrev cJxc12de_subListRangeCheck_23922 : ByteArray := prog_47_method_15_code
def yJxc12de_subListRangeCheck_23922 : MethodName := ⟨RJxc12de, "subListRangeCheck", "(III)V"⟩
def RJx35411 : String := "java/util/ArrayList$Itr"
def TJx35411 : u_T := fun k => match k with
  | 0 => ("java/util/ArrayList$Itr", "cursor", "I", false)
  | 1 => ("java/util/ArrayList$Itr", "lastRet", "I", false)
  | 2 => ("java/util/ArrayList$Itr", "expectedModCount", "I", false)
  | _ => ("java/util/ArrayList$Itr", "this$0", "Ljava/util/ArrayList;", true)
def tyJx35411 : Nat → FieldType := fun k => match k with
  | 0 => .int
  | 1 => .int
  | 2 => .int
  | _ => .object "java/util/ArrayList"
abbrev wsJx354110 : List Cond := u_ws RJx35411 TJx35411 4
theorem nmJx35411 : ∀ a, a < 4 → ∀ b, b < 4 → a ≠ b → (TJx35411 a).2.1 ≠ (TJx35411 b).2.1 := by decide +kernel
theorem tyJx35411_ok : ∀ k, k < 4 → parseFieldDescriptor (TJx35411 k).2.2.1 = some (tyJx35411 k) := by decide +kernel
abbrev cJx35411_init_45d68 : ByteArray := prog_49_method_1_code
def yJx35411_init_45d68 : MethodName := ⟨RJx35411, "<init>", "(Ljava/util/ArrayList;)V"⟩
abbrev cJx35411_hasNext_aae02 : ByteArray := prog_49_method_2_code
def yJx35411_hasNext_aae02 : MethodName := ⟨RJx35411, "hasNext", "()Z"⟩
abbrev cJx35411_next_0502b : ByteArray := prog_49_method_3_code
def yJx35411_next_0502b : MethodName := ⟨RJx35411, "next", "()Ljava/lang/Object;"⟩
abbrev cJx35411_checkForComodification_da8c8 : ByteArray := prog_49_method_6_code
def yJx35411_checkForComodification_da8c8 : MethodName := ⟨RJx35411, "checkForComodification", "()V"⟩
def RJxc9f04 : String := "java/util/ArrayList$SubList"
def TJxc9f04 : u_T := fun k => match k with
  | 0 => ("java/util/AbstractList", "modCount", "I", false)
  | 1 => ("java/util/ArrayList$SubList", "root", "Ljava/util/ArrayList;", true)
  | 2 => ("java/util/ArrayList$SubList", "parent", "Ljava/util/ArrayList$SubList;", true)
  | 3 => ("java/util/ArrayList$SubList", "offset", "I", true)
  | _ => ("java/util/ArrayList$SubList", "size", "I", false)
def tyJxc9f04 : Nat → FieldType := fun k => match k with
  | 0 => .int
  | 1 => .object "java/util/ArrayList"
  | 2 => .object "java/util/ArrayList$SubList"
  | 3 => .int
  | _ => .int
abbrev wsJxc9f040 : List Cond := u_ws RJxc9f04 TJxc9f04 5
theorem nmJxc9f04 : ∀ a, a < 5 → ∀ b, b < 5 → a ≠ b → (TJxc9f04 a).2.1 ≠ (TJxc9f04 b).2.1 := by decide +kernel
theorem tyJxc9f04_ok : ∀ k, k < 5 → parseFieldDescriptor (TJxc9f04 k).2.2.1 = some (tyJxc9f04 k) := by decide +kernel
abbrev cJxc9f04_init_1a8f5 : ByteArray := prog_50_method_1_code
def yJxc9f04_init_1a8f5 : MethodName := ⟨RJxc9f04, "<init>", "(Ljava/util/ArrayList;II)V"⟩
abbrev cJxc9f04_toArray_d5877 : ByteArray := prog_50_method_16_code
def yJxc9f04_toArray_d5877 : MethodName := ⟨RJxc9f04, "toArray", "()[Ljava/lang/Object;"⟩
abbrev cJxc9f04_checkForComodification_da8c8 : ByteArray := prog_50_method_28_code
def yJxc9f04_checkForComodification_da8c8 : MethodName := ⟨RJxc9f04, "checkForComodification", "()V"⟩
def RJx4a65c : String := "java/util/ArrayList"
def TJx4a65c : u_T := fun k => match k with
  | 0 => ("java/util/AbstractList", "modCount", "I", false)
  | 1 => ("java/util/ArrayList", "elementData", "[Ljava/lang/Object;", false)
  | _ => ("java/util/ArrayList", "size", "I", false)
def tyJx4a65c : Nat → FieldType := fun k => match k with
  | 0 => .int
  | 1 => .array (.object "java/lang/Object")
  | _ => .int
abbrev wsJx4a65c0 : List Cond := u_ws RJx4a65c TJx4a65c 3
theorem nmJx4a65c : ∀ a, a < 3 → ∀ b, b < 3 → a ≠ b → (TJx4a65c a).2.1 ≠ (TJx4a65c b).2.1 := by decide +kernel
theorem tyJx4a65c_ok : ∀ k, k < 3 → parseFieldDescriptor (TJx4a65c k).2.2.1 = some (tyJx4a65c k) := by decide +kernel
abbrev cJx4a65c_init_da8c8 : ByteArray := prog_48_method_2_code
def yJx4a65c_init_da8c8 : MethodName := ⟨RJx4a65c, "<init>", "()V"⟩
abbrev cJx4a65c_init_4bcb3 : ByteArray := prog_48_method_3_code
def yJx4a65c_init_4bcb3 : MethodName := ⟨RJx4a65c, "<init>", "(Ljava/util/Collection;)V"⟩
abbrev cJx4a65c_grow_92f84 : ByteArray := prog_48_method_6_code
def yJx4a65c_grow_92f84 : MethodName := ⟨RJx4a65c, "grow", "(I)[Ljava/lang/Object;"⟩
abbrev cJx4a65c_grow_d5877 : ByteArray := prog_48_method_7_code
def yJx4a65c_grow_d5877 : MethodName := ⟨RJx4a65c, "grow", "()[Ljava/lang/Object;"⟩
abbrev cJx4a65c_size_8abf5 : ByteArray := prog_48_method_8_code
def yJx4a65c_size_8abf5 : MethodName := ⟨RJx4a65c, "size", "()I"⟩
abbrev cJx4a65c_isEmpty_aae02 : ByteArray := prog_48_method_9_code
def yJx4a65c_isEmpty_aae02 : MethodName := ⟨RJx4a65c, "isEmpty", "()Z"⟩
abbrev cJx4a65c_toArray_d5877 : ByteArray := prog_48_method_16_code
def yJx4a65c_toArray_d5877 : MethodName := ⟨RJx4a65c, "toArray", "()[Ljava/lang/Object;"⟩
abbrev cJx4a65c_elementData_915e3 : ByteArray := prog_48_method_18_code
def yJx4a65c_elementData_915e3 : MethodName := ⟨RJx4a65c, "elementData", "(I)Ljava/lang/Object;"⟩
abbrev cJx4a65c_get_915e3 : ByteArray := prog_48_method_20_code
def yJx4a65c_get_915e3 : MethodName := ⟨RJx4a65c, "get", "(I)Ljava/lang/Object;"⟩
abbrev cJx4a65c_add_72be8 : ByteArray := prog_48_method_24_code
def yJx4a65c_add_72be8 : MethodName := ⟨RJx4a65c, "add", "(Ljava/lang/Object;[Ljava/lang/Object;I)V"⟩
abbrev cJx4a65c_add_9ea2d : ByteArray := prog_48_method_25_code
def yJx4a65c_add_9ea2d : MethodName := ⟨RJx4a65c, "add", "(Ljava/lang/Object;)Z"⟩
abbrev cJx4a65c_remove_915e3 : ByteArray := prog_48_method_29_code
def yJx4a65c_remove_915e3 : MethodName := ⟨RJx4a65c, "remove", "(I)Ljava/lang/Object;"⟩
abbrev cJx4a65c_fastRemove_b59b0 : ByteArray := prog_48_method_39_code
def yJx4a65c_fastRemove_b59b0 : MethodName := ⟨RJx4a65c, "fastRemove", "([Ljava/lang/Object;I)V"⟩
abbrev cJx4a65c_addAll_f0b43 : ByteArray := prog_48_method_41_code
def yJx4a65c_addAll_f0b43 : MethodName := ⟨RJx4a65c, "addAll", "(Ljava/util/Collection;)Z"⟩
abbrev cJx4a65c_iterator_32c93 : ByteArray := prog_48_method_55_code
def yJx4a65c_iterator_32c93 : MethodName := ⟨RJx4a65c, "iterator", "()Ljava/util/Iterator;"⟩
abbrev cJx4a65c_subList_8a2a7 : ByteArray := prog_48_method_56_code
def yJx4a65c_subList_8a2a7 : MethodName := ⟨RJx4a65c, "subList", "(II)Ljava/util/List;"⟩
def RJ7 : String := "java/util/Arrays"
def TJ7 : u_T := fun k => match k with
  | _ => ("", "", "", false)
def tyJ7 : Nat → FieldType := fun k => match k with
  | _ => .int
abbrev wsJ70 : List Cond := u_ws RJ7 TJ7 0
theorem nmJ7 : ∀ a, a < 0 → ∀ b, b < 0 → a ≠ b → (TJ7 a).2.1 ≠ (TJ7 b).2.1 := by decide +kernel
theorem tyJ7_ok : ∀ k, k < 0 → parseFieldDescriptor (TJ7 k).2.2.1 = some (tyJ7 k) := by decide +kernel
abbrev cJ7_fill_53178 : ByteArray := prog_51_method_103_code
def yJ7_fill_53178 : MethodName := ⟨RJ7, "fill", "([II)V"⟩
abbrev cJ7_copyOf_1904c : ByteArray := prog_51_method_119_code
def yJ7_copyOf_1904c : MethodName := ⟨RJ7, "copyOf", "([Ljava/lang/Object;I)[Ljava/lang/Object;"⟩
abbrev cJ7_copyOf_6403c : ByteArray := prog_51_method_120_code
def yJ7_copyOf_6403c : MethodName := ⟨RJ7, "copyOf", "([Ljava/lang/Object;ILjava/lang/Class;)[Ljava/lang/Object;"⟩
abbrev cJ7_copyOf_9075b : ByteArray := prog_51_method_121_code
def yJ7_copyOf_9075b : MethodName := ⟨RJ7, "copyOf", "([BI)[B"⟩
abbrev cJ7_copyOf_59c91 : ByteArray := prog_51_method_123_code
def yJ7_copyOf_59c91 : MethodName := ⟨RJ7, "copyOf", "([II)[I"⟩
abbrev cJ7_copyOfRange_5a381 : ByteArray := prog_51_method_129_code
def yJ7_copyOfRange_5a381 : MethodName := ⟨RJ7, "copyOfRange", "([Ljava/lang/Object;II)[Ljava/lang/Object;"⟩
abbrev cJ7_copyOfRange_31eb6 : ByteArray := prog_51_method_130_code
def yJ7_copyOfRange_31eb6 : MethodName := ⟨RJ7, "copyOfRange", "([Ljava/lang/Object;IILjava/lang/Class;)[Ljava/lang/Object;"⟩
abbrev cJ7_checkLength_df160 : ByteArray := prog_51_method_131_code
def yJ7_checkLength_df160 : MethodName := ⟨RJ7, "checkLength", "(II)V"⟩
abbrev cJ7_copyOfRange_39247 : ByteArray := prog_51_method_132_code
def yJ7_copyOfRange_39247 : MethodName := ⟨RJ7, "copyOfRange", "([BII)[B"⟩
abbrev cJ7_copyOfRangeByte_39247 : ByteArray := prog_51_method_133_code
def yJ7_copyOfRangeByte_39247 : MethodName := ⟨RJ7, "copyOfRangeByte", "([BII)[B"⟩
def RJx5ef63 : String := "java/util/Collection"
def TJx5ef63 : u_T := fun k => match k with
  | _ => ("", "", "", false)
def tyJx5ef63 : Nat → FieldType := fun k => match k with
  | _ => .int
abbrev wsJx5ef630 : List Cond := u_ws RJx5ef63 TJx5ef63 0
theorem nmJx5ef63 : ∀ a, a < 0 → ∀ b, b < 0 → a ≠ b → (TJx5ef63 a).2.1 ≠ (TJx5ef63 b).2.1 := by decide +kernel
theorem tyJx5ef63_ok : ∀ k, k < 0 → parseFieldDescriptor (TJx5ef63 k).2.2.1 = some (tyJx5ef63 k) := by decide +kernel
def RJx4d0d8 : String := "java/util/Iterator"
def TJx4d0d8 : u_T := fun k => match k with
  | _ => ("", "", "", false)
def tyJx4d0d8 : Nat → FieldType := fun k => match k with
  | _ => .int
abbrev wsJx4d0d80 : List Cond := u_ws RJx4d0d8 TJx4d0d8 0
theorem nmJx4d0d8 : ∀ a, a < 0 → ∀ b, b < 0 → a ≠ b → (TJx4d0d8 a).2.1 ≠ (TJx4d0d8 b).2.1 := by decide +kernel
theorem tyJx4d0d8_ok : ∀ k, k < 0 → parseFieldDescriptor (TJx4d0d8 k).2.2.1 = some (tyJx4d0d8 k) := by decide +kernel
def RJxbd725 : String := "java/util/List"
def TJxbd725 : u_T := fun k => match k with
  | _ => ("", "", "", false)
def tyJxbd725 : Nat → FieldType := fun k => match k with
  | _ => .int
abbrev wsJxbd7250 : List Cond := u_ws RJxbd725 TJxbd725 0
theorem nmJxbd725 : ∀ a, a < 0 → ∀ b, b < 0 → a ≠ b → (TJxbd725 a).2.1 ≠ (TJxbd725 b).2.1 := by decide +kernel
theorem tyJxbd725_ok : ∀ k, k < 0 → parseFieldDescriptor (TJxbd725 k).2.2.1 = some (tyJxbd725 k) := by decide +kernel
def RJ15 : String := "java/util/Objects"
def TJ15 : u_T := fun k => match k with
  | _ => ("", "", "", false)
def tyJ15 : Nat → FieldType := fun k => match k with
  | _ => .int
abbrev wsJ150 : List Cond := u_ws RJ15 TJ15 0
theorem nmJ15 : ∀ a, a < 0 → ∀ b, b < 0 → a ≠ b → (TJ15 a).2.1 ≠ (TJ15 b).2.1 := by decide +kernel
theorem tyJ15_ok : ∀ k, k < 0 → parseFieldDescriptor (TJ15 k).2.2.1 = some (tyJ15 k) := by decide +kernel
abbrev cJ15_checkIndex_7cf53 : ByteArray := prog_55_method_17_code
def yJ15_checkIndex_7cf53 : MethodName := ⟨RJ15, "checkIndex", "(II)I"⟩
def RJxf0a74 : String := "java/util/RandomAccess"
def TJxf0a74 : u_T := fun k => match k with
  | _ => ("", "", "", false)
def tyJxf0a74 : Nat → FieldType := fun k => match k with
  | _ => .int
abbrev wsJxf0a740 : List Cond := u_ws RJxf0a74 TJxf0a74 0
theorem nmJxf0a74 : ∀ a, a < 0 → ∀ b, b < 0 → a ≠ b → (TJxf0a74 a).2.1 ≠ (TJxf0a74 b).2.1 := by decide +kernel
theorem tyJxf0a74_ok : ∀ k, k < 0 → parseFieldDescriptor (TJxf0a74 k).2.2.1 = some (tyJxf0a74 k) := by decide +kernel
def RJxa66e6 : String := "java/util/SequencedCollection"
def TJxa66e6 : u_T := fun k => match k with
  | _ => ("", "", "", false)
def tyJxa66e6 : Nat → FieldType := fun k => match k with
  | _ => .int
abbrev wsJxa66e60 : List Cond := u_ws RJxa66e6 TJxa66e6 0
theorem nmJxa66e6 : ∀ a, a < 0 → ∀ b, b < 0 → a ≠ b → (TJxa66e6 a).2.1 ≠ (TJxa66e6 b).2.1 := by decide +kernel
theorem tyJxa66e6_ok : ∀ k, k < 0 → parseFieldDescriptor (TJxa66e6 k).2.2.1 = some (tyJxa66e6 k) := by decide +kernel
def RJ8 : String := "jdk/internal/util/ArraysSupport"
def TJ8 : u_T := fun k => match k with
  | _ => ("", "", "", false)
def tyJ8 : Nat → FieldType := fun k => match k with
  | _ => .int
abbrev wsJ80 : List Cond := u_ws RJ8 TJ8 0
theorem nmJ8 : ∀ a, a < 0 → ∀ b, b < 0 → a ≠ b → (TJ8 a).2.1 ≠ (TJ8 b).2.1 := by decide +kernel
theorem tyJ8_ok : ∀ k, k < 0 → parseFieldDescriptor (TJ8 k).2.2.1 = some (tyJ8 k) := by decide +kernel
abbrev cJ8_newLength_cabcc : ByteArray := prog_58_method_27_code
def yJ8_newLength_cabcc : MethodName := ⟨RJ8, "newLength", "(III)I"⟩
abbrev cJ8_hugeLength_7cf53 : ByteArray := prog_58_method_28_code
def yJ8_hugeLength_7cf53 : MethodName := ⟨RJ8, "hugeLength", "(II)I"⟩
def RJ3 : String := "jdk/internal/util/Preconditions"
def TJ3 : u_T := fun k => match k with
  | _ => ("", "", "", false)
def tyJ3 : Nat → FieldType := fun k => match k with
  | _ => .int
abbrev wsJ30 : List Cond := u_ws RJ3 TJ3 0
theorem nmJ3 : ∀ a, a < 0 → ∀ b, b < 0 → a ≠ b → (TJ3 a).2.1 ≠ (TJ3 b).2.1 := by decide +kernel
theorem tyJ3_ok : ∀ k, k < 0 → parseFieldDescriptor (TJ3 k).2.2.1 = some (tyJ3 k) := by decide +kernel
abbrev cJ3_checkIndex_8e157 : ByteArray := prog_59_method_11_code
def yJ3_checkIndex_8e157 : MethodName := ⟨RJ3, "checkIndex", "(IILjava/util/function/BiFunction;)I"⟩
abbrev cJ3_checkFromToIndex_8c36e : ByteArray := prog_59_method_12_code
def yJ3_checkFromToIndex_8c36e : MethodName := ⟨RJ3, "checkFromToIndex", "(IIILjava/util/function/BiFunction;)I"⟩
abbrev cJ3_checkFromIndexSize_8c36e : ByteArray := prog_59_method_13_code
def yJ3_checkFromIndexSize_8c36e : MethodName := ⟨RJ3, "checkFromIndexSize", "(IIILjava/util/function/BiFunction;)I"⟩
def RL : String := "UnwindTowerLaw"
abbrev cL_kind : ByteArray := method_3_code
def yL_kind : MethodName := ⟨RL, "kind", "(LUnwindTower;IZ[J)I"⟩
abbrev cL_ofKind : ByteArray := method_4_code
def yL_ofKind : MethodName := ⟨RL, "ofKind", "(LUnwindTower;II[J)I"⟩
abbrev cL_procedure : ByteArray := method_5_code
def yL_procedure : MethodName := ⟨RL, "procedure", "(LUnwindTower;I[J)I"⟩
abbrev cL_tell : ByteArray := method_6_code
def yL_tell : MethodName := ⟨RL, "tell", "(LUnwindTower;II[J)I"⟩
abbrev cL_ofProcedure : ByteArray := method_7_code
def yL_ofProcedure : MethodName := ⟨RL, "ofProcedure", "(LUnwindTower;II[J)I"⟩
abbrev cL_node : ByteArray := method_8_code
def yL_node : MethodName := ⟨RL, "node", "(LUnwindTower;IIII[J)I"⟩
abbrev cL_body : ByteArray := method_9_code
def yL_body : MethodName := ⟨RL, "body", "(LUnwindTower;II[J)I"⟩
abbrev cL_ofNode : ByteArray := method_10_code
def yL_ofNode : MethodName := ⟨RL, "ofNode", "(LUnwindTower;II[J)I"⟩
abbrev cL_fault : ByteArray := method_11_code
def yL_fault : MethodName := ⟨RL, "fault", "(LUnwindTower;II[J)I"⟩
abbrev cL_code : ByteArray := method_12_code
def yL_code : MethodName := ⟨RL, "code", "(LUnwindTower;III[J)I"⟩
abbrev cL_row : ByteArray := method_13_code
def yL_row : MethodName := ⟨RL, "row", "(LUnwindTower;III[J)I"⟩
abbrev cL_limits : ByteArray := method_14_code
def yL_limits : MethodName := ⟨RL, "limits", "(LUnwindTower;II[J)I"⟩
abbrev cL_run : ByteArray := method_15_code
def yL_run : MethodName := ⟨RL, "run", "(LUnwindTower;[J)I"⟩
abbrev cL_ofRun : ByteArray := method_16_code
def yL_ofRun : MethodName := ⟨RL, "ofRun", "(LUnwindTower;I[J)I"⟩
abbrev cL_printed : ByteArray := method_17_code
def yL_printed : MethodName := ⟨RL, "printed", "(LUnwindTower;II[J)I"⟩
abbrev cL_exception : ByteArray := method_18_code
def yL_exception : MethodName := ⟨RL, "exception", "(LUnwindTower;II[J)I"⟩
abbrev cL_suppressed : ByteArray := method_19_code
def yL_suppressed : MethodName := ⟨RL, "suppressed", "(LUnwindTower;II[J)I"⟩
abbrev cL_trace : ByteArray := method_20_code
def yL_trace : MethodName := ⟨RL, "trace", "(LUnwindTower;II[J)I"⟩
abbrev cL_held : ByteArray := method_21_code
def yL_held : MethodName := ⟨RL, "held", "(LUnwindTower;I[J)I"⟩
abbrev cL_many : ByteArray := method_22_code
def yL_many : MethodName := ⟨RL, "many", "(LUnwindTower;I[J)I"⟩
abbrev cL_wouldRun : ByteArray := method_23_code
def yL_wouldRun : MethodName := ⟨RL, "wouldRun", "(LUnwindTower;III[J)I"⟩
abbrev cL_catcher : ByteArray := method_24_code
def yL_catcher : MethodName := ⟨RL, "catcher", "(LUnwindTower;II[J)I"⟩
abbrev cL_faultsWith : ByteArray := method_25_code
def yL_faultsWith : MethodName := ⟨RL, "faultsWith", "(LUnwindTower;II[J)I"⟩
abbrev cL_law : ByteArray := code
def yL_law : MethodName := ⟨RL, "law", "([I)Z"⟩
abbrev vwCl : List vw_C := [(RJ0, TJ0, 4), (RJ4, TJ4, 4), (RJ6, TJ6, 1), (RJx35411, TJx35411, 4), (RJxc9f04, TJxc9f04, 5), (RJx4a65c, TJx4a65c, 3), (RX0, TX0, 13), (RX1, TX1, 15), (RX2, TX2, 5), (RX3, TX3, 6), (RX4, TX4, 18), (RX5, TX5, 6), (RX6, TX6, 19), (RX7, TX7, 2), (RX8, TX8, 13), (RX9, TX9, 12), (RX10, TX10, 9), (RX11, TX11, 2), (RX12, TX12, 7), (RX13, TX13, 2), (RX14, TX14, 3), (RX15, TX15, 3), (RX16, TX16, 18), (RX17, TX17, 5), (RX18, TX18, 2), (RX19, TX19, 7)]
end
section
/-! THE EXECUTOR: what a stretch of bytecode does, as a function over abstract values (whole numbers as intervals), computed by the kernel -/
/-- an abstract value: tag, a, b. 0 an int between a and b (each 2^31 above it); 1 the cell a of the world; 2 null; 3 the long a (2^63 above it); 4 the double of the bits a; 5 an int whose last five bits are a; 6 the constant object a; 7 the script; 8 some object -/
abbrev xv_V : Type := Nat × Nat × Nat
/-- a cell: 0 and its class, or 1 and its array type; what it holds -/
abbrev xv_O : Type := Nat × Nat × List xv_V
/-- an instruction: pc, length, number, operands -/
abbrev xv_I : Type := Nat × Nat × Nat × Nat × Nat × Nat × Nat
abbrev xv_L : Type := List (Nat × xv_V)
/-- how it came out: 0 without a value, 1 with one, 2 + E thrown; the world; cells and slots -/
abbrev xv_R : Type := Nat × xv_V × List xv_O × Nat × Nat
abbrev xv_M : Type := List xv_I × List (List Nat) × List (Nat × Nat × Nat × Nat) × Nat
def xg_c0 : List xv_I := [(0, 1, 8, 0, 0, 0, 0), (1, 3, 51, 0, 0, 0, 1), (4, 1, 8, 0, 0, 0, 0), (5, 3, 56, 12, 0, 0, 7), (8, 1, 34, 0, 0, 0, 0), (9, 3, 98, 52, 0, 12, 9), (12, 3, 41, 15, 0, 2, 10), (15, 1, 8, 0, 0, 0, 0), (16, 3, 56, 8, 0, 0, 16), (19, 1, 34, 0, 0, 0, 0), (20, 1, 8, 0, 0, 0, 0), (21, 3, 38, 15, 0, 0, 10), (24, 3, 98, 44, 1, 8, 18), (27, 3, 41, 15, 1, 2, 21), (30, 1, 8, 0, 0, 0, 0), (31, 3, 56, 13, 0, 0, 25), (34, 1, 34, 0, 0, 0, 0), (35, 3, 99, 75, 0, 13, 27), (38, 3, 41, 15, 2, 2, 28), (41, 1, 8, 0, 0, 0, 0), (42, 2, 1, 2147483656, 0, 0, 0), (44, 3, 58, 1, 0, 0, 32), (47, 3, 41, 15, 3, 2, 34), (50, 1, 0, 2147483648, 0, 0, 0), (51, 1, 14, 1, 0, 0, 0), (52, 1, 6, 1, 0, 0, 0), (53, 2, 1, 2147483656, 0, 0, 0), (55, 3, 73, 37, 77, 0, 0), (58, 1, 8, 0, 0, 0, 0), (59, 3, 38, 15, 3, 0, 34), (62, 1, 6, 1, 0, 0, 0), (63, 3, 56, 6, 0, 0, 32), (66, 1, 34, 0, 0, 0, 0), (67, 3, 99, 42, 0, 6, 38), (70, 1, 47, 0, 0, 0, 0), (71, 3, 22, 1, 2147483649, 0, 0), (74, 3, 80, 25, 52, 0, 0), (77, 1, 8, 0, 0, 0, 0), (78, 3, 56, 7, 0, 0, 39), (81, 1, 34, 0, 0, 0, 0), (82, 1, 8, 0, 0, 0, 0), (83, 3, 38, 15, 0, 0, 10), (86, 1, 8, 0, 0, 0, 0), (87, 3, 38, 15, 3, 0, 34), (90, 1, 8, 0, 0, 0, 0), (91, 3, 38, 15, 2, 0, 28), (94, 3, 98, 43, 3, 7, 41), (97, 3, 41, 15, 4, 2, 44), (100, 1, 8, 0, 0, 0, 0), (101, 3, 56, 10, 0, 0, 48), (104, 1, 34, 0, 0, 0, 0), (105, 1, 8, 0, 0, 0, 0), (106, 3, 38, 15, 0, 0, 10), (109, 1, 8, 0, 0, 0, 0), (110, 3, 38, 15, 3, 0, 34), (113, 1, 8, 0, 0, 0, 0), (114, 3, 38, 15, 2, 0, 28), (117, 3, 98, 49, 3, 10, 50), (120, 3, 41, 15, 5, 2, 51), (123, 1, 8, 0, 0, 0, 0), (124, 3, 56, 10, 0, 0, 48), (127, 1, 34, 0, 0, 0, 0), (128, 1, 8, 0, 0, 0, 0), (129, 3, 38, 15, 0, 0, 10), (132, 1, 8, 0, 0, 0, 0), (133, 3, 38, 15, 3, 0, 34), (136, 1, 8, 0, 0, 0, 0), (137, 3, 38, 15, 2, 0, 28), (140, 3, 98, 49, 3, 10, 50), (143, 3, 41, 15, 6, 2, 55), (146, 1, 8, 0, 0, 0, 0), (147, 1, 0, 2147483649, 0, 0, 0), (148, 3, 40, 15, 8, 1, 58), (151, 1, 8, 0, 0, 0, 0), (152, 3, 2, 2147484448, 0, 0, 0), (155, 3, 40, 15, 9, 0, 62), (158, 1, 8, 0, 0, 0, 0), (159, 2, 1, 2147483658, 0, 0, 0), (161, 3, 40, 15, 10, 0, 66), (164, 1, 84, 0, 0, 0, 0)]
def xg_w0 : List (List Nat) := []
def xg_x0 : List (Nat × Nat × Nat × Nat) := []
def xg_m0 : xv_M := (xg_c0, xg_w0, xg_x0, 2)
def xg_c1 : List xv_I := [(0, 1, 6, 0, 0, 0, 0), (1, 1, 0, 2147483649, 0, 0, 0), (2, 3, 72, 14, 27, 0, 0), (5, 1, 6, 0, 0, 0, 0), (6, 3, 2, 2147486648, 0, 0, 0), (9, 3, 74, 14, 27, 0, 0), (12, 1, 6, 1, 0, 0, 0), (13, 1, 0, 2147483649, 0, 0, 0), (14, 3, 72, 14, 27, 0, 0), (17, 1, 6, 1, 0, 0, 0), (18, 2, 1, 2147483678, 0, 0, 0), (20, 3, 74, 14, 27, 0, 0), (23, 1, 0, 2147483649, 0, 0, 0), (24, 3, 80, 15, 28, 0, 0), (27, 1, 0, 2147483648, 0, 0, 0), (28, 1, 85, 0, 0, 1, 0)]
def xg_w1 : List (List Nat) := []
def xg_x1 : List (Nat × Nat × Nat × Nat) := []
def xg_m1 : xv_M := (xg_c1, xg_w1, xg_x1, 2)
def xg_c2 : List xv_I := [(0, 1, 6, 1, 0, 0, 0), (1, 3, 66, 10, 16, 0, 0), (4, 1, 6, 1, 0, 0, 0), (5, 1, 8, 0, 0, 0, 0), (6, 1, 48, 0, 0, 0, 0), (7, 3, 73, 10, 16, 0, 0), (10, 1, 8, 0, 0, 0, 0), (11, 1, 6, 1, 0, 0, 0), (12, 1, 42, 0, 0, 0, 0), (13, 3, 80, 11, 17, 0, 0), (16, 1, 200, 0, 0, 0, 0), (17, 1, 85, 0, 0, 0, 0)]
def xg_w2 : List (List Nat) := []
def xg_x2 : List (Nat × Nat × Nat × Nat) := []
def xg_m2 : xv_M := (xg_c2, xg_w2, xg_x2, 2)
def xg_c3 : List xv_I := [(0, 1, 8, 0, 0, 0, 0), (1, 3, 38, 15, 0, 0, 10), (4, 1, 6, 1, 0, 0, 0), (5, 3, 100, 63, 1, 12, 120), (8, 3, 64, 10, 22, 0, 0), (11, 1, 8, 0, 0, 0, 0), (12, 3, 38, 15, 0, 0, 10), (15, 1, 6, 2, 0, 0, 0), (16, 3, 100, 62, 1, 12, 157), (19, 3, 65, 15, 32, 0, 0), (22, 3, 90, 0, 160, 77, 73), (25, 1, 200, 0, 0, 0, 0), (26, 2, 200, 0, 0, 0, 0), (28, 3, 200, 0, 0, 0, 0), (31, 1, 200, 0, 0, 0, 0), (32, 1, 200, 0, 0, 0, 0), (33, 3, 200, 0, 0, 0, 0), (36, 1, 200, 0, 0, 0, 0), (37, 3, 200, 0, 0, 0, 0), (40, 3, 200, 0, 0, 0, 0), (43, 3, 200, 0, 0, 0, 0), (46, 1, 200, 0, 0, 0, 0), (47, 2, 200, 0, 0, 0, 0), (49, 3, 200, 0, 0, 0, 0), (52, 1, 200, 0, 0, 0, 0), (53, 1, 200, 0, 0, 0, 0), (54, 3, 200, 0, 0, 0, 0), (57, 1, 200, 0, 0, 0, 0), (58, 3, 200, 0, 0, 0, 0), (61, 3, 200, 0, 0, 0, 0), (64, 3, 200, 0, 0, 0, 0), (67, 1, 200, 0, 0, 0, 0), (68, 2, 200, 0, 0, 0, 0), (70, 3, 200, 0, 0, 0, 0), (73, 1, 200, 0, 0, 0, 0), (74, 1, 200, 0, 0, 0, 0), (75, 1, 200, 0, 0, 0, 0), (76, 3, 200, 0, 0, 0, 0), (79, 1, 200, 0, 0, 0, 0), (80, 3, 200, 0, 0, 0, 0), (83, 1, 200, 0, 0, 0, 0), (84, 1, 200, 0, 0, 0, 0), (85, 3, 200, 0, 0, 0, 0), (88, 1, 200, 0, 0, 0, 0)]
def xg_w3 : List (List Nat) := []
def xg_x3 : List (Nat × Nat × Nat × Nat) := []
def xg_m3 : xv_M := (xg_c3, xg_w3, xg_x3, 3)
def xg_c4 : List xv_I := [(0, 1, 8, 0, 0, 0, 0), (1, 3, 38, 15, 0, 0, 10), (4, 1, 6, 1, 0, 0, 0), (5, 3, 100, 62, 1, 12, 157), (8, 3, 64, 10, 22, 0, 0), (11, 1, 200, 0, 0, 0, 0), (12, 3, 200, 0, 0, 0, 0), (15, 1, 200, 0, 0, 0, 0), (16, 3, 200, 0, 0, 0, 0), (19, 3, 200, 0, 0, 0, 0), (22, 3, 91, 0, 296, 77, 73), (25, 1, 200, 0, 0, 0, 0), (26, 3, 200, 0, 0, 0, 0), (29, 3, 200, 0, 0, 0, 0), (32, 1, 200, 0, 0, 0, 0), (33, 1, 200, 0, 0, 0, 0), (34, 3, 200, 0, 0, 0, 0), (37, 1, 200, 0, 0, 0, 0), (38, 3, 200, 0, 0, 0, 0), (41, 1, 200, 0, 0, 0, 0), (42, 1, 200, 0, 0, 0, 0), (43, 3, 200, 0, 0, 0, 0), (46, 1, 200, 0, 0, 0, 0)]
def xg_w4 : List (List Nat) := []
def xg_x4 : List (Nat × Nat × Nat × Nat) := []
def xg_m4 : xv_M := (xg_c4, xg_w4, xg_x4, 3)
def xg_c5 : List xv_I := [(0, 1, 8, 0, 0, 0, 0), (1, 3, 100, 34, 0, 15, 99), (4, 1, 8, 0, 0, 0, 0), (5, 3, 38, 15, 0, 0, 10), (8, 1, 6, 1, 0, 0, 0), (9, 3, 100, 63, 1, 12, 120), (12, 3, 64, 14, 28, 0, 0), (15, 1, 6, 2, 0, 0, 0), (16, 3, 66, 14, 28, 0, 0), (19, 1, 6, 2, 0, 0, 0), (20, 1, 8, 0, 0, 0, 0), (21, 1, 6, 1, 0, 0, 0), (22, 3, 100, 15, 1, 15, 195), (25, 3, 72, 19, 38, 0, 0), (28, 3, 90, 0, 198, 77, 73), (31, 1, 200, 0, 0, 0, 0), (32, 2, 200, 0, 0, 0, 0), (34, 3, 200, 0, 0, 0, 0), (37, 1, 200, 0, 0, 0, 0), (38, 1, 200, 0, 0, 0, 0), (39, 3, 200, 0, 0, 0, 0), (42, 1, 200, 0, 0, 0, 0), (43, 1, 200, 0, 0, 0, 0), (44, 3, 200, 0, 0, 0, 0), (47, 3, 200, 0, 0, 0, 0), (50, 1, 200, 0, 0, 0, 0), (51, 2, 200, 0, 0, 0, 0), (53, 3, 200, 0, 0, 0, 0), (56, 1, 200, 0, 0, 0, 0), (57, 1, 200, 0, 0, 0, 0), (58, 3, 200, 0, 0, 0, 0), (61, 1, 200, 0, 0, 0, 0), (62, 3, 200, 0, 0, 0, 0), (65, 1, 200, 0, 0, 0, 0), (66, 1, 200, 0, 0, 0, 0), (67, 3, 200, 0, 0, 0, 0), (70, 1, 200, 0, 0, 0, 0)]
def xg_w5 : List (List Nat) := []
def xg_x5 : List (Nat × Nat × Nat × Nat) := []
def xg_m5 : xv_M := (xg_c5, xg_w5, xg_x5, 4)
def xg_c6 : List xv_I := [(0, 1, 8, 0, 0, 0, 0), (1, 1, 6, 1, 0, 0, 0), (2, 3, 66, 9, 15, 0, 0), (5, 1, 6, 1, 0, 0, 0), (6, 1, 8, 0, 0, 0, 0), (7, 1, 48, 0, 0, 0, 0), (8, 3, 73, 9, 15, 0, 0), (11, 1, 6, 1, 0, 0, 0), (12, 3, 80, 10, 16, 0, 0), (15, 1, 200, 0, 0, 0, 0), (16, 1, 46, 0, 0, 0, 0), (17, 1, 86, 0, 0, 0, 0)]
def xg_w6 : List (List Nat) := []
def xg_x6 : List (Nat × Nat × Nat × Nat) := []
def xg_m6 : xv_M := (xg_c6, xg_w6, xg_x6, 2)
def xg_c7 : List xv_I := [(0, 1, 8, 0, 0, 0, 0), (1, 3, 100, 34, 0, 15, 99), (4, 3, 3, 9223372036854833936, 0, 0, 301), (7, 1, 18, 1, 0, 0, 0), (8, 1, 0, 2147483648, 0, 0, 0), (9, 1, 14, 3, 0, 0, 0), (10, 1, 6, 3, 0, 0, 0), (11, 2, 1, 2147483657, 0, 0, 0), (13, 3, 74, 20, 35, 0, 0), (16, 1, 10, 1, 0, 0, 0), (17, 3, 3, 9223372036854775839, 0, 0, 303), (20, 1, 31, 0, 0, 0, 0), (21, 1, 8, 0, 0, 0, 0), (22, 1, 6, 3, 0, 0, 0), (23, 3, 100, 31, 1, 15, 291), (26, 1, 29, 0, 0, 0, 0), (27, 1, 30, 0, 0, 0, 0), (28, 1, 18, 1, 0, 0, 0), (29, 3, 22, 3, 2147483649, 0, 0), (32, 3, 80, 6, 10, 0, 0), (35, 1, 0, 2147483648, 0, 0, 0), (36, 1, 14, 3, 0, 0, 0), (37, 1, 6, 3, 0, 0, 0), (38, 1, 8, 0, 0, 0, 0), (39, 3, 38, 15, 0, 0, 10), (42, 3, 38, 12, 0, 0, 80), (45, 3, 73, 46, 84, 0, 0), (48, 1, 0, 2147483648, 0, 0, 0), (49, 2, 15, 4, 0, 0, 0), (51, 2, 7, 4, 0, 0, 0), (53, 1, 0, 2147483652, 0, 0, 0), (54, 3, 74, 44, 78, 0, 0), (57, 1, 10, 1, 0, 0, 0), (58, 3, 3, 9223372036854775839, 0, 0, 303), (61, 1, 31, 0, 0, 0, 0), (62, 1, 8, 0, 0, 0, 0), (63, 1, 6, 3, 0, 0, 0), (64, 2, 7, 4, 0, 0, 0), (66, 3, 100, 30, 2, 15, 102), (69, 1, 29, 0, 0, 0, 0), (70, 1, 30, 0, 0, 0, 0), (71, 1, 18, 1, 0, 0, 0), (72, 3, 22, 4, 2147483649, 0, 0), (75, 3, 80, 29, 51, 0, 0), (78, 3, 22, 3, 2147483649, 0, 0), (81, 3, 80, 22, 37, 0, 0), (84, 1, 0, 2147483648, 0, 0, 0), (85, 1, 14, 3, 0, 0, 0), (86, 1, 6, 3, 0, 0, 0), (87, 1, 8, 0, 0, 0, 0), (88, 3, 38, 15, 0, 0, 10), (91, 3, 38, 12, 4, 0, 111), (94, 3, 73, 60, 110, 0, 0), (97, 1, 8, 0, 0, 0, 0), (98, 1, 10, 1, 0, 0, 0), (99, 1, 6, 3, 0, 0, 0), (100, 3, 100, 8, 2, 15, 305), (103, 1, 18, 1, 0, 0, 0), (104, 3, 22, 3, 2147483649, 0, 0), (107, 3, 80, 48, 86, 0, 0), (110, 1, 0, 2147483648, 0, 0, 0), (111, 1, 14, 3, 0, 0, 0), (112, 1, 6, 3, 0, 0, 0), (113, 1, 8, 0, 0, 0, 0), (114, 3, 38, 15, 0, 0, 10), (117, 3, 38, 12, 7, 0, 148), (120, 3, 73, 112, 202, 0, 0), (123, 1, 200, 0, 0, 0, 0), (124, 2, 200, 0, 0, 0, 0), (126, 2, 200, 0, 0, 0, 0), (128, 2, 200, 0, 0, 0, 0), (130, 3, 200, 0, 0, 0, 0), (133, 1, 200, 0, 0, 0, 0), (134, 3, 200, 0, 0, 0, 0), (137, 1, 200, 0, 0, 0, 0), (138, 1, 200, 0, 0, 0, 0), (139, 1, 200, 0, 0, 0, 0), (140, 2, 200, 0, 0, 0, 0), (142, 3, 200, 0, 0, 0, 0), (145, 1, 200, 0, 0, 0, 0), (146, 1, 200, 0, 0, 0, 0), (147, 1, 200, 0, 0, 0, 0), (148, 3, 200, 0, 0, 0, 0), (151, 3, 200, 0, 0, 0, 0), (154, 1, 200, 0, 0, 0, 0), (155, 3, 200, 0, 0, 0, 0), (158, 1, 200, 0, 0, 0, 0), (159, 1, 200, 0, 0, 0, 0), (160, 3, 200, 0, 0, 0, 0), (163, 1, 200, 0, 0, 0, 0), (164, 1, 200, 0, 0, 0, 0), (165, 3, 200, 0, 0, 0, 0), (168, 1, 200, 0, 0, 0, 0), (169, 1, 200, 0, 0, 0, 0), (170, 1, 200, 0, 0, 0, 0), (171, 1, 200, 0, 0, 0, 0), (172, 3, 200, 0, 0, 0, 0), (175, 1, 200, 0, 0, 0, 0), (176, 1, 200, 0, 0, 0, 0), (177, 3, 200, 0, 0, 0, 0), (180, 1, 200, 0, 0, 0, 0), (181, 1, 200, 0, 0, 0, 0), (182, 3, 200, 0, 0, 0, 0), (185, 3, 200, 0, 0, 0, 0), (188, 1, 200, 0, 0, 0, 0), (189, 1, 200, 0, 0, 0, 0), (190, 3, 200, 0, 0, 0, 0), (193, 1, 200, 0, 0, 0, 0), (194, 1, 200, 0, 0, 0, 0), (195, 1, 200, 0, 0, 0, 0), (196, 3, 200, 0, 0, 0, 0), (199, 3, 200, 0, 0, 0, 0), (202, 1, 0, 2147483648, 0, 0, 0), (203, 1, 14, 3, 0, 0, 0), (204, 1, 6, 3, 0, 0, 0), (205, 1, 8, 0, 0, 0, 0), (206, 3, 38, 15, 1, 0, 21), (209, 3, 38, 8, 4, 0, 182), (212, 3, 73, 139, 254, 0, 0), (215, 1, 0, 2147483648, 0, 0, 0), (216, 2, 15, 4, 0, 0, 0), (218, 2, 7, 4, 0, 0, 0), (220, 1, 0, 2147483651, 0, 0, 0), (221, 3, 74, 137, 248, 0, 0), (224, 1, 10, 1, 0, 0, 0), (225, 3, 3, 9223372036854775839, 0, 0, 303), (228, 1, 31, 0, 0, 0, 0), (229, 1, 8, 0, 0, 0, 0), (230, 3, 38, 15, 1, 0, 21), (233, 1, 6, 3, 0, 0, 0), (234, 2, 7, 4, 0, 0, 0), (236, 3, 100, 47, 2, 8, 189), (239, 1, 29, 0, 0, 0, 0), (240, 1, 30, 0, 0, 0, 0), (241, 1, 18, 1, 0, 0, 0), (242, 3, 22, 4, 2147483649, 0, 0), (245, 3, 80, 121, 218, 0, 0), (248, 3, 22, 3, 2147483649, 0, 0), (251, 3, 80, 114, 204, 0, 0), (254, 1, 8, 0, 0, 0, 0), (255, 1, 10, 1, 0, 0, 0), (256, 3, 100, 9, 1, 15, 309), (259, 1, 18, 1, 0, 0, 0), (260, 1, 8, 0, 0, 0, 0), (261, 3, 38, 15, 1, 0, 21), (264, 3, 38, 8, 4, 0, 182), (267, 3, 65, 170, 314, 0, 0), (270, 1, 200, 0, 0, 0, 0), (271, 3, 200, 0, 0, 0, 0), (274, 3, 200, 0, 0, 0, 0), (277, 1, 200, 0, 0, 0, 0), (278, 3, 200, 0, 0, 0, 0), (281, 1, 200, 0, 0, 0, 0), (282, 1, 200, 0, 0, 0, 0), (283, 1, 200, 0, 0, 0, 0), (284, 2, 200, 0, 0, 0, 0), (286, 3, 200, 0, 0, 0, 0), (289, 1, 200, 0, 0, 0, 0), (290, 3, 200, 0, 0, 0, 0), (293, 1, 200, 0, 0, 0, 0), (294, 1, 200, 0, 0, 0, 0), (295, 3, 200, 0, 0, 0, 0), (298, 3, 200, 0, 0, 0, 0), (301, 1, 200, 0, 0, 0, 0), (302, 3, 200, 0, 0, 0, 0), (305, 1, 200, 0, 0, 0, 0), (306, 1, 200, 0, 0, 0, 0), (307, 1, 200, 0, 0, 0, 0), (308, 3, 200, 0, 0, 0, 0), (311, 3, 200, 0, 0, 0, 0), (314, 1, 10, 1, 0, 0, 0), (315, 1, 87, 0, 0, 0, 0)]
def xg_w7 : List (List Nat) := []
def xg_x7 : List (Nat × Nat × Nat × Nat) := []
def xg_m7 : xv_M := (xg_c7, xg_w7, xg_x7, 5)
def xg_c8 : List xv_I := [(0, 1, 10, 1, 0, 0, 0), (1, 2, 19, 4, 0, 0, 0), (3, 1, 0, 2147483648, 0, 0, 0), (4, 2, 15, 6, 0, 0, 0), (6, 2, 7, 6, 0, 0, 0), (8, 1, 0, 2147483653, 0, 0, 0), (9, 3, 74, 19, 35, 0, 0), (12, 2, 11, 4, 0, 0, 0), (14, 3, 3, 9223372036854775839, 0, 0, 303), (17, 1, 31, 0, 0, 0, 0), (18, 1, 8, 0, 0, 0, 0), (19, 1, 6, 3, 0, 0, 0), (20, 2, 7, 6, 0, 0, 0), (22, 3, 100, 32, 2, 15, 139), (25, 1, 29, 0, 0, 0, 0), (26, 1, 30, 0, 0, 0, 0), (27, 2, 19, 4, 0, 0, 0), (29, 3, 22, 6, 2147483649, 0, 0), (32, 3, 80, 4, 6, 0, 0), (35, 1, 8, 0, 0, 0, 0), (36, 3, 38, 15, 3, 0, 34), (39, 1, 6, 3, 0, 0, 0), (40, 3, 96, 6, 2, 0, 200), (43, 2, 17, 6, 0, 0, 0), (45, 1, 8, 0, 0, 0, 0), (46, 1, 6, 3, 0, 0, 0), (47, 3, 100, 15, 1, 15, 195), (50, 2, 15, 7, 0, 0, 0), (52, 1, 0, 2147483648, 0, 0, 0), (53, 2, 15, 8, 0, 0, 0), (55, 2, 7, 8, 0, 0, 0), (57, 2, 7, 7, 0, 0, 0), (59, 3, 73, 52, 102, 0, 0), (62, 1, 200, 0, 0, 0, 0), (63, 2, 200, 0, 0, 0, 0), (65, 2, 200, 0, 0, 0, 0), (67, 1, 200, 0, 0, 0, 0), (68, 3, 200, 0, 0, 0, 0), (71, 2, 200, 0, 0, 0, 0), (73, 3, 200, 0, 0, 0, 0), (76, 1, 200, 0, 0, 0, 0), (77, 2, 200, 0, 0, 0, 0), (79, 2, 200, 0, 0, 0, 0), (81, 2, 200, 0, 0, 0, 0), (83, 3, 200, 0, 0, 0, 0), (86, 1, 200, 0, 0, 0, 0), (87, 1, 200, 0, 0, 0, 0), (88, 2, 200, 0, 0, 0, 0), (90, 3, 200, 0, 0, 0, 0), (93, 3, 200, 0, 0, 0, 0), (96, 3, 200, 0, 0, 0, 0), (99, 3, 200, 0, 0, 0, 0), (102, 1, 8, 0, 0, 0, 0), (103, 1, 6, 3, 0, 0, 0), (104, 3, 100, 36, 1, 15, 205), (107, 2, 15, 8, 0, 0, 0), (109, 1, 0, 2147483648, 0, 0, 0), (110, 2, 15, 9, 0, 0, 0), (112, 2, 7, 9, 0, 0, 0), (114, 2, 7, 8, 0, 0, 0), (116, 3, 73, 84, 167, 0, 0), (119, 1, 200, 0, 0, 0, 0), (120, 2, 200, 0, 0, 0, 0), (122, 2, 200, 0, 0, 0, 0), (124, 1, 200, 0, 0, 0, 0), (125, 3, 200, 0, 0, 0, 0), (128, 2, 200, 0, 0, 0, 0), (130, 3, 200, 0, 0, 0, 0), (133, 1, 200, 0, 0, 0, 0), (134, 1, 200, 0, 0, 0, 0), (135, 3, 200, 0, 0, 0, 0), (138, 2, 200, 0, 0, 0, 0), (140, 3, 200, 0, 0, 0, 0), (143, 2, 200, 0, 0, 0, 0), (145, 1, 200, 0, 0, 0, 0), (146, 2, 200, 0, 0, 0, 0), (148, 3, 200, 0, 0, 0, 0), (151, 1, 200, 0, 0, 0, 0), (152, 1, 200, 0, 0, 0, 0), (153, 2, 200, 0, 0, 0, 0), (155, 3, 200, 0, 0, 0, 0), (158, 3, 200, 0, 0, 0, 0), (161, 3, 200, 0, 0, 0, 0), (164, 3, 200, 0, 0, 0, 0), (167, 2, 11, 4, 0, 0, 0), (169, 1, 87, 0, 0, 0, 0)]
def xg_w8 : List (List Nat) := []
def xg_x8 : List (Nat × Nat × Nat × Nat) := []
def xg_m8 : xv_M := (xg_c8, xg_w8, xg_x8, 11)
def xg_c9 : List xv_I := [(0, 1, 10, 1, 0, 0, 0), (1, 1, 18, 3, 0, 0, 0), (2, 1, 0, 2147483648, 0, 0, 0), (3, 2, 15, 5, 0, 0, 0), (5, 2, 7, 5, 0, 0, 0), (7, 2, 1, 2147483657, 0, 0, 0), (9, 3, 74, 18, 32, 0, 0), (12, 1, 10, 3, 0, 0, 0), (13, 3, 3, 9223372036854775839, 0, 0, 303), (16, 1, 31, 0, 0, 0, 0), (17, 1, 8, 0, 0, 0, 0), (18, 2, 7, 5, 0, 0, 0), (20, 3, 100, 33, 1, 15, 234), (23, 1, 29, 0, 0, 0, 0), (24, 1, 30, 0, 0, 0, 0), (25, 1, 18, 3, 0, 0, 0), (26, 3, 22, 5, 2147483649, 0, 0), (29, 3, 80, 4, 5, 0, 0), (32, 1, 8, 0, 0, 0, 0), (33, 3, 38, 15, 5, 0, 51), (36, 3, 100, 50, 0, 10, 237), (39, 2, 15, 5, 0, 0, 0), (41, 1, 0, 2147483648, 0, 0, 0), (42, 2, 15, 6, 0, 0, 0), (44, 2, 7, 6, 0, 0, 0), (46, 2, 7, 5, 0, 0, 0), (48, 3, 73, 47, 91, 0, 0), (51, 1, 200, 0, 0, 0, 0), (52, 2, 200, 0, 0, 0, 0), (54, 2, 200, 0, 0, 0, 0), (56, 1, 200, 0, 0, 0, 0), (57, 3, 200, 0, 0, 0, 0), (60, 1, 200, 0, 0, 0, 0), (61, 3, 200, 0, 0, 0, 0), (64, 1, 200, 0, 0, 0, 0), (65, 1, 200, 0, 0, 0, 0), (66, 3, 200, 0, 0, 0, 0), (69, 2, 200, 0, 0, 0, 0), (71, 2, 200, 0, 0, 0, 0), (73, 3, 200, 0, 0, 0, 0), (76, 1, 200, 0, 0, 0, 0), (77, 1, 200, 0, 0, 0, 0), (78, 1, 200, 0, 0, 0, 0), (79, 3, 200, 0, 0, 0, 0), (82, 3, 200, 0, 0, 0, 0), (85, 3, 200, 0, 0, 0, 0), (88, 3, 200, 0, 0, 0, 0), (91, 1, 0, 2147483648, 0, 0, 0), (92, 2, 15, 6, 0, 0, 0), (94, 2, 7, 6, 0, 0, 0), (96, 2, 1, 2147483688, 0, 0, 0), (98, 3, 73, 65, 130, 0, 0), (101, 1, 8, 0, 0, 0, 0), (102, 3, 38, 15, 5, 0, 51), (105, 3, 38, 10, 3, 0, 248), (108, 2, 7, 6, 0, 0, 0), (110, 3, 100, 77, 1, 14, 252), (113, 3, 64, 65, 130, 0, 0), (116, 1, 200, 0, 0, 0, 0), (117, 1, 200, 0, 0, 0, 0), (118, 2, 200, 0, 0, 0, 0), (120, 3, 200, 0, 0, 0, 0), (123, 1, 200, 0, 0, 0, 0), (124, 3, 200, 0, 0, 0, 0), (127, 3, 200, 0, 0, 0, 0), (130, 1, 0, 2147483648, 0, 0, 0), (131, 2, 15, 6, 0, 0, 0), (133, 2, 7, 6, 0, 0, 0), (135, 2, 1, 2147483662, 0, 0, 0), (137, 3, 73, 81, 160, 0, 0), (140, 1, 10, 3, 0, 0, 0), (141, 3, 3, 9223372036854775839, 0, 0, 303), (144, 1, 31, 0, 0, 0, 0), (145, 1, 8, 0, 0, 0, 0), (146, 2, 7, 6, 0, 0, 0), (148, 3, 100, 29, 1, 15, 284), (151, 1, 29, 0, 0, 0, 0), (152, 1, 30, 0, 0, 0, 0), (153, 1, 18, 3, 0, 0, 0), (154, 3, 22, 6, 2147483649, 0, 0), (157, 3, 80, 67, 133, 0, 0), (160, 1, 10, 3, 0, 0, 0), (161, 1, 87, 0, 0, 0, 0)]
def xg_w9 : List (List Nat) := []
def xg_x9 : List (Nat × Nat × Nat × Nat) := []
def xg_m9 : xv_M := (xg_c9, xg_w9, xg_x9, 8)
def xg_c10 : List xv_I := [(0, 1, 8, 0, 0, 0, 0), (1, 3, 38, 15, 5, 0, 51), (4, 3, 38, 10, 3, 0, 248), (7, 1, 6, 1, 0, 0, 0), (8, 3, 100, 77, 1, 14, 252), (11, 3, 65, 11, 25, 0, 0), (14, 3, 91, 0, 257, 77, 73), (17, 1, 200, 0, 0, 0, 0), (18, 3, 200, 0, 0, 0, 0), (21, 3, 200, 0, 0, 0, 0), (24, 1, 200, 0, 0, 0, 0), (25, 1, 200, 0, 0, 0, 0), (26, 3, 200, 0, 0, 0, 0), (29, 1, 200, 0, 0, 0, 0), (30, 1, 200, 0, 0, 0, 0), (31, 3, 200, 0, 0, 0, 0), (34, 3, 200, 0, 0, 0, 0), (37, 1, 200, 0, 0, 0, 0), (38, 2, 200, 0, 0, 0, 0), (40, 3, 200, 0, 0, 0, 0), (43, 1, 200, 0, 0, 0, 0), (44, 1, 200, 0, 0, 0, 0), (45, 3, 200, 0, 0, 0, 0), (48, 3, 200, 0, 0, 0, 0), (51, 1, 200, 0, 0, 0, 0), (52, 1, 200, 0, 0, 0, 0), (53, 3, 200, 0, 0, 0, 0), (56, 1, 200, 0, 0, 0, 0)]
def xg_w10 : List (List Nat) := []
def xg_x10 : List (Nat × Nat × Nat × Nat) := []
def xg_m10 : xv_M := (xg_c10, xg_w10, xg_x10, 3)
def xg_c11 : List xv_I := [(0, 1, 8, 0, 0, 0, 0), (1, 3, 100, 34, 0, 15, 99), (4, 1, 6, 1, 0, 0, 0), (5, 3, 66, 9, 19, 0, 0), (8, 1, 6, 1, 0, 0, 0), (9, 1, 8, 0, 0, 0, 0), (10, 3, 38, 15, 1, 0, 21), (13, 3, 38, 8, 4, 0, 182), (16, 3, 72, 14, 29, 0, 0), (19, 3, 90, 0, 185, 77, 73), (22, 1, 200, 0, 0, 0, 0), (23, 2, 200, 0, 0, 0, 0), (25, 3, 200, 0, 0, 0, 0), (28, 1, 200, 0, 0, 0, 0), (29, 1, 6, 2, 0, 0, 0), (30, 3, 66, 19, 38, 0, 0), (33, 1, 6, 2, 0, 0, 0), (34, 1, 0, 2147483651, 0, 0, 0), (35, 3, 75, 24, 48, 0, 0), (38, 3, 90, 1, 187, 98, 94), (41, 1, 200, 0, 0, 0, 0), (42, 2, 200, 0, 0, 0, 0), (44, 3, 200, 0, 0, 0, 0), (47, 1, 200, 0, 0, 0, 0), (48, 1, 8, 0, 0, 0, 0), (49, 3, 38, 15, 1, 0, 21), (52, 1, 6, 1, 0, 0, 0), (53, 1, 6, 2, 0, 0, 0), (54, 3, 100, 47, 2, 8, 189), (57, 1, 85, 0, 0, 0, 0)]
def xg_w11 : List (List Nat) := []
def xg_x11 : List (Nat × Nat × Nat × Nat) := []
def xg_m11 : xv_M := (xg_c11, xg_w11, xg_x11, 3)
def xg_c12 : List xv_I := [(0, 1, 8, 0, 0, 0, 0), (1, 3, 38, 15, 0, 0, 10), (4, 1, 6, 1, 0, 0, 0), (5, 3, 100, 63, 1, 12, 120), (8, 3, 65, 10, 21, 0, 0), (11, 3, 90, 0, 123, 77, 73), (14, 1, 200, 0, 0, 0, 0), (15, 2, 200, 0, 0, 0, 0), (17, 3, 200, 0, 0, 0, 0), (20, 1, 200, 0, 0, 0, 0), (21, 1, 8, 0, 0, 0, 0), (22, 3, 38, 15, 0, 0, 10), (25, 1, 6, 2, 0, 0, 0), (26, 3, 100, 68, 1, 12, 106), (29, 3, 65, 20, 42, 0, 0), (32, 3, 90, 1, 109, 98, 94), (35, 1, 200, 0, 0, 0, 0), (36, 2, 200, 0, 0, 0, 0), (38, 3, 200, 0, 0, 0, 0), (41, 1, 200, 0, 0, 0, 0), (42, 1, 8, 0, 0, 0, 0), (43, 3, 38, 15, 0, 0, 10), (46, 3, 38, 12, 5, 0, 125), (49, 1, 6, 1, 0, 0, 0), (50, 3, 96, 2, 2, 0, 129), (53, 1, 14, 3, 0, 0, 0), (54, 1, 8, 0, 0, 0, 0), (55, 3, 38, 15, 0, 0, 10), (58, 3, 38, 12, 5, 0, 125), (61, 1, 6, 1, 0, 0, 0), (62, 1, 6, 2, 0, 0, 0), (63, 3, 96, 28, 3, 0, 133), (66, 1, 8, 0, 0, 0, 0), (67, 1, 0, 2147483649, 0, 0, 0), (68, 3, 40, 15, 8, 1, 58), (71, 1, 8, 0, 0, 0, 0), (72, 3, 100, 34, 0, 15, 99), (75, 1, 8, 0, 0, 0, 0), (76, 3, 38, 15, 1, 0, 21), (79, 3, 38, 8, 4, 0, 182), (82, 2, 15, 4, 0, 0, 0), (84, 1, 8, 0, 0, 0, 0), (85, 3, 38, 15, 0, 0, 10), (88, 3, 38, 12, 5, 0, 125), (91, 1, 6, 1, 0, 0, 0), (92, 1, 6, 3, 0, 0, 0), (93, 3, 96, 28, 3, 0, 133), (96, 1, 8, 0, 0, 0, 0), (97, 1, 0, 2147483649, 0, 0, 0), (98, 3, 40, 15, 8, 1, 58), (101, 2, 7, 4, 0, 0, 0), (103, 1, 85, 0, 0, 0, 0)]
def xg_w12 : List (List Nat) := []
def xg_x12 : List (Nat × Nat × Nat × Nat) := []
def xg_m12 : xv_M := (xg_c12, xg_w12, xg_x12, 5)
def xg_c13 : List xv_I := [(0, 1, 6, 1, 0, 0, 0), (1, 3, 66, 5, 10, 0, 0), (4, 1, 6, 1, 0, 0, 0), (5, 2, 1, 2147483662, 0, 0, 0), (7, 3, 72, 10, 21, 0, 0), (10, 3, 91, 0, 282, 77, 73), (13, 1, 200, 0, 0, 0, 0), (14, 3, 200, 0, 0, 0, 0), (17, 3, 200, 0, 0, 0, 0), (20, 1, 200, 0, 0, 0, 0), (21, 1, 8, 0, 0, 0, 0), (22, 1, 6, 1, 0, 0, 0), (23, 3, 100, 29, 1, 15, 284), (26, 1, 85, 0, 0, 0, 0)]
def xg_w13 : List (List Nat) := []
def xg_x13 : List (Nat × Nat × Nat × Nat) := []
def xg_m13 : xv_M := (xg_c13, xg_w13, xg_x13, 2)
def xg_c14 : List xv_I := [(0, 1, 8, 0, 0, 0, 0), (1, 3, 38, 15, 0, 0, 10), (4, 1, 6, 1, 0, 0, 0), (5, 3, 100, 61, 1, 12, 69), (8, 3, 65, 10, 21, 0, 0), (11, 3, 90, 0, 75, 77, 73), (14, 1, 200, 0, 0, 0, 0), (15, 2, 200, 0, 0, 0, 0), (17, 3, 200, 0, 0, 0, 0), (20, 1, 200, 0, 0, 0, 0), (21, 1, 8, 0, 0, 0, 0), (22, 3, 38, 15, 0, 0, 10), (25, 3, 38, 12, 0, 0, 80), (28, 2, 1, 2147483661, 0, 0, 0), (30, 3, 72, 20, 43, 0, 0), (33, 3, 200, 0, 0, 0, 0), (36, 1, 200, 0, 0, 0, 0), (37, 2, 200, 0, 0, 0, 0), (39, 3, 200, 0, 0, 0, 0), (42, 1, 200, 0, 0, 0, 0), (43, 1, 8, 0, 0, 0, 0), (44, 1, 0, 2147483649, 0, 0, 0), (45, 3, 40, 15, 8, 1, 58), (48, 1, 8, 0, 0, 0, 0), (49, 3, 38, 15, 0, 0, 10), (52, 1, 6, 1, 0, 0, 0), (53, 1, 6, 2, 0, 0, 0), (54, 3, 100, 53, 2, 12, 88), (57, 1, 85, 0, 0, 0, 0)]
def xg_w14 : List (List Nat) := []
def xg_x14 : List (Nat × Nat × Nat × Nat) := []
def xg_m14 : xv_M := (xg_c14, xg_w14, xg_x14, 3)
def xg_c15 : List xv_I := [(0, 1, 8, 0, 0, 0, 0), (1, 3, 38, 15, 1, 0, 21), (4, 3, 38, 8, 4, 0, 182), (7, 3, 69, 6, 14, 0, 0), (10, 1, 0, 2147483648, 0, 0, 0), (11, 3, 80, 11, 25, 0, 0), (14, 1, 200, 0, 0, 0, 0), (15, 3, 200, 0, 0, 0, 0), (18, 1, 200, 0, 0, 0, 0), (19, 3, 200, 0, 0, 0, 0), (22, 3, 200, 0, 0, 0, 0), (25, 1, 85, 0, 0, 0, 0)]
def xg_w15 : List (List Nat) := []
def xg_x15 : List (Nat × Nat × Nat × Nat) := []
def xg_m15 : xv_M := (xg_c15, xg_w15, xg_x15, 2)
def xg_c16 : List xv_I := [(0, 1, 0, 2147483648, 0, 0, 0), (1, 1, 14, 1, 0, 0, 0), (2, 1, 0, 2147483648, 0, 0, 0), (3, 1, 14, 2, 0, 0, 0), (4, 1, 6, 2, 0, 0, 0), (5, 1, 8, 0, 0, 0, 0), (6, 3, 38, 15, 0, 0, 10), (9, 3, 38, 12, 4, 0, 111), (12, 3, 73, 17, 29, 0, 0), (15, 1, 6, 1, 0, 0, 0), (16, 1, 8, 0, 0, 0, 0), (17, 1, 6, 2, 0, 0, 0), (18, 3, 100, 15, 1, 15, 195), (21, 1, 23, 0, 0, 0, 0), (22, 1, 14, 1, 0, 0, 0), (23, 3, 22, 2, 2147483649, 0, 0), (26, 3, 80, 4, 4, 0, 0), (29, 1, 6, 1, 0, 0, 0), (30, 1, 85, 0, 0, 0, 0)]
def xg_w16 : List (List Nat) := []
def xg_x16 : List (Nat × Nat × Nat × Nat) := []
def xg_m16 : xv_M := (xg_c16, xg_w16, xg_x16, 3)
def xg_c17 : List xv_I := [(0, 1, 6, 1, 0, 0, 0), (1, 1, 6, 2, 0, 0, 0), (2, 3, 96, 1, 2, 0, 214), (5, 3, 65, 9, 18, 0, 0), (8, 3, 90, 1, 218, 98, 94), (11, 1, 200, 0, 0, 0, 0), (12, 2, 200, 0, 0, 0, 0), (14, 3, 200, 0, 0, 0, 0), (17, 1, 200, 0, 0, 0, 0), (18, 1, 8, 0, 0, 0, 0), (19, 3, 38, 15, 9, 0, 62), (22, 1, 14, 3, 0, 0, 0), (23, 1, 8, 0, 0, 0, 0), (24, 1, 6, 1, 0, 0, 0), (25, 3, 40, 15, 9, 0, 62), (28, 1, 8, 0, 0, 0, 0), (29, 1, 6, 2, 0, 0, 0), (30, 3, 40, 15, 10, 0, 66), (33, 1, 6, 3, 0, 0, 0), (34, 1, 85, 0, 0, 0, 0)]
def xg_w17 : List (List Nat) := []
def xg_x17 : List (Nat × Nat × Nat × Nat) := []
def xg_m17 : xv_M := (xg_c17, xg_w17, xg_x17, 4)
def xg_c18 : List xv_I := [(0, 1, 6, 1, 0, 0, 0), (1, 3, 66, 5, 10, 0, 0), (4, 1, 6, 1, 0, 0, 0), (5, 2, 1, 2147483657, 0, 0, 0), (7, 3, 75, 10, 20, 0, 0), (10, 3, 90, 1, 232, 98, 94), (13, 1, 200, 0, 0, 0, 0), (14, 2, 200, 0, 0, 0, 0), (16, 3, 200, 0, 0, 0, 0), (19, 1, 200, 0, 0, 0, 0), (20, 1, 8, 0, 0, 0, 0), (21, 3, 100, 34, 0, 15, 99), (24, 1, 8, 0, 0, 0, 0), (25, 1, 6, 1, 0, 0, 0), (26, 3, 100, 31, 1, 15, 291), (29, 1, 85, 0, 0, 0, 0)]
def xg_w18 : List (List Nat) := []
def xg_x18 : List (Nat × Nat × Nat × Nat) := []
def xg_m18 : xv_M := (xg_c18, xg_w18, xg_x18, 2)
def xg_c19 : List xv_I := [(0, 1, 8, 0, 0, 0, 0), (1, 3, 38, 15, 5, 0, 51), (4, 3, 38, 10, 4, 0, 229), (7, 1, 0, 2147483652, 0, 0, 0), (8, 3, 96, 2, 2, 0, 129), (11, 1, 14, 1, 0, 0, 0), (12, 1, 6, 1, 0, 0, 0), (13, 3, 65, 10, 20, 0, 0), (16, 1, 4, 0, 0, 0, 0), (17, 3, 80, 17, 31, 0, 0), (20, 1, 200, 0, 0, 0, 0), (21, 3, 200, 0, 0, 0, 0), (24, 3, 200, 0, 0, 0, 0), (27, 1, 200, 0, 0, 0, 0), (28, 1, 200, 0, 0, 0, 0), (29, 1, 200, 0, 0, 0, 0), (30, 1, 200, 0, 0, 0, 0), (31, 1, 88, 0, 0, 0, 0)]
def xg_w19 : List (List Nat) := []
def xg_x19 : List (Nat × Nat × Nat × Nat) := []
def xg_m19 : xv_M := (xg_c19, xg_w19, xg_x19, 2)
def xg_c20 : List xv_I := [(0, 1, 8, 0, 0, 0, 0), (1, 3, 38, 15, 0, 0, 10), (4, 1, 6, 1, 0, 0, 0), (5, 1, 6, 2, 0, 0, 0), (6, 1, 6, 3, 0, 0, 0), (7, 2, 7, 4, 0, 0, 0), (9, 3, 100, 66, 4, 12, 142), (12, 3, 65, 13, 25, 0, 0), (15, 3, 90, 1, 146, 98, 94), (18, 1, 200, 0, 0, 0, 0), (19, 2, 200, 0, 0, 0, 0), (21, 3, 200, 0, 0, 0, 0), (24, 1, 200, 0, 0, 0, 0), (25, 1, 8, 0, 0, 0, 0), (26, 3, 38, 15, 0, 0, 10), (29, 3, 38, 12, 7, 0, 148), (32, 2, 1, 2147483738, 0, 0, 0), (34, 3, 72, 23, 47, 0, 0), (37, 3, 200, 0, 0, 0, 0), (40, 1, 200, 0, 0, 0, 0), (41, 2, 200, 0, 0, 0, 0), (43, 3, 200, 0, 0, 0, 0), (46, 1, 200, 0, 0, 0, 0), (47, 1, 8, 0, 0, 0, 0), (48, 1, 0, 2147483649, 0, 0, 0), (49, 3, 40, 15, 8, 1, 58), (52, 1, 8, 0, 0, 0, 0), (53, 3, 38, 15, 0, 0, 10), (56, 1, 6, 1, 0, 0, 0), (57, 1, 6, 2, 0, 0, 0), (58, 1, 6, 3, 0, 0, 0), (59, 2, 7, 4, 0, 0, 0), (61, 3, 100, 54, 4, 12, 153), (64, 1, 85, 0, 0, 0, 0)]
def xg_w20 : List (List Nat) := []
def xg_x20 : List (Nat × Nat × Nat × Nat) := []
def xg_m20 : xv_M := (xg_c20, xg_w20, xg_x20, 5)
def xg_c21 : List xv_I := [(0, 1, 8, 0, 0, 0, 0), (1, 3, 38, 15, 0, 0, 10), (4, 1, 6, 1, 0, 0, 0), (5, 3, 100, 61, 1, 12, 69), (8, 3, 65, 10, 21, 0, 0), (11, 3, 90, 0, 92, 77, 73), (14, 1, 200, 0, 0, 0, 0), (15, 2, 200, 0, 0, 0, 0), (17, 3, 200, 0, 0, 0, 0), (20, 1, 200, 0, 0, 0, 0), (21, 1, 6, 2, 0, 0, 0), (22, 3, 66, 15, 30, 0, 0), (25, 1, 6, 2, 0, 0, 0), (26, 1, 0, 2147483652, 0, 0, 0), (27, 3, 75, 20, 40, 0, 0), (30, 3, 90, 1, 96, 98, 94), (33, 1, 200, 0, 0, 0, 0), (34, 2, 200, 0, 0, 0, 0), (36, 3, 200, 0, 0, 0, 0), (39, 1, 200, 0, 0, 0, 0), (40, 1, 8, 0, 0, 0, 0), (41, 3, 100, 34, 0, 15, 99), (44, 1, 8, 0, 0, 0, 0), (45, 1, 6, 1, 0, 0, 0), (46, 1, 6, 2, 0, 0, 0), (47, 3, 100, 30, 2, 15, 102), (50, 1, 85, 0, 0, 0, 0)]
def xg_w21 : List (List Nat) := []
def xg_x21 : List (Nat × Nat × Nat × Nat) := []
def xg_m21 : xv_M := (xg_c21, xg_w21, xg_x21, 3)
def xg_c22 : List xv_I := [(0, 1, 8, 0, 0, 0, 0), (1, 3, 38, 15, 0, 0, 10), (4, 1, 6, 1, 0, 0, 0), (5, 3, 100, 62, 1, 12, 157), (8, 3, 65, 10, 21, 0, 0), (11, 3, 90, 0, 175, 77, 73), (14, 1, 200, 0, 0, 0, 0), (15, 2, 200, 0, 0, 0, 0), (17, 3, 200, 0, 0, 0, 0), (20, 1, 200, 0, 0, 0, 0), (21, 1, 200, 0, 0, 0, 0), (22, 3, 200, 0, 0, 0, 0), (25, 1, 200, 0, 0, 0, 0), (26, 2, 200, 0, 0, 0, 0), (28, 3, 200, 0, 0, 0, 0), (31, 3, 200, 0, 0, 0, 0), (34, 1, 200, 0, 0, 0, 0), (35, 2, 200, 0, 0, 0, 0), (37, 3, 200, 0, 0, 0, 0), (40, 1, 200, 0, 0, 0, 0), (41, 1, 200, 0, 0, 0, 0), (42, 3, 200, 0, 0, 0, 0), (45, 1, 200, 0, 0, 0, 0), (46, 1, 200, 0, 0, 0, 0), (47, 1, 200, 0, 0, 0, 0), (48, 3, 200, 0, 0, 0, 0), (51, 1, 200, 0, 0, 0, 0)]
def xg_w22 : List (List Nat) := []
def xg_x22 : List (Nat × Nat × Nat × Nat) := []
def xg_m22 : xv_M := (xg_c22, xg_w22, xg_x22, 3)
def xg_c23 : List xv_I := [(0, 1, 8, 0, 0, 0, 0), (1, 3, 38, 15, 0, 0, 10), (4, 1, 6, 1, 0, 0, 0), (5, 3, 100, 63, 1, 12, 120), (8, 3, 65, 10, 21, 0, 0), (11, 3, 90, 0, 123, 77, 73), (14, 1, 200, 0, 0, 0, 0), (15, 2, 200, 0, 0, 0, 0), (17, 3, 200, 0, 0, 0, 0), (20, 1, 200, 0, 0, 0, 0), (21, 1, 6, 2, 0, 0, 0), (22, 3, 66, 15, 30, 0, 0), (25, 1, 6, 2, 0, 0, 0), (26, 1, 0, 2147483653, 0, 0, 0), (27, 3, 75, 20, 40, 0, 0), (30, 3, 90, 1, 137, 98, 94), (33, 1, 200, 0, 0, 0, 0), (34, 2, 200, 0, 0, 0, 0), (36, 3, 200, 0, 0, 0, 0), (39, 1, 200, 0, 0, 0, 0), (40, 1, 8, 0, 0, 0, 0), (41, 3, 100, 34, 0, 15, 99), (44, 1, 8, 0, 0, 0, 0), (45, 1, 6, 1, 0, 0, 0), (46, 1, 6, 2, 0, 0, 0), (47, 3, 100, 32, 2, 15, 139), (50, 1, 85, 0, 0, 0, 0)]
def xg_w23 : List (List Nat) := []
def xg_x23 : List (Nat × Nat × Nat × Nat) := []
def xg_m23 : xv_M := (xg_c23, xg_w23, xg_x23, 3)
def xg_c24 : List xv_I := [(0, 1, 6, 1, 0, 0, 0), (1, 3, 66, 5, 10, 0, 0), (4, 1, 6, 1, 0, 0, 0), (5, 2, 1, 2147483657, 0, 0, 0), (7, 3, 75, 10, 20, 0, 0), (10, 3, 90, 1, 232, 98, 94), (13, 1, 200, 0, 0, 0, 0), (14, 2, 200, 0, 0, 0, 0), (16, 3, 200, 0, 0, 0, 0), (19, 1, 200, 0, 0, 0, 0), (20, 1, 8, 0, 0, 0, 0), (21, 1, 6, 1, 0, 0, 0), (22, 3, 100, 33, 1, 15, 234), (25, 1, 85, 0, 0, 0, 0)]
def xg_w24 : List (List Nat) := []
def xg_x24 : List (Nat × Nat × Nat × Nat) := []
def xg_m24 : xv_M := (xg_c24, xg_w24, xg_x24, 2)
def xg_c25 : List xv_I := [(0, 1, 6, 1, 0, 0, 0), (1, 3, 66, 7, 15, 0, 0), (4, 1, 6, 1, 0, 0, 0), (5, 1, 8, 0, 0, 0, 0), (6, 3, 38, 15, 5, 0, 51), (9, 3, 100, 50, 0, 10, 237), (12, 3, 72, 12, 25, 0, 0), (15, 3, 90, 0, 241, 77, 73), (18, 1, 200, 0, 0, 0, 0), (19, 2, 200, 0, 0, 0, 0), (21, 3, 200, 0, 0, 0, 0), (24, 1, 200, 0, 0, 0, 0), (25, 1, 200, 0, 0, 0, 0), (26, 3, 200, 0, 0, 0, 0), (29, 1, 200, 0, 0, 0, 0), (30, 1, 200, 0, 0, 0, 0), (31, 3, 200, 0, 0, 0, 0), (34, 3, 200, 0, 0, 0, 0), (37, 1, 200, 0, 0, 0, 0), (38, 2, 200, 0, 0, 0, 0), (40, 3, 200, 0, 0, 0, 0), (43, 1, 200, 0, 0, 0, 0), (44, 1, 200, 0, 0, 0, 0), (45, 3, 200, 0, 0, 0, 0), (48, 1, 200, 0, 0, 0, 0), (49, 1, 200, 0, 0, 0, 0), (50, 3, 200, 0, 0, 0, 0), (53, 1, 200, 0, 0, 0, 0)]
def xg_w25 : List (List Nat) := []
def xg_x25 : List (Nat × Nat × Nat × Nat) := []
def xg_m25 : xv_M := (xg_c25, xg_w25, xg_x25, 3)
def xg_c26 : List xv_I := [(0, 1, 8, 0, 0, 0, 0), (1, 3, 38, 15, 0, 0, 10), (4, 1, 6, 1, 0, 0, 0), (5, 3, 100, 68, 1, 12, 106), (8, 3, 65, 10, 21, 0, 0), (11, 3, 90, 1, 109, 98, 94), (14, 1, 200, 0, 0, 0, 0), (15, 2, 200, 0, 0, 0, 0), (17, 3, 200, 0, 0, 0, 0), (20, 1, 200, 0, 0, 0, 0), (21, 1, 8, 0, 0, 0, 0), (22, 3, 38, 15, 0, 0, 10), (25, 3, 38, 12, 4, 0, 111), (28, 2, 1, 2147483656, 0, 0, 0), (30, 3, 72, 20, 43, 0, 0), (33, 3, 200, 0, 0, 0, 0), (36, 1, 200, 0, 0, 0, 0), (37, 2, 200, 0, 0, 0, 0), (39, 3, 200, 0, 0, 0, 0), (42, 1, 200, 0, 0, 0, 0), (43, 1, 8, 0, 0, 0, 0), (44, 1, 0, 2147483649, 0, 0, 0), (45, 3, 40, 15, 8, 1, 58), (48, 1, 8, 0, 0, 0, 0), (49, 3, 38, 15, 0, 0, 10), (52, 1, 6, 1, 0, 0, 0), (53, 3, 100, 55, 1, 12, 116), (56, 1, 85, 0, 0, 0, 0)]
def xg_w26 : List (List Nat) := []
def xg_x26 : List (Nat × Nat × Nat × Nat) := []
def xg_m26 : xv_M := (xg_c26, xg_w26, xg_x26, 2)
def xg_c27 : List xv_I := [(0, 1, 8, 0, 0, 0, 0), (1, 3, 38, 15, 7, 0, 192), (4, 1, 14, 2, 0, 0, 0), (5, 1, 8, 0, 0, 0, 0), (6, 1, 6, 1, 0, 0, 0), (7, 3, 40, 15, 7, 1, 192), (10, 1, 8, 0, 0, 0, 0), (11, 1, 0, 2147483649, 0, 0, 0), (12, 3, 40, 15, 8, 1, 58), (15, 1, 6, 2, 0, 0, 0), (16, 1, 85, 0, 0, 1, 0)]
def xg_w27 : List (List Nat) := []
def xg_x27 : List (Nat × Nat × Nat × Nat) := []
def xg_m27 : xv_M := (xg_c27, xg_w27, xg_x27, 3)
def xg_c28 : List xv_I := [(0, 1, 6, 1, 0, 0, 0), (1, 3, 66, 10, 14, 0, 0), (4, 1, 6, 1, 0, 0, 0), (5, 1, 8, 0, 0, 0, 0), (6, 1, 48, 0, 0, 0, 0), (7, 3, 73, 10, 14, 0, 0), (10, 1, 8, 0, 0, 0, 0), (11, 1, 6, 1, 0, 0, 0), (12, 1, 6, 2, 0, 0, 0), (13, 1, 43, 0, 0, 0, 0), (14, 1, 84, 0, 0, 0, 0)]
def xg_w28 : List (List Nat) := []
def xg_x28 : List (Nat × Nat × Nat × Nat) := []
def xg_m28 : xv_M := (xg_c28, xg_w28, xg_x28, 3)
def xg_c29 : List xv_I := [(0, 1, 6, 1, 0, 0, 0), (1, 2, 1, 2147483658, 0, 0, 0), (3, 3, 73, 9, 20, 0, 0), (6, 1, 8, 0, 0, 0, 0), (7, 3, 38, 15, 5, 0, 51), (10, 3, 38, 10, 5, 0, 364), (13, 1, 6, 1, 0, 0, 0), (14, 3, 96, 2, 2, 0, 129), (17, 3, 80, 16, 34, 0, 0), (20, 1, 8, 0, 0, 0, 0), (21, 3, 38, 15, 5, 0, 51), (24, 3, 38, 10, 6, 0, 367), (27, 1, 6, 1, 0, 0, 0), (28, 2, 1, 2147483658, 0, 0, 0), (30, 1, 24, 0, 0, 0, 0), (31, 3, 96, 2, 2, 0, 129), (34, 1, 85, 0, 0, 0, 0)]
def xg_w29 : List (List Nat) := []
def xg_x29 : List (Nat × Nat × Nat × Nat) := []
def xg_m29 : xv_M := (xg_c29, xg_w29, xg_x29, 2)
def xg_c30 : List xv_I := [(0, 1, 6, 2, 0, 0, 0), (1, 31, 81, 0, 0, 0, 0), (32, 1, 8, 0, 0, 0, 0), (33, 3, 38, 15, 0, 0, 10), (36, 3, 38, 12, 1, 0, 316), (39, 1, 6, 1, 0, 0, 0), (40, 3, 96, 2, 2, 0, 129), (43, 1, 85, 0, 0, 0, 0), (44, 1, 8, 0, 0, 0, 0), (45, 3, 38, 15, 0, 0, 10), (48, 3, 38, 12, 2, 0, 319), (51, 1, 6, 1, 0, 0, 0), (52, 3, 96, 2, 2, 0, 129), (55, 1, 85, 0, 0, 0, 0), (56, 1, 8, 0, 0, 0, 0), (57, 3, 38, 15, 0, 0, 10), (60, 3, 38, 12, 3, 0, 322), (63, 1, 6, 1, 0, 0, 0), (64, 3, 96, 2, 2, 0, 129), (67, 1, 85, 0, 0, 0, 0), (68, 1, 8, 0, 0, 0, 0), (69, 3, 38, 15, 0, 0, 10), (72, 1, 6, 1, 0, 0, 0), (73, 3, 100, 58, 1, 12, 325), (76, 1, 85, 0, 0, 0, 0), (77, 1, 8, 0, 0, 0, 0), (78, 3, 38, 15, 5, 0, 51), (81, 3, 38, 10, 3, 0, 248), (84, 3, 38, 14, 4, 0, 328), (87, 1, 6, 1, 0, 0, 0), (88, 3, 96, 2, 2, 0, 129), (91, 1, 85, 0, 0, 0, 0)]
def xg_w30 : List (List Nat) := [[2147483648, 25, 2, 8, 14, 20]]
def xg_x30 : List (Nat × Nat × Nat × Nat) := []
def xg_m30 : xv_M := (xg_c30, xg_w30, xg_x30, 3)
def xg_c31 : List xv_I := [(0, 1, 6, 1, 0, 0, 0), (1, 51, 81, 0, 0, 0, 0), (52, 1, 8, 0, 0, 0, 0), (53, 3, 38, 15, 0, 0, 10), (56, 3, 38, 12, 0, 0, 80), (59, 1, 85, 0, 0, 0, 0), (60, 1, 8, 0, 0, 0, 0), (61, 3, 38, 15, 0, 0, 10), (64, 3, 38, 12, 4, 0, 111), (67, 1, 85, 0, 0, 0, 0), (68, 1, 8, 0, 0, 0, 0), (69, 3, 38, 15, 0, 0, 10), (72, 3, 38, 12, 7, 0, 148), (75, 1, 85, 0, 0, 0, 0), (76, 1, 8, 0, 0, 0, 0), (77, 3, 38, 15, 0, 0, 10), (80, 3, 100, 59, 0, 12, 370), (83, 1, 85, 0, 0, 0, 0), (84, 1, 8, 0, 0, 0, 0), (85, 3, 38, 15, 1, 0, 21), (88, 3, 38, 8, 4, 0, 182), (91, 1, 85, 0, 0, 0, 0), (92, 1, 8, 0, 0, 0, 0), (93, 3, 100, 16, 0, 15, 373), (96, 1, 85, 0, 0, 0, 0), (97, 1, 8, 0, 0, 0, 0), (98, 3, 38, 15, 1, 0, 21), (101, 3, 38, 8, 4, 0, 182), (104, 3, 69, 31, 111, 0, 0), (107, 1, 0, 2147483648, 0, 0, 0), (108, 3, 80, 34, 118, 0, 0), (111, 1, 200, 0, 0, 0, 0), (112, 3, 200, 0, 0, 0, 0), (115, 3, 200, 0, 0, 0, 0), (118, 1, 85, 0, 0, 0, 0), (119, 1, 8, 0, 0, 0, 0), (120, 3, 38, 15, 9, 0, 62), (123, 1, 85, 0, 0, 0, 0), (124, 1, 8, 0, 0, 0, 0), (125, 3, 38, 15, 10, 0, 66), (128, 1, 85, 0, 0, 0, 0), (129, 1, 8, 0, 0, 0, 0), (130, 3, 38, 15, 7, 0, 192), (133, 3, 64, 46, 140, 0, 0), (136, 1, 200, 0, 0, 0, 0), (137, 3, 200, 0, 0, 0, 0), (140, 1, 0, 2147483648, 0, 0, 0), (141, 1, 85, 0, 0, 0, 0)]
def xg_w31 : List (List Nat) := [[2147483648, 41, 2, 6, 10, 14, 18, 22, 25, 35, 38]]
def xg_x31 : List (Nat × Nat × Nat × Nat) := []
def xg_m31 : xv_M := (xg_c31, xg_w31, xg_x31, 2)
def xg_c32 : List xv_I := [(0, 1, 6, 2, 0, 0, 0), (1, 35, 81, 0, 0, 0, 0), (36, 1, 8, 0, 0, 0, 0), (37, 3, 38, 15, 0, 0, 10), (40, 3, 38, 12, 5, 0, 125), (43, 1, 6, 1, 0, 0, 0), (44, 3, 96, 2, 2, 0, 129), (47, 1, 85, 0, 0, 0, 0), (48, 1, 8, 0, 0, 0, 0), (49, 3, 38, 15, 0, 0, 10), (52, 3, 38, 12, 6, 0, 331), (55, 1, 6, 1, 0, 0, 0), (56, 3, 96, 2, 2, 0, 129), (59, 1, 85, 0, 0, 0, 0), (60, 1, 8, 0, 0, 0, 0), (61, 3, 38, 15, 0, 0, 10), (64, 1, 6, 1, 0, 0, 0), (65, 3, 100, 56, 1, 12, 334), (68, 1, 85, 0, 0, 0, 0), (69, 1, 8, 0, 0, 0, 0), (70, 1, 6, 1, 0, 0, 0), (71, 3, 100, 15, 1, 15, 195), (74, 1, 85, 0, 0, 0, 0), (75, 1, 8, 0, 0, 0, 0), (76, 1, 6, 1, 0, 0, 0), (77, 3, 100, 36, 1, 15, 205), (80, 1, 85, 0, 0, 0, 0), (81, 1, 8, 0, 0, 0, 0), (82, 3, 38, 15, 5, 0, 51), (85, 3, 38, 10, 8, 0, 337), (88, 1, 6, 1, 0, 0, 0), (89, 3, 96, 2, 2, 0, 129), (92, 1, 85, 0, 0, 0, 0)]
def xg_w32 : List (List Nat) := [[2147483648, 27, 2, 8, 14, 19, 23]]
def xg_x32 : List (Nat × Nat × Nat × Nat) := []
def xg_m32 : xv_M := (xg_c32, xg_w32, xg_x32, 3)
def xg_c33 : List xv_I := [(0, 1, 6, 1, 0, 0, 0), (1, 2, 1, 2147483657, 0, 0, 0), (3, 3, 71, 6, 13, 0, 0), (6, 1, 8, 0, 0, 0, 0), (7, 3, 38, 15, 11, 0, 226), (10, 3, 80, 11, 24, 0, 0), (13, 1, 8, 0, 0, 0, 0), (14, 3, 38, 15, 5, 0, 51), (17, 3, 38, 10, 4, 0, 229), (20, 1, 6, 1, 0, 0, 0), (21, 3, 96, 2, 2, 0, 129), (24, 1, 85, 0, 0, 0, 0)]
def xg_w33 : List (List Nat) := []
def xg_x33 : List (Nat × Nat × Nat × Nat) := []
def xg_m33 : xv_M := (xg_c33, xg_w33, xg_x33, 2)
def xg_c34 : List xv_I := [(0, 1, 8, 0, 0, 0, 0), (1, 3, 38, 15, 8, 0, 58), (4, 3, 65, 4, 8, 0, 0), (7, 1, 200, 0, 0, 0, 0), (8, 1, 8, 0, 0, 0, 0), (9, 1, 0, 2147483648, 0, 0, 0), (10, 3, 40, 15, 8, 1, 58), (13, 1, 8, 0, 0, 0, 0), (14, 3, 38, 15, 0, 0, 10), (17, 3, 100, 60, 0, 12, 383), (20, 1, 8, 0, 0, 0, 0), (21, 3, 38, 15, 1, 0, 21), (24, 3, 100, 46, 0, 8, 386), (27, 1, 8, 0, 0, 0, 0), (28, 3, 38, 15, 1, 0, 21), (31, 3, 38, 8, 4, 0, 182), (34, 3, 69, 18, 38, 0, 0), (37, 1, 84, 0, 0, 0, 0), (38, 1, 200, 0, 0, 0, 0), (39, 3, 200, 0, 0, 0, 0), (42, 1, 200, 0, 0, 0, 0), (43, 3, 200, 0, 0, 0, 0), (46, 1, 200, 0, 0, 0, 0), (47, 1, 200, 0, 0, 0, 0), (48, 1, 200, 0, 0, 0, 0), (49, 1, 200, 0, 0, 0, 0), (50, 3, 200, 0, 0, 0, 0), (53, 3, 200, 0, 0, 0, 0), (56, 3, 200, 0, 0, 0, 0), (59, 1, 200, 0, 0, 0, 0), (60, 3, 200, 0, 0, 0, 0), (63, 1, 200, 0, 0, 0, 0), (64, 1, 200, 0, 0, 0, 0), (65, 3, 200, 0, 0, 0, 0), (68, 3, 200, 0, 0, 0, 0), (71, 3, 200, 0, 0, 0, 0), (74, 1, 200, 0, 0, 0, 0), (75, 3, 200, 0, 0, 0, 0), (78, 2, 200, 0, 0, 0, 0), (80, 1, 200, 0, 0, 0, 0), (81, 1, 200, 0, 0, 0, 0), (82, 1, 200, 0, 0, 0, 0), (83, 3, 200, 0, 0, 0, 0), (86, 3, 200, 0, 0, 0, 0), (89, 3, 200, 0, 0, 0, 0), (92, 1, 200, 0, 0, 0, 0)]
def xg_w34 : List (List Nat) := []
def xg_x34 : List (Nat × Nat × Nat × Nat) := []
def xg_m34 : xv_M := (xg_c34, xg_w34, xg_x34, 2)
def xg_c35 : List xv_I := [(0, 1, 8, 0, 0, 0, 0), (1, 3, 100, 34, 0, 15, 99), (4, 1, 8, 0, 0, 0, 0), (5, 3, 38, 15, 0, 0, 10), (8, 1, 6, 1, 0, 0, 0), (9, 3, 100, 63, 1, 12, 120), (12, 3, 64, 14, 28, 0, 0), (15, 1, 6, 2, 0, 0, 0), (16, 3, 66, 14, 28, 0, 0), (19, 1, 6, 2, 0, 0, 0), (20, 1, 8, 0, 0, 0, 0), (21, 1, 6, 1, 0, 0, 0), (22, 3, 100, 36, 1, 15, 205), (25, 3, 72, 19, 38, 0, 0), (28, 3, 90, 0, 208, 77, 73), (31, 1, 200, 0, 0, 0, 0), (32, 2, 200, 0, 0, 0, 0), (34, 3, 200, 0, 0, 0, 0), (37, 1, 200, 0, 0, 0, 0), (38, 1, 200, 0, 0, 0, 0), (39, 3, 200, 0, 0, 0, 0), (42, 1, 200, 0, 0, 0, 0), (43, 1, 200, 0, 0, 0, 0), (44, 3, 200, 0, 0, 0, 0), (47, 3, 200, 0, 0, 0, 0), (50, 1, 200, 0, 0, 0, 0), (51, 2, 200, 0, 0, 0, 0), (53, 3, 200, 0, 0, 0, 0), (56, 1, 200, 0, 0, 0, 0), (57, 1, 200, 0, 0, 0, 0), (58, 3, 200, 0, 0, 0, 0), (61, 1, 200, 0, 0, 0, 0), (62, 3, 200, 0, 0, 0, 0), (65, 1, 200, 0, 0, 0, 0), (66, 3, 200, 0, 0, 0, 0), (69, 3, 200, 0, 0, 0, 0), (72, 1, 200, 0, 0, 0, 0), (73, 1, 200, 0, 0, 0, 0), (74, 1, 200, 0, 0, 0, 0), (75, 3, 200, 0, 0, 0, 0), (78, 1, 200, 0, 0, 0, 0)]
def xg_w35 : List (List Nat) := []
def xg_x35 : List (Nat × Nat × Nat × Nat) := []
def xg_m35 : xv_M := (xg_c35, xg_w35, xg_x35, 4)
def xg_c36 : List xv_I := [(0, 1, 8, 0, 0, 0, 0), (1, 3, 38, 15, 1, 0, 21), (4, 3, 38, 8, 4, 0, 182), (7, 3, 69, 6, 14, 0, 0), (10, 1, 0, 2147483648, 0, 0, 0), (11, 3, 80, 11, 25, 0, 0), (14, 1, 200, 0, 0, 0, 0), (15, 3, 200, 0, 0, 0, 0), (18, 1, 200, 0, 0, 0, 0), (19, 3, 200, 0, 0, 0, 0), (22, 3, 200, 0, 0, 0, 0), (25, 1, 85, 0, 0, 0, 0)]
def xg_w36 : List (List Nat) := []
def xg_x36 : List (Nat × Nat × Nat × Nat) := []
def xg_m36 : xv_M := (xg_c36, xg_w36, xg_x36, 2)
def xg_c37 : List xv_I := [(0, 1, 8, 0, 0, 0, 0), (1, 3, 100, 34, 0, 15, 99), (4, 1, 8, 0, 0, 0, 0), (5, 3, 38, 15, 1, 0, 21), (8, 3, 38, 8, 4, 0, 182), (11, 3, 69, 11, 24, 0, 0), (14, 3, 90, 2, 220, 87, 83), (17, 1, 200, 0, 0, 0, 0), (18, 2, 200, 0, 0, 0, 0), (20, 3, 200, 0, 0, 0, 0), (23, 1, 200, 0, 0, 0, 0), (24, 1, 200, 0, 0, 0, 0), (25, 3, 200, 0, 0, 0, 0), (28, 1, 200, 0, 0, 0, 0), (29, 3, 200, 0, 0, 0, 0), (32, 1, 200, 0, 0, 0, 0), (33, 3, 200, 0, 0, 0, 0), (36, 3, 200, 0, 0, 0, 0), (39, 1, 200, 0, 0, 0, 0), (40, 1, 200, 0, 0, 0, 0), (41, 3, 200, 0, 0, 0, 0), (44, 1, 200, 0, 0, 0, 0), (45, 1, 200, 0, 0, 0, 0), (46, 3, 200, 0, 0, 0, 0), (49, 1, 200, 0, 0, 0, 0), (50, 3, 200, 0, 0, 0, 0), (53, 3, 200, 0, 0, 0, 0), (56, 1, 200, 0, 0, 0, 0), (57, 3, 200, 0, 0, 0, 0), (60, 1, 200, 0, 0, 0, 0)]
def xg_w37 : List (List Nat) := []
def xg_x37 : List (Nat × Nat × Nat × Nat) := []
def xg_m37 : xv_M := (xg_c37, xg_w37, xg_x37, 1)
def xg_c38 : List xv_I := [(0, 1, 8, 0, 0, 0, 0), (1, 3, 38, 15, 5, 0, 51), (4, 3, 38, 10, 3, 0, 248), (7, 1, 16, 3, 0, 0, 0), (8, 1, 8, 3, 0, 0, 0), (9, 1, 6, 1, 0, 0, 0), (10, 3, 100, 77, 1, 14, 252), (13, 3, 64, 16, 32, 0, 0), (16, 1, 200, 0, 0, 0, 0), (17, 3, 200, 0, 0, 0, 0), (20, 1, 200, 0, 0, 0, 0), (21, 1, 200, 0, 0, 0, 0), (22, 3, 200, 0, 0, 0, 0), (25, 1, 200, 0, 0, 0, 0), (26, 3, 200, 0, 0, 0, 0), (29, 3, 200, 0, 0, 0, 0), (32, 3, 91, 0, 263, 77, 73), (35, 1, 200, 0, 0, 0, 0), (36, 3, 200, 0, 0, 0, 0), (39, 3, 200, 0, 0, 0, 0), (42, 1, 200, 0, 0, 0, 0), (43, 1, 200, 0, 0, 0, 0), (44, 3, 200, 0, 0, 0, 0), (47, 1, 200, 0, 0, 0, 0), (48, 3, 200, 0, 0, 0, 0), (51, 2, 200, 0, 0, 0, 0), (53, 1, 200, 0, 0, 0, 0), (54, 2, 200, 0, 0, 0, 0), (56, 2, 200, 0, 0, 0, 0), (58, 1, 200, 0, 0, 0, 0), (59, 3, 200, 0, 0, 0, 0), (62, 1, 200, 0, 0, 0, 0), (63, 3, 200, 0, 0, 0, 0), (66, 2, 200, 0, 0, 0, 0), (68, 3, 200, 0, 0, 0, 0), (71, 2, 200, 0, 0, 0, 0), (73, 3, 200, 0, 0, 0, 0), (76, 3, 200, 0, 0, 0, 0), (79, 1, 200, 0, 0, 0, 0), (80, 3, 200, 0, 0, 0, 0), (83, 2, 200, 0, 0, 0, 0), (85, 3, 200, 0, 0, 0, 0), (88, 1, 200, 0, 0, 0, 0)]
def xg_w38 : List (List Nat) := []
def xg_x38 : List (Nat × Nat × Nat × Nat) := []
def xg_m38 : xv_M := (xg_c38, xg_w38, xg_x38, 6)
def xg_c39 : List xv_I := [(0, 1, 8, 0, 0, 0, 0), (1, 3, 38, 15, 0, 0, 10), (4, 1, 6, 1, 0, 0, 0), (5, 3, 100, 63, 1, 12, 120), (8, 3, 65, 10, 21, 0, 0), (11, 3, 90, 0, 123, 77, 73), (14, 1, 200, 0, 0, 0, 0), (15, 2, 200, 0, 0, 0, 0), (17, 3, 200, 0, 0, 0, 0), (20, 1, 200, 0, 0, 0, 0), (21, 1, 8, 0, 0, 0, 0), (22, 3, 38, 15, 0, 0, 10), (25, 1, 6, 2, 0, 0, 0), (26, 3, 100, 68, 1, 12, 106), (29, 3, 65, 20, 42, 0, 0), (32, 3, 90, 1, 109, 98, 94), (35, 1, 200, 0, 0, 0, 0), (36, 2, 200, 0, 0, 0, 0), (38, 3, 200, 0, 0, 0, 0), (41, 1, 200, 0, 0, 0, 0), (42, 1, 8, 0, 0, 0, 0), (43, 3, 38, 15, 0, 0, 10), (46, 3, 38, 12, 5, 0, 125), (49, 1, 6, 1, 0, 0, 0), (50, 3, 96, 2, 2, 0, 129), (53, 1, 14, 3, 0, 0, 0), (54, 1, 8, 0, 0, 0, 0), (55, 3, 38, 15, 0, 0, 10), (58, 3, 38, 12, 5, 0, 125), (61, 1, 6, 1, 0, 0, 0), (62, 1, 6, 2, 0, 0, 0), (63, 3, 96, 28, 3, 0, 133), (66, 1, 8, 0, 0, 0, 0), (67, 1, 0, 2147483649, 0, 0, 0), (68, 3, 40, 15, 8, 1, 58), (71, 1, 6, 3, 0, 0, 0), (72, 1, 85, 0, 0, 0, 0)]
def xg_w39 : List (List Nat) := []
def xg_x39 : List (Nat × Nat × Nat × Nat) := []
def xg_m39 : xv_M := (xg_c39, xg_w39, xg_x39, 4)
def xg_c40 : List xv_I := [(0, 1, 8, 0, 0, 0, 0), (1, 3, 38, 15, 5, 0, 51), (4, 3, 38, 10, 3, 0, 248), (7, 1, 16, 3, 0, 0, 0), (8, 1, 8, 3, 0, 0, 0), (9, 1, 6, 1, 0, 0, 0), (10, 3, 100, 77, 1, 14, 252), (13, 3, 64, 16, 32, 0, 0), (16, 1, 200, 0, 0, 0, 0), (17, 3, 200, 0, 0, 0, 0), (20, 1, 200, 0, 0, 0, 0), (21, 1, 200, 0, 0, 0, 0), (22, 3, 200, 0, 0, 0, 0), (25, 1, 200, 0, 0, 0, 0), (26, 3, 200, 0, 0, 0, 0), (29, 3, 200, 0, 0, 0, 0), (32, 3, 91, 0, 277, 77, 73), (35, 1, 200, 0, 0, 0, 0), (36, 3, 200, 0, 0, 0, 0), (39, 3, 200, 0, 0, 0, 0), (42, 1, 200, 0, 0, 0, 0), (43, 1, 200, 0, 0, 0, 0), (44, 1, 200, 0, 0, 0, 0), (45, 1, 200, 0, 0, 0, 0), (46, 3, 200, 0, 0, 0, 0), (49, 1, 200, 0, 0, 0, 0)]
def xg_w40 : List (List Nat) := []
def xg_x40 : List (Nat × Nat × Nat × Nat) := []
def xg_m40 : xv_M := (xg_c40, xg_w40, xg_x40, 4)
def xg_c41 : List xv_I := [(0, 1, 6, 1, 0, 0, 0), (1, 1, 6, 2, 0, 0, 0), (2, 3, 96, 1, 2, 0, 214), (5, 3, 64, 9, 18, 0, 0), (8, 1, 6, 3, 0, 0, 0), (9, 3, 66, 9, 18, 0, 0), (12, 1, 6, 3, 0, 0, 0), (13, 2, 1, 2147483656, 0, 0, 0), (15, 3, 75, 14, 29, 0, 0), (18, 3, 91, 1, 294, 98, 94), (21, 1, 200, 0, 0, 0, 0), (22, 3, 200, 0, 0, 0, 0), (25, 3, 200, 0, 0, 0, 0), (28, 1, 200, 0, 0, 0, 0), (29, 1, 8, 0, 0, 0, 0), (30, 3, 100, 34, 0, 15, 99), (33, 1, 8, 0, 0, 0, 0), (34, 3, 38, 15, 1, 0, 21), (37, 3, 38, 8, 4, 0, 182), (40, 3, 69, 25, 53, 0, 0), (43, 3, 90, 2, 220, 87, 83), (46, 1, 200, 0, 0, 0, 0), (47, 2, 200, 0, 0, 0, 0), (49, 3, 200, 0, 0, 0, 0), (52, 1, 200, 0, 0, 0, 0), (53, 1, 200, 0, 0, 0, 0), (54, 3, 200, 0, 0, 0, 0), (57, 1, 200, 0, 0, 0, 0), (58, 1, 200, 0, 0, 0, 0), (59, 3, 200, 0, 0, 0, 0), (62, 1, 200, 0, 0, 0, 0), (63, 3, 200, 0, 0, 0, 0), (66, 3, 200, 0, 0, 0, 0), (69, 1, 200, 0, 0, 0, 0), (70, 3, 200, 0, 0, 0, 0), (73, 1, 200, 0, 0, 0, 0)]
def xg_w41 : List (List Nat) := []
def xg_x41 : List (Nat × Nat × Nat × Nat) := []
def xg_m41 : xv_M := (xg_c41, xg_w41, xg_x41, 4)
def xg_c42 : List xv_I := [(0, 1, 8, 0, 0, 0, 0), (1, 3, 51, 0, 0, 0, 3), (4, 1, 8, 0, 0, 0, 0), (5, 3, 2, 2147483948, 0, 0, 0), (8, 2, 57, 0, 0, 0, 0), (10, 3, 41, 6, 2, 2, 9), (13, 1, 8, 0, 0, 0, 0), (14, 3, 2, 2147483948, 0, 0, 0), (17, 2, 57, 0, 0, 0, 0), (19, 3, 41, 6, 3, 2, 15), (22, 1, 8, 0, 0, 0, 0), (23, 3, 2, 2147483948, 0, 0, 0), (26, 2, 57, 0, 0, 0, 0), (28, 3, 41, 6, 4, 2, 18), (31, 1, 8, 0, 0, 0, 0), (32, 3, 2, 2147483948, 0, 0, 0), (35, 2, 57, 0, 0, 0, 0), (37, 3, 41, 6, 5, 2, 21), (40, 1, 8, 0, 0, 0, 0), (41, 3, 2, 2147483948, 0, 0, 0), (44, 2, 57, 0, 0, 0, 0), (46, 3, 41, 6, 6, 2, 24), (49, 1, 8, 0, 0, 0, 0), (50, 3, 2, 2147483948, 0, 0, 0), (53, 2, 57, 0, 0, 0, 0), (55, 3, 41, 6, 7, 2, 27), (58, 1, 8, 0, 0, 0, 0), (59, 3, 2, 2147483948, 0, 0, 0), (62, 2, 57, 0, 0, 0, 0), (64, 3, 41, 6, 8, 2, 30), (67, 1, 8, 0, 0, 0, 0), (68, 3, 2, 2147484338, 0, 0, 0), (71, 2, 57, 0, 0, 0, 0), (73, 3, 41, 6, 9, 2, 33), (76, 1, 84, 0, 0, 0, 0)]
def xg_w42 : List (List Nat) := []
def xg_x42 : List (Nat × Nat × Nat × Nat) := []
def xg_m42 : xv_M := (xg_c42, xg_w42, xg_x42, 1)
def xg_c43 : List xv_I := [(0, 1, 8, 0, 0, 0, 0), (1, 3, 51, 0, 0, 0, 3), (4, 1, 8, 0, 0, 0, 0), (5, 2, 1, 2147483739, 0, 0, 0), (7, 3, 58, 2, 0, 0, 9), (10, 3, 41, 7, 3, 2, 11), (13, 1, 8, 0, 0, 0, 0), (14, 3, 2, 2147484038, 0, 0, 0), (17, 2, 57, 0, 0, 0, 0), (19, 3, 41, 7, 4, 2, 17), (22, 1, 8, 0, 0, 0, 0), (23, 3, 2, 2147484038, 0, 0, 0), (26, 2, 57, 0, 0, 0, 0), (28, 3, 41, 7, 5, 2, 21), (31, 1, 8, 0, 0, 0, 0), (32, 3, 2, 2147484038, 0, 0, 0), (35, 2, 57, 0, 0, 0, 0), (37, 3, 41, 7, 6, 2, 24), (40, 1, 8, 0, 0, 0, 0), (41, 3, 2, 2147483948, 0, 0, 0), (44, 2, 57, 0, 0, 0, 0), (46, 3, 41, 7, 8, 2, 27), (49, 1, 8, 0, 0, 0, 0), (50, 3, 2, 2147483948, 0, 0, 0), (53, 2, 57, 0, 0, 0, 0), (55, 3, 41, 7, 9, 2, 30), (58, 1, 8, 0, 0, 0, 0), (59, 2, 1, 2147483738, 0, 0, 0), (61, 2, 57, 0, 0, 0, 0), (63, 3, 41, 7, 11, 2, 33), (66, 1, 8, 0, 0, 0, 0), (67, 2, 1, 2147483738, 0, 0, 0), (69, 2, 57, 0, 0, 0, 0), (71, 3, 41, 7, 12, 2, 36), (74, 1, 8, 0, 0, 0, 0), (75, 1, 8, 1, 0, 0, 0), (76, 3, 41, 7, 0, 2, 39), (79, 1, 8, 0, 0, 0, 0), (80, 1, 8, 2, 0, 0, 0), (81, 3, 41, 7, 1, 2, 43), (84, 1, 8, 0, 0, 0, 0), (85, 1, 8, 3, 0, 0, 0), (86, 3, 41, 7, 2, 2, 47), (89, 1, 8, 0, 0, 0, 0), (90, 1, 8, 2, 0, 0, 0), (91, 1, 0, 2147483648, 0, 0, 0), (92, 1, 46, 0, 0, 0, 0), (93, 3, 40, 7, 13, 2, 51), (96, 1, 0, 2147483648, 0, 0, 0), (97, 2, 15, 4, 0, 0, 0), (99, 2, 7, 4, 0, 0, 0), (101, 1, 8, 0, 0, 0, 0), (102, 3, 38, 7, 3, 0, 11), (105, 1, 48, 0, 0, 0, 0), (106, 3, 73, 64, 129, 0, 0), (109, 1, 8, 0, 0, 0, 0), (110, 3, 38, 7, 3, 0, 11), (113, 2, 7, 4, 0, 0, 0), (115, 3, 56, 11, 0, 0, 9), (118, 1, 34, 0, 0, 0, 0), (119, 3, 99, 51, 0, 11, 55), (122, 1, 47, 0, 0, 0, 0), (123, 3, 22, 4, 2147483649, 0, 0), (126, 3, 80, 50, 99, 0, 0), (129, 1, 84, 0, 0, 0, 0)]
def xg_w43 : List (List Nat) := []
def xg_x43 : List (Nat × Nat × Nat × Nat) := []
def xg_m43 : xv_M := (xg_c43, xg_w43, xg_x43, 5)
def xg_c44 : List xv_I := [(0, 1, 8, 0, 0, 0, 0), (1, 3, 51, 0, 0, 0, 3), (4, 1, 8, 0, 0, 0, 0), (5, 3, 2, 2147484456, 0, 0, 0), (8, 2, 57, 0, 0, 0, 0), (10, 3, 41, 8, 1, 2, 11), (13, 1, 8, 0, 0, 0, 0), (14, 2, 1, 2147483738, 0, 0, 0), (16, 2, 57, 0, 0, 0, 0), (18, 3, 41, 8, 2, 2, 15), (21, 1, 8, 0, 0, 0, 0), (22, 1, 8, 1, 0, 0, 0), (23, 3, 41, 8, 0, 2, 18), (26, 1, 84, 0, 0, 0, 0)]
def xg_w44 : List (List Nat) := []
def xg_x44 : List (Nat × Nat × Nat × Nat) := []
def xg_m44 : xv_M := (xg_c44, xg_w44, xg_x44, 2)
def xg_c45 : List xv_I := [(0, 1, 8, 0, 0, 0, 0), (1, 3, 38, 8, 4, 0, 26), (4, 3, 2, 2147483850, 0, 0, 0), (7, 3, 72, 5, 11, 0, 0), (10, 1, 200, 0, 0, 0, 0), (11, 1, 8, 0, 0, 0, 0), (12, 3, 38, 8, 1, 0, 11), (15, 1, 8, 0, 0, 0, 0), (16, 3, 38, 8, 4, 0, 26), (19, 1, 0, 2147483652, 0, 0, 0), (20, 1, 25, 0, 0, 0, 0), (21, 1, 6, 1, 0, 0, 0), (22, 3, 97, 28, 3, 0, 30), (25, 1, 8, 0, 0, 0, 0), (26, 3, 38, 8, 1, 0, 11), (29, 1, 8, 0, 0, 0, 0), (30, 3, 38, 8, 4, 0, 26), (33, 1, 0, 2147483652, 0, 0, 0), (34, 1, 25, 0, 0, 0, 0), (35, 1, 0, 2147483649, 0, 0, 0), (36, 1, 23, 0, 0, 0, 0), (37, 1, 6, 2, 0, 0, 0), (38, 3, 97, 28, 3, 0, 30), (41, 1, 8, 0, 0, 0, 0), (42, 3, 38, 8, 1, 0, 11), (45, 1, 8, 0, 0, 0, 0), (46, 3, 38, 8, 4, 0, 26), (49, 1, 0, 2147483652, 0, 0, 0), (50, 1, 25, 0, 0, 0, 0), (51, 1, 0, 2147483650, 0, 0, 0), (52, 1, 23, 0, 0, 0, 0), (53, 1, 6, 3, 0, 0, 0), (54, 3, 97, 28, 3, 0, 30), (57, 1, 8, 0, 0, 0, 0), (58, 3, 38, 8, 1, 0, 11), (61, 1, 8, 0, 0, 0, 0), (62, 3, 38, 8, 4, 0, 26), (65, 1, 0, 2147483652, 0, 0, 0), (66, 1, 25, 0, 0, 0, 0), (67, 1, 0, 2147483651, 0, 0, 0), (68, 1, 23, 0, 0, 0, 0), (69, 2, 7, 4, 0, 0, 0), (71, 3, 97, 28, 3, 0, 30), (74, 1, 8, 0, 0, 0, 0), (75, 1, 34, 0, 0, 0, 0), (76, 3, 38, 8, 4, 0, 26), (79, 1, 0, 2147483649, 0, 0, 0), (80, 1, 23, 0, 0, 0, 0), (81, 3, 40, 8, 4, 0, 26), (84, 1, 84, 0, 0, 0, 0)]
def xg_w45 : List (List Nat) := []
def xg_x45 : List (Nat × Nat × Nat × Nat) := []
def xg_m45 : xv_M := (xg_c45, xg_w45, xg_x45, 5)
def xg_c46 : List xv_I := [(0, 1, 8, 0, 0, 0, 0), (1, 1, 0, 2147483648, 0, 0, 0), (2, 3, 40, 8, 4, 0, 26), (5, 1, 0, 2147483648, 0, 0, 0), (6, 1, 14, 1, 0, 0, 0), (7, 1, 6, 1, 0, 0, 0), (8, 1, 8, 0, 0, 0, 0), (9, 3, 38, 8, 0, 0, 18), (12, 3, 38, 12, 4, 0, 34), (15, 3, 73, 35, 64, 0, 0), (18, 1, 8, 0, 0, 0, 0), (19, 3, 38, 8, 0, 0, 18), (22, 3, 38, 12, 6, 0, 39), (25, 1, 6, 1, 0, 0, 0), (26, 3, 97, 2, 2, 0, 22), (29, 1, 14, 2, 0, 0, 0), (30, 1, 6, 2, 0, 0, 0), (31, 1, 0, 2147483647, 0, 0, 0), (32, 3, 71, 26, 47, 0, 0), (35, 1, 8, 0, 0, 0, 0), (36, 2, 1, 2147483658, 0, 0, 0), (38, 1, 6, 1, 0, 0, 0), (39, 1, 0, 2147483647, 0, 0, 0), (40, 1, 0, 2147483647, 0, 0, 0), (41, 3, 100, 45, 4, 8, 42), (44, 3, 80, 33, 58, 0, 0), (47, 1, 200, 0, 0, 0, 0), (48, 1, 200, 0, 0, 0, 0), (49, 1, 200, 0, 0, 0, 0), (50, 3, 200, 0, 0, 0, 0), (53, 1, 200, 0, 0, 0, 0), (54, 1, 200, 0, 0, 0, 0), (55, 3, 200, 0, 0, 0, 0), (58, 3, 22, 1, 2147483649, 0, 0), (61, 3, 80, 5, 7, 0, 0), (64, 1, 84, 0, 0, 0, 0)]
def xg_w46 : List (List Nat) := []
def xg_x46 : List (Nat × Nat × Nat × Nat) := []
def xg_m46 : xv_M := (xg_c46, xg_w46, xg_x46, 3)
def xg_c47 : List xv_I := [(0, 1, 8, 0, 0, 0, 0), (1, 3, 38, 8, 1, 0, 11), (4, 1, 6, 1, 0, 0, 0), (5, 1, 0, 2147483652, 0, 0, 0), (6, 1, 25, 0, 0, 0, 0), (7, 1, 6, 2, 0, 0, 0), (8, 1, 23, 0, 0, 0, 0), (9, 3, 97, 2, 2, 0, 22), (12, 1, 85, 0, 0, 0, 0)]
def xg_w47 : List (List Nat) := []
def xg_x47 : List (Nat × Nat × Nat × Nat) := []
def xg_m47 : xv_M := (xg_c47, xg_w47, xg_x47, 3)
def xg_c48 : List xv_I := [(0, 1, 8, 0, 0, 0, 0), (1, 3, 51, 0, 0, 0, 3), (4, 1, 8, 0, 0, 0, 0), (5, 2, 1, 2147483738, 0, 0, 0), (7, 2, 57, 0, 0, 0, 0), (9, 3, 41, 9, 4, 2, 9), (12, 1, 8, 0, 0, 0, 0), (13, 2, 1, 2147483738, 0, 0, 0), (15, 2, 57, 0, 0, 0, 0), (17, 3, 41, 9, 5, 2, 15), (20, 1, 84, 0, 0, 0, 0)]
def xg_w48 : List (List Nat) := []
def xg_x48 : List (Nat × Nat × Nat × Nat) := []
def xg_m48 : xv_M := (xg_c48, xg_w48, xg_x48, 1)
def xg_c49 : List xv_I := [(0, 1, 8, 0, 0, 0, 0), (1, 3, 51, 0, 0, 0, 3), (4, 1, 8, 0, 0, 0, 0), (5, 3, 56, 14, 0, 0, 9), (8, 1, 34, 0, 0, 0, 0), (9, 3, 99, 76, 0, 14, 11), (12, 3, 41, 10, 3, 2, 12), (15, 1, 8, 0, 0, 0, 0), (16, 2, 1, 2147483657, 0, 0, 0), (18, 2, 57, 0, 0, 0, 0), (20, 3, 41, 10, 4, 2, 18), (23, 1, 8, 0, 0, 0, 0), (24, 2, 1, 2147483658, 0, 0, 0), (26, 2, 57, 0, 0, 0, 0), (28, 3, 41, 10, 5, 2, 22), (31, 1, 8, 0, 0, 0, 0), (32, 1, 0, 2147483652, 0, 0, 0), (33, 2, 57, 0, 0, 0, 0), (35, 3, 41, 10, 6, 2, 25), (38, 1, 8, 0, 0, 0, 0), (39, 2, 1, 2147483738, 0, 0, 0), (41, 2, 57, 0, 0, 0, 0), (43, 3, 41, 10, 7, 2, 28), (46, 1, 8, 0, 0, 0, 0), (47, 2, 1, 2147483656, 0, 0, 0), (49, 2, 57, 0, 0, 0, 0), (51, 3, 41, 10, 8, 2, 31), (54, 1, 8, 0, 0, 0, 0), (55, 2, 1, 2147483768, 0, 0, 0), (57, 2, 57, 0, 0, 0, 0), (59, 3, 41, 10, 9, 2, 34), (62, 1, 8, 0, 0, 0, 0), (63, 2, 1, 2147483678, 0, 0, 0), (65, 3, 58, 3, 0, 0, 37), (68, 3, 41, 10, 11, 2, 39), (71, 1, 8, 0, 0, 0, 0), (72, 1, 8, 1, 0, 0, 0), (73, 3, 41, 10, 0, 2, 43), (76, 1, 8, 0, 0, 0, 0), (77, 1, 8, 2, 0, 0, 0), (78, 3, 41, 10, 1, 2, 47), (81, 1, 8, 0, 0, 0, 0), (82, 1, 8, 3, 0, 0, 0), (83, 3, 41, 10, 2, 2, 51), (86, 1, 0, 2147483648, 0, 0, 0), (87, 2, 15, 4, 0, 0, 0), (89, 2, 7, 4, 0, 0, 0), (91, 1, 8, 0, 0, 0, 0), (92, 3, 38, 10, 11, 0, 39), (95, 1, 48, 0, 0, 0, 0), (96, 3, 73, 60, 119, 0, 0), (99, 1, 8, 0, 0, 0, 0), (100, 3, 38, 10, 11, 0, 39), (103, 2, 7, 4, 0, 0, 0), (105, 3, 56, 9, 0, 0, 37), (108, 1, 34, 0, 0, 0, 0), (109, 3, 99, 48, 0, 9, 55), (112, 1, 47, 0, 0, 0, 0), (113, 3, 22, 4, 2147483649, 0, 0), (116, 3, 80, 46, 89, 0, 0), (119, 1, 0, 2147483648, 0, 0, 0), (120, 2, 15, 4, 0, 0, 0), (122, 2, 7, 4, 0, 0, 0), (124, 1, 0, 2147483652, 0, 0, 0), (125, 3, 73, 72, 142, 0, 0), (128, 1, 8, 0, 0, 0, 0), (129, 3, 38, 10, 6, 0, 25), (132, 2, 7, 4, 0, 0, 0), (134, 1, 0, 2147483647, 0, 0, 0), (135, 1, 43, 0, 0, 0, 0), (136, 3, 22, 4, 2147483649, 0, 0), (139, 3, 80, 62, 122, 0, 0), (142, 1, 84, 0, 0, 0, 0)]
def xg_w49 : List (List Nat) := []
def xg_x49 : List (Nat × Nat × Nat × Nat) := []
def xg_m49 : xv_M := (xg_c49, xg_w49, xg_x49, 5)
def xg_c50 : List xv_I := [(0, 1, 8, 0, 0, 0, 0), (1, 3, 38, 10, 4, 0, 18), (4, 1, 0, 2147483652, 0, 0, 0), (5, 3, 97, 2, 2, 0, 56), (8, 1, 14, 1, 0, 0, 0), (9, 1, 6, 1, 0, 0, 0), (10, 2, 1, 2147483688, 0, 0, 0), (12, 3, 73, 10, 19, 0, 0), (15, 1, 6, 1, 0, 0, 0), (16, 3, 80, 11, 21, 0, 0), (19, 2, 200, 0, 0, 0, 0), (21, 1, 85, 0, 0, 0, 0)]
def xg_w50 : List (List Nat) := []
def xg_x50 : List (Nat × Nat × Nat × Nat) := []
def xg_m50 : xv_M := (xg_c50, xg_w50, xg_x50, 2)
def xg_c51 : List xv_I := [(0, 1, 8, 0, 0, 0, 0), (1, 3, 51, 0, 0, 0, 1), (4, 1, 84, 0, 0, 0, 0)]
def xg_w51 : List (List Nat) := []
def xg_x51 : List (Nat × Nat × Nat × Nat) := []
def xg_m51 : xv_M := (xg_c51, xg_w51, xg_x51, 1)
def xg_c52 : List xv_I := [(0, 1, 8, 0, 0, 0, 0), (1, 3, 51, 0, 0, 0, 3), (4, 1, 8, 0, 0, 0, 0), (5, 1, 0, 2147483653, 0, 0, 0), (6, 3, 40, 12, 0, 0, 9), (9, 1, 8, 0, 0, 0, 0), (10, 2, 1, 2147483661, 0, 0, 0), (12, 2, 57, 0, 0, 0, 0), (14, 3, 41, 12, 1, 2, 15), (17, 1, 8, 0, 0, 0, 0), (18, 2, 1, 2147483661, 0, 0, 0), (20, 2, 57, 0, 0, 0, 0), (22, 3, 41, 12, 2, 2, 19), (25, 1, 8, 0, 0, 0, 0), (26, 2, 1, 2147483661, 0, 0, 0), (28, 2, 57, 0, 0, 0, 0), (30, 3, 41, 12, 3, 2, 22), (33, 1, 8, 0, 0, 0, 0), (34, 1, 0, 2147483649, 0, 0, 0), (35, 3, 40, 12, 4, 0, 25), (38, 1, 8, 0, 0, 0, 0), (39, 2, 1, 2147483656, 0, 0, 0), (41, 2, 57, 0, 0, 0, 0), (43, 3, 41, 12, 5, 2, 28), (46, 1, 8, 0, 0, 0, 0), (47, 2, 1, 2147483656, 0, 0, 0), (49, 2, 57, 0, 0, 0, 0), (51, 3, 41, 12, 6, 2, 31), (54, 1, 8, 0, 0, 0, 0), (55, 2, 1, 2147483738, 0, 0, 0), (57, 2, 57, 0, 0, 0, 0), (59, 3, 41, 12, 8, 2, 34), (62, 1, 8, 0, 0, 0, 0), (63, 2, 1, 2147483738, 0, 0, 0), (65, 2, 57, 0, 0, 0, 0), (67, 3, 41, 12, 9, 2, 37), (70, 1, 8, 0, 0, 0, 0), (71, 2, 1, 2147483738, 0, 0, 0), (73, 2, 57, 0, 0, 0, 0), (75, 3, 41, 12, 10, 2, 40), (78, 1, 8, 0, 0, 0, 0), (79, 2, 1, 2147483738, 0, 0, 0), (81, 2, 57, 0, 0, 0, 0), (83, 3, 41, 12, 11, 2, 43), (86, 1, 8, 0, 0, 0, 0), (87, 2, 1, 2147483738, 0, 0, 0), (89, 2, 57, 0, 0, 0, 0), (91, 3, 41, 12, 12, 2, 46), (94, 1, 8, 0, 0, 0, 0), (95, 2, 1, 2147483738, 0, 0, 0), (97, 2, 57, 0, 0, 0, 0), (99, 3, 41, 12, 13, 2, 49), (102, 1, 8, 0, 0, 0, 0), (103, 2, 1, 2147483738, 0, 0, 0), (105, 2, 57, 0, 0, 0, 0), (107, 3, 41, 12, 14, 2, 52), (110, 1, 8, 0, 0, 0, 0), (111, 2, 1, 2147483738, 0, 0, 0), (113, 2, 57, 0, 0, 0, 0), (115, 3, 41, 12, 15, 2, 55), (118, 1, 8, 0, 0, 0, 0), (119, 2, 1, 2147483738, 0, 0, 0), (121, 2, 57, 0, 0, 0, 0), (123, 3, 41, 12, 16, 2, 58), (126, 1, 8, 0, 0, 0, 0), (127, 2, 1, 2147483738, 0, 0, 0), (129, 2, 57, 0, 0, 0, 0), (131, 3, 41, 12, 17, 2, 61), (134, 1, 8, 0, 0, 0, 0), (135, 2, 1, 2147483738, 0, 0, 0), (137, 2, 57, 0, 0, 0, 0), (139, 3, 41, 12, 18, 2, 64), (142, 1, 0, 2147483648, 0, 0, 0), (143, 1, 14, 1, 0, 0, 0), (144, 1, 6, 1, 0, 0, 0), (145, 1, 8, 0, 0, 0, 0), (146, 3, 38, 12, 0, 0, 9), (149, 3, 73, 106, 194, 0, 0), (152, 1, 8, 0, 0, 0, 0), (153, 3, 38, 12, 1, 0, 15), (156, 1, 6, 1, 0, 0, 0), (157, 1, 6, 1, 0, 0, 0), (158, 3, 65, 85, 165, 0, 0), (161, 1, 0, 2147483647, 0, 0, 0), (162, 3, 80, 86, 166, 0, 0), (165, 1, 0, 2147483648, 0, 0, 0), (166, 1, 43, 0, 0, 0, 0), (167, 1, 8, 0, 0, 0, 0), (168, 3, 38, 12, 3, 0, 22), (171, 1, 6, 1, 0, 0, 0), (172, 1, 0, 2147483649, 0, 0, 0), (173, 1, 6, 1, 0, 0, 0), (174, 1, 28, 0, 0, 0, 0), (175, 1, 43, 0, 0, 0, 0), (176, 1, 8, 0, 0, 0, 0), (177, 3, 38, 12, 3, 0, 22), (180, 1, 0, 2147483648, 0, 0, 0), (181, 1, 35, 0, 0, 0, 0), (182, 1, 42, 0, 0, 0, 0), (183, 1, 0, 2147483649, 0, 0, 0), (184, 1, 6, 1, 0, 0, 0), (185, 1, 28, 0, 0, 0, 0), (186, 1, 27, 0, 0, 0, 0), (187, 1, 43, 0, 0, 0, 0), (188, 3, 22, 1, 2147483649, 0, 0), (191, 3, 80, 74, 144, 0, 0), (194, 1, 0, 2147483648, 0, 0, 0), (195, 1, 14, 1, 0, 0, 0), (196, 1, 6, 1, 0, 0, 0), (197, 2, 1, 2147483656, 0, 0, 0), (199, 3, 73, 118, 215, 0, 0), (202, 1, 8, 0, 0, 0, 0), (203, 3, 38, 12, 6, 0, 31), (206, 1, 6, 1, 0, 0, 0), (207, 1, 0, 2147483647, 0, 0, 0), (208, 1, 43, 0, 0, 0, 0), (209, 3, 22, 1, 2147483649, 0, 0), (212, 3, 80, 108, 196, 0, 0), (215, 1, 84, 0, 0, 0, 0)]
def xg_w52 : List (List Nat) := []
def xg_x52 : List (Nat × Nat × Nat × Nat) := []
def xg_m52 : xv_M := (xg_c52, xg_w52, xg_x52, 2)
def xg_c53 : List xv_I := [(0, 1, 8, 0, 0, 0, 0), (1, 3, 38, 12, 0, 0, 9), (4, 1, 14, 3, 0, 0, 0), (5, 1, 8, 0, 0, 0, 0), (6, 1, 34, 0, 0, 0, 0), (7, 3, 38, 12, 0, 0, 9), (10, 1, 0, 2147483649, 0, 0, 0), (11, 1, 23, 0, 0, 0, 0), (12, 3, 40, 12, 0, 0, 9), (15, 1, 8, 0, 0, 0, 0), (16, 3, 38, 12, 1, 0, 15), (19, 1, 6, 3, 0, 0, 0), (20, 1, 6, 1, 0, 0, 0), (21, 3, 97, 28, 3, 0, 78), (24, 1, 8, 0, 0, 0, 0), (25, 3, 38, 12, 2, 0, 19), (28, 1, 6, 3, 0, 0, 0), (29, 1, 6, 2, 0, 0, 0), (30, 3, 64, 21, 37, 0, 0), (33, 1, 0, 2147483649, 0, 0, 0), (34, 3, 80, 25, 45, 0, 0), (37, 1, 8, 0, 0, 0, 0), (38, 3, 38, 12, 2, 0, 19), (41, 1, 6, 1, 0, 0, 0), (42, 3, 97, 2, 2, 0, 70), (45, 3, 97, 28, 3, 0, 78), (48, 1, 6, 3, 0, 0, 0), (49, 2, 15, 4, 0, 0, 0), (51, 2, 1, 2147483661, 0, 0, 0), (53, 2, 15, 5, 0, 0, 0), (55, 2, 7, 4, 0, 0, 0), (57, 3, 66, 53, 104, 0, 0), (60, 2, 7, 5, 0, 0, 0), (62, 3, 69, 53, 104, 0, 0), (65, 1, 8, 0, 0, 0, 0), (66, 3, 38, 12, 3, 0, 22), (69, 2, 7, 4, 0, 0, 0), (71, 1, 8, 0, 0, 0, 0), (72, 3, 38, 12, 3, 0, 22), (75, 2, 7, 4, 0, 0, 0), (77, 3, 97, 2, 2, 0, 70), (80, 1, 0, 2147483649, 0, 0, 0), (81, 1, 6, 3, 0, 0, 0), (82, 1, 28, 0, 0, 0, 0), (83, 1, 27, 0, 0, 0, 0), (84, 3, 97, 28, 3, 0, 78), (87, 1, 8, 0, 0, 0, 0), (88, 3, 38, 12, 1, 0, 15), (91, 2, 7, 4, 0, 0, 0), (93, 3, 97, 2, 2, 0, 70), (96, 2, 15, 4, 0, 0, 0), (98, 3, 22, 5, 2147483647, 0, 0), (101, 3, 80, 30, 55, 0, 0), (104, 1, 6, 3, 0, 0, 0), (105, 1, 85, 0, 0, 0, 0)]
def xg_w53 : List (List Nat) := []
def xg_x53 : List (Nat × Nat × Nat × Nat) := []
def xg_m53 : xv_M := (xg_c53, xg_w53, xg_x53, 6)
def xg_c54 : List xv_I := [(0, 1, 8, 0, 0, 0, 0), (1, 3, 38, 12, 7, 0, 67), (4, 2, 15, 5, 0, 0, 0), (6, 1, 8, 0, 0, 0, 0), (7, 1, 34, 0, 0, 0, 0), (8, 3, 38, 12, 7, 0, 67), (11, 1, 0, 2147483649, 0, 0, 0), (12, 1, 23, 0, 0, 0, 0), (13, 3, 40, 12, 7, 0, 67), (16, 1, 8, 0, 0, 0, 0), (17, 3, 38, 12, 8, 0, 34), (20, 2, 7, 5, 0, 0, 0), (22, 1, 6, 1, 0, 0, 0), (23, 3, 97, 28, 3, 0, 78), (26, 1, 8, 0, 0, 0, 0), (27, 3, 38, 12, 9, 0, 37), (30, 2, 7, 5, 0, 0, 0), (32, 1, 6, 2, 0, 0, 0), (33, 3, 97, 28, 3, 0, 78), (36, 1, 8, 0, 0, 0, 0), (37, 3, 38, 12, 10, 0, 40), (40, 2, 7, 5, 0, 0, 0), (42, 1, 6, 3, 0, 0, 0), (43, 3, 97, 28, 3, 0, 78), (46, 1, 8, 0, 0, 0, 0), (47, 3, 38, 12, 11, 0, 43), (50, 2, 7, 5, 0, 0, 0), (52, 2, 7, 4, 0, 0, 0), (54, 3, 97, 28, 3, 0, 78), (57, 1, 8, 0, 0, 0, 0), (58, 3, 38, 12, 12, 0, 46), (61, 2, 7, 5, 0, 0, 0), (63, 1, 0, 2147483647, 0, 0, 0), (64, 3, 97, 28, 3, 0, 78), (67, 1, 8, 0, 0, 0, 0), (68, 3, 38, 12, 13, 0, 49), (71, 2, 7, 5, 0, 0, 0), (73, 1, 0, 2147483647, 0, 0, 0), (74, 3, 97, 28, 3, 0, 78), (77, 1, 8, 0, 0, 0, 0), (78, 3, 38, 12, 12, 0, 46), (81, 1, 8, 0, 0, 0, 0), (82, 2, 7, 5, 0, 0, 0), (84, 3, 100, 72, 1, 12, 82), (87, 2, 7, 5, 0, 0, 0), (89, 3, 97, 28, 3, 0, 78), (92, 1, 8, 0, 0, 0, 0), (93, 3, 38, 12, 12, 0, 46), (96, 1, 8, 0, 0, 0, 0), (97, 2, 7, 5, 0, 0, 0), (99, 3, 100, 73, 1, 12, 86), (102, 2, 7, 5, 0, 0, 0), (104, 3, 97, 28, 3, 0, 78), (107, 1, 8, 0, 0, 0, 0), (108, 3, 38, 12, 12, 0, 46), (111, 1, 8, 0, 0, 0, 0), (112, 2, 7, 5, 0, 0, 0), (114, 3, 100, 74, 1, 12, 89), (117, 2, 7, 5, 0, 0, 0), (119, 3, 97, 28, 3, 0, 78), (122, 2, 7, 5, 0, 0, 0), (124, 1, 85, 0, 0, 0, 0)]
def xg_w54 : List (List Nat) := []
def xg_x54 : List (Nat × Nat × Nat × Nat) := []
def xg_m54 : xv_M := (xg_c54, xg_w54, xg_x54, 6)
def xg_c55 : List xv_I := [(0, 1, 8, 0, 0, 0, 0), (1, 3, 38, 12, 4, 0, 25), (4, 1, 14, 2, 0, 0, 0), (5, 1, 8, 0, 0, 0, 0), (6, 1, 34, 0, 0, 0, 0), (7, 3, 38, 12, 4, 0, 25), (10, 1, 0, 2147483649, 0, 0, 0), (11, 1, 23, 0, 0, 0, 0), (12, 3, 40, 12, 4, 0, 25), (15, 1, 8, 0, 0, 0, 0), (16, 3, 38, 12, 5, 0, 28), (19, 1, 6, 2, 0, 0, 0), (20, 1, 6, 1, 0, 0, 0), (21, 3, 97, 28, 3, 0, 78), (24, 1, 6, 2, 0, 0, 0), (25, 1, 85, 0, 0, 0, 0)]
def xg_w55 : List (List Nat) := []
def xg_x55 : List (Nat × Nat × Nat × Nat) := []
def xg_m55 : xv_M := (xg_c55, xg_w55, xg_x55, 3)
def xg_c56 : List xv_I := [(0, 1, 8, 0, 0, 0, 0), (1, 1, 8, 0, 0, 0, 0), (2, 3, 38, 12, 6, 0, 31), (5, 1, 6, 1, 0, 0, 0), (6, 3, 97, 2, 2, 0, 70), (9, 3, 100, 57, 1, 12, 136), (12, 1, 85, 0, 0, 0, 0)]
def xg_w56 : List (List Nat) := []
def xg_x56 : List (Nat × Nat × Nat × Nat) := []
def xg_m56 : xv_M := (xg_c56, xg_w56, xg_x56, 2)
def xg_c57 : List xv_I := [(0, 1, 6, 1, 0, 0, 0), (1, 1, 0, 2147483647, 0, 0, 0), (2, 3, 71, 5, 9, 0, 0), (5, 1, 0, 2147483648, 0, 0, 0), (6, 3, 80, 9, 17, 0, 0), (9, 1, 200, 0, 0, 0, 0), (10, 3, 200, 0, 0, 0, 0), (13, 1, 200, 0, 0, 0, 0), (14, 3, 200, 0, 0, 0, 0), (17, 1, 85, 0, 0, 0, 0)]
def xg_w57 : List (List Nat) := []
def xg_x57 : List (Nat × Nat × Nat × Nat) := []
def xg_m57 : xv_M := (xg_c57, xg_w57, xg_x57, 2)
def xg_c58 : List xv_I := [(0, 1, 0, 2147483648, 0, 0, 0), (1, 1, 14, 2, 0, 0, 0), (2, 1, 0, 2147483648, 0, 0, 0), (3, 1, 14, 3, 0, 0, 0), (4, 1, 6, 3, 0, 0, 0), (5, 1, 8, 0, 0, 0, 0), (6, 3, 38, 12, 7, 0, 67), (9, 3, 73, 29, 58, 0, 0), (12, 1, 200, 0, 0, 0, 0), (13, 3, 200, 0, 0, 0, 0), (16, 1, 200, 0, 0, 0, 0), (17, 3, 200, 0, 0, 0, 0), (20, 2, 200, 0, 0, 0, 0), (22, 3, 200, 0, 0, 0, 0), (25, 1, 200, 0, 0, 0, 0), (26, 3, 200, 0, 0, 0, 0), (29, 1, 200, 0, 0, 0, 0), (30, 3, 200, 0, 0, 0, 0), (33, 1, 200, 0, 0, 0, 0), (34, 3, 200, 0, 0, 0, 0), (37, 1, 200, 0, 0, 0, 0), (38, 3, 200, 0, 0, 0, 0), (41, 1, 200, 0, 0, 0, 0), (42, 3, 200, 0, 0, 0, 0), (45, 1, 200, 0, 0, 0, 0), (46, 3, 200, 0, 0, 0, 0), (49, 3, 200, 0, 0, 0, 0), (52, 3, 200, 0, 0, 0, 0), (55, 3, 200, 0, 0, 0, 0), (58, 1, 6, 2, 0, 0, 0), (59, 1, 85, 0, 0, 0, 0)]
def xg_w58 : List (List Nat) := []
def xg_x58 : List (Nat × Nat × Nat × Nat) := []
def xg_m58 : xv_M := (xg_c58, xg_w58, xg_x58, 4)
def xg_c59 : List xv_I := [(0, 1, 0, 2147483648, 0, 0, 0), (1, 1, 14, 1, 0, 0, 0), (2, 1, 0, 2147483648, 0, 0, 0), (3, 1, 14, 2, 0, 0, 0), (4, 1, 6, 2, 0, 0, 0), (5, 1, 8, 0, 0, 0, 0), (6, 3, 38, 12, 7, 0, 67), (9, 3, 73, 17, 33, 0, 0), (12, 1, 200, 0, 0, 0, 0), (13, 3, 200, 0, 0, 0, 0), (16, 1, 200, 0, 0, 0, 0), (17, 3, 200, 0, 0, 0, 0), (20, 1, 200, 0, 0, 0, 0), (21, 3, 200, 0, 0, 0, 0), (24, 3, 200, 0, 0, 0, 0), (27, 3, 200, 0, 0, 0, 0), (30, 3, 200, 0, 0, 0, 0), (33, 1, 6, 1, 0, 0, 0), (34, 1, 85, 0, 0, 0, 0)]
def xg_w59 : List (List Nat) := []
def xg_x59 : List (Nat × Nat × Nat × Nat) := []
def xg_m59 : xv_M := (xg_c59, xg_w59, xg_x59, 3)
def xg_c60 : List xv_I := [(0, 1, 8, 0, 0, 0, 0), (1, 3, 38, 12, 7, 0, 67), (4, 1, 0, 2147483649, 0, 0, 0), (5, 1, 24, 0, 0, 0, 0), (6, 1, 14, 1, 0, 0, 0), (7, 1, 6, 1, 0, 0, 0), (8, 3, 66, 12, 22, 0, 0), (11, 1, 200, 0, 0, 0, 0), (12, 1, 200, 0, 0, 0, 0), (13, 3, 200, 0, 0, 0, 0), (16, 3, 200, 0, 0, 0, 0), (19, 3, 200, 0, 0, 0, 0), (22, 1, 0, 2147483648, 0, 0, 0), (23, 1, 14, 1, 0, 0, 0), (24, 1, 6, 1, 0, 0, 0), (25, 1, 8, 0, 0, 0, 0), (26, 3, 38, 12, 7, 0, 67), (29, 3, 73, 38, 72, 0, 0), (32, 1, 200, 0, 0, 0, 0), (33, 3, 200, 0, 0, 0, 0), (36, 1, 200, 0, 0, 0, 0), (37, 1, 200, 0, 0, 0, 0), (38, 1, 200, 0, 0, 0, 0), (39, 3, 200, 0, 0, 0, 0), (42, 3, 200, 0, 0, 0, 0), (45, 1, 200, 0, 0, 0, 0), (46, 3, 200, 0, 0, 0, 0), (49, 1, 200, 0, 0, 0, 0), (50, 1, 200, 0, 0, 0, 0), (51, 1, 200, 0, 0, 0, 0), (52, 3, 200, 0, 0, 0, 0), (55, 3, 200, 0, 0, 0, 0), (58, 1, 200, 0, 0, 0, 0), (59, 3, 200, 0, 0, 0, 0), (62, 1, 200, 0, 0, 0, 0), (63, 3, 200, 0, 0, 0, 0), (66, 3, 200, 0, 0, 0, 0), (69, 3, 200, 0, 0, 0, 0), (72, 1, 84, 0, 0, 0, 0)]
def xg_w60 : List (List Nat) := []
def xg_x60 : List (Nat × Nat × Nat × Nat) := []
def xg_m60 : xv_M := (xg_c60, xg_w60, xg_x60, 2)
def xg_c61 : List xv_I := [(0, 1, 6, 1, 0, 0, 0), (1, 3, 66, 8, 16, 0, 0), (4, 1, 6, 1, 0, 0, 0), (5, 1, 8, 0, 0, 0, 0), (6, 3, 38, 12, 0, 0, 9), (9, 3, 73, 8, 16, 0, 0), (12, 1, 0, 2147483649, 0, 0, 0), (13, 3, 80, 9, 17, 0, 0), (16, 1, 0, 2147483648, 0, 0, 0), (17, 1, 85, 0, 0, 1, 0)]
def xg_w61 : List (List Nat) := []
def xg_x61 : List (Nat × Nat × Nat × Nat) := []
def xg_m61 : xv_M := (xg_c61, xg_w61, xg_x61, 2)
def xg_c62 : List xv_I := [(0, 1, 6, 1, 0, 0, 0), (1, 3, 66, 8, 16, 0, 0), (4, 1, 6, 1, 0, 0, 0), (5, 1, 8, 0, 0, 0, 0), (6, 3, 38, 12, 7, 0, 67), (9, 3, 73, 8, 16, 0, 0), (12, 1, 200, 0, 0, 0, 0), (13, 3, 200, 0, 0, 0, 0), (16, 1, 0, 2147483648, 0, 0, 0), (17, 1, 85, 0, 0, 1, 0)]
def xg_w62 : List (List Nat) := []
def xg_x62 : List (Nat × Nat × Nat × Nat) := []
def xg_m62 : xv_M := (xg_c62, xg_w62, xg_x62, 2)
def xg_c63 : List xv_I := [(0, 1, 6, 1, 0, 0, 0), (1, 3, 66, 8, 16, 0, 0), (4, 1, 6, 1, 0, 0, 0), (5, 1, 8, 0, 0, 0, 0), (6, 3, 38, 12, 4, 0, 25), (9, 3, 73, 8, 16, 0, 0), (12, 1, 0, 2147483649, 0, 0, 0), (13, 3, 80, 9, 17, 0, 0), (16, 1, 0, 2147483648, 0, 0, 0), (17, 1, 85, 0, 0, 1, 0)]
def xg_w63 : List (List Nat) := []
def xg_x63 : List (Nat × Nat × Nat × Nat) := []
def xg_m63 : xv_M := (xg_c63, xg_w63, xg_x63, 2)
def xg_c64 : List xv_I := [(0, 1, 8, 0, 0, 0, 0), (1, 1, 6, 1, 0, 0, 0), (2, 3, 100, 62, 1, 12, 74), (5, 3, 64, 18, 36, 0, 0), (8, 1, 200, 0, 0, 0, 0), (9, 3, 200, 0, 0, 0, 0), (12, 1, 200, 0, 0, 0, 0), (13, 3, 200, 0, 0, 0, 0), (16, 1, 200, 0, 0, 0, 0), (17, 3, 200, 0, 0, 0, 0), (20, 1, 200, 0, 0, 0, 0), (21, 3, 200, 0, 0, 0, 0), (24, 1, 200, 0, 0, 0, 0), (25, 3, 200, 0, 0, 0, 0), (28, 1, 200, 0, 0, 0, 0), (29, 3, 200, 0, 0, 0, 0), (32, 1, 200, 0, 0, 0, 0), (33, 3, 200, 0, 0, 0, 0), (36, 1, 0, 2147483648, 0, 0, 0), (37, 1, 85, 0, 0, 1, 0)]
def xg_w64 : List (List Nat) := []
def xg_x64 : List (Nat × Nat × Nat × Nat) := []
def xg_m64 : xv_M := (xg_c64, xg_w64, xg_x64, 2)
def xg_c65 : List xv_I := [(0, 1, 8, 0, 0, 0, 0), (1, 1, 6, 1, 0, 0, 0), (2, 3, 100, 64, 1, 12, 117), (5, 3, 64, 10, 20, 0, 0), (8, 1, 200, 0, 0, 0, 0), (9, 1, 200, 0, 0, 0, 0), (10, 3, 200, 0, 0, 0, 0), (13, 3, 200, 0, 0, 0, 0), (16, 1, 200, 0, 0, 0, 0), (17, 3, 200, 0, 0, 0, 0), (20, 1, 0, 2147483648, 0, 0, 0), (21, 1, 85, 0, 0, 1, 0)]
def xg_w65 : List (List Nat) := []
def xg_x65 : List (Nat × Nat × Nat × Nat) := []
def xg_m65 : xv_M := (xg_c65, xg_w65, xg_x65, 2)
def xg_c66 : List xv_I := [(0, 1, 6, 1, 0, 0, 0), (1, 91, 81, 0, 0, 0, 0), (92, 1, 8, 0, 0, 0, 0), (93, 1, 6, 2, 0, 0, 0), (94, 3, 100, 71, 1, 12, 92), (97, 3, 64, 14, 117, 0, 0), (100, 1, 8, 0, 0, 0, 0), (101, 1, 6, 3, 0, 0, 0), (102, 3, 100, 67, 1, 12, 95), (105, 3, 64, 14, 117, 0, 0), (108, 2, 7, 4, 0, 0, 0), (110, 3, 65, 14, 117, 0, 0), (113, 1, 0, 2147483649, 0, 0, 0), (114, 3, 80, 15, 118, 0, 0), (117, 1, 0, 2147483648, 0, 0, 0), (118, 1, 85, 0, 0, 1, 0), (119, 1, 6, 2, 0, 0, 0), (120, 3, 65, 26, 140, 0, 0), (123, 1, 8, 0, 0, 0, 0), (124, 1, 6, 3, 0, 0, 0), (125, 3, 100, 67, 1, 12, 95), (128, 3, 64, 26, 140, 0, 0), (131, 2, 7, 4, 0, 0, 0), (133, 3, 65, 26, 140, 0, 0), (136, 1, 0, 2147483649, 0, 0, 0), (137, 3, 80, 27, 141, 0, 0), (140, 1, 0, 2147483648, 0, 0, 0), (141, 1, 85, 0, 0, 1, 0), (142, 1, 6, 2, 0, 0, 0), (143, 3, 65, 43, 173, 0, 0), (146, 1, 8, 0, 0, 0, 0), (147, 1, 6, 3, 0, 0, 0), (148, 3, 100, 65, 1, 12, 98), (151, 3, 64, 43, 173, 0, 0), (154, 1, 200, 0, 0, 0, 0), (155, 2, 200, 0, 0, 0, 0), (157, 3, 200, 0, 0, 0, 0), (160, 3, 200, 0, 0, 0, 0), (163, 1, 200, 0, 0, 0, 0), (164, 2, 200, 0, 0, 0, 0), (166, 3, 200, 0, 0, 0, 0), (169, 1, 200, 0, 0, 0, 0), (170, 3, 200, 0, 0, 0, 0), (173, 1, 0, 2147483648, 0, 0, 0), (174, 1, 85, 0, 0, 1, 0), (175, 1, 8, 0, 0, 0, 0), (176, 1, 6, 2, 0, 0, 0), (177, 3, 100, 67, 1, 12, 95), (180, 3, 64, 65, 216, 0, 0), (183, 1, 8, 0, 0, 0, 0), (184, 1, 6, 3, 0, 0, 0), (185, 3, 100, 65, 1, 12, 98), (188, 3, 64, 65, 216, 0, 0), (191, 2, 200, 0, 0, 0, 0), (193, 1, 200, 0, 0, 0, 0), (194, 3, 200, 0, 0, 0, 0), (197, 1, 200, 0, 0, 0, 0), (198, 2, 200, 0, 0, 0, 0), (200, 3, 200, 0, 0, 0, 0), (203, 3, 200, 0, 0, 0, 0), (206, 1, 200, 0, 0, 0, 0), (207, 2, 200, 0, 0, 0, 0), (209, 3, 200, 0, 0, 0, 0), (212, 1, 200, 0, 0, 0, 0), (213, 3, 200, 0, 0, 0, 0), (216, 1, 0, 2147483648, 0, 0, 0), (217, 1, 85, 0, 0, 1, 0), (218, 1, 8, 0, 0, 0, 0), (219, 1, 6, 2, 0, 0, 0), (220, 3, 100, 71, 1, 12, 92), (223, 3, 64, 79, 243, 0, 0), (226, 1, 8, 0, 0, 0, 0), (227, 1, 6, 3, 0, 0, 0), (228, 3, 100, 65, 1, 12, 98), (231, 3, 64, 79, 243, 0, 0), (234, 2, 200, 0, 0, 0, 0), (236, 3, 200, 0, 0, 0, 0), (239, 1, 200, 0, 0, 0, 0), (240, 3, 200, 0, 0, 0, 0), (243, 1, 0, 2147483648, 0, 0, 0), (244, 1, 85, 0, 0, 1, 0), (245, 1, 6, 2, 0, 0, 0), (246, 3, 65, 89, 262, 0, 0), (249, 1, 6, 3, 0, 0, 0), (250, 3, 65, 89, 262, 0, 0), (253, 2, 7, 4, 0, 0, 0), (255, 3, 65, 89, 262, 0, 0), (258, 1, 0, 2147483649, 0, 0, 0), (259, 3, 80, 90, 263, 0, 0), (262, 1, 0, 2147483648, 0, 0, 0), (263, 1, 85, 0, 0, 1, 0), (264, 1, 8, 0, 0, 0, 0), (265, 1, 6, 2, 0, 0, 0), (266, 3, 100, 71, 1, 12, 92), (269, 3, 64, 103, 289, 0, 0), (272, 1, 8, 0, 0, 0, 0), (273, 1, 6, 3, 0, 0, 0), (274, 3, 100, 63, 1, 12, 101), (277, 3, 64, 103, 289, 0, 0), (280, 2, 7, 4, 0, 0, 0), (282, 3, 65, 103, 289, 0, 0), (285, 1, 0, 2147483649, 0, 0, 0), (286, 3, 80, 104, 290, 0, 0), (289, 1, 0, 2147483648, 0, 0, 0), (290, 1, 85, 0, 0, 1, 0), (291, 1, 8, 0, 0, 0, 0), (292, 1, 6, 2, 0, 0, 0), (293, 3, 100, 61, 1, 12, 104), (296, 3, 64, 117, 316, 0, 0), (299, 1, 8, 0, 0, 0, 0), (300, 1, 6, 3, 0, 0, 0), (301, 3, 100, 67, 1, 12, 95), (304, 3, 64, 117, 316, 0, 0), (307, 2, 7, 4, 0, 0, 0), (309, 3, 65, 117, 316, 0, 0), (312, 1, 0, 2147483649, 0, 0, 0), (313, 3, 80, 118, 317, 0, 0), (316, 1, 0, 2147483648, 0, 0, 0), (317, 1, 85, 0, 0, 1, 0), (318, 1, 8, 0, 0, 0, 0), (319, 1, 6, 2, 0, 0, 0), (320, 1, 6, 3, 0, 0, 0), (321, 2, 7, 4, 0, 0, 0), (323, 3, 100, 69, 3, 12, 107), (326, 1, 85, 0, 0, 1, 0), (327, 1, 8, 0, 0, 0, 0), (328, 1, 6, 2, 0, 0, 0), (329, 3, 100, 61, 1, 12, 104), (332, 3, 64, 142, 362, 0, 0), (335, 1, 8, 0, 0, 0, 0), (336, 1, 6, 3, 0, 0, 0), (337, 3, 100, 65, 1, 12, 98), (340, 3, 64, 142, 362, 0, 0), (343, 2, 200, 0, 0, 0, 0), (345, 1, 200, 0, 0, 0, 0), (346, 3, 200, 0, 0, 0, 0), (349, 1, 200, 0, 0, 0, 0), (350, 2, 200, 0, 0, 0, 0), (352, 3, 200, 0, 0, 0, 0), (355, 3, 200, 0, 0, 0, 0), (358, 1, 200, 0, 0, 0, 0), (359, 3, 200, 0, 0, 0, 0), (362, 1, 0, 2147483648, 0, 0, 0), (363, 1, 85, 0, 0, 1, 0), (364, 1, 8, 0, 0, 0, 0), (365, 1, 6, 2, 0, 0, 0), (366, 1, 6, 3, 0, 0, 0), (367, 2, 7, 4, 0, 0, 0), (369, 3, 100, 70, 3, 12, 114), (372, 1, 85, 0, 0, 1, 0), (373, 1, 6, 2, 0, 0, 0), (374, 3, 66, 161, 395, 0, 0), (377, 1, 6, 2, 0, 0, 0), (378, 1, 0, 2147483652, 0, 0, 0), (379, 3, 73, 161, 395, 0, 0), (382, 1, 6, 3, 0, 0, 0), (383, 3, 65, 161, 395, 0, 0), (386, 2, 7, 4, 0, 0, 0), (388, 3, 65, 161, 395, 0, 0), (391, 1, 0, 2147483649, 0, 0, 0), (392, 3, 80, 162, 396, 0, 0), (395, 1, 0, 2147483648, 0, 0, 0), (396, 1, 85, 0, 0, 1, 0), (397, 1, 0, 2147483648, 0, 0, 0), (398, 1, 85, 0, 0, 1, 0)]
def xg_w66 : List (List Nat) := [[2147483648, 163, 2, 2, 2, 16, 28, 45, 67, 81, 16, 91, 105, 119, 125, 144, 81, 105, 150, 150, 150]]
def xg_x66 : List (Nat × Nat × Nat × Nat) := []
def xg_m66 : xv_M := (xg_c66, xg_w66, xg_x66, 5)
def xg_c67 : List xv_I := [(0, 1, 6, 1, 0, 0, 0), (1, 2, 1, 2147483549, 0, 0, 0), (3, 3, 72, 6, 12, 0, 0), (6, 1, 6, 1, 0, 0, 0), (7, 2, 1, 2147483747, 0, 0, 0), (9, 3, 75, 12, 24, 0, 0), (12, 1, 6, 1, 0, 0, 0), (13, 2, 1, 2147483748, 0, 0, 0), (15, 3, 72, 14, 28, 0, 0), (18, 1, 6, 1, 0, 0, 0), (19, 2, 1, 2147483758, 0, 0, 0), (21, 3, 73, 14, 28, 0, 0), (24, 1, 0, 2147483649, 0, 0, 0), (25, 3, 80, 15, 29, 0, 0), (28, 1, 0, 2147483648, 0, 0, 0), (29, 1, 85, 0, 0, 1, 0)]
def xg_w67 : List (List Nat) := []
def xg_x67 : List (Nat × Nat × Nat × Nat) := []
def xg_m67 : xv_M := (xg_c67, xg_w67, xg_x67, 2)
def xg_c68 : List xv_I := [(0, 1, 6, 1, 0, 0, 0), (1, 3, 66, 10, 18, 0, 0), (4, 1, 6, 1, 0, 0, 0), (5, 1, 0, 2147483649, 0, 0, 0), (6, 1, 8, 0, 0, 0, 0), (7, 3, 38, 12, 0, 0, 9), (10, 1, 28, 0, 0, 0, 0), (11, 3, 73, 10, 18, 0, 0), (14, 1, 0, 2147483649, 0, 0, 0), (15, 3, 80, 11, 19, 0, 0), (18, 1, 0, 2147483648, 0, 0, 0), (19, 1, 85, 0, 0, 1, 0)]
def xg_w68 : List (List Nat) := []
def xg_x68 : List (Nat × Nat × Nat × Nat) := []
def xg_m68 : xv_M := (xg_c68, xg_w68, xg_x68, 2)
def xg_c69 : List xv_I := [(0, 1, 6, 1, 0, 0, 0), (1, 1, 0, 2147483647, 0, 0, 0), (2, 3, 71, 8, 12, 0, 0), (5, 1, 6, 3, 0, 0, 0), (6, 1, 0, 2147483647, 0, 0, 0), (7, 3, 71, 8, 12, 0, 0), (10, 1, 0, 2147483648, 0, 0, 0), (11, 1, 85, 0, 0, 1, 0), (12, 1, 8, 0, 0, 0, 0), (13, 1, 6, 2, 0, 0, 0), (14, 3, 100, 65, 1, 12, 98), (17, 3, 64, 31, 55, 0, 0), (20, 1, 200, 0, 0, 0, 0), (21, 1, 200, 0, 0, 0, 0), (22, 3, 200, 0, 0, 0, 0), (25, 1, 200, 0, 0, 0, 0), (26, 1, 200, 0, 0, 0, 0), (27, 3, 200, 0, 0, 0, 0), (30, 1, 200, 0, 0, 0, 0), (31, 1, 200, 0, 0, 0, 0), (32, 3, 200, 0, 0, 0, 0), (35, 3, 200, 0, 0, 0, 0), (38, 1, 200, 0, 0, 0, 0), (39, 1, 200, 0, 0, 0, 0), (40, 3, 200, 0, 0, 0, 0), (43, 1, 200, 0, 0, 0, 0), (44, 1, 200, 0, 0, 0, 0), (45, 3, 200, 0, 0, 0, 0), (48, 3, 200, 0, 0, 0, 0), (51, 1, 200, 0, 0, 0, 0), (52, 3, 200, 0, 0, 0, 0), (55, 1, 0, 2147483648, 0, 0, 0), (56, 1, 85, 0, 0, 1, 0)]
def xg_w69 : List (List Nat) := []
def xg_x69 : List (Nat × Nat × Nat × Nat) := []
def xg_m69 : xv_M := (xg_c69, xg_w69, xg_x69, 4)
def xg_c70 : List xv_I := [(0, 1, 6, 1, 0, 0, 0), (1, 1, 0, 2147483647, 0, 0, 0), (2, 3, 71, 8, 12, 0, 0), (5, 1, 6, 3, 0, 0, 0), (6, 1, 0, 2147483647, 0, 0, 0), (7, 3, 71, 8, 12, 0, 0), (10, 1, 0, 2147483648, 0, 0, 0), (11, 1, 85, 0, 0, 1, 0), (12, 1, 8, 0, 0, 0, 0), (13, 1, 6, 2, 0, 0, 0), (14, 3, 100, 65, 1, 12, 98), (17, 3, 64, 28, 50, 0, 0), (20, 1, 200, 0, 0, 0, 0), (21, 1, 200, 0, 0, 0, 0), (22, 3, 200, 0, 0, 0, 0), (25, 1, 200, 0, 0, 0, 0), (26, 1, 200, 0, 0, 0, 0), (27, 3, 200, 0, 0, 0, 0), (30, 3, 200, 0, 0, 0, 0), (33, 1, 200, 0, 0, 0, 0), (34, 1, 200, 0, 0, 0, 0), (35, 3, 200, 0, 0, 0, 0), (38, 1, 200, 0, 0, 0, 0), (39, 1, 200, 0, 0, 0, 0), (40, 3, 200, 0, 0, 0, 0), (43, 3, 200, 0, 0, 0, 0), (46, 1, 200, 0, 0, 0, 0), (47, 3, 200, 0, 0, 0, 0), (50, 1, 0, 2147483648, 0, 0, 0), (51, 1, 85, 0, 0, 1, 0)]
def xg_w70 : List (List Nat) := []
def xg_x70 : List (Nat × Nat × Nat × Nat) := []
def xg_m70 : xv_M := (xg_c70, xg_w70, xg_x70, 4)
def xg_c71 : List xv_I := [(0, 1, 6, 1, 0, 0, 0), (1, 3, 66, 7, 14, 0, 0), (4, 1, 6, 1, 0, 0, 0), (5, 2, 1, 2147483658, 0, 0, 0), (7, 3, 73, 7, 14, 0, 0), (10, 1, 0, 2147483649, 0, 0, 0), (11, 3, 80, 8, 15, 0, 0), (14, 1, 0, 2147483648, 0, 0, 0), (15, 1, 85, 0, 0, 1, 0)]
def xg_w71 : List (List Nat) := []
def xg_x71 : List (Nat × Nat × Nat × Nat) := []
def xg_m71 : xv_M := (xg_c71, xg_w71, xg_x71, 2)
def xg_c72 : List xv_I := [(0, 1, 8, 0, 0, 0, 0), (1, 3, 38, 12, 8, 0, 34), (4, 1, 6, 1, 0, 0, 0), (5, 3, 97, 2, 2, 0, 70), (8, 2, 1, 2147483659, 0, 0, 0), (10, 3, 71, 11, 24, 0, 0), (13, 1, 200, 0, 0, 0, 0), (14, 3, 200, 0, 0, 0, 0), (17, 1, 200, 0, 0, 0, 0), (18, 3, 200, 0, 0, 0, 0), (21, 3, 200, 0, 0, 0, 0), (24, 1, 0, 2147483647, 0, 0, 0), (25, 1, 85, 0, 0, 0, 0)]
def xg_w72 : List (List Nat) := []
def xg_x72 : List (Nat × Nat × Nat × Nat) := []
def xg_m72 : xv_M := (xg_c72, xg_w72, xg_x72, 2)
def xg_c73 : List xv_I := [(0, 1, 8, 0, 0, 0, 0), (1, 3, 38, 12, 8, 0, 34), (4, 1, 6, 1, 0, 0, 0), (5, 3, 97, 2, 2, 0, 70), (8, 56, 81, 0, 0, 0, 0), (64, 1, 200, 0, 0, 0, 0), (65, 3, 200, 0, 0, 0, 0), (68, 1, 200, 0, 0, 0, 0), (69, 3, 200, 0, 0, 0, 0), (72, 1, 200, 0, 0, 0, 0), (73, 1, 0, 2147483647, 0, 0, 0), (74, 1, 85, 0, 0, 0, 0)]
def xg_w73 : List (List Nat) := [[2147483652, 10, 5, 5, 5, 10, 10, 10, 10, 5, 5, 5]]
def xg_x73 : List (Nat × Nat × Nat × Nat) := []
def xg_m73 : xv_M := (xg_c73, xg_w73, xg_x73, 2)
def xg_c74 : List xv_I := [(0, 1, 8, 0, 0, 0, 0), (1, 3, 38, 12, 8, 0, 34), (4, 1, 6, 1, 0, 0, 0), (5, 3, 97, 2, 2, 0, 70), (8, 52, 81, 0, 0, 0, 0), (60, 1, 200, 0, 0, 0, 0), (61, 3, 200, 0, 0, 0, 0), (64, 1, 200, 0, 0, 0, 0), (65, 3, 200, 0, 0, 0, 0), (68, 1, 200, 0, 0, 0, 0), (69, 1, 0, 2147483647, 0, 0, 0), (70, 1, 85, 0, 0, 0, 0)]
def xg_w74 : List (List Nat) := [[2147483652, 10, 5, 5, 10, 10, 10, 10, 10, 5, 5]]
def xg_x74 : List (Nat × Nat × Nat × Nat) := []
def xg_m74 : xv_M := (xg_c74, xg_w74, xg_x74, 2)
def xg_c75 : List xv_I := [(0, 1, 8, 0, 0, 0, 0), (1, 3, 51, 0, 0, 0, 1), (4, 1, 8, 0, 0, 0, 0), (5, 3, 2, 2147484160, 0, 0, 0), (8, 2, 57, 0, 0, 0, 0), (10, 3, 40, 13, 0, 2, 9), (13, 1, 84, 0, 0, 0, 0)]
def xg_w75 : List (List Nat) := []
def xg_x75 : List (Nat × Nat × Nat × Nat) := []
def xg_m75 : xv_M := (xg_c75, xg_w75, xg_x75, 1)
def xg_c76 : List xv_I := [(0, 1, 8, 0, 0, 0, 0), (1, 3, 51, 0, 0, 0, 3), (4, 1, 8, 0, 0, 0, 0), (5, 3, 2, 2147486648, 0, 0, 0), (8, 2, 57, 0, 0, 0, 0), (10, 3, 41, 14, 2, 2, 9), (13, 1, 8, 0, 0, 0, 0), (14, 3, 2, 2147486648, 0, 0, 0), (17, 2, 57, 0, 0, 0, 0), (19, 3, 41, 14, 3, 2, 15), (22, 1, 8, 0, 0, 0, 0), (23, 2, 1, 2147483661, 0, 0, 0), (25, 2, 57, 0, 0, 0, 0), (27, 3, 41, 14, 4, 2, 18), (30, 1, 8, 0, 0, 0, 0), (31, 2, 1, 2147483688, 0, 0, 0), (33, 2, 57, 0, 0, 0, 0), (35, 3, 41, 14, 5, 2, 21), (38, 1, 8, 0, 0, 0, 0), (39, 2, 1, 2147483688, 0, 0, 0), (41, 2, 57, 0, 0, 0, 0), (43, 3, 41, 14, 6, 2, 24), (46, 1, 8, 0, 0, 0, 0), (47, 3, 2, 2147483888, 0, 0, 0), (50, 2, 57, 0, 0, 0, 0), (52, 3, 41, 14, 7, 2, 27), (55, 1, 8, 0, 0, 0, 0), (56, 2, 1, 2147483688, 0, 0, 0), (58, 2, 57, 0, 0, 0, 0), (60, 3, 41, 14, 8, 2, 30), (63, 1, 8, 0, 0, 0, 0), (64, 2, 1, 2147483688, 0, 0, 0), (66, 2, 57, 0, 0, 0, 0), (68, 3, 41, 14, 9, 2, 33), (71, 1, 8, 0, 0, 0, 0), (72, 2, 1, 2147483688, 0, 0, 0), (74, 2, 57, 0, 0, 0, 0), (76, 3, 41, 14, 10, 2, 36), (79, 1, 8, 0, 0, 0, 0), (80, 3, 2, 2147486648, 0, 0, 0), (83, 2, 57, 0, 0, 0, 0), (85, 3, 41, 14, 11, 2, 39), (88, 1, 8, 0, 0, 0, 0), (89, 3, 2, 2147486648, 0, 0, 0), (92, 2, 57, 0, 0, 0, 0), (94, 3, 41, 14, 12, 2, 42), (97, 1, 84, 0, 0, 0, 0)]
def xg_w76 : List (List Nat) := []
def xg_x76 : List (Nat × Nat × Nat × Nat) := []
def xg_m76 : xv_M := (xg_c76, xg_w76, xg_x76, 1)
def xg_c77 : List xv_I := [(0, 1, 6, 1, 0, 0, 0), (1, 3, 66, 11, 22, 0, 0), (4, 1, 6, 1, 0, 0, 0), (5, 2, 1, 2147483688, 0, 0, 0), (7, 3, 73, 11, 22, 0, 0), (10, 1, 6, 1, 0, 0, 0), (11, 1, 8, 0, 0, 0, 0), (12, 3, 38, 14, 0, 0, 45), (15, 3, 73, 11, 22, 0, 0), (18, 1, 200, 0, 0, 0, 0), (19, 3, 200, 0, 0, 0, 0), (22, 1, 0, 2147483648, 0, 0, 0), (23, 1, 85, 0, 0, 1, 0)]
def xg_w77 : List (List Nat) := []
def xg_x77 : List (Nat × Nat × Nat × Nat) := []
def xg_m77 : xv_M := (xg_c77, xg_w77, xg_x77, 2)
def xg_c78 : List xv_I := [(0, 1, 8, 3, 0, 0, 0), (1, 1, 0, 2147483648, 0, 0, 0), (2, 1, 8, 0, 0, 0, 0), (3, 1, 6, 1, 0, 0, 0), (4, 1, 6, 2, 0, 0, 0), (5, 3, 100, 3, 2, 15, 37), (8, 1, 200, 0, 0, 0, 0), (9, 1, 200, 0, 0, 0, 0), (10, 3, 200, 0, 0, 0, 0), (13, 2, 17, 4, 0, 0, 0), (15, 1, 0, 2147483649, 0, 0, 0), (16, 1, 85, 0, 0, 0, 0), (17, 2, 200, 0, 0, 0, 0), (19, 1, 200, 0, 0, 0, 0), (20, 1, 200, 0, 0, 0, 0), (21, 2, 200, 0, 0, 0, 0), (23, 1, 200, 0, 0, 0, 0), (24, 1, 200, 0, 0, 0, 0), (25, 1, 200, 0, 0, 0, 0), (26, 1, 200, 0, 0, 0, 0)]
def xg_w78 : List (List Nat) := []
def xg_x78 : List (Nat × Nat × Nat × Nat) := [(0, 10, 9, 0), (0, 10, 12, 1), (0, 10, 15, 2)]
def xg_m78 : xv_M := (xg_c78, xg_w78, xg_x78, 5)
def xg_c79 : List xv_I := [(0, 1, 8, 3, 0, 0, 0), (1, 1, 0, 2147483648, 0, 0, 0), (2, 1, 8, 0, 0, 0, 0), (3, 1, 6, 1, 0, 0, 0), (4, 1, 6, 2, 0, 0, 0), (5, 3, 100, 4, 2, 15, 84), (8, 1, 200, 0, 0, 0, 0), (9, 1, 200, 0, 0, 0, 0), (10, 3, 200, 0, 0, 0, 0), (13, 2, 17, 4, 0, 0, 0), (15, 1, 0, 2147483649, 0, 0, 0), (16, 1, 85, 0, 0, 0, 0), (17, 1, 200, 0, 0, 0, 0), (18, 1, 200, 0, 0, 0, 0)]
def xg_w79 : List (List Nat) := []
def xg_x79 : List (Nat × Nat × Nat × Nat) := [(0, 10, 9, 0)]
def xg_m79 : xv_M := (xg_c79, xg_w79, xg_x79, 5)
def xg_c80 : List xv_I := [(0, 2, 9, 4, 0, 0, 0), (2, 1, 0, 2147483648, 0, 0, 0), (3, 1, 8, 0, 0, 0, 0), (4, 1, 6, 1, 0, 0, 0), (5, 1, 6, 2, 0, 0, 0), (6, 1, 6, 3, 0, 0, 0), (7, 3, 100, 5, 3, 15, 46), (10, 1, 200, 0, 0, 0, 0), (11, 1, 200, 0, 0, 0, 0), (12, 3, 200, 0, 0, 0, 0), (15, 2, 17, 5, 0, 0, 0), (17, 1, 0, 2147483649, 0, 0, 0), (18, 1, 85, 0, 0, 0, 0), (19, 2, 200, 0, 0, 0, 0), (21, 1, 200, 0, 0, 0, 0), (22, 1, 200, 0, 0, 0, 0), (23, 1, 200, 0, 0, 0, 0), (24, 1, 200, 0, 0, 0, 0)]
def xg_w80 : List (List Nat) := []
def xg_x80 : List (Nat × Nat × Nat × Nat) := [(0, 12, 10, 0), (0, 12, 13, 1)]
def xg_m80 : xv_M := (xg_c80, xg_w80, xg_x80, 6)
def xg_c81 : List xv_I := [(0, 1, 8, 3, 0, 0, 0), (1, 1, 0, 2147483648, 0, 0, 0), (2, 1, 8, 0, 0, 0, 0), (3, 1, 6, 1, 0, 0, 0), (4, 1, 6, 2, 0, 0, 0), (5, 3, 100, 10, 2, 15, 66), (8, 1, 200, 0, 0, 0, 0), (9, 1, 200, 0, 0, 0, 0), (10, 3, 200, 0, 0, 0, 0), (13, 2, 17, 4, 0, 0, 0), (15, 1, 0, 2147483649, 0, 0, 0), (16, 1, 85, 0, 0, 0, 0), (17, 2, 200, 0, 0, 0, 0), (19, 1, 200, 0, 0, 0, 0), (20, 1, 200, 0, 0, 0, 0), (21, 1, 200, 0, 0, 0, 0), (22, 1, 200, 0, 0, 0, 0)]
def xg_w81 : List (List Nat) := []
def xg_x81 : List (Nat × Nat × Nat × Nat) := [(0, 10, 9, 0), (0, 10, 12, 1)]
def xg_m81 : xv_M := (xg_c81, xg_w81, xg_x81, 5)
def xg_c82 : List xv_I := [(0, 1, 8, 3, 0, 0, 0), (1, 1, 0, 2147483648, 0, 0, 0), (2, 1, 8, 0, 0, 0, 0), (3, 1, 6, 1, 0, 0, 0), (4, 1, 6, 2, 0, 0, 0), (5, 3, 100, 11, 2, 15, 43), (8, 1, 29, 0, 0, 0, 0), (9, 1, 45, 0, 0, 0, 0), (10, 3, 80, 15, 21, 0, 0), (13, 2, 17, 4, 0, 0, 0), (15, 1, 0, 2147483649, 0, 0, 0), (16, 1, 85, 0, 0, 0, 0), (17, 2, 17, 4, 0, 0, 0), (19, 1, 0, 2147483650, 0, 0, 0), (20, 1, 85, 0, 0, 0, 0), (21, 1, 0, 2147483648, 0, 0, 0), (22, 1, 85, 0, 0, 0, 0)]
def xg_w82 : List (List Nat) := []
def xg_x82 : List (Nat × Nat × Nat × Nat) := [(0, 10, 9, 0), (0, 10, 12, 1)]
def xg_m82 : xv_M := (xg_c82, xg_w82, xg_x82, 5)
def xg_c83 : List xv_I := [(0, 1, 8, 3, 0, 0, 0), (1, 1, 0, 2147483648, 0, 0, 0), (2, 1, 8, 0, 0, 0, 0), (3, 1, 6, 1, 0, 0, 0), (4, 1, 6, 2, 0, 0, 0), (5, 3, 100, 12, 2, 15, 87), (8, 1, 29, 0, 0, 0, 0), (9, 1, 45, 0, 0, 0, 0), (10, 3, 80, 15, 21, 0, 0), (13, 2, 17, 4, 0, 0, 0), (15, 1, 0, 2147483649, 0, 0, 0), (16, 1, 85, 0, 0, 0, 0), (17, 2, 17, 4, 0, 0, 0), (19, 1, 0, 2147483650, 0, 0, 0), (20, 1, 85, 0, 0, 0, 0), (21, 1, 0, 2147483648, 0, 0, 0), (22, 1, 85, 0, 0, 0, 0)]
def xg_w83 : List (List Nat) := []
def xg_x83 : List (Nat × Nat × Nat × Nat) := [(0, 10, 9, 0), (0, 10, 12, 1)]
def xg_m83 : xv_M := (xg_c83, xg_w83, xg_x83, 5)
def xg_c84 : List xv_I := [(0, 1, 8, 2, 0, 0, 0), (1, 1, 0, 2147483648, 0, 0, 0), (2, 1, 8, 0, 0, 0, 0), (3, 1, 6, 1, 0, 0, 0), (4, 3, 100, 13, 1, 15, 75), (7, 1, 29, 0, 0, 0, 0), (8, 1, 45, 0, 0, 0, 0), (9, 3, 80, 11, 15, 0, 0), (12, 1, 16, 3, 0, 0, 0), (13, 1, 0, 2147483649, 0, 0, 0), (14, 1, 85, 0, 0, 0, 0), (15, 1, 0, 2147483648, 0, 0, 0), (16, 1, 85, 0, 0, 0, 0)]
def xg_w84 : List (List Nat) := []
def xg_x84 : List (Nat × Nat × Nat × Nat) := [(0, 9, 8, 0)]
def xg_m84 : xv_M := (xg_c84, xg_w84, xg_x84, 4)
def xg_c85 : List xv_I := [(0, 1, 8, 3, 0, 0, 0), (1, 1, 0, 2147483648, 0, 0, 0), (2, 1, 8, 0, 0, 0, 0), (3, 1, 6, 1, 0, 0, 0), (4, 1, 6, 2, 0, 0, 0), (5, 3, 100, 14, 2, 15, 7), (8, 1, 29, 0, 0, 0, 0), (9, 1, 45, 0, 0, 0, 0), (10, 3, 80, 15, 21, 0, 0), (13, 2, 17, 4, 0, 0, 0), (15, 1, 0, 2147483649, 0, 0, 0), (16, 1, 85, 0, 0, 0, 0), (17, 2, 200, 0, 0, 0, 0), (19, 1, 200, 0, 0, 0, 0), (20, 1, 200, 0, 0, 0, 0), (21, 1, 0, 2147483648, 0, 0, 0), (22, 1, 85, 0, 0, 0, 0)]
def xg_w85 : List (List Nat) := []
def xg_x85 : List (Nat × Nat × Nat × Nat) := [(0, 10, 9, 0), (0, 10, 12, 2)]
def xg_m85 : xv_M := (xg_c85, xg_w85, xg_x85, 5)
def xg_c86 : List xv_I := [(0, 1, 8, 3, 0, 0, 0), (1, 1, 0, 2147483648, 0, 0, 0), (2, 1, 8, 0, 0, 0, 0), (3, 1, 6, 1, 0, 0, 0), (4, 1, 6, 2, 0, 0, 0), (5, 3, 100, 17, 2, 15, 53), (8, 1, 29, 0, 0, 0, 0), (9, 1, 45, 0, 0, 0, 0), (10, 3, 80, 12, 17, 0, 0), (13, 2, 17, 4, 0, 0, 0), (15, 1, 0, 2147483649, 0, 0, 0), (16, 1, 85, 0, 0, 0, 0), (17, 1, 0, 2147483648, 0, 0, 0), (18, 1, 85, 0, 0, 0, 0)]
def xg_w86 : List (List Nat) := []
def xg_x86 : List (Nat × Nat × Nat × Nat) := [(0, 10, 9, 1)]
def xg_m86 : xv_M := (xg_c86, xg_w86, xg_x86, 5)
def xg_c87 : List xv_I := [(0, 1, 8, 2, 0, 0, 0), (1, 1, 0, 2147483648, 0, 0, 0), (2, 1, 8, 0, 0, 0, 0), (3, 1, 6, 1, 0, 0, 0), (4, 3, 100, 18, 1, 15, 78), (7, 1, 29, 0, 0, 0, 0), (8, 1, 45, 0, 0, 0, 0), (9, 3, 80, 11, 15, 0, 0), (12, 1, 16, 3, 0, 0, 0), (13, 1, 0, 2147483649, 0, 0, 0), (14, 1, 85, 0, 0, 0, 0), (15, 1, 0, 2147483648, 0, 0, 0), (16, 1, 85, 0, 0, 0, 0)]
def xg_w87 : List (List Nat) := []
def xg_x87 : List (Nat × Nat × Nat × Nat) := [(0, 9, 8, 1)]
def xg_m87 : xv_M := (xg_c87, xg_w87, xg_x87, 4)
def xg_c88 : List xv_I := [(0, 2, 9, 5, 0, 0, 0), (2, 1, 0, 2147483648, 0, 0, 0), (3, 1, 8, 0, 0, 0, 0), (4, 1, 6, 1, 0, 0, 0), (5, 1, 6, 2, 0, 0, 0), (6, 1, 6, 3, 0, 0, 0), (7, 2, 7, 4, 0, 0, 0), (9, 3, 100, 20, 4, 15, 33), (12, 1, 29, 0, 0, 0, 0), (13, 1, 45, 0, 0, 0, 0), (14, 3, 80, 17, 25, 0, 0), (17, 2, 17, 6, 0, 0, 0), (19, 1, 0, 2147483649, 0, 0, 0), (20, 1, 85, 0, 0, 0, 0), (21, 2, 200, 0, 0, 0, 0), (23, 1, 200, 0, 0, 0, 0), (24, 1, 200, 0, 0, 0, 0), (25, 1, 0, 2147483648, 0, 0, 0), (26, 1, 85, 0, 0, 0, 0)]
def xg_w88 : List (List Nat) := []
def xg_x88 : List (Nat × Nat × Nat × Nat) := [(0, 14, 11, 1), (0, 14, 14, 2)]
def xg_m88 : xv_M := (xg_c88, xg_w88, xg_x88, 7)
def xg_c89 : List xv_I := [(0, 1, 8, 3, 0, 0, 0), (1, 1, 0, 2147483648, 0, 0, 0), (2, 1, 8, 0, 0, 0, 0), (3, 1, 6, 1, 0, 0, 0), (4, 1, 6, 2, 0, 0, 0), (5, 3, 100, 21, 2, 15, 17), (8, 1, 29, 0, 0, 0, 0), (9, 1, 45, 0, 0, 0, 0), (10, 3, 80, 15, 21, 0, 0), (13, 2, 17, 4, 0, 0, 0), (15, 1, 0, 2147483649, 0, 0, 0), (16, 1, 85, 0, 0, 0, 0), (17, 2, 17, 4, 0, 0, 0), (19, 1, 0, 2147483650, 0, 0, 0), (20, 1, 85, 0, 0, 0, 0), (21, 1, 0, 2147483648, 0, 0, 0), (22, 1, 85, 0, 0, 0, 0)]
def xg_w89 : List (List Nat) := []
def xg_x89 : List (Nat × Nat × Nat × Nat) := [(0, 10, 9, 0), (0, 10, 12, 1)]
def xg_m89 : xv_M := (xg_c89, xg_w89, xg_x89, 5)
def xg_c90 : List xv_I := [(0, 1, 8, 3, 0, 0, 0), (1, 1, 0, 2147483648, 0, 0, 0), (2, 1, 8, 0, 0, 0, 0), (3, 1, 6, 1, 0, 0, 0), (4, 1, 6, 2, 0, 0, 0), (5, 3, 100, 22, 2, 15, 40), (8, 1, 200, 0, 0, 0, 0), (9, 1, 200, 0, 0, 0, 0), (10, 3, 200, 0, 0, 0, 0), (13, 2, 17, 4, 0, 0, 0), (15, 1, 0, 2147483649, 0, 0, 0), (16, 1, 85, 0, 0, 0, 0), (17, 2, 200, 0, 0, 0, 0), (19, 1, 200, 0, 0, 0, 0), (20, 1, 200, 0, 0, 0, 0), (21, 1, 200, 0, 0, 0, 0), (22, 1, 200, 0, 0, 0, 0)]
def xg_w90 : List (List Nat) := []
def xg_x90 : List (Nat × Nat × Nat × Nat) := [(0, 10, 9, 0), (0, 10, 12, 1)]
def xg_m90 : xv_M := (xg_c90, xg_w90, xg_x90, 5)
def xg_c91 : List xv_I := [(0, 1, 8, 3, 0, 0, 0), (1, 1, 0, 2147483648, 0, 0, 0), (2, 1, 8, 0, 0, 0, 0), (3, 1, 6, 1, 0, 0, 0), (4, 1, 6, 2, 0, 0, 0), (5, 3, 100, 23, 2, 15, 30), (8, 1, 29, 0, 0, 0, 0), (9, 1, 45, 0, 0, 0, 0), (10, 3, 80, 15, 21, 0, 0), (13, 2, 17, 4, 0, 0, 0), (15, 1, 0, 2147483649, 0, 0, 0), (16, 1, 85, 0, 0, 0, 0), (17, 2, 17, 4, 0, 0, 0), (19, 1, 0, 2147483650, 0, 0, 0), (20, 1, 85, 0, 0, 0, 0), (21, 1, 0, 2147483648, 0, 0, 0), (22, 1, 85, 0, 0, 0, 0)]
def xg_w91 : List (List Nat) := []
def xg_x91 : List (Nat × Nat × Nat × Nat) := [(0, 10, 9, 0), (0, 10, 12, 1)]
def xg_m91 : xv_M := (xg_c91, xg_w91, xg_x91, 5)
def xg_c92 : List xv_I := [(0, 1, 8, 2, 0, 0, 0), (1, 1, 0, 2147483648, 0, 0, 0), (2, 1, 8, 0, 0, 0, 0), (3, 1, 6, 1, 0, 0, 0), (4, 3, 100, 24, 1, 15, 60), (7, 1, 29, 0, 0, 0, 0), (8, 1, 45, 0, 0, 0, 0), (9, 3, 80, 11, 15, 0, 0), (12, 1, 16, 3, 0, 0, 0), (13, 1, 0, 2147483649, 0, 0, 0), (14, 1, 85, 0, 0, 0, 0), (15, 1, 0, 2147483648, 0, 0, 0), (16, 1, 85, 0, 0, 0, 0)]
def xg_w92 : List (List Nat) := []
def xg_x92 : List (Nat × Nat × Nat × Nat) := [(0, 9, 8, 1)]
def xg_m92 : xv_M := (xg_c92, xg_w92, xg_x92, 4)
def xg_c93 : List xv_I := [(0, 1, 8, 3, 0, 0, 0), (1, 1, 0, 2147483648, 0, 0, 0), (2, 1, 8, 0, 0, 0, 0), (3, 1, 6, 1, 0, 0, 0), (4, 1, 6, 2, 0, 0, 0), (5, 3, 100, 25, 2, 15, 63), (8, 1, 200, 0, 0, 0, 0), (9, 1, 200, 0, 0, 0, 0), (10, 3, 200, 0, 0, 0, 0), (13, 2, 17, 4, 0, 0, 0), (15, 1, 0, 2147483649, 0, 0, 0), (16, 1, 85, 0, 0, 0, 0), (17, 2, 200, 0, 0, 0, 0), (19, 1, 200, 0, 0, 0, 0), (20, 1, 200, 0, 0, 0, 0), (21, 1, 200, 0, 0, 0, 0), (22, 1, 200, 0, 0, 0, 0)]
def xg_w93 : List (List Nat) := []
def xg_x93 : List (Nat × Nat × Nat × Nat) := [(0, 10, 9, 0), (0, 10, 12, 1)]
def xg_m93 : xv_M := (xg_c93, xg_w93, xg_x93, 5)
def xg_c94 : List xv_I := [(0, 1, 8, 2, 0, 0, 0), (1, 1, 0, 2147483648, 0, 0, 0), (2, 1, 8, 0, 0, 0, 0), (3, 1, 6, 1, 0, 0, 0), (4, 3, 100, 26, 1, 15, 23), (7, 1, 29, 0, 0, 0, 0), (8, 1, 45, 0, 0, 0, 0), (9, 3, 80, 14, 18, 0, 0), (12, 1, 16, 3, 0, 0, 0), (13, 1, 0, 2147483649, 0, 0, 0), (14, 1, 85, 0, 0, 0, 0), (15, 1, 200, 0, 0, 0, 0), (16, 1, 200, 0, 0, 0, 0), (17, 1, 200, 0, 0, 0, 0), (18, 1, 0, 2147483648, 0, 0, 0), (19, 1, 85, 0, 0, 0, 0)]
def xg_w94 : List (List Nat) := []
def xg_x94 : List (Nat × Nat × Nat × Nat) := [(0, 9, 8, 1), (0, 9, 11, 2)]
def xg_m94 : xv_M := (xg_c94, xg_w94, xg_x94, 4)
def xg_c95 : List xv_I := [(0, 2, 9, 4, 0, 0, 0), (2, 1, 0, 2147483648, 0, 0, 0), (3, 1, 8, 0, 0, 0, 0), (4, 1, 6, 1, 0, 0, 0), (5, 1, 6, 2, 0, 0, 0), (6, 1, 6, 3, 0, 0, 0), (7, 3, 100, 35, 3, 15, 50), (10, 1, 200, 0, 0, 0, 0), (11, 1, 200, 0, 0, 0, 0), (12, 3, 200, 0, 0, 0, 0), (15, 2, 17, 5, 0, 0, 0), (17, 1, 0, 2147483649, 0, 0, 0), (18, 1, 85, 0, 0, 0, 0), (19, 2, 200, 0, 0, 0, 0), (21, 1, 200, 0, 0, 0, 0), (22, 1, 200, 0, 0, 0, 0), (23, 1, 200, 0, 0, 0, 0), (24, 1, 200, 0, 0, 0, 0)]
def xg_w95 : List (List Nat) := []
def xg_x95 : List (Nat × Nat × Nat × Nat) := [(0, 12, 10, 0), (0, 12, 13, 1)]
def xg_m95 : xv_M := (xg_c95, xg_w95, xg_x95, 6)
def xg_c96 : List xv_I := [(0, 1, 8, 1, 0, 0, 0), (1, 1, 0, 2147483648, 0, 0, 0), (2, 1, 8, 0, 0, 0, 0), (3, 3, 100, 37, 0, 15, 56), (6, 1, 200, 0, 0, 0, 0), (7, 1, 200, 0, 0, 0, 0), (8, 3, 200, 0, 0, 0, 0), (11, 1, 16, 2, 0, 0, 0), (12, 1, 0, 2147483649, 0, 0, 0), (13, 1, 85, 0, 0, 0, 0), (14, 1, 200, 0, 0, 0, 0), (15, 1, 200, 0, 0, 0, 0)]
def xg_w96 : List (List Nat) := []
def xg_x96 : List (Nat × Nat × Nat × Nat) := [(0, 8, 7, 2)]
def xg_m96 : xv_M := (xg_c96, xg_w96, xg_x96, 3)
def xg_c97 : List xv_I := [(0, 1, 8, 3, 0, 0, 0), (1, 1, 0, 2147483648, 0, 0, 0), (2, 1, 8, 0, 0, 0, 0), (3, 1, 6, 1, 0, 0, 0), (4, 1, 6, 2, 0, 0, 0), (5, 3, 100, 38, 2, 15, 69), (8, 1, 200, 0, 0, 0, 0), (9, 1, 200, 0, 0, 0, 0), (10, 3, 200, 0, 0, 0, 0), (13, 2, 17, 4, 0, 0, 0), (15, 1, 0, 2147483649, 0, 0, 0), (16, 1, 85, 0, 0, 0, 0), (17, 1, 200, 0, 0, 0, 0), (18, 1, 200, 0, 0, 0, 0)]
def xg_w97 : List (List Nat) := []
def xg_x97 : List (Nat × Nat × Nat × Nat) := [(0, 10, 9, 0)]
def xg_m97 : xv_M := (xg_c97, xg_w97, xg_x97, 5)
def xg_c98 : List xv_I := [(0, 1, 8, 3, 0, 0, 0), (1, 1, 0, 2147483648, 0, 0, 0), (2, 1, 8, 0, 0, 0, 0), (3, 1, 6, 1, 0, 0, 0), (4, 1, 6, 2, 0, 0, 0), (5, 3, 100, 39, 2, 15, 27), (8, 1, 29, 0, 0, 0, 0), (9, 1, 45, 0, 0, 0, 0), (10, 3, 80, 15, 21, 0, 0), (13, 2, 17, 4, 0, 0, 0), (15, 1, 0, 2147483649, 0, 0, 0), (16, 1, 85, 0, 0, 0, 0), (17, 2, 17, 4, 0, 0, 0), (19, 1, 0, 2147483650, 0, 0, 0), (20, 1, 85, 0, 0, 0, 0), (21, 1, 0, 2147483648, 0, 0, 0), (22, 1, 85, 0, 0, 0, 0)]
def xg_w98 : List (List Nat) := []
def xg_x98 : List (Nat × Nat × Nat × Nat) := [(0, 10, 9, 0), (0, 10, 12, 1)]
def xg_m98 : xv_M := (xg_c98, xg_w98, xg_x98, 5)
def xg_c99 : List xv_I := [(0, 1, 8, 3, 0, 0, 0), (1, 1, 0, 2147483648, 0, 0, 0), (2, 1, 8, 0, 0, 0, 0), (3, 1, 6, 1, 0, 0, 0), (4, 1, 6, 2, 0, 0, 0), (5, 3, 100, 40, 2, 15, 72), (8, 1, 200, 0, 0, 0, 0), (9, 1, 200, 0, 0, 0, 0), (10, 3, 200, 0, 0, 0, 0), (13, 2, 17, 4, 0, 0, 0), (15, 1, 0, 2147483649, 0, 0, 0), (16, 1, 85, 0, 0, 0, 0), (17, 1, 200, 0, 0, 0, 0), (18, 1, 200, 0, 0, 0, 0)]
def xg_w99 : List (List Nat) := []
def xg_x99 : List (Nat × Nat × Nat × Nat) := [(0, 10, 9, 0)]
def xg_m99 : xv_M := (xg_c99, xg_w99, xg_x99, 5)
def xg_c100 : List xv_I := [(0, 2, 9, 4, 0, 0, 0), (2, 1, 0, 2147483648, 0, 0, 0), (3, 1, 8, 0, 0, 0, 0), (4, 1, 6, 1, 0, 0, 0), (5, 1, 6, 2, 0, 0, 0), (6, 1, 6, 3, 0, 0, 0), (7, 3, 100, 41, 3, 15, 81), (10, 1, 200, 0, 0, 0, 0), (11, 1, 200, 0, 0, 0, 0), (12, 3, 200, 0, 0, 0, 0), (15, 2, 17, 5, 0, 0, 0), (17, 1, 0, 2147483649, 0, 0, 0), (18, 1, 85, 0, 0, 0, 0), (19, 2, 17, 5, 0, 0, 0), (21, 1, 0, 2147483650, 0, 0, 0), (22, 1, 85, 0, 0, 0, 0), (23, 1, 200, 0, 0, 0, 0), (24, 1, 200, 0, 0, 0, 0)]
def xg_w100 : List (List Nat) := []
def xg_x100 : List (Nat × Nat × Nat × Nat) := [(0, 12, 10, 1), (0, 12, 13, 2)]
def xg_m100 : xv_M := (xg_c100, xg_w100, xg_x100, 6)
def xg_c101 : List xv_I := [(0, 1, 8, 0, 0, 0, 0), (1, 3, 51, 0, 0, 0, 1), (4, 1, 8, 0, 0, 0, 0), (5, 3, 56, 20, 0, 0, 7), (8, 1, 34, 0, 0, 0, 0), (9, 3, 98, 151, 0, 20, 9), (12, 3, 41, 25, 1, 2, 10), (15, 1, 8, 0, 0, 0, 0), (16, 3, 2, 2147484448, 0, 0, 0), (19, 3, 40, 25, 3, 0, 16), (22, 1, 8, 0, 0, 0, 0), (23, 2, 1, 2147483658, 0, 0, 0), (25, 3, 40, 25, 4, 0, 20), (28, 1, 84, 0, 0, 0, 0)]
def xg_w101 : List (List Nat) := []
def xg_x101 : List (Nat × Nat × Nat × Nat) := []
def xg_m101 : xv_M := (xg_c101, xg_w101, xg_x101, 1)
def xg_c102 : List xv_I := [(0, 1, 10, 0, 0, 0, 0), (1, 3, 3, 9223372036854775839, 0, 0, 296), (4, 1, 31, 0, 0, 0, 0), (5, 1, 10, 2, 0, 0, 0), (6, 1, 30, 0, 0, 0, 0), (7, 1, 87, 0, 0, 0, 0)]
def xg_w102 : List (List Nat) := []
def xg_x102 : List (Nat × Nat × Nat × Nat) := []
def xg_m102 : xv_M := (xg_c102, xg_w102, xg_x102, 4)
def xg_c103 : List xv_I := [(0, 1, 8, 0, 0, 0, 0), (1, 1, 8, 0, 0, 0, 0), (2, 1, 6, 1, 0, 0, 0), (3, 3, 100, 118, 1, 25, 150), (6, 3, 65, 9, 17, 0, 0), (9, 1, 8, 0, 0, 0, 0), (10, 1, 6, 2, 0, 0, 0), (11, 3, 100, 117, 1, 25, 205), (14, 3, 64, 11, 21, 0, 0), (17, 1, 0, 2147483649, 0, 0, 0), (18, 3, 80, 12, 22, 0, 0), (21, 1, 200, 0, 0, 0, 0), (22, 1, 0, 2147483649, 0, 0, 0), (23, 3, 100, 141, 2, 25, 71), (26, 3, 65, 50, 101, 0, 0), (29, 1, 200, 0, 0, 0, 0), (30, 1, 200, 0, 0, 0, 0), (31, 3, 200, 0, 0, 0, 0), (34, 1, 200, 0, 0, 0, 0), (35, 3, 200, 0, 0, 0, 0), (38, 3, 200, 0, 0, 0, 0), (41, 2, 200, 0, 0, 0, 0), (43, 3, 200, 0, 0, 0, 0), (46, 1, 200, 0, 0, 0, 0), (47, 3, 200, 0, 0, 0, 0), (50, 1, 200, 0, 0, 0, 0), (51, 1, 200, 0, 0, 0, 0), (52, 3, 200, 0, 0, 0, 0), (55, 3, 200, 0, 0, 0, 0), (58, 1, 200, 0, 0, 0, 0), (59, 1, 200, 0, 0, 0, 0), (60, 3, 200, 0, 0, 0, 0), (63, 1, 200, 0, 0, 0, 0), (64, 3, 200, 0, 0, 0, 0), (67, 3, 200, 0, 0, 0, 0), (70, 1, 200, 0, 0, 0, 0), (71, 3, 200, 0, 0, 0, 0), (74, 1, 200, 0, 0, 0, 0), (75, 3, 200, 0, 0, 0, 0), (78, 1, 200, 0, 0, 0, 0), (79, 3, 200, 0, 0, 0, 0), (82, 3, 200, 0, 0, 0, 0), (85, 1, 200, 0, 0, 0, 0), (86, 3, 200, 0, 0, 0, 0), (89, 1, 200, 0, 0, 0, 0), (90, 3, 200, 0, 0, 0, 0), (93, 1, 200, 0, 0, 0, 0), (94, 1, 200, 0, 0, 0, 0), (95, 3, 200, 0, 0, 0, 0), (98, 3, 200, 0, 0, 0, 0), (101, 1, 0, 2147483648, 0, 0, 0), (102, 1, 85, 0, 0, 0, 0), (103, 1, 200, 0, 0, 0, 0), (104, 3, 200, 0, 0, 0, 0), (107, 3, 200, 0, 0, 0, 0), (110, 1, 200, 0, 0, 0, 0), (111, 3, 200, 0, 0, 0, 0), (114, 3, 200, 0, 0, 0, 0), (117, 1, 200, 0, 0, 0, 0), (118, 1, 200, 0, 0, 0, 0), (119, 3, 200, 0, 0, 0, 0), (122, 2, 200, 0, 0, 0, 0), (124, 2, 200, 0, 0, 0, 0), (126, 1, 200, 0, 0, 0, 0), (127, 3, 200, 0, 0, 0, 0), (130, 1, 200, 0, 0, 0, 0), (131, 3, 200, 0, 0, 0, 0), (134, 2, 200, 0, 0, 0, 0), (136, 3, 200, 0, 0, 0, 0), (139, 1, 200, 0, 0, 0, 0), (140, 3, 200, 0, 0, 0, 0), (143, 1, 200, 0, 0, 0, 0), (144, 1, 200, 0, 0, 0, 0), (145, 3, 200, 0, 0, 0, 0), (148, 1, 200, 0, 0, 0, 0), (149, 3, 200, 0, 0, 0, 0), (152, 1, 200, 0, 0, 0, 0), (153, 3, 200, 0, 0, 0, 0), (156, 1, 200, 0, 0, 0, 0), (157, 3, 200, 0, 0, 0, 0), (160, 2, 200, 0, 0, 0, 0), (162, 1, 200, 0, 0, 0, 0)]
def xg_w103 : List (List Nat) := []
def xg_x103 : List (Nat × Nat × Nat × Nat) := []
def xg_m103 : xv_M := (xg_c103, xg_w103, xg_x103, 5)
def xg_c104 : List xv_I := [(0, 1, 8, 0, 0, 0, 0), (1, 1, 8, 0, 0, 0, 0), (2, 1, 6, 1, 0, 0, 0), (3, 3, 100, 117, 1, 25, 205), (6, 3, 65, 9, 17, 0, 0), (9, 1, 200, 0, 0, 0, 0), (10, 1, 200, 0, 0, 0, 0), (11, 3, 200, 0, 0, 0, 0), (14, 3, 200, 0, 0, 0, 0), (17, 1, 0, 2147483649, 0, 0, 0), (18, 3, 80, 12, 22, 0, 0), (21, 1, 200, 0, 0, 0, 0), (22, 1, 0, 2147483649, 0, 0, 0), (23, 3, 100, 141, 2, 25, 71), (26, 3, 64, 17, 33, 0, 0), (29, 1, 0, 2147483648, 0, 0, 0), (30, 3, 80, 21, 39, 0, 0), (33, 1, 200, 0, 0, 0, 0), (34, 1, 200, 0, 0, 0, 0), (35, 1, 200, 0, 0, 0, 0), (36, 3, 200, 0, 0, 0, 0), (39, 1, 85, 0, 0, 0, 0)]
def xg_w104 : List (List Nat) := []
def xg_x104 : List (Nat × Nat × Nat × Nat) := []
def xg_m104 : xv_M := (xg_c104, xg_w104, xg_x104, 3)
def xg_c105 : List xv_I := [(0, 1, 8, 0, 0, 0, 0), (1, 1, 8, 0, 0, 0, 0), (2, 1, 6, 1, 0, 0, 0), (3, 3, 100, 118, 1, 25, 150), (6, 3, 65, 8, 16, 0, 0), (9, 1, 8, 0, 0, 0, 0), (10, 3, 100, 113, 0, 25, 176), (13, 3, 64, 10, 20, 0, 0), (16, 1, 0, 2147483649, 0, 0, 0), (17, 3, 80, 11, 21, 0, 0), (20, 1, 200, 0, 0, 0, 0), (21, 1, 0, 2147483649, 0, 0, 0), (22, 3, 100, 141, 2, 25, 71), (25, 3, 64, 16, 30, 0, 0), (28, 1, 0, 2147483648, 0, 0, 0), (29, 1, 85, 0, 0, 0, 0), (30, 1, 200, 0, 0, 0, 0), (31, 1, 200, 0, 0, 0, 0), (32, 3, 200, 0, 0, 0, 0), (35, 3, 200, 0, 0, 0, 0), (38, 2, 200, 0, 0, 0, 0), (40, 1, 200, 0, 0, 0, 0), (41, 1, 200, 0, 0, 0, 0), (42, 1, 200, 0, 0, 0, 0), (43, 2, 200, 0, 0, 0, 0), (45, 3, 200, 0, 0, 0, 0), (48, 1, 200, 0, 0, 0, 0), (49, 1, 200, 0, 0, 0, 0), (50, 3, 200, 0, 0, 0, 0), (53, 3, 200, 0, 0, 0, 0), (56, 1, 200, 0, 0, 0, 0), (57, 3, 200, 0, 0, 0, 0), (60, 1, 200, 0, 0, 0, 0), (61, 1, 200, 0, 0, 0, 0), (62, 3, 200, 0, 0, 0, 0), (65, 3, 200, 0, 0, 0, 0), (68, 1, 200, 0, 0, 0, 0), (69, 1, 200, 0, 0, 0, 0), (70, 1, 200, 0, 0, 0, 0), (71, 1, 200, 0, 0, 0, 0), (72, 3, 200, 0, 0, 0, 0), (75, 3, 200, 0, 0, 0, 0), (78, 1, 200, 0, 0, 0, 0), (79, 3, 200, 0, 0, 0, 0), (82, 1, 200, 0, 0, 0, 0), (83, 1, 200, 0, 0, 0, 0), (84, 3, 200, 0, 0, 0, 0), (87, 3, 200, 0, 0, 0, 0), (90, 1, 200, 0, 0, 0, 0), (91, 3, 200, 0, 0, 0, 0), (94, 2, 200, 0, 0, 0, 0), (96, 1, 200, 0, 0, 0, 0), (97, 3, 200, 0, 0, 0, 0), (100, 3, 200, 0, 0, 0, 0), (103, 1, 200, 0, 0, 0, 0), (104, 1, 200, 0, 0, 0, 0), (105, 1, 200, 0, 0, 0, 0)]
def xg_w105 : List (List Nat) := []
def xg_x105 : List (Nat × Nat × Nat × Nat) := []
def xg_m105 : xv_M := (xg_c105, xg_w105, xg_x105, 5)
def xg_c106 : List xv_I := [(0, 1, 0, 2147483648, 0, 0, 0), (1, 1, 14, 3, 0, 0, 0), (2, 1, 6, 1, 0, 0, 0), (3, 49, 81, 0, 0, 0, 0), (52, 1, 8, 0, 0, 0, 0), (53, 3, 38, 25, 1, 0, 10), (56, 3, 38, 20, 0, 0, 30), (59, 3, 100, 176, 0, 5, 34), (62, 1, 85, 0, 0, 0, 0), (63, 1, 8, 0, 0, 0, 0), (64, 3, 38, 25, 1, 0, 10), (67, 3, 38, 20, 1, 0, 44), (70, 3, 100, 176, 0, 5, 34), (73, 1, 85, 0, 0, 0, 0), (74, 1, 8, 0, 0, 0, 0), (75, 3, 38, 25, 1, 0, 10), (78, 3, 38, 20, 2, 0, 47), (81, 3, 100, 176, 0, 5, 34), (84, 1, 85, 0, 0, 0, 0), (85, 1, 8, 0, 0, 0, 0), (86, 3, 38, 25, 1, 0, 10), (89, 3, 38, 20, 2, 0, 47), (92, 3, 100, 175, 0, 5, 97), (95, 2, 17, 4, 0, 0, 0), (97, 2, 9, 4, 0, 0, 0), (99, 5, 101, 179, 0, 3, 101), (104, 3, 64, 45, 146, 0, 0), (107, 2, 200, 0, 0, 0, 0), (109, 5, 200, 0, 0, 0, 0), (114, 3, 200, 0, 0, 0, 0), (117, 2, 200, 0, 0, 0, 0), (119, 1, 200, 0, 0, 0, 0), (120, 1, 200, 0, 0, 0, 0), (121, 3, 200, 0, 0, 0, 0), (124, 2, 200, 0, 0, 0, 0), (126, 3, 200, 0, 0, 0, 0), (129, 3, 200, 0, 0, 0, 0), (132, 1, 200, 0, 0, 0, 0), (133, 3, 200, 0, 0, 0, 0), (136, 1, 200, 0, 0, 0, 0), (137, 3, 200, 0, 0, 0, 0), (140, 1, 200, 0, 0, 0, 0), (141, 1, 200, 0, 0, 0, 0), (142, 1, 200, 0, 0, 0, 0), (143, 3, 200, 0, 0, 0, 0), (146, 1, 6, 3, 0, 0, 0), (147, 1, 85, 0, 0, 0, 0), (148, 1, 8, 2, 0, 0, 0), (149, 3, 100, 176, 0, 5, 34), (152, 1, 85, 0, 0, 0, 0), (153, 1, 0, 2147483648, 0, 0, 0), (154, 2, 15, 4, 0, 0, 0), (156, 1, 8, 2, 0, 0, 0), (157, 3, 100, 174, 0, 5, 54), (160, 3, 64, 80, 219, 0, 0), (163, 2, 200, 0, 0, 0, 0), (165, 1, 200, 0, 0, 0, 0), (166, 3, 200, 0, 0, 0, 0), (169, 3, 200, 0, 0, 0, 0), (172, 3, 200, 0, 0, 0, 0), (175, 3, 200, 0, 0, 0, 0), (178, 1, 200, 0, 0, 0, 0), (179, 1, 200, 0, 0, 0, 0), (180, 1, 200, 0, 0, 0, 0), (181, 3, 200, 0, 0, 0, 0), (184, 1, 200, 0, 0, 0, 0), (185, 2, 200, 0, 0, 0, 0), (187, 3, 200, 0, 0, 0, 0), (190, 3, 200, 0, 0, 0, 0), (193, 3, 200, 0, 0, 0, 0), (196, 3, 200, 0, 0, 0, 0), (199, 1, 200, 0, 0, 0, 0), (200, 2, 200, 0, 0, 0, 0), (202, 3, 200, 0, 0, 0, 0), (205, 3, 200, 0, 0, 0, 0), (208, 3, 200, 0, 0, 0, 0), (211, 1, 200, 0, 0, 0, 0), (212, 1, 200, 0, 0, 0, 0), (213, 3, 200, 0, 0, 0, 0), (216, 3, 200, 0, 0, 0, 0), (219, 1, 6, 3, 0, 0, 0), (220, 1, 85, 0, 0, 0, 0), (221, 1, 8, 0, 0, 0, 0), (222, 3, 38, 25, 3, 0, 16), (225, 1, 85, 0, 0, 0, 0), (226, 1, 8, 0, 0, 0, 0), (227, 3, 38, 25, 4, 0, 20), (230, 1, 85, 0, 0, 0, 0), (231, 1, 8, 0, 0, 0, 0), (232, 3, 38, 25, 2, 0, 60), (235, 3, 64, 93, 242, 0, 0), (238, 1, 200, 0, 0, 0, 0), (239, 3, 200, 0, 0, 0, 0), (242, 1, 0, 2147483648, 0, 0, 0), (243, 1, 85, 0, 0, 0, 0)]
def xg_w106 : List (List Nat) := [[2147483648, 88, 4, 9, 14, 19, 47, 50, 50, 82, 85]]
def xg_x106 : List (Nat × Nat × Nat × Nat) := []
def xg_m106 : xv_M := (xg_c106, xg_w106, xg_x106, 6)
def xg_c107 : List xv_I := [(0, 1, 8, 0, 0, 0, 0), (1, 1, 0, 2147483648, 0, 0, 0), (2, 3, 40, 25, 0, 0, 23), (5, 1, 8, 0, 0, 0, 0), (6, 3, 38, 25, 1, 0, 10), (9, 3, 100, 154, 0, 20, 50), (12, 1, 16, 1, 0, 0, 0), (13, 1, 8, 1, 0, 0, 0), (14, 3, 100, 174, 0, 5, 54), (17, 3, 65, 12, 24, 0, 0), (20, 1, 0, 2147483649, 0, 0, 0), (21, 3, 80, 13, 25, 0, 0), (24, 1, 200, 0, 0, 0, 0), (25, 1, 14, 2, 0, 0, 0), (26, 3, 3, 9223372036854833936, 0, 0, 298), (29, 1, 18, 3, 0, 0, 0), (30, 1, 0, 2147483648, 0, 0, 0), (31, 2, 15, 5, 0, 0, 0), (33, 2, 7, 5, 0, 0, 0), (35, 2, 1, 2147483658, 0, 0, 0), (37, 3, 73, 31, 59, 0, 0), (40, 1, 10, 3, 0, 0, 0), (41, 1, 8, 0, 0, 0, 0), (42, 2, 7, 5, 0, 0, 0), (44, 1, 8, 1, 0, 0, 0), (45, 3, 100, 106, 2, 25, 286), (48, 1, 29, 0, 0, 0, 0), (49, 3, 96, 102, 2, 0, 300), (52, 1, 18, 3, 0, 0, 0), (53, 3, 22, 5, 2147483649, 0, 0), (56, 3, 80, 18, 33, 0, 0), (59, 1, 0, 2147483648, 0, 0, 0), (60, 2, 15, 5, 0, 0, 0), (62, 2, 7, 5, 0, 0, 0), (64, 1, 8, 0, 0, 0, 0), (65, 3, 38, 25, 1, 0, 10), (68, 3, 38, 20, 0, 0, 30), (71, 3, 100, 176, 0, 5, 34), (74, 3, 73, 56, 112, 0, 0), (77, 1, 0, 2147483648, 0, 0, 0), (78, 2, 15, 6, 0, 0, 0), (80, 2, 7, 6, 0, 0, 0), (82, 1, 0, 2147483653, 0, 0, 0), (83, 3, 73, 54, 106, 0, 0), (86, 1, 10, 3, 0, 0, 0), (87, 1, 8, 0, 0, 0, 0), (88, 2, 7, 5, 0, 0, 0), (90, 2, 7, 6, 0, 0, 0), (92, 3, 100, 129, 2, 25, 138), (95, 1, 29, 0, 0, 0, 0), (96, 3, 96, 102, 2, 0, 300), (99, 1, 18, 3, 0, 0, 0), (100, 3, 22, 6, 2147483649, 0, 0), (103, 3, 80, 41, 80, 0, 0), (106, 3, 22, 5, 2147483649, 0, 0), (109, 3, 80, 33, 62, 0, 0), (112, 1, 0, 2147483648, 0, 0, 0), (113, 2, 15, 5, 0, 0, 0), (115, 2, 7, 5, 0, 0, 0), (117, 1, 8, 0, 0, 0, 0), (118, 3, 38, 25, 1, 0, 10), (121, 3, 38, 20, 1, 0, 44), (124, 3, 100, 176, 0, 5, 34), (127, 3, 73, 155, 332, 0, 0), (130, 1, 0, 2147483648, 0, 0, 0), (131, 2, 15, 6, 0, 0, 0), (133, 2, 7, 6, 0, 0, 0), (135, 2, 1, 2147483654, 0, 0, 0), (137, 3, 73, 80, 161, 0, 0), (140, 1, 10, 3, 0, 0, 0), (141, 1, 8, 0, 0, 0, 0), (142, 2, 7, 5, 0, 0, 0), (144, 2, 7, 6, 0, 0, 0), (146, 1, 6, 2, 0, 0, 0), (147, 3, 100, 132, 3, 25, 179), (150, 1, 29, 0, 0, 0, 0), (151, 3, 96, 102, 2, 0, 300), (154, 1, 18, 3, 0, 0, 0), (155, 3, 22, 6, 2147483649, 0, 0), (158, 3, 80, 66, 133, 0, 0), (161, 1, 6, 2, 0, 0, 0), (162, 3, 64, 83, 168, 0, 0), (165, 3, 80, 153, 326, 0, 0), (168, 1, 200, 0, 0, 0, 0), (169, 2, 200, 0, 0, 0, 0), (171, 3, 200, 0, 0, 0, 0), (174, 2, 200, 0, 0, 0, 0), (176, 2, 200, 0, 0, 0, 0), (178, 3, 200, 0, 0, 0, 0), (181, 3, 200, 0, 0, 0, 0), (184, 2, 200, 0, 0, 0, 0), (186, 2, 200, 0, 0, 0, 0), (188, 5, 200, 0, 0, 0, 0), (193, 3, 200, 0, 0, 0, 0), (196, 2, 200, 0, 0, 0, 0), (198, 5, 200, 0, 0, 0, 0), (203, 3, 200, 0, 0, 0, 0), (206, 2, 200, 0, 0, 0, 0), (208, 2, 200, 0, 0, 0, 0), (210, 2, 200, 0, 0, 0, 0), (212, 2, 200, 0, 0, 0, 0), (214, 1, 200, 0, 0, 0, 0), (215, 2, 200, 0, 0, 0, 0), (217, 1, 200, 0, 0, 0, 0), (218, 2, 200, 0, 0, 0, 0), (220, 2, 200, 0, 0, 0, 0), (222, 2, 200, 0, 0, 0, 0), (224, 3, 200, 0, 0, 0, 0), (227, 2, 200, 0, 0, 0, 0), (229, 2, 200, 0, 0, 0, 0), (231, 1, 200, 0, 0, 0, 0), (232, 2, 200, 0, 0, 0, 0), (234, 1, 200, 0, 0, 0, 0), (235, 2, 200, 0, 0, 0, 0), (237, 1, 200, 0, 0, 0, 0), (238, 3, 200, 0, 0, 0, 0), (241, 1, 200, 0, 0, 0, 0), (242, 3, 200, 0, 0, 0, 0), (245, 3, 200, 0, 0, 0, 0), (248, 3, 200, 0, 0, 0, 0), (251, 2, 200, 0, 0, 0, 0), (253, 3, 200, 0, 0, 0, 0), (256, 3, 200, 0, 0, 0, 0), (259, 2, 200, 0, 0, 0, 0), (261, 2, 200, 0, 0, 0, 0), (263, 5, 200, 0, 0, 0, 0), (268, 3, 200, 0, 0, 0, 0), (271, 2, 200, 0, 0, 0, 0), (273, 5, 200, 0, 0, 0, 0), (278, 3, 200, 0, 0, 0, 0), (281, 2, 200, 0, 0, 0, 0), (283, 2, 200, 0, 0, 0, 0), (285, 2, 200, 0, 0, 0, 0), (287, 2, 200, 0, 0, 0, 0), (289, 1, 200, 0, 0, 0, 0), (290, 2, 200, 0, 0, 0, 0), (292, 1, 200, 0, 0, 0, 0), (293, 2, 200, 0, 0, 0, 0), (295, 2, 200, 0, 0, 0, 0), (297, 2, 200, 0, 0, 0, 0), (299, 3, 200, 0, 0, 0, 0), (302, 2, 200, 0, 0, 0, 0), (304, 2, 200, 0, 0, 0, 0), (306, 1, 200, 0, 0, 0, 0), (307, 2, 200, 0, 0, 0, 0), (309, 1, 200, 0, 0, 0, 0), (310, 2, 200, 0, 0, 0, 0), (312, 1, 200, 0, 0, 0, 0), (313, 3, 200, 0, 0, 0, 0), (316, 1, 200, 0, 0, 0, 0), (317, 3, 200, 0, 0, 0, 0), (320, 3, 200, 0, 0, 0, 0), (323, 3, 200, 0, 0, 0, 0), (326, 3, 22, 5, 2147483649, 0, 0), (329, 3, 80, 58, 115, 0, 0), (332, 1, 0, 2147483648, 0, 0, 0), (333, 2, 15, 5, 0, 0, 0), (335, 2, 7, 5, 0, 0, 0), (337, 1, 8, 0, 0, 0, 0), (338, 3, 38, 25, 1, 0, 10), (341, 3, 38, 20, 2, 0, 47), (344, 3, 100, 176, 0, 5, 34), (347, 3, 73, 199, 421, 0, 0), (350, 1, 200, 0, 0, 0, 0), (351, 2, 200, 0, 0, 0, 0), (353, 2, 200, 0, 0, 0, 0), (355, 2, 200, 0, 0, 0, 0), (357, 3, 200, 0, 0, 0, 0), (360, 1, 200, 0, 0, 0, 0), (361, 1, 200, 0, 0, 0, 0), (362, 2, 200, 0, 0, 0, 0), (364, 2, 200, 0, 0, 0, 0), (366, 3, 200, 0, 0, 0, 0), (369, 1, 200, 0, 0, 0, 0), (370, 3, 200, 0, 0, 0, 0), (373, 1, 200, 0, 0, 0, 0), (374, 3, 200, 0, 0, 0, 0), (377, 3, 200, 0, 0, 0, 0), (380, 1, 200, 0, 0, 0, 0), (381, 1, 200, 0, 0, 0, 0), (382, 2, 200, 0, 0, 0, 0), (384, 1, 200, 0, 0, 0, 0), (385, 3, 200, 0, 0, 0, 0), (388, 1, 200, 0, 0, 0, 0), (389, 3, 200, 0, 0, 0, 0), (392, 1, 200, 0, 0, 0, 0), (393, 2, 200, 0, 0, 0, 0), (395, 1, 200, 0, 0, 0, 0), (396, 3, 200, 0, 0, 0, 0), (399, 3, 200, 0, 0, 0, 0), (402, 3, 200, 0, 0, 0, 0), (405, 1, 200, 0, 0, 0, 0), (406, 1, 200, 0, 0, 0, 0), (407, 3, 200, 0, 0, 0, 0), (410, 1, 200, 0, 0, 0, 0), (411, 3, 200, 0, 0, 0, 0), (414, 1, 200, 0, 0, 0, 0), (415, 3, 200, 0, 0, 0, 0), (418, 3, 200, 0, 0, 0, 0), (421, 1, 8, 1, 0, 0, 0), (422, 3, 100, 175, 0, 5, 97), (425, 2, 17, 5, 0, 0, 0), (427, 2, 9, 5, 0, 0, 0), (429, 5, 101, 179, 0, 3, 101), (434, 3, 64, 231, 492, 0, 0), (437, 2, 9, 5, 0, 0, 0), (439, 5, 101, 180, 0, 3, 106), (444, 3, 49, 1, 0, 0, 226), (447, 2, 17, 6, 0, 0, 0), (449, 2, 9, 6, 0, 0, 0), (451, 2, 17, 7, 0, 0, 0), (453, 2, 9, 7, 0, 0, 0), (455, 1, 48, 0, 0, 0, 0), (456, 2, 15, 8, 0, 0, 0), (458, 1, 0, 2147483648, 0, 0, 0), (459, 2, 15, 9, 0, 0, 0), (461, 2, 7, 9, 0, 0, 0), (463, 2, 7, 8, 0, 0, 0), (465, 3, 73, 230, 489, 0, 0), (468, 2, 9, 7, 0, 0, 0), (470, 2, 7, 9, 0, 0, 0), (472, 1, 42, 0, 0, 0, 0), (473, 2, 15, 10, 0, 0, 0), (475, 1, 10, 3, 0, 0, 0), (476, 2, 7, 10, 0, 0, 0), (478, 1, 29, 0, 0, 0, 0), (479, 3, 96, 102, 2, 0, 300), (482, 1, 18, 3, 0, 0, 0), (483, 3, 22, 9, 2147483649, 0, 0), (486, 3, 80, 216, 461, 0, 0), (489, 3, 80, 202, 427, 0, 0), (492, 1, 0, 2147483648, 0, 0, 0), (493, 2, 15, 5, 0, 0, 0), (495, 2, 7, 5, 0, 0, 0), (497, 2, 1, 2147483658, 0, 0, 0), (499, 3, 73, 245, 520, 0, 0), (502, 1, 10, 3, 0, 0, 0), (503, 1, 8, 0, 0, 0, 0), (504, 2, 7, 5, 0, 0, 0), (506, 3, 100, 134, 1, 25, 242), (509, 1, 29, 0, 0, 0, 0), (510, 3, 96, 102, 2, 0, 300), (513, 1, 18, 3, 0, 0, 0), (514, 3, 22, 5, 2147483649, 0, 0), (517, 3, 80, 233, 495, 0, 0), (520, 1, 0, 2147483648, 0, 0, 0), (521, 2, 15, 5, 0, 0, 0), (523, 2, 7, 5, 0, 0, 0), (525, 1, 8, 0, 0, 0, 0), (526, 3, 100, 122, 0, 25, 253), (529, 3, 73, 272, 577, 0, 0), (532, 1, 200, 0, 0, 0, 0), (533, 2, 200, 0, 0, 0, 0), (535, 2, 200, 0, 0, 0, 0), (537, 1, 200, 0, 0, 0, 0), (538, 3, 200, 0, 0, 0, 0), (541, 1, 200, 0, 0, 0, 0), (542, 1, 200, 0, 0, 0, 0), (543, 3, 200, 0, 0, 0, 0), (546, 3, 200, 0, 0, 0, 0), (549, 2, 200, 0, 0, 0, 0), (551, 3, 200, 0, 0, 0, 0), (554, 3, 200, 0, 0, 0, 0), (557, 2, 200, 0, 0, 0, 0), (559, 1, 200, 0, 0, 0, 0), (560, 1, 200, 0, 0, 0, 0), (561, 3, 200, 0, 0, 0, 0), (564, 1, 200, 0, 0, 0, 0), (565, 3, 200, 0, 0, 0, 0), (568, 3, 200, 0, 0, 0, 0), (571, 3, 200, 0, 0, 0, 0), (574, 3, 200, 0, 0, 0, 0), (577, 1, 0, 2147483648, 0, 0, 0), (578, 2, 15, 5, 0, 0, 0), (580, 2, 7, 5, 0, 0, 0), (582, 1, 8, 0, 0, 0, 0), (583, 3, 100, 121, 0, 25, 256), (586, 3, 73, 341, 742, 0, 0), (589, 1, 200, 0, 0, 0, 0), (590, 2, 200, 0, 0, 0, 0), (592, 2, 200, 0, 0, 0, 0), (594, 1, 200, 0, 0, 0, 0), (595, 3, 200, 0, 0, 0, 0), (598, 1, 200, 0, 0, 0, 0), (599, 1, 200, 0, 0, 0, 0), (600, 2, 200, 0, 0, 0, 0), (602, 2, 200, 0, 0, 0, 0), (604, 3, 200, 0, 0, 0, 0), (607, 1, 200, 0, 0, 0, 0), (608, 3, 200, 0, 0, 0, 0), (611, 1, 200, 0, 0, 0, 0), (612, 3, 200, 0, 0, 0, 0), (615, 3, 200, 0, 0, 0, 0), (618, 1, 200, 0, 0, 0, 0), (619, 3, 200, 0, 0, 0, 0), (622, 3, 200, 0, 0, 0, 0), (625, 2, 200, 0, 0, 0, 0), (627, 3, 200, 0, 0, 0, 0), (630, 3, 200, 0, 0, 0, 0), (633, 3, 200, 0, 0, 0, 0), (636, 3, 200, 0, 0, 0, 0), (639, 2, 200, 0, 0, 0, 0), (641, 2, 200, 0, 0, 0, 0), (643, 5, 200, 0, 0, 0, 0), (648, 3, 200, 0, 0, 0, 0), (651, 2, 200, 0, 0, 0, 0), (653, 5, 200, 0, 0, 0, 0), (658, 3, 200, 0, 0, 0, 0), (661, 3, 200, 0, 0, 0, 0), (664, 2, 200, 0, 0, 0, 0), (666, 1, 200, 0, 0, 0, 0), (667, 2, 200, 0, 0, 0, 0), (669, 1, 200, 0, 0, 0, 0), (670, 3, 200, 0, 0, 0, 0), (673, 1, 200, 0, 0, 0, 0), (674, 3, 200, 0, 0, 0, 0), (677, 1, 200, 0, 0, 0, 0), (678, 3, 200, 0, 0, 0, 0), (681, 3, 200, 0, 0, 0, 0), (684, 2, 200, 0, 0, 0, 0), (686, 3, 200, 0, 0, 0, 0), (689, 3, 200, 0, 0, 0, 0), (692, 3, 200, 0, 0, 0, 0), (695, 3, 200, 0, 0, 0, 0), (698, 2, 200, 0, 0, 0, 0), (700, 2, 200, 0, 0, 0, 0), (702, 5, 200, 0, 0, 0, 0), (707, 3, 200, 0, 0, 0, 0), (710, 2, 200, 0, 0, 0, 0), (712, 5, 200, 0, 0, 0, 0), (717, 3, 200, 0, 0, 0, 0), (720, 3, 200, 0, 0, 0, 0), (723, 2, 200, 0, 0, 0, 0), (725, 1, 200, 0, 0, 0, 0), (726, 2, 200, 0, 0, 0, 0), (728, 1, 200, 0, 0, 0, 0), (729, 3, 200, 0, 0, 0, 0), (732, 1, 200, 0, 0, 0, 0), (733, 3, 200, 0, 0, 0, 0), (736, 3, 200, 0, 0, 0, 0), (739, 3, 200, 0, 0, 0, 0), (742, 1, 0, 2147483648, 0, 0, 0), (743, 2, 15, 5, 0, 0, 0), (745, 2, 7, 5, 0, 0, 0), (747, 2, 1, 2147483662, 0, 0, 0), (749, 3, 73, 355, 770, 0, 0), (752, 1, 10, 3, 0, 0, 0), (753, 1, 8, 0, 0, 0, 0), (754, 2, 7, 5, 0, 0, 0), (756, 3, 100, 112, 1, 25, 283), (759, 1, 29, 0, 0, 0, 0), (760, 3, 96, 102, 2, 0, 300), (763, 1, 18, 3, 0, 0, 0), (764, 3, 22, 5, 2147483649, 0, 0), (767, 3, 80, 343, 745, 0, 0), (770, 1, 6, 2, 0, 0, 0), (771, 3, 64, 359, 776, 0, 0), (774, 1, 10, 3, 0, 0, 0), (775, 1, 87, 0, 0, 0, 0), (776, 3, 200, 0, 0, 0, 0), (779, 1, 200, 0, 0, 0, 0), (780, 1, 200, 0, 0, 0, 0), (781, 3, 200, 0, 0, 0, 0), (784, 3, 200, 0, 0, 0, 0), (787, 1, 200, 0, 0, 0, 0), (788, 3, 200, 0, 0, 0, 0), (791, 2, 200, 0, 0, 0, 0), (793, 1, 200, 0, 0, 0, 0), (794, 2, 200, 0, 0, 0, 0), (796, 2, 200, 0, 0, 0, 0), (798, 2, 200, 0, 0, 0, 0), (800, 3, 200, 0, 0, 0, 0), (803, 1, 200, 0, 0, 0, 0), (804, 2, 200, 0, 0, 0, 0), (806, 2, 200, 0, 0, 0, 0), (808, 3, 200, 0, 0, 0, 0), (811, 1, 200, 0, 0, 0, 0), (812, 3, 200, 0, 0, 0, 0), (815, 1, 200, 0, 0, 0, 0), (816, 3, 200, 0, 0, 0, 0), (819, 3, 200, 0, 0, 0, 0), (822, 1, 200, 0, 0, 0, 0), (823, 1, 200, 0, 0, 0, 0)]
def xg_w107 : List (List Nat) := []
def xg_x107 : List (Nat × Nat × Nat × Nat) := []
def xg_m107 : xv_M := (xg_c107, xg_w107, xg_x107, 13)
def xg_c108 : List xv_I := [(0, 1, 8, 0, 0, 0, 0), (1, 1, 6, 1, 0, 0, 0), (2, 3, 100, 120, 1, 25, 271), (5, 3, 65, 16, 30, 0, 0), (8, 1, 200, 0, 0, 0, 0), (9, 1, 200, 0, 0, 0, 0), (10, 1, 200, 0, 0, 0, 0), (11, 1, 200, 0, 0, 0, 0), (12, 3, 200, 0, 0, 0, 0), (15, 3, 200, 0, 0, 0, 0), (18, 1, 200, 0, 0, 0, 0), (19, 3, 200, 0, 0, 0, 0), (22, 1, 200, 0, 0, 0, 0), (23, 1, 200, 0, 0, 0, 0), (24, 3, 200, 0, 0, 0, 0), (27, 3, 200, 0, 0, 0, 0), (30, 1, 0, 2147483648, 0, 0, 0), (31, 3, 80, 22, 40, 0, 0), (34, 1, 200, 0, 0, 0, 0), (35, 1, 200, 0, 0, 0, 0), (36, 1, 200, 0, 0, 0, 0), (37, 3, 200, 0, 0, 0, 0), (40, 1, 85, 0, 0, 0, 0)]
def xg_w108 : List (List Nat) := []
def xg_x108 : List (Nat × Nat × Nat × Nat) := []
def xg_m108 : xv_M := (xg_c108, xg_w108, xg_x108, 3)
def xg_c109 : List xv_I := [(0, 1, 8, 0, 0, 0, 0), (1, 3, 38, 25, 1, 0, 10), (4, 3, 100, 154, 0, 20, 50), (7, 1, 16, 3, 0, 0, 0), (8, 1, 8, 0, 0, 0, 0), (9, 1, 6, 1, 0, 0, 0), (10, 1, 0, 2147483648, 0, 0, 0), (11, 1, 8, 3, 0, 0, 0), (12, 3, 100, 176, 0, 5, 34), (15, 1, 0, 2147483649, 0, 0, 0), (16, 1, 24, 0, 0, 0, 0), (17, 3, 96, 114, 3, 0, 40), (20, 3, 65, 15, 27, 0, 0), (23, 1, 0, 2147483649, 0, 0, 0), (24, 3, 80, 16, 28, 0, 0), (27, 1, 0, 2147483648, 0, 0, 0), (28, 1, 0, 2147483649, 0, 0, 0), (29, 3, 100, 141, 2, 25, 71), (32, 3, 65, 31, 57, 0, 0), (35, 1, 8, 0, 0, 0, 0), (36, 1, 6, 2, 0, 0, 0), (37, 1, 0, 2147483648, 0, 0, 0), (38, 1, 0, 2147483651, 0, 0, 0), (39, 3, 96, 114, 3, 0, 40), (42, 3, 65, 27, 49, 0, 0), (45, 1, 0, 2147483649, 0, 0, 0), (46, 3, 80, 28, 50, 0, 0), (49, 1, 0, 2147483648, 0, 0, 0), (50, 1, 0, 2147483650, 0, 0, 0), (51, 3, 100, 138, 2, 25, 26), (54, 3, 64, 33, 61, 0, 0), (57, 1, 0, 2147483648, 0, 0, 0), (58, 3, 80, 39, 71, 0, 0), (61, 1, 8, 3, 0, 0, 0), (62, 1, 6, 1, 0, 0, 0), (63, 3, 100, 171, 1, 5, 83), (66, 3, 49, 1, 0, 0, 226), (69, 1, 6, 2, 0, 0, 0), (70, 1, 42, 0, 0, 0, 0), (71, 1, 85, 0, 0, 0, 0)]
def xg_w109 : List (List Nat) := []
def xg_x109 : List (Nat × Nat × Nat × Nat) := []
def xg_m109 : xv_M := (xg_c109, xg_w109, xg_x109, 4)
def xg_c110 : List xv_I := [(0, 1, 8, 0, 0, 0, 0), (1, 1, 8, 0, 0, 0, 0), (2, 1, 6, 1, 0, 0, 0), (3, 3, 100, 118, 1, 25, 150), (6, 1, 0, 2147483649, 0, 0, 0), (7, 3, 100, 141, 2, 25, 71), (10, 3, 65, 14, 26, 0, 0), (13, 1, 8, 0, 0, 0, 0), (14, 1, 8, 0, 0, 0, 0), (15, 1, 6, 2, 0, 0, 0), (16, 3, 100, 119, 1, 25, 142), (19, 1, 0, 2147483650, 0, 0, 0), (20, 3, 100, 138, 2, 25, 26), (23, 3, 64, 16, 28, 0, 0), (26, 1, 0, 2147483648, 0, 0, 0), (27, 1, 85, 0, 0, 0, 0), (28, 1, 8, 0, 0, 0, 0), (29, 3, 38, 25, 1, 0, 10), (32, 3, 38, 20, 1, 0, 44), (35, 1, 6, 1, 0, 0, 0), (36, 3, 100, 171, 1, 5, 83), (39, 3, 49, 0, 19, 0, 145), (42, 1, 16, 3, 0, 0, 0), (43, 1, 8, 3, 0, 0, 0), (44, 3, 38, 19, 0, 0, 153), (47, 2, 15, 4, 0, 0, 0), (49, 1, 8, 3, 0, 0, 0), (50, 1, 6, 2, 0, 0, 0), (51, 3, 40, 19, 0, 0, 153), (54, 1, 8, 0, 0, 0, 0), (55, 3, 38, 25, 1, 0, 10), (58, 3, 100, 154, 0, 20, 50), (61, 3, 100, 176, 0, 5, 34), (64, 2, 15, 5, 0, 0, 0), (66, 1, 8, 3, 0, 0, 0), (67, 2, 7, 4, 0, 0, 0), (69, 3, 40, 19, 0, 0, 153), (72, 2, 7, 5, 0, 0, 0), (74, 1, 85, 0, 0, 0, 0)]
def xg_w110 : List (List Nat) := []
def xg_x110 : List (Nat × Nat × Nat × Nat) := []
def xg_m110 : xv_M := (xg_c110, xg_w110, xg_x110, 6)
def xg_c111 : List xv_I := [(0, 1, 8, 0, 0, 0, 0), (1, 1, 6, 1, 0, 0, 0), (2, 1, 0, 2147483648, 0, 0, 0), (3, 2, 1, 2147483661, 0, 0, 0), (5, 3, 96, 114, 3, 0, 40), (8, 3, 65, 8, 15, 0, 0), (11, 1, 0, 2147483649, 0, 0, 0), (12, 3, 80, 9, 16, 0, 0), (15, 1, 0, 2147483648, 0, 0, 0), (16, 1, 0, 2147483649, 0, 0, 0), (17, 3, 100, 141, 2, 25, 71), (20, 3, 64, 14, 27, 0, 0), (23, 1, 0, 2147483648, 0, 0, 0), (24, 3, 80, 17, 32, 0, 0), (27, 1, 8, 0, 0, 0, 0), (28, 1, 6, 1, 0, 0, 0), (29, 3, 100, 112, 1, 25, 283), (32, 1, 85, 0, 0, 0, 0)]
def xg_w111 : List (List Nat) := []
def xg_x111 : List (Nat × Nat × Nat × Nat) := []
def xg_m111 : xv_M := (xg_c111, xg_w111, xg_x111, 2)
def xg_c112 : List xv_I := [(0, 1, 6, 1, 0, 0, 0), (1, 2, 1, 2147483658, 0, 0, 0), (3, 3, 73, 14, 27, 0, 0), (6, 1, 8, 0, 0, 0, 0), (7, 3, 38, 25, 5, 0, 124), (10, 3, 79, 8, 17, 0, 0), (13, 1, 0, 2147483648, 0, 0, 0), (14, 3, 80, 13, 26, 0, 0), (17, 1, 200, 0, 0, 0, 0), (18, 3, 200, 0, 0, 0, 0), (21, 3, 200, 0, 0, 0, 0), (24, 1, 200, 0, 0, 0, 0), (25, 1, 200, 0, 0, 0, 0), (26, 1, 85, 0, 0, 0, 0), (27, 1, 8, 0, 0, 0, 0), (28, 3, 38, 25, 5, 0, 124), (31, 3, 79, 19, 38, 0, 0), (34, 1, 0, 2147483647, 0, 0, 0), (35, 3, 80, 26, 50, 0, 0), (38, 1, 200, 0, 0, 0, 0), (39, 3, 200, 0, 0, 0, 0), (42, 3, 200, 0, 0, 0, 0), (45, 1, 200, 0, 0, 0, 0), (46, 2, 200, 0, 0, 0, 0), (48, 1, 200, 0, 0, 0, 0), (49, 1, 200, 0, 0, 0, 0), (50, 1, 85, 0, 0, 0, 0)]
def xg_w112 : List (List Nat) := []
def xg_x112 : List (Nat × Nat × Nat × Nat) := []
def xg_m112 : xv_M := (xg_c112, xg_w112, xg_x112, 2)
def xg_c113 : List xv_I := [(0, 1, 8, 0, 0, 0, 0), (1, 3, 38, 25, 1, 0, 10), (4, 3, 100, 154, 0, 20, 50), (7, 3, 100, 174, 0, 5, 54), (10, 3, 65, 7, 17, 0, 0), (13, 1, 0, 2147483649, 0, 0, 0), (14, 3, 80, 8, 18, 0, 0), (17, 1, 200, 0, 0, 0, 0), (18, 1, 85, 0, 0, 1, 0)]
def xg_w113 : List (List Nat) := []
def xg_x113 : List (Nat × Nat × Nat × Nat) := []
def xg_m113 : xv_M := (xg_c113, xg_w113, xg_x113, 1)
def xg_c114 : List xv_I := [(0, 1, 6, 0, 0, 0, 0), (1, 1, 6, 1, 0, 0, 0), (2, 3, 72, 8, 14, 0, 0), (5, 1, 6, 0, 0, 0, 0), (6, 1, 6, 2, 0, 0, 0), (7, 3, 74, 8, 14, 0, 0), (10, 1, 0, 2147483649, 0, 0, 0), (11, 3, 80, 9, 15, 0, 0), (14, 1, 0, 2147483648, 0, 0, 0), (15, 1, 85, 0, 0, 1, 0)]
def xg_w114 : List (List Nat) := []
def xg_x114 : List (Nat × Nat × Nat × Nat) := []
def xg_m114 : xv_M := (xg_c114, xg_w114, xg_x114, 3)
def xg_c115 : List xv_I := [(0, 1, 6, 1, 0, 0, 0), (1, 1, 0, 2147483648, 0, 0, 0), (2, 1, 8, 0, 0, 0, 0), (3, 3, 38, 25, 1, 0, 10), (6, 3, 38, 20, 0, 0, 30), (9, 3, 100, 176, 0, 5, 34), (12, 1, 0, 2147483649, 0, 0, 0), (13, 1, 24, 0, 0, 0, 0), (14, 3, 96, 114, 3, 0, 40), (17, 3, 65, 12, 24, 0, 0), (20, 1, 0, 2147483649, 0, 0, 0), (21, 3, 80, 13, 25, 0, 0), (24, 1, 0, 2147483648, 0, 0, 0), (25, 1, 85, 0, 0, 1, 0)]
def xg_w115 : List (List Nat) := []
def xg_x115 : List (Nat × Nat × Nat × Nat) := []
def xg_m115 : xv_M := (xg_c115, xg_w115, xg_x115, 2)
def xg_c116 : List xv_I := [(0, 1, 6, 0, 0, 0, 0), (1, 1, 0, 2147483649, 0, 0, 0), (2, 3, 2, 2147486648, 0, 0, 0), (5, 3, 96, 114, 3, 0, 40), (8, 3, 64, 10, 21, 0, 0), (11, 1, 6, 1, 0, 0, 0), (12, 1, 0, 2147483649, 0, 0, 0), (13, 2, 1, 2147483678, 0, 0, 0), (15, 3, 96, 114, 3, 0, 40), (18, 3, 65, 12, 25, 0, 0), (21, 1, 0, 2147483649, 0, 0, 0), (22, 3, 80, 13, 26, 0, 0), (25, 1, 0, 2147483648, 0, 0, 0), (26, 1, 85, 0, 0, 1, 0)]
def xg_w116 : List (List Nat) := []
def xg_x116 : List (Nat × Nat × Nat × Nat) := []
def xg_m116 : xv_M := (xg_c116, xg_w116, xg_x116, 2)
def xg_c117 : List xv_I := [(0, 1, 6, 1, 0, 0, 0), (1, 1, 0, 2147483648, 0, 0, 0), (2, 1, 8, 0, 0, 0, 0), (3, 3, 38, 25, 1, 0, 10), (6, 3, 38, 20, 2, 0, 47), (9, 3, 100, 176, 0, 5, 34), (12, 1, 0, 2147483649, 0, 0, 0), (13, 1, 24, 0, 0, 0, 0), (14, 3, 96, 114, 3, 0, 40), (17, 3, 65, 12, 24, 0, 0), (20, 1, 0, 2147483649, 0, 0, 0), (21, 3, 80, 13, 25, 0, 0), (24, 1, 200, 0, 0, 0, 0), (25, 1, 85, 0, 0, 1, 0)]
def xg_w117 : List (List Nat) := []
def xg_x117 : List (Nat × Nat × Nat × Nat) := []
def xg_m117 : xv_M := (xg_c117, xg_w117, xg_x117, 2)
def xg_c118 : List xv_I := [(0, 1, 6, 1, 0, 0, 0), (1, 1, 0, 2147483648, 0, 0, 0), (2, 1, 8, 0, 0, 0, 0), (3, 3, 38, 25, 1, 0, 10), (6, 3, 38, 20, 1, 0, 44), (9, 3, 100, 176, 0, 5, 34), (12, 1, 0, 2147483649, 0, 0, 0), (13, 1, 24, 0, 0, 0, 0), (14, 3, 96, 114, 3, 0, 40), (17, 3, 65, 12, 24, 0, 0), (20, 1, 0, 2147483649, 0, 0, 0), (21, 3, 80, 13, 25, 0, 0), (24, 1, 0, 2147483648, 0, 0, 0), (25, 1, 85, 0, 0, 1, 0)]
def xg_w118 : List (List Nat) := []
def xg_x118 : List (Nat × Nat × Nat × Nat) := []
def xg_m118 : xv_M := (xg_c118, xg_w118, xg_x118, 2)
def xg_c119 : List xv_I := [(0, 1, 6, 1, 0, 0, 0), (1, 1, 0, 2147483648, 0, 0, 0), (2, 1, 0, 2147483649, 0, 0, 0), (3, 1, 8, 0, 0, 0, 0), (4, 3, 38, 25, 1, 0, 10), (7, 3, 38, 20, 0, 0, 30), (10, 3, 100, 176, 0, 5, 34), (13, 1, 28, 0, 0, 0, 0), (14, 1, 0, 2147483649, 0, 0, 0), (15, 1, 24, 0, 0, 0, 0), (16, 3, 96, 114, 3, 0, 40), (19, 3, 65, 14, 26, 0, 0), (22, 1, 0, 2147483649, 0, 0, 0), (23, 3, 80, 15, 27, 0, 0), (26, 1, 0, 2147483648, 0, 0, 0), (27, 1, 85, 0, 0, 1, 0)]
def xg_w119 : List (List Nat) := []
def xg_x119 : List (Nat × Nat × Nat × Nat) := []
def xg_m119 : xv_M := (xg_c119, xg_w119, xg_x119, 2)
def xg_c120 : List xv_I := [(0, 1, 8, 0, 0, 0, 0), (1, 1, 6, 1, 0, 0, 0), (2, 1, 0, 2147483648, 0, 0, 0), (3, 1, 8, 0, 0, 0, 0), (4, 3, 100, 121, 0, 25, 256), (7, 1, 0, 2147483649, 0, 0, 0), (8, 1, 24, 0, 0, 0, 0), (9, 3, 96, 114, 3, 0, 40), (12, 3, 65, 11, 19, 0, 0), (15, 1, 0, 2147483649, 0, 0, 0), (16, 3, 80, 12, 20, 0, 0), (19, 1, 200, 0, 0, 0, 0), (20, 1, 0, 2147483649, 0, 0, 0), (21, 3, 100, 141, 2, 25, 71), (24, 1, 85, 0, 0, 1, 0)]
def xg_w120 : List (List Nat) := []
def xg_x120 : List (Nat × Nat × Nat × Nat) := []
def xg_m120 : xv_M := (xg_c120, xg_w120, xg_x120, 2)
def xg_c121 : List xv_I := [(0, 1, 8, 0, 0, 0, 0), (1, 3, 38, 25, 5, 0, 124), (4, 3, 79, 5, 11, 0, 0), (7, 1, 0, 2147483648, 0, 0, 0), (8, 3, 80, 11, 26, 0, 0), (11, 2, 200, 0, 0, 0, 0), (13, 1, 200, 0, 0, 0, 0), (14, 3, 200, 0, 0, 0, 0), (17, 3, 200, 0, 0, 0, 0), (20, 3, 200, 0, 0, 0, 0), (23, 3, 200, 0, 0, 0, 0), (26, 1, 85, 0, 0, 0, 0)]
def xg_w121 : List (List Nat) := []
def xg_x121 : List (Nat × Nat × Nat × Nat) := []
def xg_m121 : xv_M := (xg_c121, xg_w121, xg_x121, 1)
def xg_c122 : List xv_I := [(0, 1, 8, 0, 0, 0, 0), (1, 3, 38, 25, 5, 0, 124), (4, 3, 79, 5, 11, 0, 0), (7, 1, 0, 2147483648, 0, 0, 0), (8, 3, 80, 11, 26, 0, 0), (11, 2, 200, 0, 0, 0, 0), (13, 1, 200, 0, 0, 0, 0), (14, 3, 200, 0, 0, 0, 0), (17, 3, 200, 0, 0, 0, 0), (20, 3, 200, 0, 0, 0, 0), (23, 3, 200, 0, 0, 0, 0), (26, 1, 85, 0, 0, 0, 0)]
def xg_w122 : List (List Nat) := []
def xg_x122 : List (Nat × Nat × Nat × Nat) := []
def xg_m122 : xv_M := (xg_c122, xg_w122, xg_x122, 1)
def xg_c123 : List xv_I := [(0, 1, 8, 0, 0, 0, 0), (1, 1, 8, 0, 0, 0, 0), (2, 1, 6, 1, 0, 0, 0), (3, 3, 100, 115, 1, 25, 67), (6, 1, 0, 2147483649, 0, 0, 0), (7, 3, 100, 141, 2, 25, 71), (10, 3, 65, 20, 41, 0, 0), (13, 1, 8, 0, 0, 0, 0), (14, 1, 8, 0, 0, 0, 0), (15, 3, 38, 25, 1, 0, 10), (18, 3, 38, 20, 0, 0, 30), (21, 3, 100, 176, 0, 5, 34), (24, 2, 1, 2147483661, 0, 0, 0), (26, 3, 71, 16, 33, 0, 0), (29, 1, 200, 0, 0, 0, 0), (30, 3, 200, 0, 0, 0, 0), (33, 1, 0, 2147483648, 0, 0, 0), (34, 1, 0, 2147483650, 0, 0, 0), (35, 3, 100, 138, 2, 25, 26), (38, 3, 64, 22, 43, 0, 0), (41, 1, 0, 2147483648, 0, 0, 0), (42, 1, 85, 0, 0, 0, 0), (43, 1, 8, 0, 0, 0, 0), (44, 3, 38, 25, 1, 0, 10), (47, 3, 38, 20, 0, 0, 30), (50, 3, 56, 17, 0, 0, 74), (53, 1, 34, 0, 0, 0, 0), (54, 1, 6, 1, 0, 0, 0), (55, 1, 6, 2, 0, 0, 0), (56, 3, 98, 147, 2, 17, 76), (59, 3, 100, 168, 1, 5, 79), (62, 1, 37, 0, 0, 0, 0), (63, 1, 8, 0, 0, 0, 0), (64, 3, 38, 25, 1, 0, 10), (67, 3, 38, 20, 0, 0, 30), (70, 3, 100, 176, 0, 5, 34), (73, 1, 0, 2147483649, 0, 0, 0), (74, 1, 24, 0, 0, 0, 0), (75, 1, 85, 0, 0, 0, 0)]
def xg_w123 : List (List Nat) := []
def xg_x123 : List (Nat × Nat × Nat × Nat) := []
def xg_m123 : xv_M := (xg_c123, xg_w123, xg_x123, 3)
def xg_c124 : List xv_I := [(0, 1, 8, 0, 0, 0, 0), (1, 1, 6, 1, 0, 0, 0), (2, 1, 6, 2, 0, 0, 0), (3, 3, 96, 116, 2, 0, 227), (6, 1, 0, 2147483649, 0, 0, 0), (7, 3, 100, 141, 2, 25, 71), (10, 3, 64, 9, 15, 0, 0), (13, 1, 0, 2147483648, 0, 0, 0), (14, 1, 85, 0, 0, 0, 0), (15, 1, 8, 0, 0, 0, 0), (16, 3, 38, 25, 3, 0, 16), (19, 1, 14, 3, 0, 0, 0), (20, 1, 8, 0, 0, 0, 0), (21, 1, 6, 1, 0, 0, 0), (22, 3, 40, 25, 3, 0, 16), (25, 1, 8, 0, 0, 0, 0), (26, 1, 6, 2, 0, 0, 0), (27, 3, 40, 25, 4, 0, 20), (30, 1, 6, 3, 0, 0, 0), (31, 1, 85, 0, 0, 0, 0)]
def xg_w124 : List (List Nat) := []
def xg_x124 : List (Nat × Nat × Nat × Nat) := []
def xg_m124 : xv_M := (xg_c124, xg_w124, xg_x124, 4)
def xg_c125 : List xv_I := [(0, 1, 8, 0, 0, 0, 0), (1, 1, 6, 1, 0, 0, 0), (2, 1, 0, 2147483648, 0, 0, 0), (3, 2, 1, 2147483657, 0, 0, 0), (5, 3, 96, 114, 3, 0, 40), (8, 3, 65, 8, 15, 0, 0), (11, 1, 0, 2147483649, 0, 0, 0), (12, 3, 80, 9, 16, 0, 0), (15, 1, 0, 2147483648, 0, 0, 0), (16, 1, 0, 2147483649, 0, 0, 0), (17, 3, 100, 141, 2, 25, 71), (20, 3, 64, 14, 27, 0, 0), (23, 1, 0, 2147483648, 0, 0, 0), (24, 3, 80, 20, 39, 0, 0), (27, 1, 8, 0, 0, 0, 0), (28, 1, 6, 1, 0, 0, 0), (29, 1, 8, 0, 0, 0, 0), (30, 3, 38, 25, 1, 0, 10), (33, 3, 100, 154, 0, 20, 50), (36, 3, 100, 106, 2, 25, 286), (39, 1, 85, 0, 0, 0, 0)]
def xg_w125 : List (List Nat) := []
def xg_x125 : List (Nat × Nat × Nat × Nat) := []
def xg_m125 : xv_M := (xg_c125, xg_w125, xg_x125, 2)
def xg_c126 : List xv_I := [(0, 1, 8, 0, 0, 0, 0), (1, 1, 0, 2147483648, 0, 0, 0), (2, 3, 40, 25, 0, 0, 23), (5, 1, 8, 0, 0, 0, 0), (6, 3, 38, 25, 5, 0, 124), (9, 3, 78, 11, 25, 0, 0), (12, 1, 200, 0, 0, 0, 0), (13, 3, 200, 0, 0, 0, 0), (16, 3, 200, 0, 0, 0, 0), (19, 3, 200, 0, 0, 0, 0), (22, 3, 200, 0, 0, 0, 0), (25, 1, 4, 0, 0, 0, 0), (26, 1, 88, 0, 0, 0, 0), (27, 1, 200, 0, 0, 0, 0), (28, 1, 200, 0, 0, 0, 0), (29, 1, 200, 0, 0, 0, 0), (30, 3, 200, 0, 0, 0, 0), (33, 3, 200, 0, 0, 0, 0), (36, 3, 200, 0, 0, 0, 0), (39, 1, 200, 0, 0, 0, 0), (40, 1, 200, 0, 0, 0, 0), (41, 5, 200, 0, 0, 0, 0), (46, 3, 200, 0, 0, 0, 0), (49, 1, 200, 0, 0, 0, 0), (50, 5, 200, 0, 0, 0, 0), (55, 3, 200, 0, 0, 0, 0), (58, 2, 200, 0, 0, 0, 0), (60, 1, 200, 0, 0, 0, 0), (61, 2, 200, 0, 0, 0, 0), (63, 1, 200, 0, 0, 0, 0), (64, 1, 200, 0, 0, 0, 0), (65, 1, 200, 0, 0, 0, 0), (66, 1, 200, 0, 0, 0, 0), (67, 1, 200, 0, 0, 0, 0), (68, 3, 200, 0, 0, 0, 0), (71, 1, 200, 0, 0, 0, 0), (72, 1, 200, 0, 0, 0, 0), (73, 1, 200, 0, 0, 0, 0), (74, 3, 200, 0, 0, 0, 0), (77, 3, 200, 0, 0, 0, 0), (80, 3, 200, 0, 0, 0, 0), (83, 1, 200, 0, 0, 0, 0), (84, 1, 200, 0, 0, 0, 0), (85, 1, 200, 0, 0, 0, 0)]
def xg_w126 : List (List Nat) := []
def xg_x126 : List (Nat × Nat × Nat × Nat) := []
def xg_m126 : xv_M := (xg_c126, xg_w126, xg_x126, 5)
def xg_c127 : List xv_I := [(0, 1, 8, 0, 0, 0, 0), (1, 1, 8, 0, 0, 0, 0), (2, 3, 38, 25, 1, 0, 10), (5, 1, 6, 1, 0, 0, 0), (6, 1, 6, 2, 0, 0, 0), (7, 1, 6, 3, 0, 0, 0), (8, 2, 7, 4, 0, 0, 0), (10, 3, 100, 158, 4, 20, 183), (13, 3, 65, 11, 20, 0, 0), (16, 1, 0, 2147483649, 0, 0, 0), (17, 3, 80, 12, 21, 0, 0), (20, 1, 0, 2147483648, 0, 0, 0), (21, 1, 0, 2147483649, 0, 0, 0), (22, 3, 100, 141, 2, 25, 71), (25, 3, 65, 28, 56, 0, 0), (28, 1, 8, 0, 0, 0, 0), (29, 1, 8, 0, 0, 0, 0), (30, 3, 38, 25, 1, 0, 10), (33, 3, 38, 20, 2, 0, 47), (36, 3, 100, 176, 0, 5, 34), (39, 2, 1, 2147483738, 0, 0, 0), (41, 3, 71, 24, 48, 0, 0), (44, 1, 200, 0, 0, 0, 0), (45, 3, 200, 0, 0, 0, 0), (48, 1, 0, 2147483648, 0, 0, 0), (49, 1, 0, 2147483650, 0, 0, 0), (50, 3, 100, 138, 2, 25, 26), (53, 3, 64, 30, 58, 0, 0), (56, 1, 0, 2147483648, 0, 0, 0), (57, 1, 85, 0, 0, 0, 0), (58, 3, 56, 18, 0, 0, 110), (61, 1, 34, 0, 0, 0, 0), (62, 1, 8, 0, 0, 0, 0), (63, 3, 38, 25, 1, 0, 10), (66, 3, 38, 20, 2, 0, 47), (69, 3, 100, 176, 0, 5, 34), (72, 1, 6, 1, 0, 0, 0), (73, 1, 6, 2, 0, 0, 0), (74, 1, 6, 3, 0, 0, 0), (75, 2, 7, 4, 0, 0, 0), (77, 3, 98, 148, 5, 18, 187), (80, 2, 17, 5, 0, 0, 0), (82, 1, 8, 0, 0, 0, 0), (83, 3, 38, 25, 1, 0, 10), (86, 3, 38, 20, 2, 0, 47), (89, 2, 9, 5, 0, 0, 0), (91, 3, 100, 168, 1, 5, 79), (94, 1, 37, 0, 0, 0, 0), (95, 2, 9, 5, 0, 0, 0), (97, 3, 100, 149, 0, 18, 190), (100, 3, 100, 175, 0, 5, 97), (103, 2, 17, 6, 0, 0, 0), (105, 2, 9, 6, 0, 0, 0), (107, 5, 101, 179, 0, 3, 101), (112, 3, 64, 68, 150, 0, 0), (115, 2, 200, 0, 0, 0, 0), (117, 5, 200, 0, 0, 0, 0), (122, 3, 200, 0, 0, 0, 0), (125, 3, 200, 0, 0, 0, 0), (128, 2, 200, 0, 0, 0, 0), (130, 1, 200, 0, 0, 0, 0), (131, 3, 200, 0, 0, 0, 0), (134, 2, 200, 0, 0, 0, 0), (136, 3, 200, 0, 0, 0, 0), (139, 2, 200, 0, 0, 0, 0), (141, 3, 200, 0, 0, 0, 0), (144, 3, 200, 0, 0, 0, 0), (147, 3, 200, 0, 0, 0, 0), (150, 2, 9, 5, 0, 0, 0), (152, 3, 38, 18, 0, 0, 118), (155, 1, 85, 0, 0, 0, 0)]
def xg_w127 : List (List Nat) := []
def xg_x127 : List (Nat × Nat × Nat × Nat) := []
def xg_m127 : xv_M := (xg_c127, xg_w127, xg_x127, 8)
def xg_c128 : List xv_I := [(0, 1, 8, 0, 0, 0, 0), (1, 1, 8, 0, 0, 0, 0), (2, 1, 6, 1, 0, 0, 0), (3, 3, 100, 115, 1, 25, 67), (6, 1, 0, 2147483649, 0, 0, 0), (7, 3, 100, 141, 2, 25, 71), (10, 3, 65, 19, 35, 0, 0), (13, 1, 8, 0, 0, 0, 0), (14, 1, 6, 2, 0, 0, 0), (15, 1, 0, 2147483648, 0, 0, 0), (16, 1, 0, 2147483652, 0, 0, 0), (17, 3, 96, 114, 3, 0, 40), (20, 3, 65, 15, 27, 0, 0), (23, 1, 0, 2147483649, 0, 0, 0), (24, 3, 80, 16, 28, 0, 0), (27, 1, 0, 2147483648, 0, 0, 0), (28, 1, 0, 2147483650, 0, 0, 0), (29, 3, 100, 138, 2, 25, 26), (32, 3, 64, 21, 39, 0, 0), (35, 1, 0, 2147483648, 0, 0, 0), (36, 3, 80, 25, 45, 0, 0), (39, 1, 8, 0, 0, 0, 0), (40, 1, 6, 1, 0, 0, 0), (41, 1, 6, 2, 0, 0, 0), (42, 3, 100, 129, 2, 25, 138), (45, 1, 85, 0, 0, 0, 0)]
def xg_w128 : List (List Nat) := []
def xg_x128 : List (Nat × Nat × Nat × Nat) := []
def xg_m128 : xv_M := (xg_c128, xg_w128, xg_x128, 3)
def xg_c129 : List xv_I := [(0, 1, 6, 2, 0, 0, 0), (1, 3, 65, 10, 22, 0, 0), (4, 1, 8, 0, 0, 0, 0), (5, 3, 38, 25, 1, 0, 10), (8, 3, 38, 20, 0, 0, 30), (11, 1, 6, 1, 0, 0, 0), (12, 3, 100, 171, 1, 5, 83), (15, 3, 49, 0, 17, 0, 74), (18, 3, 38, 17, 0, 0, 87), (21, 1, 85, 0, 0, 0, 0), (22, 1, 6, 2, 0, 0, 0), (23, 1, 0, 2147483649, 0, 0, 0), (24, 3, 71, 22, 44, 0, 0), (27, 1, 8, 0, 0, 0, 0), (28, 3, 38, 25, 1, 0, 10), (31, 1, 6, 1, 0, 0, 0), (32, 3, 100, 156, 1, 20, 90), (35, 3, 64, 20, 42, 0, 0), (38, 1, 200, 0, 0, 0, 0), (39, 3, 200, 0, 0, 0, 0), (42, 1, 0, 2147483648, 0, 0, 0), (43, 1, 85, 0, 0, 0, 0), (44, 1, 6, 2, 0, 0, 0), (45, 1, 0, 2147483650, 0, 0, 0), (46, 3, 71, 30, 58, 0, 0), (49, 1, 8, 0, 0, 0, 0), (50, 3, 38, 25, 1, 0, 10), (53, 1, 6, 1, 0, 0, 0), (54, 3, 100, 152, 1, 20, 93), (57, 1, 85, 0, 0, 0, 0), (58, 1, 0, 2147483648, 0, 0, 0), (59, 1, 14, 3, 0, 0, 0), (60, 1, 6, 2, 0, 0, 0), (61, 1, 0, 2147483651, 0, 0, 0), (62, 3, 71, 71, 147, 0, 0), (65, 1, 8, 0, 0, 0, 0), (66, 3, 38, 25, 1, 0, 10), (69, 3, 38, 20, 2, 0, 47), (72, 3, 100, 175, 0, 5, 97), (75, 2, 17, 4, 0, 0, 0), (77, 2, 9, 4, 0, 0, 0), (79, 5, 101, 179, 0, 3, 101), (84, 3, 64, 69, 145, 0, 0), (87, 2, 200, 0, 0, 0, 0), (89, 5, 200, 0, 0, 0, 0), (94, 3, 200, 0, 0, 0, 0), (97, 2, 200, 0, 0, 0, 0), (99, 1, 200, 0, 0, 0, 0), (100, 2, 200, 0, 0, 0, 0), (102, 3, 200, 0, 0, 0, 0), (105, 2, 200, 0, 0, 0, 0), (107, 3, 200, 0, 0, 0, 0), (110, 2, 200, 0, 0, 0, 0), (112, 3, 200, 0, 0, 0, 0), (115, 1, 200, 0, 0, 0, 0), (116, 3, 200, 0, 0, 0, 0), (119, 1, 200, 0, 0, 0, 0), (120, 3, 200, 0, 0, 0, 0), (123, 2, 200, 0, 0, 0, 0), (125, 3, 200, 0, 0, 0, 0), (128, 3, 200, 0, 0, 0, 0), (131, 1, 200, 0, 0, 0, 0), (132, 3, 200, 0, 0, 0, 0), (135, 1, 200, 0, 0, 0, 0), (136, 3, 200, 0, 0, 0, 0), (139, 1, 200, 0, 0, 0, 0), (140, 1, 200, 0, 0, 0, 0), (141, 1, 200, 0, 0, 0, 0), (142, 3, 200, 0, 0, 0, 0), (145, 1, 6, 3, 0, 0, 0), (146, 1, 85, 0, 0, 0, 0), (147, 1, 8, 0, 0, 0, 0), (148, 3, 38, 25, 5, 0, 124), (151, 3, 78, 97, 208, 0, 0), (154, 1, 200, 0, 0, 0, 0), (155, 3, 200, 0, 0, 0, 0), (158, 3, 200, 0, 0, 0, 0), (161, 3, 200, 0, 0, 0, 0), (164, 2, 200, 0, 0, 0, 0), (166, 2, 200, 0, 0, 0, 0), (168, 5, 200, 0, 0, 0, 0), (173, 3, 200, 0, 0, 0, 0), (176, 2, 200, 0, 0, 0, 0), (178, 5, 200, 0, 0, 0, 0), (183, 3, 200, 0, 0, 0, 0), (186, 2, 200, 0, 0, 0, 0), (188, 1, 200, 0, 0, 0, 0), (189, 2, 200, 0, 0, 0, 0), (191, 3, 200, 0, 0, 0, 0), (194, 1, 200, 0, 0, 0, 0), (195, 3, 200, 0, 0, 0, 0), (198, 1, 200, 0, 0, 0, 0), (199, 3, 200, 0, 0, 0, 0), (202, 1, 200, 0, 0, 0, 0), (203, 1, 200, 0, 0, 0, 0), (204, 1, 200, 0, 0, 0, 0), (205, 3, 200, 0, 0, 0, 0), (208, 1, 6, 3, 0, 0, 0), (209, 1, 85, 0, 0, 0, 0)]
def xg_w129 : List (List Nat) := []
def xg_x129 : List (Nat × Nat × Nat × Nat) := []
def xg_m129 : xv_M := (xg_c129, xg_w129, xg_x129, 6)
def xg_c130 : List xv_I := [(0, 1, 8, 0, 0, 0, 0), (1, 1, 8, 0, 0, 0, 0), (2, 1, 6, 1, 0, 0, 0), (3, 3, 100, 117, 1, 25, 205), (6, 1, 0, 2147483649, 0, 0, 0), (7, 3, 100, 141, 2, 25, 71), (10, 3, 65, 19, 36, 0, 0), (13, 1, 200, 0, 0, 0, 0), (14, 1, 200, 0, 0, 0, 0), (15, 1, 200, 0, 0, 0, 0), (16, 2, 200, 0, 0, 0, 0), (18, 3, 200, 0, 0, 0, 0), (21, 3, 200, 0, 0, 0, 0), (24, 1, 200, 0, 0, 0, 0), (25, 3, 200, 0, 0, 0, 0), (28, 1, 200, 0, 0, 0, 0), (29, 1, 200, 0, 0, 0, 0), (30, 3, 200, 0, 0, 0, 0), (33, 3, 200, 0, 0, 0, 0), (36, 1, 0, 2147483648, 0, 0, 0), (37, 3, 80, 25, 46, 0, 0), (40, 1, 200, 0, 0, 0, 0), (41, 1, 200, 0, 0, 0, 0), (42, 1, 200, 0, 0, 0, 0), (43, 3, 200, 0, 0, 0, 0), (46, 1, 85, 0, 0, 0, 0)]
def xg_w130 : List (List Nat) := []
def xg_x130 : List (Nat × Nat × Nat × Nat) := []
def xg_m130 : xv_M := (xg_c130, xg_w130, xg_x130, 3)
def xg_c131 : List xv_I := [(0, 1, 8, 0, 0, 0, 0), (1, 1, 8, 0, 0, 0, 0), (2, 1, 6, 1, 0, 0, 0), (3, 3, 100, 118, 1, 25, 150), (6, 1, 0, 2147483649, 0, 0, 0), (7, 3, 100, 141, 2, 25, 71), (10, 3, 65, 19, 35, 0, 0), (13, 1, 8, 0, 0, 0, 0), (14, 1, 6, 2, 0, 0, 0), (15, 1, 0, 2147483648, 0, 0, 0), (16, 1, 0, 2147483653, 0, 0, 0), (17, 3, 96, 114, 3, 0, 40), (20, 3, 65, 15, 27, 0, 0), (23, 1, 0, 2147483649, 0, 0, 0), (24, 3, 80, 16, 28, 0, 0), (27, 1, 0, 2147483648, 0, 0, 0), (28, 1, 0, 2147483650, 0, 0, 0), (29, 3, 100, 138, 2, 25, 26), (32, 3, 64, 21, 39, 0, 0), (35, 1, 0, 2147483648, 0, 0, 0), (36, 3, 80, 27, 49, 0, 0), (39, 1, 8, 0, 0, 0, 0), (40, 1, 6, 1, 0, 0, 0), (41, 1, 6, 2, 0, 0, 0), (42, 1, 8, 0, 0, 0, 0), (43, 3, 100, 113, 0, 25, 176), (46, 3, 100, 132, 3, 25, 179), (49, 1, 85, 0, 0, 0, 0)]
def xg_w131 : List (List Nat) := []
def xg_x131 : List (Nat × Nat × Nat × Nat) := []
def xg_m131 : xv_M := (xg_c131, xg_w131, xg_x131, 3)
def xg_c132 : List xv_I := [(0, 1, 8, 0, 0, 0, 0), (1, 3, 38, 25, 1, 0, 10), (4, 3, 38, 20, 1, 0, 44), (7, 1, 6, 1, 0, 0, 0), (8, 3, 100, 171, 1, 5, 83), (11, 3, 49, 0, 19, 0, 145), (14, 2, 17, 4, 0, 0, 0), (16, 1, 6, 2, 0, 0, 0), (17, 35, 81, 0, 0, 0, 0), (52, 2, 9, 4, 0, 0, 0), (54, 3, 38, 19, 0, 0, 153), (57, 1, 85, 0, 0, 0, 0), (58, 2, 9, 4, 0, 0, 0), (60, 3, 38, 19, 1, 0, 156), (63, 1, 85, 0, 0, 0, 0), (64, 1, 8, 0, 0, 0, 0), (65, 3, 38, 25, 1, 0, 10), (68, 2, 9, 4, 0, 0, 0), (70, 3, 38, 19, 1, 0, 156), (73, 3, 100, 153, 1, 20, 159), (76, 1, 85, 0, 0, 0, 0), (77, 1, 6, 3, 0, 0, 0), (78, 3, 64, 25, 85, 0, 0), (81, 1, 0, 2147483648, 0, 0, 0), (82, 3, 80, 30, 96, 0, 0), (85, 1, 200, 0, 0, 0, 0), (86, 1, 200, 0, 0, 0, 0), (87, 3, 200, 0, 0, 0, 0), (90, 3, 200, 0, 0, 0, 0), (93, 3, 200, 0, 0, 0, 0), (96, 1, 85, 0, 0, 0, 0), (97, 1, 6, 3, 0, 0, 0), (98, 3, 64, 35, 105, 0, 0), (101, 1, 0, 2147483648, 0, 0, 0), (102, 3, 80, 40, 116, 0, 0), (105, 1, 200, 0, 0, 0, 0), (106, 1, 200, 0, 0, 0, 0), (107, 3, 200, 0, 0, 0, 0), (110, 3, 200, 0, 0, 0, 0), (113, 3, 200, 0, 0, 0, 0), (116, 1, 85, 0, 0, 0, 0), (117, 1, 8, 0, 0, 0, 0), (118, 3, 38, 25, 5, 0, 124), (121, 3, 79, 46, 128, 0, 0), (124, 1, 0, 2147483648, 0, 0, 0), (125, 3, 80, 51, 137, 0, 0), (128, 1, 200, 0, 0, 0, 0), (129, 3, 200, 0, 0, 0, 0), (132, 3, 200, 0, 0, 0, 0), (135, 1, 200, 0, 0, 0, 0), (136, 1, 200, 0, 0, 0, 0), (137, 1, 85, 0, 0, 0, 0)]
def xg_w132 : List (List Nat) := [[2147483648, 41, 9, 12, 15, 21, 31]]
def xg_x132 : List (Nat × Nat × Nat × Nat) := []
def xg_m132 : xv_M := (xg_c132, xg_w132, xg_x132, 5)
def xg_c133 : List xv_I := [(0, 1, 8, 0, 0, 0, 0), (1, 1, 6, 1, 0, 0, 0), (2, 1, 0, 2147483648, 0, 0, 0), (3, 2, 1, 2147483657, 0, 0, 0), (5, 3, 96, 114, 3, 0, 40), (8, 3, 65, 8, 15, 0, 0), (11, 1, 0, 2147483649, 0, 0, 0), (12, 3, 80, 9, 16, 0, 0), (15, 1, 0, 2147483648, 0, 0, 0), (16, 1, 0, 2147483649, 0, 0, 0), (17, 3, 100, 141, 2, 25, 71), (20, 3, 64, 14, 27, 0, 0), (23, 1, 0, 2147483648, 0, 0, 0), (24, 3, 80, 17, 32, 0, 0), (27, 1, 8, 0, 0, 0, 0), (28, 1, 6, 1, 0, 0, 0), (29, 3, 100, 134, 1, 25, 242), (32, 1, 85, 0, 0, 0, 0)]
def xg_w133 : List (List Nat) := []
def xg_x133 : List (Nat × Nat × Nat × Nat) := []
def xg_m133 : xv_M := (xg_c133, xg_w133, xg_x133, 2)
def xg_c134 : List xv_I := [(0, 1, 6, 1, 0, 0, 0), (1, 2, 1, 2147483657, 0, 0, 0), (3, 3, 71, 6, 13, 0, 0), (6, 1, 8, 0, 0, 0, 0), (7, 3, 38, 25, 6, 0, 234), (10, 3, 80, 15, 32, 0, 0), (13, 1, 8, 0, 0, 0, 0), (14, 3, 38, 25, 5, 0, 124), (17, 3, 79, 11, 24, 0, 0), (20, 1, 0, 2147483648, 0, 0, 0), (21, 3, 80, 15, 32, 0, 0), (24, 1, 200, 0, 0, 0, 0), (25, 3, 200, 0, 0, 0, 0), (28, 1, 200, 0, 0, 0, 0), (29, 3, 200, 0, 0, 0, 0), (32, 1, 85, 0, 0, 0, 0)]
def xg_w134 : List (List Nat) := []
def xg_x134 : List (Nat × Nat × Nat × Nat) := []
def xg_m134 : xv_M := (xg_c134, xg_w134, xg_x134, 2)
def xg_c135 : List xv_I := [(0, 1, 8, 0, 0, 0, 0), (1, 1, 6, 1, 0, 0, 0), (2, 1, 0, 2147483648, 0, 0, 0), (3, 1, 8, 0, 0, 0, 0), (4, 3, 100, 122, 0, 25, 253), (7, 1, 0, 2147483649, 0, 0, 0), (8, 1, 24, 0, 0, 0, 0), (9, 3, 96, 114, 3, 0, 40), (12, 3, 65, 11, 19, 0, 0), (15, 1, 0, 2147483649, 0, 0, 0), (16, 3, 80, 12, 20, 0, 0), (19, 1, 200, 0, 0, 0, 0), (20, 1, 0, 2147483649, 0, 0, 0), (21, 3, 100, 141, 2, 25, 71), (24, 3, 65, 27, 49, 0, 0), (27, 1, 200, 0, 0, 0, 0), (28, 1, 200, 0, 0, 0, 0), (29, 1, 200, 0, 0, 0, 0), (30, 1, 200, 0, 0, 0, 0), (31, 3, 200, 0, 0, 0, 0), (34, 3, 200, 0, 0, 0, 0), (37, 1, 200, 0, 0, 0, 0), (38, 3, 200, 0, 0, 0, 0), (41, 1, 200, 0, 0, 0, 0), (42, 1, 200, 0, 0, 0, 0), (43, 3, 200, 0, 0, 0, 0), (46, 3, 200, 0, 0, 0, 0), (49, 1, 0, 2147483648, 0, 0, 0), (50, 3, 80, 37, 69, 0, 0), (53, 1, 200, 0, 0, 0, 0), (54, 3, 200, 0, 0, 0, 0), (57, 3, 200, 0, 0, 0, 0), (60, 1, 200, 0, 0, 0, 0), (61, 3, 200, 0, 0, 0, 0), (64, 3, 200, 0, 0, 0, 0), (67, 1, 200, 0, 0, 0, 0), (68, 1, 200, 0, 0, 0, 0), (69, 1, 85, 0, 0, 0, 0)]
def xg_w135 : List (List Nat) := []
def xg_x135 : List (Nat × Nat × Nat × Nat) := []
def xg_m135 : xv_M := (xg_c135, xg_w135, xg_x135, 3)
def xg_c136 : List xv_I := [(0, 1, 8, 0, 0, 0, 0), (1, 1, 8, 0, 0, 0, 0), (2, 1, 6, 1, 0, 0, 0), (3, 3, 100, 119, 1, 25, 142), (6, 1, 0, 2147483649, 0, 0, 0), (7, 3, 100, 141, 2, 25, 71), (10, 3, 65, 20, 41, 0, 0), (13, 1, 8, 0, 0, 0, 0), (14, 1, 8, 0, 0, 0, 0), (15, 3, 38, 25, 1, 0, 10), (18, 3, 38, 20, 1, 0, 44), (21, 3, 100, 176, 0, 5, 34), (24, 2, 1, 2147483656, 0, 0, 0), (26, 3, 71, 16, 33, 0, 0), (29, 1, 200, 0, 0, 0, 0), (30, 3, 200, 0, 0, 0, 0), (33, 1, 0, 2147483648, 0, 0, 0), (34, 1, 0, 2147483650, 0, 0, 0), (35, 3, 100, 138, 2, 25, 26), (38, 3, 64, 22, 43, 0, 0), (41, 1, 0, 2147483648, 0, 0, 0), (42, 1, 85, 0, 0, 0, 0), (43, 1, 8, 0, 0, 0, 0), (44, 3, 38, 25, 1, 0, 10), (47, 3, 38, 20, 1, 0, 44), (50, 3, 56, 19, 0, 0, 145), (53, 1, 34, 0, 0, 0, 0), (54, 1, 6, 1, 0, 0, 0), (55, 3, 98, 150, 1, 19, 147), (58, 3, 100, 168, 1, 5, 79), (61, 1, 37, 0, 0, 0, 0), (62, 1, 8, 0, 0, 0, 0), (63, 3, 38, 25, 1, 0, 10), (66, 3, 38, 20, 1, 0, 44), (69, 3, 100, 176, 0, 5, 34), (72, 1, 0, 2147483649, 0, 0, 0), (73, 1, 24, 0, 0, 0, 0), (74, 1, 85, 0, 0, 0, 0)]
def xg_w136 : List (List Nat) := []
def xg_x136 : List (Nat × Nat × Nat × Nat) := []
def xg_m136 : xv_M := (xg_c136, xg_w136, xg_x136, 2)
def xg_c137 : List xv_I := [(0, 1, 8, 0, 0, 0, 0), (1, 1, 0, 2147483648, 0, 0, 0), (2, 3, 40, 25, 0, 0, 23), (5, 1, 8, 0, 0, 0, 0), (6, 3, 38, 25, 2, 0, 60), (9, 1, 14, 2, 0, 0, 0), (10, 1, 8, 0, 0, 0, 0), (11, 1, 6, 1, 0, 0, 0), (12, 3, 40, 25, 2, 1, 60), (15, 1, 6, 2, 0, 0, 0), (16, 1, 85, 0, 0, 1, 0)]
def xg_w137 : List (List Nat) := []
def xg_x137 : List (Nat × Nat × Nat × Nat) := []
def xg_m137 : xv_M := (xg_c137, xg_w137, xg_x137, 3)
def xg_c138 : List xv_I := [(0, 1, 6, 1, 0, 0, 0), (1, 3, 64, 8, 16, 0, 0), (4, 1, 8, 0, 0, 0, 0), (5, 3, 38, 25, 0, 0, 23), (8, 3, 65, 8, 16, 0, 0), (11, 1, 8, 0, 0, 0, 0), (12, 1, 6, 2, 0, 0, 0), (13, 3, 40, 25, 0, 0, 23), (16, 1, 8, 0, 0, 0, 0), (17, 3, 38, 25, 0, 0, 23), (20, 3, 69, 13, 27, 0, 0), (23, 1, 0, 2147483649, 0, 0, 0), (24, 3, 80, 14, 28, 0, 0), (27, 1, 0, 2147483648, 0, 0, 0), (28, 1, 85, 0, 0, 1, 0)]
def xg_w138 : List (List Nat) := []
def xg_x138 : List (Nat × Nat × Nat × Nat) := []
def xg_m138 : xv_M := (xg_c138, xg_w138, xg_x138, 3)
def xg_c139 : List xv_I := [(0, 1, 8, 0, 0, 0, 0), (1, 1, 8, 0, 0, 0, 0), (2, 1, 6, 1, 0, 0, 0), (3, 3, 100, 118, 1, 25, 150), (6, 3, 65, 8, 16, 0, 0), (9, 1, 8, 0, 0, 0, 0), (10, 3, 100, 113, 0, 25, 176), (13, 3, 64, 10, 20, 0, 0), (16, 1, 0, 2147483649, 0, 0, 0), (17, 3, 80, 11, 21, 0, 0), (20, 1, 200, 0, 0, 0, 0), (21, 1, 0, 2147483649, 0, 0, 0), (22, 3, 100, 141, 2, 25, 71), (25, 3, 64, 16, 30, 0, 0), (28, 1, 0, 2147483648, 0, 0, 0), (29, 1, 85, 0, 0, 0, 0), (30, 1, 200, 0, 0, 0, 0), (31, 1, 200, 0, 0, 0, 0), (32, 3, 200, 0, 0, 0, 0), (35, 3, 200, 0, 0, 0, 0), (38, 2, 200, 0, 0, 0, 0), (40, 1, 200, 0, 0, 0, 0), (41, 1, 200, 0, 0, 0, 0), (42, 1, 200, 0, 0, 0, 0), (43, 2, 200, 0, 0, 0, 0), (45, 3, 200, 0, 0, 0, 0), (48, 1, 200, 0, 0, 0, 0), (49, 1, 200, 0, 0, 0, 0), (50, 3, 200, 0, 0, 0, 0), (53, 3, 200, 0, 0, 0, 0), (56, 1, 200, 0, 0, 0, 0), (57, 3, 200, 0, 0, 0, 0), (60, 1, 200, 0, 0, 0, 0), (61, 1, 200, 0, 0, 0, 0), (62, 3, 200, 0, 0, 0, 0), (65, 3, 200, 0, 0, 0, 0), (68, 1, 200, 0, 0, 0, 0), (69, 1, 200, 0, 0, 0, 0), (70, 1, 200, 0, 0, 0, 0), (71, 1, 200, 0, 0, 0, 0), (72, 3, 200, 0, 0, 0, 0), (75, 3, 200, 0, 0, 0, 0), (78, 1, 200, 0, 0, 0, 0), (79, 3, 200, 0, 0, 0, 0), (82, 1, 200, 0, 0, 0, 0), (83, 1, 200, 0, 0, 0, 0), (84, 3, 200, 0, 0, 0, 0), (87, 3, 200, 0, 0, 0, 0), (90, 1, 200, 0, 0, 0, 0), (91, 3, 200, 0, 0, 0, 0), (94, 2, 200, 0, 0, 0, 0), (96, 1, 200, 0, 0, 0, 0), (97, 3, 200, 0, 0, 0, 0), (100, 3, 200, 0, 0, 0, 0), (103, 1, 200, 0, 0, 0, 0), (104, 1, 200, 0, 0, 0, 0), (105, 1, 200, 0, 0, 0, 0)]
def xg_w139 : List (List Nat) := []
def xg_x139 : List (Nat × Nat × Nat × Nat) := []
def xg_m139 : xv_M := (xg_c139, xg_w139, xg_x139, 5)
def xg_c140 : List xv_I := [(0, 1, 8, 0, 0, 0, 0), (1, 1, 8, 0, 0, 0, 0), (2, 3, 100, 113, 0, 25, 176), (5, 1, 0, 2147483649, 0, 0, 0), (6, 3, 100, 141, 2, 25, 71), (9, 3, 64, 8, 14, 0, 0), (12, 1, 0, 2147483648, 0, 0, 0), (13, 1, 85, 0, 0, 0, 0), (14, 1, 200, 0, 0, 0, 0), (15, 3, 200, 0, 0, 0, 0), (18, 1, 200, 0, 0, 0, 0), (19, 1, 200, 0, 0, 0, 0), (20, 3, 200, 0, 0, 0, 0), (23, 1, 200, 0, 0, 0, 0), (24, 3, 200, 0, 0, 0, 0), (27, 1, 200, 0, 0, 0, 0), (28, 3, 200, 0, 0, 0, 0), (31, 3, 200, 0, 0, 0, 0), (34, 3, 200, 0, 0, 0, 0), (37, 1, 200, 0, 0, 0, 0), (38, 1, 200, 0, 0, 0, 0), (39, 3, 200, 0, 0, 0, 0), (42, 1, 200, 0, 0, 0, 0), (43, 1, 200, 0, 0, 0, 0), (44, 3, 200, 0, 0, 0, 0), (47, 1, 200, 0, 0, 0, 0), (48, 3, 200, 0, 0, 0, 0), (51, 3, 200, 0, 0, 0, 0), (54, 1, 200, 0, 0, 0, 0)]
def xg_w140 : List (List Nat) := []
def xg_x140 : List (Nat × Nat × Nat × Nat) := []
def xg_m140 : xv_M := (xg_c140, xg_w140, xg_x140, 1)
def xg_c141 : List xv_I := [(0, 1, 8, 0, 0, 0, 0), (1, 1, 0, 2147483648, 0, 0, 0), (2, 3, 40, 25, 0, 0, 23), (5, 1, 8, 0, 0, 0, 0), (6, 1, 6, 1, 0, 0, 0), (7, 1, 6, 2, 0, 0, 0), (8, 3, 100, 138, 2, 25, 26), (11, 1, 85, 0, 0, 1, 0)]
def xg_w141 : List (List Nat) := []
def xg_x141 : List (Nat × Nat × Nat × Nat) := []
def xg_m141 : xv_M := (xg_c141, xg_w141, xg_x141, 3)
def xg_c142 : List xv_I := [(0, 1, 8, 0, 0, 0, 0), (1, 1, 6, 1, 0, 0, 0), (2, 3, 100, 120, 1, 25, 271), (5, 3, 65, 25, 51, 0, 0), (8, 1, 200, 0, 0, 0, 0), (9, 1, 200, 0, 0, 0, 0), (10, 1, 200, 0, 0, 0, 0), (11, 1, 200, 0, 0, 0, 0), (12, 3, 200, 0, 0, 0, 0), (15, 3, 200, 0, 0, 0, 0), (18, 1, 200, 0, 0, 0, 0), (19, 3, 200, 0, 0, 0, 0), (22, 3, 200, 0, 0, 0, 0), (25, 3, 200, 0, 0, 0, 0), (28, 3, 200, 0, 0, 0, 0), (31, 1, 200, 0, 0, 0, 0), (32, 1, 200, 0, 0, 0, 0), (33, 3, 200, 0, 0, 0, 0), (36, 3, 200, 0, 0, 0, 0), (39, 1, 200, 0, 0, 0, 0), (40, 3, 200, 0, 0, 0, 0), (43, 1, 200, 0, 0, 0, 0), (44, 1, 200, 0, 0, 0, 0), (45, 3, 200, 0, 0, 0, 0), (48, 3, 200, 0, 0, 0, 0), (51, 1, 0, 2147483648, 0, 0, 0), (52, 3, 80, 38, 82, 0, 0), (55, 1, 200, 0, 0, 0, 0), (56, 3, 200, 0, 0, 0, 0), (59, 3, 200, 0, 0, 0, 0), (62, 1, 200, 0, 0, 0, 0), (63, 3, 200, 0, 0, 0, 0), (66, 3, 200, 0, 0, 0, 0), (69, 3, 200, 0, 0, 0, 0), (72, 1, 200, 0, 0, 0, 0), (73, 3, 200, 0, 0, 0, 0), (76, 3, 200, 0, 0, 0, 0), (79, 3, 200, 0, 0, 0, 0), (82, 1, 85, 0, 0, 0, 0)]
def xg_w142 : List (List Nat) := []
def xg_x142 : List (Nat × Nat × Nat × Nat) := []
def xg_m142 : xv_M := (xg_c142, xg_w142, xg_x142, 3)
def xg_c143 : List xv_I := [(0, 1, 8, 0, 0, 0, 0), (1, 1, 8, 0, 0, 0, 0), (2, 1, 6, 1, 0, 0, 0), (3, 3, 100, 118, 1, 25, 150), (6, 1, 0, 2147483649, 0, 0, 0), (7, 3, 100, 141, 2, 25, 71), (10, 3, 65, 14, 26, 0, 0), (13, 1, 8, 0, 0, 0, 0), (14, 1, 8, 0, 0, 0, 0), (15, 1, 6, 2, 0, 0, 0), (16, 3, 100, 119, 1, 25, 142), (19, 1, 0, 2147483650, 0, 0, 0), (20, 3, 100, 138, 2, 25, 26), (23, 3, 64, 16, 28, 0, 0), (26, 1, 0, 2147483648, 0, 0, 0), (27, 1, 85, 0, 0, 0, 0), (28, 1, 8, 0, 0, 0, 0), (29, 3, 38, 25, 1, 0, 10), (32, 3, 38, 20, 1, 0, 44), (35, 1, 6, 1, 0, 0, 0), (36, 3, 100, 171, 1, 5, 83), (39, 3, 49, 0, 19, 0, 145), (42, 3, 38, 19, 0, 0, 153), (45, 1, 14, 3, 0, 0, 0), (46, 1, 8, 0, 0, 0, 0), (47, 3, 38, 25, 1, 0, 10), (50, 3, 38, 20, 1, 0, 44), (53, 1, 6, 1, 0, 0, 0), (54, 3, 100, 171, 1, 5, 83), (57, 3, 49, 0, 19, 0, 145), (60, 1, 6, 2, 0, 0, 0), (61, 3, 40, 19, 0, 0, 153), (64, 1, 6, 3, 0, 0, 0), (65, 1, 85, 0, 0, 0, 0)]
def xg_w143 : List (List Nat) := []
def xg_x143 : List (Nat × Nat × Nat × Nat) := []
def xg_m143 : xv_M := (xg_c143, xg_w143, xg_x143, 4)
def xg_c144 : List xv_I := [(0, 1, 8, 0, 0, 0, 0), (1, 3, 38, 25, 0, 0, 23), (4, 1, 85, 0, 0, 0, 0)]
def xg_w144 : List (List Nat) := []
def xg_x144 : List (Nat × Nat × Nat × Nat) := []
def xg_m144 : xv_M := (xg_c144, xg_w144, xg_x144, 1)
def xg_c145 : List xv_I := [(0, 1, 8, 0, 0, 0, 0), (1, 1, 6, 1, 0, 0, 0), (2, 3, 100, 120, 1, 25, 271), (5, 3, 65, 25, 51, 0, 0), (8, 1, 200, 0, 0, 0, 0), (9, 1, 200, 0, 0, 0, 0), (10, 1, 200, 0, 0, 0, 0), (11, 1, 200, 0, 0, 0, 0), (12, 3, 200, 0, 0, 0, 0), (15, 3, 200, 0, 0, 0, 0), (18, 1, 200, 0, 0, 0, 0), (19, 3, 200, 0, 0, 0, 0), (22, 3, 200, 0, 0, 0, 0), (25, 3, 200, 0, 0, 0, 0), (28, 3, 200, 0, 0, 0, 0), (31, 1, 200, 0, 0, 0, 0), (32, 1, 200, 0, 0, 0, 0), (33, 3, 200, 0, 0, 0, 0), (36, 3, 200, 0, 0, 0, 0), (39, 1, 200, 0, 0, 0, 0), (40, 3, 200, 0, 0, 0, 0), (43, 1, 200, 0, 0, 0, 0), (44, 1, 200, 0, 0, 0, 0), (45, 3, 200, 0, 0, 0, 0), (48, 3, 200, 0, 0, 0, 0), (51, 1, 0, 2147483648, 0, 0, 0), (52, 3, 80, 38, 82, 0, 0), (55, 1, 200, 0, 0, 0, 0), (56, 3, 200, 0, 0, 0, 0), (59, 3, 200, 0, 0, 0, 0), (62, 1, 200, 0, 0, 0, 0), (63, 3, 200, 0, 0, 0, 0), (66, 3, 200, 0, 0, 0, 0), (69, 3, 200, 0, 0, 0, 0), (72, 1, 200, 0, 0, 0, 0), (73, 3, 200, 0, 0, 0, 0), (76, 3, 200, 0, 0, 0, 0), (79, 3, 200, 0, 0, 0, 0), (82, 1, 85, 0, 0, 0, 0)]
def xg_w145 : List (List Nat) := []
def xg_x145 : List (Nat × Nat × Nat × Nat) := []
def xg_m145 : xv_M := (xg_c145, xg_w145, xg_x145, 3)
def xg_c146 : List xv_I := [(0, 1, 8, 0, 0, 0, 0), (1, 1, 6, 1, 0, 0, 0), (2, 1, 6, 2, 0, 0, 0), (3, 3, 96, 116, 2, 0, 227), (6, 3, 65, 10, 19, 0, 0), (9, 1, 6, 3, 0, 0, 0), (10, 1, 0, 2147483648, 0, 0, 0), (11, 2, 1, 2147483656, 0, 0, 0), (13, 3, 96, 114, 3, 0, 40), (16, 3, 65, 12, 23, 0, 0), (19, 1, 0, 2147483649, 0, 0, 0), (20, 3, 80, 13, 24, 0, 0), (23, 1, 0, 2147483648, 0, 0, 0), (24, 1, 0, 2147483649, 0, 0, 0), (25, 3, 100, 141, 2, 25, 71), (28, 3, 65, 22, 43, 0, 0), (31, 1, 8, 0, 0, 0, 0), (32, 1, 8, 0, 0, 0, 0), (33, 3, 100, 113, 0, 25, 176), (36, 1, 0, 2147483650, 0, 0, 0), (37, 3, 100, 138, 2, 25, 26), (40, 3, 64, 24, 47, 0, 0), (43, 1, 0, 2147483648, 0, 0, 0), (44, 3, 80, 33, 64, 0, 0), (47, 3, 200, 0, 0, 0, 0), (50, 1, 200, 0, 0, 0, 0), (51, 1, 200, 0, 0, 0, 0), (52, 3, 200, 0, 0, 0, 0), (55, 1, 200, 0, 0, 0, 0), (56, 1, 200, 0, 0, 0, 0), (57, 3, 200, 0, 0, 0, 0), (60, 1, 200, 0, 0, 0, 0), (61, 3, 200, 0, 0, 0, 0), (64, 1, 85, 0, 0, 0, 0)]
def xg_w146 : List (List Nat) := []
def xg_x146 : List (Nat × Nat × Nat × Nat) := []
def xg_m146 : xv_M := (xg_c146, xg_w146, xg_x146, 4)
def xg_c147 : List xv_I := [(0, 1, 8, 0, 0, 0, 0), (1, 3, 51, 0, 0, 0, 1), (4, 1, 8, 0, 0, 0, 0), (5, 1, 6, 1, 0, 0, 0), (6, 3, 41, 17, 0, 0, 7), (9, 1, 8, 0, 0, 0, 0), (10, 1, 6, 2, 0, 0, 0), (11, 3, 41, 17, 1, 1, 13), (14, 1, 84, 0, 0, 0, 0)]
def xg_w147 : List (List Nat) := []
def xg_x147 : List (Nat × Nat × Nat × Nat) := []
def xg_m147 : xv_M := (xg_c147, xg_w147, xg_x147, 3)
def xg_c148 : List xv_I := [(0, 1, 8, 0, 0, 0, 0), (1, 3, 51, 0, 0, 0, 3), (4, 1, 8, 0, 0, 0, 0), (5, 1, 0, 2147483647, 0, 0, 0), (6, 3, 40, 18, 5, 0, 9), (9, 1, 8, 0, 0, 0, 0), (10, 1, 0, 2147483647, 0, 0, 0), (11, 3, 40, 18, 6, 0, 15), (14, 1, 8, 0, 0, 0, 0), (15, 1, 6, 1, 0, 0, 0), (16, 3, 41, 18, 0, 0, 18), (19, 1, 8, 0, 0, 0, 0), (20, 1, 6, 2, 0, 0, 0), (21, 3, 41, 18, 1, 0, 21), (24, 1, 8, 0, 0, 0, 0), (25, 1, 6, 3, 0, 0, 0), (26, 3, 41, 18, 2, 0, 24), (29, 1, 8, 0, 0, 0, 0), (30, 2, 7, 4, 0, 0, 0), (32, 3, 41, 18, 3, 0, 27), (35, 1, 8, 0, 0, 0, 0), (36, 2, 7, 5, 0, 0, 0), (38, 3, 41, 18, 4, 0, 30), (41, 1, 84, 0, 0, 0, 0)]
def xg_w148 : List (List Nat) := []
def xg_x148 : List (Nat × Nat × Nat × Nat) := []
def xg_m148 : xv_M := (xg_c148, xg_w148, xg_x148, 6)
def xg_c149 : List xv_I := [(0, 3, 56, 5, 0, 0, 33), (3, 1, 34, 0, 0, 0, 0), (4, 3, 98, 167, 0, 5, 35), (7, 1, 16, 1, 0, 0, 0), (8, 1, 8, 0, 0, 0, 0), (9, 3, 38, 18, 1, 0, 21), (12, 2, 1, 2147483659, 0, 0, 0), (14, 3, 71, 18, 37, 0, 0), (17, 1, 200, 0, 0, 0, 0), (18, 3, 200, 0, 0, 0, 0), (21, 1, 200, 0, 0, 0, 0), (22, 3, 200, 0, 0, 0, 0), (25, 1, 200, 0, 0, 0, 0), (26, 1, 200, 0, 0, 0, 0), (27, 3, 200, 0, 0, 0, 0), (30, 3, 200, 0, 0, 0, 0), (33, 3, 200, 0, 0, 0, 0), (36, 1, 200, 0, 0, 0, 0), (37, 1, 8, 0, 0, 0, 0), (38, 3, 38, 18, 1, 0, 21), (41, 1, 0, 2147483652, 0, 0, 0), (42, 3, 70, 42, 89, 0, 0), (45, 1, 8, 0, 0, 0, 0), (46, 3, 38, 18, 1, 0, 21), (49, 1, 0, 2147483653, 0, 0, 0), (50, 3, 70, 42, 89, 0, 0), (53, 1, 8, 0, 0, 0, 0), (54, 3, 38, 18, 1, 0, 21), (57, 2, 1, 2147483654, 0, 0, 0), (59, 3, 70, 42, 89, 0, 0), (62, 1, 8, 0, 0, 0, 0), (63, 3, 38, 18, 1, 0, 21), (66, 2, 1, 2147483659, 0, 0, 0), (68, 3, 70, 42, 89, 0, 0), (71, 1, 8, 0, 0, 0, 0), (72, 3, 38, 18, 1, 0, 21), (75, 2, 1, 2147483660, 0, 0, 0), (77, 3, 70, 42, 89, 0, 0), (80, 1, 8, 0, 0, 0, 0), (81, 3, 38, 18, 1, 0, 21), (84, 2, 1, 2147483661, 0, 0, 0), (86, 3, 71, 48, 101, 0, 0), (89, 1, 200, 0, 0, 0, 0), (90, 1, 200, 0, 0, 0, 0), (91, 3, 200, 0, 0, 0, 0), (94, 3, 200, 0, 0, 0, 0), (97, 3, 200, 0, 0, 0, 0), (100, 1, 200, 0, 0, 0, 0), (101, 1, 8, 0, 0, 0, 0), (102, 3, 38, 18, 1, 0, 21), (105, 1, 0, 2147483652, 0, 0, 0), (106, 3, 70, 64, 135, 0, 0), (109, 1, 8, 0, 0, 0, 0), (110, 3, 38, 18, 1, 0, 21), (113, 1, 0, 2147483653, 0, 0, 0), (114, 3, 70, 64, 135, 0, 0), (117, 1, 8, 0, 0, 0, 0), (118, 3, 38, 18, 1, 0, 21), (121, 2, 1, 2147483659, 0, 0, 0), (123, 3, 70, 64, 135, 0, 0), (126, 1, 8, 0, 0, 0, 0), (127, 3, 38, 18, 1, 0, 21), (130, 2, 1, 2147483660, 0, 0, 0), (132, 3, 71, 74, 155, 0, 0), (135, 1, 200, 0, 0, 0, 0), (136, 3, 200, 0, 0, 0, 0), (139, 1, 200, 0, 0, 0, 0), (140, 3, 200, 0, 0, 0, 0), (143, 1, 200, 0, 0, 0, 0), (144, 1, 200, 0, 0, 0, 0), (145, 3, 200, 0, 0, 0, 0), (148, 3, 200, 0, 0, 0, 0), (151, 3, 200, 0, 0, 0, 0), (154, 1, 200, 0, 0, 0, 0), (155, 1, 8, 1, 0, 0, 0), (156, 1, 86, 0, 0, 0, 0)]
def xg_w149 : List (List Nat) := []
def xg_x149 : List (Nat × Nat × Nat × Nat) := []
def xg_m149 : xv_M := (xg_c149, xg_w149, xg_x149, 2)
def xg_c150 : List xv_I := [(0, 1, 8, 0, 0, 0, 0), (1, 3, 51, 0, 0, 0, 3), (4, 1, 8, 0, 0, 0, 0), (5, 1, 0, 2147483647, 0, 0, 0), (6, 3, 40, 19, 1, 0, 9), (9, 1, 8, 0, 0, 0, 0), (10, 1, 6, 1, 0, 0, 0), (11, 3, 40, 19, 0, 0, 15), (14, 1, 84, 0, 0, 0, 0)]
def xg_w150 : List (List Nat) := []
def xg_x150 : List (Nat × Nat × Nat × Nat) := []
def xg_m150 : xv_M := (xg_c150, xg_w150, xg_x150, 2)
def xg_c151 : List xv_I := [(0, 1, 8, 0, 0, 0, 0), (1, 3, 51, 0, 0, 0, 3), (4, 1, 8, 0, 0, 0, 0), (5, 3, 56, 5, 0, 0, 9), (8, 1, 34, 0, 0, 0, 0), (9, 3, 98, 167, 0, 5, 11), (12, 3, 41, 20, 0, 2, 12), (15, 1, 8, 0, 0, 0, 0), (16, 3, 56, 5, 0, 0, 9), (19, 1, 34, 0, 0, 0, 0), (20, 3, 98, 167, 0, 5, 11), (23, 3, 41, 20, 1, 2, 18), (26, 1, 8, 0, 0, 0, 0), (27, 3, 56, 5, 0, 0, 9), (30, 1, 34, 0, 0, 0, 0), (31, 3, 98, 167, 0, 5, 11), (34, 3, 41, 20, 2, 2, 21), (37, 1, 8, 0, 0, 0, 0), (38, 3, 38, 20, 0, 0, 12), (41, 3, 56, 17, 0, 0, 24), (44, 1, 34, 0, 0, 0, 0), (45, 1, 0, 2147483647, 0, 0, 0), (46, 1, 0, 2147483648, 0, 0, 0), (47, 3, 98, 147, 2, 17, 26), (50, 3, 100, 168, 1, 5, 29), (53, 1, 37, 0, 0, 0, 0), (54, 1, 0, 2147483649, 0, 0, 0), (55, 1, 14, 1, 0, 0, 0), (56, 1, 6, 1, 0, 0, 0), (57, 1, 0, 2147483652, 0, 0, 0), (58, 3, 74, 42, 84, 0, 0), (61, 1, 8, 0, 0, 0, 0), (62, 3, 38, 20, 0, 0, 12), (65, 3, 56, 17, 0, 0, 24), (68, 1, 34, 0, 0, 0, 0), (69, 1, 0, 2147483648, 0, 0, 0), (70, 1, 0, 2147483648, 0, 0, 0), (71, 3, 98, 147, 2, 17, 26), (74, 3, 100, 168, 1, 5, 29), (77, 1, 37, 0, 0, 0, 0), (78, 3, 22, 1, 2147483649, 0, 0), (81, 3, 80, 28, 56, 0, 0), (84, 1, 8, 0, 0, 0, 0), (85, 3, 38, 20, 1, 0, 18), (88, 3, 56, 19, 0, 0, 33), (91, 1, 34, 0, 0, 0, 0), (92, 1, 0, 2147483648, 0, 0, 0), (93, 3, 98, 150, 1, 19, 35), (96, 3, 100, 168, 1, 5, 29), (99, 1, 37, 0, 0, 0, 0), (100, 1, 84, 0, 0, 0, 0)]
def xg_w151 : List (List Nat) := []
def xg_x151 : List (Nat × Nat × Nat × Nat) := []
def xg_m151 : xv_M := (xg_c151, xg_w151, xg_x151, 2)
def xg_c152 : List xv_I := [(0, 1, 0, 2147483648, 0, 0, 0), (1, 1, 14, 2, 0, 0, 0), (2, 1, 0, 2147483648, 0, 0, 0), (3, 1, 14, 3, 0, 0, 0), (4, 1, 6, 3, 0, 0, 0), (5, 1, 8, 0, 0, 0, 0), (6, 3, 38, 20, 0, 0, 12), (9, 3, 100, 176, 0, 5, 52), (12, 3, 73, 24, 40, 0, 0), (15, 1, 6, 2, 0, 0, 0), (16, 1, 8, 0, 0, 0, 0), (17, 1, 6, 3, 0, 0, 0), (18, 1, 6, 1, 0, 0, 0), (19, 3, 100, 155, 2, 20, 56), (22, 3, 64, 19, 31, 0, 0), (25, 1, 0, 2147483649, 0, 0, 0), (26, 1, 6, 3, 0, 0, 0), (27, 1, 28, 0, 0, 0, 0), (28, 3, 80, 20, 32, 0, 0), (31, 1, 0, 2147483648, 0, 0, 0), (32, 1, 27, 0, 0, 0, 0), (33, 1, 14, 2, 0, 0, 0), (34, 3, 22, 3, 2147483649, 0, 0), (37, 3, 80, 4, 4, 0, 0), (40, 1, 6, 2, 0, 0, 0), (41, 1, 85, 0, 0, 0, 0)]
def xg_w152 : List (List Nat) := []
def xg_x152 : List (Nat × Nat × Nat × Nat) := []
def xg_m152 : xv_M := (xg_c152, xg_w152, xg_x152, 4)
def xg_c153 : List xv_I := [(0, 1, 6, 1, 0, 0, 0), (1, 1, 0, 2147483647, 0, 0, 0), (2, 3, 71, 5, 7, 0, 0), (5, 1, 0, 2147483648, 0, 0, 0), (6, 1, 85, 0, 0, 0, 0), (7, 1, 200, 0, 0, 0, 0), (8, 1, 200, 0, 0, 0, 0), (9, 3, 200, 0, 0, 0, 0), (12, 1, 200, 0, 0, 0, 0), (13, 1, 200, 0, 0, 0, 0), (14, 3, 200, 0, 0, 0, 0), (17, 63, 200, 0, 0, 0, 0), (80, 1, 200, 0, 0, 0, 0), (81, 1, 200, 0, 0, 0, 0), (82, 3, 200, 0, 0, 0, 0), (85, 3, 200, 0, 0, 0, 0), (88, 1, 200, 0, 0, 0, 0), (89, 1, 200, 0, 0, 0, 0), (90, 3, 200, 0, 0, 0, 0), (93, 3, 200, 0, 0, 0, 0), (96, 1, 200, 0, 0, 0, 0), (97, 1, 200, 0, 0, 0, 0), (98, 1, 200, 0, 0, 0, 0), (99, 1, 200, 0, 0, 0, 0), (100, 3, 200, 0, 0, 0, 0), (103, 3, 200, 0, 0, 0, 0), (106, 1, 200, 0, 0, 0, 0), (107, 1, 200, 0, 0, 0, 0), (108, 1, 200, 0, 0, 0, 0), (109, 3, 200, 0, 0, 0, 0), (112, 3, 200, 0, 0, 0, 0), (115, 1, 200, 0, 0, 0, 0), (116, 1, 200, 0, 0, 0, 0), (117, 1, 200, 0, 0, 0, 0), (118, 3, 200, 0, 0, 0, 0), (121, 1, 200, 0, 0, 0, 0), (122, 1, 200, 0, 0, 0, 0), (123, 1, 200, 0, 0, 0, 0), (124, 1, 200, 0, 0, 0, 0), (125, 3, 200, 0, 0, 0, 0), (128, 1, 200, 0, 0, 0, 0), (129, 3, 200, 0, 0, 0, 0), (132, 1, 200, 0, 0, 0, 0), (133, 3, 200, 0, 0, 0, 0), (136, 1, 200, 0, 0, 0, 0), (137, 1, 200, 0, 0, 0, 0), (138, 1, 200, 0, 0, 0, 0), (139, 1, 200, 0, 0, 0, 0), (140, 3, 200, 0, 0, 0, 0), (143, 3, 200, 0, 0, 0, 0), (146, 3, 200, 0, 0, 0, 0), (149, 1, 200, 0, 0, 0, 0), (150, 1, 200, 0, 0, 0, 0), (151, 1, 200, 0, 0, 0, 0), (152, 1, 200, 0, 0, 0, 0), (153, 3, 200, 0, 0, 0, 0), (156, 3, 200, 0, 0, 0, 0), (159, 1, 200, 0, 0, 0, 0), (160, 1, 200, 0, 0, 0, 0), (161, 3, 200, 0, 0, 0, 0), (164, 3, 200, 0, 0, 0, 0), (167, 1, 200, 0, 0, 0, 0), (168, 1, 200, 0, 0, 0, 0), (169, 1, 200, 0, 0, 0, 0), (170, 3, 200, 0, 0, 0, 0), (173, 3, 200, 0, 0, 0, 0), (176, 1, 200, 0, 0, 0, 0), (177, 1, 200, 0, 0, 0, 0), (178, 1, 200, 0, 0, 0, 0), (179, 3, 200, 0, 0, 0, 0), (182, 1, 200, 0, 0, 0, 0), (183, 3, 200, 0, 0, 0, 0), (186, 1, 200, 0, 0, 0, 0), (187, 1, 200, 0, 0, 0, 0), (188, 3, 200, 0, 0, 0, 0), (191, 3, 200, 0, 0, 0, 0), (194, 3, 200, 0, 0, 0, 0), (197, 1, 200, 0, 0, 0, 0), (198, 3, 200, 0, 0, 0, 0), (201, 1, 200, 0, 0, 0, 0), (202, 1, 200, 0, 0, 0, 0), (203, 3, 200, 0, 0, 0, 0), (206, 1, 200, 0, 0, 0, 0), (207, 1, 200, 0, 0, 0, 0), (208, 3, 200, 0, 0, 0, 0), (211, 3, 200, 0, 0, 0, 0), (214, 1, 200, 0, 0, 0, 0), (215, 1, 200, 0, 0, 0, 0), (216, 1, 200, 0, 0, 0, 0), (217, 1, 200, 0, 0, 0, 0)]
def xg_w153 : List (List Nat) := [[2147483652, 88, 12, 12, 22, 88, 88, 27, 32, 68, 22, 53, 37, 32]]
def xg_x153 : List (Nat × Nat × Nat × Nat) := []
def xg_m153 : xv_M := (xg_c153, xg_w153, xg_x153, 3)
def xg_c154 : List xv_I := [(0, 3, 56, 5, 0, 0, 9), (3, 1, 34, 0, 0, 0, 0), (4, 3, 98, 167, 0, 5, 11), (7, 1, 16, 1, 0, 0, 0), (8, 1, 0, 2147483648, 0, 0, 0), (9, 1, 14, 2, 0, 0, 0), (10, 1, 6, 2, 0, 0, 0), (11, 1, 8, 0, 0, 0, 0), (12, 3, 38, 20, 1, 0, 18), (15, 3, 100, 176, 0, 5, 52), (18, 3, 73, 97, 164, 0, 0), (21, 1, 8, 0, 0, 0, 0), (22, 3, 38, 20, 1, 0, 18), (25, 1, 6, 2, 0, 0, 0), (26, 3, 100, 171, 1, 5, 38), (29, 3, 49, 0, 19, 0, 33), (32, 3, 38, 19, 1, 0, 135), (35, 1, 14, 3, 0, 0, 0), (36, 1, 6, 3, 0, 0, 0), (37, 1, 0, 2147483647, 0, 0, 0), (38, 3, 71, 43, 69, 0, 0), (41, 1, 8, 1, 0, 0, 0), (42, 1, 0, 2147483652, 0, 0, 0), (43, 2, 57, 0, 0, 0, 0), (45, 1, 34, 0, 0, 0, 0), (46, 1, 0, 2147483648, 0, 0, 0), (47, 2, 1, 2147483658, 0, 0, 0), (49, 1, 43, 0, 0, 0, 0), (50, 1, 34, 0, 0, 0, 0), (51, 1, 0, 2147483649, 0, 0, 0), (52, 1, 6, 2, 0, 0, 0), (53, 1, 43, 0, 0, 0, 0), (54, 1, 34, 0, 0, 0, 0), (55, 1, 0, 2147483650, 0, 0, 0), (56, 1, 0, 2147483647, 0, 0, 0), (57, 1, 43, 0, 0, 0, 0), (58, 1, 34, 0, 0, 0, 0), (59, 1, 0, 2147483651, 0, 0, 0), (60, 1, 0, 2147483647, 0, 0, 0), (61, 1, 43, 0, 0, 0, 0), (62, 3, 100, 168, 1, 5, 29), (65, 1, 37, 0, 0, 0, 0), (66, 3, 80, 95, 158, 0, 0), (69, 1, 200, 0, 0, 0, 0), (70, 1, 200, 0, 0, 0, 0), (71, 1, 200, 0, 0, 0, 0), (72, 1, 200, 0, 0, 0, 0), (73, 3, 200, 0, 0, 0, 0), (76, 1, 200, 0, 0, 0, 0), (77, 1, 200, 0, 0, 0, 0), (78, 3, 200, 0, 0, 0, 0), (81, 2, 200, 0, 0, 0, 0), (83, 1, 200, 0, 0, 0, 0), (84, 2, 200, 0, 0, 0, 0), (86, 2, 200, 0, 0, 0, 0), (88, 1, 200, 0, 0, 0, 0), (89, 3, 200, 0, 0, 0, 0), (92, 3, 200, 0, 0, 0, 0), (95, 3, 200, 0, 0, 0, 0), (98, 2, 200, 0, 0, 0, 0), (100, 2, 200, 0, 0, 0, 0), (102, 3, 200, 0, 0, 0, 0), (105, 3, 200, 0, 0, 0, 0), (108, 1, 200, 0, 0, 0, 0), (109, 2, 200, 0, 0, 0, 0), (111, 3, 200, 0, 0, 0, 0), (114, 3, 200, 0, 0, 0, 0), (117, 1, 200, 0, 0, 0, 0), (118, 1, 200, 0, 0, 0, 0), (119, 2, 200, 0, 0, 0, 0), (121, 3, 200, 0, 0, 0, 0), (124, 3, 200, 0, 0, 0, 0), (127, 1, 200, 0, 0, 0, 0), (128, 1, 200, 0, 0, 0, 0), (129, 2, 200, 0, 0, 0, 0), (131, 1, 200, 0, 0, 0, 0), (132, 1, 200, 0, 0, 0, 0), (133, 1, 200, 0, 0, 0, 0), (134, 1, 200, 0, 0, 0, 0), (135, 1, 200, 0, 0, 0, 0), (136, 1, 200, 0, 0, 0, 0), (137, 1, 200, 0, 0, 0, 0), (138, 1, 200, 0, 0, 0, 0), (139, 1, 200, 0, 0, 0, 0), (140, 1, 200, 0, 0, 0, 0), (141, 1, 200, 0, 0, 0, 0), (142, 1, 200, 0, 0, 0, 0), (143, 1, 200, 0, 0, 0, 0), (144, 1, 200, 0, 0, 0, 0), (145, 2, 200, 0, 0, 0, 0), (147, 1, 200, 0, 0, 0, 0), (148, 3, 200, 0, 0, 0, 0), (151, 1, 200, 0, 0, 0, 0), (152, 3, 200, 0, 0, 0, 0), (155, 3, 200, 0, 0, 0, 0), (158, 3, 22, 2, 2147483649, 0, 0), (161, 3, 80, 6, 10, 0, 0), (164, 1, 8, 1, 0, 0, 0), (165, 3, 100, 174, 0, 5, 150), (168, 1, 14, 2, 0, 0, 0), (169, 1, 0, 2147483648, 0, 0, 0), (170, 1, 14, 3, 0, 0, 0), (171, 1, 6, 2, 0, 0, 0), (172, 3, 64, 140, 233, 0, 0), (175, 1, 200, 0, 0, 0, 0), (176, 1, 200, 0, 0, 0, 0), (177, 3, 200, 0, 0, 0, 0), (180, 3, 200, 0, 0, 0, 0), (183, 3, 200, 0, 0, 0, 0), (186, 3, 200, 0, 0, 0, 0), (189, 1, 200, 0, 0, 0, 0), (190, 1, 200, 0, 0, 0, 0), (191, 1, 200, 0, 0, 0, 0), (192, 1, 200, 0, 0, 0, 0), (193, 3, 200, 0, 0, 0, 0), (196, 3, 200, 0, 0, 0, 0), (199, 3, 200, 0, 0, 0, 0), (202, 1, 200, 0, 0, 0, 0), (203, 1, 200, 0, 0, 0, 0), (204, 2, 200, 0, 0, 0, 0), (206, 1, 200, 0, 0, 0, 0), (207, 1, 200, 0, 0, 0, 0), (208, 2, 200, 0, 0, 0, 0), (210, 1, 200, 0, 0, 0, 0), (211, 1, 200, 0, 0, 0, 0), (212, 1, 200, 0, 0, 0, 0), (213, 1, 200, 0, 0, 0, 0), (214, 1, 200, 0, 0, 0, 0), (215, 1, 200, 0, 0, 0, 0), (216, 1, 200, 0, 0, 0, 0), (217, 1, 200, 0, 0, 0, 0), (218, 1, 200, 0, 0, 0, 0), (219, 1, 200, 0, 0, 0, 0), (220, 1, 200, 0, 0, 0, 0), (221, 1, 200, 0, 0, 0, 0), (222, 1, 200, 0, 0, 0, 0), (223, 3, 200, 0, 0, 0, 0), (226, 1, 200, 0, 0, 0, 0), (227, 3, 200, 0, 0, 0, 0), (230, 3, 200, 0, 0, 0, 0), (233, 1, 8, 1, 0, 0, 0), (234, 1, 86, 0, 0, 0, 0)]
def xg_w154 : List (List Nat) := []
def xg_x154 : List (Nat × Nat × Nat × Nat) := []
def xg_m154 : xv_M := (xg_c154, xg_w154, xg_x154, 6)
def xg_c155 : List xv_I := [(0, 1, 6, 1, 0, 0, 0), (1, 1, 14, 3, 0, 0, 0), (2, 1, 6, 3, 0, 0, 0), (3, 1, 0, 2147483647, 0, 0, 0), (4, 3, 70, 18, 32, 0, 0), (7, 1, 6, 3, 0, 0, 0), (8, 1, 6, 2, 0, 0, 0), (9, 3, 71, 10, 14, 0, 0), (12, 1, 0, 2147483649, 0, 0, 0), (13, 1, 85, 0, 0, 1, 0), (14, 1, 8, 0, 0, 0, 0), (15, 3, 38, 20, 0, 0, 12), (18, 1, 6, 3, 0, 0, 0), (19, 3, 100, 171, 1, 5, 38), (22, 3, 49, 0, 17, 0, 24), (25, 3, 38, 17, 0, 0, 44), (28, 1, 14, 3, 0, 0, 0), (29, 3, 80, 2, 2, 0, 0), (32, 1, 0, 2147483648, 0, 0, 0), (33, 1, 85, 0, 0, 1, 0)]
def xg_w155 : List (List Nat) := []
def xg_x155 : List (Nat × Nat × Nat × Nat) := []
def xg_m155 : xv_M := (xg_c155, xg_w155, xg_x155, 4)
def xg_c156 : List xv_I := [(0, 1, 6, 1, 0, 0, 0), (1, 1, 14, 2, 0, 0, 0), (2, 1, 6, 2, 0, 0, 0), (3, 1, 0, 2147483647, 0, 0, 0), (4, 3, 70, 22, 44, 0, 0), (7, 1, 8, 0, 0, 0, 0), (8, 3, 38, 20, 0, 0, 12), (11, 1, 6, 2, 0, 0, 0), (12, 3, 100, 171, 1, 5, 38), (15, 3, 49, 0, 17, 0, 24), (18, 3, 38, 17, 1, 0, 48), (21, 3, 64, 14, 26, 0, 0), (24, 1, 200, 0, 0, 0, 0), (25, 1, 200, 0, 0, 0, 0), (26, 1, 8, 0, 0, 0, 0), (27, 3, 38, 20, 0, 0, 12), (30, 1, 6, 2, 0, 0, 0), (31, 3, 100, 171, 1, 5, 38), (34, 3, 49, 0, 17, 0, 24), (37, 3, 38, 17, 0, 0, 44), (40, 1, 14, 2, 0, 0, 0), (41, 3, 80, 2, 2, 0, 0), (44, 1, 0, 2147483648, 0, 0, 0), (45, 1, 85, 0, 0, 1, 0)]
def xg_w156 : List (List Nat) := []
def xg_x156 : List (Nat × Nat × Nat × Nat) := []
def xg_m156 : xv_M := (xg_c156, xg_w156, xg_x156, 3)
def xg_c157 : List xv_I := [(0, 1, 6, 1, 0, 0, 0), (1, 1, 0, 2147483648, 0, 0, 0), (2, 1, 8, 0, 0, 0, 0), (3, 3, 38, 20, 0, 0, 12), (6, 3, 100, 176, 0, 5, 52), (9, 1, 0, 2147483649, 0, 0, 0), (10, 1, 24, 0, 0, 0, 0), (11, 3, 97, 114, 3, 0, 60), (14, 1, 85, 0, 0, 1, 0)]
def xg_w157 : List (List Nat) := []
def xg_x157 : List (Nat × Nat × Nat × Nat) := []
def xg_m157 : xv_M := (xg_c157, xg_w157, xg_x157, 2)
def xg_c158 : List xv_I := [(0, 1, 6, 1, 0, 0, 0), (1, 91, 81, 0, 0, 0, 0), (92, 1, 8, 0, 0, 0, 0), (93, 1, 6, 2, 0, 0, 0), (94, 3, 100, 164, 1, 20, 81), (97, 3, 64, 14, 117, 0, 0), (100, 1, 8, 0, 0, 0, 0), (101, 1, 6, 3, 0, 0, 0), (102, 3, 100, 159, 1, 20, 85), (105, 3, 64, 14, 117, 0, 0), (108, 2, 7, 4, 0, 0, 0), (110, 3, 65, 14, 117, 0, 0), (113, 1, 0, 2147483649, 0, 0, 0), (114, 3, 80, 15, 118, 0, 0), (117, 1, 0, 2147483648, 0, 0, 0), (118, 1, 85, 0, 0, 1, 0), (119, 1, 6, 2, 0, 0, 0), (120, 3, 65, 26, 140, 0, 0), (123, 1, 8, 0, 0, 0, 0), (124, 1, 6, 3, 0, 0, 0), (125, 3, 100, 159, 1, 20, 85), (128, 3, 64, 26, 140, 0, 0), (131, 2, 7, 4, 0, 0, 0), (133, 3, 65, 26, 140, 0, 0), (136, 1, 0, 2147483649, 0, 0, 0), (137, 3, 80, 27, 141, 0, 0), (140, 1, 0, 2147483648, 0, 0, 0), (141, 1, 85, 0, 0, 1, 0), (142, 1, 6, 2, 0, 0, 0), (143, 3, 65, 45, 175, 0, 0), (146, 1, 8, 0, 0, 0, 0), (147, 1, 6, 3, 0, 0, 0), (148, 1, 0, 2147483648, 0, 0, 0), (149, 3, 100, 160, 2, 20, 77), (152, 3, 64, 45, 175, 0, 0), (155, 1, 200, 0, 0, 0, 0), (156, 2, 200, 0, 0, 0, 0), (158, 1, 200, 0, 0, 0, 0), (159, 3, 200, 0, 0, 0, 0), (162, 3, 200, 0, 0, 0, 0), (165, 1, 200, 0, 0, 0, 0), (166, 2, 200, 0, 0, 0, 0), (168, 3, 200, 0, 0, 0, 0), (171, 1, 200, 0, 0, 0, 0), (172, 3, 200, 0, 0, 0, 0), (175, 1, 0, 2147483648, 0, 0, 0), (176, 1, 85, 0, 0, 1, 0), (177, 1, 8, 0, 0, 0, 0), (178, 1, 6, 2, 0, 0, 0), (179, 3, 100, 159, 1, 20, 85), (182, 3, 64, 66, 214, 0, 0), (185, 1, 8, 0, 0, 0, 0), (186, 1, 6, 3, 0, 0, 0), (187, 1, 0, 2147483648, 0, 0, 0), (188, 3, 100, 160, 2, 20, 77), (191, 3, 64, 66, 214, 0, 0), (194, 1, 200, 0, 0, 0, 0), (195, 2, 200, 0, 0, 0, 0), (197, 1, 200, 0, 0, 0, 0), (198, 3, 200, 0, 0, 0, 0), (201, 3, 200, 0, 0, 0, 0), (204, 1, 200, 0, 0, 0, 0), (205, 2, 200, 0, 0, 0, 0), (207, 3, 200, 0, 0, 0, 0), (210, 1, 200, 0, 0, 0, 0), (211, 3, 200, 0, 0, 0, 0), (214, 1, 0, 2147483648, 0, 0, 0), (215, 1, 85, 0, 0, 1, 0), (216, 1, 8, 0, 0, 0, 0), (217, 1, 6, 2, 0, 0, 0), (218, 3, 100, 164, 1, 20, 81), (221, 3, 64, 81, 242, 0, 0), (224, 1, 8, 0, 0, 0, 0), (225, 1, 6, 3, 0, 0, 0), (226, 1, 0, 2147483648, 0, 0, 0), (227, 3, 100, 160, 2, 20, 77), (230, 3, 64, 81, 242, 0, 0), (233, 2, 200, 0, 0, 0, 0), (235, 3, 200, 0, 0, 0, 0), (238, 1, 200, 0, 0, 0, 0), (239, 3, 200, 0, 0, 0, 0), (242, 1, 0, 2147483648, 0, 0, 0), (243, 1, 85, 0, 0, 1, 0), (244, 1, 6, 2, 0, 0, 0), (245, 3, 65, 91, 261, 0, 0), (248, 1, 6, 3, 0, 0, 0), (249, 3, 65, 91, 261, 0, 0), (252, 2, 7, 4, 0, 0, 0), (254, 3, 65, 91, 261, 0, 0), (257, 1, 0, 2147483649, 0, 0, 0), (258, 3, 80, 92, 262, 0, 0), (261, 1, 0, 2147483648, 0, 0, 0), (262, 1, 85, 0, 0, 1, 0), (263, 1, 8, 0, 0, 0, 0), (264, 1, 6, 2, 0, 0, 0), (265, 3, 100, 164, 1, 20, 81), (268, 3, 64, 105, 288, 0, 0), (271, 1, 8, 0, 0, 0, 0), (272, 1, 6, 3, 0, 0, 0), (273, 3, 100, 162, 1, 20, 91), (276, 3, 64, 105, 288, 0, 0), (279, 2, 7, 4, 0, 0, 0), (281, 3, 65, 105, 288, 0, 0), (284, 1, 0, 2147483649, 0, 0, 0), (285, 3, 80, 106, 289, 0, 0), (288, 1, 0, 2147483648, 0, 0, 0), (289, 1, 85, 0, 0, 1, 0), (290, 1, 8, 0, 0, 0, 0), (291, 1, 6, 2, 0, 0, 0), (292, 3, 100, 157, 1, 20, 94), (295, 3, 64, 119, 315, 0, 0), (298, 1, 8, 0, 0, 0, 0), (299, 1, 6, 3, 0, 0, 0), (300, 3, 100, 159, 1, 20, 85), (303, 3, 64, 119, 315, 0, 0), (306, 2, 7, 4, 0, 0, 0), (308, 3, 65, 119, 315, 0, 0), (311, 1, 0, 2147483649, 0, 0, 0), (312, 3, 80, 120, 316, 0, 0), (315, 1, 0, 2147483648, 0, 0, 0), (316, 1, 85, 0, 0, 1, 0), (317, 1, 8, 0, 0, 0, 0), (318, 1, 6, 2, 0, 0, 0), (319, 1, 0, 2147483648, 0, 0, 0), (320, 3, 100, 161, 2, 20, 88), (323, 3, 64, 147, 365, 0, 0), (326, 1, 8, 0, 0, 0, 0), (327, 1, 6, 3, 0, 0, 0), (328, 1, 0, 2147483648, 0, 0, 0), (329, 3, 100, 160, 2, 20, 77), (332, 3, 64, 147, 365, 0, 0), (335, 1, 200, 0, 0, 0, 0), (336, 2, 200, 0, 0, 0, 0), (338, 1, 200, 0, 0, 0, 0), (339, 3, 200, 0, 0, 0, 0), (342, 3, 200, 0, 0, 0, 0), (345, 1, 200, 0, 0, 0, 0), (346, 1, 200, 0, 0, 0, 0), (347, 3, 200, 0, 0, 0, 0), (350, 1, 200, 0, 0, 0, 0), (351, 1, 200, 0, 0, 0, 0), (352, 3, 200, 0, 0, 0, 0), (355, 2, 200, 0, 0, 0, 0), (357, 1, 200, 0, 0, 0, 0), (358, 3, 200, 0, 0, 0, 0), (361, 1, 200, 0, 0, 0, 0), (362, 3, 200, 0, 0, 0, 0), (365, 1, 0, 2147483648, 0, 0, 0), (366, 1, 85, 0, 0, 1, 0), (367, 1, 8, 0, 0, 0, 0), (368, 1, 6, 2, 0, 0, 0), (369, 3, 100, 157, 1, 20, 94), (372, 3, 64, 165, 398, 0, 0), (375, 1, 8, 0, 0, 0, 0), (376, 1, 6, 3, 0, 0, 0), (377, 1, 0, 2147483648, 0, 0, 0), (378, 3, 100, 160, 2, 20, 77), (381, 3, 64, 165, 398, 0, 0), (384, 1, 200, 0, 0, 0, 0), (385, 2, 200, 0, 0, 0, 0), (387, 1, 200, 0, 0, 0, 0), (388, 3, 200, 0, 0, 0, 0), (391, 3, 200, 0, 0, 0, 0), (394, 1, 200, 0, 0, 0, 0), (395, 3, 200, 0, 0, 0, 0), (398, 1, 0, 2147483648, 0, 0, 0), (399, 1, 85, 0, 0, 1, 0), (400, 1, 6, 2, 0, 0, 0), (401, 1, 0, 2147483647, 0, 0, 0), (402, 3, 70, 174, 413, 0, 0), (405, 1, 8, 0, 0, 0, 0), (406, 1, 6, 2, 0, 0, 0), (407, 3, 100, 162, 1, 20, 91), (410, 3, 64, 194, 452, 0, 0), (413, 1, 8, 0, 0, 0, 0), (414, 1, 6, 3, 0, 0, 0), (415, 1, 0, 2147483648, 0, 0, 0), (416, 3, 100, 160, 2, 20, 77), (419, 3, 64, 194, 452, 0, 0), (422, 2, 200, 0, 0, 0, 0), (424, 1, 200, 0, 0, 0, 0), (425, 3, 200, 0, 0, 0, 0), (428, 1, 200, 0, 0, 0, 0), (429, 2, 200, 0, 0, 0, 0), (431, 3, 200, 0, 0, 0, 0), (434, 3, 200, 0, 0, 0, 0), (437, 1, 200, 0, 0, 0, 0), (438, 1, 200, 0, 0, 0, 0), (439, 3, 200, 0, 0, 0, 0), (442, 2, 200, 0, 0, 0, 0), (444, 1, 200, 0, 0, 0, 0), (445, 3, 200, 0, 0, 0, 0), (448, 1, 200, 0, 0, 0, 0), (449, 3, 200, 0, 0, 0, 0), (452, 1, 0, 2147483648, 0, 0, 0), (453, 1, 85, 0, 0, 1, 0), (454, 1, 8, 0, 0, 0, 0), (455, 1, 6, 2, 0, 0, 0), (456, 3, 100, 163, 1, 20, 97), (459, 3, 64, 206, 475, 0, 0), (462, 1, 6, 3, 0, 0, 0), (463, 3, 65, 206, 475, 0, 0), (466, 2, 7, 4, 0, 0, 0), (468, 3, 65, 206, 475, 0, 0), (471, 1, 0, 2147483649, 0, 0, 0), (472, 3, 80, 207, 476, 0, 0), (475, 1, 0, 2147483648, 0, 0, 0), (476, 1, 85, 0, 0, 1, 0), (477, 1, 0, 2147483648, 0, 0, 0), (478, 1, 85, 0, 0, 1, 0)]
def xg_w158 : List (List Nat) := [[2147483648, 208, 2, 2, 2, 16, 28, 47, 68, 83, 16, 93, 107, 121, 149, 167, 83, 107, 196, 196, 196]]
def xg_x158 : List (Nat × Nat × Nat × Nat) := []
def xg_m158 : xv_M := (xg_c158, xg_w158, xg_x158, 5)
def xg_c159 : List xv_I := [(0, 1, 6, 1, 0, 0, 0), (1, 2, 1, 2147483549, 0, 0, 0), (3, 2, 1, 2147483757, 0, 0, 0), (5, 3, 97, 114, 3, 0, 60), (8, 1, 85, 0, 0, 1, 0)]
def xg_w159 : List (List Nat) := []
def xg_x159 : List (Nat × Nat × Nat × Nat) := []
def xg_m159 : xv_M := (xg_c159, xg_w159, xg_x159, 2)
def xg_c160 : List xv_I := [(0, 1, 6, 1, 0, 0, 0), (1, 1, 0, 2147483648, 0, 0, 0), (2, 1, 8, 0, 0, 0, 0), (3, 3, 38, 20, 2, 0, 21), (6, 3, 100, 176, 0, 5, 52), (9, 1, 0, 2147483649, 0, 0, 0), (10, 1, 24, 0, 0, 0, 0), (11, 3, 97, 114, 3, 0, 60), (14, 3, 65, 11, 19, 0, 0), (17, 1, 0, 2147483648, 0, 0, 0), (18, 1, 85, 0, 0, 1, 0), (19, 1, 200, 0, 0, 0, 0), (20, 1, 200, 0, 0, 0, 0), (21, 3, 200, 0, 0, 0, 0), (24, 1, 200, 0, 0, 0, 0), (25, 1, 200, 0, 0, 0, 0), (26, 3, 200, 0, 0, 0, 0), (29, 1, 200, 0, 0, 0, 0), (30, 3, 200, 0, 0, 0, 0), (33, 1, 200, 0, 0, 0, 0), (34, 3, 200, 0, 0, 0, 0), (37, 1, 200, 0, 0, 0, 0), (38, 3, 200, 0, 0, 0, 0), (41, 1, 200, 0, 0, 0, 0), (42, 3, 200, 0, 0, 0, 0), (45, 2, 200, 0, 0, 0, 0), (47, 3, 200, 0, 0, 0, 0), (50, 1, 200, 0, 0, 0, 0), (51, 3, 200, 0, 0, 0, 0), (54, 1, 200, 0, 0, 0, 0), (55, 1, 200, 0, 0, 0, 0), (56, 3, 200, 0, 0, 0, 0), (59, 1, 200, 0, 0, 0, 0), (60, 3, 200, 0, 0, 0, 0), (63, 1, 200, 0, 0, 0, 0), (64, 1, 200, 0, 0, 0, 0)]
def xg_w160 : List (List Nat) := []
def xg_x160 : List (Nat × Nat × Nat × Nat) := []
def xg_m160 : xv_M := (xg_c160, xg_w160, xg_x160, 4)
def xg_c161 : List xv_I := [(0, 1, 6, 1, 0, 0, 0), (1, 1, 0, 2147483647, 0, 0, 0), (2, 3, 70, 8, 14, 0, 0), (5, 1, 8, 0, 0, 0, 0), (6, 1, 6, 1, 0, 0, 0), (7, 1, 6, 2, 0, 0, 0), (8, 3, 100, 160, 2, 20, 77), (11, 3, 64, 10, 18, 0, 0), (14, 1, 0, 2147483649, 0, 0, 0), (15, 3, 80, 11, 19, 0, 0), (18, 1, 0, 2147483648, 0, 0, 0), (19, 1, 85, 0, 0, 1, 0)]
def xg_w161 : List (List Nat) := []
def xg_x161 : List (Nat × Nat × Nat × Nat) := []
def xg_m161 : xv_M := (xg_c161, xg_w161, xg_x161, 3)
def xg_c162 : List xv_I := [(0, 1, 6, 1, 0, 0, 0), (1, 1, 0, 2147483648, 0, 0, 0), (2, 1, 8, 0, 0, 0, 0), (3, 3, 38, 20, 1, 0, 18), (6, 3, 100, 176, 0, 5, 52), (9, 1, 0, 2147483649, 0, 0, 0), (10, 1, 24, 0, 0, 0, 0), (11, 3, 97, 114, 3, 0, 60), (14, 1, 85, 0, 0, 1, 0)]
def xg_w162 : List (List Nat) := []
def xg_x162 : List (Nat × Nat × Nat × Nat) := []
def xg_m162 : xv_M := (xg_c162, xg_w162, xg_x162, 2)
def xg_c163 : List xv_I := [(0, 1, 6, 1, 0, 0, 0), (1, 1, 0, 2147483648, 0, 0, 0), (2, 1, 0, 2147483651, 0, 0, 0), (3, 3, 97, 114, 3, 0, 60), (6, 1, 85, 0, 0, 1, 0)]
def xg_w163 : List (List Nat) := []
def xg_x163 : List (Nat × Nat × Nat × Nat) := []
def xg_m163 : xv_M := (xg_c163, xg_w163, xg_x163, 2)
def xg_c164 : List xv_I := [(0, 1, 6, 1, 0, 0, 0), (1, 1, 0, 2147483648, 0, 0, 0), (2, 2, 1, 2147483657, 0, 0, 0), (4, 3, 97, 114, 3, 0, 60), (7, 1, 85, 0, 0, 1, 0)]
def xg_w164 : List (List Nat) := []
def xg_x164 : List (Nat × Nat × Nat × Nat) := []
def xg_m164 : xv_M := (xg_c164, xg_w164, xg_x164, 2)
def xg_c165 : List xv_I := [(0, 1, 8, 0, 0, 0, 0), (1, 3, 51, 0, 0, 0, 1), (4, 1, 84, 0, 0, 0, 0)]
def xg_w165 : List (List Nat) := []
def xg_x165 : List (Nat × Nat × Nat × Nat) := []
def xg_m165 : xv_M := (xg_c165, xg_w165, xg_x165, 1)
def xg_c166 : List xv_I := [(0, 1, 8, 0, 0, 0, 0), (1, 3, 98, 165, 0, 0, 1), (4, 1, 8, 0, 0, 0, 0), (5, 1, 0, 2147483648, 0, 0, 0), (6, 3, 40, 5, 0, 0, 7), (9, 1, 84, 0, 0, 0, 0)]
def xg_w166 : List (List Nat) := []
def xg_x166 : List (Nat × Nat × Nat × Nat) := []
def xg_m166 : xv_M := (xg_c166, xg_w166, xg_x166, 1)
def xg_c167 : List xv_I := [(0, 1, 8, 0, 0, 0, 0), (1, 3, 98, 166, 0, 0, 1), (4, 1, 8, 0, 0, 0, 0), (5, 3, 50, 0, 0, 0, 39), (8, 3, 40, 5, 1, 2, 9), (11, 1, 84, 0, 0, 0, 0)]
def xg_w167 : List (List Nat) := []
def xg_x167 : List (Nat × Nat × Nat × Nat) := []
def xg_m167 : xv_M := (xg_c167, xg_w167, xg_x167, 1)
def xg_c168 : List xv_I := [(0, 1, 8, 0, 0, 0, 0), (1, 1, 34, 0, 0, 0, 0), (2, 3, 38, 5, 0, 0, 63), (5, 1, 0, 2147483649, 0, 0, 0), (6, 1, 23, 0, 0, 0, 0), (7, 3, 40, 5, 0, 0, 63), (10, 1, 8, 0, 0, 0, 0), (11, 1, 8, 1, 0, 0, 0), (12, 1, 8, 0, 0, 0, 0), (13, 3, 38, 5, 1, 0, 9), (16, 1, 8, 0, 0, 0, 0), (17, 3, 38, 5, 2, 0, 48), (20, 3, 100, 169, 3, 5, 131), (23, 1, 0, 2147483649, 0, 0, 0), (24, 1, 85, 0, 0, 1, 0)]
def xg_w168 : List (List Nat) := []
def xg_x168 : List (Nat × Nat × Nat × Nat) := []
def xg_m168 : xv_M := (xg_c168, xg_w168, xg_x168, 2)
def xg_c169 : List xv_I := [(0, 1, 6, 3, 0, 0, 0), (1, 1, 8, 2, 0, 0, 0), (2, 1, 48, 0, 0, 0, 0), (3, 3, 71, 7, 11, 0, 0), (6, 1, 8, 0, 0, 0, 0), (7, 3, 100, 172, 0, 5, 129), (10, 1, 16, 2, 0, 0, 0), (11, 1, 8, 2, 0, 0, 0), (12, 1, 6, 3, 0, 0, 0), (13, 1, 8, 1, 0, 0, 0), (14, 1, 47, 0, 0, 0, 0), (15, 1, 8, 0, 0, 0, 0), (16, 1, 6, 3, 0, 0, 0), (17, 1, 0, 2147483649, 0, 0, 0), (18, 1, 23, 0, 0, 0, 0), (19, 3, 40, 5, 2, 0, 48), (22, 1, 84, 0, 0, 0, 0)]
def xg_w169 : List (List Nat) := []
def xg_x169 : List (Nat × Nat × Nat × Nat) := []
def xg_m169 : xv_M := (xg_c169, xg_w169, xg_x169, 4)
def xg_c170 : List xv_I := [(0, 1, 8, 0, 0, 0, 0), (1, 3, 38, 5, 1, 0, 9), (4, 1, 6, 1, 0, 0, 0), (5, 1, 46, 0, 0, 0, 0), (6, 1, 86, 0, 0, 0, 0)]
def xg_w170 : List (List Nat) := []
def xg_x170 : List (Nat × Nat × Nat × Nat) := []
def xg_m170 : xv_M := (xg_c170, xg_w170, xg_x170, 2)
def xg_c171 : List xv_I := [(0, 1, 6, 1, 0, 0, 0), (1, 1, 8, 0, 0, 0, 0), (2, 3, 38, 5, 2, 0, 48), (5, 3, 96, 181, 2, 0, 118), (8, 1, 37, 0, 0, 0, 0), (9, 1, 8, 0, 0, 0, 0), (10, 1, 6, 1, 0, 0, 0), (11, 3, 100, 170, 1, 5, 123), (14, 1, 86, 0, 0, 0, 0)]
def xg_w171 : List (List Nat) := []
def xg_x171 : List (Nat × Nat × Nat × Nat) := []
def xg_m171 : xv_M := (xg_c171, xg_w171, xg_x171, 2)
def xg_c172 : List xv_I := [(0, 1, 8, 0, 0, 0, 0), (1, 1, 8, 0, 0, 0, 0), (2, 3, 38, 5, 2, 0, 48), (5, 1, 0, 2147483649, 0, 0, 0), (6, 1, 23, 0, 0, 0, 0), (7, 3, 100, 173, 1, 5, 69), (10, 1, 86, 0, 0, 0, 0)]
def xg_w172 : List (List Nat) := []
def xg_x172 : List (Nat × Nat × Nat × Nat) := []
def xg_m172 : xv_M := (xg_c172, xg_w172, xg_x172, 1)
def xg_c173 : List xv_I := [(0, 1, 8, 0, 0, 0, 0), (1, 3, 38, 5, 1, 0, 9), (4, 1, 48, 0, 0, 0, 0), (5, 1, 14, 2, 0, 0, 0), (6, 1, 6, 2, 0, 0, 0), (7, 3, 68, 10, 20, 0, 0), (10, 1, 8, 0, 0, 0, 0), (11, 3, 38, 5, 1, 0, 9), (14, 3, 50, 0, 0, 0, 39), (17, 3, 76, 27, 45, 0, 0), (20, 1, 200, 0, 0, 0, 0), (21, 1, 200, 0, 0, 0, 0), (22, 1, 200, 0, 0, 0, 0), (23, 1, 200, 0, 0, 0, 0), (24, 1, 200, 0, 0, 0, 0), (25, 1, 200, 0, 0, 0, 0), (26, 1, 200, 0, 0, 0, 0), (27, 3, 200, 0, 0, 0, 0), (30, 1, 200, 0, 0, 0, 0), (31, 1, 200, 0, 0, 0, 0), (32, 1, 200, 0, 0, 0, 0), (33, 3, 200, 0, 0, 0, 0), (36, 1, 200, 0, 0, 0, 0), (37, 3, 200, 0, 0, 0, 0), (40, 1, 200, 0, 0, 0, 0), (41, 3, 200, 0, 0, 0, 0), (44, 1, 200, 0, 0, 0, 0), (45, 1, 8, 0, 0, 0, 0), (46, 2, 1, 2147483658, 0, 0, 0), (48, 1, 6, 1, 0, 0, 0), (49, 3, 52, 0, 0, 0, 79), (52, 3, 58, 4, 0, 0, 7), (55, 1, 36, 0, 0, 0, 0), (56, 3, 40, 5, 1, 2, 9), (59, 1, 86, 0, 0, 0, 0)]
def xg_w173 : List (List Nat) := []
def xg_x173 : List (Nat × Nat × Nat × Nat) := []
def xg_m173 : xv_M := (xg_c173, xg_w173, xg_x173, 4)
def xg_c174 : List xv_I := [(0, 1, 8, 0, 0, 0, 0), (1, 3, 38, 5, 2, 0, 48), (4, 3, 65, 5, 11, 0, 0), (7, 1, 200, 0, 0, 0, 0), (8, 3, 200, 0, 0, 0, 0), (11, 1, 0, 2147483648, 0, 0, 0), (12, 1, 85, 0, 0, 1, 0)]
def xg_w174 : List (List Nat) := []
def xg_x174 : List (Nat × Nat × Nat × Nat) := []
def xg_m174 : xv_M := (xg_c174, xg_w174, xg_x174, 1)
def xg_c175 : List xv_I := [(0, 3, 56, 3, 0, 0, 267), (3, 1, 34, 0, 0, 0, 0), (4, 1, 8, 0, 0, 0, 0), (5, 3, 98, 177, 1, 3, 269), (8, 1, 86, 0, 0, 0, 0)]
def xg_w175 : List (List Nat) := []
def xg_x175 : List (Nat × Nat × Nat × Nat) := []
def xg_m175 : xv_M := (xg_c175, xg_w175, xg_x175, 1)
def xg_c176 : List xv_I := [(0, 1, 8, 0, 0, 0, 0), (1, 3, 38, 5, 2, 0, 48), (4, 1, 85, 0, 0, 0, 0)]
def xg_w176 : List (List Nat) := []
def xg_x176 : List (Nat × Nat × Nat × Nat) := []
def xg_m176 : xv_M := (xg_c176, xg_w176, xg_x176, 1)
def xg_c177 : List xv_I := [(0, 1, 8, 0, 0, 0, 0), (1, 1, 8, 1, 0, 0, 0), (2, 3, 41, 3, 3, 2, 1), (5, 1, 8, 0, 0, 0, 0), (6, 3, 51, 0, 0, 0, 7), (9, 1, 8, 0, 0, 0, 0), (10, 1, 0, 2147483647, 0, 0, 0), (11, 3, 40, 3, 1, 0, 13), (14, 1, 8, 0, 0, 0, 0), (15, 1, 8, 0, 0, 0, 0), (16, 3, 38, 3, 3, 0, 1), (19, 3, 38, 5, 0, 0, 17), (22, 3, 40, 3, 2, 0, 22), (25, 1, 84, 0, 0, 0, 0)]
def xg_w177 : List (List Nat) := []
def xg_x177 : List (Nat × Nat × Nat × Nat) := []
def xg_m177 : xv_M := (xg_c177, xg_w177, xg_x177, 2)
def xg_c178 : List xv_I := [(0, 1, 8, 0, 0, 0, 0), (1, 3, 38, 3, 3, 0, 1), (4, 3, 38, 5, 0, 0, 17), (7, 1, 8, 0, 0, 0, 0), (8, 3, 38, 3, 2, 0, 22), (11, 3, 70, 10, 22, 0, 0), (14, 3, 200, 0, 0, 0, 0), (17, 1, 200, 0, 0, 0, 0), (18, 3, 200, 0, 0, 0, 0), (21, 1, 200, 0, 0, 0, 0), (22, 1, 84, 0, 0, 0, 0)]
def xg_w178 : List (List Nat) := []
def xg_x178 : List (Nat × Nat × Nat × Nat) := []
def xg_m178 : xv_M := (xg_c178, xg_w178, xg_x178, 1)
def xg_c179 : List xv_I := [(0, 1, 8, 0, 0, 0, 0), (1, 3, 38, 3, 0, 0, 25), (4, 1, 8, 0, 0, 0, 0), (5, 3, 38, 3, 3, 0, 1), (8, 3, 39, 5, 2, 0, 28), (11, 3, 70, 8, 18, 0, 0), (14, 1, 0, 2147483649, 0, 0, 0), (15, 3, 80, 9, 19, 0, 0), (18, 1, 0, 2147483648, 0, 0, 0), (19, 1, 85, 0, 0, 1, 0)]
def xg_w179 : List (List Nat) := []
def xg_x179 : List (Nat × Nat × Nat × Nat) := []
def xg_m179 : xv_M := (xg_c179, xg_w179, xg_x179, 1)
def xg_c180 : List xv_I := [(0, 1, 8, 0, 0, 0, 0), (1, 3, 100, 178, 0, 3, 31), (4, 1, 8, 0, 0, 0, 0), (5, 3, 38, 3, 0, 0, 25), (8, 1, 14, 1, 0, 0, 0), (9, 1, 6, 1, 0, 0, 0), (10, 1, 8, 0, 0, 0, 0), (11, 3, 38, 3, 3, 0, 1), (14, 3, 39, 5, 2, 0, 28), (17, 3, 72, 14, 28, 0, 0), (20, 3, 200, 0, 0, 0, 0), (23, 1, 200, 0, 0, 0, 0), (24, 3, 200, 0, 0, 0, 0), (27, 1, 200, 0, 0, 0, 0), (28, 1, 8, 0, 0, 0, 0), (29, 3, 38, 3, 3, 0, 1), (32, 3, 38, 5, 1, 0, 37), (35, 1, 16, 2, 0, 0, 0), (36, 1, 6, 1, 0, 0, 0), (37, 1, 8, 2, 0, 0, 0), (38, 1, 48, 0, 0, 0, 0), (39, 3, 72, 26, 50, 0, 0), (42, 3, 200, 0, 0, 0, 0), (45, 1, 200, 0, 0, 0, 0), (46, 3, 200, 0, 0, 0, 0), (49, 1, 200, 0, 0, 0, 0), (50, 1, 8, 0, 0, 0, 0), (51, 1, 6, 1, 0, 0, 0), (52, 1, 0, 2147483649, 0, 0, 0), (53, 1, 23, 0, 0, 0, 0), (54, 3, 40, 3, 0, 0, 25), (57, 1, 8, 2, 0, 0, 0), (58, 1, 8, 0, 0, 0, 0), (59, 1, 6, 1, 0, 0, 0), (60, 1, 36, 0, 0, 0, 0), (61, 3, 40, 3, 1, 0, 13), (64, 1, 46, 0, 0, 0, 0), (65, 1, 86, 0, 0, 0, 0)]
def xg_w180 : List (List Nat) := []
def xg_x180 : List (Nat × Nat × Nat × Nat) := []
def xg_m180 : xv_M := (xg_c180, xg_w180, xg_x180, 3)
def xg_c181 : List xv_I := [(0, 1, 6, 0, 0, 0, 0), (1, 1, 6, 1, 0, 0, 0), (2, 1, 5, 0, 0, 0, 0), (3, 3, 96, 182, 3, 0, 105), (6, 1, 85, 0, 0, 0, 0)]
def xg_w181 : List (List Nat) := []
def xg_x181 : List (Nat × Nat × Nat × Nat) := []
def xg_m181 : xv_M := (xg_c181, xg_w181, xg_x181, 2)
def xg_c182 : List xv_I := [(0, 1, 6, 0, 0, 0, 0), (1, 3, 66, 5, 9, 0, 0), (4, 1, 6, 0, 0, 0, 0), (5, 1, 6, 1, 0, 0, 0), (6, 3, 72, 10, 16, 0, 0), (9, 1, 200, 0, 0, 0, 0), (10, 1, 200, 0, 0, 0, 0), (11, 1, 200, 0, 0, 0, 0), (12, 3, 200, 0, 0, 0, 0), (15, 1, 200, 0, 0, 0, 0), (16, 1, 6, 0, 0, 0, 0), (17, 1, 85, 0, 0, 0, 0)]
def xg_w182 : List (List Nat) := []
def xg_x182 : List (Nat × Nat × Nat × Nat) := []
def xg_m182 : xv_M := (xg_c182, xg_w182, xg_x182, 3)
def xg_c183 : List xv_I := [(0, 3, 56, 15, 0, 0, 8), (3, 1, 34, 0, 0, 0, 0), (4, 3, 98, 0, 0, 15, 90), (7, 1, 16, 1, 0, 0, 0), (8, 3, 56, 25, 0, 0, 91), (11, 1, 34, 0, 0, 0, 0), (12, 3, 98, 101, 0, 25, 93), (15, 1, 16, 2, 0, 0, 0), (16, 1, 0, 2147483649, 0, 0, 0), (17, 2, 57, 5, 0, 0, 0), (19, 1, 16, 3, 0, 0, 0), (20, 1, 0, 2147483648, 0, 0, 0), (21, 2, 15, 4, 0, 0, 0), (23, 2, 7, 4, 0, 0, 0), (25, 1, 8, 0, 0, 0, 0), (26, 1, 48, 0, 0, 0, 0), (27, 1, 0, 2147483653, 0, 0, 0), (28, 1, 24, 0, 0, 0, 0), (29, 3, 74, 1114, 1826, 0, 0), (32, 1, 8, 0, 0, 0, 0), (33, 2, 7, 4, 0, 0, 0), (35, 1, 42, 0, 0, 0, 0), (36, 2, 1, 2147483679, 0, 0, 0), (38, 1, 26, 0, 0, 0, 0), (39, 117, 81, 0, 0, 0, 0), (156, 1, 8, 1, 0, 0, 0), (157, 1, 8, 0, 0, 0, 0), (158, 2, 7, 4, 0, 0, 0), (160, 1, 0, 2147483649, 0, 0, 0), (161, 1, 23, 0, 0, 0, 0), (162, 1, 42, 0, 0, 0, 0), (163, 1, 8, 0, 0, 0, 0), (164, 2, 7, 4, 0, 0, 0), (166, 1, 0, 2147483650, 0, 0, 0), (167, 1, 23, 0, 0, 0, 0), (168, 1, 42, 0, 0, 0, 0), (169, 3, 64, 39, 176, 0, 0), (172, 1, 0, 2147483649, 0, 0, 0), (173, 3, 80, 40, 177, 0, 0), (176, 1, 0, 2147483648, 0, 0, 0), (177, 1, 8, 3, 0, 0, 0), (178, 3, 96, 85, 4, 0, 94), (181, 2, 15, 5, 0, 0, 0), (183, 1, 8, 2, 0, 0, 0), (184, 1, 8, 0, 0, 0, 0), (185, 2, 7, 4, 0, 0, 0), (187, 1, 0, 2147483649, 0, 0, 0), (188, 1, 23, 0, 0, 0, 0), (189, 1, 42, 0, 0, 0, 0), (190, 1, 8, 0, 0, 0, 0), (191, 2, 7, 4, 0, 0, 0), (193, 1, 0, 2147483650, 0, 0, 0), (194, 1, 23, 0, 0, 0, 0), (195, 1, 42, 0, 0, 0, 0), (196, 3, 64, 57, 203, 0, 0), (199, 1, 0, 2147483649, 0, 0, 0), (200, 3, 80, 58, 204, 0, 0), (203, 1, 0, 2147483648, 0, 0, 0), (204, 3, 100, 123, 2, 25, 99), (207, 2, 15, 6, 0, 0, 0), (209, 1, 8, 2, 0, 0, 0), (210, 3, 100, 144, 0, 25, 100), (213, 2, 7, 5, 0, 0, 0), (215, 3, 70, 66, 220, 0, 0), (218, 1, 200, 0, 0, 0, 0), (219, 1, 200, 0, 0, 0, 0), (220, 2, 7, 5, 0, 0, 0), (222, 3, 65, 77, 237, 0, 0), (225, 1, 8, 3, 0, 0, 0), (226, 1, 0, 2147483648, 0, 0, 0), (227, 1, 44, 0, 0, 0, 0), (228, 2, 7, 6, 0, 0, 0), (230, 1, 29, 0, 0, 0, 0), (231, 1, 32, 0, 0, 0, 0), (232, 3, 64, 77, 237, 0, 0), (235, 1, 200, 0, 0, 0, 0), (236, 1, 200, 0, 0, 0, 0), (237, 3, 80, 1112, 1820, 0, 0), (240, 1, 8, 1, 0, 0, 0), (241, 1, 8, 0, 0, 0, 0), (242, 2, 7, 4, 0, 0, 0), (244, 1, 0, 2147483649, 0, 0, 0), (245, 1, 23, 0, 0, 0, 0), (246, 1, 42, 0, 0, 0, 0), (247, 1, 8, 0, 0, 0, 0), (248, 2, 7, 4, 0, 0, 0), (250, 1, 0, 2147483650, 0, 0, 0), (251, 1, 23, 0, 0, 0, 0), (252, 1, 42, 0, 0, 0, 0), (253, 1, 8, 3, 0, 0, 0), (254, 3, 96, 89, 4, 0, 103), (257, 2, 15, 5, 0, 0, 0), (259, 1, 8, 2, 0, 0, 0), (260, 1, 8, 0, 0, 0, 0), (261, 2, 7, 4, 0, 0, 0), (263, 1, 0, 2147483649, 0, 0, 0), (264, 1, 23, 0, 0, 0, 0), (265, 1, 42, 0, 0, 0, 0), (266, 1, 8, 0, 0, 0, 0), (267, 2, 7, 4, 0, 0, 0), (269, 1, 0, 2147483650, 0, 0, 0), (270, 1, 23, 0, 0, 0, 0), (271, 1, 42, 0, 0, 0, 0), (272, 3, 100, 128, 2, 25, 106), (275, 2, 15, 6, 0, 0, 0), (277, 1, 8, 2, 0, 0, 0), (278, 3, 100, 144, 0, 25, 100), (281, 2, 7, 5, 0, 0, 0), (283, 3, 70, 111, 288, 0, 0), (286, 1, 200, 0, 0, 0, 0), (287, 1, 200, 0, 0, 0, 0), (288, 2, 7, 5, 0, 0, 0), (290, 3, 65, 122, 305, 0, 0), (293, 1, 8, 3, 0, 0, 0), (294, 1, 0, 2147483648, 0, 0, 0), (295, 1, 44, 0, 0, 0, 0), (296, 2, 7, 6, 0, 0, 0), (298, 1, 29, 0, 0, 0, 0), (299, 1, 32, 0, 0, 0, 0), (300, 3, 64, 122, 305, 0, 0), (303, 1, 200, 0, 0, 0, 0), (304, 1, 200, 0, 0, 0, 0), (305, 3, 80, 1112, 1820, 0, 0), (308, 1, 8, 1, 0, 0, 0), (309, 1, 8, 0, 0, 0, 0), (310, 2, 7, 4, 0, 0, 0), (312, 1, 0, 2147483649, 0, 0, 0), (313, 1, 23, 0, 0, 0, 0), (314, 1, 42, 0, 0, 0, 0), (315, 1, 8, 3, 0, 0, 0), (316, 3, 96, 94, 3, 0, 107), (319, 2, 15, 5, 0, 0, 0), (321, 1, 8, 2, 0, 0, 0), (322, 1, 8, 0, 0, 0, 0), (323, 2, 7, 4, 0, 0, 0), (325, 1, 0, 2147483649, 0, 0, 0), (326, 1, 23, 0, 0, 0, 0), (327, 1, 42, 0, 0, 0, 0), (328, 3, 100, 136, 1, 25, 110), (331, 2, 15, 6, 0, 0, 0), (333, 1, 8, 2, 0, 0, 0), (334, 3, 100, 144, 0, 25, 100), (337, 2, 7, 5, 0, 0, 0), (339, 3, 70, 146, 344, 0, 0), (342, 1, 200, 0, 0, 0, 0), (343, 1, 200, 0, 0, 0, 0), (344, 2, 7, 5, 0, 0, 0), (346, 3, 65, 157, 361, 0, 0), (349, 1, 8, 3, 0, 0, 0), (350, 1, 0, 2147483648, 0, 0, 0), (351, 1, 44, 0, 0, 0, 0), (352, 2, 7, 6, 0, 0, 0), (354, 1, 29, 0, 0, 0, 0), (355, 1, 32, 0, 0, 0, 0), (356, 3, 64, 157, 361, 0, 0), (359, 1, 200, 0, 0, 0, 0), (360, 1, 200, 0, 0, 0, 0), (361, 3, 80, 1112, 1820, 0, 0), (364, 1, 8, 1, 0, 0, 0), (365, 1, 8, 0, 0, 0, 0), (366, 2, 7, 4, 0, 0, 0), (368, 1, 0, 2147483649, 0, 0, 0), (369, 1, 23, 0, 0, 0, 0), (370, 1, 42, 0, 0, 0, 0), (371, 1, 8, 0, 0, 0, 0), (372, 2, 7, 4, 0, 0, 0), (374, 1, 0, 2147483650, 0, 0, 0), (375, 1, 23, 0, 0, 0, 0), (376, 1, 42, 0, 0, 0, 0), (377, 1, 8, 3, 0, 0, 0), (378, 3, 96, 98, 4, 0, 111), (381, 2, 15, 5, 0, 0, 0), (383, 1, 8, 2, 0, 0, 0), (384, 1, 8, 0, 0, 0, 0), (385, 2, 7, 4, 0, 0, 0), (387, 1, 0, 2147483649, 0, 0, 0), (388, 1, 23, 0, 0, 0, 0), (389, 1, 42, 0, 0, 0, 0), (390, 1, 8, 0, 0, 0, 0), (391, 2, 7, 4, 0, 0, 0), (393, 1, 0, 2147483650, 0, 0, 0), (394, 1, 23, 0, 0, 0, 0), (395, 1, 42, 0, 0, 0, 0), (396, 3, 100, 143, 2, 25, 113), (399, 2, 15, 6, 0, 0, 0), (401, 1, 8, 2, 0, 0, 0), (402, 3, 100, 144, 0, 25, 100), (405, 2, 7, 5, 0, 0, 0), (407, 3, 70, 191, 412, 0, 0), (410, 1, 200, 0, 0, 0, 0), (411, 1, 200, 0, 0, 0, 0), (412, 2, 7, 5, 0, 0, 0), (414, 3, 65, 202, 429, 0, 0), (417, 1, 8, 3, 0, 0, 0), (418, 1, 0, 2147483648, 0, 0, 0), (419, 1, 44, 0, 0, 0, 0), (420, 2, 7, 6, 0, 0, 0), (422, 1, 29, 0, 0, 0, 0), (423, 1, 32, 0, 0, 0, 0), (424, 3, 64, 202, 429, 0, 0), (427, 1, 200, 0, 0, 0, 0), (428, 1, 200, 0, 0, 0, 0), (429, 3, 80, 1112, 1820, 0, 0), (432, 1, 8, 1, 0, 0, 0), (433, 1, 8, 0, 0, 0, 0), (434, 2, 7, 4, 0, 0, 0), (436, 1, 0, 2147483649, 0, 0, 0), (437, 1, 23, 0, 0, 0, 0), (438, 1, 42, 0, 0, 0, 0), (439, 1, 8, 0, 0, 0, 0), (440, 2, 7, 4, 0, 0, 0), (442, 1, 0, 2147483650, 0, 0, 0), (443, 1, 23, 0, 0, 0, 0), (444, 1, 42, 0, 0, 0, 0), (445, 1, 8, 3, 0, 0, 0), (446, 3, 96, 91, 4, 0, 114), (449, 2, 15, 5, 0, 0, 0), (451, 1, 8, 2, 0, 0, 0), (452, 1, 8, 0, 0, 0, 0), (453, 2, 7, 4, 0, 0, 0), (455, 1, 0, 2147483649, 0, 0, 0), (456, 1, 23, 0, 0, 0, 0), (457, 1, 42, 0, 0, 0, 0), (458, 1, 8, 0, 0, 0, 0), (459, 2, 7, 4, 0, 0, 0), (461, 1, 0, 2147483650, 0, 0, 0), (462, 1, 23, 0, 0, 0, 0), (463, 1, 42, 0, 0, 0, 0), (464, 3, 100, 131, 2, 25, 116), (467, 2, 15, 6, 0, 0, 0), (469, 1, 8, 2, 0, 0, 0), (470, 3, 100, 144, 0, 25, 100), (473, 2, 7, 5, 0, 0, 0), (475, 3, 70, 236, 480, 0, 0), (478, 1, 200, 0, 0, 0, 0), (479, 1, 200, 0, 0, 0, 0), (480, 2, 7, 5, 0, 0, 0), (482, 3, 65, 247, 497, 0, 0), (485, 1, 8, 3, 0, 0, 0), (486, 1, 0, 2147483648, 0, 0, 0), (487, 1, 44, 0, 0, 0, 0), (488, 2, 7, 6, 0, 0, 0), (490, 1, 29, 0, 0, 0, 0), (491, 1, 32, 0, 0, 0, 0), (492, 3, 64, 247, 497, 0, 0), (495, 1, 200, 0, 0, 0, 0), (496, 1, 200, 0, 0, 0, 0), (497, 3, 80, 1112, 1820, 0, 0), (500, 1, 8, 1, 0, 0, 0), (501, 1, 8, 0, 0, 0, 0), (502, 2, 7, 4, 0, 0, 0), (504, 1, 0, 2147483649, 0, 0, 0), (505, 1, 23, 0, 0, 0, 0), (506, 1, 42, 0, 0, 0, 0), (507, 1, 8, 0, 0, 0, 0), (508, 2, 7, 4, 0, 0, 0), (510, 1, 0, 2147483650, 0, 0, 0), (511, 1, 23, 0, 0, 0, 0), (512, 1, 42, 0, 0, 0, 0), (513, 1, 8, 0, 0, 0, 0), (514, 2, 7, 4, 0, 0, 0), (516, 1, 0, 2147483651, 0, 0, 0), (517, 1, 23, 0, 0, 0, 0), (518, 1, 42, 0, 0, 0, 0), (519, 1, 8, 0, 0, 0, 0), (520, 2, 7, 4, 0, 0, 0), (522, 1, 0, 2147483652, 0, 0, 0), (523, 1, 23, 0, 0, 0, 0), (524, 1, 42, 0, 0, 0, 0), (525, 1, 8, 3, 0, 0, 0), (526, 3, 96, 88, 6, 0, 117), (529, 2, 15, 5, 0, 0, 0), (531, 1, 8, 2, 0, 0, 0), (532, 1, 8, 0, 0, 0, 0), (533, 2, 7, 4, 0, 0, 0), (535, 1, 0, 2147483649, 0, 0, 0), (536, 1, 23, 0, 0, 0, 0), (537, 1, 42, 0, 0, 0, 0), (538, 1, 8, 0, 0, 0, 0), (539, 2, 7, 4, 0, 0, 0), (541, 1, 0, 2147483650, 0, 0, 0), (542, 1, 23, 0, 0, 0, 0), (543, 1, 42, 0, 0, 0, 0), (544, 1, 8, 0, 0, 0, 0), (545, 2, 7, 4, 0, 0, 0), (547, 1, 0, 2147483651, 0, 0, 0), (548, 1, 23, 0, 0, 0, 0), (549, 1, 42, 0, 0, 0, 0), (550, 1, 8, 0, 0, 0, 0), (551, 2, 7, 4, 0, 0, 0), (553, 1, 0, 2147483652, 0, 0, 0), (554, 1, 23, 0, 0, 0, 0), (555, 1, 42, 0, 0, 0, 0), (556, 3, 100, 127, 4, 25, 120), (559, 2, 15, 6, 0, 0, 0), (561, 1, 8, 2, 0, 0, 0), (562, 3, 100, 144, 0, 25, 100), (565, 2, 7, 5, 0, 0, 0), (567, 3, 70, 301, 572, 0, 0), (570, 1, 200, 0, 0, 0, 0), (571, 1, 200, 0, 0, 0, 0), (572, 2, 7, 5, 0, 0, 0), (574, 3, 65, 312, 589, 0, 0), (577, 1, 8, 3, 0, 0, 0), (578, 1, 0, 2147483648, 0, 0, 0), (579, 1, 44, 0, 0, 0, 0), (580, 2, 7, 6, 0, 0, 0), (582, 1, 29, 0, 0, 0, 0), (583, 1, 32, 0, 0, 0, 0), (584, 3, 64, 312, 589, 0, 0), (587, 1, 200, 0, 0, 0, 0), (588, 1, 200, 0, 0, 0, 0), (589, 3, 80, 1112, 1820, 0, 0), (592, 1, 8, 1, 0, 0, 0), (593, 1, 8, 0, 0, 0, 0), (594, 2, 7, 4, 0, 0, 0), (596, 1, 0, 2147483649, 0, 0, 0), (597, 1, 23, 0, 0, 0, 0), (598, 1, 42, 0, 0, 0, 0), (599, 1, 8, 0, 0, 0, 0), (600, 2, 7, 4, 0, 0, 0), (602, 1, 0, 2147483650, 0, 0, 0), (603, 1, 23, 0, 0, 0, 0), (604, 1, 42, 0, 0, 0, 0), (605, 1, 8, 3, 0, 0, 0), (606, 3, 96, 78, 4, 0, 121), (609, 2, 15, 5, 0, 0, 0), (611, 1, 8, 2, 0, 0, 0), (612, 1, 8, 0, 0, 0, 0), (613, 2, 7, 4, 0, 0, 0), (615, 1, 0, 2147483649, 0, 0, 0), (616, 1, 23, 0, 0, 0, 0), (617, 1, 42, 0, 0, 0, 0), (618, 1, 8, 0, 0, 0, 0), (619, 2, 7, 4, 0, 0, 0), (621, 1, 0, 2147483650, 0, 0, 0), (622, 1, 23, 0, 0, 0, 0), (623, 1, 42, 0, 0, 0, 0), (624, 3, 100, 103, 2, 25, 123), (627, 2, 15, 6, 0, 0, 0), (629, 1, 8, 2, 0, 0, 0), (630, 3, 100, 144, 0, 25, 100), (633, 2, 7, 5, 0, 0, 0), (635, 3, 70, 346, 640, 0, 0), (638, 1, 200, 0, 0, 0, 0), (639, 1, 200, 0, 0, 0, 0), (640, 2, 7, 5, 0, 0, 0), (642, 3, 65, 357, 657, 0, 0), (645, 1, 200, 0, 0, 0, 0), (646, 1, 200, 0, 0, 0, 0), (647, 1, 200, 0, 0, 0, 0), (648, 2, 200, 0, 0, 0, 0), (650, 1, 200, 0, 0, 0, 0), (651, 1, 200, 0, 0, 0, 0), (652, 3, 200, 0, 0, 0, 0), (655, 1, 200, 0, 0, 0, 0), (656, 1, 200, 0, 0, 0, 0), (657, 3, 80, 1112, 1820, 0, 0), (660, 1, 8, 1, 0, 0, 0), (661, 1, 8, 0, 0, 0, 0), (662, 2, 7, 4, 0, 0, 0), (664, 1, 0, 2147483649, 0, 0, 0), (665, 1, 23, 0, 0, 0, 0), (666, 1, 42, 0, 0, 0, 0), (667, 1, 8, 0, 0, 0, 0), (668, 2, 7, 4, 0, 0, 0), (670, 1, 0, 2147483650, 0, 0, 0), (671, 1, 23, 0, 0, 0, 0), (672, 1, 42, 0, 0, 0, 0), (673, 1, 8, 3, 0, 0, 0), (674, 3, 96, 90, 4, 0, 124), (677, 2, 15, 5, 0, 0, 0), (679, 1, 8, 2, 0, 0, 0), (680, 1, 8, 0, 0, 0, 0), (681, 2, 7, 4, 0, 0, 0), (683, 1, 0, 2147483649, 0, 0, 0), (684, 1, 23, 0, 0, 0, 0), (685, 1, 42, 0, 0, 0, 0), (686, 1, 8, 0, 0, 0, 0), (687, 2, 7, 4, 0, 0, 0), (689, 1, 0, 2147483650, 0, 0, 0), (690, 1, 23, 0, 0, 0, 0), (691, 1, 42, 0, 0, 0, 0), (692, 3, 100, 130, 2, 25, 126), (695, 2, 15, 6, 0, 0, 0), (697, 1, 8, 2, 0, 0, 0), (698, 3, 100, 144, 0, 25, 100), (701, 2, 7, 5, 0, 0, 0), (703, 3, 70, 391, 708, 0, 0), (706, 1, 200, 0, 0, 0, 0), (707, 1, 200, 0, 0, 0, 0), (708, 2, 7, 5, 0, 0, 0), (710, 3, 65, 402, 725, 0, 0), (713, 1, 200, 0, 0, 0, 0), (714, 1, 200, 0, 0, 0, 0), (715, 1, 200, 0, 0, 0, 0), (716, 2, 200, 0, 0, 0, 0), (718, 1, 200, 0, 0, 0, 0), (719, 1, 200, 0, 0, 0, 0), (720, 3, 200, 0, 0, 0, 0), (723, 1, 200, 0, 0, 0, 0), (724, 1, 200, 0, 0, 0, 0), (725, 3, 80, 1112, 1820, 0, 0), (728, 1, 8, 1, 0, 0, 0), (729, 1, 8, 0, 0, 0, 0), (730, 2, 7, 4, 0, 0, 0), (732, 1, 0, 2147483649, 0, 0, 0), (733, 1, 23, 0, 0, 0, 0), (734, 1, 42, 0, 0, 0, 0), (735, 1, 8, 0, 0, 0, 0), (736, 2, 7, 4, 0, 0, 0), (738, 1, 0, 2147483650, 0, 0, 0), (739, 1, 23, 0, 0, 0, 0), (740, 1, 42, 0, 0, 0, 0), (741, 1, 8, 3, 0, 0, 0), (742, 3, 96, 82, 4, 0, 127), (745, 2, 15, 5, 0, 0, 0), (747, 1, 8, 2, 0, 0, 0), (748, 1, 8, 0, 0, 0, 0), (749, 2, 7, 4, 0, 0, 0), (751, 1, 0, 2147483649, 0, 0, 0), (752, 1, 23, 0, 0, 0, 0), (753, 1, 42, 0, 0, 0, 0), (754, 1, 8, 0, 0, 0, 0), (755, 2, 7, 4, 0, 0, 0), (757, 1, 0, 2147483650, 0, 0, 0), (758, 1, 23, 0, 0, 0, 0), (759, 1, 42, 0, 0, 0, 0), (760, 3, 100, 109, 2, 25, 129), (763, 2, 15, 6, 0, 0, 0), (765, 1, 8, 2, 0, 0, 0), (766, 3, 100, 144, 0, 25, 100), (769, 2, 7, 5, 0, 0, 0), (771, 3, 70, 436, 776, 0, 0), (774, 1, 200, 0, 0, 0, 0), (775, 1, 200, 0, 0, 0, 0), (776, 2, 7, 5, 0, 0, 0), (778, 3, 65, 447, 793, 0, 0), (781, 1, 8, 3, 0, 0, 0), (782, 1, 0, 2147483648, 0, 0, 0), (783, 1, 44, 0, 0, 0, 0), (784, 2, 7, 6, 0, 0, 0), (786, 1, 29, 0, 0, 0, 0), (787, 1, 32, 0, 0, 0, 0), (788, 3, 64, 447, 793, 0, 0), (791, 1, 200, 0, 0, 0, 0), (792, 1, 200, 0, 0, 0, 0), (793, 3, 80, 1112, 1820, 0, 0), (796, 1, 8, 1, 0, 0, 0), (797, 1, 8, 0, 0, 0, 0), (798, 2, 7, 4, 0, 0, 0), (800, 1, 0, 2147483649, 0, 0, 0), (801, 1, 23, 0, 0, 0, 0), (802, 1, 42, 0, 0, 0, 0), (803, 3, 64, 457, 810, 0, 0), (806, 1, 0, 2147483649, 0, 0, 0), (807, 3, 80, 458, 811, 0, 0), (810, 1, 0, 2147483648, 0, 0, 0), (811, 3, 100, 27, 1, 15, 130), (814, 1, 8, 2, 0, 0, 0), (815, 1, 8, 0, 0, 0, 0), (816, 2, 7, 4, 0, 0, 0), (818, 1, 0, 2147483649, 0, 0, 0), (819, 1, 23, 0, 0, 0, 0), (820, 1, 42, 0, 0, 0, 0), (821, 3, 64, 468, 828, 0, 0), (824, 1, 0, 2147483649, 0, 0, 0), (825, 3, 80, 469, 829, 0, 0), (828, 1, 0, 2147483648, 0, 0, 0), (829, 3, 100, 137, 1, 25, 134), (832, 3, 70, 1112, 1820, 0, 0), (835, 1, 200, 0, 0, 0, 0), (836, 1, 200, 0, 0, 0, 0), (837, 1, 8, 1, 0, 0, 0), (838, 1, 8, 0, 0, 0, 0), (839, 2, 7, 4, 0, 0, 0), (841, 1, 0, 2147483649, 0, 0, 0), (842, 1, 23, 0, 0, 0, 0), (843, 1, 42, 0, 0, 0, 0), (844, 1, 8, 0, 0, 0, 0), (845, 2, 7, 4, 0, 0, 0), (847, 1, 0, 2147483650, 0, 0, 0), (848, 1, 23, 0, 0, 0, 0), (849, 1, 42, 0, 0, 0, 0), (850, 1, 8, 0, 0, 0, 0), (851, 2, 7, 4, 0, 0, 0), (853, 1, 0, 2147483651, 0, 0, 0), (854, 1, 23, 0, 0, 0, 0), (855, 1, 42, 0, 0, 0, 0), (856, 1, 8, 3, 0, 0, 0), (857, 3, 96, 80, 5, 0, 135), (860, 2, 15, 5, 0, 0, 0), (862, 1, 8, 2, 0, 0, 0), (863, 1, 8, 0, 0, 0, 0), (864, 2, 7, 4, 0, 0, 0), (866, 1, 0, 2147483649, 0, 0, 0), (867, 1, 23, 0, 0, 0, 0), (868, 1, 42, 0, 0, 0, 0), (869, 1, 8, 0, 0, 0, 0), (870, 2, 7, 4, 0, 0, 0), (872, 1, 0, 2147483650, 0, 0, 0), (873, 1, 23, 0, 0, 0, 0), (874, 1, 42, 0, 0, 0, 0), (875, 1, 8, 0, 0, 0, 0), (876, 2, 7, 4, 0, 0, 0), (878, 1, 0, 2147483651, 0, 0, 0), (879, 1, 23, 0, 0, 0, 0), (880, 1, 42, 0, 0, 0, 0), (881, 3, 100, 105, 3, 25, 138), (884, 2, 15, 6, 0, 0, 0), (886, 1, 8, 2, 0, 0, 0), (887, 3, 100, 144, 0, 25, 100), (890, 2, 7, 5, 0, 0, 0), (892, 3, 70, 516, 897, 0, 0), (895, 1, 200, 0, 0, 0, 0), (896, 1, 200, 0, 0, 0, 0), (897, 2, 7, 5, 0, 0, 0), (899, 3, 65, 527, 914, 0, 0), (902, 1, 200, 0, 0, 0, 0), (903, 1, 200, 0, 0, 0, 0), (904, 1, 200, 0, 0, 0, 0), (905, 2, 200, 0, 0, 0, 0), (907, 1, 200, 0, 0, 0, 0), (908, 1, 200, 0, 0, 0, 0), (909, 3, 200, 0, 0, 0, 0), (912, 1, 200, 0, 0, 0, 0), (913, 1, 200, 0, 0, 0, 0), (914, 3, 80, 1112, 1820, 0, 0), (917, 1, 8, 1, 0, 0, 0), (918, 1, 8, 0, 0, 0, 0), (919, 2, 7, 4, 0, 0, 0), (921, 1, 0, 2147483649, 0, 0, 0), (922, 1, 23, 0, 0, 0, 0), (923, 1, 42, 0, 0, 0, 0), (924, 1, 8, 0, 0, 0, 0), (925, 2, 7, 4, 0, 0, 0), (927, 1, 0, 2147483650, 0, 0, 0), (928, 1, 23, 0, 0, 0, 0), (929, 1, 42, 0, 0, 0, 0), (930, 1, 8, 0, 0, 0, 0), (931, 2, 7, 4, 0, 0, 0), (933, 1, 0, 2147483651, 0, 0, 0), (934, 1, 23, 0, 0, 0, 0), (935, 1, 42, 0, 0, 0, 0), (936, 1, 8, 3, 0, 0, 0), (937, 3, 96, 95, 5, 0, 139), (940, 2, 15, 5, 0, 0, 0), (942, 1, 8, 2, 0, 0, 0), (943, 1, 8, 0, 0, 0, 0), (944, 2, 7, 4, 0, 0, 0), (946, 1, 0, 2147483649, 0, 0, 0), (947, 1, 23, 0, 0, 0, 0), (948, 1, 42, 0, 0, 0, 0), (949, 1, 8, 0, 0, 0, 0), (950, 2, 7, 4, 0, 0, 0), (952, 1, 0, 2147483650, 0, 0, 0), (953, 1, 23, 0, 0, 0, 0), (954, 1, 42, 0, 0, 0, 0), (955, 1, 8, 0, 0, 0, 0), (956, 2, 7, 4, 0, 0, 0), (958, 1, 0, 2147483651, 0, 0, 0), (959, 1, 23, 0, 0, 0, 0), (960, 1, 42, 0, 0, 0, 0), (961, 3, 100, 139, 3, 25, 141), (964, 2, 15, 6, 0, 0, 0), (966, 1, 8, 2, 0, 0, 0), (967, 3, 100, 144, 0, 25, 100), (970, 2, 7, 5, 0, 0, 0), (972, 3, 70, 571, 977, 0, 0), (975, 1, 200, 0, 0, 0, 0), (976, 1, 200, 0, 0, 0, 0), (977, 2, 7, 5, 0, 0, 0), (979, 3, 65, 582, 994, 0, 0), (982, 1, 200, 0, 0, 0, 0), (983, 1, 200, 0, 0, 0, 0), (984, 1, 200, 0, 0, 0, 0), (985, 2, 200, 0, 0, 0, 0), (987, 1, 200, 0, 0, 0, 0), (988, 1, 200, 0, 0, 0, 0), (989, 3, 200, 0, 0, 0, 0), (992, 1, 200, 0, 0, 0, 0), (993, 1, 200, 0, 0, 0, 0), (994, 3, 80, 1112, 1820, 0, 0), (997, 1, 8, 1, 0, 0, 0), (998, 1, 8, 0, 0, 0, 0), (999, 2, 7, 4, 0, 0, 0), (1001, 1, 0, 2147483649, 0, 0, 0), (1002, 1, 23, 0, 0, 0, 0), (1003, 1, 42, 0, 0, 0, 0), (1004, 1, 8, 0, 0, 0, 0), (1005, 2, 7, 4, 0, 0, 0), (1007, 1, 0, 2147483650, 0, 0, 0), (1008, 1, 23, 0, 0, 0, 0), (1009, 1, 42, 0, 0, 0, 0), (1010, 1, 8, 3, 0, 0, 0), (1011, 3, 96, 86, 4, 0, 142), (1014, 2, 15, 5, 0, 0, 0), (1016, 1, 8, 2, 0, 0, 0), (1017, 1, 8, 0, 0, 0, 0), (1018, 2, 7, 4, 0, 0, 0), (1020, 1, 0, 2147483649, 0, 0, 0), (1021, 1, 23, 0, 0, 0, 0), (1022, 1, 42, 0, 0, 0, 0), (1023, 1, 8, 0, 0, 0, 0), (1024, 2, 7, 4, 0, 0, 0), (1026, 1, 0, 2147483650, 0, 0, 0), (1027, 1, 23, 0, 0, 0, 0), (1028, 1, 42, 0, 0, 0, 0), (1029, 3, 100, 124, 2, 25, 144), (1032, 2, 15, 6, 0, 0, 0), (1034, 1, 8, 2, 0, 0, 0), (1035, 3, 100, 144, 0, 25, 100), (1038, 2, 7, 5, 0, 0, 0), (1040, 3, 70, 616, 1045, 0, 0), (1043, 1, 200, 0, 0, 0, 0), (1044, 1, 200, 0, 0, 0, 0), (1045, 2, 7, 5, 0, 0, 0), (1047, 3, 65, 627, 1062, 0, 0), (1050, 1, 8, 3, 0, 0, 0), (1051, 1, 0, 2147483648, 0, 0, 0), (1052, 1, 44, 0, 0, 0, 0), (1053, 2, 7, 6, 0, 0, 0), (1055, 1, 29, 0, 0, 0, 0), (1056, 1, 32, 0, 0, 0, 0), (1057, 3, 64, 627, 1062, 0, 0), (1060, 1, 200, 0, 0, 0, 0), (1061, 1, 200, 0, 0, 0, 0), (1062, 3, 80, 1112, 1820, 0, 0), (1065, 1, 8, 1, 0, 0, 0), (1066, 1, 8, 3, 0, 0, 0), (1067, 3, 96, 96, 2, 0, 145), (1070, 2, 15, 5, 0, 0, 0), (1072, 1, 8, 2, 0, 0, 0), (1073, 3, 100, 140, 0, 25, 148), (1076, 2, 15, 6, 0, 0, 0), (1078, 1, 8, 2, 0, 0, 0), (1079, 3, 100, 144, 0, 25, 100), (1082, 2, 7, 5, 0, 0, 0), (1084, 3, 70, 641, 1089, 0, 0), (1087, 1, 200, 0, 0, 0, 0), (1088, 1, 200, 0, 0, 0, 0), (1089, 2, 7, 5, 0, 0, 0), (1091, 3, 65, 652, 1106, 0, 0), (1094, 1, 200, 0, 0, 0, 0), (1095, 1, 200, 0, 0, 0, 0), (1096, 1, 200, 0, 0, 0, 0), (1097, 2, 200, 0, 0, 0, 0), (1099, 1, 200, 0, 0, 0, 0), (1100, 1, 200, 0, 0, 0, 0), (1101, 3, 200, 0, 0, 0, 0), (1104, 1, 200, 0, 0, 0, 0), (1105, 1, 200, 0, 0, 0, 0), (1106, 3, 80, 1112, 1820, 0, 0), (1109, 1, 8, 1, 0, 0, 0), (1110, 1, 8, 0, 0, 0, 0), (1111, 2, 7, 4, 0, 0, 0), (1113, 1, 0, 2147483649, 0, 0, 0), (1114, 1, 23, 0, 0, 0, 0), (1115, 1, 42, 0, 0, 0, 0), (1116, 1, 8, 3, 0, 0, 0), (1117, 3, 96, 92, 3, 0, 149), (1120, 2, 15, 5, 0, 0, 0), (1122, 1, 8, 2, 0, 0, 0), (1123, 1, 8, 0, 0, 0, 0), (1124, 2, 7, 4, 0, 0, 0), (1126, 1, 0, 2147483649, 0, 0, 0), (1127, 1, 23, 0, 0, 0, 0), (1128, 1, 42, 0, 0, 0, 0), (1129, 3, 100, 133, 1, 25, 151), (1132, 2, 15, 6, 0, 0, 0), (1134, 1, 8, 2, 0, 0, 0), (1135, 3, 100, 144, 0, 25, 100), (1138, 2, 7, 5, 0, 0, 0), (1140, 3, 70, 676, 1145, 0, 0), (1143, 1, 200, 0, 0, 0, 0), (1144, 1, 200, 0, 0, 0, 0), (1145, 2, 7, 5, 0, 0, 0), (1147, 3, 65, 687, 1162, 0, 0), (1150, 1, 8, 3, 0, 0, 0), (1151, 1, 0, 2147483648, 0, 0, 0), (1152, 1, 44, 0, 0, 0, 0), (1153, 2, 7, 6, 0, 0, 0), (1155, 1, 29, 0, 0, 0, 0), (1156, 1, 32, 0, 0, 0, 0), (1157, 3, 64, 687, 1162, 0, 0), (1160, 1, 200, 0, 0, 0, 0), (1161, 1, 200, 0, 0, 0, 0), (1162, 3, 80, 1112, 1820, 0, 0), (1165, 1, 8, 1, 0, 0, 0), (1166, 1, 8, 0, 0, 0, 0), (1167, 2, 7, 4, 0, 0, 0), (1169, 1, 0, 2147483649, 0, 0, 0), (1170, 1, 23, 0, 0, 0, 0), (1171, 1, 42, 0, 0, 0, 0), (1172, 1, 8, 0, 0, 0, 0), (1173, 2, 7, 4, 0, 0, 0), (1175, 1, 0, 2147483650, 0, 0, 0), (1176, 1, 23, 0, 0, 0, 0), (1177, 1, 42, 0, 0, 0, 0), (1178, 1, 8, 3, 0, 0, 0), (1179, 3, 96, 93, 4, 0, 152), (1182, 2, 15, 5, 0, 0, 0), (1184, 1, 8, 2, 0, 0, 0), (1185, 1, 8, 0, 0, 0, 0), (1186, 2, 7, 4, 0, 0, 0), (1188, 1, 0, 2147483649, 0, 0, 0), (1189, 1, 23, 0, 0, 0, 0), (1190, 1, 42, 0, 0, 0, 0), (1191, 1, 8, 0, 0, 0, 0), (1192, 2, 7, 4, 0, 0, 0), (1194, 1, 0, 2147483650, 0, 0, 0), (1195, 1, 23, 0, 0, 0, 0), (1196, 1, 42, 0, 0, 0, 0), (1197, 3, 100, 135, 2, 25, 154), (1200, 2, 15, 6, 0, 0, 0), (1202, 1, 8, 2, 0, 0, 0), (1203, 3, 100, 144, 0, 25, 100), (1206, 2, 7, 5, 0, 0, 0), (1208, 3, 70, 721, 1213, 0, 0), (1211, 1, 200, 0, 0, 0, 0), (1212, 1, 200, 0, 0, 0, 0), (1213, 2, 7, 5, 0, 0, 0), (1215, 3, 65, 732, 1230, 0, 0), (1218, 1, 200, 0, 0, 0, 0), (1219, 1, 200, 0, 0, 0, 0), (1220, 1, 200, 0, 0, 0, 0), (1221, 2, 200, 0, 0, 0, 0), (1223, 1, 200, 0, 0, 0, 0), (1224, 1, 200, 0, 0, 0, 0), (1225, 3, 200, 0, 0, 0, 0), (1228, 1, 200, 0, 0, 0, 0), (1229, 1, 200, 0, 0, 0, 0), (1230, 3, 80, 1112, 1820, 0, 0), (1233, 1, 8, 1, 0, 0, 0), (1234, 1, 8, 0, 0, 0, 0), (1235, 2, 7, 4, 0, 0, 0), (1237, 1, 0, 2147483649, 0, 0, 0), (1238, 1, 23, 0, 0, 0, 0), (1239, 1, 42, 0, 0, 0, 0), (1240, 1, 8, 0, 0, 0, 0), (1241, 2, 7, 4, 0, 0, 0), (1243, 1, 0, 2147483650, 0, 0, 0), (1244, 1, 23, 0, 0, 0, 0), (1245, 1, 42, 0, 0, 0, 0), (1246, 1, 8, 3, 0, 0, 0), (1247, 3, 96, 81, 4, 0, 155), (1250, 2, 15, 5, 0, 0, 0), (1252, 1, 8, 2, 0, 0, 0), (1253, 1, 8, 0, 0, 0, 0), (1254, 2, 7, 4, 0, 0, 0), (1256, 1, 0, 2147483649, 0, 0, 0), (1257, 1, 23, 0, 0, 0, 0), (1258, 1, 42, 0, 0, 0, 0), (1259, 1, 8, 0, 0, 0, 0), (1260, 2, 7, 4, 0, 0, 0), (1262, 1, 0, 2147483650, 0, 0, 0), (1263, 1, 23, 0, 0, 0, 0), (1264, 1, 42, 0, 0, 0, 0), (1265, 3, 100, 108, 2, 25, 157), (1268, 2, 15, 6, 0, 0, 0), (1270, 1, 8, 2, 0, 0, 0), (1271, 3, 100, 144, 0, 25, 100), (1274, 2, 7, 5, 0, 0, 0), (1276, 3, 70, 766, 1281, 0, 0), (1279, 1, 200, 0, 0, 0, 0), (1280, 1, 200, 0, 0, 0, 0), (1281, 2, 7, 5, 0, 0, 0), (1283, 3, 65, 777, 1298, 0, 0), (1286, 1, 200, 0, 0, 0, 0), (1287, 1, 200, 0, 0, 0, 0), (1288, 1, 200, 0, 0, 0, 0), (1289, 2, 200, 0, 0, 0, 0), (1291, 1, 200, 0, 0, 0, 0), (1292, 1, 200, 0, 0, 0, 0), (1293, 3, 200, 0, 0, 0, 0), (1296, 1, 200, 0, 0, 0, 0), (1297, 1, 200, 0, 0, 0, 0), (1298, 3, 80, 1112, 1820, 0, 0), (1301, 1, 8, 1, 0, 0, 0), (1302, 1, 8, 0, 0, 0, 0), (1303, 2, 7, 4, 0, 0, 0), (1305, 1, 0, 2147483649, 0, 0, 0), (1306, 1, 23, 0, 0, 0, 0), (1307, 1, 42, 0, 0, 0, 0), (1308, 1, 8, 0, 0, 0, 0), (1309, 2, 7, 4, 0, 0, 0), (1311, 1, 0, 2147483650, 0, 0, 0), (1312, 1, 23, 0, 0, 0, 0), (1313, 1, 42, 0, 0, 0, 0), (1314, 1, 8, 3, 0, 0, 0), (1315, 3, 96, 97, 4, 0, 158), (1318, 2, 15, 5, 0, 0, 0), (1320, 1, 8, 2, 0, 0, 0), (1321, 1, 8, 0, 0, 0, 0), (1322, 2, 7, 4, 0, 0, 0), (1324, 1, 0, 2147483649, 0, 0, 0), (1325, 1, 23, 0, 0, 0, 0), (1326, 1, 42, 0, 0, 0, 0), (1327, 1, 8, 0, 0, 0, 0), (1328, 2, 7, 4, 0, 0, 0), (1330, 1, 0, 2147483650, 0, 0, 0), (1331, 1, 23, 0, 0, 0, 0), (1332, 1, 42, 0, 0, 0, 0), (1333, 3, 100, 142, 2, 25, 160), (1336, 2, 15, 6, 0, 0, 0), (1338, 1, 8, 2, 0, 0, 0), (1339, 3, 100, 144, 0, 25, 100), (1342, 2, 7, 5, 0, 0, 0), (1344, 3, 70, 811, 1349, 0, 0), (1347, 1, 200, 0, 0, 0, 0), (1348, 1, 200, 0, 0, 0, 0), (1349, 2, 7, 5, 0, 0, 0), (1351, 3, 65, 822, 1366, 0, 0), (1354, 1, 200, 0, 0, 0, 0), (1355, 1, 200, 0, 0, 0, 0), (1356, 1, 200, 0, 0, 0, 0), (1357, 2, 200, 0, 0, 0, 0), (1359, 1, 200, 0, 0, 0, 0), (1360, 1, 200, 0, 0, 0, 0), (1361, 3, 200, 0, 0, 0, 0), (1364, 1, 200, 0, 0, 0, 0), (1365, 1, 200, 0, 0, 0, 0), (1366, 3, 80, 1112, 1820, 0, 0), (1369, 1, 8, 1, 0, 0, 0), (1370, 1, 8, 0, 0, 0, 0), (1371, 2, 7, 4, 0, 0, 0), (1373, 1, 0, 2147483649, 0, 0, 0), (1374, 1, 23, 0, 0, 0, 0), (1375, 1, 42, 0, 0, 0, 0), (1376, 1, 8, 0, 0, 0, 0), (1377, 2, 7, 4, 0, 0, 0), (1379, 1, 0, 2147483650, 0, 0, 0), (1380, 1, 23, 0, 0, 0, 0), (1381, 1, 42, 0, 0, 0, 0), (1382, 1, 8, 3, 0, 0, 0), (1383, 3, 96, 99, 4, 0, 161), (1386, 2, 15, 5, 0, 0, 0), (1388, 1, 8, 2, 0, 0, 0), (1389, 1, 8, 0, 0, 0, 0), (1390, 2, 7, 4, 0, 0, 0), (1392, 1, 0, 2147483649, 0, 0, 0), (1393, 1, 23, 0, 0, 0, 0), (1394, 1, 42, 0, 0, 0, 0), (1395, 1, 8, 0, 0, 0, 0), (1396, 2, 7, 4, 0, 0, 0), (1398, 1, 0, 2147483650, 0, 0, 0), (1399, 1, 23, 0, 0, 0, 0), (1400, 1, 42, 0, 0, 0, 0), (1401, 3, 100, 145, 2, 25, 163), (1404, 2, 15, 6, 0, 0, 0), (1406, 1, 8, 2, 0, 0, 0), (1407, 3, 100, 144, 0, 25, 100), (1410, 2, 7, 5, 0, 0, 0), (1412, 3, 70, 856, 1417, 0, 0), (1415, 1, 200, 0, 0, 0, 0), (1416, 1, 200, 0, 0, 0, 0), (1417, 2, 7, 5, 0, 0, 0), (1419, 3, 65, 867, 1434, 0, 0), (1422, 1, 200, 0, 0, 0, 0), (1423, 1, 200, 0, 0, 0, 0), (1424, 1, 200, 0, 0, 0, 0), (1425, 2, 200, 0, 0, 0, 0), (1427, 1, 200, 0, 0, 0, 0), (1428, 1, 200, 0, 0, 0, 0), (1429, 3, 200, 0, 0, 0, 0), (1432, 1, 200, 0, 0, 0, 0), (1433, 1, 200, 0, 0, 0, 0), (1434, 3, 80, 1112, 1820, 0, 0), (1437, 1, 8, 1, 0, 0, 0), (1438, 1, 8, 0, 0, 0, 0), (1439, 2, 7, 4, 0, 0, 0), (1441, 1, 0, 2147483649, 0, 0, 0), (1442, 1, 23, 0, 0, 0, 0), (1443, 1, 42, 0, 0, 0, 0), (1444, 1, 8, 3, 0, 0, 0), (1445, 3, 96, 84, 3, 0, 164), (1448, 2, 15, 5, 0, 0, 0), (1450, 1, 8, 2, 0, 0, 0), (1451, 1, 8, 0, 0, 0, 0), (1452, 2, 7, 4, 0, 0, 0), (1454, 1, 0, 2147483649, 0, 0, 0), (1455, 1, 23, 0, 0, 0, 0), (1456, 1, 42, 0, 0, 0, 0), (1457, 3, 100, 111, 1, 25, 166), (1460, 2, 15, 6, 0, 0, 0), (1462, 1, 8, 2, 0, 0, 0), (1463, 3, 100, 144, 0, 25, 100), (1466, 2, 7, 5, 0, 0, 0), (1468, 3, 70, 891, 1473, 0, 0), (1471, 1, 200, 0, 0, 0, 0), (1472, 1, 200, 0, 0, 0, 0), (1473, 2, 7, 5, 0, 0, 0), (1475, 3, 65, 902, 1490, 0, 0), (1478, 1, 8, 3, 0, 0, 0), (1479, 1, 0, 2147483648, 0, 0, 0), (1480, 1, 44, 0, 0, 0, 0), (1481, 2, 7, 6, 0, 0, 0), (1483, 1, 29, 0, 0, 0, 0), (1484, 1, 32, 0, 0, 0, 0), (1485, 3, 64, 902, 1490, 0, 0), (1488, 1, 200, 0, 0, 0, 0), (1489, 1, 200, 0, 0, 0, 0), (1490, 3, 80, 1112, 1820, 0, 0), (1493, 1, 8, 1, 0, 0, 0), (1494, 3, 100, 19, 0, 15, 167), (1497, 2, 21, 5, 0, 0, 0), (1499, 1, 8, 2, 0, 0, 0), (1500, 3, 100, 126, 0, 25, 171), (1503, 2, 21, 7, 0, 0, 0), (1505, 2, 13, 5, 0, 0, 0), (1507, 2, 13, 7, 0, 0, 0), (1509, 1, 33, 0, 0, 0, 0), (1510, 3, 64, 923, 1531, 0, 0), (1513, 2, 200, 0, 0, 0, 0), (1515, 2, 200, 0, 0, 0, 0), (1517, 1, 200, 0, 0, 0, 0), (1518, 3, 200, 0, 0, 0, 0), (1521, 2, 200, 0, 0, 0, 0), (1523, 2, 200, 0, 0, 0, 0), (1525, 1, 200, 0, 0, 0, 0), (1526, 3, 200, 0, 0, 0, 0), (1529, 1, 200, 0, 0, 0, 0), (1530, 1, 200, 0, 0, 0, 0), (1531, 3, 80, 1112, 1820, 0, 0), (1534, 1, 8, 1, 0, 0, 0), (1535, 1, 8, 0, 0, 0, 0), (1536, 2, 7, 4, 0, 0, 0), (1538, 1, 0, 2147483649, 0, 0, 0), (1539, 1, 23, 0, 0, 0, 0), (1540, 1, 42, 0, 0, 0, 0), (1541, 1, 8, 3, 0, 0, 0), (1542, 3, 96, 87, 3, 0, 172), (1545, 2, 15, 5, 0, 0, 0), (1547, 1, 8, 2, 0, 0, 0), (1548, 1, 8, 0, 0, 0, 0), (1549, 2, 7, 4, 0, 0, 0), (1551, 1, 0, 2147483649, 0, 0, 0), (1552, 1, 23, 0, 0, 0, 0), (1553, 1, 42, 0, 0, 0, 0), (1554, 3, 100, 125, 1, 25, 174), (1557, 2, 15, 6, 0, 0, 0), (1559, 1, 8, 2, 0, 0, 0), (1560, 3, 100, 144, 0, 25, 100), (1563, 2, 7, 5, 0, 0, 0), (1565, 3, 70, 947, 1570, 0, 0), (1568, 1, 200, 0, 0, 0, 0), (1569, 1, 200, 0, 0, 0, 0), (1570, 2, 7, 5, 0, 0, 0), (1572, 3, 65, 958, 1587, 0, 0), (1575, 1, 8, 3, 0, 0, 0), (1576, 1, 0, 2147483648, 0, 0, 0), (1577, 1, 44, 0, 0, 0, 0), (1578, 2, 7, 6, 0, 0, 0), (1580, 1, 29, 0, 0, 0, 0), (1581, 1, 32, 0, 0, 0, 0), (1582, 3, 64, 958, 1587, 0, 0), (1585, 1, 200, 0, 0, 0, 0), (1586, 1, 200, 0, 0, 0, 0), (1587, 3, 80, 1112, 1820, 0, 0), (1590, 1, 8, 1, 0, 0, 0), (1591, 1, 8, 0, 0, 0, 0), (1592, 2, 7, 4, 0, 0, 0), (1594, 1, 0, 2147483649, 0, 0, 0), (1595, 1, 23, 0, 0, 0, 0), (1596, 1, 42, 0, 0, 0, 0), (1597, 1, 8, 0, 0, 0, 0), (1598, 2, 7, 4, 0, 0, 0), (1600, 1, 0, 2147483650, 0, 0, 0), (1601, 1, 23, 0, 0, 0, 0), (1602, 1, 42, 0, 0, 0, 0), (1603, 1, 8, 0, 0, 0, 0), (1604, 2, 7, 4, 0, 0, 0), (1606, 1, 0, 2147483651, 0, 0, 0), (1607, 1, 23, 0, 0, 0, 0), (1608, 1, 42, 0, 0, 0, 0), (1609, 1, 8, 3, 0, 0, 0), (1610, 3, 96, 100, 5, 0, 175), (1613, 2, 15, 5, 0, 0, 0), (1615, 1, 8, 2, 0, 0, 0), (1616, 1, 8, 0, 0, 0, 0), (1617, 2, 7, 4, 0, 0, 0), (1619, 1, 0, 2147483649, 0, 0, 0), (1620, 1, 23, 0, 0, 0, 0), (1621, 1, 42, 0, 0, 0, 0), (1622, 1, 8, 0, 0, 0, 0), (1623, 2, 7, 4, 0, 0, 0), (1625, 1, 0, 2147483650, 0, 0, 0), (1626, 1, 23, 0, 0, 0, 0), (1627, 1, 42, 0, 0, 0, 0), (1628, 1, 8, 0, 0, 0, 0), (1629, 2, 7, 4, 0, 0, 0), (1631, 1, 0, 2147483651, 0, 0, 0), (1632, 1, 23, 0, 0, 0, 0), (1633, 1, 42, 0, 0, 0, 0), (1634, 3, 100, 146, 3, 25, 177), (1637, 2, 15, 6, 0, 0, 0), (1639, 1, 8, 2, 0, 0, 0), (1640, 3, 100, 144, 0, 25, 100), (1643, 2, 7, 5, 0, 0, 0), (1645, 3, 70, 1002, 1650, 0, 0), (1648, 1, 200, 0, 0, 0, 0), (1649, 1, 200, 0, 0, 0, 0), (1650, 2, 7, 5, 0, 0, 0), (1652, 3, 65, 1013, 1667, 0, 0), (1655, 1, 200, 0, 0, 0, 0), (1656, 1, 200, 0, 0, 0, 0), (1657, 1, 200, 0, 0, 0, 0), (1658, 2, 200, 0, 0, 0, 0), (1660, 1, 200, 0, 0, 0, 0), (1661, 1, 200, 0, 0, 0, 0), (1662, 3, 200, 0, 0, 0, 0), (1665, 1, 200, 0, 0, 0, 0), (1666, 1, 200, 0, 0, 0, 0), (1667, 3, 80, 1112, 1820, 0, 0), (1670, 1, 8, 1, 0, 0, 0), (1671, 1, 8, 0, 0, 0, 0), (1672, 2, 7, 4, 0, 0, 0), (1674, 1, 0, 2147483649, 0, 0, 0), (1675, 1, 23, 0, 0, 0, 0), (1676, 1, 42, 0, 0, 0, 0), (1677, 1, 8, 0, 0, 0, 0), (1678, 2, 7, 4, 0, 0, 0), (1680, 1, 0, 2147483650, 0, 0, 0), (1681, 1, 23, 0, 0, 0, 0), (1682, 1, 42, 0, 0, 0, 0), (1683, 1, 8, 3, 0, 0, 0), (1684, 3, 96, 79, 4, 0, 178), (1687, 2, 15, 5, 0, 0, 0), (1689, 1, 8, 2, 0, 0, 0), (1690, 1, 8, 0, 0, 0, 0), (1691, 2, 7, 4, 0, 0, 0), (1693, 1, 0, 2147483649, 0, 0, 0), (1694, 1, 23, 0, 0, 0, 0), (1695, 1, 42, 0, 0, 0, 0), (1696, 1, 8, 0, 0, 0, 0), (1697, 2, 7, 4, 0, 0, 0), (1699, 1, 0, 2147483650, 0, 0, 0), (1700, 1, 23, 0, 0, 0, 0), (1701, 1, 42, 0, 0, 0, 0), (1702, 3, 100, 104, 2, 25, 180), (1705, 2, 15, 6, 0, 0, 0), (1707, 1, 8, 2, 0, 0, 0), (1708, 3, 100, 144, 0, 25, 100), (1711, 2, 7, 5, 0, 0, 0), (1713, 3, 70, 1047, 1718, 0, 0), (1716, 1, 200, 0, 0, 0, 0), (1717, 1, 200, 0, 0, 0, 0), (1718, 2, 7, 5, 0, 0, 0), (1720, 3, 65, 1058, 1735, 0, 0), (1723, 1, 200, 0, 0, 0, 0), (1724, 1, 200, 0, 0, 0, 0), (1725, 1, 200, 0, 0, 0, 0), (1726, 2, 200, 0, 0, 0, 0), (1728, 1, 200, 0, 0, 0, 0), (1729, 1, 200, 0, 0, 0, 0), (1730, 3, 200, 0, 0, 0, 0), (1733, 1, 200, 0, 0, 0, 0), (1734, 1, 200, 0, 0, 0, 0), (1735, 3, 80, 1112, 1820, 0, 0), (1738, 1, 8, 1, 0, 0, 0), (1739, 1, 8, 0, 0, 0, 0), (1740, 2, 7, 4, 0, 0, 0), (1742, 1, 0, 2147483649, 0, 0, 0), (1743, 1, 23, 0, 0, 0, 0), (1744, 1, 42, 0, 0, 0, 0), (1745, 1, 8, 0, 0, 0, 0), (1746, 2, 7, 4, 0, 0, 0), (1748, 1, 0, 2147483650, 0, 0, 0), (1749, 1, 23, 0, 0, 0, 0), (1750, 1, 42, 0, 0, 0, 0), (1751, 1, 8, 3, 0, 0, 0), (1752, 3, 96, 83, 4, 0, 181), (1755, 2, 15, 5, 0, 0, 0), (1757, 1, 8, 2, 0, 0, 0), (1758, 1, 8, 0, 0, 0, 0), (1759, 2, 7, 4, 0, 0, 0), (1761, 1, 0, 2147483649, 0, 0, 0), (1762, 1, 23, 0, 0, 0, 0), (1763, 1, 42, 0, 0, 0, 0), (1764, 1, 8, 0, 0, 0, 0), (1765, 2, 7, 4, 0, 0, 0), (1767, 1, 0, 2147483650, 0, 0, 0), (1768, 1, 23, 0, 0, 0, 0), (1769, 1, 42, 0, 0, 0, 0), (1770, 3, 100, 110, 2, 25, 183), (1773, 2, 15, 6, 0, 0, 0), (1775, 1, 8, 2, 0, 0, 0), (1776, 3, 100, 144, 0, 25, 100), (1779, 2, 7, 5, 0, 0, 0), (1781, 3, 70, 1092, 1786, 0, 0), (1784, 1, 200, 0, 0, 0, 0), (1785, 1, 200, 0, 0, 0, 0), (1786, 2, 7, 5, 0, 0, 0), (1788, 3, 65, 1103, 1803, 0, 0), (1791, 1, 8, 3, 0, 0, 0), (1792, 1, 0, 2147483648, 0, 0, 0), (1793, 1, 44, 0, 0, 0, 0), (1794, 2, 7, 6, 0, 0, 0), (1796, 1, 29, 0, 0, 0, 0), (1797, 1, 32, 0, 0, 0, 0), (1798, 3, 64, 1103, 1803, 0, 0), (1801, 1, 200, 0, 0, 0, 0), (1802, 1, 200, 0, 0, 0, 0), (1803, 3, 80, 1112, 1820, 0, 0), (1806, 1, 8, 1, 0, 0, 0), (1807, 3, 100, 7, 0, 15, 184), (1810, 1, 8, 2, 0, 0, 0), (1811, 3, 100, 107, 0, 25, 188), (1814, 1, 32, 0, 0, 0, 0), (1815, 3, 64, 1112, 1820, 0, 0), (1818, 1, 200, 0, 0, 0, 0), (1819, 1, 200, 0, 0, 0, 0), (1820, 3, 22, 4, 2147483653, 0, 0), (1823, 3, 80, 13, 23, 0, 0), (1826, 1, 0, 2147483649, 0, 0, 0), (1827, 1, 85, 0, 0, 1, 0)]
def xg_w183 : List (List Nat) := [[2147483648, 1112, 25, 78, 123, 158, 203, 248, 313, 358, 403, 448, 473, 528, 583, 628, 653, 688, 733, 778, 823, 868, 903, 924, 959, 1014, 1059, 1104]]
def xg_x183 : List (Nat × Nat × Nat × Nat) := []
def xg_m183 : xv_M := (xg_c183, xg_w183, xg_x183, 9)
def xg_MT : List (List xv_M) := [[xg_m0, xg_m1, xg_m2, xg_m3, xg_m4, xg_m5, xg_m6, xg_m7, xg_m8, xg_m9, xg_m10, xg_m11, xg_m12, xg_m13, xg_m14, xg_m15], [xg_m16, xg_m17, xg_m18, xg_m19, xg_m20, xg_m21, xg_m22, xg_m23, xg_m24, xg_m25, xg_m26, xg_m27, xg_m28, xg_m29, xg_m30, xg_m31], [xg_m32, xg_m33, xg_m34, xg_m35, xg_m36, xg_m37, xg_m38, xg_m39, xg_m40, xg_m41, xg_m42, xg_m43, xg_m44, xg_m45, xg_m46, xg_m47], [xg_m48, xg_m49, xg_m50, xg_m51, xg_m52, xg_m53, xg_m54, xg_m55, xg_m56, xg_m57, xg_m58, xg_m59, xg_m60, xg_m61, xg_m62, xg_m63], [xg_m64, xg_m65, xg_m66, xg_m67, xg_m68, xg_m69, xg_m70, xg_m71, xg_m72, xg_m73, xg_m74, xg_m75, xg_m76, xg_m77, xg_m78, xg_m79], [xg_m80, xg_m81, xg_m82, xg_m83, xg_m84, xg_m85, xg_m86, xg_m87, xg_m88, xg_m89, xg_m90, xg_m91, xg_m92, xg_m93, xg_m94, xg_m95], [xg_m96, xg_m97, xg_m98, xg_m99, xg_m100, xg_m101, xg_m102, xg_m103, xg_m104, xg_m105, xg_m106, xg_m107, xg_m108, xg_m109, xg_m110, xg_m111], [xg_m112, xg_m113, xg_m114, xg_m115, xg_m116, xg_m117, xg_m118, xg_m119, xg_m120, xg_m121, xg_m122, xg_m123, xg_m124, xg_m125, xg_m126, xg_m127], [xg_m128, xg_m129, xg_m130, xg_m131, xg_m132, xg_m133, xg_m134, xg_m135, xg_m136, xg_m137, xg_m138, xg_m139, xg_m140, xg_m141, xg_m142, xg_m143], [xg_m144, xg_m145, xg_m146, xg_m147, xg_m148, xg_m149, xg_m150, xg_m151, xg_m152, xg_m153, xg_m154, xg_m155, xg_m156, xg_m157, xg_m158, xg_m159], [xg_m160, xg_m161, xg_m162, xg_m163, xg_m164, xg_m165, xg_m166, xg_m167, xg_m168, xg_m169, xg_m170, xg_m171, xg_m172, xg_m173, xg_m174, xg_m175], [xg_m176, xg_m177, xg_m178, xg_m179, xg_m180, xg_m181, xg_m182, xg_m183]]
def xg_FD : List (List xv_V) := [[(2, 0, 0), (0, 2147483648, 2147483648), (0, 2147483648, 2147483648), (0, 2147483648, 2147483648)], [(2, 0, 0), (0, 2147483648, 2147483648), (0, 2147483648, 2147483648), (0, 2147483648, 2147483648)], [(0, 2147483648, 2147483648)], [(0, 2147483648, 2147483648), (0, 2147483648, 2147483648), (0, 2147483648, 2147483648), (2, 0, 0)], [(0, 2147483648, 2147483648), (2, 0, 0), (2, 0, 0), (0, 2147483648, 2147483648), (0, 2147483648, 2147483648)], [(0, 2147483648, 2147483648), (2, 0, 0), (0, 2147483648, 2147483648)], [(0, 2147483648, 2147483648), (0, 2147483648, 2147483648), (2, 0, 0), (2, 0, 0), (2, 0, 0), (2, 0, 0), (2, 0, 0), (2, 0, 0), (2, 0, 0), (2, 0, 0), (0, 2147483648, 2147483648), (0, 2147483648, 2147483648), (0, 2147483648, 2147483648)], [(2, 0, 0), (2, 0, 0), (2, 0, 0), (2, 0, 0), (2, 0, 0), (2, 0, 0), (2, 0, 0), (0, 2147483648, 2147483648), (2, 0, 0), (2, 0, 0), (0, 2147483648, 2147483648), (2, 0, 0), (2, 0, 0), (2, 0, 0), (0, 2147483648, 2147483648)], [(2, 0, 0), (2, 0, 0), (2, 0, 0), (0, 2147483648, 2147483648), (0, 2147483648, 2147483648)], [(0, 2147483648, 2147483648), (0, 2147483648, 2147483648), (0, 2147483648, 2147483648), (0, 2147483648, 2147483648), (2, 0, 0), (2, 0, 0)], [(2, 0, 0), (2, 0, 0), (2, 0, 0), (2, 0, 0), (2, 0, 0), (2, 0, 0), (2, 0, 0), (2, 0, 0), (2, 0, 0), (2, 0, 0), (3, 9223372036854775808, 0), (2, 0, 0), (0, 2147483648, 2147483648), (0, 2147483648, 2147483648), (0, 2147483648, 2147483648), (0, 2147483648, 2147483648), (0, 2147483648, 2147483648), (0, 2147483648, 2147483648)], [(0, 2147483648, 2147483648), (0, 2147483648, 2147483648), (0, 2147483648, 2147483648), (0, 2147483648, 2147483648), (0, 2147483648, 2147483648), (0, 2147483648, 2147483648)], [(0, 2147483648, 2147483648), (2, 0, 0), (2, 0, 0), (2, 0, 0), (0, 2147483648, 2147483648), (2, 0, 0), (2, 0, 0), (0, 2147483648, 2147483648), (2, 0, 0), (2, 0, 0), (2, 0, 0), (2, 0, 0), (2, 0, 0), (2, 0, 0), (2, 0, 0), (2, 0, 0), (2, 0, 0), (2, 0, 0), (2, 0, 0)], [(2, 0, 0), (0, 2147483648, 2147483648)], [(0, 2147483648, 2147483648), (0, 2147483648, 2147483648), (2, 0, 0), (2, 0, 0), (2, 0, 0), (2, 0, 0), (2, 0, 0), (2, 0, 0), (2, 0, 0), (2, 0, 0), (2, 0, 0), (2, 0, 0), (2, 0, 0)], [(2, 0, 0), (2, 0, 0), (2, 0, 0), (2, 0, 0), (2, 0, 0), (2, 0, 0), (2, 0, 0), (0, 2147483648, 2147483648), (0, 2147483648, 2147483648), (0, 2147483648, 2147483648), (0, 2147483648, 2147483648), (0, 2147483648, 2147483648)], [(2, 0, 0), (0, 2147483648, 2147483648), (2, 0, 0), (2, 0, 0), (0, 2147483648, 2147483648), (2, 0, 0), (0, 2147483648, 2147483648), (0, 2147483648, 2147483648), (2, 0, 0)], [(0, 2147483648, 2147483648), (0, 2147483648, 2147483648)], [(0, 2147483648, 2147483648), (0, 2147483648, 2147483648), (0, 2147483648, 2147483648), (0, 2147483648, 2147483648), (0, 2147483648, 2147483648), (0, 2147483648, 2147483648), (0, 2147483648, 2147483648)], [(0, 2147483648, 2147483648), (0, 2147483648, 2147483648)], [(2, 0, 0), (2, 0, 0), (2, 0, 0)], [(2, 0, 0), (2, 0, 0), (2, 0, 0)], [(2, 0, 0), (0, 2147483648, 2147483648), (0, 2147483648, 2147483648), (2, 0, 0), (2, 0, 0), (2, 0, 0), (2, 0, 0), (2, 0, 0), (2, 0, 0), (2, 0, 0), (0, 2147483648, 2147483648), (0, 2147483648, 2147483648), (0, 2147483648, 2147483648), (0, 2147483648, 2147483648), (0, 2147483648, 2147483648), (0, 2147483648, 2147483648), (0, 2147483648, 2147483648), (0, 2147483648, 2147483648)], [(0, 2147483648, 2147483648), (0, 2147483648, 2147483648), (0, 2147483648, 2147483648), (2, 0, 0), (2, 0, 0)], [(0, 2147483648, 2147483648), (0, 2147483648, 2147483648)], [(0, 2147483648, 2147483648), (2, 0, 0), (0, 2147483648, 2147483648), (0, 2147483648, 2147483648), (0, 2147483648, 2147483648), (2, 0, 0), (0, 2147483648, 2147483648)]]
/-- the types of the rows -/
def xg_TY : Nat → FieldType := fun t => match t with
  | 0 => .int
  | 1 => .object "UnwindTower$Code"
  | 2 => .object "UnwindTower$Place"
  | 3 => .object "UnwindTower$Frame"
  | 4 => .object "java/lang/Object"
  | _ => .long
end
section
/-! the methods by their numbers -/
def xg_Y (k : Nat) : MethodName := cond (Nat.ble k 91) (cond (Nat.ble k 45) (cond (Nat.ble k 22) (cond (Nat.ble k 11) (cond (Nat.ble k 5) (cond (Nat.ble k 2) (cond (Nat.ble k 1) (cond (Nat.ble k 0) (yX9_init) (yX9_areLimits)) (yX9_at)) (cond (Nat.ble k 4) (cond (Nat.ble k 3) (yX9_body) (yX9_catcher)) (yX9_code))) (cond (Nat.ble k 8) (cond (Nat.ble k 7) (cond (Nat.ble k 6) (yX9_codeAt) (yX9_digest)) (yX9_digestProcedure)) (cond (Nat.ble k 10) (cond (Nat.ble k 9) (yX9_digestRun) (yX9_exception)) (yX9_fault)))) (cond (Nat.ble k 17) (cond (Nat.ble k 14) (cond (Nat.ble k 13) (cond (Nat.ble k 12) (yX9_faultsWith) (yX9_held)) (yX9_kind)) (cond (Nat.ble k 16) (cond (Nat.ble k 15) (yX9_lengthOf) (yX9_lengthOfAll)) (yX9_limits))) (cond (Nat.ble k 20) (cond (Nat.ble k 19) (cond (Nat.ble k 18) (yX9_many) (yX9_meanPrinted)) (yX9_node)) (cond (Nat.ble k 21) (yX9_ofKind) (yX9_ofNode))))) (cond (Nat.ble k 34) (cond (Nat.ble k 28) (cond (Nat.ble k 25) (cond (Nat.ble k 24) (cond (Nat.ble k 23) (yX9_ofProcedure) (yX9_ofRun)) (yX9_printed)) (cond (Nat.ble k 27) (cond (Nat.ble k 26) (yX9_procedure) (yX9_prune)) (yX9_put))) (cond (Nat.ble k 31) (cond (Nat.ble k 30) (cond (Nat.ble k 29) (yX9_readHeld) (yX9_readKind)) (yX9_readMany)) (cond (Nat.ble k 33) (cond (Nat.ble k 32) (yX9_readProcedure) (yX9_readRun)) (yX9_refresh)))) (cond (Nat.ble k 40) (cond (Nat.ble k 37) (cond (Nat.ble k 36) (cond (Nat.ble k 35) (yX9_row) (yX9_rowsOf)) (yX9_run)) (cond (Nat.ble k 39) (cond (Nat.ble k 38) (yX9_suppressed) (yX9_tell)) (yX9_trace))) (cond (Nat.ble k 43) (cond (Nat.ble k 42) (cond (Nat.ble k 41) (yX9_wouldRun) (yX0_init)) (yX1_init)) (cond (Nat.ble k 44) (yX2_init) (yX2_add)))))) (cond (Nat.ble k 68) (cond (Nat.ble k 57) (cond (Nat.ble k 51) (cond (Nat.ble k 48) (cond (Nat.ble k 47) (cond (Nat.ble k 46) (yX2_find) (yX2_read)) (yX3_init)) (cond (Nat.ble k 50) (cond (Nat.ble k 49) (yX4_init) (yX4_keptPrints)) (yX5_init))) (cond (Nat.ble k 54) (cond (Nat.ble k 53) (cond (Nat.ble k 52) (yX6_init) (yX6_addKind)) (yX6_addNode)) (cond (Nat.ble k 56) (cond (Nat.ble k 55) (yX6_addProcedure) (yX6_canOfBody)) (yX6_canOfPart)))) (cond (Nat.ble k 63) (cond (Nat.ble k 60) (cond (Nat.ble k 59) (cond (Nat.ble k 58) (yX6_countCatches) (yX6_countInNone)) (yX6_derive)) (cond (Nat.ble k 62) (cond (Nat.ble k 61) (yX6_hasKind) (yX6_hasNode)) (yX6_hasProcedure))) (cond (Nat.ble k 66) (cond (Nat.ble k 65) (cond (Nat.ble k 64) (yX6_isFree) (yX6_isFreeStatement)) (yX6_isNode)) (cond (Nat.ble k 67) (yX6_isOperand) (yX6_isSet))))) (cond (Nat.ble k 80) (cond (Nat.ble k 74) (cond (Nat.ble k 71) (cond (Nat.ble k 70) (cond (Nat.ble k 69) (yX6_isTry) (yX6_isUsing)) (yX6_isVariable)) (cond (Nat.ble k 73) (cond (Nat.ble k 72) (yX6_partA) (yX6_partB)) (yX6_partC))) (cond (Nat.ble k 77) (cond (Nat.ble k 76) (cond (Nat.ble k 75) (yX7_init) (yX8_init)) (yX8_isKept)) (cond (Nat.ble k 79) (cond (Nat.ble k 78) (yL_body) (yL_catcher)) (yL_code)))) (cond (Nat.ble k 86) (cond (Nat.ble k 83) (cond (Nat.ble k 82) (cond (Nat.ble k 81) (yL_exception) (yL_fault)) (yL_faultsWith)) (cond (Nat.ble k 85) (cond (Nat.ble k 84) (yL_held) (yL_kind)) (yL_limits))) (cond (Nat.ble k 89) (cond (Nat.ble k 88) (cond (Nat.ble k 87) (yL_many) (yL_node)) (yL_ofKind)) (cond (Nat.ble k 90) (yL_ofNode) (yL_ofProcedure))))))) (cond (Nat.ble k 137) (cond (Nat.ble k 114) (cond (Nat.ble k 103) (cond (Nat.ble k 97) (cond (Nat.ble k 94) (cond (Nat.ble k 93) (cond (Nat.ble k 92) (yL_ofRun) (yL_printed)) (yL_procedure)) (cond (Nat.ble k 96) (cond (Nat.ble k 95) (yL_row) (yL_run)) (yL_suppressed))) (cond (Nat.ble k 100) (cond (Nat.ble k 99) (cond (Nat.ble k 98) (yL_tell) (yL_trace)) (yL_wouldRun)) (cond (Nat.ble k 102) (cond (Nat.ble k 101) (yX19_init) (yX19_add)) (yX19_body)))) (cond (Nat.ble k 109) (cond (Nat.ble k 106) (cond (Nat.ble k 105) (cond (Nat.ble k 104) (yX19_catcher) (yX19_code)) (yX19_count)) (cond (Nat.ble k 108) (cond (Nat.ble k 107) (yX19_digest) (yX19_exception)) (yX19_fault))) (cond (Nat.ble k 112) (cond (Nat.ble k 111) (cond (Nat.ble k 110) (yX19_faultsWith) (yX19_held)) (yX19_heldNow)) (cond (Nat.ble k 113) (yX19_isFaulty) (yX19_isIn))))) (cond (Nat.ble k 126) (cond (Nat.ble k 120) (cond (Nat.ble k 117) (cond (Nat.ble k 116) (cond (Nat.ble k 115) (yX19_isNoKind) (yX19_isNoLimit)) (yX19_isNoNode)) (cond (Nat.ble k 119) (cond (Nat.ble k 118) (yX19_isNoProcedure) (yX19_isNoSet)) (yX19_isNoThing))) (cond (Nat.ble k 123) (cond (Nat.ble k 122) (cond (Nat.ble k 121) (yX19_kept) (yX19_keptPrinted)) (yX19_kind)) (cond (Nat.ble k 125) (cond (Nat.ble k 124) (yX19_limits) (yX19_many)) (yX19_meanPrinted)))) (cond (Nat.ble k 132) (cond (Nat.ble k 129) (cond (Nat.ble k 128) (cond (Nat.ble k 127) (yX19_node) (yX19_ofKind)) (yX19_ofKindNow)) (cond (Nat.ble k 131) (cond (Nat.ble k 130) (yX19_ofNode) (yX19_ofProcedure)) (yX19_ofProcedureNow))) (cond (Nat.ble k 135) (cond (Nat.ble k 134) (cond (Nat.ble k 133) (yX19_ofRun) (yX19_ofRunNow)) (yX19_printed)) (cond (Nat.ble k 136) (yX19_procedure) (yX19_prune)))))) (cond (Nat.ble k 160) (cond (Nat.ble k 149) (cond (Nat.ble k 143) (cond (Nat.ble k 140) (cond (Nat.ble k 139) (cond (Nat.ble k 138) (yX19_refuse) (yX19_row)) (yX19_run)) (cond (Nat.ble k 142) (cond (Nat.ble k 141) (yX19_start) (yX19_suppressed)) (yX19_tell))) (cond (Nat.ble k 146) (cond (Nat.ble k 145) (cond (Nat.ble k 144) (yX19_thrown) (yX19_trace)) (yX19_wouldRun)) (cond (Nat.ble k 148) (cond (Nat.ble k 147) (yX11_init) (yX12_init)) (yX12_parts)))) (cond (Nat.ble k 155) (cond (Nat.ble k 152) (cond (Nat.ble k 151) (cond (Nat.ble k 150) (yX13_init) (yX14_init)) (yX14_below)) (cond (Nat.ble k 154) (cond (Nat.ble k 153) (yX14_can) (yX14_faults)) (yX14_isBelow))) (cond (Nat.ble k 158) (cond (Nat.ble k 157) (cond (Nat.ble k 156) (yX14_isChecked) (yX14_isKind)) (yX14_isNode)) (cond (Nat.ble k 159) (yX14_isOperand) (yX14_isPart))))) (cond (Nat.ble k 172) (cond (Nat.ble k 166) (cond (Nat.ble k 163) (cond (Nat.ble k 162) (cond (Nat.ble k 161) (yX14_isPartOrNone) (yX14_isProcedure)) (yX14_isSlot)) (cond (Nat.ble k 165) (cond (Nat.ble k 164) (yX14_isVariable) (yJxa1e45_init_da8c8)) (yJxc12de_init_da8c8))) (cond (Nat.ble k 169) (cond (Nat.ble k 168) (cond (Nat.ble k 167) (yJx4a65c_init_da8c8) (yJx4a65c_add_9ea2d)) (yJx4a65c_add_72be8)) (cond (Nat.ble k 171) (cond (Nat.ble k 170) (yJx4a65c_elementData_915e3) (yJx4a65c_get_915e3)) (yJx4a65c_grow_d5877)))) (cond (Nat.ble k 178) (cond (Nat.ble k 175) (cond (Nat.ble k 174) (cond (Nat.ble k 173) (yJx4a65c_grow_92f84) (yJx4a65c_isEmpty_aae02)) (yJx4a65c_iterator_32c93)) (cond (Nat.ble k 177) (cond (Nat.ble k 176) (yJx4a65c_size_8abf5) (yJx35411_init_45d68)) (yJx35411_checkForComodification_da8c8))) (cond (Nat.ble k 181) (cond (Nat.ble k 180) (cond (Nat.ble k 179) (yJx35411_hasNext_aae02) (yJx35411_next_0502b)) (yJ15_checkIndex_7cf53)) (cond (Nat.ble k 182) (yJ3_checkIndex_8e157) (x)))))))
def xg_CC (k : Nat) : ByteArray := cond (Nat.ble k 91) (cond (Nat.ble k 45) (cond (Nat.ble k 22) (cond (Nat.ble k 11) (cond (Nat.ble k 5) (cond (Nat.ble k 2) (cond (Nat.ble k 1) (cond (Nat.ble k 0) (cX9_init) (cX9_areLimits)) (cX9_at)) (cond (Nat.ble k 4) (cond (Nat.ble k 3) (cX9_body) (cX9_catcher)) (cX9_code))) (cond (Nat.ble k 8) (cond (Nat.ble k 7) (cond (Nat.ble k 6) (cX9_codeAt) (cX9_digest)) (cX9_digestProcedure)) (cond (Nat.ble k 10) (cond (Nat.ble k 9) (cX9_digestRun) (cX9_exception)) (cX9_fault)))) (cond (Nat.ble k 17) (cond (Nat.ble k 14) (cond (Nat.ble k 13) (cond (Nat.ble k 12) (cX9_faultsWith) (cX9_held)) (cX9_kind)) (cond (Nat.ble k 16) (cond (Nat.ble k 15) (cX9_lengthOf) (cX9_lengthOfAll)) (cX9_limits))) (cond (Nat.ble k 20) (cond (Nat.ble k 19) (cond (Nat.ble k 18) (cX9_many) (cX9_meanPrinted)) (cX9_node)) (cond (Nat.ble k 21) (cX9_ofKind) (cX9_ofNode))))) (cond (Nat.ble k 34) (cond (Nat.ble k 28) (cond (Nat.ble k 25) (cond (Nat.ble k 24) (cond (Nat.ble k 23) (cX9_ofProcedure) (cX9_ofRun)) (cX9_printed)) (cond (Nat.ble k 27) (cond (Nat.ble k 26) (cX9_procedure) (cX9_prune)) (cX9_put))) (cond (Nat.ble k 31) (cond (Nat.ble k 30) (cond (Nat.ble k 29) (cX9_readHeld) (cX9_readKind)) (cX9_readMany)) (cond (Nat.ble k 33) (cond (Nat.ble k 32) (cX9_readProcedure) (cX9_readRun)) (cX9_refresh)))) (cond (Nat.ble k 40) (cond (Nat.ble k 37) (cond (Nat.ble k 36) (cond (Nat.ble k 35) (cX9_row) (cX9_rowsOf)) (cX9_run)) (cond (Nat.ble k 39) (cond (Nat.ble k 38) (cX9_suppressed) (cX9_tell)) (cX9_trace))) (cond (Nat.ble k 43) (cond (Nat.ble k 42) (cond (Nat.ble k 41) (cX9_wouldRun) (cX0_init)) (cX1_init)) (cond (Nat.ble k 44) (cX2_init) (cX2_add)))))) (cond (Nat.ble k 68) (cond (Nat.ble k 57) (cond (Nat.ble k 51) (cond (Nat.ble k 48) (cond (Nat.ble k 47) (cond (Nat.ble k 46) (cX2_find) (cX2_read)) (cX3_init)) (cond (Nat.ble k 50) (cond (Nat.ble k 49) (cX4_init) (cX4_keptPrints)) (cX5_init))) (cond (Nat.ble k 54) (cond (Nat.ble k 53) (cond (Nat.ble k 52) (cX6_init) (cX6_addKind)) (cX6_addNode)) (cond (Nat.ble k 56) (cond (Nat.ble k 55) (cX6_addProcedure) (cX6_canOfBody)) (cX6_canOfPart)))) (cond (Nat.ble k 63) (cond (Nat.ble k 60) (cond (Nat.ble k 59) (cond (Nat.ble k 58) (cX6_countCatches) (cX6_countInNone)) (cX6_derive)) (cond (Nat.ble k 62) (cond (Nat.ble k 61) (cX6_hasKind) (cX6_hasNode)) (cX6_hasProcedure))) (cond (Nat.ble k 66) (cond (Nat.ble k 65) (cond (Nat.ble k 64) (cX6_isFree) (cX6_isFreeStatement)) (cX6_isNode)) (cond (Nat.ble k 67) (cX6_isOperand) (cX6_isSet))))) (cond (Nat.ble k 80) (cond (Nat.ble k 74) (cond (Nat.ble k 71) (cond (Nat.ble k 70) (cond (Nat.ble k 69) (cX6_isTry) (cX6_isUsing)) (cX6_isVariable)) (cond (Nat.ble k 73) (cond (Nat.ble k 72) (cX6_partA) (cX6_partB)) (cX6_partC))) (cond (Nat.ble k 77) (cond (Nat.ble k 76) (cond (Nat.ble k 75) (cX7_init) (cX8_init)) (cX8_isKept)) (cond (Nat.ble k 79) (cond (Nat.ble k 78) (cL_body) (cL_catcher)) (cL_code)))) (cond (Nat.ble k 86) (cond (Nat.ble k 83) (cond (Nat.ble k 82) (cond (Nat.ble k 81) (cL_exception) (cL_fault)) (cL_faultsWith)) (cond (Nat.ble k 85) (cond (Nat.ble k 84) (cL_held) (cL_kind)) (cL_limits))) (cond (Nat.ble k 89) (cond (Nat.ble k 88) (cond (Nat.ble k 87) (cL_many) (cL_node)) (cL_ofKind)) (cond (Nat.ble k 90) (cL_ofNode) (cL_ofProcedure))))))) (cond (Nat.ble k 137) (cond (Nat.ble k 114) (cond (Nat.ble k 103) (cond (Nat.ble k 97) (cond (Nat.ble k 94) (cond (Nat.ble k 93) (cond (Nat.ble k 92) (cL_ofRun) (cL_printed)) (cL_procedure)) (cond (Nat.ble k 96) (cond (Nat.ble k 95) (cL_row) (cL_run)) (cL_suppressed))) (cond (Nat.ble k 100) (cond (Nat.ble k 99) (cond (Nat.ble k 98) (cL_tell) (cL_trace)) (cL_wouldRun)) (cond (Nat.ble k 102) (cond (Nat.ble k 101) (cX19_init) (cX19_add)) (cX19_body)))) (cond (Nat.ble k 109) (cond (Nat.ble k 106) (cond (Nat.ble k 105) (cond (Nat.ble k 104) (cX19_catcher) (cX19_code)) (cX19_count)) (cond (Nat.ble k 108) (cond (Nat.ble k 107) (cX19_digest) (cX19_exception)) (cX19_fault))) (cond (Nat.ble k 112) (cond (Nat.ble k 111) (cond (Nat.ble k 110) (cX19_faultsWith) (cX19_held)) (cX19_heldNow)) (cond (Nat.ble k 113) (cX19_isFaulty) (cX19_isIn))))) (cond (Nat.ble k 126) (cond (Nat.ble k 120) (cond (Nat.ble k 117) (cond (Nat.ble k 116) (cond (Nat.ble k 115) (cX19_isNoKind) (cX19_isNoLimit)) (cX19_isNoNode)) (cond (Nat.ble k 119) (cond (Nat.ble k 118) (cX19_isNoProcedure) (cX19_isNoSet)) (cX19_isNoThing))) (cond (Nat.ble k 123) (cond (Nat.ble k 122) (cond (Nat.ble k 121) (cX19_kept) (cX19_keptPrinted)) (cX19_kind)) (cond (Nat.ble k 125) (cond (Nat.ble k 124) (cX19_limits) (cX19_many)) (cX19_meanPrinted)))) (cond (Nat.ble k 132) (cond (Nat.ble k 129) (cond (Nat.ble k 128) (cond (Nat.ble k 127) (cX19_node) (cX19_ofKind)) (cX19_ofKindNow)) (cond (Nat.ble k 131) (cond (Nat.ble k 130) (cX19_ofNode) (cX19_ofProcedure)) (cX19_ofProcedureNow))) (cond (Nat.ble k 135) (cond (Nat.ble k 134) (cond (Nat.ble k 133) (cX19_ofRun) (cX19_ofRunNow)) (cX19_printed)) (cond (Nat.ble k 136) (cX19_procedure) (cX19_prune)))))) (cond (Nat.ble k 160) (cond (Nat.ble k 149) (cond (Nat.ble k 143) (cond (Nat.ble k 140) (cond (Nat.ble k 139) (cond (Nat.ble k 138) (cX19_refuse) (cX19_row)) (cX19_run)) (cond (Nat.ble k 142) (cond (Nat.ble k 141) (cX19_start) (cX19_suppressed)) (cX19_tell))) (cond (Nat.ble k 146) (cond (Nat.ble k 145) (cond (Nat.ble k 144) (cX19_thrown) (cX19_trace)) (cX19_wouldRun)) (cond (Nat.ble k 148) (cond (Nat.ble k 147) (cX11_init) (cX12_init)) (cX12_parts)))) (cond (Nat.ble k 155) (cond (Nat.ble k 152) (cond (Nat.ble k 151) (cond (Nat.ble k 150) (cX13_init) (cX14_init)) (cX14_below)) (cond (Nat.ble k 154) (cond (Nat.ble k 153) (cX14_can) (cX14_faults)) (cX14_isBelow))) (cond (Nat.ble k 158) (cond (Nat.ble k 157) (cond (Nat.ble k 156) (cX14_isChecked) (cX14_isKind)) (cX14_isNode)) (cond (Nat.ble k 159) (cX14_isOperand) (cX14_isPart))))) (cond (Nat.ble k 172) (cond (Nat.ble k 166) (cond (Nat.ble k 163) (cond (Nat.ble k 162) (cond (Nat.ble k 161) (cX14_isPartOrNone) (cX14_isProcedure)) (cX14_isSlot)) (cond (Nat.ble k 165) (cond (Nat.ble k 164) (cX14_isVariable) (cJxa1e45_init_da8c8)) (cJxc12de_init_da8c8))) (cond (Nat.ble k 169) (cond (Nat.ble k 168) (cond (Nat.ble k 167) (cJx4a65c_init_da8c8) (cJx4a65c_add_9ea2d)) (cJx4a65c_add_72be8)) (cond (Nat.ble k 171) (cond (Nat.ble k 170) (cJx4a65c_elementData_915e3) (cJx4a65c_get_915e3)) (cJx4a65c_grow_d5877)))) (cond (Nat.ble k 178) (cond (Nat.ble k 175) (cond (Nat.ble k 174) (cond (Nat.ble k 173) (cJx4a65c_grow_92f84) (cJx4a65c_isEmpty_aae02)) (cJx4a65c_iterator_32c93)) (cond (Nat.ble k 177) (cond (Nat.ble k 176) (cJx4a65c_size_8abf5) (cJx35411_init_45d68)) (cJx35411_checkForComodification_da8c8))) (cond (Nat.ble k 181) (cond (Nat.ble k 180) (cond (Nat.ble k 179) (cJx35411_hasNext_aae02) (cJx35411_next_0502b)) (cJ15_checkIndex_7cf53)) (cond (Nat.ble k 182) (cJ3_checkIndex_8e157) (code)))))))
def xg_RT (k : Nat) : Option FieldType := cond (Nat.ble k 91) (cond (Nat.ble k 45) (cond (Nat.ble k 22) (cond (Nat.ble k 11) (cond (Nat.ble k 5) (cond (Nat.ble k 2) (cond (Nat.ble k 1) (cond (Nat.ble k 0) (none) ((some FieldType.boolean))) (some FieldType.int)) (some FieldType.int)) (cond (Nat.ble k 8) (cond (Nat.ble k 7) (cond (Nat.ble k 6) ((some (FieldType.object "UnwindTower$Code"))) ((some FieldType.long))) ((some FieldType.long))) (cond (Nat.ble k 10) (cond (Nat.ble k 9) ((some FieldType.long)) (some FieldType.int)) (some FieldType.int)))) (cond (Nat.ble k 17) (some FieldType.int) (cond (Nat.ble k 20) (cond (Nat.ble k 19) (cond (Nat.ble k 18) (some FieldType.int) ((some FieldType.double))) (some FieldType.int)) (some FieldType.int)))) (cond (Nat.ble k 34) (cond (Nat.ble k 28) (cond (Nat.ble k 25) (some FieldType.int) (cond (Nat.ble k 27) (cond (Nat.ble k 26) (some FieldType.int) ((some FieldType.boolean))) (none))) (cond (Nat.ble k 31) (some FieldType.int) (cond (Nat.ble k 33) (some FieldType.int) (none)))) (cond (Nat.ble k 40) (some FieldType.int) (cond (Nat.ble k 43) (cond (Nat.ble k 42) (cond (Nat.ble k 41) (some FieldType.int) (none)) (none)) (none))))) (cond (Nat.ble k 68) (cond (Nat.ble k 57) (cond (Nat.ble k 51) (cond (Nat.ble k 48) (cond (Nat.ble k 47) (cond (Nat.ble k 46) (none) (some FieldType.int)) (none)) (cond (Nat.ble k 50) (cond (Nat.ble k 49) (none) (some FieldType.int)) (none))) (cond (Nat.ble k 54) (cond (Nat.ble k 53) (cond (Nat.ble k 52) (none) (some FieldType.int)) (some FieldType.int)) (some FieldType.int))) (cond (Nat.ble k 63) (cond (Nat.ble k 60) (cond (Nat.ble k 59) (some FieldType.int) (none)) ((some FieldType.boolean))) ((some FieldType.boolean)))) (cond (Nat.ble k 80) (cond (Nat.ble k 74) (cond (Nat.ble k 71) ((some FieldType.boolean)) (some FieldType.int)) (cond (Nat.ble k 77) (cond (Nat.ble k 76) (none) ((some FieldType.boolean))) (some FieldType.int))) (some FieldType.int)))) (cond (Nat.ble k 137) (cond (Nat.ble k 114) (cond (Nat.ble k 103) (cond (Nat.ble k 97) (some FieldType.int) (cond (Nat.ble k 100) (some FieldType.int) (cond (Nat.ble k 102) (cond (Nat.ble k 101) (none) ((some FieldType.long))) (some FieldType.int)))) (cond (Nat.ble k 109) (cond (Nat.ble k 106) (some FieldType.int) (cond (Nat.ble k 108) (cond (Nat.ble k 107) ((some FieldType.long)) (some FieldType.int)) (some FieldType.int))) (cond (Nat.ble k 112) (some FieldType.int) ((some FieldType.boolean))))) (cond (Nat.ble k 126) (cond (Nat.ble k 120) ((some FieldType.boolean)) (cond (Nat.ble k 123) (some FieldType.int) (cond (Nat.ble k 125) (some FieldType.int) ((some FieldType.double))))) (cond (Nat.ble k 132) (some FieldType.int) (cond (Nat.ble k 135) (some FieldType.int) (cond (Nat.ble k 136) (some FieldType.int) ((some FieldType.boolean))))))) (cond (Nat.ble k 160) (cond (Nat.ble k 149) (cond (Nat.ble k 143) (cond (Nat.ble k 140) (cond (Nat.ble k 139) (cond (Nat.ble k 138) ((some FieldType.boolean)) (some FieldType.int)) (some FieldType.int)) (cond (Nat.ble k 142) (cond (Nat.ble k 141) ((some FieldType.boolean)) (some FieldType.int)) (some FieldType.int))) (cond (Nat.ble k 146) (some FieldType.int) (cond (Nat.ble k 148) (none) ((some (FieldType.object "java/util/ArrayList")))))) (cond (Nat.ble k 155) (cond (Nat.ble k 152) (cond (Nat.ble k 151) (none) (some FieldType.int)) (cond (Nat.ble k 154) (cond (Nat.ble k 153) (some FieldType.int) ((some (FieldType.object "java/util/ArrayList")))) ((some FieldType.boolean)))) ((some FieldType.boolean)))) (cond (Nat.ble k 172) (cond (Nat.ble k 166) (cond (Nat.ble k 163) ((some FieldType.boolean)) (cond (Nat.ble k 165) (cond (Nat.ble k 164) ((some FieldType.boolean)) (none)) (none))) (cond (Nat.ble k 169) (cond (Nat.ble k 168) (cond (Nat.ble k 167) (none) ((some FieldType.boolean))) (none)) (cond (Nat.ble k 171) ((some (FieldType.object "java/lang/Object"))) ((some (FieldType.array (FieldType.object "java/lang/Object"))))))) (cond (Nat.ble k 178) (cond (Nat.ble k 175) (cond (Nat.ble k 174) (cond (Nat.ble k 173) ((some (FieldType.array (FieldType.object "java/lang/Object")))) ((some FieldType.boolean))) ((some (FieldType.object "java/util/Iterator")))) (cond (Nat.ble k 177) (cond (Nat.ble k 176) (some FieldType.int) (none)) (none))) (cond (Nat.ble k 181) (cond (Nat.ble k 180) (cond (Nat.ble k 179) ((some FieldType.boolean)) ((some (FieldType.object "java/lang/Object")))) (some FieldType.int)) (cond (Nat.ble k 182) (some FieldType.int) (some FieldType.boolean)))))))
def xg_ML (k : Nat) : Nat := cond (Nat.ble k 91) (cond (Nat.ble k 45) (cond (Nat.ble k 22) (cond (Nat.ble k 11) (cond (Nat.ble k 5) (cond (Nat.ble k 2) (2) (cond (Nat.ble k 4) (3) (4))) (cond (Nat.ble k 8) (cond (Nat.ble k 7) (cond (Nat.ble k 6) (2) (5)) (11)) (cond (Nat.ble k 10) (cond (Nat.ble k 9) (8) (3)) (3)))) (cond (Nat.ble k 17) (cond (Nat.ble k 14) (cond (Nat.ble k 13) (cond (Nat.ble k 12) (5) (2)) (3)) (cond (Nat.ble k 16) (cond (Nat.ble k 15) (2) (3)) (4))) (cond (Nat.ble k 20) (cond (Nat.ble k 19) (2) (5)) (3)))) (cond (Nat.ble k 34) (cond (Nat.ble k 28) (cond (Nat.ble k 25) (cond (Nat.ble k 24) (cond (Nat.ble k 23) (3) (2)) (3)) (cond (Nat.ble k 27) (cond (Nat.ble k 26) (2) (3)) (3))) (cond (Nat.ble k 31) (cond (Nat.ble k 30) (cond (Nat.ble k 29) (2) (3)) (2)) (cond (Nat.ble k 33) (cond (Nat.ble k 32) (3) (2)) (2)))) (cond (Nat.ble k 40) (cond (Nat.ble k 37) (cond (Nat.ble k 36) (cond (Nat.ble k 35) (4) (2)) (1)) (cond (Nat.ble k 39) (cond (Nat.ble k 38) (6) (4)) (4))) (cond (Nat.ble k 43) (cond (Nat.ble k 42) (cond (Nat.ble k 41) (4) (1)) (5)) (cond (Nat.ble k 44) (2) (5)))))) (cond (Nat.ble k 68) (cond (Nat.ble k 57) (cond (Nat.ble k 51) (cond (Nat.ble k 48) (cond (Nat.ble k 47) (3) (1)) (cond (Nat.ble k 50) (cond (Nat.ble k 49) (5) (2)) (1))) (cond (Nat.ble k 54) (cond (Nat.ble k 53) (cond (Nat.ble k 52) (2) (6)) (6)) (cond (Nat.ble k 56) (cond (Nat.ble k 55) (3) (2)) (2)))) (cond (Nat.ble k 63) (cond (Nat.ble k 60) (cond (Nat.ble k 59) (cond (Nat.ble k 58) (4) (3)) (2)) (2)) (cond (Nat.ble k 66) (cond (Nat.ble k 65) (2) (5)) (2)))) (cond (Nat.ble k 80) (cond (Nat.ble k 74) (cond (Nat.ble k 71) (cond (Nat.ble k 70) (4) (2)) (2)) (cond (Nat.ble k 77) (cond (Nat.ble k 76) (1) (2)) (cond (Nat.ble k 79) (5) (6)))) (cond (Nat.ble k 86) (cond (Nat.ble k 83) (5) (cond (Nat.ble k 85) (cond (Nat.ble k 84) (4) (5)) (5))) (cond (Nat.ble k 89) (cond (Nat.ble k 88) (cond (Nat.ble k 87) (4) (7)) (5)) (5)))))) (cond (Nat.ble k 137) (cond (Nat.ble k 114) (cond (Nat.ble k 103) (cond (Nat.ble k 97) (cond (Nat.ble k 94) (cond (Nat.ble k 93) (cond (Nat.ble k 92) (4) (5)) (4)) (cond (Nat.ble k 96) (cond (Nat.ble k 95) (6) (3)) (5))) (cond (Nat.ble k 100) (cond (Nat.ble k 99) (5) (6)) (cond (Nat.ble k 102) (cond (Nat.ble k 101) (1) (4)) (5)))) (cond (Nat.ble k 109) (cond (Nat.ble k 106) (cond (Nat.ble k 105) (cond (Nat.ble k 104) (3) (5)) (6)) (cond (Nat.ble k 108) (cond (Nat.ble k 107) (13) (3)) (4))) (cond (Nat.ble k 112) (cond (Nat.ble k 111) (cond (Nat.ble k 110) (6) (2)) (2)) (cond (Nat.ble k 113) (1) (3))))) (cond (Nat.ble k 126) (cond (Nat.ble k 120) (2) (cond (Nat.ble k 123) (cond (Nat.ble k 122) (1) (3)) (cond (Nat.ble k 125) (cond (Nat.ble k 124) (4) (2)) (5)))) (cond (Nat.ble k 132) (cond (Nat.ble k 129) (cond (Nat.ble k 128) (cond (Nat.ble k 127) (8) (3)) (6)) (cond (Nat.ble k 131) (3) (5))) (cond (Nat.ble k 135) (cond (Nat.ble k 134) (2) (3)) (cond (Nat.ble k 136) (2) (3)))))) (cond (Nat.ble k 160) (cond (Nat.ble k 149) (cond (Nat.ble k 143) (cond (Nat.ble k 140) (cond (Nat.ble k 139) (cond (Nat.ble k 138) (3) (5)) (1)) (cond (Nat.ble k 142) (3) (4))) (cond (Nat.ble k 146) (cond (Nat.ble k 145) (cond (Nat.ble k 144) (1) (3)) (4)) (cond (Nat.ble k 148) (cond (Nat.ble k 147) (3) (6)) (2)))) (cond (Nat.ble k 155) (cond (Nat.ble k 152) (cond (Nat.ble k 151) (2) (4)) (cond (Nat.ble k 154) (cond (Nat.ble k 153) (3) (6)) (4))) (cond (Nat.ble k 158) (cond (Nat.ble k 157) (cond (Nat.ble k 156) (3) (2)) (5)) (cond (Nat.ble k 159) (2) (4))))) (cond (Nat.ble k 172) (cond (Nat.ble k 166) (cond (Nat.ble k 163) (cond (Nat.ble k 162) (cond (Nat.ble k 161) (3) (2)) (2)) (cond (Nat.ble k 165) (cond (Nat.ble k 164) (2) (1)) (1))) (cond (Nat.ble k 169) (cond (Nat.ble k 168) (cond (Nat.ble k 167) (1) (2)) (4)) (cond (Nat.ble k 171) (2) (1)))) (cond (Nat.ble k 178) (cond (Nat.ble k 175) (cond (Nat.ble k 174) (cond (Nat.ble k 173) (4) (1)) (1)) (cond (Nat.ble k 177) (cond (Nat.ble k 176) (1) (2)) (1))) (cond (Nat.ble k 181) (cond (Nat.ble k 180) (cond (Nat.ble k 179) (1) (3)) (2)) (cond (Nat.ble k 182) (3) (9)))))))
def xg_HH (k : Nat) : List (Nat × Nat × Nat × Nat) := cond (Nat.ble k 91) (cond (Nat.ble k 45) ([]) (cond (Nat.ble k 68) ([]) (cond (Nat.ble k 80) (cond (Nat.ble k 74) ([]) (cond (Nat.ble k 77) ([]) (cond (Nat.ble k 79) (cond (Nat.ble k 78) ([(0, 10, 13, 13), (0, 10, 17, 21), (0, 10, 21, 15)]) ([(0, 10, 13, 13)])) ([(0, 12, 15, 13), (0, 12, 19, 21)])))) (cond (Nat.ble k 86) (cond (Nat.ble k 83) ([(0, 10, 13, 13), (0, 10, 17, 21)]) (cond (Nat.ble k 85) (cond (Nat.ble k 84) ([(0, 9, 12, 13)]) ([(0, 10, 13, 13), (0, 10, 17, 15)])) ([(0, 10, 13, 21)]))) (cond (Nat.ble k 89) (cond (Nat.ble k 88) (cond (Nat.ble k 87) ([(0, 9, 12, 21)]) ([(0, 14, 17, 21), (0, 14, 21, 15)])) ([(0, 10, 13, 13), (0, 10, 17, 21)])) ([(0, 10, 13, 13), (0, 10, 17, 21)])))))) (cond (Nat.ble k 137) (cond (Nat.ble k 114) (cond (Nat.ble k 103) (cond (Nat.ble k 97) (cond (Nat.ble k 94) (cond (Nat.ble k 93) (cond (Nat.ble k 92) ([(0, 9, 12, 21)]) ([(0, 10, 13, 13), (0, 10, 17, 21)])) ([(0, 9, 12, 21), (0, 9, 15, 15)])) (cond (Nat.ble k 96) (cond (Nat.ble k 95) ([(0, 12, 15, 13), (0, 12, 19, 21)]) ([(0, 8, 11, 15)])) ([(0, 10, 13, 13)]))) (cond (Nat.ble k 100) (cond (Nat.ble k 99) (cond (Nat.ble k 98) ([(0, 10, 13, 13), (0, 10, 17, 21)]) ([(0, 10, 13, 13)])) ([(0, 12, 15, 21), (0, 12, 19, 15)])) ([]))) ([])) ([])) ([]))
def xg_WH (k : Nat) : Bool := !(xg_HH k).isEmpty
def xg_EX : Nat → String := fun k => match k with
  | 0 => "java/lang/IndexOutOfBoundsException"
  | 1 => "java/lang/IllegalArgumentException"
  | _ => "java/lang/IllegalStateException"
def xg_ST : List (String × Nat × String) := [("UnwindTower", 75, "no such PARENT"), ("UnwindTower", 92, "no such CLASS"), ("UnwindTower", 96, "what is not 0 to 4"), ("UnwindTower", 109, "no set of CLASSES"), ("UnwindTower", 123, "no such PROCEDURE"), ("UnwindTower", 137, "what is not 0 to 5"), ("UnwindTower", 146, "that is no NODE"), ("UnwindTower", 160, "no such PROCEDURE, or NODE"), ("UnwindTower", 175, "no such NODE"), ("UnwindTower", 185, "no such FAULT"), ("UnwindTower", 187, "what is not 0 to 3"), ("UnwindTower", 198, "no such place"), ("UnwindTower", 208, "no such ROW"), ("UnwindTower", 218, "most is not 1 to 3000, or deep is not 1 to 30"), ("UnwindTower", 220, "there are FAULTS"), ("UnwindTower", 232, "what is not 0 to 9"), ("UnwindTower", 241, "no such number is kept"), ("UnwindTower", 257, "no such EXCEPTION is kept"), ("UnwindTower", 263, "no such EXCEPTION, or number"), ("UnwindTower", 277, "no such EXCEPTION, or place"), ("UnwindTower", 282, "which is not 0 to 13"), ("UnwindTower", 294, "most is not 1 to 3000, deep is not 1 to 30, or what is not 0 to 8"), ("UnwindTower", 296, "no such NODE, or CLASS")]
def xg_NC : List (String × String) := [("java/lang/IndexOutOfBoundsException", "java/lang/IllegalArgumentException"), ("java/lang/IndexOutOfBoundsException", "java/lang/IllegalStateException"), ("java/lang/IllegalArgumentException", "java/lang/IndexOutOfBoundsException"), ("java/lang/IllegalArgumentException", "java/lang/IllegalStateException"), ("java/lang/IllegalStateException", "java/lang/IndexOutOfBoundsException"), ("java/lang/IllegalStateException", "java/lang/IllegalArgumentException")]
end
section
noncomputable section
def xq_B : Nat := 2147483648
def xq_M : Nat := 4294967296
def xq_BL : Nat := 9223372036854775808
def xq_ML : Nat := 18446744073709551616
def xi (v : Nat) : xv_V := (0, v, v)
def xq_drop {α : Type} (n : Nat) (l : List α) : List α := Nat.rec (motive := fun _ => List α → List α) (fun l => l) (fun _ ih l => List.rec (motive := fun _ => List α) [] (fun _ t _ => ih t) l) n l
def xq_nth {α β : Type} (l : List α) (n : Nat) (k : α → Option β) : Option β := List.rec (motive := fun _ => Option β) none (fun a _ _ => k a) (xq_drop n l)
def xq_set {α : Type} (l : List α) (n : Nat) (v : α) : List α := Nat.rec (motive := fun _ => List α → List α) (fun l => List.rec (motive := fun _ => List α) [] (fun _ t _ => v :: t) l) (fun _ ih l => List.rec (motive := fun _ => List α) [] (fun a t _ => a :: ih t) l) n l
def xq_len {α : Type} (l : List α) : Nat := List.rec (motive := fun _ => Nat) 0 (fun _ _ ih => Nat.succ ih) l
def xq_rep {α : Type} (n : Nat) (v : α) : List α := Nat.rec (motive := fun _ => List α) [] (fun _ ih => v :: ih) n
def xq_app {α : Type} (l r : List α) : List α := List.rec (motive := fun _ => List α) r (fun a _ ih => a :: ih) l
/-- a local -/
def xq_get {β : Type} (L : xv_L) (i : Nat) (k : xv_V → Option β) : Option β := List.rec (motive := fun _ => Option β) none (fun a _ ih => cond (Nat.beq a.1 i) (k a.2) ih) L
def xq_is2 (v : xv_V) : Bool := cond (Nat.beq v.1 3) true (Nat.beq v.1 4)
/-- the other locals, as a value of one slot comes to i -/
def xq_del1 (L : xv_L) (i : Nat) : xv_L := List.rec (motive := fun _ => xv_L) [] (fun a _ ih => cond (Nat.beq a.1 i) ih (cond (and (Nat.beq (Nat.succ a.1) i) (xq_is2 a.2)) ih (a :: ih))) L
/-- the same, of two slots -/
def xq_del2 (L : xv_L) (i : Nat) : xv_L := List.rec (motive := fun _ => xv_L) [] (fun a _ ih => cond (Nat.beq a.1 i) ih (cond (Nat.beq a.1 (Nat.succ i)) ih (cond (and (Nat.beq (Nat.succ a.1) i) (xq_is2 a.2)) ih (a :: ih)))) L
def xq_args (i : Nat) (as : List xv_V) : xv_L := List.rec (motive := fun _ => Nat → xv_L) (fun _ => []) (fun a _ ih i => (i, a) :: ih (cond (xq_is2 a) (Nat.succ (Nat.succ i)) (Nat.succ i))) as i
/-- how many slots they take -/
def xq_sz (as : List xv_V) : Nat := List.rec (motive := fun _ => Nat) 0 (fun a _ ih => cond (xq_is2 a) (Nat.succ (Nat.succ ih)) (Nat.succ ih)) as
/-- one number -/
def xq_one {β : Type} (v : xv_V) (k : Nat → Option β) : Option β := cond (Nat.beq v.1 0) (cond (Nat.beq v.2.1 v.2.2) (k v.2.1) none) none
/-- the cell that it names -/
def xq_obj {β : Type} (h : List xv_O) (v : xv_V) (k : Nat → Nat → List xv_V → Option β) : Option β := cond (Nat.beq v.1 1) (xq_nth h v.2.1 fun o => k o.1 o.2.1 o.2.2) none
def xq_pop {β : Type} (S : List xv_V) (k : xv_V → List xv_V → Option β) : Option β := List.rec (motive := fun _ => Option β) none (fun a t _ => k a t) S
/-- the numbers of 'op y x' -/
def xb_add (a b : Nat) : Nat := (a + b + xq_B) % xq_M
def xb_sub (a b : Nat) : Nat := (a + (xq_M + xq_B) - b) % xq_M
def xb_u (a : Nat) : Nat := (a + xq_B) % xq_M
def xb_mul (a b : Nat) : Nat := xb_u (xb_u a * xb_u b)
def xb_and (a b : Nat) : Nat := xb_u (Nat.land (xb_u a) (xb_u b))
def xb_or (a b : Nat) : Nat := xb_u (Nat.lor (xb_u a) (xb_u b))
def xb_shl (a b : Nat) : Nat := xb_u (xb_u a * 2 ^ (xb_u b % 32))
def xl_add (a b : Nat) : Nat := (a + b + xq_BL) % xq_ML
def xl_u (a : Nat) : Nat := (a + xq_BL) % xq_ML
def xl_mul (a b : Nat) : Nat := xl_u (xl_u a * xl_u b)
abbrev xk_S : Type := xv_L → List xv_V → List xv_O → Option xv_R
def xo_bin (f : Nat → Nat → Nat) (L : xv_L) (S : List xv_V) (h : List xv_O) (k : xk_S) : Option xv_R := xq_pop S fun b S => xq_pop S fun a S => xq_one b fun y => xq_one a fun x => k L (xi (f x y) :: S) h
def xo_and (L : xv_L) (S : List xv_V) (h : List xv_O) (k : xk_S) : Option xv_R := xq_pop S fun b S => xq_pop S fun a S => xq_one b fun y => cond (Nat.beq a.1 5) (cond (Nat.beq y 2147483679) (k L (xi (a.2.1 + xq_B) :: S) h) none) (xq_one a fun x => k L (xi (xb_and x y) :: S) h)
def xo_lbin (f : Nat → Nat → Nat) (L : xv_L) (S : List xv_V) (h : List xv_O) (k : xk_S) : Option xv_R := xq_pop S fun b S => xq_pop S fun a S => cond (and (Nat.beq a.1 3) (Nat.beq b.1 3)) (k L ((3, f a.2.1 b.2.1, 0) :: S) h) none
def xo_lcmp (L : xv_L) (S : List xv_V) (h : List xv_O) (k : xk_S) : Option xv_R := xq_pop S fun b S => xq_pop S fun a S => cond (and (Nat.beq a.1 3) (Nat.beq b.1 3)) (k L (xi (cond (Nat.beq a.2.1 b.2.1) xq_B (cond (Nat.ble a.2.1 b.2.1) (xq_B - 1) (xq_B + 1))) :: S) h) none
def xo_i2l (L : xv_L) (S : List xv_V) (h : List xv_O) (k : xk_S) : Option xv_R := xq_pop S fun a S => xq_one a fun x => k L ((3, x + (xq_BL - xq_B), 0) :: S) h
def xo_dcmp (L : xv_L) (S : List xv_V) (h : List xv_O) (k : xk_S) : Option xv_R := xq_pop S fun b S => xq_pop S fun a S => cond (and (Nat.beq a.1 4) (Nat.beq b.1 4)) (cond (and (Nat.beq a.2.1 0) (Nat.beq b.2.1 0)) (k L (xi xq_B :: S) h) none) none
def xo_load (i : Nat) (L : xv_L) (S : List xv_V) (h : List xv_O) (k : xk_S) : Option xv_R := xq_get L i fun v => k L (v :: S) h
/-- a load of an int, of a reference, of a long, of a double -/
def xo_iload (i : Nat) (L : xv_L) (S : List xv_V) (h : List xv_O) (k : xk_S) : Option xv_R := xq_get L i fun v => cond (or (Nat.beq v.1 0) (Nat.beq v.1 5)) (k L (v :: S) h) none
def xo_aload (i : Nat) (L : xv_L) (S : List xv_V) (h : List xv_O) (k : xk_S) : Option xv_R := xq_get L i fun v => cond (or (Nat.beq v.1 1) (or (Nat.beq v.1 2) (or (Nat.beq v.1 6) (or (Nat.beq v.1 7) (Nat.beq v.1 8))))) (k L (v :: S) h) none
def xo_lload (i : Nat) (L : xv_L) (S : List xv_V) (h : List xv_O) (k : xk_S) : Option xv_R := xq_get L i fun v => cond (Nat.beq v.1 3) (k L (v :: S) h) none
def xo_dload (i : Nat) (L : xv_L) (S : List xv_V) (h : List xv_O) (k : xk_S) : Option xv_R := xq_get L i fun v => cond (Nat.beq v.1 4) (k L (v :: S) h) none
def xo_istore (i : Nat) (L : xv_L) (S : List xv_V) (h : List xv_O) (k : xk_S) : Option xv_R := xq_pop S fun v S => cond (or (Nat.beq v.1 0) (Nat.beq v.1 5)) (k ((i, v) :: xq_del1 L i) S h) none
def xo_astore (i : Nat) (L : xv_L) (S : List xv_V) (h : List xv_O) (k : xk_S) : Option xv_R := xq_pop S fun v S => cond (or (Nat.beq v.1 1) (or (Nat.beq v.1 2) (or (Nat.beq v.1 6) (or (Nat.beq v.1 7) (Nat.beq v.1 8))))) (k ((i, v) :: xq_del1 L i) S h) none
def xo_lstore (i : Nat) (L : xv_L) (S : List xv_V) (h : List xv_O) (k : xk_S) : Option xv_R := xq_pop S fun v S => cond (Nat.beq v.1 3) (k ((i, v) :: xq_del2 L i) S h) none
def xo_dstore (i : Nat) (L : xv_L) (S : List xv_V) (h : List xv_O) (k : xk_S) : Option xv_R := xq_pop S fun v S => cond (Nat.beq v.1 4) (k ((i, v) :: xq_del2 L i) S h) none
def xo_push (v : xv_V) (L : xv_L) (S : List xv_V) (h : List xv_O) (k : xk_S) : Option xv_R := k L (v :: S) h
def xo_iinc (i d : Nat) (L : xv_L) (S : List xv_V) (h : List xv_O) (k : xk_S) : Option xv_R := xq_get L i fun v => xq_one v fun x => k ((i, xi (xb_add x d)) :: xq_del1 L i) S h
def xo_dup (L : xv_L) (S : List xv_V) (h : List xv_O) (k : xk_S) : Option xv_R := xq_pop S fun v S => cond (xq_is2 v) none (k L (v :: v :: S) h)
def xo_dup2 (L : xv_L) (S : List xv_V) (h : List xv_O) (k : xk_S) : Option xv_R := xq_pop S fun b S => xq_pop S fun a S => cond (or (xq_is2 a) (xq_is2 b)) none (k L (b :: a :: b :: a :: S) h)
def xo_dupx1 (L : xv_L) (S : List xv_V) (h : List xv_O) (k : xk_S) : Option xv_R := xq_pop S fun b S => xq_pop S fun a S => cond (or (xq_is2 a) (xq_is2 b)) none (k L (b :: a :: b :: S) h)
def xo_pop (L : xv_L) (S : List xv_V) (h : List xv_O) (k : xk_S) : Option xv_R := xq_pop S fun v S => cond (xq_is2 v) none (k L S h)
/-- fields: the class, the place -/
def xo_getf (ci f : Nat) (L : xv_L) (S : List xv_V) (h : List xv_O) (k : xk_S) : Option xv_R := xq_pop S fun o S => xq_obj h o fun t c es => cond (and (Nat.beq t 0) (Nat.beq c ci)) (xq_nth es f fun v => k L (v :: S) h) none
/-- may a field of this type hold it: 0 int, 1 boolean, 2 a reference, 3 a long -/
def xq_isI (v : xv_V) : Bool := or (Nat.beq v.1 0) (Nat.beq v.1 5)
def xq_isZ (v : xv_V) : Bool := and (Nat.beq v.1 0) (and (Nat.ble xq_B v.2.1) (Nat.ble v.2.2 (xq_B + 1)))
def xq_isA (v : xv_V) : Bool := or (Nat.beq v.1 1) (or (Nat.beq v.1 2) (or (Nat.beq v.1 6) (or (Nat.beq v.1 7) (Nat.beq v.1 8))))
def xq_ty (z : Nat) (v : xv_V) : Bool := cond (Nat.beq z 0) (xq_isI v) (cond (Nat.beq z 1) (xq_isZ v) (cond (Nat.beq z 2) (xq_isA v) (cond (Nat.beq z 3) (Nat.beq v.1 3) false)))
def xo_putf (ci f z : Nat) (L : xv_L) (S : List xv_V) (h : List xv_O) (k : xk_S) : Option xv_R := xq_pop S fun v S => xq_pop S fun o S => xq_obj h o fun t c es => cond (and (Nat.beq t 0) (and (Nat.beq c ci) (xq_ty z v))) (xq_nth es f fun _ => k L S (xq_set h o.2.1 (0, c, xq_set es f v))) none
def xo_ald (ty : Nat → Bool) (L : xv_L) (S : List xv_V) (h : List xv_O) (k : xk_S) : Option xv_R := xq_pop S fun i S => xq_pop S fun o S => xq_one i fun x => xq_obj h o fun t c es => cond (and (Nat.beq t 1) (and (ty c) (Nat.ble xq_B x))) (xq_nth es (x - xq_B) fun v => k L (v :: S) h) none
/-- of the script, too: its first row is its length -/
def xo_iald (sc : List xv_V) (L : xv_L) (S : List xv_V) (h : List xv_O) (k : xk_S) : Option xv_R := xq_pop S fun i S => xq_pop S fun o S => xq_one i fun x => cond (Nat.beq o.1 7) (cond (Nat.ble xq_B x) (xq_nth sc (Nat.succ (x - xq_B)) fun v => cond (xq_isI v) (k L (v :: S) h) none) none) (xq_obj h o fun t c es => cond (and (Nat.beq t 1) (and (Nat.beq c 0) (Nat.ble xq_B x))) (xq_nth es (x - xq_B) fun v => k L (v :: S) h) none)
def xo_ast (ty : Nat → Bool) (vo : xv_V → Bool) (L : xv_L) (S : List xv_V) (h : List xv_O) (k : xk_S) : Option xv_R := xq_pop S fun v S => xq_pop S fun i S => xq_pop S fun o S => xq_one i fun x => xq_obj h o fun t c es => cond (and (and (Nat.beq t 1) (ty c)) (and (vo v) (Nat.ble xq_B x))) (xq_nth es (x - xq_B) fun _ => k L S (xq_set h o.2.1 (1, c, xq_set es (x - xq_B) v))) none
def xo_alen (sc : List xv_V) (L : xv_L) (S : List xv_V) (h : List xv_O) (k : xk_S) : Option xv_R := xq_pop S fun o S => cond (Nat.beq o.1 7) (xq_nth sc 0 fun v => cond (Nat.beq v.1 0) (k L (v :: S) h) none) (cond (and (Nat.beq o.1 6) (Nat.beq o.2.1 0)) (k L (xi xq_B :: S) h) (xq_obj h o fun t _ es => cond (Nat.beq t 1) (k L (xi (xq_len es + xq_B) :: S) h) none))
/-- a cast that holds: to an object's own class, or an array's own type -/
def xo_cast (t0 c0 : Nat) (L : xv_L) (S : List xv_V) (h : List xv_O) (k : xk_S) : Option xv_R := xq_pop S fun o S => xq_obj h o fun t c _ => cond (and (Nat.beq t t0) (Nat.beq c c0)) (k L (o :: S) h) none
def xo_oinit (d : Nat) (L : xv_L) (S : List xv_V) (h : List xv_O) (k : xk_S) : Option xv_R := xq_pop S fun o S => xq_obj h o fun _ _ _ => cond (and (Nat.ble 1 d) (Nat.ble (xq_len S) 4)) (k L S h) none
def xo_max (d : Nat) (L : xv_L) (S : List xv_V) (h : List xv_O) (k : xk_S) : Option xv_R := xq_pop S fun b S => xq_pop S fun a S => xq_one b fun y => xq_one a fun x => cond (and (Nat.ble 1 d) (Nat.ble (xq_len S) 4)) (k L (xi (cond (Nat.ble x y) y x) :: S) h) none
/-- may a row of this type hold it: null, an object of the class, some things in a row of Object -/
def xq_el (c t c2 : Nat) : Bool := cond (Nat.beq t 0) (cond (Nat.beq c 1) (Nat.beq c2 6) (cond (Nat.beq c 2) (Nat.beq c2 11) (cond (Nat.beq c 3) (Nat.beq c2 9) (cond (Nat.beq c 4) (and (Nat.ble 17 c2) (Nat.ble c2 19)) false)))) (and (Nat.beq t 1) (and (Nat.beq c 4) (Nat.beq c2 0)))
def xo_asta (L : xv_L) (S : List xv_V) (h : List xv_O) (k : xk_S) : Option xv_R := xq_pop S fun v S => xq_pop S fun i S => xq_pop S fun o S => xq_one i fun x => xq_obj h o fun t c es => cond (and (and (Nat.beq t 1) (and (Nat.ble 1 c) (Nat.ble c 4))) (Nat.ble xq_B x)) (xq_nth es (x - xq_B) fun _ => cond (Nat.beq v.1 2) (k L S (xq_set h o.2.1 (1, c, xq_set es (x - xq_B) v))) (xq_obj h v fun t2 c2 _ => cond (xq_el c t2 c2) (k L S (xq_set h o.2.1 (1, c, xq_set es (x - xq_B) v))) none)) none
def xs_0 (d op x y z : Nat) (sc : List xv_V) : xv_L → List xv_V → List xv_O → xk_S → Option xv_R := cond (Nat.ble op 2) (xo_push (xi x)) (cond (Nat.ble op 4) (cond (Nat.ble op 3) (xo_push (3, x, 0)) (xo_push (4, 0, 0))) (cond (Nat.ble op 5) (xo_push (2, 0, 0)) (cond (Nat.ble op 7) (xo_iload x) (cond (Nat.ble op 9) (xo_aload x) (cond (Nat.ble op 11) (xo_lload x) (xo_dload x))))))
def xs_1 (d op x y z : Nat) (sc : List xv_V) : xv_L → List xv_V → List xv_O → xk_S → Option xv_R := cond (Nat.ble op 17) (cond (Nat.ble op 15) (xo_istore x) (xo_astore x)) (cond (Nat.ble op 21) (cond (Nat.ble op 19) (xo_lstore x) (xo_dstore x)) (cond (Nat.ble op 22) (xo_iinc x y) (cond (Nat.ble op 23) (xo_bin xb_add) (cond (Nat.ble op 24) (xo_bin xb_sub) (xo_bin xb_mul)))))
def xs_2 (d op x y z : Nat) (sc : List xv_V) : xv_L → List xv_V → List xv_O → xk_S → Option xv_R := cond (Nat.ble op 29) (cond (Nat.ble op 27) (cond (Nat.ble op 26) xo_and (xo_bin xb_or)) (cond (Nat.ble op 28) (xo_bin xb_shl) xo_i2l)) (cond (Nat.ble op 31) (cond (Nat.ble op 30) (xo_lbin xl_add) (xo_lbin xl_mul)) (cond (Nat.ble op 33) (cond (Nat.ble op 32) xo_lcmp xo_dcmp) (cond (Nat.ble op 35) (cond (Nat.ble op 34) xo_dup xo_dup2) (cond (Nat.ble op 36) xo_dupx1 xo_pop))))
def xs_3 (d op x y z : Nat) (sc : List xv_V) : xv_L → List xv_V → List xv_O → xk_S → Option xv_R := cond (Nat.ble op 41) (cond (Nat.ble op 39) (xo_getf x y) (xo_putf x y z)) (cond (Nat.ble op 45) (cond (Nat.ble op 43) (cond (Nat.ble op 42) (xo_iald sc) (xo_ast (fun c => Nat.beq c 0) xq_isI)) (cond (Nat.ble op 44) (xo_ald (fun c => Nat.beq c 5)) (xo_ast (fun c => Nat.beq c 5) (fun v => Nat.beq v.1 3)))) (cond (Nat.ble op 47) (cond (Nat.ble op 46) (xo_ald (fun c => and (Nat.ble 1 c) (Nat.ble c 4))) xo_asta) (cond (Nat.ble op 49) (cond (Nat.ble op 48) (xo_alen sc) (xo_cast x y)) (cond (Nat.ble op 50) (xo_push (6, x, 0)) (cond (Nat.ble op 51) (xo_oinit d) (xo_max d))))))
def xs (d op x y z : Nat) (sc : List xv_V) : xv_L → List xv_V → List xv_O → xk_S → Option xv_R := cond (Nat.ble op 25) (cond (Nat.ble op 13) (xs_0 d op x y z sc) (xs_1 d op x y z sc)) (cond (Nat.ble op 37) (xs_2 d op x y z sc) (xs_3 d op x y z sc))
/-- comparisons of two abstract ints: surely, surely not, or nothing -/
def xc_lt (a b : xv_V) (k : Bool → Option xv_R) : Option xv_R := cond (and (Nat.beq a.1 0) (Nat.beq b.1 0)) (cond (Nat.ble (Nat.succ a.2.2) b.2.1) (k true) (cond (Nat.ble b.2.2 a.2.1) (k false) none)) none
def xc_eq (a b : xv_V) (k : Bool → Option xv_R) : Option xv_R := cond (and (Nat.beq a.1 0) (Nat.beq b.1 0)) (cond (Nat.ble (Nat.succ a.2.2) b.2.1) (k false) (cond (Nat.ble (Nat.succ b.2.2) a.2.1) (k false) (cond (and (Nat.beq a.2.1 a.2.2) (and (Nat.beq b.2.1 b.2.2) (Nat.beq a.2.1 b.2.1))) (k true) none))) none
/-- op: 0 eq 1 ne 2 lt 3 ge 4 gt 5 le -/
def xc_op (c : Nat) (a b : xv_V) (k : Bool → Option xv_R) : Option xv_R := cond (Nat.ble c 1) (xc_eq a b fun r => k (cond (Nat.beq c 0) r (not r))) (cond (Nat.ble c 3) (xc_lt a b fun r => k (cond (Nat.beq c 2) r (not r))) (xc_lt b a fun r => k (cond (Nat.beq c 4) r (not r))))
/-- two references: the same, or surely not -/
def xc_ref (a b : xv_V) (k : Bool → Option xv_R) : Option xv_R := cond (and (xq_isA a) (xq_isA b)) (cond (or (or (Nat.beq a.1 8) (or (Nat.beq b.1 8) (or (Nat.beq a.1 7) (Nat.beq b.1 7)))) (or (and (Nat.beq a.1 6) (not (Nat.beq a.2.1 0))) (and (Nat.beq b.1 6) (not (Nat.beq b.2.1 0))))) none (k (and (Nat.beq a.1 b.1) (or (Nat.beq a.1 2) (Nat.beq a.2.1 b.2.1))))) none
def xc_null (a : xv_V) (k : Bool → Option xv_R) : Option xv_R := cond (xq_isA a) (k (Nat.beq a.1 2)) none
abbrev xk_N : Type := xv_L → List xv_V → List xv_O → Nat → Nat → Option xv_R
def xj (c x : Nat) (code : List xv_I) (r : List xv_I) (ih : List xv_I → xk_N) (L : xv_L) (S : List xv_V) (h : List xv_O) (nc ns : Nat) : Option xv_R :=
  cond (Nat.ble c 69) (xq_pop S fun a S => xc_op (c - 64) a (xi xq_B) fun t => ih (cond t (xq_drop x code) r) L S h nc ns)
  (cond (Nat.ble c 75) (xq_pop S fun b S => xq_pop S fun a S => xc_op (c - 70) a b fun t => ih (cond t (xq_drop x code) r) L S h nc ns)
  (cond (Nat.ble c 77) (xq_pop S fun b S => xq_pop S fun a S => xc_ref a b fun t => ih (cond (cond (Nat.beq c 76) t (not t)) (xq_drop x code) r) L S h nc ns)
  (cond (Nat.ble c 79) (xq_pop S fun a S => xc_null a fun t => ih (cond (cond (Nat.beq c 78) t (not t)) (xq_drop x code) r) L S h nc ns)
  (ih (xq_drop x code) L S h nc ns))))
/-- a table: the least number, the place of 'otherwise', then the places -/
def xj_sw (sw : List Nat) (a : xv_V) (k : Nat → Option xv_R) : Option xv_R := xq_nth sw 0 fun lo => xq_nth sw 1 fun df => cond (Nat.beq a.1 0) (cond (Nat.ble (Nat.succ a.2.2) lo) (k df) (cond (Nat.ble (lo + (xq_len sw - 2)) a.2.1) (k df) (cond (Nat.beq a.2.1 a.2.2) (xq_nth sw (a.2.1 - lo + 2) k) none))) none
def xr_get (v : xv_V) (ok : Bool) (h : List xv_O) (nc ns : Nat) : Option xv_R := cond ok (some (1, v, h, nc, ns)) none
def xr (op z : Nat) (S : List xv_V) (h : List xv_O) (nc ns : Nat) : Option xv_R :=
  cond (Nat.beq op 84) (cond (Nat.beq (xq_len S) 0) (some (0, (2, 0, 0), h, nc, ns)) none) (xq_pop S fun v S => cond (Nat.beq (xq_len S) 0) (cond (Nat.beq op 85) (xr_get v (cond (Nat.beq z 1) (xq_isZ v) (xq_isI v)) h nc ns) (cond (Nat.beq op 86) (xr_get v (xq_isA v) h nc ns) (cond (Nat.beq op 87) (xr_get v (Nat.beq v.1 3) h nc ns) (xr_get v (Nat.beq v.1 4) h nc ns)))) none)
/-- the first values of the stack, in their order -/
def xq_take {β : Type} (n : Nat) (S : List xv_V) (acc : List xv_V) (k : List xv_V → List xv_V → Option β) : Option β := Nat.rec (motive := fun _ => List xv_V → List xv_V → Option β) (fun S acc => k acc S) (fun _ ih S acc => xq_pop S fun v S => ih S (v :: acc)) n S acc
/-- the handler of a thrown class at this pc: rows start, end, place, class -/
def xq_hand (ex : List (Nat × Nat × Nat × Nat)) (pc E : Nat) (k : Option Nat → Option xv_R) : Option xv_R := List.rec (motive := fun _ => Option xv_R) (k none) (fun a _ ih => cond (and (Nat.ble a.1 pc) (Nat.ble (Nat.succ pc) a.2.1)) (cond (Nat.beq a.2.2.2 E) (k (some a.2.2.1)) ih) ih) ex
def xq_opt {β : Type} (o : Option β) (k : β → Option xv_R) : Option xv_R := Option.rec (motive := fun _ => Option xv_R) none (fun a => k a) o
abbrev xk_X : Type := Nat → List xv_V → List xv_O → Option xv_R
/-- behind a call -/
def xa (R : xv_R) (pc : Nat) (code r : List xv_I) (ex : List (Nat × Nat × Nat × Nat)) (ih : List xv_I → xk_N) (L : xv_L) (S : List xv_V) (nc ns : Nat) : Option xv_R :=
  cond (Nat.beq R.1 0) (ih r L S R.2.2.1 (nc + R.2.2.2.1) (ns + R.2.2.2.2)) (cond (Nat.beq R.1 1) (ih r L (R.2.1 :: S) R.2.2.1 (nc + R.2.2.2.1) (ns + R.2.2.2.2))
  (xq_hand ex pc (R.1 - 2) fun o => Option.rec (motive := fun _ => Option xv_R) (some (R.1, (2, 0, 0), R.2.2.1, nc + R.2.2.2.1, ns + R.2.2.2.2)) (fun t => ih (xq_drop t code) L [(8, 0, 0)] R.2.2.1 (nc + R.2.2.2.1) (ns + R.2.2.2.2)) o))
def xq_eqV (a b : xv_V) : Bool := and (Nat.beq a.1 b.1) (and (Nat.beq a.2.1 b.2.1) (Nat.beq a.2.2 b.2.2))
/-- the same locals, row for row -/
def xq_eqL (a b : xv_L) : Bool := List.rec (motive := fun _ => xv_L → Bool) (fun b => List.rec (motive := fun _ => Bool) true (fun _ _ _ => false) b) (fun x _ ih b => List.rec (motive := fun _ => Bool) false (fun y t _ => cond (and (Nat.beq x.1 y.1) (xq_eqV x.2 y.2)) (ih t) false) b) a b
/-- one frame: d is how many calls may stand open below it -/
def xl (FD : List (List xv_V)) (E9 : xv_L) (X : xk_X) (d : Nat) (sc : List xv_V) (code : List xv_I) (sw : List (List Nat)) (ex : List (Nat × Nat × Nat × Nat)) (n : Nat) : List xv_I → xk_N :=
  Nat.rec (motive := fun _ => List xv_I → xk_N) (fun _ _ _ _ _ _ => none) (fun _ ih is L S h nc ns =>
    List.rec (motive := fun _ => Option xv_R) none (fun i r _ =>
      cond (Nat.ble i.2.2.1 52) (xs d i.2.2.1 i.2.2.2.1 i.2.2.2.2.1 i.2.2.2.2.2.1 sc L S h (fun L S h => ih r L S h nc ns))
      (cond (Nat.ble i.2.2.1 58)
        (cond (Nat.ble i.2.2.1 56) (xq_nth FD i.2.2.2.1 fun fs => ih r L ((1, xq_len h, 0) :: S) (xq_app h [(0, i.2.2.2.1, fs)]) (nc + 1) (ns + xq_len fs))
          (xq_pop S fun v S => xq_one v fun m => cond (and (Nat.ble xq_B m) (Nat.ble m 2147549184)) (ih r L ((1, xq_len h, 0) :: S) (xq_app h [(1, i.2.2.2.1, xq_rep (m - xq_B) (cond (Nat.beq i.2.2.2.1 0) (0, xq_B, xq_B) (cond (Nat.beq i.2.2.2.1 5) (3, xq_BL, 0) (2, 0, 0))))]) (nc + 1) (ns + (m - xq_B))) none))
      (cond (Nat.ble i.2.2.1 80) (xj i.2.2.1 i.2.2.2.1 code r ih L S h nc ns)
      (cond (Nat.ble i.2.2.1 81) (xq_pop S fun a S => xq_nth sw i.2.2.2.1 fun w => xj_sw w a fun t => ih (xq_drop t code) L S h nc ns)
      (cond (Nat.ble i.2.2.1 88) (xr i.2.2.1 i.2.2.2.2.2.1 S h nc ns)
      (cond (Nat.ble i.2.2.1 89) (cond (and (xq_eqL L E9) (Nat.beq (xq_len S) 0)) (some (9, (2, 0, 0), h, nc, ns)) none)
      (cond (Nat.ble i.2.2.1 91) (cond (and (Nat.ble 6 d) (Nat.ble (xq_len S) 4)) (some (2 + i.2.2.2.1, (2, 0, 0), h, nc + 1, ns + 6)) none)
      (cond (Nat.ble i.2.2.1 101) (xq_take i.2.2.2.2.1 S [] fun as S => cond (Nat.ble i.2.2.1 97) (cond (Nat.ble (xq_len S) 4) (xq_opt (X i.2.2.2.1 as h) fun R => xa R i.1 code r ex ih L S nc ns) none)
          (xq_pop S fun o S => xq_obj h o fun t c _ => cond (and (Nat.beq t 0) (and (or (Nat.ble i.2.2.1 99) (Nat.beq c i.2.2.2.2.2.1)) (Nat.ble (xq_len S) 4))) (xq_opt (X i.2.2.2.1 (o :: as) h) fun R => xa R i.1 code r ex ih L S nc ns) none)) none)))))))) is) n
/-- a method, with d calls below it -/
def xx (FD : List (List xv_V)) (MT : List (List xv_M)) (sc : List xv_V) (d : Nat) : xk_X :=
  Nat.rec (motive := fun _ => xk_X) (fun _ _ _ => none) (fun d X m as h => xq_nth MT (m / 16) fun g => xq_nth g (m % 16) fun t => cond (Nat.ble (xq_sz as) t.2.2.2) (xl FD [] X d sc t.1 t.2.1 t.2.2.1 1000000 t.1 (xq_args 0 as) [] h 0 0) none) d

end
end
section
/-! what the executor's small functions come to -/
theorem xe_pop {β : Type} {S : List xv_V} {k : xv_V → List xv_V → Option β} {r : β} (h : xq_pop S k = some r) : ∃ v S', S = v :: S' ∧ k v S' = some r := by
  cases S with
  | nil => cases h
  | cons v S' => exact ⟨v, S', rfl, h⟩
theorem xe_cond {β : Type} {b : Bool} {x : Option β} {r : β} (h : cond b x none = some r) : b = true ∧ x = some r := by
  cases b with
  | false => cases h
  | true => exact ⟨rfl, h⟩
theorem xe_condN {β : Type} {b : Bool} {x : Option β} {r : β} (h : cond b none x = some r) : b = false ∧ x = some r := by
  cases b with
  | true => cases h
  | false => exact ⟨rfl, h⟩
theorem xe_and {a b : Bool} (h : and a b = true) : a = true ∧ b = true := by
  cases a <;> cases b <;> simp_all
theorem xe_or {a b : Bool} (h : or a b = true) : a = true ∨ b = true := by
  cases a <;> cases b <;> simp_all
theorem xe_beq {a b : Nat} (h : Nat.beq a b = true) : a = b := Nat.eq_of_beq_eq_true h
theorem xe_bne {a b : Nat} (h : Nat.beq a b = false) : a ≠ b := Nat.ne_of_beq_eq_false h
theorem xe_ble {a b : Nat} (h : Nat.ble a b = true) : a ≤ b := Nat.le_of_ble_eq_true h
theorem xe_nble {a b : Nat} (h : Nat.ble a b = false) : b < a := by
  rcases Nat.lt_or_ge b a with q | q
  · exact q
  · rw [Nat.ble_eq_true_of_le q] at h; cases h
theorem xe_one {β : Type} {v : xv_V} {k : Nat → Option β} {r : β} (h : xq_one v k = some r) : ∃ n, v = (0, n, n) ∧ k n = some r := by
  obtain ⟨t, a, b⟩ := v
  obtain ⟨h1, h3⟩ := xe_cond h
  obtain ⟨h2, h4⟩ := xe_cond h3
  have e1 : t = 0 := xe_beq h1
  have e2 : a = b := xe_beq h2
  subst e1; subst e2
  exact ⟨a, rfl, h4⟩
theorem xq_drop_eq {α : Type} (n : Nat) : ∀ l : List α, xq_drop n l = l.drop n := by
  induction n with
  | zero => intro l; rfl
  | succ n ih => intro l; cases l with
    | nil => rfl
    | cons a l => exact ih l
theorem xe_nth {α β : Type} {l : List α} {n : Nat} {k : α → Option β} {r : β} (h : xq_nth l n k = some r) : ∃ a, l[n]? = some a ∧ k a = some r := by
  unfold xq_nth at h
  rw [xq_drop_eq] at h
  cases hd : l.drop n with
  | nil => rw [hd] at h; cases h
  | cons a t =>
    rw [hd] at h
    refine ⟨a, ?_, h⟩
    have h1 : (l.drop n)[0]? = some a := by rw [hd]; rfl
    rw [List.getElem?_drop] at h1
    exact h1
theorem xq_set_eq {α : Type} (n : Nat) (v : α) : ∀ l : List α, xq_set l n v = l.set n v := by
  induction n with
  | zero => intro l; cases l <;> rfl
  | succ n ih => intro l; cases l with
    | nil => rfl
    | cons a l => show a :: xq_set l n v = a :: l.set n v; rw [ih l]
theorem xq_len_eq {α : Type} (l : List α) : xq_len l = l.length := by
  induction l with
  | nil => rfl
  | cons a l ih => show Nat.succ (xq_len l) = _; rw [ih]; rfl
theorem xq_rep_eq {α : Type} (n : Nat) (v : α) : xq_rep n v = List.replicate n v := by
  induction n with
  | zero => rfl
  | succ n ih => show v :: xq_rep n v = _; rw [ih]; rfl
theorem xq_app_eq {α : Type} (l r : List α) : xq_app l r = l ++ r := by
  induction l with
  | nil => rfl
  | cons a l ih => show a :: xq_app l r = _; rw [ih]; rfl
theorem xe_get {β : Type} {L : List (Nat × xv_V)} {i : Nat} {k : xv_V → Option β} {r : β} (h : xq_get L i k = some r) : ∃ (j : Nat) (v : xv_V), L[j]? = some (i, v) ∧ k v = some r := by
  induction L with
  | nil => cases h
  | cons a L ih =>
    have h' : cond (Nat.beq a.1 i) (k a.2) (xq_get L i k) = some r := h
    cases hb : Nat.beq a.1 i with
    | true =>
      rw [hb] at h'
      have := xe_beq hb
      exact ⟨0, a.2, by rw [← this]; rfl, h'⟩
    | false =>
      rw [hb] at h'
      obtain ⟨j, v, h1, h2⟩ := ih h'
      exact ⟨j + 1, v, h1, h2⟩
theorem xe_obj {β : Type} {h : List xv_O} {v : xv_V} {k : Nat → Nat → List xv_V → Option β} {r : β} (q : xq_obj h v k = some r) : v.1 = 1 ∧ ∃ t c es, h[v.2.1]? = some (t, c, es) ∧ k t c es = some r := by
  unfold xq_obj at q
  obtain ⟨h1, q⟩ := xe_cond q
  obtain ⟨o, h2, h3⟩ := xe_nth q
  exact ⟨xe_beq h1, o.1, o.2.1, o.2.2, h2, h3⟩
/-! an int as a number 2^31 above it, a long 2^63 above it -/
def xb (x : Int32) : Nat := (x.toInt + 2147483648).toNat
def xbl (x : Int64) : Nat := (x.toInt + 9223372036854775808).toNat
theorem xb_int (x : Int32) : (xb x : Int) = x.toInt + 2147483648 := by
  have h1 := Int32.le_toInt x
  unfold xb; omega
theorem xb_lt (x : Int32) : xb x < 4294967296 := by
  have h1 := Int32.toInt_lt x
  have h2 := xb_int x
  omega
theorem xbl_int (x : Int64) : (xbl x : Int) = x.toInt + 9223372036854775808 := by
  have h1 := Int64.le_toInt x
  unfold xbl; omega
theorem xbl_lt (x : Int64) : xbl x < 18446744073709551616 := by
  have h1 := Int64.toInt_lt x
  have h2 := xbl_int x
  omega
theorem xb_inj {x y : Int32} (h : xb x = xb y) : x = y := by
  have h1 := xb_int x
  have h2 := xb_int y
  exact Int32.toInt_inj.mp (by omega)
theorem xb_lt_iff (x y : Int32) : x < y ↔ xb x < xb y := by
  have h1 := xb_int x
  have h2 := xb_int y
  rw [Int32.lt_iff_toInt_lt]
  omega
theorem xb_le_iff (x y : Int32) : x ≤ y ↔ xb x ≤ xb y := by
  have h1 := xb_int x
  have h2 := xb_int y
  rw [Int32.le_iff_toInt_le]
  omega
theorem xb_add_eq (x y : Int32) : xb (x + y) = xb_add (xb x) (xb y) := by
  have h1 := xb_int x
  have h2 := xb_int y
  have h3 := xb_int (x + y)
  rw [Int32.toInt_add, Int.bmod_def] at h3
  unfold xb_add xq_B xq_M
  omega
theorem xb_sub_eq (x y : Int32) : xb (x - y) = xb_sub (xb x) (xb y) := by
  have h1 := xb_int x
  have h2 := xb_int y
  have h3 := xb_int (x - y)
  have h4 := xb_lt y
  rw [Int32.toInt_sub, Int.bmod_def] at h3
  unfold xb_sub xq_B xq_M
  omega
theorem xb_u_eq (x : Int32) : (xb_u (xb x) : Int) = x.toInt % 4294967296 := by
  have h1 := xb_int x
  unfold xb_u xq_B xq_M
  omega
theorem xb_u_nat (x : Int32) : xb_u (xb x) = x.toUInt32.toNat := by
  have h1 := xb_u_eq x
  have h2 : x.toUInt32.toNat = x.toBitVec.toNat := rfl
  have h3 : x.toInt = x.toBitVec.toInt := rfl
  have h4 := BitVec.toInt_eq_toNat_cond x.toBitVec
  have h5 := x.toBitVec.isLt
  rw [h3, h4] at h1
  rw [h2]
  split at h1 <;> omega
theorem xb_of_u (x : Int32) : xb x = xb_u (x.toUInt32.toNat) := by
  rw [← xb_u_nat]
  have := xb_lt x
  unfold xb_u xq_B xq_M
  omega
theorem xb_and_eq (x y : Int32) : xb (x &&& y) = xb_and (xb x) (xb y) := by
  rw [xb_of_u, xb_and, xb_u_nat, xb_u_nat]; rfl
theorem xb_or_eq (x y : Int32) : xb (x ||| y) = xb_or (xb x) (xb y) := by
  rw [xb_of_u, xb_or, xb_u_nat, xb_u_nat]; rfl
theorem xb_mul_eq (x y : Int32) : xb (x * y) = xb_mul (xb x) (xb y) := by
  rw [xb_of_u, xb_mul, xb_u_nat, xb_u_nat]
  have h : (x * y).toUInt32.toNat = x.toUInt32.toNat * y.toUInt32.toNat % 4294967296 := by
    show (x * y).toBitVec.toNat = x.toBitVec.toNat * y.toBitVec.toNat % 4294967296
    rw [Int32.toBitVec_mul, BitVec.toNat_mul]
  rw [h]
  unfold xb_u xq_B xq_M
  omega
theorem xb_ofInt {n : Nat} (h : n < 4294967296) : xb (Int32.ofInt ((n : Int) - 2147483648)) = n := by
  have h1 := xb_int (Int32.ofInt ((n : Int) - 2147483648))
  rw [Int32.toInt_ofInt_of_le (by omega) (by omega)] at h1
  omega
theorem xbl_add_eq (x y : Int64) : xbl (x + y) = xl_add (xbl x) (xbl y) := by
  have h1 := xbl_int x
  have h2 := xbl_int y
  have h3 := xbl_int (x + y)
  rw [Int64.toInt_add, Int.bmod_def] at h3
  unfold xl_add xq_BL xq_ML
  omega
theorem xl_u_nat (x : Int64) : xl_u (xbl x) = x.toUInt64.toNat := by
  have h1 : (xl_u (xbl x) : Int) = x.toInt % 18446744073709551616 := by
    have h1 := xbl_int x
    unfold xl_u xq_BL xq_ML
    omega
  have h2 : x.toUInt64.toNat = x.toBitVec.toNat := rfl
  have h3 : x.toInt = x.toBitVec.toInt := rfl
  have h4 := BitVec.toInt_eq_toNat_cond x.toBitVec
  have h5 := x.toBitVec.isLt
  rw [h3, h4] at h1
  rw [h2]
  split at h1 <;> omega
theorem xbl_of_u (x : Int64) : xbl x = xl_u (x.toUInt64.toNat) := by
  rw [← xl_u_nat]
  have := xbl_lt x
  unfold xl_u xq_BL xq_ML
  omega
theorem xbl_mul_eq (x y : Int64) : xbl (x * y) = xl_mul (xbl x) (xbl y) := by
  rw [xbl_of_u, xl_mul, xl_u_nat, xl_u_nat]
  have h : (x * y).toUInt64.toNat = x.toUInt64.toNat * y.toUInt64.toNat % 18446744073709551616 := by
    show (x * y).toBitVec.toNat = x.toBitVec.toNat * y.toBitVec.toNat % 18446744073709551616
    rw [Int64.toBitVec_mul, BitVec.toNat_mul]
  rw [h]
  unfold xl_u xq_BL xq_ML
  omega
theorem xbl_ofInt32 (x : Int32) : xbl x.toInt64 = xb x + (xq_BL - xq_B) := by
  have h1 := xbl_int x.toInt64
  have h2 := xb_int x
  rw [Int32.toInt_toInt64] at h1
  unfold xq_BL xq_B
  omega
theorem xbl_inj {x y : Int64} (h : xbl x = xbl y) : x = y := by
  have h1 := xbl_int x
  have h2 := xbl_int y
  exact Int64.toInt_inj.mp (by omega)
theorem xbl_lt_iff (x y : Int64) : x < y ↔ xbl x < xbl y := by
  have h1 := xbl_int x
  have h2 := xbl_int y
  rw [Int64.lt_iff_toInt_lt]
  omega
theorem xbl_ofNat {n : Nat} (h : n < 18446744073709551616) : xbl (Int64.ofInt ((n : Int) - 9223372036854775808)) = n := by
  have h1 := xbl_int (Int64.ofInt ((n : Int) - 9223372036854775808))
  rw [Int64.toInt_ofInt_of_le (by omega) (by omega)] at h1
  omega
/-- the index of a row -/
theorem xb_clamp {x : Int32} {n : Nat} (h : xb x = n) (h0 : 2147483648 ≤ n) : x.toNatClampNeg = n - 2147483648 ∧ ¬ x < 0 := by
  have h1 := xb_int x
  refine ⟨?_, ?_⟩
  · show x.toInt.toNat = _
    omega
  · rw [Int32.lt_iff_toInt_lt]
    show ¬ x.toInt < 0
    omega
theorem xb_in {x : Int32} {n N : Nat} (h : xb x = n) (h0 : 2147483648 ≤ n) (h1 : n - 2147483648 < N) : vp_in x N := by
  obtain ⟨e, hn⟩ := xb_clamp h h0
  rintro (q | q)
  · exact hn q
  · omega
theorem xb_ofNat {n : Nat} (h : n < 2147483648) : xb (Int32.ofNat n) = n + 2147483648 := by
  have h1 := xb_int (Int32.ofNat n)
  rw [show Int32.ofNat n = Int32.ofInt (n : Int) from rfl, Int32.toInt_ofInt_of_le (by omega) (by omega)] at h1
  rw [show Int32.ofNat n = Int32.ofInt (n : Int) from rfl]
  omega
theorem xb_0 : xb 0 = 2147483648 := by decide
theorem xb_shl_eq (x y : Int32) : xb (x <<< (y &&& 31)) = xb_shl (xb x) (xb y) := by
  rw [xb_of_u, xb_shl, xb_u_nat, xb_u_nat]
  have h : (x <<< (y &&& 31)).toUInt32.toNat = x.toUInt32.toNat * 2 ^ (y.toUInt32.toNat % 32) % 4294967296 := by
    have h1 : (y &&& 31).toUInt32.toNat = y.toUInt32.toNat % 32 := by
      show (y.toBitVec &&& (31 : Int32).toBitVec).toNat = _
      rw [BitVec.toNat_and]
      show y.toBitVec.toNat &&& 31 = y.toBitVec.toNat % 32
      exact Nat.and_two_pow_sub_one_eq_mod _ 5
    have h2 : (y &&& 31).toBitVec.toNat < 32 := by
      have : (y &&& 31).toBitVec.toNat = y.toUInt32.toNat % 32 := h1
      omega
    have h3 : (x <<< (y &&& 31)).toBitVec = x.toBitVec <<< ((y &&& 31).toBitVec.smod 32) := rfl
    have h4 : (y &&& 31).toBitVec.smod 32 = (y &&& 31).toBitVec := by
      generalize hz : (y &&& 31).toBitVec = z at h2
      have h7 : z.msb = false := by rw [BitVec.msb_eq_false_iff_two_mul_lt]; omega
      have h8 : (32#32).msb = false := by decide
      show z.smod 32#32 = z
      simp only [BitVec.smod, h7, h8]
      apply BitVec.eq_of_toNat_eq
      show (z % 32#32).toNat = z.toNat
      rw [BitVec.toNat_umod]
      exact Nat.mod_eq_of_lt h2
    show (x <<< (y &&& 31)).toBitVec.toNat = _
    rw [h3, h4, BitVec.shiftLeft_eq', BitVec.toNat_shiftLeft, Nat.shiftLeft_eq]
    have h5 : (y &&& 31).toBitVec.toNat = y.toUInt32.toNat % 32 := h1
    rw [h5]; rfl
  rw [h]
  unfold xb_u xq_B xq_M
  omega
end
section
/-! what an abstract state says of a state -/
def xf_2 {α β : Type} (R : α → β → Prop) : List α → List β → Prop
  | [], [] => True
  | a :: as, b :: bs => R a b ∧ xf_2 R as bs
  | _, _ => False
theorem xf_2_nil {α β : Type} {R : α → β → Prop} {bs : List β} (h : xf_2 R [] bs) : bs = [] := by
  cases bs with
  | nil => rfl
  | cons b bs => cases h
theorem xf_2_cons {α β : Type} {R : α → β → Prop} {a : α} {as : List α} {bs : List β} (h : xf_2 R (a :: as) bs) : ∃ b bs', bs = b :: bs' ∧ R a b ∧ xf_2 R as bs' := by
  cases bs with
  | nil => cases h
  | cons b bs => exact ⟨b, bs, rfl, h.1, h.2⟩
theorem xf_2_mono {α β : Type} {R R' : α → β → Prop} (hR : ∀ a b, R a b → R' a b) : ∀ {as : List α} {bs : List β}, xf_2 R as bs → xf_2 R' as bs
  | [], [], _ => trivial
  | _ :: _, _ :: _, h => ⟨hR _ _ h.1, xf_2_mono hR h.2⟩
  | [], _ :: _, h => h.elim
  | _ :: _, [], h => h.elim
theorem xf_2_len {α β : Type} {R : α → β → Prop} : ∀ {as : List α} {bs : List β}, xf_2 R as bs → as.length = bs.length
  | [], [], _ => rfl
  | _ :: _, _ :: _, h => by simp [xf_2_len h.2]
  | [], _ :: _, h => h.elim
  | _ :: _, [], h => h.elim
theorem xf_2_get {α β : Type} {R : α → β → Prop} {as : List α} : ∀ {bs : List β}, xf_2 R as bs → ∀ (i : Nat) (a : α), as[i]? = some a → ∃ b, bs[i]? = some b ∧ R a b := by
  induction as with
  | nil => intro bs h i a hi; simp at hi
  | cons x as ih =>
    intro bs h i a hi
    obtain ⟨b, bs', rfl, h1, h2⟩ := xf_2_cons h
    cases i with
    | zero => simp at hi; subst hi; exact ⟨b, rfl, h1⟩
    | succ i =>
      obtain ⟨b', h3, h4⟩ := ih h2 i a (by simpa using hi)
      exact ⟨b', by simpa using h3, h4⟩
theorem xf_2_c {α β : Type} {R : α → β → Prop} {a : α} {b : β} {as : List α} {bs : List β} (h1 : R a b) (h2 : xf_2 R as bs) : xf_2 R (a :: as) (b :: bs) := ⟨h1, h2⟩
theorem xf_2_app {α β : Type} {R : α → β → Prop} : ∀ {as : List α} {bs : List β}, xf_2 R as bs → ∀ {as' : List α} {bs' : List β}, xf_2 R as' bs' → xf_2 R (as ++ as') (bs ++ bs')
  | [], [], _ => fun h => h
  | _ :: _, _ :: _, h => fun h' => ⟨h.1, xf_2_app h.2 h'⟩
  | [], _ :: _, h => h.elim
  | _ :: _, [], h => h.elim
theorem xf_2_set {α β : Type} {R : α → β → Prop} : ∀ {as : List α} {bs : List β}, xf_2 R as bs → ∀ (i : Nat) {a : α} {b : β}, R a b → xf_2 R (as.set i a) (bs.set i b)
  | [], [], _ => fun _ _ _ _ => trivial
  | _ :: _, _ :: _, h => fun i a b hR => by
    cases i with
    | zero => exact ⟨hR, h.2⟩
    | succ i => exact ⟨h.1, xf_2_set h.2 i hR⟩
  | [], _ :: _, h => h.elim
  | _ :: _, [], h => h.elim
/-- the constant objects, the script's cell -/
abbrev xm_E : Type := (Nat → Nat) × Nat
def xm_V (E : xm_E) (ws : va_W) (q : xv_V) : Value → Prop
  | .int x => (q.1 = 0 ∧ q.2.1 ≤ xb x ∧ xb x ≤ q.2.2) ∨ (q.1 = 5 ∧ x &&& 31 = Int32.ofNat q.2.1 ∧ q.2.1 < 32)
  | .long x => q.1 = 3 ∧ xbl x = q.2.1
  | .double b => q.1 = 4 ∧ b.toNat = q.2.1
  | .null => q.1 = 2
  | .ref a => (q.1 = 1 ∧ ∃ e : va_E, ws[q.2.1]? = some (a, e)) ∨ (q.1 = 6 ∧ a = E.1 q.2.1) ∨ (q.1 = 7 ∧ a = E.2) ∨ q.1 = 8
  | _ => False
/-- the same cells, whatever they hold -/
def xm_le (ws ws' : va_W) : Prop := ∀ (i a : Nat) (e : va_E), ws[i]? = some (a, e) → ∃ e' : va_E, ws'[i]? = some (a, e')
theorem xm_le_app (ws w : va_W) : xm_le ws (ws ++ w) := fun i a e h => ⟨e, by rw [List.getElem?_append_left (List.getElem?_eq_some_iff.mp h).1]; exact h⟩
theorem xm_le_set {ws : va_W} {i a : Nat} {e e' : va_E} (h : ws[i]? = some (a, e)) : xm_le ws (ws.set i (a, e')) := by
  intro j b f hj
  by_cases q : i = j
  · subst q
    rw [h] at hj
    cases hj
    exact ⟨e', by rw [List.getElem?_set_self (List.getElem?_eq_some_iff.mp h).1]⟩
  · exact ⟨f, by rw [List.getElem?_set_ne q]; exact hj⟩
theorem xm_le_rfl (ws : va_W) : xm_le ws ws := fun _ _ e h => ⟨e, h⟩
theorem xm_le_trans {a b c : va_W} (h1 : xm_le a b) (h2 : xm_le b c) : xm_le a c := fun i x e h => by
  obtain ⟨e', h'⟩ := h1 i x e h
  exact h2 i x e' h'
theorem xm_V_mono {E : xm_E} {ws ws' : va_W} (h : xm_le ws ws') {q : xv_V} {v : Value} (hv : xm_V E ws q v) : xm_V E ws' q v := by
  cases v with
  | ref a =>
    rcases hv with ⟨h1, e, h2⟩ | h3
    · obtain ⟨e', h4⟩ := h _ _ _ h2
      exact Or.inl ⟨h1, e', h4⟩
    · exact Or.inr h3
  | _ => exact hv
theorem xm_V0 {E : xm_E} {ws : va_W} {a b : Nat} {v : Value} (h : xm_V E ws (0, a, b) v) : ∃ x, v = .int x ∧ a ≤ xb x ∧ xb x ≤ b := by
  cases v with
  | int x =>
    rcases h with h | h
    · exact ⟨x, rfl, h.2⟩
    · exact absurd h.1 (by simp)
  | ref a => rcases h with h | h | h | h <;> simp at h
  | _ => simp [xm_V] at h
theorem xm_V1 {E : xm_E} {ws : va_W} {n : Nat} {v : Value} (h : xm_V E ws (0, n, n) v) : ∃ x, v = .int x ∧ xb x = n := by
  obtain ⟨x, h1, h2, h3⟩ := xm_V0 h
  exact ⟨x, h1, by omega⟩
theorem xm_VI {E : xm_E} {ws : va_W} {q : xv_V} {v : Value} (hq : xq_isI q = true) (h : xm_V E ws q v) : ∃ x, v = .int x := by
  obtain ⟨t, a, b⟩ := q
  have ht : t = 0 ∨ t = 5 := (xe_or hq).imp xe_beq xe_beq
  cases v with
  | int x => exact ⟨x, rfl⟩
  | ref a => rcases h with h | h | h | h <;> rcases ht with rfl | rfl <;> simp at h
  | long _ => rcases ht with rfl | rfl <;> simp [xm_V] at h
  | double _ => rcases ht with rfl | rfl <;> simp [xm_V] at h
  | null => rcases ht with rfl | rfl <;> simp [xm_V] at h
  | _ => simp [xm_V] at h
theorem xm_VA {E : xm_E} {ws : va_W} {q : xv_V} {v : Value} (hq : xq_isA q = true) (h : xm_V E ws q v) : ∃ r, v = va_rf r := by
  obtain ⟨t, a, b⟩ := q
  have ht : t = 1 ∨ t = 2 ∨ t = 6 ∨ t = 7 ∨ t = 8 := by
    rcases xe_or hq with h | h
    · exact Or.inl (xe_beq h)
    · rcases xe_or h with h | h
      · exact Or.inr (Or.inl (xe_beq h))
      · rcases xe_or h with h | h
        · exact Or.inr (Or.inr (Or.inl (xe_beq h)))
        · rcases xe_or h with h | h
          · exact Or.inr (Or.inr (Or.inr (Or.inl (xe_beq h))))
          · exact Or.inr (Or.inr (Or.inr (Or.inr (xe_beq h))))
  cases v with
  | ref a => exact ⟨some a, rfl⟩
  | null => exact ⟨none, rfl⟩
  | int x => rcases ht with rfl | rfl | rfl | rfl | rfl <;> simp [xm_V] at h
  | long _ => rcases ht with rfl | rfl | rfl | rfl | rfl <;> simp [xm_V] at h
  | double _ => rcases ht with rfl | rfl | rfl | rfl | rfl <;> simp [xm_V] at h
  | _ => simp [xm_V] at h
theorem xm_VL {E : xm_E} {ws : va_W} {q : xv_V} {v : Value} (hq : Nat.beq q.1 3 = true) (h : xm_V E ws q v) : ∃ x, v = .long x ∧ xbl x = q.2.1 := by
  obtain ⟨t, a, b⟩ := q
  have ht : t = 3 := xe_beq hq
  subst ht
  cases v with
  | long x => exact ⟨x, rfl, h.2⟩
  | ref a => rcases h with h | h | h | h <;> simp at h
  | _ => simp [xm_V] at h
theorem xm_VD {E : xm_E} {ws : va_W} {q : xv_V} {v : Value} (hq : Nat.beq q.1 4 = true) (h : xm_V E ws q v) : ∃ x, v = .double x ∧ x.toNat = q.2.1 := by
  obtain ⟨t, a, b⟩ := q
  have ht : t = 4 := xe_beq hq
  subst ht
  cases v with
  | double x => exact ⟨x, rfl, h.2⟩
  | ref a => rcases h with h | h | h | h <;> simp at h
  | _ => simp [xm_V] at h
theorem xm_VO {E : xm_E} {ws : va_W} {q : xv_V} {v : Value} (hq : q.1 = 1) (h : xm_V E ws q v) : ∃ (a : Nat) (e : va_E), v = .ref a ∧ ws[q.2.1]? = some (a, e) := by
  obtain ⟨t, a, b⟩ := q
  dsimp only at hq
  subst hq
  cases v with
  | ref a =>
    rcases h with h | h | h | h
    · exact ⟨a, h.2.choose, rfl, h.2.choose_spec⟩
    · exact absurd h.1 (by simp)
    · exact absurd h.1 (by simp)
    · exact absurd h (by simp)
  | _ => simp [xm_V] at h
theorem xm_cat {E : xm_E} {ws : va_W} {q : xv_V} {v : Value} (h : xm_V E ws q v) : xq_is2 q = (v.category == 2) := by
  obtain ⟨t, a, b⟩ := q
  cases v with
  | int x => rcases h with ⟨h, -⟩ | ⟨h, -⟩ <;> (dsimp only at h; subst h; rfl)
  | long x => obtain ⟨h, -⟩ := h; dsimp only at h; subst h; rfl
  | double x => obtain ⟨h, -⟩ := h; dsimp only at h; subst h; rfl
  | null => have h' : t = 2 := h; subst h'; rfl
  | ref x => rcases h with ⟨h, -⟩ | ⟨h, -⟩ | ⟨h, -⟩ | h <;> (dsimp only at h; subst h; rfl)
  | _ => simp [xm_V] at h
theorem xm_cat1 {E : xm_E} {ws : va_W} {q : xv_V} {v : Value} (h : xm_V E ws q v) (hq : xq_is2 q = false) : v.category = 1 := by
  have h1 := xm_cat h
  rw [hq] at h1
  rcases lv_cat v with h2 | h2
  · exact h2
  · rw [h2] at h1; cases h1
/-- a local -/
def xm_L (E : xm_E) (ws : va_W) (a : Nat × xv_V) (b : Nat × Value) : Prop := a.1 = b.1 ∧ xm_V E ws a.2 b.2
theorem xm_L_mono {E : xm_E} {ws ws' : va_W} (h : xm_le ws ws') {L : xv_L} {lv : List (Nat × Value)} (hL : xf_2 (xm_L E ws) L lv) : xf_2 (xm_L E ws') L lv := xf_2_mono (fun _ _ q => ⟨q.1, xm_V_mono h q.2⟩) hL
theorem xm_S_mono {E : xm_E} {ws ws' : va_W} (h : xm_le ws ws') {S : List xv_V} {st : List Value} (hL : xf_2 (xm_V E ws) S st) : xf_2 (xm_V E ws') S st := xf_2_mono (fun _ _ q => xm_V_mono h q) hL
theorem xm_del1 {E : xm_E} {ws : va_W} (i : Nat) : ∀ {L : List (Nat × xv_V)} {lv : List (Nat × Value)}, xf_2 (xm_L E ws) L lv → xf_2 (xm_L E ws) (xq_del1 L i) (lv.filter (fun q => !(q.1 == i) && !(q.1 + 1 == i && q.2.category == 2)))
  | [], [], _ => trivial
  | (a, q) :: L, (b, v) :: lv, h => by
    obtain ⟨⟨h1, h2⟩, h3⟩ := h
    dsimp only at h1 h2
    subst h1
    have ih := xm_del1 i h3
    show xf_2 _ (cond (Nat.beq a i) (xq_del1 L i) (cond (and (Nat.beq (Nat.succ a) i) (xq_is2 q)) (xq_del1 L i) ((a, q) :: xq_del1 L i))) _
    rw [List.filter_cons, xm_cat h2]
    cases h4 : Nat.beq a i with
    | true =>
      have := xe_beq h4
      simp only [this, cond_true, beq_self_eq_true, Bool.not_true, Bool.false_and, Bool.false_eq_true, if_false]
      exact ih
    | false =>
      have n4 := xe_bne h4
      have e4 : (a == i) = false := by simpa using n4
      cases h5 : Nat.beq (Nat.succ a) i with
      | true =>
        have e5 : (a + 1 == i) = true := by simpa using xe_beq h5
        cases h6 : (v.category == 2) with
        | true => simpa [e4, e5, h6] using ih
        | false => simpa [e4, e5, h6] using (xf_2_c (R := xm_L E ws) (a := (a, q)) (b := (a, v)) ⟨rfl, h2⟩ ih)
      | false =>
        have e5 : (a + 1 == i) = false := by simpa using xe_bne h5
        simpa [e4, e5] using (xf_2_c (R := xm_L E ws) (a := (a, q)) (b := (a, v)) ⟨rfl, h2⟩ ih)
  | [], _ :: _, h => h.elim
  | _ :: _, [], h => h.elim
theorem xm_del2 {E : xm_E} {ws : va_W} (i : Nat) : ∀ {L : List (Nat × xv_V)} {lv : List (Nat × Value)}, xf_2 (xm_L E ws) L lv → xf_2 (xm_L E ws) (xq_del2 L i) (lv.filter (fun q => !(q.1 == i) && (!(q.1 == i + 1) && !(q.1 + 1 == i && q.2.category == 2))))
  | [], [], _ => trivial
  | (a, q) :: L, (b, v) :: lv, h => by
    obtain ⟨⟨h1, h2⟩, h3⟩ := h
    dsimp only at h1 h2
    subst h1
    have ih := xm_del2 i h3
    show xf_2 _ (cond (Nat.beq a i) (xq_del2 L i) (cond (Nat.beq a (Nat.succ i)) (xq_del2 L i) (cond (and (Nat.beq (Nat.succ a) i) (xq_is2 q)) (xq_del2 L i) ((a, q) :: xq_del2 L i)))) _
    rw [List.filter_cons, xm_cat h2]
    cases h4 : Nat.beq a i with
    | true =>
      have := xe_beq h4
      simp only [this, cond_true, beq_self_eq_true, Bool.not_true, Bool.false_and, Bool.false_eq_true, if_false]
      exact ih
    | false =>
      have n4 := xe_bne h4
      have e4 : (a == i) = false := by simpa using n4
      cases h7 : Nat.beq a (Nat.succ i) with
      | true =>
        have e7 : (a == i + 1) = true := by simpa using xe_beq h7
        simpa [e4, e7] using ih
      | false =>
        have e7 : (a == i + 1) = false := by simpa using xe_bne h7
        cases h5 : Nat.beq (Nat.succ a) i with
        | true =>
          have e5 : (a + 1 == i) = true := by simpa using xe_beq h5
          cases h6 : (v.category == 2) with
          | true => simpa [e4, e5, e7, h6] using ih
          | false => simpa [e4, e5, e7, h6] using (xf_2_c (R := xm_L E ws) (a := (a, q)) (b := (a, v)) ⟨rfl, h2⟩ ih)
        | false =>
          have e5 : (a + 1 == i) = false := by simpa using xe_bne h5
          simpa [e4, e5, e7] using (xf_2_c (R := xm_L E ws) (a := (a, q)) (b := (a, v)) ⟨rfl, h2⟩ ih)
  | [], _ :: _, h => h.elim
  | _ :: _, [], h => h.elim
/-- the form of a row of numbers or references by its type, and what it holds at j -/
def xm_k (t : Nat) (arr : (Nat → Int32) ⊕ (Nat → Int64) ⊕ (Nat → UInt32) ⊕ (Nat → UInt64) ⊕ (Nat → Option Nat)) : Prop := (t = 0 ∧ ∃ f, arr = .inl f) ∨ (t = 5 ∧ ∃ f, arr = .inr (.inl f)) ∨ (1 ≤ t ∧ t ≤ 4 ∧ ∃ f, arr = .inr (.inr (.inr (.inr f))))
def xm_el (arr : (Nat → Int32) ⊕ (Nat → Int64) ⊕ (Nat → UInt32) ⊕ (Nat → UInt64) ⊕ (Nat → Option Nat)) (j : Nat) : Value := match arr with
  | .inl f => .int (f j)
  | .inr (.inl f) => .long (f j)
  | .inr (.inr (.inl f)) => .float (f j)
  | .inr (.inr (.inr (.inl f))) => .double (f j)
  | .inr (.inr (.inr (.inr f))) => va_rf (f j)
abbrev xm_T : Type := List (ClassId × FieldType)
def xm_O (E : xm_E) (ws : va_W) (tys : xm_T) (o : xv_O) (w : Nat × va_E) : Prop :=
  (o.1 = 0 ∧ ∃ fs, w.2 = .inr (o.2.1, fs) ∧ xf_2 (xm_V E ws) o.2.2 fs) ∨
  (o.1 = 1 ∧ ∃ (cA : ClassId) (n : Nat) (arr : (Nat → Int32) ⊕ (Nat → Int64) ⊕ (Nat → UInt32) ⊕ (Nat → UInt64) ⊕ (Nat → Option Nat)) (t0 : Nat), w.2 = .inl (cA, n, arr) ∧ tys[t0]? = some (cA, xg_TY o.2.1) ∧ xm_k o.2.1 arr ∧ n = o.2.2.length ∧ n ≤ 65536 ∧ ∀ (j : Nat) (q : xv_V), o.2.2[j]? = some q → xm_V E ws q (xm_el arr j))
theorem xm_O_mono {E : xm_E} {ws ws' : va_W} {tys : xm_T} (tys' : xm_T) (h : xm_le ws ws') {o : xv_O} {w : Nat × va_E} (hO : xm_O E ws tys o w) : xm_O E ws' (tys ++ tys') o w := by
  rcases hO with ⟨h0, fs, h1, h2⟩ | ⟨h0, cA, n, arr, t0, h1, h2, h3, h4, h5, h6⟩
  · exact Or.inl ⟨h0, fs, h1, xm_S_mono h h2⟩
  · exact Or.inr ⟨h0, cA, n, arr, t0, h1, by rw [List.getElem?_append_left (List.getElem?_eq_some_iff.mp h2).1]; exact h2, h3, h4, h5, fun j q hq => xm_V_mono h (h6 j q hq)⟩
theorem xm_H_mono {E : xm_E} {ws ws' : va_W} {tys : xm_T} (tys' : xm_T) (h : xm_le ws ws') {hs : List xv_O} {w : va_W} (hO : xf_2 (xm_O E ws tys) hs w) : xf_2 (xm_O E ws' (tys ++ tys')) hs w := xf_2_mono (fun _ _ q => xm_O_mono tys' h q) hO
theorem xm_H_mono' {E : xm_E} {ws ws' : va_W} {tys : xm_T} (h : xm_le ws ws') {hs : List xv_O} {w : va_W} (hO : xf_2 (xm_O E ws tys) hs w) : xf_2 (xm_O E ws' tys) hs w := by
  have := xm_H_mono [] h hO
  rwa [List.append_nil] at this
end
section
/-! one instruction: what the executor does is what the machine does -/
def xw_nest (w : Cond) : Bool := match w with
  | .fieldLinkNest _ _ _ _ _ _ => true
  | .methodLinkNest _ _ _ _ => true
  | .arrayOver (.object _) => true
  | w => w.onTables && w.keepsFace
theorem xw_face {w : Cond} {args a' : Array Value} {s U : State} (h0 : (w.onTables && w.keepsFace) = true) (hW : s.WarmedH U.vm) (h : w.before args s = true) : w.before a' U = true := by
  obtain ⟨h1, h2⟩ := xe_and (a := w.onTables) (b := w.keepsFace) h0
  have h3 : w.before args (s.setVm U.vm) = true := Cond.before_shiftedFace (State.Shifted.of_warmed hW) w h2 h
  have e := Cond.onTables_vm (A := args) (A' := a') (U := s) (U' := U) U.vm w h1
  have hU : U.setVm U.vm = U := rfl
  rw [hU] at e
  rw [← e]; exact h3
/-- the words that hold wherever the machine has gone on -/
abbrev xw_B : List Cond := lw_tbl.filter (fun w => goodWord w || xw_nest w)
theorem xw_warm {w : Cond} {args a' : Array Value} {s U : State} (hg : (goodWord w || xw_nest w) = true) (hW : s.WarmedH U.vm) (h : w.before args s = true) : w.before a' U = true := by
  rcases xe_or (a := goodWord w) (b := xw_nest w) hg with h1 | h1
  · exact word_at hW (good_of_word h1) h
  · cases w with
    | fieldLinkNest a b c d e f => exact va_Nw.use rfl (va_Nw.warmF hW (va_Nw.of rfl h))
    | methodLinkNest a b c d => exact va_Nw.use rfl (va_Nw.warmM hW (va_Nw.of rfl h))
    | arrayOver t =>
      cases t with
      | object C => exact va_AO.use (va_AO.moved hW.alike (va_AO.of h))
      | _ => exact xw_face h1 hW h
    | _ => exact xw_face h1 hW h
abbrev xf_steD : String := "[Ljava/lang/Object;"
/-- what is outside the worlds: statics, the script -/
def xf_E (A : Nat → Prop) (E : xm_E) (sc : List xv_V) (s : State) : Prop :=
  vx_Zq Bundle.tN "UNASSIGNED_STACK" Bundle.steD A s s.heap ∧ vx_Zq Bundle.tN "SUPPRESSED_SENTINEL" Bundle.listD A s s.heap ∧
  va_Z "java/util/ArrayList" "DEFAULTCAPACITY_EMPTY_ELEMENTDATA" xf_steD (.ref (E.1 0)) A s s.heap ∧ va_T (.object "java/lang/Object") (E.1 0) 0 (fun _ => .null) A s s.heap ∧
  (∃ (xs : Nat → Int32) (N : Nat), va_X E.2 N xs s s.heap ∧ E.2 < s.heap.size ∧ ¬ A E.2 ∧ (∀ q : xv_V, sc[0]? = some q → xm_V E [] q (.int (Int32.ofNat N))) ∧ ∀ (j : Nat) (q : xv_V), sc[j + 1]? = some q → j < N ∧ xm_V E [] q (.int (xs j)))
/-- a frame: the machine's side of it -/
def xf_C (p : Program) (R : Room) (s : State) (m : MethodId) (args : Array Value) (meth : Method) (c : Code) (cc : ByteArray) (nL : Nat) (own : String) (ini : Bool) (A : Nat → Prop) (E : xm_E) (d : Nat) (sc : List xv_V) : Prop :=
  p.tables.exec = Jvm.exec ∧ c.code = cc ∧ c.maxLocals = nL ∧ s.vm.findClass own = some m.cls ∧ (∀ w ∈ xw_B, w.before args s = true) ∧ (∀ q, s.heap.size ≤ q → A q) ∧ d ≤ R.frames ∧ 64 * d ≤ R.locals ∧ meth.locks = false ∧ (ini = true → meth.name = "<init>") ∧ xf_E A E sc s
/-- a state of a frame matches an abstract one -/
def xf_R (s : State) (nL : Nat) (A : Nat → Prop) (E : xm_E) (D : va_G) (W0 : va_W) (L : xv_L) (S : List xv_V) (h : List xv_O) (ls : Array Slot) (stk : List Value) (H : Heap) (locs : List Loc) : Prop :=
  ∃ (ws : va_W) (tys : xm_T) (lv : List (Nat × Value)), lv_has ls nL lv ∧ xf_2 (xm_L E ws) L lv ∧ xf_2 (xm_V E ws) S stk ∧ xf_2 (xm_O E ws tys) h ws ∧ va_K D vwCl tys s ∧ va_P D vwCl ws H ∧ va_D A ws ∧ va_S A s.heap H locs ∧ xm_le W0 ws
def xf_G (p : Program) (l : Launch) (e : Env) (R : Room) (s : State) (m : MethodId) (args : Array Value) (below : List Frame) (meth : Method) (c : Code) (Q : State → Prop) (nL : Nat) (A : Nat → Prop) (E : xm_E) (D : va_G) (W0 : va_W) (pc : Nat) (L : xv_L) (S : List xv_V) (h : List xv_O) (nc ns : Nat) : Prop :=
  ∀ (ls : Array Slot) (stk : List Value) (H : Heap) (locs : List Loc), xf_R s nL A E D W0 L S h ls stk H locs → W p l e R s m args below meth c H locs nc ns Q (F0 m pc ls stk)
def xs_ok (own : String) (ini : Bool) (d : Nat) (sc : List xv_V) (nL : Nat) (f : xv_L → List xv_V → List xv_O → xk_S → Option xv_R) (ins : Instr) (len : Nat) : Prop :=
  ∀ (p : Program) (l : Launch) (e : Env) (R : Room) (s : State) (m : MethodId) (args : Array Value) (below : List Frame) (meth : Method) (c : Code) (Q : State → Prop) (cc : ByteArray) (A : Nat → Prop) (E : xm_E) (D : va_G) (W0 : va_W), xf_C p R s m args meth c cc nL own ini A E d sc →
  ∀ (pc : Nat), decode cc pc = .ok (ins, len) → ∀ (L : xv_L) (S : List xv_V) (h : List xv_O) (nc ns : Nat) (k : xk_S) (r : xv_R), nc ≤ R.cells → ns ≤ R.slots → f L S h k = some r →
  (∀ (L' : xv_L) (S' : List xv_V) (h' : List xv_O), k L' S' h' = some r → xf_G p l e R s m args below meth c Q nL A E D W0 (pc + len) L' S' h' nc ns) → xf_G p l e R s m args below meth c Q nL A E D W0 pc L S h nc ns
section XS
variable {own : String} {ini : Bool} {d : Nat} {sc : List xv_V} {nL : Nat}
theorem xs_iconst {n : Nat} {z : Int} (hz : z = (n : Int) - 2147483648) (hn : n < 4294967296) : xs_ok own ini d sc nL (xo_push (xi n)) (.iconst z) 1 := by
  intro p l e R s m args below meth c Q cc A E D W0 C pc hd L S h nc ns k r h1 h2 hf kk ls stk H locs hR
  obtain ⟨hx, hb, -⟩ := C
  obtain ⟨ws, tys, lv, r1, r2, r3, r4⟩ := hR
  have hb2 := xb_ofInt hn
  rw [← hz] at hb2
  refine lv_iconst hx hb hd rfl (kk _ _ _ hf _ _ _ _ ⟨ws, tys, lv, r1, r2, ⟨Or.inl ⟨rfl, ?_, ?_⟩, r3⟩, r4⟩)
  · exact Nat.le_of_eq hb2.symm
  · exact Nat.le_of_eq hb2
theorem xs_bipush {n : Nat} {z : Int} (hz : xb (Int8.ofInt z).toInt32 = n) : xs_ok own ini d sc nL (xo_push (xi n)) (.bipush z) 2 := by
  intro p l e R s m args below meth c Q cc A E D W0 C pc hd L S h nc ns k r h1 h2 hf kk ls stk H locs hR
  obtain ⟨hx, hb, -⟩ := C
  obtain ⟨ws, tys, lv, r1, r2, r3, r4⟩ := hR
  refine lv_bipush hx hb hd rfl (kk _ _ _ hf _ _ _ _ ⟨ws, tys, lv, r1, r2, ⟨Or.inl ⟨rfl, ?_, ?_⟩, r3⟩, r4⟩)
  · exact Nat.le_of_eq hz.symm
  · exact Nat.le_of_eq hz
theorem xs_sipush {n : Nat} {z : Int} (hz : xb (Int16.ofInt z).toInt32 = n) : xs_ok own ini d sc nL (xo_push (xi n)) (.sipush z) 3 := by
  intro p l e R s m args below meth c Q cc A E D W0 C pc hd L S h nc ns k r h1 h2 hf kk ls stk H locs hR
  obtain ⟨hx, hb, -⟩ := C
  obtain ⟨ws, tys, lv, r1, r2, r3, r4⟩ := hR
  refine lv_sipush hx hb hd rfl (kk _ _ _ hf _ _ _ _ ⟨ws, tys, lv, r1, r2, ⟨Or.inl ⟨rfl, ?_, ?_⟩, r3⟩, r4⟩)
  · exact Nat.le_of_eq hz.symm
  · exact Nat.le_of_eq hz
theorem xs_ldc2 {n idx : Nat} {v : Int64} (hv : xbl v = n) (hw : Cond.constantLong own idx v ∈ xw_B) : xs_ok own ini d sc nL (xo_push (3, n, 0)) (.ldc2_w idx) 3 := by
  intro p l e R s m args below meth c Q cc A E D W0 C pc hd L S h nc ns k r h1 h2 hf kk ls stk H locs hR
  obtain ⟨hx, hb, -, hown, hts, -⟩ := C
  obtain ⟨ws, tys, lv, r1, r2, r3, r4⟩ := hR
  exact lv_ldc2 hx hb hown (hts _ hw) hd (kk _ _ _ hf _ _ _ _ ⟨ws, tys, lv, r1, r2, ⟨⟨rfl, hv⟩, r3⟩, r4⟩)
theorem xs_dconst : xs_ok own ini d sc nL (xo_push (4, 0, 0)) (.dconst 0) 1 := by
  intro p l e R s m args below meth c Q cc A E D W0 C pc hd L S h nc ns k r h1 h2 hf kk ls stk H locs hR
  obtain ⟨hx, hb, -⟩ := C
  obtain ⟨ws, tys, lv, r1, r2, r3, r4⟩ := hR
  exact lv_dconst0 hx hb hd (kk _ _ _ hf _ _ _ _ ⟨ws, tys, lv, r1, r2, ⟨⟨rfl, by decide⟩, r3⟩, r4⟩)
theorem xs_null : xs_ok own ini d sc nL (xo_push (2, 0, 0)) (.aconst_null) 1 := by
  intro p l e R s m args below meth c Q cc A E D W0 C pc hd L S h nc ns k r h1 h2 hf kk ls stk H locs hR
  obtain ⟨hx, hb, -⟩ := C
  obtain ⟨ws, tys, lv, r1, r2, r3, r4⟩ := hR
  exact lv_null hx hb hd (kk _ _ _ hf _ _ _ _ ⟨ws, tys, lv, r1, r2, ⟨rfl, r3⟩, r4⟩)
/-- what a local holds -/
theorem xr_loc {E : xm_E} {ws : va_W} {ls : Array Slot} {nL i : Nat} {L : List (Nat × xv_V)} {lv : List (Nat × Value)} {j : Nat} {v : xv_V} (r1 : lv_has ls nL lv) (r2 : xf_2 (xm_L E ws) L lv) (hj : L[j]? = some (i, v)) : ∃ w, lv[j]? = some (i, w) ∧ ls[i]? = some (.val w) ∧ xm_V E ws v w := by
  obtain ⟨⟨i', w⟩, h1, h2, h3⟩ := xf_2_get r2 j _ hj
  dsimp only at h2 h3
  subst h2
  exact ⟨w, h1, lv_at r1 j h1, h3⟩
theorem xs_iload_n {k : Fin 4} : xs_ok own ini d sc nL (xo_iload k) (.iload_n k) 1 := by
  intro p l e R s m args below meth c Q cc A E D W0 C pc hd L S h nc ns k r h1 h2 hf kk ls stk H locs hR
  obtain ⟨hx, hb, -⟩ := C
  obtain ⟨ws, tys, lv, r1, r2, r3, r4⟩ := hR
  obtain ⟨j, v, hj, hf1⟩ := xe_get hf
  obtain ⟨hv, hf2⟩ := xe_cond hf1
  obtain ⟨w, -, hw, hm⟩ := xr_loc r1 r2 hj
  obtain ⟨x, rfl⟩ := xm_VI hv hm
  exact lv_iload_n hx hb hd rfl hw (kk _ _ _ hf2 _ _ _ _ ⟨ws, tys, lv, r1, r2, xf_2_c hm r3, r4⟩)
theorem xs_iload {i : Nat} : xs_ok own ini d sc nL (xo_iload i) (.iload i) 2 := by
  intro p l e R s m args below meth c Q cc A E D W0 C pc hd L S h nc ns k r h1 h2 hf kk ls stk H locs hR
  obtain ⟨hx, hb, -⟩ := C
  obtain ⟨ws, tys, lv, r1, r2, r3, r4⟩ := hR
  obtain ⟨j, v, hj, hf1⟩ := xe_get hf
  obtain ⟨hv, hf2⟩ := xe_cond hf1
  obtain ⟨w, -, hw, hm⟩ := xr_loc r1 r2 hj
  obtain ⟨x, rfl⟩ := xm_VI hv hm
  exact lv_iload hx hb hd hw (kk _ _ _ hf2 _ _ _ _ ⟨ws, tys, lv, r1, r2, xf_2_c hm r3, r4⟩)
theorem xs_aload_n {k : Fin 4} : xs_ok own ini d sc nL (xo_aload k) (.aload_n k) 1 := by
  intro p l e R s m args below meth c Q cc A E D W0 C pc hd L S h nc ns k r h1 h2 hf kk ls stk H locs hR
  obtain ⟨hx, hb, -⟩ := C
  obtain ⟨ws, tys, lv, r1, r2, r3, r4⟩ := hR
  obtain ⟨j, v, hj, hf1⟩ := xe_get hf
  obtain ⟨hv, hf2⟩ := xe_cond hf1
  obtain ⟨w, -, hw, hm⟩ := xr_loc r1 r2 hj
  obtain ⟨x, rfl⟩ := xm_VA hv hm
  have kk' := kk _ _ _ hf2 _ _ _ _ ⟨ws, tys, lv, r1, r2, xf_2_c hm r3, r4⟩
  cases x with
  | none => exact lv_aload_nN hx hb hd rfl hw kk'
  | some a => exact lv_aload_n hx hb hd rfl hw kk'
theorem xs_aload {i : Nat} : xs_ok own ini d sc nL (xo_aload i) (.aload i) 2 := by
  intro p l e R s m args below meth c Q cc A E D W0 C pc hd L S h nc ns k r h1 h2 hf kk ls stk H locs hR
  obtain ⟨hx, hb, -⟩ := C
  obtain ⟨ws, tys, lv, r1, r2, r3, r4⟩ := hR
  obtain ⟨j, v, hj, hf1⟩ := xe_get hf
  obtain ⟨hv, hf2⟩ := xe_cond hf1
  obtain ⟨w, -, hw, hm⟩ := xr_loc r1 r2 hj
  obtain ⟨x, rfl⟩ := xm_VA hv hm
  have kk' := kk _ _ _ hf2 _ _ _ _ ⟨ws, tys, lv, r1, r2, xf_2_c hm r3, r4⟩
  cases x with
  | none => exact lv_aloadN hx hb hd hw kk'
  | some a => exact lv_aload hx hb hd hw kk'
theorem xs_lload_n {k : Fin 4} : xs_ok own ini d sc nL (xo_lload k) (.lload_n k) 1 := by
  intro p l e R s m args below meth c Q cc A E D W0 C pc hd L S h nc ns k r h1 h2 hf kk ls stk H locs hR
  obtain ⟨hx, hb, -⟩ := C
  obtain ⟨ws, tys, lv, r1, r2, r3, r4⟩ := hR
  obtain ⟨j, v, hj, hf1⟩ := xe_get hf
  obtain ⟨hv, hf2⟩ := xe_cond hf1
  obtain ⟨w, -, hw, hm⟩ := xr_loc r1 r2 hj
  obtain ⟨x, rfl, hx2⟩ := xm_VL hv hm
  exact lv_lload_n hx hb hd rfl hw (kk _ _ _ hf2 _ _ _ _ ⟨ws, tys, lv, r1, r2, xf_2_c hm r3, r4⟩)
theorem xs_lload {i : Nat} : xs_ok own ini d sc nL (xo_lload i) (.lload i) 2 := by
  intro p l e R s m args below meth c Q cc A E D W0 C pc hd L S h nc ns k r h1 h2 hf kk ls stk H locs hR
  obtain ⟨hx, hb, -⟩ := C
  obtain ⟨ws, tys, lv, r1, r2, r3, r4⟩ := hR
  obtain ⟨j, v, hj, hf1⟩ := xe_get hf
  obtain ⟨hv, hf2⟩ := xe_cond hf1
  obtain ⟨w, -, hw, hm⟩ := xr_loc r1 r2 hj
  obtain ⟨x, rfl, hx2⟩ := xm_VL hv hm
  exact lv_lload hx hb hd hw (kk _ _ _ hf2 _ _ _ _ ⟨ws, tys, lv, r1, r2, xf_2_c hm r3, r4⟩)
theorem xs_dload {i : Nat} : xs_ok own ini d sc nL (xo_dload i) (.dload i) 2 := by
  intro p l e R s m args below meth c Q cc A E D W0 C pc hd L S h nc ns k r h1 h2 hf kk ls stk H locs hR
  obtain ⟨hx, hb, -⟩ := C
  obtain ⟨ws, tys, lv, r1, r2, r3, r4⟩ := hR
  obtain ⟨j, v, hj, hf1⟩ := xe_get hf
  obtain ⟨hv, hf2⟩ := xe_cond hf1
  obtain ⟨w, -, hw, hm⟩ := xr_loc r1 r2 hj
  obtain ⟨x, rfl, hx2⟩ := xm_VD hv hm
  exact lv_dload hx hb hd hw (kk _ _ _ hf2 _ _ _ _ ⟨ws, tys, lv, r1, r2, xf_2_c hm r3, r4⟩)
theorem xs_istore_n {k : Fin 4} (hi : (k : Nat) < nL) : xs_ok own ini d sc nL (xo_istore k) (.istore_n k) 1 := by
  intro p l e R s m args below meth c Q cc A E D W0 C pc hd L S h nc ns k9 r h1 h2 hf kk ls stk H locs hR
  obtain ⟨hx, hb, hml, hown, hts, hA, hRf, hRl, hlk, hini, hE⟩ := C
  obtain ⟨ws, tys, lv, r1, r2, r3, r4⟩ := hR
  obtain ⟨a0, S0, rfl, hf1⟩ := xe_pop hf
  obtain ⟨w0, st0, rfl, m0, r30⟩ := xf_2_cons r3
  obtain ⟨hv, hf2⟩ := xe_cond hf1
  obtain ⟨x, rfl⟩ := xm_VI hv m0
  exact lv_istore_n hx hb hd rfl r1 hi rfl (fun ls1 q1 => kk _ _ _ hf2 _ _ _ _ ⟨ws, tys, _, q1, xf_2_c ⟨rfl, m0⟩ (xm_del1 _ r2), r30, r4⟩)
theorem xs_istore {i : Nat} (hi : i < nL) : xs_ok own ini d sc nL (xo_istore i) (.istore i) 2 := by
  intro p l e R s m args below meth c Q cc A E D W0 C pc hd L S h nc ns k9 r h1 h2 hf kk ls stk H locs hR
  obtain ⟨hx, hb, hml, hown, hts, hA, hRf, hRl, hlk, hini, hE⟩ := C
  obtain ⟨ws, tys, lv, r1, r2, r3, r4⟩ := hR
  obtain ⟨a0, S0, rfl, hf1⟩ := xe_pop hf
  obtain ⟨w0, st0, rfl, m0, r30⟩ := xf_2_cons r3
  obtain ⟨hv, hf2⟩ := xe_cond hf1
  obtain ⟨x, rfl⟩ := xm_VI hv m0
  exact lv_istore hx hb hd r1 hi rfl (fun ls1 q1 => kk _ _ _ hf2 _ _ _ _ ⟨ws, tys, _, q1, xf_2_c ⟨rfl, m0⟩ (xm_del1 _ r2), r30, r4⟩)
theorem xs_lstore_n {k : Fin 4} (hi : (k : Nat) + 1 < nL) : xs_ok own ini d sc nL (xo_lstore k) (.lstore_n k) 1 := by
  intro p l e R s m args below meth c Q cc A E D W0 C pc hd L S h nc ns k9 r h1 h2 hf kk ls stk H locs hR
  obtain ⟨hx, hb, hml, hown, hts, hA, hRf, hRl, hlk, hini, hE⟩ := C
  obtain ⟨ws, tys, lv, r1, r2, r3, r4⟩ := hR
  obtain ⟨a0, S0, rfl, hf1⟩ := xe_pop hf
  obtain ⟨w0, st0, rfl, m0, r30⟩ := xf_2_cons r3
  obtain ⟨hv, hf2⟩ := xe_cond hf1
  obtain ⟨x, rfl, -⟩ := xm_VL hv m0
  exact lv_lstore_n hx hb hd rfl r1 hi rfl (fun ls1 q1 => kk _ _ _ hf2 _ _ _ _ ⟨ws, tys, _, q1, xf_2_c ⟨rfl, m0⟩ (xm_del2 _ r2), r30, r4⟩)
theorem xs_lstore {i : Nat} (hi : i + 1 < nL) : xs_ok own ini d sc nL (xo_lstore i) (.lstore i) 2 := by
  intro p l e R s m args below meth c Q cc A E D W0 C pc hd L S h nc ns k9 r h1 h2 hf kk ls stk H locs hR
  obtain ⟨hx, hb, hml, hown, hts, hA, hRf, hRl, hlk, hini, hE⟩ := C
  obtain ⟨ws, tys, lv, r1, r2, r3, r4⟩ := hR
  obtain ⟨a0, S0, rfl, hf1⟩ := xe_pop hf
  obtain ⟨w0, st0, rfl, m0, r30⟩ := xf_2_cons r3
  obtain ⟨hv, hf2⟩ := xe_cond hf1
  obtain ⟨x, rfl, -⟩ := xm_VL hv m0
  exact lv_lstore hx hb hd r1 hi rfl (fun ls1 q1 => kk _ _ _ hf2 _ _ _ _ ⟨ws, tys, _, q1, xf_2_c ⟨rfl, m0⟩ (xm_del2 _ r2), r30, r4⟩)
theorem xs_dstore_n {k : Fin 4} (hi : (k : Nat) + 1 < nL) : xs_ok own ini d sc nL (xo_dstore k) (.dstore_n k) 1 := by
  intro p l e R s m args below meth c Q cc A E D W0 C pc hd L S h nc ns k9 r h1 h2 hf kk ls stk H locs hR
  obtain ⟨hx, hb, hml, hown, hts, hA, hRf, hRl, hlk, hini, hE⟩ := C
  obtain ⟨ws, tys, lv, r1, r2, r3, r4⟩ := hR
  obtain ⟨a0, S0, rfl, hf1⟩ := xe_pop hf
  obtain ⟨w0, st0, rfl, m0, r30⟩ := xf_2_cons r3
  obtain ⟨hv, hf2⟩ := xe_cond hf1
  obtain ⟨x, rfl, -⟩ := xm_VD hv m0
  exact lv_dstore_n hx hb hd rfl r1 hi rfl (fun ls1 q1 => kk _ _ _ hf2 _ _ _ _ ⟨ws, tys, _, q1, xf_2_c ⟨rfl, m0⟩ (xm_del2 _ r2), r30, r4⟩)
theorem xs_dstore {i : Nat} (hi : i + 1 < nL) : xs_ok own ini d sc nL (xo_dstore i) (.dstore i) 2 := by
  intro p l e R s m args below meth c Q cc A E D W0 C pc hd L S h nc ns k9 r h1 h2 hf kk ls stk H locs hR
  obtain ⟨hx, hb, hml, hown, hts, hA, hRf, hRl, hlk, hini, hE⟩ := C
  obtain ⟨ws, tys, lv, r1, r2, r3, r4⟩ := hR
  obtain ⟨a0, S0, rfl, hf1⟩ := xe_pop hf
  obtain ⟨w0, st0, rfl, m0, r30⟩ := xf_2_cons r3
  obtain ⟨hv, hf2⟩ := xe_cond hf1
  obtain ⟨x, rfl, -⟩ := xm_VD hv m0
  exact lv_dstore hx hb hd r1 hi rfl (fun ls1 q1 => kk _ _ _ hf2 _ _ _ _ ⟨ws, tys, _, q1, xf_2_c ⟨rfl, m0⟩ (xm_del2 _ r2), r30, r4⟩)
theorem xs_astore_n {k : Fin 4} (hi : (k : Nat) < nL) : xs_ok own ini d sc nL (xo_astore k) (.astore_n k) 1 := by
  intro p l e R s m args below meth c Q cc A E D W0 C pc hd L S h nc ns k9 r h1 h2 hf kk ls stk H locs hR
  obtain ⟨hx, hb, hml, hown, hts, hA, hRf, hRl, hlk, hini, hE⟩ := C
  obtain ⟨ws, tys, lv, r1, r2, r3, r4⟩ := hR
  obtain ⟨a0, S0, rfl, hf1⟩ := xe_pop hf
  obtain ⟨w0, st0, rfl, m0, r30⟩ := xf_2_cons r3
  obtain ⟨hv, hf2⟩ := xe_cond hf1
  obtain ⟨x, rfl⟩ := xm_VA hv m0
  cases x with
  | none => exact lv_astore_nN hx hb hd rfl r1 hi rfl (fun ls1 q1 => kk _ _ _ hf2 _ _ _ _ ⟨ws, tys, _, q1, xf_2_c ⟨rfl, m0⟩ (xm_del1 _ r2), r30, r4⟩)
  | some a => exact lv_astore_n hx hb hd rfl r1 hi rfl (fun ls1 q1 => kk _ _ _ hf2 _ _ _ _ ⟨ws, tys, _, q1, xf_2_c ⟨rfl, m0⟩ (xm_del1 _ r2), r30, r4⟩)
theorem xs_astore {i : Nat} (hi : i < nL) : xs_ok own ini d sc nL (xo_astore i) (.astore i) 2 := by
  intro p l e R s m args below meth c Q cc A E D W0 C pc hd L S h nc ns k9 r h1 h2 hf kk ls stk H locs hR
  obtain ⟨hx, hb, hml, hown, hts, hA, hRf, hRl, hlk, hini, hE⟩ := C
  obtain ⟨ws, tys, lv, r1, r2, r3, r4⟩ := hR
  obtain ⟨a0, S0, rfl, hf1⟩ := xe_pop hf
  obtain ⟨w0, st0, rfl, m0, r30⟩ := xf_2_cons r3
  obtain ⟨hv, hf2⟩ := xe_cond hf1
  obtain ⟨x, rfl⟩ := xm_VA hv m0
  cases x with
  | none => exact lv_astoreN hx hb hd r1 hi rfl (fun ls1 q1 => kk _ _ _ hf2 _ _ _ _ ⟨ws, tys, _, q1, xf_2_c ⟨rfl, m0⟩ (xm_del1 _ r2), r30, r4⟩)
  | some a => exact lv_astore hx hb hd r1 hi rfl (fun ls1 q1 => kk _ _ _ hf2 _ _ _ _ ⟨ws, tys, _, q1, xf_2_c ⟨rfl, m0⟩ (xm_del1 _ r2), r30, r4⟩)
theorem xs_iinc {i n : Nat} {z : Int} (hi : i < nL) (hz : xb (Int32.ofInt z) = n) : xs_ok own ini d sc nL (xo_iinc i n) (.iinc i z) 3 := by
  intro p l e R s m args below meth c Q cc A E D W0 C pc hd L S h nc ns k r h1 h2 hf kk ls stk H locs hR
  obtain ⟨hx, hb, hml, hown, hts, hA, hRf, hRl, hlk, hini, hE⟩ := C
  obtain ⟨ws, tys, lv, r1, r2, r3, r4⟩ := hR
  obtain ⟨j, v, hj, hf1⟩ := xe_get hf
  obtain ⟨w, hw, -, hm⟩ := xr_loc r1 r2 hj
  obtain ⟨x0, rfl, hf2⟩ := xe_one hf1
  obtain ⟨x, rfl, e1⟩ := xm_V1 hm
  have e2 : xb (x + Int32.ofInt z) = xb_add x0 n := by rw [xb_add_eq, e1, hz]
  exact lv_iinc hx hb hd r1 hw rfl hi rfl (fun ls1 q1 => kk _ _ _ hf2 _ _ _ _ ⟨ws, tys, _, q1, xf_2_c ⟨rfl, Or.inl ⟨rfl, Nat.le_of_eq e2.symm, Nat.le_of_eq e2⟩⟩ (xm_del1 _ r2), r3, r4⟩)
theorem xs_iadd : xs_ok own ini d sc nL (xo_bin xb_add) (.iadd) 1 := by
  intro p l e R s m args below meth c Q cc A E D W0 C pc hd L S h nc ns k r h1 h2 hf kk ls stk H locs hR
  obtain ⟨hx, hb, hml, hown, hts, hA, hRf, hRl, hlk, hini, hE⟩ := C
  obtain ⟨ws, tys, lv, r1, r2, r3, r4⟩ := hR
  obtain ⟨a0, S0, rfl, hf1⟩ := xe_pop hf
  obtain ⟨w0, st0, rfl, m0, r30⟩ := xf_2_cons r3
  obtain ⟨a1, S1, rfl, hf2⟩ := xe_pop hf1
  obtain ⟨w1, st1, rfl, m1, r31⟩ := xf_2_cons r30
  obtain ⟨y0, rfl, hf3⟩ := xe_one hf2
  obtain ⟨x0, rfl, hf4⟩ := xe_one hf3
  obtain ⟨y, rfl, e1⟩ := xm_V1 m0
  obtain ⟨x, rfl, e2⟩ := xm_V1 m1
  have e3 : xb (x + y) = xb_add x0 y0 := by rw [xb_add_eq, e1, e2]
  exact lv_iadd hx hb hd (kk _ _ _ hf4 _ _ _ _ ⟨ws, tys, lv, r1, r2, xf_2_c (Or.inl ⟨rfl, Nat.le_of_eq e3.symm, Nat.le_of_eq e3⟩) r31, r4⟩)
theorem xs_isub : xs_ok own ini d sc nL (xo_bin xb_sub) (.isub) 1 := by
  intro p l e R s m args below meth c Q cc A E D W0 C pc hd L S h nc ns k r h1 h2 hf kk ls stk H locs hR
  obtain ⟨hx, hb, hml, hown, hts, hA, hRf, hRl, hlk, hini, hE⟩ := C
  obtain ⟨ws, tys, lv, r1, r2, r3, r4⟩ := hR
  obtain ⟨a0, S0, rfl, hf1⟩ := xe_pop hf
  obtain ⟨w0, st0, rfl, m0, r30⟩ := xf_2_cons r3
  obtain ⟨a1, S1, rfl, hf2⟩ := xe_pop hf1
  obtain ⟨w1, st1, rfl, m1, r31⟩ := xf_2_cons r30
  obtain ⟨y0, rfl, hf3⟩ := xe_one hf2
  obtain ⟨x0, rfl, hf4⟩ := xe_one hf3
  obtain ⟨y, rfl, e1⟩ := xm_V1 m0
  obtain ⟨x, rfl, e2⟩ := xm_V1 m1
  have e3 : xb (x - y) = xb_sub x0 y0 := by rw [xb_sub_eq, e1, e2]
  exact lv_isub hx hb hd (kk _ _ _ hf4 _ _ _ _ ⟨ws, tys, lv, r1, r2, xf_2_c (Or.inl ⟨rfl, Nat.le_of_eq e3.symm, Nat.le_of_eq e3⟩) r31, r4⟩)
theorem xs_imul : xs_ok own ini d sc nL (xo_bin xb_mul) (.imul) 1 := by
  intro p l e R s m args below meth c Q cc A E D W0 C pc hd L S h nc ns k r h1 h2 hf kk ls stk H locs hR
  obtain ⟨hx, hb, hml, hown, hts, hA, hRf, hRl, hlk, hini, hE⟩ := C
  obtain ⟨ws, tys, lv, r1, r2, r3, r4⟩ := hR
  obtain ⟨a0, S0, rfl, hf1⟩ := xe_pop hf
  obtain ⟨w0, st0, rfl, m0, r30⟩ := xf_2_cons r3
  obtain ⟨a1, S1, rfl, hf2⟩ := xe_pop hf1
  obtain ⟨w1, st1, rfl, m1, r31⟩ := xf_2_cons r30
  obtain ⟨y0, rfl, hf3⟩ := xe_one hf2
  obtain ⟨x0, rfl, hf4⟩ := xe_one hf3
  obtain ⟨y, rfl, e1⟩ := xm_V1 m0
  obtain ⟨x, rfl, e2⟩ := xm_V1 m1
  have e3 : xb (x * y) = xb_mul x0 y0 := by rw [xb_mul_eq, e1, e2]
  exact lv_imul hx hb hd (kk _ _ _ hf4 _ _ _ _ ⟨ws, tys, lv, r1, r2, xf_2_c (Or.inl ⟨rfl, Nat.le_of_eq e3.symm, Nat.le_of_eq e3⟩) r31, r4⟩)
theorem xs_ior : xs_ok own ini d sc nL (xo_bin xb_or) (.ior) 1 := by
  intro p l e R s m args below meth c Q cc A E D W0 C pc hd L S h nc ns k r h1 h2 hf kk ls stk H locs hR
  obtain ⟨hx, hb, hml, hown, hts, hA, hRf, hRl, hlk, hini, hE⟩ := C
  obtain ⟨ws, tys, lv, r1, r2, r3, r4⟩ := hR
  obtain ⟨a0, S0, rfl, hf1⟩ := xe_pop hf
  obtain ⟨w0, st0, rfl, m0, r30⟩ := xf_2_cons r3
  obtain ⟨a1, S1, rfl, hf2⟩ := xe_pop hf1
  obtain ⟨w1, st1, rfl, m1, r31⟩ := xf_2_cons r30
  obtain ⟨y0, rfl, hf3⟩ := xe_one hf2
  obtain ⟨x0, rfl, hf4⟩ := xe_one hf3
  obtain ⟨y, rfl, e1⟩ := xm_V1 m0
  obtain ⟨x, rfl, e2⟩ := xm_V1 m1
  have e3 : xb (x ||| y) = xb_or x0 y0 := by rw [xb_or_eq, e1, e2]
  exact lv_ior hx hb hd (kk _ _ _ hf4 _ _ _ _ ⟨ws, tys, lv, r1, r2, xf_2_c (Or.inl ⟨rfl, Nat.le_of_eq e3.symm, Nat.le_of_eq e3⟩) r31, r4⟩)
theorem xb_31 {y : Int32} (h : xb y = 2147483679) : y = 31 := xb_inj (h.trans (by decide))
theorem xs_iand : xs_ok own ini d sc nL xo_and (.iand) 1 := by
  intro p l e R s m args below meth c Q cc A E D W0 C pc hd L S h nc ns k r h1 h2 hf kk ls stk H locs hR
  obtain ⟨hx, hb, hml, hown, hts, hA, hRf, hRl, hlk, hini, hE⟩ := C
  obtain ⟨ws, tys, lv, r1, r2, r3, r4⟩ := hR
  obtain ⟨a0, S0, rfl, hf1⟩ := xe_pop hf
  obtain ⟨w0, st0, rfl, m0, r30⟩ := xf_2_cons r3
  obtain ⟨a1, S1, rfl, hf2⟩ := xe_pop hf1
  obtain ⟨w1, st1, rfl, m1, r31⟩ := xf_2_cons r30
  obtain ⟨y0, rfl, hf3⟩ := xe_one hf2
  obtain ⟨y, rfl, e1⟩ := xm_V1 m0
  cases h5 : Nat.beq a1.1 5 with
  | true =>
    rw [h5] at hf3
    obtain ⟨h6, hf4⟩ := xe_cond (b := Nat.beq y0 2147483679) hf3
    have e4 := xb_31 (e1.trans (xe_beq h6))
    subst e4
    obtain ⟨t, u, u'⟩ := a1
    have ht : t = 5 := xe_beq h5
    subst ht
    cases w1 with
    | int x =>
      rcases m1 with ⟨q, -⟩ | ⟨-, q1, q2⟩
      · simp at q
      · have e3 : xb (x &&& 31) = u + xq_B := by
          rw [q1]
          exact xb_ofNat (Nat.lt_trans q2 (by decide))
        exact lv_iand hx hb hd (kk _ _ _ hf4 _ _ _ _ ⟨ws, tys, lv, r1, r2, xf_2_c (Or.inl ⟨rfl, Nat.le_of_eq e3.symm, Nat.le_of_eq e3⟩) r31, r4⟩)
    | ref a => rcases m1 with h | h | h | h <;> simp at h
    | _ => simp [xm_V] at m1
  | false =>
    rw [h5] at hf3
    have hf4 : xq_one a1 (fun x => k L (xi (xb_and x y0) :: S1) h) = some r := hf3
    obtain ⟨x0, rfl, hf5⟩ := xe_one hf4
    obtain ⟨x, rfl, e2⟩ := xm_V1 m1
    have e3 : xb (x &&& y) = xb_and x0 y0 := by rw [xb_and_eq, e1, e2]
    exact lv_iand hx hb hd (kk _ _ _ hf5 _ _ _ _ ⟨ws, tys, lv, r1, r2, xf_2_c (Or.inl ⟨rfl, Nat.le_of_eq e3.symm, Nat.le_of_eq e3⟩) r31, r4⟩)
theorem xs_ishl : xs_ok own ini d sc nL (xo_bin xb_shl) (.ishl) 1 := by
  intro p l e R s m args below meth c Q cc A E D W0 C pc hd L S h nc ns k r h1 h2 hf kk ls stk H locs hR
  obtain ⟨hx, hb, hml, hown, hts, hA, hRf, hRl, hlk, hini, hE⟩ := C
  obtain ⟨ws, tys, lv, r1, r2, r3, r4⟩ := hR
  obtain ⟨a0, S0, rfl, hf1⟩ := xe_pop hf
  obtain ⟨w0, st0, rfl, m0, r30⟩ := xf_2_cons r3
  obtain ⟨a1, S1, rfl, hf2⟩ := xe_pop hf1
  obtain ⟨w1, st1, rfl, m1, r31⟩ := xf_2_cons r30
  obtain ⟨y0, rfl, hf3⟩ := xe_one hf2
  obtain ⟨x0, rfl, hf4⟩ := xe_one hf3
  obtain ⟨y, rfl, e1⟩ := xm_V1 m0
  obtain ⟨x, rfl, e2⟩ := xm_V1 m1
  have e3 : xb (x <<< (y &&& 31)) = xb_shl x0 y0 := by rw [xb_shl_eq, e1, e2]
  exact lv_ishl hx hb hd (kk _ _ _ hf4 _ _ _ _ ⟨ws, tys, lv, r1, r2, xf_2_c (Or.inl ⟨rfl, Nat.le_of_eq e3.symm, Nat.le_of_eq e3⟩) r31, r4⟩)
theorem xs_i2l : xs_ok own ini d sc nL xo_i2l (.i2l) 1 := by
  intro p l e R s m args below meth c Q cc A E D W0 C pc hd L S h nc ns k r h1 h2 hf kk ls stk H locs hR
  obtain ⟨hx, hb, hml, hown, hts, hA, hRf, hRl, hlk, hini, hE⟩ := C
  obtain ⟨ws, tys, lv, r1, r2, r3, r4⟩ := hR
  obtain ⟨a0, S0, rfl, hf1⟩ := xe_pop hf
  obtain ⟨w0, st0, rfl, m0, r30⟩ := xf_2_cons r3
  obtain ⟨x0, rfl, hf2⟩ := xe_one hf1
  obtain ⟨x, rfl, e1⟩ := xm_V1 m0
  exact lv_i2l hx hb hd rfl (kk _ _ _ hf2 _ _ _ _ ⟨ws, tys, lv, r1, r2, xf_2_c ⟨rfl, by rw [xbl_ofInt32, e1]⟩ r30, r4⟩)
theorem xs_ladd : xs_ok own ini d sc nL (xo_lbin xl_add) (.ladd) 1 := by
  intro p l e R s m args below meth c Q cc A E D W0 C pc hd L S h nc ns k r h1 h2 hf kk ls stk H locs hR
  obtain ⟨hx, hb, hml, hown, hts, hA, hRf, hRl, hlk, hini, hE⟩ := C
  obtain ⟨ws, tys, lv, r1, r2, r3, r4⟩ := hR
  obtain ⟨a0, S0, rfl, hf1⟩ := xe_pop hf
  obtain ⟨w0, st0, rfl, m0, r30⟩ := xf_2_cons r3
  obtain ⟨a1, S1, rfl, hf2⟩ := xe_pop hf1
  obtain ⟨w1, st1, rfl, m1, r31⟩ := xf_2_cons r30
  obtain ⟨hq, hf3⟩ := xe_cond hf2
  obtain ⟨q1, q2⟩ := xe_and hq
  obtain ⟨y, rfl, e1⟩ := xm_VL q2 m0
  obtain ⟨x, rfl, e2⟩ := xm_VL q1 m1
  exact lv_ladd hx hb hd (kk _ _ _ hf3 _ _ _ _ ⟨ws, tys, lv, r1, r2, xf_2_c ⟨rfl, by rw [xbl_add_eq, e1, e2]⟩ r31, r4⟩)
theorem xs_lmul : xs_ok own ini d sc nL (xo_lbin xl_mul) (.lmul) 1 := by
  intro p l e R s m args below meth c Q cc A E D W0 C pc hd L S h nc ns k r h1 h2 hf kk ls stk H locs hR
  obtain ⟨hx, hb, hml, hown, hts, hA, hRf, hRl, hlk, hini, hE⟩ := C
  obtain ⟨ws, tys, lv, r1, r2, r3, r4⟩ := hR
  obtain ⟨a0, S0, rfl, hf1⟩ := xe_pop hf
  obtain ⟨w0, st0, rfl, m0, r30⟩ := xf_2_cons r3
  obtain ⟨a1, S1, rfl, hf2⟩ := xe_pop hf1
  obtain ⟨w1, st1, rfl, m1, r31⟩ := xf_2_cons r30
  obtain ⟨hq, hf3⟩ := xe_cond hf2
  obtain ⟨q1, q2⟩ := xe_and hq
  obtain ⟨y, rfl, e1⟩ := xm_VL q2 m0
  obtain ⟨x, rfl, e2⟩ := xm_VL q1 m1
  exact lv_lmul hx hb hd (kk _ _ _ hf3 _ _ _ _ ⟨ws, tys, lv, r1, r2, xf_2_c ⟨rfl, by rw [xbl_mul_eq, e1, e2]⟩ r31, r4⟩)
theorem lg_cmp_b {x y : Int64} {a b : Nat} (e1 : xbl x = a) (e2 : xbl y = b) : xb (lg_cmp x y) = cond (Nat.beq a b) xq_B (cond (Nat.ble a b) (xq_B - 1) (xq_B + 1)) := by
  unfold lg_cmp
  have hlt := xbl_lt_iff y x
  by_cases h1 : x > y
  · rw [if_pos h1]
    have h2 := hlt.mp h1
    rw [e1, e2] at h2
    have h3 : Nat.beq a b = false := by
      cases h : Nat.beq a b with
      | true => exact absurd (xe_beq h) (by omega)
      | false => rfl
    have h4 : Nat.ble a b = false := by
      cases h : Nat.ble a b with
      | true => exact absurd (xe_ble h) (by omega)
      | false => rfl
    rw [h3, h4]; decide
  · rw [if_neg h1]
    have h2 : ¬ b < a := fun h => h1 (hlt.mpr (by rw [e1, e2]; exact h))
    by_cases h3 : x = y
    · rw [if_pos h3]
      have h4 : a = b := by rw [← e1, ← e2, h3]
      subst h4
      rw [Nat.beq_refl]; exact xb_0
    · rw [if_neg h3]
      have h4 : a ≠ b := fun h => h3 (xbl_inj (by rw [e1, e2, h]))
      have h5 : Nat.beq a b = false := by
        cases h : Nat.beq a b with
        | true => exact absurd (xe_beq h) h4
        | false => rfl
      rw [h5, Nat.ble_eq_true_of_le (by omega)]; decide
theorem xs_lcmp : xs_ok own ini d sc nL xo_lcmp (.lcmp) 1 := by
  intro p l e R s m args below meth c Q cc A E D W0 C pc hd L S h nc ns k r h1 h2 hf kk ls stk H locs hR
  obtain ⟨hx, hb, hml, hown, hts, hA, hRf, hRl, hlk, hini, hE⟩ := C
  obtain ⟨ws, tys, lv, r1, r2, r3, r4⟩ := hR
  obtain ⟨a0, S0, rfl, hf1⟩ := xe_pop hf
  obtain ⟨w0, st0, rfl, m0, r30⟩ := xf_2_cons r3
  obtain ⟨a1, S1, rfl, hf2⟩ := xe_pop hf1
  obtain ⟨w1, st1, rfl, m1, r31⟩ := xf_2_cons r30
  obtain ⟨hq, hf3⟩ := xe_cond hf2
  obtain ⟨q1, q2⟩ := xe_and hq
  obtain ⟨y, rfl, e1⟩ := xm_VL q2 m0
  obtain ⟨x, rfl, e2⟩ := xm_VL q1 m1
  have e3 := lg_cmp_b e2 e1
  exact W.lcmp hx hb hd (kk _ _ _ hf3 _ _ _ _ ⟨ws, tys, lv, r1, r2, xf_2_c (Or.inl ⟨rfl, Nat.le_of_eq e3.symm, Nat.le_of_eq e3⟩) r31, r4⟩)
theorem xs_dcmp : xs_ok own ini d sc nL xo_dcmp (.dcmp .l) 1 := by
  intro p l e R s m args below meth c Q cc A E D W0 C pc hd L S h nc ns k r h1 h2 hf kk ls stk H locs hR
  obtain ⟨hx, hb, hml, hown, hts, hA, hRf, hRl, hlk, hini, hE⟩ := C
  obtain ⟨ws, tys, lv, r1, r2, r3, r4⟩ := hR
  obtain ⟨a0, S0, rfl, hf1⟩ := xe_pop hf
  obtain ⟨w0, st0, rfl, m0, r30⟩ := xf_2_cons r3
  obtain ⟨a1, S1, rfl, hf2⟩ := xe_pop hf1
  obtain ⟨w1, st1, rfl, m1, r31⟩ := xf_2_cons r30
  obtain ⟨hq, hf3⟩ := xe_cond hf2
  obtain ⟨q1, q2⟩ := xe_and hq
  obtain ⟨hq, hf4⟩ := xe_cond hf3
  obtain ⟨q3, q4⟩ := xe_and hq
  obtain ⟨y, rfl, e1⟩ := xm_VD q2 m0
  obtain ⟨x, rfl, e2⟩ := xm_VD q1 m1
  rw [xe_beq q3] at e2
  rw [xe_beq q4] at e1
  have e3 : x = 0 := UInt64.toNat_inj.mp (e2.trans (by decide))
  have e4 : y = 0 := UInt64.toNat_inj.mp (e1.trans (by decide))
  subst e3; subst e4
  have e5 : xb (Op.cmpValue (FP.dcmp 0 0) .l) = xq_B := by decide +kernel
  exact lv_dcmp hx hb hd (kk _ _ _ hf4 _ _ _ _ ⟨ws, tys, lv, r1, r2, xf_2_c (Or.inl ⟨rfl, Nat.le_of_eq e5.symm, Nat.le_of_eq e5⟩) r31, r4⟩)
theorem xs_dup : xs_ok own ini d sc nL xo_dup (.dup) 1 := by
  intro p l e R s m args below meth c Q cc A E D W0 C pc hd L S h nc ns k r h1 h2 hf kk ls stk H locs hR
  obtain ⟨hx, hb, hml, hown, hts, hA, hRf, hRl, hlk, hini, hE⟩ := C
  obtain ⟨ws, tys, lv, r1, r2, r3, r4⟩ := hR
  obtain ⟨a0, S0, rfl, hf1⟩ := xe_pop hf
  obtain ⟨w0, st0, rfl, m0, r30⟩ := xf_2_cons r3
  obtain ⟨hq, hf2⟩ := xe_condN hf1
  exact lv_dup hx hb hd (xm_cat1 m0 hq) (kk _ _ _ hf2 _ _ _ _ ⟨ws, tys, lv, r1, r2, xf_2_c m0 (xf_2_c m0 r30), r4⟩)
theorem xe_orN {a b : Bool} (h : or a b = false) : a = false ∧ b = false := by
  cases a <;> cases b <;> simp_all
theorem xs_dup2 : xs_ok own ini d sc nL xo_dup2 (.dup2) 1 := by
  intro p l e R s m args below meth c Q cc A E D W0 C pc hd L S h nc ns k r h1 h2 hf kk ls stk H locs hR
  obtain ⟨hx, hb, hml, hown, hts, hA, hRf, hRl, hlk, hini, hE⟩ := C
  obtain ⟨ws, tys, lv, r1, r2, r3, r4⟩ := hR
  obtain ⟨a0, S0, rfl, hf1⟩ := xe_pop hf
  obtain ⟨w0, st0, rfl, m0, r30⟩ := xf_2_cons r3
  obtain ⟨a1, S1, rfl, hf2⟩ := xe_pop hf1
  obtain ⟨w1, st1, rfl, m1, r31⟩ := xf_2_cons r30
  obtain ⟨hq, hf3⟩ := xe_condN hf2
  obtain ⟨q1, q2⟩ := xe_orN hq
  exact lv_dup2_11 hx hb hd (xm_cat1 m0 q2) (xm_cat1 m1 q1) (kk _ _ _ hf3 _ _ _ _ ⟨ws, tys, lv, r1, r2, xf_2_c m0 (xf_2_c m1 (xf_2_c m0 (xf_2_c m1 r31))), r4⟩)
theorem xs_dupx1 : xs_ok own ini d sc nL xo_dupx1 (.dup_x1) 1 := by
  intro p l e R s m args below meth c Q cc A E D W0 C pc hd L S h nc ns k r h1 h2 hf kk ls stk H locs hR
  obtain ⟨hx, hb, hml, hown, hts, hA, hRf, hRl, hlk, hini, hE⟩ := C
  obtain ⟨ws, tys, lv, r1, r2, r3, r4⟩ := hR
  obtain ⟨a0, S0, rfl, hf1⟩ := xe_pop hf
  obtain ⟨w0, st0, rfl, m0, r30⟩ := xf_2_cons r3
  obtain ⟨a1, S1, rfl, hf2⟩ := xe_pop hf1
  obtain ⟨w1, st1, rfl, m1, r31⟩ := xf_2_cons r30
  obtain ⟨hq, hf3⟩ := xe_condN hf2
  obtain ⟨q1, q2⟩ := xe_orN hq
  exact lv_dup_x1 hx hb hd (xm_cat1 m0 q2) (xm_cat1 m1 q1) (kk _ _ _ hf3 _ _ _ _ ⟨ws, tys, lv, r1, r2, xf_2_c m0 (xf_2_c m1 (xf_2_c m0 r31)), r4⟩)
theorem xs_pop : xs_ok own ini d sc nL xo_pop (.pop) 1 := by
  intro p l e R s m args below meth c Q cc A E D W0 C pc hd L S h nc ns k r h1 h2 hf kk ls stk H locs hR
  obtain ⟨hx, hb, hml, hown, hts, hA, hRf, hRl, hlk, hini, hE⟩ := C
  obtain ⟨ws, tys, lv, r1, r2, r3, r4⟩ := hR
  obtain ⟨a0, S0, rfl, hf1⟩ := xe_pop hf
  obtain ⟨w0, st0, rfl, m0, r30⟩ := xf_2_cons r3
  obtain ⟨hq, hf2⟩ := xe_condN hf1
  exact lv_pop hx hb hd (xm_cat1 m0 hq) (kk _ _ _ hf2 _ _ _ _ ⟨ws, tys, lv, r1, r2, r30, r4⟩)
end XS
end
section
/-! fields and rows -/
def xs_fget (own : String) (w ci f : Nat) : Prop := ∃ (C : String) (T : u_T) (N : Nat) (ref : String), vwCl[ci]? = some (C, T, N) ∧ (∀ x ∈ u_ws C T N, x ∈ xw_B) ∧ f < N ∧ Cond.fieldLink own w ref (T f).2.1 (T f).2.2.1 ∈ xw_B ∧ (ref = (T f).1 ∨ Cond.sameField ref (T f).1 (T f).2.1 (T f).2.2.1 ∈ xw_B)
def xs_fgetN (own : String) (w ci f : Nat) : Prop := ∃ (C : String) (T : u_T) (N : Nat) (ref host : String), vwCl[ci]? = some (C, T, N) ∧ (∀ x ∈ u_ws C T N, x ∈ xw_B) ∧ f < N ∧ Cond.fieldLinkNest own w ref (T f).2.1 (T f).2.2.1 host ∈ xw_B ∧ (ref = (T f).1 ∨ Cond.sameField ref (T f).1 (T f).2.1 (T f).2.2.1 ∈ xw_B)
def xs_ft (z : Nat) (ty : FieldType) : Prop := (z = 0 ∧ ty = .int) ∨ (z = 1 ∧ ty = .boolean) ∨ (z = 2 ∧ ((∃ n, ty = .object n) ∨ ∃ t, ty = .array t)) ∨ (z = 3 ∧ ty = .long)
def xs_fput (own : String) (fin : Bool) (w ci f z : Nat) : Prop := ∃ (C : String) (T : u_T) (N : Nat) (ref : String) (ty0 : Nat → FieldType), vwCl[ci]? = some (C, T, N) ∧ (∀ x ∈ u_ws C T N, x ∈ xw_B) ∧ f < N ∧ Cond.fieldLink own w ref (T f).2.1 (T f).2.2.1 ∈ xw_B ∧ (ref = (T f).1 ∨ Cond.sameField ref (T f).1 (T f).2.1 (T f).2.2.1 ∈ xw_B) ∧
  (∀ k, k < N → parseFieldDescriptor (T k).2.2.1 = some (ty0 k)) ∧ (∀ a, a < N → ∀ b, b < N → a ≠ b → (T a).2.1 ≠ (T b).2.1) ∧ (T f).2.2.2 = fin ∧ (fin = true → (T f).1 = own) ∧ xs_ft z (ty0 f)
theorem xm_at {E : xm_E} {ws : va_W} {tys : xm_T} {h : List xv_O} {i : Nat} {o : xv_O} {x : Nat × va_E} (r4 : xf_2 (xm_O E ws tys) h ws) (hh : h[i]? = some o) (hw : ws[i]? = some x) : xm_O E ws tys o x := by
  obtain ⟨y, h1, h2⟩ := xf_2_get r4 _ _ hh
  rw [hw] at h1
  cases h1
  exact h2
theorem xm_set {E : xm_E} {ws : va_W} {tys : xm_T} {h : List xv_O} {i a : Nat} {e e' : va_E} {o : xv_O} (r4 : xf_2 (xm_O E ws tys) h ws) (hw : ws[i]? = some (a, e)) (ho : xm_O E ws tys o (a, e')) : xf_2 (xm_O E (ws.set i (a, e')) tys) (xq_set h i o) (ws.set i (a, e')) := by
  have hle := xm_le_set (e' := e') hw
  rw [xq_set_eq]
  have h3 := xm_O_mono [] hle ho
  rw [List.append_nil] at h3
  exact xf_2_set (xm_H_mono' hle r4) i h3
theorem xm_setEl {E : xm_E} {ws : va_W} {es : List xv_V} {k : Nat} {v0 : xv_V} {val : Value} {el el' : Nat → Value} (h6 : ∀ (j : Nat) (q : xv_V), es[j]? = some q → xm_V E ws q (el j)) (hv : xm_V E ws v0 val) (he : ∀ j, el' j = if j = k then val else el j) : ∀ (j : Nat) (q : xv_V), (xq_set es k v0)[j]? = some q → xm_V E ws q (el' j) := by
  intro j q hq
  rw [xq_set_eq, List.getElem?_set] at hq
  rw [he]
  by_cases hj : j = k
  · subst hj
    simp only [if_pos] at hq
    split at hq
    · cases hq
      rw [if_pos rfl]; exact hv
    · cases hq
  · rw [if_neg (fun z => hj z.symm)] at hq
    rw [if_neg hj]
    exact h6 j q hq
theorem xm_setLen {es : List xv_V} {k : Nat} {v0 : xv_V} : (xq_set es k v0).length = es.length := by rw [xq_set_eq, List.length_set]
/-- what a field or an answer of a type takes as it is -/
theorem xm_fit {E : xm_E} {ws : va_W} {z : Nat} {ty : FieldType} {q : xv_V} {v : Value} (hz : xs_ft z ty) (hq : xq_ty z q = true) (hm : xm_V E ws q v) : narrow ty v = v ∧ fits ty v = true := by
  rcases hz with ⟨rfl, rfl⟩ | ⟨rfl, rfl⟩ | ⟨rfl, hz⟩ | ⟨rfl, rfl⟩
  · obtain ⟨x, rfl⟩ := xm_VI hq hm
    exact ⟨rfl, rfl⟩
  · obtain ⟨t, a, b⟩ := q
    obtain ⟨q1, q2⟩ := xe_and hq
    obtain ⟨q3, q4⟩ := xe_and q2
    have e1 : t = 0 := xe_beq q1
    subst e1
    obtain ⟨x, rfl, k1, k2⟩ := xm_V0 hm
    have k3 := xe_ble q3
    have k4 := xe_ble q4
    dsimp only at k3 k4
    unfold xq_B at k3 k4
    have k5 := xb_int x
    have k6 : x = 0 ∨ x = 1 := by
      rcases Nat.lt_or_ge (xb x) 2147483649 with h | h
      · exact Or.inl (xb_inj (by rw [xb_0]; omega))
      · exact Or.inr (xb_inj (by rw [show xb 1 = 2147483649 by decide]; omega))
    rcases k6 with rfl | rfl <;> exact ⟨rfl, rfl⟩
  · obtain ⟨x, rfl⟩ := xm_VA hq hm
    rcases hz with ⟨n, rfl⟩ | ⟨t, rfl⟩ <;> cases x <;> exact ⟨rfl, rfl⟩
  · obtain ⟨x, rfl, -⟩ := xm_VL hq hm
    exact ⟨rfl, rfl⟩
theorem xg_TYo {t : Nat} (h1 : 1 ≤ t) (h2 : t ≤ 4) : ∃ C, xg_TY t = .object C := by
  match t, h1, h2 with
  | 1, _, _ => exact ⟨_, rfl⟩
  | 2, _, _ => exact ⟨_, rfl⟩
  | 3, _, _ => exact ⟨_, rfl⟩
  | 4, _, _ => exact ⟨_, rfl⟩
theorem xm_VIany {E : xm_E} {ws : va_W} {q : xv_V} {x : Int32} (hq : xq_isI q = true) (h : xm_V E [] q (.int x)) : xm_V E ws q (.int x) := h
section XS
variable {own : String} {ini : Bool} {d : Nat} {sc : List xv_V} {nL : Nat}
theorem xs_getf {w ci f : Nat} (hs : xs_fget own w ci f) : xs_ok own ini d sc nL (xo_getf ci f) (.getfield w) 3 := by
  intro p l e R s m args below meth c Q cc A E D W0 C pc hd L S h nc ns k r h1 h2 hf kk ls stk H locs hR
  obtain ⟨hx, hb, hml, hown, hts, hA, hRf, hRl, hlk, hini, hE⟩ := C
  obtain ⟨ws, tys, lv, r1, r2, r3, r4, hK, hP, hD, hS, hM⟩ := hR
  obtain ⟨C, T, N, ref, g1, g2, g3, g4, g5⟩ := hs
  obtain ⟨a0, S0, rfl, hf1⟩ := xe_pop hf
  obtain ⟨w0, st0, rfl, m0, r30⟩ := xf_2_cons r3
  obtain ⟨ho, t, c0, es, hh, hf2⟩ := xe_obj hf1
  obtain ⟨hq, hf3⟩ := xe_cond hf2
  obtain ⟨q1, q2⟩ := xe_and hq
  obtain ⟨v, hv, hf4⟩ := xe_nth hf3
  have e1 : t = 0 := xe_beq q1
  have e2 : c0 = ci := xe_beq q2
  subst e1; subst e2
  obtain ⟨a, e0, rfl, hw⟩ := xm_VO ho m0
  rcases xm_at r4 hh hw with ⟨-, fs, k1, k2⟩ | ⟨k0, -⟩
  · dsimp only at k1 k2
    subst k1
    obtain ⟨v', hv', hm⟩ := xf_2_get k2 _ _ hv
    refine va_get hx hb hts g2 hown hK hP _ hw g1 f g3 (hts _ g4) ?_ hv' hd (kk _ _ _ hf4 _ _ _ _ ⟨ws, tys, lv, r1, r2, xf_2_c hm r30, r4, hK, hP, hD, hS, hM⟩)
    rcases g5 with rfl | g5
    · exact fun x hx => hx
    · exact u_same (hts _ g5)
  · exact absurd k0 (by simp)
theorem xs_getfN {w ci f : Nat} (hs : xs_fgetN own w ci f) : xs_ok own ini d sc nL (xo_getf ci f) (.getfield w) 3 := by
  intro p l e R s m args below meth c Q cc A E D W0 C pc hd L S h nc ns k r h1 h2 hf kk ls stk H locs hR
  obtain ⟨hx, hb, hml, hown, hts, hA, hRf, hRl, hlk, hini, hE⟩ := C
  obtain ⟨ws, tys, lv, r1, r2, r3, r4, hK, hP, hD, hS, hM⟩ := hR
  obtain ⟨C, T, N, ref, host, g1, g2, g3, g4, g5⟩ := hs
  obtain ⟨a0, S0, rfl, hf1⟩ := xe_pop hf
  obtain ⟨w0, st0, rfl, m0, r30⟩ := xf_2_cons r3
  obtain ⟨ho, t, c0, es, hh, hf2⟩ := xe_obj hf1
  obtain ⟨hq, hf3⟩ := xe_cond hf2
  obtain ⟨q1, q2⟩ := xe_and hq
  obtain ⟨v, hv, hf4⟩ := xe_nth hf3
  have e1 : t = 0 := xe_beq q1
  have e2 : c0 = ci := xe_beq q2
  subst e1; subst e2
  obtain ⟨a, e0, rfl, hw⟩ := xm_VO ho m0
  rcases xm_at r4 hh hw with ⟨-, fs, k1, k2⟩ | ⟨k0, -⟩
  · dsimp only at k1 k2
    subst k1
    obtain ⟨v', hv', hm⟩ := xf_2_get k2 _ _ hv
    refine va_getN hx hb hts g2 hown hK hP _ hw g1 f g3 (hts _ g4) ?_ hv' hd (kk _ _ _ hf4 _ _ _ _ ⟨ws, tys, lv, r1, r2, xf_2_c hm r30, r4, hK, hP, hD, hS, hM⟩)
    rcases g5 with rfl | g5
    · exact fun x hx => hx
    · exact u_same (hts _ g5)
  · exact absurd k0 (by simp)
theorem xs_putf {w ci f z : Nat} (hs : xs_fput own false w ci f z) : xs_ok own ini d sc nL (xo_putf ci f z) (.putfield w) 3 := by
  intro p l e R s m args below meth c Q cc A E D W0 C pc hd L S h nc ns k r h1 h2 hf kk ls stk H locs hR
  obtain ⟨hx, hb, hml, hown, hts, hA, hRf, hRl, hlk, hini, hE⟩ := C
  obtain ⟨ws, tys, lv, r1, r2, r3, r4, hK, hP, hD, hS, hM⟩ := hR
  obtain ⟨C, T, N, ref, ty0, g1, g2, g3, g4, g5, g6, g7, g8, g9, g10⟩ := hs
  obtain ⟨a0, S0, rfl, hf1⟩ := xe_pop hf
  obtain ⟨w0, st0, rfl, m0, r30⟩ := xf_2_cons r3
  obtain ⟨a1, S1, rfl, hf2⟩ := xe_pop hf1
  obtain ⟨w1, st1, rfl, m1, r31⟩ := xf_2_cons r30
  obtain ⟨ho, t, c0, es, hh, hf3⟩ := xe_obj hf2
  obtain ⟨hq, hf4⟩ := xe_cond hf3
  obtain ⟨q1, q2⟩ := xe_and hq
  obtain ⟨q2, q3⟩ := xe_and q2
  obtain ⟨v, hv, hf5⟩ := xe_nth hf4
  have e1 : t = 0 := xe_beq q1
  have e2 : c0 = ci := xe_beq q2
  subst e1; subst e2
  obtain ⟨a, e0, rfl, hw⟩ := xm_VO ho m1
  obtain ⟨hn, hfit⟩ := xm_fit g10 q3 m0
  rcases xm_at r4 hh hw with ⟨-, fs, k1, k2⟩ | ⟨k0, -⟩
  · dsimp only at k1 k2
    subst k1
    obtain ⟨v', hv', hm⟩ := xf_2_get k2 _ _ hv
    have hO2 : xm_O E ws tys (0, c0, xq_set es f a0) (a, .inr (c0, fs.set f w0)) := Or.inl ⟨rfl, _, rfl, by rw [xq_set_eq]; exact xf_2_set k2 f m0⟩
    have hle := xm_le_set (e' := .inr (c0, fs.set f w0)) hw
    refine va_put hx hb hts g2 ty0 g6 g7 hown hK hP hD hS _ hw g1 f g3 (hts _ g4) ?_ g8 (g6 f g3) hn hfit (List.getElem?_eq_some_iff.mp hv').1 hd (fun H1 locs1 p1 p2 p3 => kk _ _ _ hf5 _ _ _ _ ⟨_, tys, lv, r1, xm_L_mono hle r2, xm_S_mono hle r31, xm_set r4 hw hO2, hK, p1, p2, p3, xm_le_trans hM (xm_le_set hw)⟩)
    rcases g5 with rfl | g5
    · exact fun x hx => hx
    · exact u_same (hts _ g5)
  · exact absurd k0 (by simp)
theorem xs_putfF {w ci f z : Nat} (hi : ini = true) (hs : xs_fput own true w ci f z) : xs_ok own ini d sc nL (xo_putf ci f z) (.putfield w) 3 := by
  intro p l e R s m args below meth c Q cc A E D W0 C pc hd L S h nc ns k r h1 h2 hf kk ls stk H locs hR
  obtain ⟨hx, hb, hml, hown, hts, hA, hRf, hRl, hlk, hini, hE⟩ := C
  obtain ⟨ws, tys, lv, r1, r2, r3, r4, hK, hP, hD, hS, hM⟩ := hR
  obtain ⟨C, T, N, ref, ty0, g1, g2, g3, g4, g5, g6, g7, g8, g9, g10⟩ := hs
  obtain ⟨a0, S0, rfl, hf1⟩ := xe_pop hf
  obtain ⟨w0, st0, rfl, m0, r30⟩ := xf_2_cons r3
  obtain ⟨a1, S1, rfl, hf2⟩ := xe_pop hf1
  obtain ⟨w1, st1, rfl, m1, r31⟩ := xf_2_cons r30
  obtain ⟨ho, t, c0, es, hh, hf3⟩ := xe_obj hf2
  obtain ⟨hq, hf4⟩ := xe_cond hf3
  obtain ⟨q1, q2⟩ := xe_and hq
  obtain ⟨q2, q3⟩ := xe_and q2
  obtain ⟨v, hv, hf5⟩ := xe_nth hf4
  have e1 : t = 0 := xe_beq q1
  have e2 : c0 = ci := xe_beq q2
  subst e1; subst e2
  obtain ⟨a, e0, rfl, hw⟩ := xm_VO ho m1
  obtain ⟨hn, hfit⟩ := xm_fit g10 q3 m0
  rcases xm_at r4 hh hw with ⟨-, fs, k1, k2⟩ | ⟨k0, -⟩
  · dsimp only at k1 k2
    subst k1
    obtain ⟨v', hv', hm⟩ := xf_2_get k2 _ _ hv
    have hO2 : xm_O E ws tys (0, c0, xq_set es f a0) (a, .inr (c0, fs.set f w0)) := Or.inl ⟨rfl, _, rfl, by rw [xq_set_eq]; exact xf_2_set k2 f m0⟩
    have hle := xm_le_set (e' := .inr (c0, fs.set f w0)) hw
    refine va_putF hx hb hts g2 ty0 g6 g7 hown hK hP hD hS _ hw g1 f g3 (hts _ g4) ?_ g8 (hini hi) (g9 rfl) (g6 f g3) hn hfit (List.getElem?_eq_some_iff.mp hv').1 hd (fun H1 locs1 p1 p2 p3 => kk _ _ _ hf5 _ _ _ _ ⟨_, tys, lv, r1, xm_L_mono hle r2, xm_S_mono hle r31, xm_set r4 hw hO2, hK, p1, p2, p3, xm_le_trans hM (xm_le_set hw)⟩)
    rcases g5 with rfl | g5
    · exact fun x hx => hx
    · exact u_same (hts _ g5)
  · exact absurd k0 (by simp)
theorem xs_iald : xs_ok own ini d sc nL (xo_iald sc) .iaload 1 := by
  intro p l e R s m args below meth c Q cc A E D W0 C pc hd L S h nc ns k r h1 h2 hf kk ls stk H locs hR
  obtain ⟨hx, hb, hml, hown, hts, hA, hRf, hRl, hlk, hini, hE⟩ := C
  obtain ⟨ws, tys, lv, r1, r2, r3, r4, hK, hP, hD, hS, hM⟩ := hR
  obtain ⟨a0, S0, rfl, hf1⟩ := xe_pop hf
  obtain ⟨w0, st0, rfl, m0, r30⟩ := xf_2_cons r3
  obtain ⟨a1, S1, rfl, hf2⟩ := xe_pop hf1
  obtain ⟨w1, st1, rfl, m1, r31⟩ := xf_2_cons r30
  obtain ⟨x0, rfl, hf3⟩ := xe_one hf2
  obtain ⟨i, rfl, e9⟩ := xm_V1 m0
  cases h7 : Nat.beq a1.1 7 with
  | true =>
    have hf3 : cond (Nat.ble xq_B x0) (xq_nth sc (Nat.succ (x0 - xq_B)) fun v => cond (xq_isI v) (k L (v :: S1) h) none) none = some r := by
      have h9 := hf3
      rw [h7] at h9
      exact h9
    obtain ⟨q3, hf4⟩ := xe_cond hf3
    obtain ⟨v, hv, hf5⟩ := xe_nth hf4
    obtain ⟨q5, hf6⟩ := xe_cond hf5
    obtain ⟨-, -, -, -, xs, N, x1, x2, x3, x4, x5⟩ := hE
    obtain ⟨x6, x7⟩ := x5 _ _ hv
    have q4 := xe_ble q3
    unfold xq_B at q4 x6 x7
    obtain ⟨z1, z2⟩ := xb_clamp e9 q4
    have hin := xb_in e9 q4 x6
    have hm : xm_V E ws v (.int (xs i.toNatClampNeg)) := by rw [z1]; exact xm_VIany q5 x7
    obtain ⟨t, u, u'⟩ := a1
    have ht : t = 7 := xe_beq h7
    subst ht
    cases w1 with
    | ref a =>
      rcases m1 with h | h | h | h
      · exact absurd h.1 (by simp)
      · exact absurd h.1 (by simp)
      · rw [h.2]
        exact va_sld hx hb x1 x2 x3 hS hin hd (kk _ _ _ hf6 _ _ _ _ ⟨ws, tys, lv, r1, r2, xf_2_c hm r31, r4, hK, hP, hD, hS, hM⟩)
      · exact absurd h (by simp)
    | int x => rcases m1 with h | h <;> exact absurd h.1 (by simp)
    | _ => simp [xm_V] at m1
  | false =>
    have hf3 : (xq_obj h a1 fun t c es => cond (and (Nat.beq t 1) (and (Nat.beq c 0) (Nat.ble xq_B x0))) (xq_nth es (x0 - xq_B) fun v => k L (v :: S1) h) none) = some r := by
      have h9 := hf3
      rw [h7] at h9
      exact h9
    obtain ⟨ho, t, c0, es, hh, hf7⟩ := xe_obj hf3
    obtain ⟨hq, hf8⟩ := xe_cond hf7
    obtain ⟨q1, q2⟩ := xe_and hq
    obtain ⟨q2, q3⟩ := xe_and q2
    obtain ⟨v, hv, hf9⟩ := xe_nth hf8
    have e1 : t = 1 := xe_beq q1
    have e2 : c0 = 0 := xe_beq q2
    subst e1; subst e2
    obtain ⟨a, e0, rfl, hw⟩ := xm_VO ho m1
    have q4 := xe_ble q3
    unfold xq_B at q4 hv
    rcases xm_at r4 hh hw with ⟨k0, -⟩ | ⟨-, cA, n, arr, t0, k1, k2, k3, k4, k5, k6⟩
    · exact absurd k0 (by simp)
    dsimp only at k1 k2 k3 k4 k6
    subst k1
    rcases k3 with ⟨-, g, rfl⟩ | ⟨k3, -⟩ | ⟨k3, -⟩
    · obtain ⟨z1, z2⟩ := xb_clamp e9 q4
      have hin := xb_in e9 q4 (N := n) (by rw [k4]; exact (List.getElem?_eq_some_iff.mp hv).1)
      have hm := k6 _ _ hv
      rw [← z1] at hm
      exact va_iald hx hb hK hP _ t0 hw k2 hin hd (kk _ _ _ hf9 _ _ _ _ ⟨ws, tys, lv, r1, r2, xf_2_c hm r31, r4, hK, hP, hD, hS, hM⟩)
    · exact absurd k3 (by decide)
    · exact absurd k3 (by decide)
theorem xs_lald : xs_ok own ini d sc nL (xo_ald (fun c => Nat.beq c 5)) .laload 1 := by
  intro p l e R s m args below meth c Q cc A E D W0 C pc hd L S h nc ns k r h1 h2 hf kk ls stk H locs hR
  obtain ⟨hx, hb, hml, hown, hts, hA, hRf, hRl, hlk, hini, hE⟩ := C
  obtain ⟨ws, tys, lv, r1, r2, r3, r4, hK, hP, hD, hS, hM⟩ := hR
  obtain ⟨a0, S0, rfl, hf1⟩ := xe_pop hf
  obtain ⟨w0, st0, rfl, m0, r30⟩ := xf_2_cons r3
  obtain ⟨a1, S1, rfl, hf2⟩ := xe_pop hf1
  obtain ⟨w1, st1, rfl, m1, r31⟩ := xf_2_cons r30
  obtain ⟨x0, rfl, hf3⟩ := xe_one hf2
  obtain ⟨i, rfl, e9⟩ := xm_V1 m0
  obtain ⟨ho, t, c0, es, hh, hf4⟩ := xe_obj hf3
  obtain ⟨hq, hf5⟩ := xe_cond hf4
  obtain ⟨q1, q2⟩ := xe_and hq
  obtain ⟨q2, q3⟩ := xe_and q2
  obtain ⟨v, hv, hf6⟩ := xe_nth hf5
  have e1 : t = 1 := xe_beq q1
  subst e1
  have e2 : c0 = 5 := xe_beq q2
  subst e2
  obtain ⟨a, e0, rfl, hw⟩ := xm_VO ho m1
  have q4 := xe_ble q3
  unfold xq_B at q4 hv
  rcases xm_at r4 hh hw with ⟨k0, -⟩ | ⟨-, cA, n, arr, t0, k1, k2, k3, k4, k5, k6⟩
  · exact absurd k0 (by simp)
  dsimp only at k1 k2 k3 k4 k6
  subst k1
  rcases k3 with ⟨k3, -⟩ | ⟨-, g, rfl⟩ | ⟨-, k3, -⟩
  · exact absurd k3 (by decide)
  · obtain ⟨z1, z2⟩ := xb_clamp e9 q4
    have hin := xb_in e9 q4 (N := n) (by rw [k4]; exact (List.getElem?_eq_some_iff.mp hv).1)
    have hm := k6 _ _ hv
    rw [← z1] at hm
    exact va_lald hx hb hK hP _ t0 hw k2 hin hd (kk _ _ _ hf6 _ _ _ _ ⟨ws, tys, lv, r1, r2, xf_2_c hm r31, r4, hK, hP, hD, hS, hM⟩)
  · exact absurd k3 (by decide)
theorem xs_aald : xs_ok own ini d sc nL (xo_ald (fun c => and (Nat.ble 1 c) (Nat.ble c 4))) .aaload 1 := by
  intro p l e R s m args below meth c Q cc A E D W0 C pc hd L S h nc ns k r h1 h2 hf kk ls stk H locs hR
  obtain ⟨hx, hb, hml, hown, hts, hA, hRf, hRl, hlk, hini, hE⟩ := C
  obtain ⟨ws, tys, lv, r1, r2, r3, r4, hK, hP, hD, hS, hM⟩ := hR
  obtain ⟨a0, S0, rfl, hf1⟩ := xe_pop hf
  obtain ⟨w0, st0, rfl, m0, r30⟩ := xf_2_cons r3
  obtain ⟨a1, S1, rfl, hf2⟩ := xe_pop hf1
  obtain ⟨w1, st1, rfl, m1, r31⟩ := xf_2_cons r30
  obtain ⟨x0, rfl, hf3⟩ := xe_one hf2
  obtain ⟨i, rfl, e9⟩ := xm_V1 m0
  obtain ⟨ho, t, c0, es, hh, hf4⟩ := xe_obj hf3
  obtain ⟨hq, hf5⟩ := xe_cond hf4
  obtain ⟨q1, q2⟩ := xe_and hq
  obtain ⟨q2, q3⟩ := xe_and q2
  obtain ⟨v, hv, hf6⟩ := xe_nth hf5
  have e1 : t = 1 := xe_beq q1
  subst e1
  obtain ⟨c1, c2⟩ := xe_and q2
  have c1 := xe_ble c1
  have c2 := xe_ble c2
  obtain ⟨a, e0, rfl, hw⟩ := xm_VO ho m1
  have q4 := xe_ble q3
  unfold xq_B at q4 hv
  rcases xm_at r4 hh hw with ⟨k0, -⟩ | ⟨-, cA, n, arr, t0, k1, k2, k3, k4, k5, k6⟩
  · exact absurd k0 (by simp)
  dsimp only at k1 k2 k3 k4 k6
  subst k1
  rcases k3 with ⟨k3, -⟩ | ⟨k3, -⟩ | ⟨-, -, g, rfl⟩
  · omega
  · omega
  · obtain ⟨C, hC⟩ := xg_TYo c1 c2
    rw [hC] at k2
    obtain ⟨z1, z2⟩ := xb_clamp e9 q4
    have hin := xb_in e9 q4 (N := n) (by rw [k4]; exact (List.getElem?_eq_some_iff.mp hv).1)
    have hm := k6 _ _ hv
    rw [← z1] at hm
    exact va_aldq hx hb hK hP _ t0 hw k2 hin hd (kk _ _ _ hf6 _ _ _ _ ⟨ws, tys, lv, r1, r2, xf_2_c hm r31, r4, hK, hP, hD, hS, hM⟩)
theorem xs_iast : xs_ok own ini d sc nL (xo_ast (fun c => Nat.beq c 0) xq_isI) .iastore 1 := by
  intro p l e R s m args below meth c Q cc A E D W0 C pc hd L S h nc ns k r h1 h2 hf kk ls stk H locs hR
  obtain ⟨hx, hb, hml, hown, hts, hA, hRf, hRl, hlk, hini, hE⟩ := C
  obtain ⟨ws, tys, lv, r1, r2, r3, r4, hK, hP, hD, hS, hM⟩ := hR
  obtain ⟨a0, S0, rfl, hf1⟩ := xe_pop hf
  obtain ⟨w0, st0, rfl, m0, r30⟩ := xf_2_cons r3
  obtain ⟨a1, S1, rfl, hf2⟩ := xe_pop hf1
  obtain ⟨w1, st1, rfl, m1, r31⟩ := xf_2_cons r30
  obtain ⟨a2, S2, rfl, hf3⟩ := xe_pop hf2
  obtain ⟨w2, st2, rfl, m2, r32⟩ := xf_2_cons r31
  obtain ⟨x0, rfl, hf4⟩ := xe_one hf3
  obtain ⟨i, rfl, e9⟩ := xm_V1 m1
  obtain ⟨ho, t, c0, es, hh, hf5⟩ := xe_obj hf4
  obtain ⟨hq, hf6⟩ := xe_cond hf5
  obtain ⟨q1, q2⟩ := xe_and hq
  obtain ⟨q1, q5⟩ := xe_and q1
  obtain ⟨q2, q3⟩ := xe_and q2
  obtain ⟨v, hv, hf7⟩ := xe_nth hf6
  have e1 : t = 1 := xe_beq q1
  subst e1
  have e2 : c0 = 0 := xe_beq q5
  subst e2
  obtain ⟨x, rfl⟩ := xm_VI q2 m0
  obtain ⟨a, e0, rfl, hw⟩ := xm_VO ho m2
  have q4 := xe_ble q3
  unfold xq_B at q4 hv
  rcases xm_at r4 hh hw with ⟨k0, -⟩ | ⟨-, cA, n, arr, t0, k1, k2, k3, k4, k5, k6⟩
  · exact absurd k0 (by simp)
  dsimp only at k1 k2 k3 k4 k6
  subst k1
  rcases k3 with ⟨-, g, rfl⟩ | ⟨k3, -⟩ | ⟨k3, -⟩
  · obtain ⟨z1, z2⟩ := xb_clamp e9 q4
    have hin := xb_in e9 q4 (N := n) (by rw [k4]; exact (List.getElem?_eq_some_iff.mp hv).1)
    have z3 : i.toNatClampNeg = x0 - xq_B := by unfold xq_B; exact z1
    have hO2 : xm_O E ws tys (1, 0, xq_set es (x0 - xq_B) a0) (a, .inl (cA, n, .inl (upd g i.toNatClampNeg x))) := by
      rw [← z3]
      exact Or.inr ⟨rfl, cA, n, _, t0, rfl, k2, Or.inl ⟨rfl, _, rfl⟩, by rw [k4]; exact xm_setLen.symm, k5, xm_setEl k6 m0 (fun j => by simp only [xm_el, upd]; split <;> rfl)⟩
    have hle := xm_le_set (e' := .inl (cA, n, .inl (upd g i.toNatClampNeg x))) hw
    exact va_iast hx hb hK hP hD hS _ t0 hw k2 hin hd (fun H1 locs1 p1 p2 p3 => kk _ _ _ hf7 _ _ _ _ ⟨_, tys, lv, r1, xm_L_mono hle r2, xm_S_mono hle r32, xm_set r4 hw hO2, hK, p1, p2, p3, xm_le_trans hM (xm_le_set hw)⟩)
  · exact absurd k3 (by decide)
  · exact absurd k3 (by decide)
theorem xs_last : xs_ok own ini d sc nL (xo_ast (fun c => Nat.beq c 5) (fun v => Nat.beq v.1 3)) .lastore 1 := by
  intro p l e R s m args below meth c Q cc A E D W0 C pc hd L S h nc ns k r h1 h2 hf kk ls stk H locs hR
  obtain ⟨hx, hb, hml, hown, hts, hA, hRf, hRl, hlk, hini, hE⟩ := C
  obtain ⟨ws, tys, lv, r1, r2, r3, r4, hK, hP, hD, hS, hM⟩ := hR
  obtain ⟨a0, S0, rfl, hf1⟩ := xe_pop hf
  obtain ⟨w0, st0, rfl, m0, r30⟩ := xf_2_cons r3
  obtain ⟨a1, S1, rfl, hf2⟩ := xe_pop hf1
  obtain ⟨w1, st1, rfl, m1, r31⟩ := xf_2_cons r30
  obtain ⟨a2, S2, rfl, hf3⟩ := xe_pop hf2
  obtain ⟨w2, st2, rfl, m2, r32⟩ := xf_2_cons r31
  obtain ⟨x0, rfl, hf4⟩ := xe_one hf3
  obtain ⟨i, rfl, e9⟩ := xm_V1 m1
  obtain ⟨ho, t, c0, es, hh, hf5⟩ := xe_obj hf4
  obtain ⟨hq, hf6⟩ := xe_cond hf5
  obtain ⟨q1, q2⟩ := xe_and hq
  obtain ⟨q1, q5⟩ := xe_and q1
  obtain ⟨q2, q3⟩ := xe_and q2
  obtain ⟨v, hv, hf7⟩ := xe_nth hf6
  have e1 : t = 1 := xe_beq q1
  subst e1
  have e2 : c0 = 5 := xe_beq q5
  subst e2
  obtain ⟨x, rfl, -⟩ := xm_VL q2 m0
  obtain ⟨a, e0, rfl, hw⟩ := xm_VO ho m2
  have q4 := xe_ble q3
  unfold xq_B at q4 hv
  rcases xm_at r4 hh hw with ⟨k0, -⟩ | ⟨-, cA, n, arr, t0, k1, k2, k3, k4, k5, k6⟩
  · exact absurd k0 (by simp)
  dsimp only at k1 k2 k3 k4 k6
  subst k1
  rcases k3 with ⟨k3, -⟩ | ⟨-, g, rfl⟩ | ⟨-, k3, -⟩
  · exact absurd k3 (by decide)
  · obtain ⟨z1, z2⟩ := xb_clamp e9 q4
    have hin := xb_in e9 q4 (N := n) (by rw [k4]; exact (List.getElem?_eq_some_iff.mp hv).1)
    have z3 : i.toNatClampNeg = x0 - xq_B := by unfold xq_B; exact z1
    have hO2 : xm_O E ws tys (1, 5, xq_set es (x0 - xq_B) a0) (a, .inl (cA, n, .inr (.inl (vp_updL g i.toNatClampNeg x)))) := by
      rw [← z3]
      exact Or.inr ⟨rfl, cA, n, _, t0, rfl, k2, Or.inr (Or.inl ⟨rfl, _, rfl⟩), by rw [k4]; exact xm_setLen.symm, k5, xm_setEl k6 m0 (fun j => by simp only [xm_el, vp_updL]; split <;> rfl)⟩
    have hle := xm_le_set (e' := .inl (cA, n, .inr (.inl (vp_updL g i.toNatClampNeg x)))) hw
    exact va_last hx hb hK hP hD hS _ t0 hw k2 hin hd (fun H1 locs1 p1 p2 p3 => kk _ _ _ hf7 _ _ _ _ ⟨_, tys, lv, r1, xm_L_mono hle r2, xm_S_mono hle r32, xm_set r4 hw hO2, hK, p1, p2, p3, xm_le_trans hM (xm_le_set hw)⟩)
  · exact absurd k3 (by decide)
end XS
end
section
/-! stores of references, lengths, casts, statics, Object's constructor, Math.max -/
def xs_els : Prop := Cond.castable "[I" "java/lang/Object" ∈ xw_B ∧ (∀ c2, 17 ≤ c2 → c2 ≤ 19 → ∃ r, vwCl[c2]? = some r ∧ Cond.castable r.1 "java/lang/Object" ∈ xw_B) ∧ (∃ r, vwCl[6]? = some r ∧ xg_TY 1 = .object r.1) ∧ (∃ r, vwCl[11]? = some r ∧ xg_TY 2 = .object r.1) ∧ ∃ r, vwCl[9]? = some r ∧ xg_TY 3 = .object r.1
def xs_cst (own : String) (w t0 c0 : Nat) : Prop := ∃ nm : String, Cond.classLink own w nm ∈ xw_B ∧ ((t0 = 0 ∧ ∃ r, vwCl[c0]? = some r ∧ r.1 = nm) ∨ (t0 = 1 ∧ c0 = 0 ∧ nm = "[I"))
def xs_gst (own : String) (w x : Nat) : Prop := x = 0 ∧ Cond.fieldLink own w "java/util/ArrayList" "DEFAULTCAPACITY_EMPTY_ELEMENTDATA" xf_steD ∈ xw_B
def xs_obi (own : String) (w : Nat) : Prop := Cond.methodLink own w Lib.objectInit ∈ xw_B ∧ Cond.instanceMethod Lib.objectInit ∈ xw_B ∧ Cond.code Lib.objectInit ⟨#[0xb1]⟩ 1 none ∈ xw_B
def xs_mmx (own : String) (w : Nat) : Prop := Cond.methodLink own w Lib.Math.max.name ∈ xw_B ∧ Cond.static Lib.Math.max.name ∈ xw_B ∧ Cond.initialized "java/lang/Math" ∈ xw_B ∧ Cond.code Lib.Math.max.name Lib.Math.max.code 2 (some .int) ∈ xw_B
theorem xm_VN {E : xm_E} {ws : va_W} {q : xv_V} {v : Value} (hq : q.1 = 2) (h : xm_V E ws q v) : v = .null := by
  obtain ⟨t, a, b⟩ := q
  dsimp only at hq
  subst hq
  cases v with
  | null => rfl
  | int x => rcases h with h | h <;> exact absurd h.1 (by simp)
  | ref a => rcases h with h | h | h | h <;> simp at h
  | _ => simp [xm_V] at h
theorem xm_V6 {E : xm_E} {ws : va_W} {q : xv_V} {v : Value} (hq : q.1 = 6) (h : xm_V E ws q v) : v = .ref (E.1 q.2.1) := by
  obtain ⟨t, a, b⟩ := q
  dsimp only at hq
  subst hq
  cases v with
  | int x => rcases h with h | h <;> exact absurd h.1 (by simp)
  | ref a =>
    rcases h with h | h | h | h
    · exact absurd h.1 (by simp)
    · rw [h.2]
    · exact absurd h.1 (by simp)
    · exact absurd h (by simp)
  | _ => simp [xm_V] at h
theorem xm_V7 {E : xm_E} {ws : va_W} {q : xv_V} {v : Value} (hq : q.1 = 7) (h : xm_V E ws q v) : v = .ref E.2 := by
  obtain ⟨t, a, b⟩ := q
  dsimp only at hq
  subst hq
  cases v with
  | int x => rcases h with h | h <;> exact absurd h.1 (by simp)
  | ref a =>
    rcases h with h | h | h | h
    · exact absurd h.1 (by simp)
    · exact absurd h.1 (by simp)
    · rw [h.2]
    · exact absurd h (by simp)
  | _ => simp [xm_V] at h
theorem xm_sum : ∀ {E : xm_E} {ws : va_W} {S : List xv_V} {st : List Value}, xf_2 (xm_V E ws) S st → (st.map fun v => v.category).sum ≤ 2 * S.length
  | _, _, [], [], _ => Nat.le_refl _
  | _, _, _ :: S, v :: st, h => by
    have h1 := xm_sum h.2
    have h2 : v.category ≤ 2 := by rcases lv_cat v with e | e <;> rw [e] <;> decide
    rw [List.map_cons, List.sum_cons, List.length_cons]
    omega
  | _, _, [], _ :: _, h => h.elim
  | _, _, _ :: _, [], h => h.elim
/-- an int[] may lie in a row of Object -/
theorem xm_any {D : va_G} {tys : xm_T} {ws : va_W} {s : State} {H : Heap} {args : Array Value} {i a t0 n : Nat} {cA : ClassId} {f : Nat → Int32} (hw0 : (Cond.castable "[I" "java/lang/Object").before args s = true) (hK : va_K D vwCl tys s) (hP : va_P D vwCl ws H) (hw : ws[i]? = some (a, .inl (cA, n, .inl f))) (ht : tys[t0]? = some (cA, .int)) : va_Any "java/lang/Object" s H a := by
  obtain ⟨hAr, hRA⟩ := hK.2 t0 _ ht
  obtain ⟨-, kA, hkA, -⟩ := hAr n (fun j => .int (f j))
  refine ⟨_, hP i _ hw, rfl, ⟨kA, hkA⟩, fun comp hcomp => ?_⟩
  obtain ⟨c0, t1, f1, f2, f3⟩ := Cond.castable_spec hw0
  have hRA' : s.vm.findClass "[I" = some cA := hRA
  cases hRA'.symm.trans f1
  cases hcomp.symm.trans f2
  exact f3
section XS
variable {own : String} {ini : Bool} {d : Nat} {sc : List xv_V} {nL : Nat}
theorem xs_aast (hs : xs_els) : xs_ok own ini d sc nL xo_asta .aastore 1 := by
  intro p l e R s m args below meth c Q cc A E D W0 C pc hd L S h nc ns k r h1 h2 hf kk ls stk H locs hR
  obtain ⟨hx, hb, hml, hown, hts, hA, hRf, hRl, hlk, hini, hE⟩ := C
  obtain ⟨ws, tys, lv, r1, r2, r3, r4, hK, hP, hD, hS, hM⟩ := hR
  obtain ⟨a0, S0, rfl, hf1⟩ := xe_pop hf
  obtain ⟨w0, st0, rfl, m0, r30⟩ := xf_2_cons r3
  obtain ⟨a1, S1, rfl, hf2⟩ := xe_pop hf1
  obtain ⟨w1, st1, rfl, m1, r31⟩ := xf_2_cons r30
  obtain ⟨a2, S2, rfl, hf3⟩ := xe_pop hf2
  obtain ⟨w2, st2, rfl, m2, r32⟩ := xf_2_cons r31
  obtain ⟨x0, rfl, hf4⟩ := xe_one hf3
  obtain ⟨i, rfl, e9⟩ := xm_V1 m1
  obtain ⟨ho, t, c0, es, hh, hf5⟩ := xe_obj hf4
  obtain ⟨hq, hf6⟩ := xe_cond hf5
  obtain ⟨q1, q3⟩ := xe_and hq
  obtain ⟨q1, q5⟩ := xe_and q1
  obtain ⟨c1, c2⟩ := xe_and q5
  obtain ⟨v, hv, hf7⟩ := xe_nth hf6
  have e1 : t = 1 := xe_beq q1
  subst e1
  have c1 := xe_ble c1
  have c2 := xe_ble c2
  obtain ⟨a, e0, rfl, hw⟩ := xm_VO ho m2
  have q4 := xe_ble q3
  unfold xq_B at q4 hv
  rcases xm_at r4 hh hw with ⟨k0, -⟩ | ⟨-, cA, n, arr, t0, k1, k2, k3, k4, k5, k6⟩
  · exact absurd k0 (by simp)
  dsimp only at k1 k2 k3 k4 k6
  subst k1
  rcases k3 with ⟨k3, -⟩ | ⟨k3, -⟩ | ⟨-, -, g, rfl⟩
  · omega
  · omega
  obtain ⟨z1, z2⟩ := xb_clamp e9 q4
  have hin := xb_in e9 q4 (N := n) (by rw [k4]; exact (List.getElem?_eq_some_iff.mp hv).1)
  have z3 : i.toNatClampNeg = x0 - xq_B := by unfold xq_B; exact z1
  have hO2 : ∀ (val : Value), xm_V E ws a0 val → ∀ g2 : Nat → Option Nat, (∀ j, va_rf (g2 j) = if j = i.toNatClampNeg then val else va_rf (g j)) → xm_O E ws tys (1, c0, xq_set es (x0 - xq_B) a0) (a, .inl (cA, n, .inr (.inr (.inr (.inr g2))))) := by
    intro val hval g2 hg2
    rw [← z3]
    exact Or.inr ⟨rfl, cA, n, _, t0, rfl, k2, Or.inr (Or.inr ⟨c1, c2, _, rfl⟩), by rw [k4]; exact xm_setLen.symm, k5, xm_setEl k6 hval hg2⟩
  obtain ⟨CE, hCE⟩ := xg_TYo c1 c2
  cases h7 : Nat.beq a0.1 2 with
  | true =>
    have hf9 := hf7
    rw [h7] at hf9
    have hf7 : k L S2 (xq_set h a2.2.1 (1, c0, xq_set es (x0 - xq_B) a0)) = some r := hf9
    have e6 := xm_VN (xe_beq h7) m0
    subst e6
    have k2' := k2
    rw [hCE] at k2'
    exact va_astqN hx hb hK hP hD hS _ t0 hw k2' hin hd (fun H1 locs1 p1 p2 p3 => kk _ _ _ hf7 _ _ _ _ ⟨_, tys, lv, r1, xm_L_mono (xm_le_set hw) r2, xm_S_mono (xm_le_set hw) r32, xm_set r4 hw (hO2 _ m0 _ (fun j => by simp only [xm_el, va_up]; split <;> rfl)), hK, p1, p2, p3, xm_le_trans hM (xm_le_set hw)⟩)
  | false =>
    have hf9 := hf7
    rw [h7] at hf9
    have hf7 : (xq_obj h a0 fun t2 c2 _ => cond (xq_el c0 t2 c2) (k L S2 (xq_set h a2.2.1 (1, c0, xq_set es (x0 - xq_B) a0))) none) = some r := hf9
    obtain ⟨ho2, t2, c2', es2, hh2, hf8⟩ := xe_obj hf7
    obtain ⟨q8, hf9⟩ := xe_cond hf8
    obtain ⟨va, ev, rfl, hwv⟩ := xm_VO ho2 m0
    obtain ⟨s1, s2, s3, s4, s5⟩ := hs
    cases h8 : Nat.beq t2 0 with
    | true =>
      have e7 : t2 = 0 := xe_beq h8
      subst e7
      rcases xm_at r4 hh2 hwv with ⟨-, fs2, u1, -⟩ | ⟨u0, -⟩
      · dsimp only at u1
        subst u1
        have h4 : c0 = 1 ∨ c0 = 2 ∨ c0 = 3 ∨ c0 = 4 := by omega
        rcases h4 with rfl | rfl | rfl | rfl
        · skip
          have e8 : c2' = 6 := xe_beq q8
          subst e8
          obtain ⟨rr, v1, v2⟩ := s3
          have k2' := k2
          rw [v2] at k2'
          exact va_astq hx hb hK hP hD hS _ t0 _ 6 hw k2' hwv v1 hin hd (fun H1 locs1 p1 p2 p3 => kk _ _ _ hf9 _ _ _ _ ⟨_, tys, lv, r1, xm_L_mono (xm_le_set hw) r2, xm_S_mono (xm_le_set hw) r32, xm_set r4 hw (hO2 _ m0 _ (fun j => by simp only [xm_el, va_up]; split <;> rfl)), hK, p1, p2, p3, xm_le_trans hM (xm_le_set hw)⟩)
        · skip
          have e8 : c2' = 11 := xe_beq q8
          subst e8
          obtain ⟨rr, v1, v2⟩ := s4
          have k2' := k2
          rw [v2] at k2'
          exact va_astq hx hb hK hP hD hS _ t0 _ 11 hw k2' hwv v1 hin hd (fun H1 locs1 p1 p2 p3 => kk _ _ _ hf9 _ _ _ _ ⟨_, tys, lv, r1, xm_L_mono (xm_le_set hw) r2, xm_S_mono (xm_le_set hw) r32, xm_set r4 hw (hO2 _ m0 _ (fun j => by simp only [xm_el, va_up]; split <;> rfl)), hK, p1, p2, p3, xm_le_trans hM (xm_le_set hw)⟩)
        · skip
          have e8 : c2' = 9 := xe_beq q8
          subst e8
          obtain ⟨rr, v1, v2⟩ := s5
          have k2' := k2
          rw [v2] at k2'
          exact va_astq hx hb hK hP hD hS _ t0 _ 9 hw k2' hwv v1 hin hd (fun H1 locs1 p1 p2 p3 => kk _ _ _ hf9 _ _ _ _ ⟨_, tys, lv, r1, xm_L_mono (xm_le_set hw) r2, xm_S_mono (xm_le_set hw) r32, xm_set r4 hw (hO2 _ m0 _ (fun j => by simp only [xm_el, va_up]; split <;> rfl)), hK, p1, p2, p3, xm_le_trans hM (xm_le_set hw)⟩)
        · skip
          have q9 : and (Nat.ble 17 c2') (Nat.ble c2' 19) = true := q8
          obtain ⟨b1, b2⟩ := xe_and q9
          obtain ⟨rr, v1, v2⟩ := s2 c2' (xe_ble b1) (xe_ble b2)
          have k2' : tys[t0]? = some (cA, .object "java/lang/Object") := k2
          exact va_astqO hx hb hK hP hD hS _ t0 _ c2' hw k2' (va_Nw.of rfl (hts _ v2)) hwv v1 hin hd (fun H1 locs1 p1 p2 p3 => kk _ _ _ hf9 _ _ _ _ ⟨_, tys, lv, r1, xm_L_mono (xm_le_set hw) r2, xm_S_mono (xm_le_set hw) r32, xm_set r4 hw (hO2 _ m0 _ (fun j => by simp only [xm_el, va_up]; split <;> rfl)), hK, p1, p2, p3, xm_le_trans hM (xm_le_set hw)⟩)
      · exact absurd u0 (by simp)
    | false =>
      have q9 : (cond (Nat.beq t2 0) (cond (Nat.beq c0 1) (Nat.beq c2' 6) (cond (Nat.beq c0 2) (Nat.beq c2' 11) (cond (Nat.beq c0 3) (Nat.beq c2' 9) (cond (Nat.beq c0 4) (and (Nat.ble 17 c2') (Nat.ble c2' 19)) false)))) (and (Nat.beq t2 1) (and (Nat.beq c0 4) (Nat.beq c2' 0)))) = true := q8
      rw [h8] at q9
      obtain ⟨b1, b2⟩ := xe_and q9
      obtain ⟨b2, b3⟩ := xe_and b2
      have e7 : t2 = 1 := xe_beq b1
      have e8 : c0 = 4 := xe_beq b2
      have e9' : c2' = 0 := xe_beq b3
      subst e7; subst e8; subst e9'
      rcases xm_at r4 hh2 hwv with ⟨u0, -⟩ | ⟨-, cA2, n2, arr2, t02, u1, u2, u3, -⟩
      · exact absurd u0 (by simp)
      dsimp only at u1 u2 u3
      subst u1
      rcases u3 with ⟨-, g9, rfl⟩ | ⟨u3, -⟩ | ⟨u3, -⟩
      · have k2' : tys[t0]? = some (cA, .object "java/lang/Object") := k2
        have hany := xm_any (hts _ s1) hK hP hwv u2
        exact va_astqM hx hb hK hP hD hS _ t0 hw k2' hany hin hd (fun H1 locs1 p1 p2 p3 => kk _ _ _ hf9 _ _ _ _ ⟨_, tys, lv, r1, xm_L_mono (xm_le_set hw) r2, xm_S_mono (xm_le_set hw) r32, xm_set r4 hw (hO2 _ m0 _ (fun j => by simp only [xm_el, va_up]; split <;> rfl)), hK, p1, p2, p3, xm_le_trans hM (xm_le_set hw)⟩)
      · exact absurd u3 (by decide)
      · exact absurd u3 (by decide)
theorem xs_alen : xs_ok own ini d sc nL (xo_alen sc) .arraylength 1 := by
  intro p l e R s m args below meth c Q cc A E D W0 C pc hd L S h nc ns k r h1 h2 hf kk ls stk H locs hR
  obtain ⟨hx, hb, hml, hown, hts, hA, hRf, hRl, hlk, hini, hE⟩ := C
  obtain ⟨ws, tys, lv, r1, r2, r3, r4, hK, hP, hD, hS, hM⟩ := hR
  obtain ⟨a0, S0, rfl, hf1⟩ := xe_pop hf
  obtain ⟨w0, st0, rfl, m0, r30⟩ := xf_2_cons r3
  cases h7 : Nat.beq a0.1 7 with
  | true =>
    have hf9 := hf1
    unfold xo_alen at hf9
    have hf1 : (xq_nth sc 0 fun v => cond (Nat.beq v.1 0) (k L (v :: S0) h) none) = some r := by
      have h9 := hf1
      rw [h7] at h9
      exact h9
    obtain ⟨v, hv, hf2⟩ := xe_nth hf1
    obtain ⟨q5, hf3⟩ := xe_cond hf2
    obtain ⟨-, -, -, -, xs, N, x1, x2, x3, x4, x5⟩ := hE
    have hm : xm_V E ws v (.int (Int32.ofNat N)) := xm_VIany (by unfold xq_isI; rw [q5]; rfl) (x4 _ hv)
    have e6 := xm_V7 (xe_beq h7) m0
    subst e6
    exact va_slen hx hb x1 x2 x3 hS hd (kk _ _ _ hf3 _ _ _ _ ⟨ws, tys, lv, r1, r2, xf_2_c hm r30, r4, hK, hP, hD, hS, hM⟩)
  | false =>
    have hf2 : cond (and (Nat.beq a0.1 6) (Nat.beq a0.2.1 0)) (k L (xi xq_B :: S0) h) (xq_obj h a0 fun t _ es => cond (Nat.beq t 1) (k L (xi (xq_len es + xq_B) :: S0) h) none) = some r := by
      have h9 := hf1
      rw [h7] at h9
      exact h9
    cases h6 : and (Nat.beq a0.1 6) (Nat.beq a0.2.1 0) with
    | true =>
      have hf3 : k L (xi xq_B :: S0) h = some r := by
        have h9 := hf2
        rw [h6] at h9
        exact h9
      obtain ⟨b1, b2⟩ := xe_and h6
      obtain ⟨-, -, -, hT, -⟩ := hE
      have e6 := xm_V6 (xe_beq b1) m0
      rw [xe_beq b2] at e6
      subst e6
      exact va_tlen hx hb hT hS rfl hd (kk _ _ _ hf3 _ _ _ _ ⟨ws, tys, lv, r1, r2, xf_2_c (Or.inl ⟨rfl, Nat.le_of_eq xb_0.symm, Nat.le_of_eq xb_0⟩) r30, r4, hK, hP, hD, hS, hM⟩)
    | false =>
      have hf3 : (xq_obj h a0 fun t _ es => cond (Nat.beq t 1) (k L (xi (xq_len es + xq_B) :: S0) h) none) = some r := by
        have h9 := hf2
        rw [h6] at h9
        exact h9
      obtain ⟨ho, t, c0, es, hh, hf4⟩ := xe_obj hf3
      obtain ⟨q1, hf5⟩ := xe_cond hf4
      have e1 : t = 1 := xe_beq q1
      subst e1
      obtain ⟨a, e0, rfl, hw⟩ := xm_VO ho m0
      rcases xm_at r4 hh hw with ⟨k0, -⟩ | ⟨-, cA, n, arr, t0, k1, k2, k3, k4, k5, k6⟩
      · exact absurd k0 (by simp)
      dsimp only at k1 k2 k3 k4 k6
      subst k1
      have e3 : xb (Int32.ofNat n) = xq_len es + xq_B := by rw [xb_ofNat (by omega), xq_len_eq, k4]; rfl
      exact va_alen hx hb hK hP _ t0 hw k2 rfl hd (kk _ _ _ hf5 _ _ _ _ ⟨ws, tys, lv, r1, r2, xf_2_c (Or.inl ⟨rfl, Nat.le_of_eq e3.symm, Nat.le_of_eq e3⟩) r30, r4, hK, hP, hD, hS, hM⟩)
theorem xs_cast {w t0 c9 : Nat} (hs : xs_cst own w t0 c9) : xs_ok own ini d sc nL (xo_cast t0 c9) (.checkcast w) 3 := by
  intro p l e R s m args below meth c Q cc A E D W0 C pc hd L S h nc ns k r h1 h2 hf kk ls stk H locs hR
  obtain ⟨hx, hb, hml, hown, hts, hA, hRf, hRl, hlk, hini, hE⟩ := C
  obtain ⟨ws, tys, lv, r1, r2, r3, r4, hK, hP, hD, hS, hM⟩ := hR
  obtain ⟨nm, g1, g2⟩ := hs
  obtain ⟨a0, S0, rfl, hf1⟩ := xe_pop hf
  obtain ⟨w0, st0, rfl, m0, r30⟩ := xf_2_cons r3
  obtain ⟨ho, t, c0, es, hh, hf2⟩ := xe_obj hf1
  obtain ⟨hq, hf3⟩ := xe_cond hf2
  obtain ⟨q1, q2⟩ := xe_and hq
  have e1 : t = t0 := xe_beq q1
  have e2 : c0 = c9 := xe_beq q2
  subst e1; subst e2
  obtain ⟨a, e0, rfl, hw⟩ := xm_VO ho m0
  have kk9 := kk _ _ _ hf3 _ _ _ _ ⟨ws, tys, lv, r1, r2, xf_2_c m0 r30, r4, hK, hP, hD, hS, hM⟩
  rcases g2 with ⟨rfl, rr, g2, g3⟩ | ⟨rfl, rfl, g3⟩
  · rcases xm_at r4 hh hw with ⟨-, fs, k1, -⟩ | ⟨k0, -⟩
    · dsimp only at k1
      subst k1
      obtain ⟨r', hr', cell, u1, u2, u3, -⟩ := hP _ _ hw
      have hKn := (hK.1 _ _ g2).2
      rw [g3] at hKn
      exact va_castS hx hb hown (hts _ g1) hKn ⟨cell, u1, by rw [u3]; rfl, by rw [u2]; exact hKn.1⟩ hd kk9
    · exact absurd k0 (by simp)
  · rcases xm_at r4 hh hw with ⟨k0, -⟩ | ⟨-, cA, n, arr, t0, k1, k2, -⟩
    · exact absurd k0 (by simp)
    · dsimp only at k1 k2
      subst k1
      have hRA : s.vm.findClass "[I" = some cA := (hK.2 t0 _ k2).2
      rw [g3] at g1
      exact va_castA hx hb hown (hts _ g1) hP _ hw hRA hd kk9
theorem xs_gets {w x : Nat} (hs : xs_gst own w x) : xs_ok own ini d sc nL (xo_push (6, x, 0)) (.getstatic w) 3 := by
  intro p l e R s m args below meth c Q cc A E D W0 C pc hd L S h nc ns k r h1 h2 hf kk ls stk H locs hR
  obtain ⟨hx, hb, hml, hown, hts, hA, hRf, hRl, hlk, hini, hE⟩ := C
  obtain ⟨ws, tys, lv, r1, r2, r3, r4, hK, hP, hD, hS, hM⟩ := hR
  obtain ⟨rfl, g1⟩ := hs
  obtain ⟨-, -, hZ, -⟩ := hE
  exact va_gets hx hb hZ hS hown (hts _ g1) (fun x hx => hx) hd (kk _ _ _ hf _ _ _ _ ⟨ws, tys, lv, r1, r2, xf_2_c (Or.inr (Or.inl ⟨rfl, rfl⟩)) r3, r4, hK, hP, hD, hS, hM⟩)
theorem xs_oinit {w : Nat} (hs : xs_obi own w) : xs_ok own ini d sc nL (xo_oinit d) (.invokespecial w) 3 := by
  intro p l e R s m args below meth c Q cc A E D W0 C pc hd L S h nc ns k r h1 h2 hf kk ls stk H locs hR
  obtain ⟨hx, hb, hml, hown, hts, hA, hRf, hRl, hlk, hini, hE⟩ := C
  obtain ⟨ws, tys, lv, r1, r2, r3, r4, hK, hP, hD, hS, hM⟩ := hR
  obtain ⟨g1, g2, g3⟩ := hs
  obtain ⟨a0, S0, rfl, hf1⟩ := xe_pop hf
  obtain ⟨w0, st0, rfl, m0, r30⟩ := xf_2_cons r3
  obtain ⟨ho, t, c0, es, hh, hf2⟩ := xe_obj hf1
  obtain ⟨hq, hf3⟩ := xe_cond hf2
  obtain ⟨q1, q2⟩ := xe_and hq
  have q1 := xe_ble q1
  have q2 := xe_ble q2
  rw [xq_len_eq] at q2
  have hsum := xm_sum r30
  obtain ⟨a, e0, rfl, hw⟩ := xm_VO ho m0
  refine W.objInit hx hb hown (hts _ g1) (hts _ g2) (hts _ g3) rfl (by rw [hml]; exact r1.1) rfl hd (by omega) ?_ (kk _ _ _ hf3 _ _ _ _ ⟨ws, tys, lv, r1, r2, r30, r4, hK, hP, hD, hS, hM⟩)
  show 2 * 0 + (st0.map fun v => v.category).sum + 12 ≤ R.locals
  omega
theorem xs_max {w : Nat} (hs : xs_mmx own w) : xs_ok own ini d sc nL (xo_max d) (.invokestatic w) 3 := by
  intro p l e R s m args below meth c Q cc A E D W0 C pc hd L S h nc ns k r h1 h2 hf kk ls stk H locs hR
  obtain ⟨hx, hb, hml, hown, hts, hA, hRf, hRl, hlk, hini, hE⟩ := C
  obtain ⟨ws, tys, lv, r1, r2, r3, r4, hK, hP, hD, hS, hM⟩ := hR
  obtain ⟨g1, g2, g3, g4⟩ := hs
  obtain ⟨a0, S0, rfl, hf1⟩ := xe_pop hf
  obtain ⟨w0, st0, rfl, m0, r30⟩ := xf_2_cons r3
  obtain ⟨a1, S1, rfl, hf2⟩ := xe_pop hf1
  obtain ⟨w1, st1, rfl, m1, r31⟩ := xf_2_cons r30
  obtain ⟨y0, rfl, hf3⟩ := xe_one hf2
  obtain ⟨x0, rfl, hf4⟩ := xe_one hf3
  obtain ⟨hq, hf5⟩ := xe_cond hf4
  obtain ⟨q1, q2⟩ := xe_and hq
  have q1 := xe_ble q1
  have q2 := xe_ble q2
  rw [xq_len_eq] at q2
  have hsum := xm_sum r31
  obtain ⟨y, rfl, e1⟩ := xm_V1 m0
  obtain ⟨x, rfl, e2⟩ := xm_V1 m1
  have e3 : xb (if x < y then y else x) = cond (Nat.ble x0 y0) y0 x0 := by
    have h9 := xb_lt_iff x y
    rw [e1, e2] at h9
    cases h8 : Nat.ble x0 y0 with
    | true =>
      have := xe_ble h8
      show _ = y0
      by_cases hl : x < y
      · rw [if_pos hl]; exact e1
      · rw [if_neg hl, e2]
        have := mt h9.mpr hl
        omega
    | false =>
      have := xe_nble h8
      show _ = x0
      rw [if_neg (fun hl => absurd (h9.mp hl) (by omega))]
      exact e2
  exact va_mmax hx hb (by rw [hml]; exact r1.1.symm) hown (hts _ g1) (hts _ g2) (hts _ g3) (hts _ g4) (by omega) (by omega) h1 h2 hd (kk _ _ _ hf5 _ _ _ _ ⟨ws, tys, lv, r1, r2, xf_2_c (Or.inl ⟨rfl, Nat.le_of_eq e3.symm, Nat.le_of_eq e3⟩) r31, r4, hK, hP, hD, hS, hM⟩)
end XS
end
section
/-! every instruction goes on -/
def xs_thru (f : xv_L → List xv_V → List xv_O → xk_S → Option xv_R) : Prop := ∀ (L : xv_L) (S : List xv_V) (h : List xv_O) (k : xk_S) (r : xv_R), f L S h k = some r → ∃ L' S' h', k L' S' h' = some r
theorem xp_push {v : xv_V} : xs_thru (xo_push v) := by
  intro L S h k r hf
  exact ⟨_, _, _, hf⟩
theorem xp_iload {i : Nat} : xs_thru (xo_iload i) := by
  intro L S h k r hf
  obtain ⟨_, _, -, hf1⟩ := xe_get hf
  obtain ⟨-, hf2⟩ := xe_cond hf1
  exact ⟨_, _, _, hf2⟩
theorem xp_aload {i : Nat} : xs_thru (xo_aload i) := by
  intro L S h k r hf
  obtain ⟨_, _, -, hf1⟩ := xe_get hf
  obtain ⟨-, hf2⟩ := xe_cond hf1
  exact ⟨_, _, _, hf2⟩
theorem xp_lload {i : Nat} : xs_thru (xo_lload i) := by
  intro L S h k r hf
  obtain ⟨_, _, -, hf1⟩ := xe_get hf
  obtain ⟨-, hf2⟩ := xe_cond hf1
  exact ⟨_, _, _, hf2⟩
theorem xp_dload {i : Nat} : xs_thru (xo_dload i) := by
  intro L S h k r hf
  obtain ⟨_, _, -, hf1⟩ := xe_get hf
  obtain ⟨-, hf2⟩ := xe_cond hf1
  exact ⟨_, _, _, hf2⟩
theorem xp_istore {i : Nat} : xs_thru (xo_istore i) := by
  intro L S h k r hf
  obtain ⟨_, S, -, hf1⟩ := xe_pop hf
  obtain ⟨-, hf2⟩ := xe_cond hf1
  exact ⟨_, _, _, hf2⟩
theorem xp_astore {i : Nat} : xs_thru (xo_astore i) := by
  intro L S h k r hf
  obtain ⟨_, S, -, hf1⟩ := xe_pop hf
  obtain ⟨-, hf2⟩ := xe_cond hf1
  exact ⟨_, _, _, hf2⟩
theorem xp_lstore {i : Nat} : xs_thru (xo_lstore i) := by
  intro L S h k r hf
  obtain ⟨_, S, -, hf1⟩ := xe_pop hf
  obtain ⟨-, hf2⟩ := xe_cond hf1
  exact ⟨_, _, _, hf2⟩
theorem xp_dstore {i : Nat} : xs_thru (xo_dstore i) := by
  intro L S h k r hf
  obtain ⟨_, S, -, hf1⟩ := xe_pop hf
  obtain ⟨-, hf2⟩ := xe_cond hf1
  exact ⟨_, _, _, hf2⟩
theorem xp_iinc {i n : Nat} : xs_thru (xo_iinc i n) := by
  intro L S h k r hf
  obtain ⟨_, _, -, hf1⟩ := xe_get hf
  obtain ⟨_, -, hf2⟩ := xe_one hf1
  exact ⟨_, _, _, hf2⟩
theorem xp_bin {f : Nat → Nat → Nat} : xs_thru (xo_bin f) := by
  intro L S h k r hf
  obtain ⟨_, S, -, hf1⟩ := xe_pop hf
  obtain ⟨_, S, -, hf2⟩ := xe_pop hf1
  obtain ⟨_, -, hf3⟩ := xe_one hf2
  obtain ⟨_, -, hf4⟩ := xe_one hf3
  exact ⟨_, _, _, hf4⟩
theorem xe_ite {β : Type} {b : Bool} {x y : Option β} {r : β} (h : cond b x y = some r) : x = some r ∨ y = some r := by
  cases b with
  | true => exact Or.inl h
  | false => exact Or.inr h
theorem xp_and  : xs_thru (xo_and) := by
  intro L S h k r hf
  obtain ⟨_, S, -, hf1⟩ := xe_pop hf
  obtain ⟨_, S, -, hf2⟩ := xe_pop hf1
  obtain ⟨_, -, hf3⟩ := xe_one hf2
  rcases xe_ite hf3 with hf4 | hf4
  · obtain ⟨-, hf5⟩ := xe_cond hf4
    exact ⟨_, _, _, hf5⟩
  · obtain ⟨_, -, hf6⟩ := xe_one hf4
    exact ⟨_, _, _, hf6⟩
theorem xp_lbin {f : Nat → Nat → Nat} : xs_thru (xo_lbin f) := by
  intro L S h k r hf
  obtain ⟨_, S, -, hf1⟩ := xe_pop hf
  obtain ⟨_, S, -, hf2⟩ := xe_pop hf1
  obtain ⟨-, hf3⟩ := xe_cond hf2
  exact ⟨_, _, _, hf3⟩
theorem xp_lcmp  : xs_thru (xo_lcmp) := by
  intro L S h k r hf
  obtain ⟨_, S, -, hf1⟩ := xe_pop hf
  obtain ⟨_, S, -, hf2⟩ := xe_pop hf1
  obtain ⟨-, hf3⟩ := xe_cond hf2
  exact ⟨_, _, _, hf3⟩
theorem xp_i2l  : xs_thru (xo_i2l) := by
  intro L S h k r hf
  obtain ⟨_, S, -, hf1⟩ := xe_pop hf
  obtain ⟨_, -, hf2⟩ := xe_one hf1
  exact ⟨_, _, _, hf2⟩
theorem xp_dcmp  : xs_thru (xo_dcmp) := by
  intro L S h k r hf
  obtain ⟨_, S, -, hf1⟩ := xe_pop hf
  obtain ⟨_, S, -, hf2⟩ := xe_pop hf1
  obtain ⟨-, hf3⟩ := xe_cond hf2
  obtain ⟨-, hf4⟩ := xe_cond hf3
  exact ⟨_, _, _, hf4⟩
theorem xp_dup  : xs_thru (xo_dup) := by
  intro L S h k r hf
  obtain ⟨_, S, -, hf1⟩ := xe_pop hf
  obtain ⟨-, hf2⟩ := xe_condN hf1
  exact ⟨_, _, _, hf2⟩
theorem xp_dup2  : xs_thru (xo_dup2) := by
  intro L S h k r hf
  obtain ⟨_, S, -, hf1⟩ := xe_pop hf
  obtain ⟨_, S, -, hf2⟩ := xe_pop hf1
  obtain ⟨-, hf3⟩ := xe_condN hf2
  exact ⟨_, _, _, hf3⟩
theorem xp_dupx1  : xs_thru (xo_dupx1) := by
  intro L S h k r hf
  obtain ⟨_, S, -, hf1⟩ := xe_pop hf
  obtain ⟨_, S, -, hf2⟩ := xe_pop hf1
  obtain ⟨-, hf3⟩ := xe_condN hf2
  exact ⟨_, _, _, hf3⟩
theorem xp_pop  : xs_thru (xo_pop) := by
  intro L S h k r hf
  obtain ⟨_, S, -, hf1⟩ := xe_pop hf
  obtain ⟨-, hf2⟩ := xe_condN hf1
  exact ⟨_, _, _, hf2⟩
theorem xp_getf {ci f : Nat} : xs_thru (xo_getf ci f) := by
  intro L S h k r hf
  obtain ⟨_, S, -, hf1⟩ := xe_pop hf
  obtain ⟨-, _, _, _, -, hf2⟩ := xe_obj hf1
  obtain ⟨-, hf3⟩ := xe_cond hf2
  obtain ⟨_, -, hf4⟩ := xe_nth hf3
  exact ⟨_, _, _, hf4⟩
theorem xp_putf {ci f z : Nat} : xs_thru (xo_putf ci f z) := by
  intro L S h k r hf
  obtain ⟨_, S, -, hf1⟩ := xe_pop hf
  obtain ⟨_, S, -, hf2⟩ := xe_pop hf1
  obtain ⟨-, _, _, _, -, hf3⟩ := xe_obj hf2
  obtain ⟨-, hf4⟩ := xe_cond hf3
  obtain ⟨_, -, hf5⟩ := xe_nth hf4
  exact ⟨_, _, _, hf5⟩
theorem xp_ald {ty : Nat → Bool} : xs_thru (xo_ald ty) := by
  intro L S h k r hf
  obtain ⟨_, S, -, hf1⟩ := xe_pop hf
  obtain ⟨_, S, -, hf2⟩ := xe_pop hf1
  obtain ⟨_, -, hf3⟩ := xe_one hf2
  obtain ⟨-, _, _, _, -, hf4⟩ := xe_obj hf3
  obtain ⟨-, hf5⟩ := xe_cond hf4
  obtain ⟨_, -, hf6⟩ := xe_nth hf5
  exact ⟨_, _, _, hf6⟩
theorem xp_ast {ty : Nat → Bool} {vo : xv_V → Bool} : xs_thru (xo_ast ty vo) := by
  intro L S h k r hf
  obtain ⟨_, S, -, hf1⟩ := xe_pop hf
  obtain ⟨_, S, -, hf2⟩ := xe_pop hf1
  obtain ⟨_, S, -, hf3⟩ := xe_pop hf2
  obtain ⟨_, -, hf4⟩ := xe_one hf3
  obtain ⟨-, _, _, _, -, hf5⟩ := xe_obj hf4
  obtain ⟨-, hf6⟩ := xe_cond hf5
  obtain ⟨_, -, hf7⟩ := xe_nth hf6
  exact ⟨_, _, _, hf7⟩
theorem xp_iald {sc : List xv_V} : xs_thru (xo_iald sc) := by
  intro L S h k r hf
  obtain ⟨_, S, -, hf1⟩ := xe_pop hf
  obtain ⟨_, S, -, hf2⟩ := xe_pop hf1
  obtain ⟨_, -, hf3⟩ := xe_one hf2
  rcases xe_ite hf3 with hf4 | hf4
  · obtain ⟨-, hf5⟩ := xe_cond hf4
    obtain ⟨_, -, hf6⟩ := xe_nth hf5
    obtain ⟨-, hf7⟩ := xe_cond hf6
    exact ⟨_, _, _, hf7⟩
  · obtain ⟨-, _, _, _, -, hf8⟩ := xe_obj hf4
    obtain ⟨-, hf9⟩ := xe_cond hf8
    obtain ⟨_, -, hf10⟩ := xe_nth hf9
    exact ⟨_, _, _, hf10⟩
theorem xp_asta  : xs_thru (xo_asta) := by
  intro L S h k r hf
  obtain ⟨_, S, -, hf1⟩ := xe_pop hf
  obtain ⟨_, S, -, hf2⟩ := xe_pop hf1
  obtain ⟨_, S, -, hf3⟩ := xe_pop hf2
  obtain ⟨_, -, hf4⟩ := xe_one hf3
  obtain ⟨-, _, _, _, -, hf5⟩ := xe_obj hf4
  obtain ⟨-, hf6⟩ := xe_cond hf5
  obtain ⟨_, -, hf7⟩ := xe_nth hf6
  rcases xe_ite hf7 with hf8 | hf8
  · exact ⟨_, _, _, hf8⟩
  · obtain ⟨-, _, _, _, -, hf9⟩ := xe_obj hf8
    obtain ⟨-, hf10⟩ := xe_cond hf9
    exact ⟨_, _, _, hf10⟩
theorem xp_alen {sc : List xv_V} : xs_thru (xo_alen sc) := by
  intro L S h k r hf
  obtain ⟨_, S, -, hf1⟩ := xe_pop hf
  rcases xe_ite hf1 with hf2 | hf2
  · obtain ⟨_, -, hf3⟩ := xe_nth hf2
    obtain ⟨-, hf4⟩ := xe_cond hf3
    exact ⟨_, _, _, hf4⟩
  rcases xe_ite hf2 with hf5 | hf5
  · exact ⟨_, _, _, hf5⟩
  · obtain ⟨-, _, _, _, -, hf6⟩ := xe_obj hf5
    obtain ⟨-, hf7⟩ := xe_cond hf6
    exact ⟨_, _, _, hf7⟩
theorem xp_cast {a b : Nat} : xs_thru (xo_cast a b) := by
  intro L S h k r hf
  obtain ⟨_, S, -, hf1⟩ := xe_pop hf
  obtain ⟨-, _, _, _, -, hf2⟩ := xe_obj hf1
  obtain ⟨-, hf3⟩ := xe_cond hf2
  exact ⟨_, _, _, hf3⟩
theorem xp_oinit {d : Nat} : xs_thru (xo_oinit d) := by
  intro L S h k r hf
  obtain ⟨_, S, -, hf1⟩ := xe_pop hf
  obtain ⟨-, _, _, _, -, hf2⟩ := xe_obj hf1
  obtain ⟨-, hf3⟩ := xe_cond hf2
  exact ⟨_, _, _, hf3⟩
theorem xp_max {d : Nat} : xs_thru (xo_max d) := by
  intro L S h k r hf
  obtain ⟨_, S, -, hf1⟩ := xe_pop hf
  obtain ⟨_, S, -, hf2⟩ := xe_pop hf1
  obtain ⟨_, -, hf3⟩ := xe_one hf2
  obtain ⟨_, -, hf4⟩ := xe_one hf3
  obtain ⟨-, hf5⟩ := xe_cond hf4
  exact ⟨_, _, _, hf5⟩
/-- an instruction up to 52 -/
theorem xp_all {d op x y z : Nat} {sc : List xv_V} (h : op ≤ 52) : xs_thru (xs d op x y z sc) := by
  match op, h with
  | 0, _ => exact xp_push
  | 1, _ => exact xp_push
  | 2, _ => exact xp_push
  | 3, _ => exact xp_push
  | 4, _ => exact xp_push
  | 5, _ => exact xp_push
  | 6, _ => exact xp_iload
  | 7, _ => exact xp_iload
  | 8, _ => exact xp_aload
  | 9, _ => exact xp_aload
  | 10, _ => exact xp_lload
  | 11, _ => exact xp_lload
  | 12, _ => exact xp_dload
  | 13, _ => exact xp_dload
  | 14, _ => exact xp_istore
  | 15, _ => exact xp_istore
  | 16, _ => exact xp_astore
  | 17, _ => exact xp_astore
  | 18, _ => exact xp_lstore
  | 19, _ => exact xp_lstore
  | 20, _ => exact xp_dstore
  | 21, _ => exact xp_dstore
  | 22, _ => exact xp_iinc
  | 23, _ => exact xp_bin
  | 24, _ => exact xp_bin
  | 25, _ => exact xp_bin
  | 26, _ => exact xp_and
  | 27, _ => exact xp_bin
  | 28, _ => exact xp_bin
  | 29, _ => exact xp_i2l
  | 30, _ => exact xp_lbin
  | 31, _ => exact xp_lbin
  | 32, _ => exact xp_lcmp
  | 33, _ => exact xp_dcmp
  | 34, _ => exact xp_dup
  | 35, _ => exact xp_dup2
  | 36, _ => exact xp_dupx1
  | 37, _ => exact xp_pop
  | 38, _ => exact xp_getf
  | 39, _ => exact xp_getf
  | 40, _ => exact xp_putf
  | 41, _ => exact xp_putf
  | 42, _ => exact xp_iald
  | 43, _ => exact xp_ast
  | 44, _ => exact xp_ald
  | 45, _ => exact xp_ast
  | 46, _ => exact xp_ald
  | 47, _ => exact xp_asta
  | 48, _ => exact xp_alen
  | 49, _ => exact xp_cast
  | 50, _ => exact xp_push
  | 51, _ => exact xp_oinit
  | 52, _ => exact xp_max
  | n + 53, h => omega
end
section
/-! contracts, and calls by contract -/
def xg_CW (k : Nat) : Cond := cond (xg_WH k) (.codeWith (xg_Y k) (xg_CC k) (xg_ML k) (xg_RT k) (xg_HH k)) (.code (xg_Y k) (xg_CC k) (xg_ML k) (xg_RT k))
/-- texts of thrown ones, and classes of which none is the other's -/
def xf_F (s : State) : Prop := (∀ t ∈ xg_ST, ∃ a, vk_R t.1 t.2.1 t.2.2 a s) ∧ ∀ t ∈ xg_NC, va_Nc t.1 t.2 s
theorem xf_F_warm {s U : State} (hW : s.WarmedH U.vm) (h : xf_F s) : xf_F U := ⟨fun t ht => by obtain ⟨a, h1⟩ := h.1 t ht; exact ⟨a, vk_R.warm hW h1⟩, fun t ht => va_Nc.moved hW.alike (h.2 t ht)⟩
def xw_P (E : xm_E) (D : va_G) (A : Nat → Prop) (sc : List xv_V) (ws : va_W) (tys : xm_T) (as : List xv_V) (h : List xv_O) : Array Value → State → Prop := fun a U =>
  xf_2 (xm_V E ws) as a.toList ∧ xf_2 (xm_O E ws tys) h ws ∧ va_K D vwCl tys U ∧ va_P D vwCl ws U.heap ∧ va_D A ws ∧ (∀ q, U.heap.size ≤ q → A q) ∧ xf_E A E sc U ∧ xf_F U
/-- the world behind it -/
def xw_W (E : xm_E) (D : va_G) (A : Nat → Prop) (ws ws' : va_W) (tys' : xm_T) (r : xv_R) (st t : State) : Prop :=
  xm_le ws ws' ∧ xf_2 (xm_O E ws' tys') r.2.2.1 ws' ∧ va_K D vwCl tys' t ∧ va_P D vwCl ws' t.heap ∧ va_D A ws' ∧ va_F A st t
def xw_Q (E : xm_E) (D : va_G) (A : Nat → Prop) (ws : va_W) (r : xv_R) : Array Value → State → Outcome → State → Prop := fun _ st o t =>
  ∃ (v : Option Value) (ws' : va_W) (tys' : xm_T), o = .returned v ∧ ((r.1 = 0 ∧ v = none) ∨ (r.1 = 1 ∧ ∃ x, v = some x ∧ xm_V E ws' r.2.1 x)) ∧ xw_W E D A ws ws' tys' r st t
def xw_X (E : xm_E) (D : va_G) (A : Nat → Prop) (ws : va_W) (r : xv_R) : String → State → State → Prop := fun nm st t =>
  ∃ (k : Nat) (ws' : va_W) (tys' : xm_T), r.1 = 2 + k ∧ k < 3 ∧ nm = xg_EX k ∧ xw_W E D A ws ws' tys' r st t
def xw_M (l : Launch) (E : xm_E) (D : va_G) (A : Nat → Prop) (sc : List xv_V) (d k : Nat) (as : List xv_V) (h : List xv_O) (r : xv_R) : Prop := ∀ (ws : va_W) (tys : xm_T),
  vx_Met l (xg_Y k) (xg_CW k :: xw_B) { frames := d, cells := r.2.2.2.1, slots := r.2.2.2.2, locals := 64 * d } (xw_P E D A sc ws tys as h) (xw_Q E D A ws r) (xw_X E D A ws r) r.2.2.2.1 r.2.2.2.2 A
/-- what is outside the worlds goes on -/
theorem xf_E_moved {A : Nat → Prop} {E : xm_E} {sc : List xv_V} {s U : State} {H : Heap} {locs : List Loc} (h : xf_E A E sc s) (hS : va_S A s.heap H locs) (hU : U.heap = H) (hW : s.WarmedH U.vm) : xf_E A E sc U := by
  obtain ⟨h1, h2, h3, h4, xs, N, x1, x2, x3, x4, x5⟩ := h
  subst hU
  have hal := hW.alike
  refine ⟨(h1.kept hS.2.1).moved hal, (h2.kept hS.2.1).moved hal, (h3.kept hS.2.1).moved hal, (h4.kept hS.2.1).moved hal, xs, N, (x1.kept (hS.2.1 _ x2 x3)).moved hal, Nat.lt_of_lt_of_le x2 hS.1, x3, x4, x5⟩
theorem xw_P_blind {E : xm_E} {D : va_G} {A : Nat → Prop} {sc : List xv_V} {ws : va_W} {tys : xm_T} {as : List xv_V} {h : List xv_O} : FrameBlind (xw_P E D A sc ws tys as h) := fun _ _ _ _ h => h
/-- splitting -/
theorem xf_2_split {α β : Type} {R : α → β → Prop} : ∀ {a b : List α} {l : List β}, xf_2 R (a ++ b) l → ∃ l1 l2, l = l1 ++ l2 ∧ xf_2 R a l1 ∧ xf_2 R b l2
  | [], _, l, h => ⟨[], l, rfl, trivial, h⟩
  | _ :: a, b, l, h => by
    obtain ⟨y, l', rfl, h1, h2⟩ := xf_2_cons h
    obtain ⟨l1, l2, rfl, h3, h4⟩ := xf_2_split h2
    exact ⟨y :: l1, l2, rfl, ⟨h1, h3⟩, h4⟩
theorem xf_2_rev {α β : Type} {R : α → β → Prop} : ∀ {a : List α} {l : List β}, xf_2 R a l → xf_2 R a.reverse l.reverse
  | [], [], _ => trivial
  | x :: a, y :: l, h => by
    rw [List.reverse_cons, List.reverse_cons]
    exact xf_2_app (xf_2_rev h.2) ⟨h.1, trivial⟩
  | [], _ :: _, h => h.elim
  | _ :: _, [], h => h.elim
theorem xe_take {β : Type} : ∀ (n : Nat) {S acc : List xv_V} {k : List xv_V → List xv_V → Option β} {r : β}, xq_take n S acc k = some r → ∃ as S', as.length = n ∧ S = as.reverse ++ S' ∧ k (as ++ acc) S' = some r
  | 0, S, acc, k, r, h => ⟨[], S, rfl, rfl, h⟩
  | n + 1, S, acc, k, r, h => by
    obtain ⟨v, S1, rfl, h1⟩ := xe_pop (show xq_pop S (fun v S => xq_take n S (v :: acc) k) = some r from h)
    obtain ⟨as, S', h2, rfl, h3⟩ := xe_take n h1
    exact ⟨as ++ [v], S', by simp [h2], by simp, by simpa using h3⟩
section XRun
variable {p : Program} {l : Launch} {e : Env} {R : Room} {s : State} {m : MethodId} {args : Array Value} {below : List Frame} {meth : Method} {c : Code} {Q : State → Prop} {A : Nat → Prop} {E : xm_E} {D : va_G} {ws : va_W} {r0 : xv_R} {H : Heap} {locs : List Loc} {nc ns pc : Nat} {ls : Array Slot} {st0 rest : List Value} {aa : Array Value}
/-- behind a call, by its outcome -/
theorem xa_run (hr : vx_Run p l e R s m args below meth c H locs nc ns r0.2.2.2.1 r0.2.2.2.2 (F0 m pc ls st0) rest (xw_Q E D A ws r0 aa) (xw_X E D A ws r0) A) (hS : va_S A s.heap H locs)
    (kk : ∀ (v : Option Value) (ws' : va_W) (tys' : xm_T) (H1 : Heap) (locs1 : List Loc), ((r0.1 = 0 ∧ v = none) ∨ (r0.1 = 1 ∧ ∃ x, v = some x ∧ xm_V E ws' r0.2.1 x)) → xm_le ws ws' → xf_2 (xm_O E ws' tys') r0.2.2.1 ws' → va_K D vwCl tys' s → va_P D vwCl ws' H1 → va_D A ws' → va_S A s.heap H1 locs1 → W p l e R s m args below meth c H1 locs1 (nc + r0.2.2.2.1) (ns + r0.2.2.2.2) Q (F0 m (pc + 3) ls (v.toList ++ rest)))
    (kx : ∀ (k : Nat) (q : Addr) (ce : Cell) (ws' : va_W) (tys' : xm_T) (H1 : Heap) (locs1 : List Loc), r0.1 = 2 + k → k < 3 → H1[q]? = some ce → ce.vm = .none → s.vm.findClass (xg_EX k) = some ce.cls → xm_le ws ws' → xf_2 (xm_O E ws' tys') r0.2.2.1 ws' → va_K D vwCl tys' s → va_P D vwCl ws' H1 → va_D A ws' → va_S A s.heap H1 locs1 → vx_W p l e R s m args below meth c H1 locs1 (nc + r0.2.2.2.1) (ns + r0.2.2.2.2) Q (F0 m pc ls rest) q) :
    W p l e R s m args below meth c H locs nc ns Q (F0 m pc ls st0) := by
  intro T hT X
  rcases hr T hT X with ⟨v, st₀, t, T', L, h0, X', hL, e1, e2, ⟨v', ws', tys', hv, hv2, w1, w2, w3, w4, w5, hF⟩, st⟩ | ⟨q, st₀, t, T', L, Ex, ce, h0, X', hL, e1, e2, ⟨k, ws', tys', g1, g2, g3, w1, w2, w3, w4, w5, hF⟩, hce, hcv, hcl, st⟩
  · cases hv
    obtain ⟨k1, k2, k3⟩ := vx_keep h0 e1 hS (fun _ _ h => h) (fun _ h => h) hL hF
    have hal : t.vm.Alike s.vm := by rw [← e2]; exact X'.warmed.alike.symm
    obtain ⟨t2, a1, b1⟩ := kk v ws' tys' T'.heap (locs ++ L) hv2 w1 w2 (w3.moved hal) (by rw [e1]; exact w4) w5 k3 T' rfl X'
    exact ⟨t2, st t2 a1, b1⟩
  · subst g3
    obtain ⟨k1, k2, k3⟩ := vx_keep h0 e1 hS (fun _ _ h => h) (fun _ h => h) hL hF
    have hal : t.vm.Alike s.vm := by rw [← e2]; exact X'.warmed.alike.symm
    obtain ⟨t2, a1, b1⟩ := kx k q ce ws' tys' T'.heap (locs ++ L) g1 g2 (by rw [e1]; exact hce) hcv hcl w1 w2 (w3.moved hal) (by rw [e1]; exact w4) w5 k3 T' rfl X'
    exact ⟨t2, st.trans a1, b1⟩
theorem xa_run5 (hr : vx_Run5 p l e R s m args below meth c H locs nc ns r0.2.2.2.1 r0.2.2.2.2 (F0 m pc ls st0) rest (xw_Q E D A ws r0 aa) (xw_X E D A ws r0) A) (hS : va_S A s.heap H locs)
    (kk : ∀ (v : Option Value) (ws' : va_W) (tys' : xm_T) (H1 : Heap) (locs1 : List Loc), ((r0.1 = 0 ∧ v = none) ∨ (r0.1 = 1 ∧ ∃ x, v = some x ∧ xm_V E ws' r0.2.1 x)) → xm_le ws ws' → xf_2 (xm_O E ws' tys') r0.2.2.1 ws' → va_K D vwCl tys' s → va_P D vwCl ws' H1 → va_D A ws' → va_S A s.heap H1 locs1 → W p l e R s m args below meth c H1 locs1 (nc + r0.2.2.2.1) (ns + r0.2.2.2.2) Q (F0 m (pc + 5) ls (v.toList ++ rest)))
    (kx : ∀ (k : Nat) (q : Addr) (ce : Cell) (ws' : va_W) (tys' : xm_T) (H1 : Heap) (locs1 : List Loc), r0.1 = 2 + k → k < 3 → H1[q]? = some ce → ce.vm = .none → s.vm.findClass (xg_EX k) = some ce.cls → xm_le ws ws' → xf_2 (xm_O E ws' tys') r0.2.2.1 ws' → va_K D vwCl tys' s → va_P D vwCl ws' H1 → va_D A ws' → va_S A s.heap H1 locs1 → vx_W p l e R s m args below meth c H1 locs1 (nc + r0.2.2.2.1) (ns + r0.2.2.2.2) Q (F0 m pc ls rest) q) :
    W p l e R s m args below meth c H locs nc ns Q (F0 m pc ls st0) := by
  intro T hT X
  rcases hr T hT X with ⟨v, st₀, t, T', L, h0, X', hL, e1, e2, ⟨v', ws', tys', hv, hv2, w1, w2, w3, w4, w5, hF⟩, st⟩ | ⟨q, st₀, t, T', L, Ex, ce, h0, X', hL, e1, e2, ⟨k, ws', tys', g1, g2, g3, w1, w2, w3, w4, w5, hF⟩, hce, hcv, hcl, st⟩
  · cases hv
    obtain ⟨k1, k2, k3⟩ := vx_keep h0 e1 hS (fun _ _ h => h) (fun _ h => h) hL hF
    have hal : t.vm.Alike s.vm := by rw [← e2]; exact X'.warmed.alike.symm
    obtain ⟨t2, a1, b1⟩ := kk v ws' tys' T'.heap (locs ++ L) hv2 w1 w2 (w3.moved hal) (by rw [e1]; exact w4) w5 k3 T' rfl X'
    exact ⟨t2, st t2 a1, b1⟩
  · subst g3
    obtain ⟨k1, k2, k3⟩ := vx_keep h0 e1 hS (fun _ _ h => h) (fun _ h => h) hL hF
    have hal : t.vm.Alike s.vm := by rw [← e2]; exact X'.warmed.alike.symm
    obtain ⟨t2, a1, b1⟩ := kx k q ce ws' tys' T'.heap (locs ++ L) g1 g2 (by rw [e1]; exact hce) hcv hcl w1 w2 (w3.moved hal) (by rw [e1]; exact w4) w5 k3 T' rfl X'
    exact ⟨t2, st.trans a1, b1⟩
end XRun
end
section
/-! words by their places; what an instruction asks of the tables -/
theorem xw_in (i : Nat) {w : Cond} (h : lw_tbl[i]? = some w) (hg : (goodWord w || xw_nest w) = true) : w ∈ xw_B := List.mem_filter.mpr ⟨List.mem_of_getElem? h, hg⟩
theorem xw_p (ws : List Cond) (ps : List Nat) (hp : ws = ps.filterMap (fun i => lw_tbl[i]?)) (hg : ws.all (fun w => goodWord w || xw_nest w) = true) : ∀ w ∈ ws, w ∈ xw_B := by
  intro w hw
  have h1 := List.all_eq_true.mp hg w hw
  rw [hp] at hw
  obtain ⟨i, -, hi⟩ := List.mem_filterMap.mp hw
  exact xw_in i hi h1
/-- how a field begins -/
def xq_df (ty : FieldType) (v : xv_V) : Bool := match ty with
  | .long => and (Nat.beq v.1 3) (Nat.beq v.2.1 9223372036854775808)
  | .double => and (Nat.beq v.1 4) (Nat.beq v.2.1 0)
  | .object _ => Nat.beq v.1 2
  | .array _ => Nat.beq v.1 2
  | .float => false
  | _ => and (Nat.beq v.1 0) (and (Nat.beq v.2.1 2147483648) (Nat.beq v.2.2 2147483648))
def xq_dfs (ty : Nat → FieldType) (N x : Nat) : Bool := match xg_FD[x]? with
  | some fs => and (Nat.beq fs.length N) ((List.range N).all fun j => match fs[j]? with
    | some v => xq_df (ty j) v
    | none => false)
  | none => false
def xs_new (own : String) (w x : Nat) : Prop := ∃ (C : String) (T : u_T) (N : Nat) (ty : Nat → FieldType), vwCl[x]? = some (C, T, N) ∧ (∀ k, k < N → parseFieldDescriptor (T k).2.2.1 = some (ty k)) ∧ Cond.classLink own w C ∈ xw_B ∧ Cond.instantiable C N ∈ xw_B ∧ Cond.initialized C ∈ xw_B ∧ (∀ x ∈ u_ws C T N, x ∈ xw_B) ∧ xq_dfs ty N x = true
def xs_nwa (x : Nat) : Prop := (x = 0 ∧ Cond.arrayClass .int ∈ xw_B) ∨ (x = 5 ∧ Cond.arrayClass .long ∈ xw_B)
def xs_nwq (own : String) (w x : Nat) : Prop := 1 ≤ x ∧ x ≤ 4 ∧ ∃ C : String, xg_TY x = .object C ∧ Cond.classLink own w C ∈ xw_B ∧ Cond.arrayOver (.object C) ∈ xw_B
def xs_thr (own : String) (w x y z : Nat) : Prop := x < 3 ∧ Cond.classLink own w (xg_EX x) ∈ xw_B ∧ Cond.initialized (xg_EX x) ∈ xw_B ∧ (∃ tx : String, (own, y, tx) ∈ xg_ST) ∧ Cond.methodLink own z (Bundle.initS (xg_EX x)) ∈ xw_B
def xs_cl (k n : Nat) : Prop := xg_CW k ∈ xw_B ∧ Cond.initialized (xg_Y k).cls ∈ xw_B ∧ ((xg_Y k).cls ≠ "java/lang/invoke/MethodHandle" ∧ (xg_Y k).cls ≠ "java/lang/invoke/VarHandle") ∧ (parseMethodDescriptor (xg_Y k).desc).map (fun d => d.parameters.length) = some n ∧ xg_ML k ≤ 45
def xs_c96 (own : String) (w k n : Nat) : Prop := xs_cl k n ∧ Cond.methodLink own w (xg_Y k) ∈ xw_B ∧ Cond.static (xg_Y k) ∈ xw_B
def xs_c97 (own : String) (w k n : Nat) : Prop := xs_cl k n ∧ xg_WH k = false ∧ ∃ host : String, Cond.methodLinkNest own w (xg_Y k) host ∈ xw_B ∧ Cond.static (xg_Y k) ∈ xw_B
def xs_c98 (own : String) (w k n : Nat) : Prop := xs_cl k n ∧ xg_WH k = false ∧ xg_RT k = none ∧ (xg_Y k).name = "<init>" ∧ Cond.methodLink own w (xg_Y k) ∈ xw_B ∧ Cond.instanceMethod (xg_Y k) ∈ xw_B
def xs_c99 (own : String) (w k n : Nat) : Prop := xs_cl k n ∧ xg_WH k = false ∧ xg_RT k = none ∧ (xg_Y k).name = "<init>" ∧ ∃ host : String, Cond.methodLinkNest own w (xg_Y k) host ∈ xw_B ∧ Cond.instanceMethod (xg_Y k) ∈ xw_B
def xs_c100 (own : String) (w k n z : Nat) : Prop := xs_cl k n ∧ xg_WH k = false ∧ Cond.methodLink own w (xg_Y k) ∈ xw_B ∧ Cond.instanceMethod (xg_Y k) ∈ xw_B ∧ ∃ r : vw_C, vwCl[z]? = some r ∧ Cond.selects r.1 (xg_Y k) (xg_Y k) ∈ xw_B
def xs_c101 (own : String) (w k n z : Nat) : Prop := xg_CW k ∈ xw_B ∧ Cond.initialized (xg_Y k).cls ∈ xw_B ∧ xg_WH k = false ∧ xg_ML k ≤ 45 ∧ ∃ (x0 : MethodName) (r : vw_C), (x0.cls ≠ "java/lang/invoke/MethodHandle" ∧ x0.cls ≠ "java/lang/invoke/VarHandle") ∧ (parseMethodDescriptor x0.desc).map (fun d => d.parameters.length) = some n ∧ vwCl[z]? = some r ∧
  Cond.methodLink own w x0 ∈ xw_B ∧ Cond.declares x0 ∈ xw_B ∧ Cond.interfaceMethod x0.cls x0.cls x0.name x0.desc ∈ xw_B ∧ Cond.selects r.1 x0 (xg_Y k) ∈ xw_B ∧ Cond.instanceMethod (xg_Y k) ∈ xw_B ∧ Cond.publicMethod (xg_Y k) ∈ xw_B ∧ Cond.unhidden r.1 x0.name x0.desc ∈ xw_B ∧ Cond.castable r.1 x0.cls ∈ xw_B
def xi_site (own : String) (t : Nat × Nat × Nat × Nat × Nat) : Prop := match t with
  | (op, x, y, z, w) => match op with
    | 3 => ∃ v : Int64, xbl v = x ∧ Cond.constantLong own w v ∈ xw_B
    | 38 => xs_fget own w x y
    | 39 => xs_fgetN own w x y
    | 40 => xs_fput own false w x y z
    | 41 => xs_fput own true w x y z
    | 49 => xs_cst own w x y
    | 50 => xs_gst own w x
    | 51 => xs_obi own w
    | 52 => xs_mmx own w
    | 56 => xs_new own w x
    | 57 => xs_nwa x
    | 58 => xs_nwq own w x
    | 90 => xs_thr own w x y z
    | 91 => xs_thr own w x y z
    | 96 => xs_c96 own w x y
    | 97 => xs_c97 own w x y
    | 98 => xs_c98 own w x y
    | 99 => xs_c99 own w x y
    | 100 => xs_c100 own w x y z
    | 101 => xs_c101 own w x y z
    | _ => True
def xi_need (op : Nat) : Bool := or (Nat.beq op 3) (or (and (Nat.ble 38 op) (Nat.ble op 41)) (or (and (Nat.ble 49 op) (Nat.ble op 52)) (or (and (Nat.ble 56 op) (Nat.ble op 58)) (and (Nat.ble 90 op) (Nat.ble op 101)))))
/-- the words of a throw -/
def xt_nm : List String := ["java/lang/RuntimeException", "java/lang/Exception"]
def xt_pre (X : String) : List Cond := Bundle.throwableAtoms ++ Bundle.throwableSAtoms ++ Bundle.chainSAtoms X xt_nm
def xt_tail (X : String) : List Cond := (Bundle.ownAtoms "" 0 X xt_nm).drop ((xt_pre X).length + 1)
theorem xt_split (own : String) (ic : Nat) (X : String) : Bundle.ownAtoms own ic X xt_nm = xt_pre X ++ (.methodLink own ic (Bundle.initS X) :: xt_tail X) := rfl
def xw_mid : List Cond := (lw_tbl.drop 150).take 50 ++ (lw_tbl.drop 1140).take 130
def xt_chk (X : String) : Bool := ((xt_pre X ++ xt_tail X).filter vx_no).all fun w => xw_mid.any (fun v => decide (v = w)) && ((goodWord w || xw_nest w) && vx_ot w)
theorem xt_ok : ∀ x, x < 3 → xt_chk (xg_EX x) = true := by decide +kernel
theorem xt_all {own : String} {ic x : Nat} (hx : x < 3) (hl : Cond.methodLink own ic (Bundle.initS (xg_EX x)) ∈ xw_B) : ∀ w ∈ vx_atS own ic (xg_EX x) xt_nm, w ∈ xw_B ∧ vx_ot w = true := by
  intro w hw
  obtain ⟨h1, h2⟩ := List.mem_filter.mp hw
  rw [xt_split] at h1
  have h3 : w = .methodLink own ic (Bundle.initS (xg_EX x)) ∨ w ∈ xt_pre (xg_EX x) ++ xt_tail (xg_EX x) := by
    rcases List.mem_append.mp h1 with h | h
    · exact Or.inr (List.mem_append_left _ h)
    · rcases List.mem_cons.mp h with h | h
      · exact Or.inl h
      · exact Or.inr (List.mem_append_right _ h)
  rcases h3 with rfl | h3
  · exact ⟨hl, rfl⟩
  · have h4 := List.all_eq_true.mp (xt_ok x hx) w (List.mem_filter.mpr ⟨h3, h2⟩)
    obtain ⟨h5, h6⟩ := xe_and (a := xw_mid.any (fun v => decide (v = w))) (b := ((goodWord w || xw_nest w) && vx_ot w)) h4
    obtain ⟨h7, h8⟩ := xe_and (a := (goodWord w || xw_nest w)) (b := vx_ot w) h6
    obtain ⟨v, hv, he⟩ := List.any_eq_true.mp h5
    have he := of_decide_eq_true he
    subst he
    refine ⟨List.mem_filter.mpr ⟨?_, h7⟩, h8⟩
    rcases List.mem_append.mp hv with hv | hv <;> exact List.mem_of_mem_drop (List.mem_of_mem_take hv)
end
section
/-! words by their lists -/
theorem xw_t1 (i : Nat) {w : Cond} (h : tables_1_1[i]? = some w) (hg : (goodWord w || xw_nest w) = true) : w ∈ xw_B := List.mem_filter.mpr ⟨List.mem_append_right _ (List.mem_append_left _ (List.mem_of_getElem? h)), hg⟩
theorem xw_t2 (i : Nat) {w : Cond} (h : tables_1_2[i]? = some w) (hg : (goodWord w || xw_nest w) = true) : w ∈ xw_B := List.mem_filter.mpr ⟨List.mem_append_right _ (List.mem_append_right _ (List.mem_append_left _ (List.mem_of_getElem? h))), hg⟩
theorem xw_t3 (i : Nat) {w : Cond} (h : tables_1_3[i]? = some w) (hg : (goodWord w || xw_nest w) = true) : w ∈ xw_B := List.mem_filter.mpr ⟨List.mem_append_right _ (List.mem_append_right _ (List.mem_append_right _ (List.mem_append_left _ (List.mem_of_getElem? h)))), hg⟩
theorem xw_t4 (i : Nat) {w : Cond} (h : tables_1_4[i]? = some w) (hg : (goodWord w || xw_nest w) = true) : w ∈ xw_B := List.mem_filter.mpr ⟨List.mem_append_right _ (List.mem_append_right _ (List.mem_append_right _ (List.mem_append_right _ (List.mem_append_left _ (List.mem_of_getElem? h))))), hg⟩
theorem xw_t5 (i : Nat) {w : Cond} (h : tables_1_5[i]? = some w) (hg : (goodWord w || xw_nest w) = true) : w ∈ xw_B := List.mem_filter.mpr ⟨List.mem_append_right _ (List.mem_append_right _ (List.mem_append_right _ (List.mem_append_right _ (List.mem_append_right _ (List.mem_append_left _ (List.mem_of_getElem? h)))))), hg⟩
theorem xw_t6 (i : Nat) {w : Cond} (h : tables_1_6[i]? = some w) (hg : (goodWord w || xw_nest w) = true) : w ∈ xw_B := List.mem_filter.mpr ⟨List.mem_append_right _ (List.mem_append_right _ (List.mem_append_right _ (List.mem_append_right _ (List.mem_append_right _ (List.mem_append_right _ (List.mem_append_left _ (List.mem_of_getElem? h))))))), hg⟩
theorem xw_t7 (i : Nat) {w : Cond} (h : tables_1_7[i]? = some w) (hg : (goodWord w || xw_nest w) = true) : w ∈ xw_B := List.mem_filter.mpr ⟨List.mem_append_right _ (List.mem_append_right _ (List.mem_append_right _ (List.mem_append_right _ (List.mem_append_right _ (List.mem_append_right _ (List.mem_append_right _ (List.mem_append_left _ (List.mem_of_getElem? h)))))))), hg⟩
theorem xw_t8 (i : Nat) {w : Cond} (h : tables_1_8[i]? = some w) (hg : (goodWord w || xw_nest w) = true) : w ∈ xw_B := List.mem_filter.mpr ⟨List.mem_append_right _ (List.mem_append_right _ (List.mem_append_right _ (List.mem_append_right _ (List.mem_append_right _ (List.mem_append_right _ (List.mem_append_right _ (List.mem_append_right _ (List.mem_append_left _ (List.mem_of_getElem? h))))))))), hg⟩
theorem xw_t9 (i : Nat) {w : Cond} (h : tables_1_9[i]? = some w) (hg : (goodWord w || xw_nest w) = true) : w ∈ xw_B := List.mem_filter.mpr ⟨List.mem_append_right _ (List.mem_append_right _ (List.mem_append_right _ (List.mem_append_right _ (List.mem_append_right _ (List.mem_append_right _ (List.mem_append_right _ (List.mem_append_right _ (List.mem_append_right _ (List.mem_append_left _ (List.mem_of_getElem? h)))))))))), hg⟩
theorem xw_t10 (i : Nat) {w : Cond} (h : tables_1_10[i]? = some w) (hg : (goodWord w || xw_nest w) = true) : w ∈ xw_B := List.mem_filter.mpr ⟨List.mem_append_right _ (List.mem_append_right _ (List.mem_append_right _ (List.mem_append_right _ (List.mem_append_right _ (List.mem_append_right _ (List.mem_append_right _ (List.mem_append_right _ (List.mem_append_right _ (List.mem_append_right _ (List.mem_append_left _ (List.mem_of_getElem? h))))))))))), hg⟩
theorem xw_t11 (i : Nat) {w : Cond} (h : tables_1_11[i]? = some w) (hg : (goodWord w || xw_nest w) = true) : w ∈ xw_B := List.mem_filter.mpr ⟨List.mem_append_right _ (List.mem_append_right _ (List.mem_append_right _ (List.mem_append_right _ (List.mem_append_right _ (List.mem_append_right _ (List.mem_append_right _ (List.mem_append_right _ (List.mem_append_right _ (List.mem_append_right _ (List.mem_append_right _ (List.mem_append_left _ (List.mem_of_getElem? h)))))))))))), hg⟩
theorem xw_t12 (i : Nat) {w : Cond} (h : tables_1_12[i]? = some w) (hg : (goodWord w || xw_nest w) = true) : w ∈ xw_B := List.mem_filter.mpr ⟨List.mem_append_right _ (List.mem_append_right _ (List.mem_append_right _ (List.mem_append_right _ (List.mem_append_right _ (List.mem_append_right _ (List.mem_append_right _ (List.mem_append_right _ (List.mem_append_right _ (List.mem_append_right _ (List.mem_append_right _ (List.mem_append_right _ (List.mem_of_getElem? h)))))))))))), hg⟩
theorem xw_sl (i : Nat) {w : Cond} (h : (k2_sels lw_privs)[i]? = some w) (hg : (goodWord w || xw_nest w) = true) : w ∈ xw_B := List.mem_filter.mpr ⟨List.mem_append_left _ (List.mem_of_getElem? h), hg⟩
theorem xs_elsT : xs_els := by
  refine ⟨xw_t12 79 (by decide +kernel) (by decide +kernel), ?_, ⟨_, rfl, rfl⟩, ⟨_, rfl, rfl⟩, ⟨_, rfl, rfl⟩⟩
  intro c2 h1 h2
  rcases (show c2 = 17 ∨ c2 = 18 ∨ c2 = 19 by omega) with rfl | rfl | rfl
  · exact ⟨_, rfl, xw_t12 61 (by decide +kernel) (by decide +kernel)⟩
  · exact ⟨_, rfl, xw_t12 72 (by decide +kernel) (by decide +kernel)⟩
  · exact ⟨_, rfl, xw_t12 62 (by decide +kernel) (by decide +kernel)⟩
/-- a thrown class can be cast to itself -/
theorem xg_cast : ∀ k, k < 3 → Cond.castable (xg_EX k) (xg_EX k) ∈ xw_B := by
  intro k hk
  rcases (show k = 0 ∨ k = 1 ∨ k = 2 by omega) with rfl | rfl | rfl
  · exact xw_t5 61 (by decide +kernel) (by decide +kernel)
  · exact xw_t5 158 (by decide +kernel) (by decide +kernel)
  · exact xw_t5 129 (by decide +kernel) (by decide +kernel)
end
section
/-! sites -/
theorem xu_0 : ∀ x ∈ u_ws RJ0 TJ0 4, x ∈ xw_B := List.forall_mem_cons.mpr ⟨xw_t9 192 (by decide +kernel) (by decide +kernel), List.forall_mem_cons.mpr ⟨xw_t9 194 (by decide +kernel) (by decide +kernel), List.forall_mem_cons.mpr ⟨xw_t9 196 (by decide +kernel) (by decide +kernel), List.forall_mem_cons.mpr ⟨xw_t9 198 (by decide +kernel) (by decide +kernel), fun _ h => nomatch h⟩⟩⟩⟩
theorem xu_1 : ∀ x ∈ u_ws RJ4 TJ4 4, x ∈ xw_B := List.forall_mem_cons.mpr ⟨xw_t8 235 (by decide +kernel) (by decide +kernel), List.forall_mem_cons.mpr ⟨xw_t8 237 (by decide +kernel) (by decide +kernel), List.forall_mem_cons.mpr ⟨xw_t8 239 (by decide +kernel) (by decide +kernel), List.forall_mem_cons.mpr ⟨xw_t9 1 (by decide +kernel) (by decide +kernel), fun _ h => nomatch h⟩⟩⟩⟩
theorem xu_2 : ∀ x ∈ u_ws RJ6 TJ6 1, x ∈ xw_B := List.forall_mem_cons.mpr ⟨xw_t8 100 (by decide +kernel) (by decide +kernel), fun _ h => nomatch h⟩
theorem xu_3 : ∀ x ∈ u_ws RJx35411 TJx35411 4, x ∈ xw_B := List.forall_mem_cons.mpr ⟨xw_t7 202 (by decide +kernel) (by decide +kernel), List.forall_mem_cons.mpr ⟨xw_t7 204 (by decide +kernel) (by decide +kernel), List.forall_mem_cons.mpr ⟨xw_t7 206 (by decide +kernel) (by decide +kernel), List.forall_mem_cons.mpr ⟨xw_t7 208 (by decide +kernel) (by decide +kernel), fun _ h => nomatch h⟩⟩⟩⟩
theorem xu_4 : ∀ x ∈ u_ws RJxc9f04 TJxc9f04 5, x ∈ xw_B := List.forall_mem_cons.mpr ⟨xw_t9 226 (by decide +kernel) (by decide +kernel), List.forall_mem_cons.mpr ⟨xw_t9 218 (by decide +kernel) (by decide +kernel), List.forall_mem_cons.mpr ⟨xw_t9 220 (by decide +kernel) (by decide +kernel), List.forall_mem_cons.mpr ⟨xw_t9 222 (by decide +kernel) (by decide +kernel), List.forall_mem_cons.mpr ⟨xw_t9 224 (by decide +kernel) (by decide +kernel), fun _ h => nomatch h⟩⟩⟩⟩⟩
theorem xu_5 : ∀ x ∈ u_ws RJx4a65c TJx4a65c 3, x ∈ xw_B := List.forall_mem_cons.mpr ⟨xw_t6 217 (by decide +kernel) (by decide +kernel), List.forall_mem_cons.mpr ⟨xw_t6 213 (by decide +kernel) (by decide +kernel), List.forall_mem_cons.mpr ⟨xw_t6 215 (by decide +kernel) (by decide +kernel), fun _ h => nomatch h⟩⟩⟩
theorem xu_6 : ∀ x ∈ u_ws RX0 TX0 13, x ∈ xw_B := List.forall_mem_cons.mpr ⟨xw_t1 230 (by decide +kernel) (by decide +kernel), List.forall_mem_cons.mpr ⟨xw_t1 232 (by decide +kernel) (by decide +kernel), List.forall_mem_cons.mpr ⟨xw_t1 234 (by decide +kernel) (by decide +kernel), List.forall_mem_cons.mpr ⟨xw_t1 236 (by decide +kernel) (by decide +kernel), List.forall_mem_cons.mpr ⟨xw_t1 238 (by decide +kernel) (by decide +kernel), List.forall_mem_cons.mpr ⟨xw_t2 0 (by decide +kernel) (by decide +kernel), List.forall_mem_cons.mpr ⟨xw_t2 2 (by decide +kernel) (by decide +kernel), List.forall_mem_cons.mpr ⟨xw_t2 4 (by decide +kernel) (by decide +kernel), List.forall_mem_cons.mpr ⟨xw_t2 6 (by decide +kernel) (by decide +kernel), List.forall_mem_cons.mpr ⟨xw_t2 8 (by decide +kernel) (by decide +kernel), List.forall_mem_cons.mpr ⟨xw_t2 10 (by decide +kernel) (by decide +kernel), List.forall_mem_cons.mpr ⟨xw_t2 12 (by decide +kernel) (by decide +kernel), List.forall_mem_cons.mpr ⟨xw_t2 14 (by decide +kernel) (by decide +kernel), fun _ h => nomatch h⟩⟩⟩⟩⟩⟩⟩⟩⟩⟩⟩⟩⟩
theorem xu_7 : ∀ x ∈ u_ws RX1 TX1 15, x ∈ xw_B := List.forall_mem_cons.mpr ⟨xw_t2 70 (by decide +kernel) (by decide +kernel), List.forall_mem_cons.mpr ⟨xw_t2 72 (by decide +kernel) (by decide +kernel), List.forall_mem_cons.mpr ⟨xw_t2 74 (by decide +kernel) (by decide +kernel), List.forall_mem_cons.mpr ⟨xw_t2 76 (by decide +kernel) (by decide +kernel), List.forall_mem_cons.mpr ⟨xw_t2 78 (by decide +kernel) (by decide +kernel), List.forall_mem_cons.mpr ⟨xw_t2 80 (by decide +kernel) (by decide +kernel), List.forall_mem_cons.mpr ⟨xw_t2 82 (by decide +kernel) (by decide +kernel), List.forall_mem_cons.mpr ⟨xw_t2 84 (by decide +kernel) (by decide +kernel), List.forall_mem_cons.mpr ⟨xw_t2 86 (by decide +kernel) (by decide +kernel), List.forall_mem_cons.mpr ⟨xw_t2 88 (by decide +kernel) (by decide +kernel), List.forall_mem_cons.mpr ⟨xw_t2 90 (by decide +kernel) (by decide +kernel), List.forall_mem_cons.mpr ⟨xw_t2 92 (by decide +kernel) (by decide +kernel), List.forall_mem_cons.mpr ⟨xw_t2 94 (by decide +kernel) (by decide +kernel), List.forall_mem_cons.mpr ⟨xw_t2 96 (by decide +kernel) (by decide +kernel), List.forall_mem_cons.mpr ⟨xw_t2 98 (by decide +kernel) (by decide +kernel), fun _ h => nomatch h⟩⟩⟩⟩⟩⟩⟩⟩⟩⟩⟩⟩⟩⟩⟩
theorem xu_8 : ∀ x ∈ u_ws RX2 TX2 5, x ∈ xw_B := List.forall_mem_cons.mpr ⟨xw_t1 165 (by decide +kernel) (by decide +kernel), List.forall_mem_cons.mpr ⟨xw_t1 167 (by decide +kernel) (by decide +kernel), List.forall_mem_cons.mpr ⟨xw_t1 169 (by decide +kernel) (by decide +kernel), List.forall_mem_cons.mpr ⟨xw_t1 171 (by decide +kernel) (by decide +kernel), List.forall_mem_cons.mpr ⟨xw_t1 173 (by decide +kernel) (by decide +kernel), fun _ h => nomatch h⟩⟩⟩⟩⟩
theorem xu_9 : ∀ x ∈ u_ws RX3 TX3 6, x ∈ xw_B := List.forall_mem_cons.mpr ⟨xw_t2 177 (by decide +kernel) (by decide +kernel), List.forall_mem_cons.mpr ⟨xw_t2 179 (by decide +kernel) (by decide +kernel), List.forall_mem_cons.mpr ⟨xw_t2 181 (by decide +kernel) (by decide +kernel), List.forall_mem_cons.mpr ⟨xw_t2 183 (by decide +kernel) (by decide +kernel), List.forall_mem_cons.mpr ⟨xw_t2 185 (by decide +kernel) (by decide +kernel), List.forall_mem_cons.mpr ⟨xw_t2 187 (by decide +kernel) (by decide +kernel), fun _ h => nomatch h⟩⟩⟩⟩⟩⟩
theorem xu_10 : ∀ x ∈ u_ws RX4 TX4 18, x ∈ xw_B := List.forall_mem_cons.mpr ⟨xw_t2 215 (by decide +kernel) (by decide +kernel), List.forall_mem_cons.mpr ⟨xw_t2 217 (by decide +kernel) (by decide +kernel), List.forall_mem_cons.mpr ⟨xw_t2 219 (by decide +kernel) (by decide +kernel), List.forall_mem_cons.mpr ⟨xw_t2 221 (by decide +kernel) (by decide +kernel), List.forall_mem_cons.mpr ⟨xw_t2 223 (by decide +kernel) (by decide +kernel), List.forall_mem_cons.mpr ⟨xw_t2 225 (by decide +kernel) (by decide +kernel), List.forall_mem_cons.mpr ⟨xw_t2 227 (by decide +kernel) (by decide +kernel), List.forall_mem_cons.mpr ⟨xw_t2 229 (by decide +kernel) (by decide +kernel), List.forall_mem_cons.mpr ⟨xw_t2 231 (by decide +kernel) (by decide +kernel), List.forall_mem_cons.mpr ⟨xw_t2 233 (by decide +kernel) (by decide +kernel), List.forall_mem_cons.mpr ⟨xw_t2 235 (by decide +kernel) (by decide +kernel), List.forall_mem_cons.mpr ⟨xw_t2 237 (by decide +kernel) (by decide +kernel), List.forall_mem_cons.mpr ⟨xw_t2 239 (by decide +kernel) (by decide +kernel), List.forall_mem_cons.mpr ⟨xw_t3 1 (by decide +kernel) (by decide +kernel), List.forall_mem_cons.mpr ⟨xw_t3 3 (by decide +kernel) (by decide +kernel), List.forall_mem_cons.mpr ⟨xw_t3 5 (by decide +kernel) (by decide +kernel), List.forall_mem_cons.mpr ⟨xw_t3 7 (by decide +kernel) (by decide +kernel), List.forall_mem_cons.mpr ⟨xw_t3 9 (by decide +kernel) (by decide +kernel), fun _ h => nomatch h⟩⟩⟩⟩⟩⟩⟩⟩⟩⟩⟩⟩⟩⟩⟩⟩⟩⟩
theorem xu_11 : ∀ x ∈ u_ws RX5 TX5 6, x ∈ xw_B := List.forall_mem_cons.mpr ⟨xw_t2 42 (by decide +kernel) (by decide +kernel), List.forall_mem_cons.mpr ⟨xw_t2 44 (by decide +kernel) (by decide +kernel), List.forall_mem_cons.mpr ⟨xw_t2 46 (by decide +kernel) (by decide +kernel), List.forall_mem_cons.mpr ⟨xw_t2 48 (by decide +kernel) (by decide +kernel), List.forall_mem_cons.mpr ⟨xw_t2 50 (by decide +kernel) (by decide +kernel), List.forall_mem_cons.mpr ⟨xw_t2 52 (by decide +kernel) (by decide +kernel), fun _ h => nomatch h⟩⟩⟩⟩⟩⟩
theorem xu_12 : ∀ x ∈ u_ws RX6 TX6 19, x ∈ xw_B := List.forall_mem_cons.mpr ⟨xw_t1 113 (by decide +kernel) (by decide +kernel), List.forall_mem_cons.mpr ⟨xw_t1 115 (by decide +kernel) (by decide +kernel), List.forall_mem_cons.mpr ⟨xw_t1 117 (by decide +kernel) (by decide +kernel), List.forall_mem_cons.mpr ⟨xw_t1 119 (by decide +kernel) (by decide +kernel), List.forall_mem_cons.mpr ⟨xw_t1 121 (by decide +kernel) (by decide +kernel), List.forall_mem_cons.mpr ⟨xw_t1 123 (by decide +kernel) (by decide +kernel), List.forall_mem_cons.mpr ⟨xw_t1 125 (by decide +kernel) (by decide +kernel), List.forall_mem_cons.mpr ⟨xw_t1 127 (by decide +kernel) (by decide +kernel), List.forall_mem_cons.mpr ⟨xw_t1 129 (by decide +kernel) (by decide +kernel), List.forall_mem_cons.mpr ⟨xw_t1 131 (by decide +kernel) (by decide +kernel), List.forall_mem_cons.mpr ⟨xw_t1 133 (by decide +kernel) (by decide +kernel), List.forall_mem_cons.mpr ⟨xw_t1 135 (by decide +kernel) (by decide +kernel), List.forall_mem_cons.mpr ⟨xw_t1 137 (by decide +kernel) (by decide +kernel), List.forall_mem_cons.mpr ⟨xw_t1 139 (by decide +kernel) (by decide +kernel), List.forall_mem_cons.mpr ⟨xw_t1 141 (by decide +kernel) (by decide +kernel), List.forall_mem_cons.mpr ⟨xw_t1 143 (by decide +kernel) (by decide +kernel), List.forall_mem_cons.mpr ⟨xw_t1 145 (by decide +kernel) (by decide +kernel), List.forall_mem_cons.mpr ⟨xw_t1 147 (by decide +kernel) (by decide +kernel), List.forall_mem_cons.mpr ⟨xw_t1 149 (by decide +kernel) (by decide +kernel), fun _ h => nomatch h⟩⟩⟩⟩⟩⟩⟩⟩⟩⟩⟩⟩⟩⟩⟩⟩⟩⟩⟩
theorem xu_13 : ∀ x ∈ u_ws RX7 TX7 2, x ∈ xw_B := List.forall_mem_cons.mpr ⟨xw_t1 186 (by decide +kernel) (by decide +kernel), List.forall_mem_cons.mpr ⟨xw_t1 188 (by decide +kernel) (by decide +kernel), fun _ h => nomatch h⟩⟩
theorem xu_14 : ∀ x ∈ u_ws RX8 TX8 13, x ∈ xw_B := List.forall_mem_cons.mpr ⟨xw_t2 135 (by decide +kernel) (by decide +kernel), List.forall_mem_cons.mpr ⟨xw_t2 137 (by decide +kernel) (by decide +kernel), List.forall_mem_cons.mpr ⟨xw_t2 139 (by decide +kernel) (by decide +kernel), List.forall_mem_cons.mpr ⟨xw_t2 141 (by decide +kernel) (by decide +kernel), List.forall_mem_cons.mpr ⟨xw_t2 143 (by decide +kernel) (by decide +kernel), List.forall_mem_cons.mpr ⟨xw_t2 145 (by decide +kernel) (by decide +kernel), List.forall_mem_cons.mpr ⟨xw_t2 147 (by decide +kernel) (by decide +kernel), List.forall_mem_cons.mpr ⟨xw_t2 149 (by decide +kernel) (by decide +kernel), List.forall_mem_cons.mpr ⟨xw_t2 151 (by decide +kernel) (by decide +kernel), List.forall_mem_cons.mpr ⟨xw_t2 153 (by decide +kernel) (by decide +kernel), List.forall_mem_cons.mpr ⟨xw_t2 155 (by decide +kernel) (by decide +kernel), List.forall_mem_cons.mpr ⟨xw_t2 157 (by decide +kernel) (by decide +kernel), List.forall_mem_cons.mpr ⟨xw_t2 159 (by decide +kernel) (by decide +kernel), fun _ h => nomatch h⟩⟩⟩⟩⟩⟩⟩⟩⟩⟩⟩⟩⟩
theorem xu_15 : ∀ x ∈ u_ws RX9 TX9 12, x ∈ xw_B := List.forall_mem_cons.mpr ⟨xw_t3 24 (by decide +kernel) (by decide +kernel), List.forall_mem_cons.mpr ⟨xw_t3 26 (by decide +kernel) (by decide +kernel), List.forall_mem_cons.mpr ⟨xw_t3 28 (by decide +kernel) (by decide +kernel), List.forall_mem_cons.mpr ⟨xw_t3 30 (by decide +kernel) (by decide +kernel), List.forall_mem_cons.mpr ⟨xw_t3 32 (by decide +kernel) (by decide +kernel), List.forall_mem_cons.mpr ⟨xw_t3 34 (by decide +kernel) (by decide +kernel), List.forall_mem_cons.mpr ⟨xw_t3 36 (by decide +kernel) (by decide +kernel), List.forall_mem_cons.mpr ⟨xw_t3 38 (by decide +kernel) (by decide +kernel), List.forall_mem_cons.mpr ⟨xw_t3 40 (by decide +kernel) (by decide +kernel), List.forall_mem_cons.mpr ⟨xw_t3 42 (by decide +kernel) (by decide +kernel), List.forall_mem_cons.mpr ⟨xw_t3 44 (by decide +kernel) (by decide +kernel), List.forall_mem_cons.mpr ⟨xw_t3 46 (by decide +kernel) (by decide +kernel), fun _ h => nomatch h⟩⟩⟩⟩⟩⟩⟩⟩⟩⟩⟩⟩
theorem xu_16 : ∀ x ∈ u_ws RX10 TX10 9, x ∈ xw_B := List.forall_mem_cons.mpr ⟨xw_t10 78 (by decide +kernel) (by decide +kernel), List.forall_mem_cons.mpr ⟨xw_t10 80 (by decide +kernel) (by decide +kernel), List.forall_mem_cons.mpr ⟨xw_t10 82 (by decide +kernel) (by decide +kernel), List.forall_mem_cons.mpr ⟨xw_t10 84 (by decide +kernel) (by decide +kernel), List.forall_mem_cons.mpr ⟨xw_t10 86 (by decide +kernel) (by decide +kernel), List.forall_mem_cons.mpr ⟨xw_t10 88 (by decide +kernel) (by decide +kernel), List.forall_mem_cons.mpr ⟨xw_t10 90 (by decide +kernel) (by decide +kernel), List.forall_mem_cons.mpr ⟨xw_t10 92 (by decide +kernel) (by decide +kernel), List.forall_mem_cons.mpr ⟨xw_t10 94 (by decide +kernel) (by decide +kernel), fun _ h => nomatch h⟩⟩⟩⟩⟩⟩⟩⟩⟩
theorem xu_17 : ∀ x ∈ u_ws RX11 TX11 2, x ∈ xw_B := List.forall_mem_cons.mpr ⟨xw_t6 231 (by decide +kernel) (by decide +kernel), List.forall_mem_cons.mpr ⟨xw_t6 233 (by decide +kernel) (by decide +kernel), fun _ h => nomatch h⟩⟩
theorem xu_18 : ∀ x ∈ u_ws RX12 TX12 7, x ∈ xw_B := List.forall_mem_cons.mpr ⟨xw_t10 183 (by decide +kernel) (by decide +kernel), List.forall_mem_cons.mpr ⟨xw_t10 185 (by decide +kernel) (by decide +kernel), List.forall_mem_cons.mpr ⟨xw_t10 187 (by decide +kernel) (by decide +kernel), List.forall_mem_cons.mpr ⟨xw_t10 189 (by decide +kernel) (by decide +kernel), List.forall_mem_cons.mpr ⟨xw_t10 191 (by decide +kernel) (by decide +kernel), List.forall_mem_cons.mpr ⟨xw_t10 193 (by decide +kernel) (by decide +kernel), List.forall_mem_cons.mpr ⟨xw_t10 195 (by decide +kernel) (by decide +kernel), fun _ h => nomatch h⟩⟩⟩⟩⟩⟩⟩
theorem xu_19 : ∀ x ∈ u_ws RX13 TX13 2, x ∈ xw_B := List.forall_mem_cons.mpr ⟨xw_t7 80 (by decide +kernel) (by decide +kernel), List.forall_mem_cons.mpr ⟨xw_t7 82 (by decide +kernel) (by decide +kernel), fun _ h => nomatch h⟩⟩
theorem xu_20 : ∀ x ∈ u_ws RX14 TX14 3, x ∈ xw_B := List.forall_mem_cons.mpr ⟨xw_t7 93 (by decide +kernel) (by decide +kernel), List.forall_mem_cons.mpr ⟨xw_t7 95 (by decide +kernel) (by decide +kernel), List.forall_mem_cons.mpr ⟨xw_t7 97 (by decide +kernel) (by decide +kernel), fun _ h => nomatch h⟩⟩⟩
theorem xu_21 : ∀ x ∈ u_ws RX15 TX15 3, x ∈ xw_B := List.forall_mem_cons.mpr ⟨xw_t8 173 (by decide +kernel) (by decide +kernel), List.forall_mem_cons.mpr ⟨xw_t8 175 (by decide +kernel) (by decide +kernel), List.forall_mem_cons.mpr ⟨xw_t8 177 (by decide +kernel) (by decide +kernel), fun _ h => nomatch h⟩⟩⟩
theorem xu_22 : ∀ x ∈ u_ws RX16 TX16 18, x ∈ xw_B := List.forall_mem_cons.mpr ⟨xw_t11 149 (by decide +kernel) (by decide +kernel), List.forall_mem_cons.mpr ⟨xw_t11 151 (by decide +kernel) (by decide +kernel), List.forall_mem_cons.mpr ⟨xw_t11 153 (by decide +kernel) (by decide +kernel), List.forall_mem_cons.mpr ⟨xw_t11 155 (by decide +kernel) (by decide +kernel), List.forall_mem_cons.mpr ⟨xw_t11 157 (by decide +kernel) (by decide +kernel), List.forall_mem_cons.mpr ⟨xw_t11 159 (by decide +kernel) (by decide +kernel), List.forall_mem_cons.mpr ⟨xw_t11 161 (by decide +kernel) (by decide +kernel), List.forall_mem_cons.mpr ⟨xw_t11 163 (by decide +kernel) (by decide +kernel), List.forall_mem_cons.mpr ⟨xw_t11 165 (by decide +kernel) (by decide +kernel), List.forall_mem_cons.mpr ⟨xw_t11 167 (by decide +kernel) (by decide +kernel), List.forall_mem_cons.mpr ⟨xw_t11 169 (by decide +kernel) (by decide +kernel), List.forall_mem_cons.mpr ⟨xw_t11 171 (by decide +kernel) (by decide +kernel), List.forall_mem_cons.mpr ⟨xw_t11 173 (by decide +kernel) (by decide +kernel), List.forall_mem_cons.mpr ⟨xw_t11 175 (by decide +kernel) (by decide +kernel), List.forall_mem_cons.mpr ⟨xw_t11 177 (by decide +kernel) (by decide +kernel), List.forall_mem_cons.mpr ⟨xw_t11 179 (by decide +kernel) (by decide +kernel), List.forall_mem_cons.mpr ⟨xw_t11 181 (by decide +kernel) (by decide +kernel), List.forall_mem_cons.mpr ⟨xw_t11 183 (by decide +kernel) (by decide +kernel), fun _ h => nomatch h⟩⟩⟩⟩⟩⟩⟩⟩⟩⟩⟩⟩⟩⟩⟩⟩⟩⟩
theorem xu_23 : ∀ x ∈ u_ws RX17 TX17 5, x ∈ xw_B := List.forall_mem_cons.mpr ⟨xw_t11 67 (by decide +kernel) (by decide +kernel), List.forall_mem_cons.mpr ⟨xw_t11 69 (by decide +kernel) (by decide +kernel), List.forall_mem_cons.mpr ⟨xw_t11 71 (by decide +kernel) (by decide +kernel), List.forall_mem_cons.mpr ⟨xw_t11 73 (by decide +kernel) (by decide +kernel), List.forall_mem_cons.mpr ⟨xw_t11 75 (by decide +kernel) (by decide +kernel), fun _ h => nomatch h⟩⟩⟩⟩⟩
theorem xu_24 : ∀ x ∈ u_ws RX18 TX18 2, x ∈ xw_B := List.forall_mem_cons.mpr ⟨xw_t11 89 (by decide +kernel) (by decide +kernel), List.forall_mem_cons.mpr ⟨xw_t11 91 (by decide +kernel) (by decide +kernel), fun _ h => nomatch h⟩⟩
theorem xu_25 : ∀ x ∈ u_ws RX19 TX19 7, x ∈ xw_B := List.forall_mem_cons.mpr ⟨xw_t7 107 (by decide +kernel) (by decide +kernel), List.forall_mem_cons.mpr ⟨xw_t7 109 (by decide +kernel) (by decide +kernel), List.forall_mem_cons.mpr ⟨xw_t7 111 (by decide +kernel) (by decide +kernel), List.forall_mem_cons.mpr ⟨xw_t7 113 (by decide +kernel) (by decide +kernel), List.forall_mem_cons.mpr ⟨xw_t7 115 (by decide +kernel) (by decide +kernel), List.forall_mem_cons.mpr ⟨xw_t7 117 (by decide +kernel) (by decide +kernel), List.forall_mem_cons.mpr ⟨xw_t7 119 (by decide +kernel) (by decide +kernel), fun _ h => nomatch h⟩⟩⟩⟩⟩⟩⟩
theorem xt_0 : xi_site RX9 (3, 9223372036854775839, 0, 0, 303) := ⟨(31 : Int64), by decide +kernel, xw_t4 76 (by decide +kernel) (by decide +kernel)⟩
theorem xt_1 : xi_site RX9 (3, 9223372036854833936, 0, 0, 301) := ⟨(58128 : Int64), by decide +kernel, xw_t4 75 (by decide +kernel) (by decide +kernel)⟩
theorem xt_2 : xi_site RX9 (38, 8, 4, 0, 182) := ⟨RX2, TX2, 5, "UnwindTower$Faults", rfl, xu_8, by decide, xw_t1 164 (by decide +kernel) (by decide +kernel), Or.inl rfl⟩
theorem xt_3 : xi_site RX9 (38, 10, 3, 0, 248) := ⟨RX4, TX4, 18, "UnwindTower$Machine", rfl, xu_10, by decide, xw_t2 194 (by decide +kernel) (by decide +kernel), Or.inl rfl⟩
theorem xt_4 : xi_site RX9 (38, 10, 4, 0, 229) := ⟨RX4, TX4, 18, "UnwindTower$Machine", rfl, xu_10, by decide, xw_t2 196 (by decide +kernel) (by decide +kernel), Or.inl rfl⟩
theorem xt_5 : xi_site RX9 (38, 10, 5, 0, 364) := ⟨RX4, TX4, 18, "UnwindTower$Machine", rfl, xu_10, by decide, xw_t2 198 (by decide +kernel) (by decide +kernel), Or.inl rfl⟩
theorem xt_6 : xi_site RX9 (38, 10, 6, 0, 367) := ⟨RX4, TX4, 18, "UnwindTower$Machine", rfl, xu_10, by decide, xw_t2 200 (by decide +kernel) (by decide +kernel), Or.inl rfl⟩
theorem xt_7 : xi_site RX9 (38, 10, 8, 0, 337) := ⟨RX4, TX4, 18, "UnwindTower$Machine", rfl, xu_10, by decide, xw_t2 204 (by decide +kernel) (by decide +kernel), Or.inl rfl⟩
theorem xt_8 : xi_site RX9 (38, 12, 0, 0, 80) := ⟨RX6, TX6, 19, "UnwindTower$Program", rfl, xu_12, by decide, xw_t1 61 (by decide +kernel) (by decide +kernel), Or.inl rfl⟩
theorem xt_9 : xi_site RX9 (38, 12, 1, 0, 316) := ⟨RX6, TX6, 19, "UnwindTower$Program", rfl, xu_12, by decide, xw_t1 64 (by decide +kernel) (by decide +kernel), Or.inl rfl⟩
theorem xt_10 : xi_site RX9 (38, 12, 2, 0, 319) := ⟨RX6, TX6, 19, "UnwindTower$Program", rfl, xu_12, by decide, xw_t1 67 (by decide +kernel) (by decide +kernel), Or.inl rfl⟩
theorem xt_11 : xi_site RX9 (38, 12, 3, 0, 322) := ⟨RX6, TX6, 19, "UnwindTower$Program", rfl, xu_12, by decide, xw_t1 70 (by decide +kernel) (by decide +kernel), Or.inl rfl⟩
theorem xt_12 : xi_site RX9 (38, 12, 4, 0, 111) := ⟨RX6, TX6, 19, "UnwindTower$Program", rfl, xu_12, by decide, xw_t1 73 (by decide +kernel) (by decide +kernel), Or.inl rfl⟩
theorem xt_13 : xi_site RX9 (38, 12, 5, 0, 125) := ⟨RX6, TX6, 19, "UnwindTower$Program", rfl, xu_12, by decide, xw_t1 75 (by decide +kernel) (by decide +kernel), Or.inl rfl⟩
theorem xt_14 : xi_site RX9 (38, 12, 6, 0, 331) := ⟨RX6, TX6, 19, "UnwindTower$Program", rfl, xu_12, by decide, xw_t1 80 (by decide +kernel) (by decide +kernel), Or.inl rfl⟩
theorem xt_15 : xi_site RX9 (38, 12, 7, 0, 148) := ⟨RX6, TX6, 19, "UnwindTower$Program", rfl, xu_12, by decide, xw_t1 82 (by decide +kernel) (by decide +kernel), Or.inl rfl⟩
theorem xt_16 : xi_site RX9 (38, 14, 4, 0, 328) := ⟨RX8, TX8, 13, "UnwindTower$Thrown", rfl, xu_14, by decide, xw_t2 121 (by decide +kernel) (by decide +kernel), Or.inl rfl⟩
theorem xt_17 : xi_site RX9 (38, 15, 0, 0, 10) := ⟨RX9, TX9, 12, "UnwindTower", rfl, xu_15, by decide, xw_t3 12 (by decide +kernel) (by decide +kernel), Or.inl rfl⟩
theorem xt_18 : xi_site RX9 (38, 15, 1, 0, 21) := ⟨RX9, TX9, 12, "UnwindTower", rfl, xu_15, by decide, xw_t3 13 (by decide +kernel) (by decide +kernel), Or.inl rfl⟩
theorem xt_19 : xi_site RX9 (38, 15, 2, 0, 28) := ⟨RX9, TX9, 12, "UnwindTower", rfl, xu_15, by decide, xw_t3 14 (by decide +kernel) (by decide +kernel), Or.inl rfl⟩
theorem xt_20 : xi_site RX9 (38, 15, 3, 0, 34) := ⟨RX9, TX9, 12, "UnwindTower", rfl, xu_15, by decide, xw_t3 15 (by decide +kernel) (by decide +kernel), Or.inl rfl⟩
theorem xt_21 : xi_site RX9 (38, 15, 5, 0, 51) := ⟨RX9, TX9, 12, "UnwindTower", rfl, xu_15, by decide, xw_t3 17 (by decide +kernel) (by decide +kernel), Or.inl rfl⟩
theorem xt_22 : xi_site RX9 (38, 15, 7, 0, 192) := ⟨RX9, TX9, 12, "UnwindTower", rfl, xu_15, by decide, xw_t3 19 (by decide +kernel) (by decide +kernel), Or.inl rfl⟩
theorem xt_23 : xi_site RX9 (38, 15, 8, 0, 58) := ⟨RX9, TX9, 12, "UnwindTower", rfl, xu_15, by decide, xw_t3 20 (by decide +kernel) (by decide +kernel), Or.inl rfl⟩
theorem xt_24 : xi_site RX9 (38, 15, 9, 0, 62) := ⟨RX9, TX9, 12, "UnwindTower", rfl, xu_15, by decide, xw_t3 21 (by decide +kernel) (by decide +kernel), Or.inl rfl⟩
theorem xt_25 : xi_site RX9 (38, 15, 10, 0, 66) := ⟨RX9, TX9, 12, "UnwindTower", rfl, xu_15, by decide, xw_t3 22 (by decide +kernel) (by decide +kernel), Or.inl rfl⟩
theorem xt_26 : xi_site RX9 (38, 15, 11, 0, 226) := ⟨RX9, TX9, 12, "UnwindTower", rfl, xu_15, by decide, xw_t3 23 (by decide +kernel) (by decide +kernel), Or.inl rfl⟩
theorem xt_27 : xi_site RX9 (40, 15, 7, 1, 192) := ⟨RX9, TX9, 12, "UnwindTower", tyX9, rfl, xu_15, by decide, xw_t3 19 (by decide +kernel) (by decide +kernel), Or.inl rfl, tyX9_ok, nmX9, rfl, (fun h => nomatch h), .inr (.inl ⟨rfl, rfl⟩)⟩
theorem xt_28 : xi_site RX9 (40, 15, 8, 1, 58) := ⟨RX9, TX9, 12, "UnwindTower", tyX9, rfl, xu_15, by decide, xw_t3 20 (by decide +kernel) (by decide +kernel), Or.inl rfl, tyX9_ok, nmX9, rfl, (fun h => nomatch h), .inr (.inl ⟨rfl, rfl⟩)⟩
theorem xt_29 : xi_site RX9 (40, 15, 9, 0, 62) := ⟨RX9, TX9, 12, "UnwindTower", tyX9, rfl, xu_15, by decide, xw_t3 21 (by decide +kernel) (by decide +kernel), Or.inl rfl, tyX9_ok, nmX9, rfl, (fun h => nomatch h), .inl ⟨rfl, rfl⟩⟩
theorem xt_30 : xi_site RX9 (40, 15, 10, 0, 66) := ⟨RX9, TX9, 12, "UnwindTower", tyX9, rfl, xu_15, by decide, xw_t3 22 (by decide +kernel) (by decide +kernel), Or.inl rfl, tyX9_ok, nmX9, rfl, (fun h => nomatch h), .inl ⟨rfl, rfl⟩⟩
theorem xt_31 : xi_site RX9 (41, 15, 0, 2, 10) := ⟨RX9, TX9, 12, "UnwindTower", tyX9, rfl, xu_15, by decide, xw_t3 12 (by decide +kernel) (by decide +kernel), Or.inl rfl, tyX9_ok, nmX9, rfl, (fun _ => rfl), .inr (.inr (.inl ⟨rfl, .inl ⟨_, rfl⟩⟩))⟩
theorem xt_32 : xi_site RX9 (41, 15, 1, 2, 21) := ⟨RX9, TX9, 12, "UnwindTower", tyX9, rfl, xu_15, by decide, xw_t3 13 (by decide +kernel) (by decide +kernel), Or.inl rfl, tyX9_ok, nmX9, rfl, (fun _ => rfl), .inr (.inr (.inl ⟨rfl, .inl ⟨_, rfl⟩⟩))⟩
theorem xt_33 : xi_site RX9 (41, 15, 2, 2, 28) := ⟨RX9, TX9, 12, "UnwindTower", tyX9, rfl, xu_15, by decide, xw_t3 14 (by decide +kernel) (by decide +kernel), Or.inl rfl, tyX9_ok, nmX9, rfl, (fun _ => rfl), .inr (.inr (.inl ⟨rfl, .inl ⟨_, rfl⟩⟩))⟩
theorem xt_34 : xi_site RX9 (41, 15, 3, 2, 34) := ⟨RX9, TX9, 12, "UnwindTower", tyX9, rfl, xu_15, by decide, xw_t3 15 (by decide +kernel) (by decide +kernel), Or.inl rfl, tyX9_ok, nmX9, rfl, (fun _ => rfl), .inr (.inr (.inl ⟨rfl, .inr ⟨_, rfl⟩⟩))⟩
theorem xt_35 : xi_site RX9 (41, 15, 4, 2, 44) := ⟨RX9, TX9, 12, "UnwindTower", tyX9, rfl, xu_15, by decide, xw_t3 16 (by decide +kernel) (by decide +kernel), Or.inl rfl, tyX9_ok, nmX9, rfl, (fun _ => rfl), .inr (.inr (.inl ⟨rfl, .inl ⟨_, rfl⟩⟩))⟩
theorem xt_36 : xi_site RX9 (41, 15, 5, 2, 51) := ⟨RX9, TX9, 12, "UnwindTower", tyX9, rfl, xu_15, by decide, xw_t3 17 (by decide +kernel) (by decide +kernel), Or.inl rfl, tyX9_ok, nmX9, rfl, (fun _ => rfl), .inr (.inr (.inl ⟨rfl, .inl ⟨_, rfl⟩⟩))⟩
theorem xt_37 : xi_site RX9 (41, 15, 6, 2, 55) := ⟨RX9, TX9, 12, "UnwindTower", tyX9, rfl, xu_15, by decide, xw_t3 18 (by decide +kernel) (by decide +kernel), Or.inl rfl, tyX9_ok, nmX9, rfl, (fun _ => rfl), .inr (.inr (.inl ⟨rfl, .inl ⟨_, rfl⟩⟩))⟩
theorem xt_38 : xi_site RX9 (51, 0, 0, 0, 1) := ⟨xw_t1 51 (by decide +kernel) (by decide +kernel), xw_t1 52 (by decide +kernel) (by decide +kernel), xw_t1 53 (by decide +kernel) (by decide +kernel)⟩
theorem xt_39 : xi_site RX9 (56, 6, 0, 0, 32) := ⟨RX0, TX0, 13, tyX0, rfl, tyX0_ok, xw_t1 191 (by decide +kernel) (by decide +kernel), xw_t1 193 (by decide +kernel) (by decide +kernel), xw_t1 5 (by decide +kernel) (by decide +kernel), xu_6, by decide +kernel⟩
theorem xt_40 : xi_site RX9 (56, 7, 0, 0, 39) := ⟨RX1, TX1, 15, tyX1, rfl, tyX1_ok, xw_t2 17 (by decide +kernel) (by decide +kernel), xw_t2 18 (by decide +kernel) (by decide +kernel), xw_t1 6 (by decide +kernel) (by decide +kernel), xu_7, by decide +kernel⟩
theorem xt_41 : xi_site RX9 (56, 8, 0, 0, 16) := ⟨RX2, TX2, 5, tyX2, rfl, tyX2_ok, xw_t1 153 (by decide +kernel) (by decide +kernel), xw_t1 154 (by decide +kernel) (by decide +kernel), xw_t1 3 (by decide +kernel) (by decide +kernel), xu_8, by decide +kernel⟩
theorem xt_42 : xi_site RX9 (56, 10, 0, 0, 48) := ⟨RX4, TX4, 18, tyX4, rfl, tyX4_ok, xw_t2 101 (by decide +kernel) (by decide +kernel), xw_t2 102 (by decide +kernel) (by decide +kernel), xw_t1 8 (by decide +kernel) (by decide +kernel), xu_10, by decide +kernel⟩
theorem xt_43 : xi_site RX9 (56, 12, 0, 0, 7) := ⟨RX6, TX6, 19, tyX6, rfl, tyX6_ok, xw_t1 54 (by decide +kernel) (by decide +kernel), xw_t1 55 (by decide +kernel) (by decide +kernel), xw_t1 2 (by decide +kernel) (by decide +kernel), xu_12, by decide +kernel⟩
theorem xt_44 : xi_site RX9 (56, 13, 0, 0, 25) := ⟨RX7, TX7, 2, tyX7, rfl, tyX7_ok, xw_t1 176 (by decide +kernel) (by decide +kernel), xw_t1 177 (by decide +kernel) (by decide +kernel), xw_t1 4 (by decide +kernel) (by decide +kernel), xu_13, by decide +kernel⟩
theorem xt_45 : xi_site RX9 (58, 1, 0, 0, 32) := ⟨by decide, by decide, "UnwindTower$Code", rfl, xw_t1 191 (by decide +kernel) (by decide +kernel), xw_t1 192 (by decide +kernel) (by decide +kernel)⟩
theorem xt_46 : xi_site RX9 (90, 0, 75, 77, 73) := ⟨by decide, xw_t5 59 (by decide +kernel) (by decide +kernel), xw_t1 25 (by decide +kernel) (by decide +kernel), ⟨"no such PARENT", by decide +kernel⟩, xw_t5 101 (by decide +kernel) (by decide +kernel)⟩
theorem xt_47 : xi_site RX9 (90, 0, 92, 77, 73) := ⟨by decide, xw_t5 59 (by decide +kernel) (by decide +kernel), xw_t1 25 (by decide +kernel) (by decide +kernel), ⟨"no such CLASS", by decide +kernel⟩, xw_t5 101 (by decide +kernel) (by decide +kernel)⟩
theorem xt_48 : xi_site RX9 (90, 0, 123, 77, 73) := ⟨by decide, xw_t5 59 (by decide +kernel) (by decide +kernel), xw_t1 25 (by decide +kernel) (by decide +kernel), ⟨"no such PROCEDURE", by decide +kernel⟩, xw_t5 101 (by decide +kernel) (by decide +kernel)⟩
theorem xt_49 : xi_site RX9 (90, 0, 160, 77, 73) := ⟨by decide, xw_t5 59 (by decide +kernel) (by decide +kernel), xw_t1 25 (by decide +kernel) (by decide +kernel), ⟨"no such PROCEDURE, or NODE", by decide +kernel⟩, xw_t5 101 (by decide +kernel) (by decide +kernel)⟩
theorem xt_50 : xi_site RX9 (90, 0, 175, 77, 73) := ⟨by decide, xw_t5 59 (by decide +kernel) (by decide +kernel), xw_t1 25 (by decide +kernel) (by decide +kernel), ⟨"no such NODE", by decide +kernel⟩, xw_t5 101 (by decide +kernel) (by decide +kernel)⟩
theorem xt_51 : xi_site RX9 (90, 0, 185, 77, 73) := ⟨by decide, xw_t5 59 (by decide +kernel) (by decide +kernel), xw_t1 25 (by decide +kernel) (by decide +kernel), ⟨"no such FAULT", by decide +kernel⟩, xw_t5 101 (by decide +kernel) (by decide +kernel)⟩
theorem xt_52 : xi_site RX9 (90, 0, 198, 77, 73) := ⟨by decide, xw_t5 59 (by decide +kernel) (by decide +kernel), xw_t1 25 (by decide +kernel) (by decide +kernel), ⟨"no such place", by decide +kernel⟩, xw_t5 101 (by decide +kernel) (by decide +kernel)⟩
theorem xt_53 : xi_site RX9 (90, 0, 208, 77, 73) := ⟨by decide, xw_t5 59 (by decide +kernel) (by decide +kernel), xw_t1 25 (by decide +kernel) (by decide +kernel), ⟨"no such ROW", by decide +kernel⟩, xw_t5 101 (by decide +kernel) (by decide +kernel)⟩
theorem xt_54 : xi_site RX9 (90, 0, 241, 77, 73) := ⟨by decide, xw_t5 59 (by decide +kernel) (by decide +kernel), xw_t1 25 (by decide +kernel) (by decide +kernel), ⟨"no such number is kept", by decide +kernel⟩, xw_t5 101 (by decide +kernel) (by decide +kernel)⟩
theorem xt_55 : xi_site RX9 (90, 1, 96, 98, 94) := ⟨by decide, xw_t5 156 (by decide +kernel) (by decide +kernel), xw_t1 27 (by decide +kernel) (by decide +kernel), ⟨"what is not 0 to 4", by decide +kernel⟩, xw_t5 166 (by decide +kernel) (by decide +kernel)⟩
theorem xt_56 : xi_site RX9 (90, 1, 109, 98, 94) := ⟨by decide, xw_t5 156 (by decide +kernel) (by decide +kernel), xw_t1 27 (by decide +kernel) (by decide +kernel), ⟨"no set of CLASSES", by decide +kernel⟩, xw_t5 166 (by decide +kernel) (by decide +kernel)⟩
theorem xt_57 : xi_site RX9 (90, 1, 137, 98, 94) := ⟨by decide, xw_t5 156 (by decide +kernel) (by decide +kernel), xw_t1 27 (by decide +kernel) (by decide +kernel), ⟨"what is not 0 to 5", by decide +kernel⟩, xw_t5 166 (by decide +kernel) (by decide +kernel)⟩
theorem xt_58 : xi_site RX9 (90, 1, 146, 98, 94) := ⟨by decide, xw_t5 156 (by decide +kernel) (by decide +kernel), xw_t1 27 (by decide +kernel) (by decide +kernel), ⟨"that is no NODE", by decide +kernel⟩, xw_t5 166 (by decide +kernel) (by decide +kernel)⟩
theorem xt_59 : xi_site RX9 (90, 1, 187, 98, 94) := ⟨by decide, xw_t5 156 (by decide +kernel) (by decide +kernel), xw_t1 27 (by decide +kernel) (by decide +kernel), ⟨"what is not 0 to 3", by decide +kernel⟩, xw_t5 166 (by decide +kernel) (by decide +kernel)⟩
theorem xt_60 : xi_site RX9 (90, 1, 218, 98, 94) := ⟨by decide, xw_t5 156 (by decide +kernel) (by decide +kernel), xw_t1 27 (by decide +kernel) (by decide +kernel), ⟨"most is not 1 to 3000, or deep is not 1 to 30", by decide +kernel⟩, xw_t5 166 (by decide +kernel) (by decide +kernel)⟩
theorem xt_61 : xi_site RX9 (90, 1, 232, 98, 94) := ⟨by decide, xw_t5 156 (by decide +kernel) (by decide +kernel), xw_t1 27 (by decide +kernel) (by decide +kernel), ⟨"what is not 0 to 9", by decide +kernel⟩, xw_t5 166 (by decide +kernel) (by decide +kernel)⟩
theorem xt_62 : xi_site RX9 (90, 2, 220, 87, 83) := ⟨by decide, xw_t5 127 (by decide +kernel) (by decide +kernel), xw_t1 26 (by decide +kernel) (by decide +kernel), ⟨"there are FAULTS", by decide +kernel⟩, xw_t5 137 (by decide +kernel) (by decide +kernel)⟩
theorem xt_63 : xi_site RX9 (91, 0, 257, 77, 73) := ⟨by decide, xw_t5 59 (by decide +kernel) (by decide +kernel), xw_t1 25 (by decide +kernel) (by decide +kernel), ⟨"no such EXCEPTION is kept", by decide +kernel⟩, xw_t5 101 (by decide +kernel) (by decide +kernel)⟩
theorem xt_64 : xi_site RX9 (91, 0, 263, 77, 73) := ⟨by decide, xw_t5 59 (by decide +kernel) (by decide +kernel), xw_t1 25 (by decide +kernel) (by decide +kernel), ⟨"no such EXCEPTION, or number", by decide +kernel⟩, xw_t5 101 (by decide +kernel) (by decide +kernel)⟩
theorem xt_65 : xi_site RX9 (91, 0, 277, 77, 73) := ⟨by decide, xw_t5 59 (by decide +kernel) (by decide +kernel), xw_t1 25 (by decide +kernel) (by decide +kernel), ⟨"no such EXCEPTION, or place", by decide +kernel⟩, xw_t5 101 (by decide +kernel) (by decide +kernel)⟩
theorem xt_66 : xi_site RX9 (91, 0, 282, 77, 73) := ⟨by decide, xw_t5 59 (by decide +kernel) (by decide +kernel), xw_t1 25 (by decide +kernel) (by decide +kernel), ⟨"which is not 0 to 13", by decide +kernel⟩, xw_t5 101 (by decide +kernel) (by decide +kernel)⟩
theorem xt_67 : xi_site RX9 (91, 0, 296, 77, 73) := ⟨by decide, xw_t5 59 (by decide +kernel) (by decide +kernel), xw_t1 25 (by decide +kernel) (by decide +kernel), ⟨"no such NODE, or CLASS", by decide +kernel⟩, xw_t5 101 (by decide +kernel) (by decide +kernel)⟩
theorem xt_68 : xi_site RX9 (91, 1, 294, 98, 94) := ⟨by decide, xw_t5 156 (by decide +kernel) (by decide +kernel), xw_t1 27 (by decide +kernel) (by decide +kernel), ⟨"most is not 1 to 3000, deep is not 1 to 30, or what is not 0 to 8", by decide +kernel⟩, xw_t5 166 (by decide +kernel) (by decide +kernel)⟩
theorem xv_1 : xs_cl 1 2 := ⟨xw_t6 86 rfl (by decide +kernel), xw_t1 1 (by decide +kernel) (by decide +kernel), ⟨by decide +kernel, by decide +kernel⟩, by decide +kernel, by decide +kernel⟩
theorem xt_69 : xi_site RX9 (96, 1, 2, 0, 214) := ⟨xv_1, xw_t6 84 (by decide +kernel) (by decide +kernel), xw_t6 85 (by decide +kernel) (by decide +kernel)⟩
theorem xv_2 : xs_cl 2 2 := ⟨xw_t3 59 rfl (by decide +kernel), xw_t1 1 (by decide +kernel) (by decide +kernel), ⟨by decide +kernel, by decide +kernel⟩, by decide +kernel, by decide +kernel⟩
theorem xt_70 : xi_site RX9 (96, 2, 2, 0, 129) := ⟨xv_2, xw_t3 57 (by decide +kernel) (by decide +kernel), xw_t3 58 (by decide +kernel) (by decide +kernel)⟩
theorem xv_6 : xs_cl 6 2 := ⟨xw_t3 166 rfl (by decide +kernel), xw_t1 1 (by decide +kernel) (by decide +kernel), ⟨by decide +kernel, by decide +kernel⟩, by decide +kernel, by decide +kernel⟩
theorem xt_71 : xi_site RX9 (96, 6, 2, 0, 200) := ⟨xv_6, xw_t4 93 (by decide +kernel) (by decide +kernel), xw_t3 165 (by decide +kernel) (by decide +kernel)⟩
theorem xv_28 : xs_cl 28 3 := ⟨xw_t3 79 rfl (by decide +kernel), xw_t1 1 (by decide +kernel) (by decide +kernel), ⟨by decide +kernel, by decide +kernel⟩, by decide +kernel, by decide +kernel⟩
theorem xt_72 : xi_site RX9 (96, 28, 3, 0, 133) := ⟨xv_28, xw_t5 201 (by decide +kernel) (by decide +kernel), xw_t3 78 (by decide +kernel) (by decide +kernel)⟩
theorem xv_43 : xs_cl 43 3 := ⟨xw_t2 21 rfl (by decide +kernel), xw_t1 6 (by decide +kernel) (by decide +kernel), ⟨by decide +kernel, by decide +kernel⟩, by decide +kernel, by decide +kernel⟩
theorem xt_73 : xi_site RX9 (98, 43, 3, 7, 41) := ⟨xv_43, by decide +kernel, by decide +kernel, by decide +kernel, xw_t2 19 (by decide +kernel) (by decide +kernel), xw_t2 20 (by decide +kernel) (by decide +kernel)⟩
theorem xv_44 : xs_cl 44 1 := ⟨xw_t1 157 rfl (by decide +kernel), xw_t1 3 (by decide +kernel) (by decide +kernel), ⟨by decide +kernel, by decide +kernel⟩, by decide +kernel, by decide +kernel⟩
theorem xt_74 : xi_site RX9 (98, 44, 1, 8, 18) := ⟨xv_44, by decide +kernel, by decide +kernel, by decide +kernel, xw_t1 155 (by decide +kernel) (by decide +kernel), xw_t1 156 (by decide +kernel) (by decide +kernel)⟩
theorem xv_49 : xs_cl 49 3 := ⟨xw_t2 105 rfl (by decide +kernel), xw_t1 8 (by decide +kernel) (by decide +kernel), ⟨by decide +kernel, by decide +kernel⟩, by decide +kernel, by decide +kernel⟩
theorem xt_75 : xi_site RX9 (98, 49, 3, 10, 50) := ⟨xv_49, by decide +kernel, by decide +kernel, by decide +kernel, xw_t2 103 (by decide +kernel) (by decide +kernel), xw_t2 104 (by decide +kernel) (by decide +kernel)⟩
theorem xv_52 : xs_cl 52 0 := ⟨xw_t1 58 rfl (by decide +kernel), xw_t1 2 (by decide +kernel) (by decide +kernel), ⟨by decide +kernel, by decide +kernel⟩, by decide +kernel, by decide +kernel⟩
theorem xt_76 : xi_site RX9 (98, 52, 0, 12, 9) := ⟨xv_52, by decide +kernel, by decide +kernel, by decide +kernel, xw_t1 56 (by decide +kernel) (by decide +kernel), xw_t1 57 (by decide +kernel) (by decide +kernel)⟩
theorem xv_42 : xs_cl 42 0 := ⟨xw_t1 196 rfl (by decide +kernel), xw_t1 5 (by decide +kernel) (by decide +kernel), ⟨by decide +kernel, by decide +kernel⟩, by decide +kernel, by decide +kernel⟩
theorem xt_77 : xi_site RX9 (99, 42, 0, 6, 38) := ⟨xv_42, by decide +kernel, by decide +kernel, by decide +kernel, "UnwindTower", xw_t1 194 (by decide +kernel) (by decide +kernel), xw_t1 195 (by decide +kernel) (by decide +kernel)⟩
theorem xv_75 : xs_cl 75 0 := ⟨xw_t1 180 rfl (by decide +kernel), xw_t1 4 (by decide +kernel) (by decide +kernel), ⟨by decide +kernel, by decide +kernel⟩, by decide +kernel, by decide +kernel⟩
theorem xt_78 : xi_site RX9 (99, 75, 0, 13, 27) := ⟨xv_75, by decide +kernel, by decide +kernel, by decide +kernel, "UnwindTower", xw_t1 178 (by decide +kernel) (by decide +kernel), xw_t1 179 (by decide +kernel) (by decide +kernel)⟩
theorem xv_8 : xs_cl 8 2 := ⟨xw_t4 105 rfl (by decide +kernel), xw_t1 1 (by decide +kernel) (by decide +kernel), ⟨by decide +kernel, by decide +kernel⟩, by decide +kernel, by decide +kernel⟩
theorem xt_79 : xi_site RX9 (100, 8, 2, 15, 305) := ⟨xv_8, by decide +kernel, xw_t4 102 (by decide +kernel) (by decide +kernel), xw_t4 104 (by decide +kernel) (by decide +kernel), _, rfl, xw_sl 42 (by decide +kernel) (by decide +kernel)⟩
theorem xv_9 : xs_cl 9 1 := ⟨xw_t4 144 rfl (by decide +kernel), xw_t1 1 (by decide +kernel) (by decide +kernel), ⟨by decide +kernel, by decide +kernel⟩, by decide +kernel, by decide +kernel⟩
theorem xt_80 : xi_site RX9 (100, 9, 1, 15, 309) := ⟨xv_9, by decide +kernel, xw_t4 141 (by decide +kernel) (by decide +kernel), xw_t4 143 (by decide +kernel) (by decide +kernel), _, rfl, xw_sl 47 (by decide +kernel) (by decide +kernel)⟩
theorem xv_15 : xs_cl 15 1 := ⟨xw_t4 92 rfl (by decide +kernel), xw_t1 1 (by decide +kernel) (by decide +kernel), ⟨by decide +kernel, by decide +kernel⟩, by decide +kernel, by decide +kernel⟩
end
section
/-! sites -/
theorem xt_81 : xi_site RX9 (100, 15, 1, 15, 195) := ⟨xv_15, by decide +kernel, xw_t4 89 (by decide +kernel) (by decide +kernel), xw_t4 91 (by decide +kernel) (by decide +kernel), _, rfl, xw_sl 40 (by decide +kernel) (by decide +kernel)⟩
theorem xv_16 : xs_cl 16 0 := ⟨xw_t4 88 rfl (by decide +kernel), xw_t1 1 (by decide +kernel) (by decide +kernel), ⟨by decide +kernel, by decide +kernel⟩, by decide +kernel, by decide +kernel⟩
theorem xt_82 : xi_site RX9 (100, 16, 0, 15, 373) := ⟨xv_16, by decide +kernel, xw_t4 85 (by decide +kernel) (by decide +kernel), xw_t4 87 (by decide +kernel) (by decide +kernel), _, rfl, xw_sl 39 (by decide +kernel) (by decide +kernel)⟩
theorem xv_29 : xs_cl 29 1 := ⟨xw_t4 178 rfl (by decide +kernel), xw_t1 1 (by decide +kernel) (by decide +kernel), ⟨by decide +kernel, by decide +kernel⟩, by decide +kernel, by decide +kernel⟩
theorem xt_83 : xi_site RX9 (100, 29, 1, 15, 284) := ⟨xv_29, by decide +kernel, xw_t4 175 (by decide +kernel) (by decide +kernel), xw_t4 177 (by decide +kernel) (by decide +kernel), _, rfl, xw_sl 50 (by decide +kernel) (by decide +kernel)⟩
theorem xv_30 : xs_cl 30 2 := ⟨xw_t4 97 rfl (by decide +kernel), xw_t1 1 (by decide +kernel) (by decide +kernel), ⟨by decide +kernel, by decide +kernel⟩, by decide +kernel, by decide +kernel⟩
theorem xt_84 : xi_site RX9 (100, 30, 2, 15, 102) := ⟨xv_30, by decide +kernel, xw_t4 94 (by decide +kernel) (by decide +kernel), xw_t4 96 (by decide +kernel) (by decide +kernel), _, rfl, xw_sl 41 (by decide +kernel) (by decide +kernel)⟩
theorem xv_31 : xs_cl 31 1 := ⟨xw_t4 80 rfl (by decide +kernel), xw_t1 1 (by decide +kernel) (by decide +kernel), ⟨by decide +kernel, by decide +kernel⟩, by decide +kernel, by decide +kernel⟩
theorem xt_85 : xi_site RX9 (100, 31, 1, 15, 291) := ⟨xv_31, by decide +kernel, xw_t4 77 (by decide +kernel) (by decide +kernel), xw_t4 79 (by decide +kernel) (by decide +kernel), _, rfl, xw_sl 38 (by decide +kernel) (by decide +kernel)⟩
theorem xv_32 : xs_cl 32 2 := ⟨xw_t4 109 rfl (by decide +kernel), xw_t1 1 (by decide +kernel) (by decide +kernel), ⟨by decide +kernel, by decide +kernel⟩, by decide +kernel, by decide +kernel⟩
theorem xt_86 : xi_site RX9 (100, 32, 2, 15, 139) := ⟨xv_32, by decide +kernel, xw_t4 106 (by decide +kernel) (by decide +kernel), xw_t4 108 (by decide +kernel) (by decide +kernel), _, rfl, xw_sl 43 (by decide +kernel) (by decide +kernel)⟩
theorem xv_33 : xs_cl 33 1 := ⟨xw_t4 148 rfl (by decide +kernel), xw_t1 1 (by decide +kernel) (by decide +kernel), ⟨by decide +kernel, by decide +kernel⟩, by decide +kernel, by decide +kernel⟩
theorem xt_87 : xi_site RX9 (100, 33, 1, 15, 234) := ⟨xv_33, by decide +kernel, xw_t4 145 (by decide +kernel) (by decide +kernel), xw_t4 147 (by decide +kernel) (by decide +kernel), _, rfl, xw_sl 48 (by decide +kernel) (by decide +kernel)⟩
theorem xv_34 : xs_cl 34 0 := ⟨xw_t3 67 rfl (by decide +kernel), xw_t1 1 (by decide +kernel) (by decide +kernel), ⟨by decide +kernel, by decide +kernel⟩, by decide +kernel, by decide +kernel⟩
theorem xt_88 : xi_site RX9 (100, 34, 0, 15, 99) := ⟨xv_34, by decide +kernel, xw_t3 64 (by decide +kernel) (by decide +kernel), xw_t3 66 (by decide +kernel) (by decide +kernel), _, rfl, xw_sl 0 (by decide +kernel) (by decide +kernel)⟩
theorem xv_36 : xs_cl 36 1 := ⟨xw_t4 114 rfl (by decide +kernel), xw_t1 1 (by decide +kernel) (by decide +kernel), ⟨by decide +kernel, by decide +kernel⟩, by decide +kernel, by decide +kernel⟩
theorem xt_89 : xi_site RX9 (100, 36, 1, 15, 205) := ⟨xv_36, by decide +kernel, xw_t4 111 (by decide +kernel) (by decide +kernel), xw_t4 113 (by decide +kernel) (by decide +kernel), _, rfl, xw_sl 44 (by decide +kernel) (by decide +kernel)⟩
theorem xv_46 : xs_cl 46 0 := ⟨xw_t3 119 rfl (by decide +kernel), xw_t1 3 (by decide +kernel) (by decide +kernel), ⟨by decide +kernel, by decide +kernel⟩, by decide +kernel, by decide +kernel⟩
theorem xt_90 : xi_site RX9 (100, 46, 0, 8, 386) := ⟨xv_46, by decide +kernel, xw_t3 116 (by decide +kernel) (by decide +kernel), xw_t3 117 (by decide +kernel) (by decide +kernel), _, rfl, xw_t3 118 (by decide +kernel) (by decide +kernel)⟩
theorem xv_47 : xs_cl 47 2 := ⟨xw_t4 140 rfl (by decide +kernel), xw_t1 3 (by decide +kernel) (by decide +kernel), ⟨by decide +kernel, by decide +kernel⟩, by decide +kernel, by decide +kernel⟩
theorem xt_91 : xi_site RX9 (100, 47, 2, 8, 189) := ⟨xv_47, by decide +kernel, xw_t4 137 (by decide +kernel) (by decide +kernel), xw_t4 138 (by decide +kernel) (by decide +kernel), _, rfl, xw_t4 139 (by decide +kernel) (by decide +kernel)⟩
theorem xv_50 : xs_cl 50 0 := ⟨xw_t4 152 rfl (by decide +kernel), xw_t1 8 (by decide +kernel) (by decide +kernel), ⟨by decide +kernel, by decide +kernel⟩, by decide +kernel, by decide +kernel⟩
theorem xt_92 : xi_site RX9 (100, 50, 0, 10, 237) := ⟨xv_50, by decide +kernel, xw_t4 149 (by decide +kernel) (by decide +kernel), xw_t4 150 (by decide +kernel) (by decide +kernel), _, rfl, xw_t4 151 (by decide +kernel) (by decide +kernel)⟩
theorem xv_53 : xs_cl 53 2 := ⟨xw_t5 146 rfl (by decide +kernel), xw_t1 2 (by decide +kernel) (by decide +kernel), ⟨by decide +kernel, by decide +kernel⟩, by decide +kernel, by decide +kernel⟩
theorem xt_93 : xi_site RX9 (100, 53, 2, 12, 88) := ⟨xv_53, by decide +kernel, xw_t5 143 (by decide +kernel) (by decide +kernel), xw_t5 144 (by decide +kernel) (by decide +kernel), _, rfl, xw_t5 145 (by decide +kernel) (by decide +kernel)⟩
theorem xv_54 : xs_cl 54 4 := ⟨xw_t6 24 rfl (by decide +kernel), xw_t1 2 (by decide +kernel) (by decide +kernel), ⟨by decide +kernel, by decide +kernel⟩, by decide +kernel, by decide +kernel⟩
theorem xt_94 : xi_site RX9 (100, 54, 4, 12, 153) := ⟨xv_54, by decide +kernel, xw_t6 21 (by decide +kernel) (by decide +kernel), xw_t6 22 (by decide +kernel) (by decide +kernel), _, rfl, xw_t6 23 (by decide +kernel) (by decide +kernel)⟩
theorem xv_55 : xs_cl 55 1 := ⟨xw_t5 188 rfl (by decide +kernel), xw_t1 2 (by decide +kernel) (by decide +kernel), ⟨by decide +kernel, by decide +kernel⟩, by decide +kernel, by decide +kernel⟩
theorem xt_95 : xi_site RX9 (100, 55, 1, 12, 116) := ⟨xv_55, by decide +kernel, xw_t5 185 (by decide +kernel) (by decide +kernel), xw_t5 186 (by decide +kernel) (by decide +kernel), _, rfl, xw_t5 187 (by decide +kernel) (by decide +kernel)⟩
theorem xv_56 : xs_cl 56 1 := ⟨xw_t3 159 rfl (by decide +kernel), xw_t1 2 (by decide +kernel) (by decide +kernel), ⟨by decide +kernel, by decide +kernel⟩, by decide +kernel, by decide +kernel⟩
theorem xt_96 : xi_site RX9 (100, 56, 1, 12, 334) := ⟨xv_56, by decide +kernel, xw_t4 110 (by decide +kernel) (by decide +kernel), xw_t3 157 (by decide +kernel) (by decide +kernel), _, rfl, xw_t3 158 (by decide +kernel) (by decide +kernel)⟩
theorem xv_58 : xs_cl 58 1 := ⟨xw_t4 101 rfl (by decide +kernel), xw_t1 2 (by decide +kernel) (by decide +kernel), ⟨by decide +kernel, by decide +kernel⟩, by decide +kernel, by decide +kernel⟩
theorem xt_97 : xi_site RX9 (100, 58, 1, 12, 325) := ⟨xv_58, by decide +kernel, xw_t4 98 (by decide +kernel) (by decide +kernel), xw_t4 99 (by decide +kernel) (by decide +kernel), _, rfl, xw_t4 100 (by decide +kernel) (by decide +kernel)⟩
theorem xv_59 : xs_cl 59 0 := ⟨xw_t4 84 rfl (by decide +kernel), xw_t1 2 (by decide +kernel) (by decide +kernel), ⟨by decide +kernel, by decide +kernel⟩, by decide +kernel, by decide +kernel⟩
theorem xt_98 : xi_site RX9 (100, 59, 0, 12, 370) := ⟨xv_59, by decide +kernel, xw_t4 81 (by decide +kernel) (by decide +kernel), xw_t4 82 (by decide +kernel) (by decide +kernel), _, rfl, xw_t4 83 (by decide +kernel) (by decide +kernel)⟩
theorem xv_60 : xs_cl 60 0 := ⟨xw_t3 71 rfl (by decide +kernel), xw_t1 2 (by decide +kernel) (by decide +kernel), ⟨by decide +kernel, by decide +kernel⟩, by decide +kernel, by decide +kernel⟩
theorem xt_99 : xi_site RX9 (100, 60, 0, 12, 383) := ⟨xv_60, by decide +kernel, xw_t3 68 (by decide +kernel) (by decide +kernel), xw_t3 69 (by decide +kernel) (by decide +kernel), _, rfl, xw_t3 70 (by decide +kernel) (by decide +kernel)⟩
theorem xv_61 : xs_cl 61 1 := ⟨xw_t5 58 rfl (by decide +kernel), xw_t1 2 (by decide +kernel) (by decide +kernel), ⟨by decide +kernel, by decide +kernel⟩, by decide +kernel, by decide +kernel⟩
theorem xt_100 : xi_site RX9 (100, 61, 1, 12, 69) := ⟨xv_61, by decide +kernel, xw_t5 55 (by decide +kernel) (by decide +kernel), xw_t5 56 (by decide +kernel) (by decide +kernel), _, rfl, xw_t5 57 (by decide +kernel) (by decide +kernel)⟩
theorem xv_62 : xs_cl 62 1 := ⟨xw_t6 0 rfl (by decide +kernel), xw_t1 2 (by decide +kernel) (by decide +kernel), ⟨by decide +kernel, by decide +kernel⟩, by decide +kernel, by decide +kernel⟩
theorem xt_101 : xi_site RX9 (100, 62, 1, 12, 157) := ⟨xv_62, by decide +kernel, xw_t6 33 (by decide +kernel) (by decide +kernel), xw_t5 238 (by decide +kernel) (by decide +kernel), _, rfl, xw_t5 239 (by decide +kernel) (by decide +kernel)⟩
theorem xv_63 : xs_cl 63 1 := ⟨xw_t5 199 rfl (by decide +kernel), xw_t1 2 (by decide +kernel) (by decide +kernel), ⟨by decide +kernel, by decide +kernel⟩, by decide +kernel, by decide +kernel⟩
theorem xt_102 : xi_site RX9 (100, 63, 1, 12, 120) := ⟨xv_63, by decide +kernel, xw_t5 196 (by decide +kernel) (by decide +kernel), xw_t5 197 (by decide +kernel) (by decide +kernel), _, rfl, xw_t5 198 (by decide +kernel) (by decide +kernel)⟩
theorem xv_66 : xs_cl 66 4 := ⟨xw_t5 220 rfl (by decide +kernel), xw_t1 2 (by decide +kernel) (by decide +kernel), ⟨by decide +kernel, by decide +kernel⟩, by decide +kernel, by decide +kernel⟩
theorem xt_103 : xi_site RX9 (100, 66, 4, 12, 142) := ⟨xv_66, by decide +kernel, xw_t5 217 (by decide +kernel) (by decide +kernel), xw_t5 218 (by decide +kernel) (by decide +kernel), _, rfl, xw_t5 219 (by decide +kernel) (by decide +kernel)⟩
theorem xv_68 : xs_cl 68 1 := ⟨xw_t5 182 rfl (by decide +kernel), xw_t1 2 (by decide +kernel) (by decide +kernel), ⟨by decide +kernel, by decide +kernel⟩, by decide +kernel, by decide +kernel⟩
theorem xt_104 : xi_site RX9 (100, 68, 1, 12, 106) := ⟨xv_68, by decide +kernel, xw_t5 179 (by decide +kernel) (by decide +kernel), xw_t5 180 (by decide +kernel) (by decide +kernel), _, rfl, xw_t5 181 (by decide +kernel) (by decide +kernel)⟩
theorem xv_77 : xs_cl 77 1 := ⟨xw_t4 161 rfl (by decide +kernel), xw_t1 9 (by decide +kernel) (by decide +kernel), ⟨by decide +kernel, by decide +kernel⟩, by decide +kernel, by decide +kernel⟩
theorem xt_105 : xi_site RX9 (100, 77, 1, 14, 252) := ⟨xv_77, by decide +kernel, xw_t4 158 (by decide +kernel) (by decide +kernel), xw_t4 159 (by decide +kernel) (by decide +kernel), _, rfl, xw_t4 160 (by decide +kernel) (by decide +kernel)⟩
theorem xt_106 : xi_site RX0 (41, 6, 2, 2, 9) := ⟨RX0, TX0, 13, "UnwindTower$Code", tyX0, rfl, xu_6, by decide, xw_t1 204 (by decide +kernel) (by decide +kernel), Or.inl rfl, tyX0_ok, nmX0, rfl, (fun _ => rfl), .inr (.inr (.inl ⟨rfl, .inr ⟨_, rfl⟩⟩))⟩
theorem xt_107 : xi_site RX0 (41, 6, 3, 2, 15) := ⟨RX0, TX0, 13, "UnwindTower$Code", tyX0, rfl, xu_6, by decide, xw_t1 207 (by decide +kernel) (by decide +kernel), Or.inl rfl, tyX0_ok, nmX0, rfl, (fun _ => rfl), .inr (.inr (.inl ⟨rfl, .inr ⟨_, rfl⟩⟩))⟩
theorem xt_108 : xi_site RX0 (41, 6, 4, 2, 18) := ⟨RX0, TX0, 13, "UnwindTower$Code", tyX0, rfl, xu_6, by decide, xw_t1 210 (by decide +kernel) (by decide +kernel), Or.inl rfl, tyX0_ok, nmX0, rfl, (fun _ => rfl), .inr (.inr (.inl ⟨rfl, .inr ⟨_, rfl⟩⟩))⟩
theorem xt_109 : xi_site RX0 (41, 6, 5, 2, 21) := ⟨RX0, TX0, 13, "UnwindTower$Code", tyX0, rfl, xu_6, by decide, xw_t1 212 (by decide +kernel) (by decide +kernel), Or.inl rfl, tyX0_ok, nmX0, rfl, (fun _ => rfl), .inr (.inr (.inl ⟨rfl, .inr ⟨_, rfl⟩⟩))⟩
theorem xt_110 : xi_site RX0 (41, 6, 6, 2, 24) := ⟨RX0, TX0, 13, "UnwindTower$Code", tyX0, rfl, xu_6, by decide, xw_t1 214 (by decide +kernel) (by decide +kernel), Or.inl rfl, tyX0_ok, nmX0, rfl, (fun _ => rfl), .inr (.inr (.inl ⟨rfl, .inr ⟨_, rfl⟩⟩))⟩
theorem xt_111 : xi_site RX0 (41, 6, 7, 2, 27) := ⟨RX0, TX0, 13, "UnwindTower$Code", tyX0, rfl, xu_6, by decide, xw_t1 216 (by decide +kernel) (by decide +kernel), Or.inl rfl, tyX0_ok, nmX0, rfl, (fun _ => rfl), .inr (.inr (.inl ⟨rfl, .inr ⟨_, rfl⟩⟩))⟩
theorem xt_112 : xi_site RX0 (41, 6, 8, 2, 30) := ⟨RX0, TX0, 13, "UnwindTower$Code", tyX0, rfl, xu_6, by decide, xw_t1 218 (by decide +kernel) (by decide +kernel), Or.inl rfl, tyX0_ok, nmX0, rfl, (fun _ => rfl), .inr (.inr (.inl ⟨rfl, .inr ⟨_, rfl⟩⟩))⟩
theorem xt_113 : xi_site RX0 (41, 6, 9, 2, 33) := ⟨RX0, TX0, 13, "UnwindTower$Code", tyX0, rfl, xu_6, by decide, xw_t1 220 (by decide +kernel) (by decide +kernel), Or.inl rfl, tyX0_ok, nmX0, rfl, (fun _ => rfl), .inr (.inr (.inl ⟨rfl, .inr ⟨_, rfl⟩⟩))⟩
theorem xt_114 : xi_site RX0 (51, 0, 0, 0, 3) := ⟨xw_t1 197 (by decide +kernel) (by decide +kernel), xw_t1 52 (by decide +kernel) (by decide +kernel), xw_t1 53 (by decide +kernel) (by decide +kernel)⟩
theorem xt_115 : xi_site RX0 (57, 0, 0, 0, 0) := .inl ⟨rfl, xw_t1 152 (by decide +kernel) (by decide +kernel)⟩
theorem xt_116 : xi_site RX1 (38, 7, 3, 0, 11) := ⟨RX1, TX1, 15, "UnwindTower$Compiler", rfl, xu_7, by decide, xw_t2 58 (by decide +kernel) (by decide +kernel), Or.inl rfl⟩
theorem xt_117 : xi_site RX1 (40, 7, 13, 2, 51) := ⟨RX1, TX1, 15, "UnwindTower$Compiler", tyX1, rfl, xu_7, by decide, xw_t2 68 (by decide +kernel) (by decide +kernel), Or.inl rfl, tyX1_ok, nmX1, rfl, (fun h => nomatch h), .inr (.inr (.inl ⟨rfl, .inl ⟨_, rfl⟩⟩))⟩
theorem xt_118 : xi_site RX1 (41, 7, 0, 2, 39) := ⟨RX1, TX1, 15, "UnwindTower$Compiler", tyX1, rfl, xu_7, by decide, xw_t2 55 (by decide +kernel) (by decide +kernel), Or.inl rfl, tyX1_ok, nmX1, rfl, (fun _ => rfl), .inr (.inr (.inl ⟨rfl, .inl ⟨_, rfl⟩⟩))⟩
theorem xt_119 : xi_site RX1 (41, 7, 1, 2, 43) := ⟨RX1, TX1, 15, "UnwindTower$Compiler", tyX1, rfl, xu_7, by decide, xw_t2 56 (by decide +kernel) (by decide +kernel), Or.inl rfl, tyX1_ok, nmX1, rfl, (fun _ => rfl), .inr (.inr (.inl ⟨rfl, .inr ⟨_, rfl⟩⟩))⟩
theorem xt_120 : xi_site RX1 (41, 7, 2, 2, 47) := ⟨RX1, TX1, 15, "UnwindTower$Compiler", tyX1, rfl, xu_7, by decide, xw_t2 57 (by decide +kernel) (by decide +kernel), Or.inl rfl, tyX1_ok, nmX1, rfl, (fun _ => rfl), .inr (.inr (.inl ⟨rfl, .inl ⟨_, rfl⟩⟩))⟩
theorem xt_121 : xi_site RX1 (41, 7, 3, 2, 11) := ⟨RX1, TX1, 15, "UnwindTower$Compiler", tyX1, rfl, xu_7, by decide, xw_t2 58 (by decide +kernel) (by decide +kernel), Or.inl rfl, tyX1_ok, nmX1, rfl, (fun _ => rfl), .inr (.inr (.inl ⟨rfl, .inr ⟨_, rfl⟩⟩))⟩
theorem xt_122 : xi_site RX1 (41, 7, 4, 2, 17) := ⟨RX1, TX1, 15, "UnwindTower$Compiler", tyX1, rfl, xu_7, by decide, xw_t2 59 (by decide +kernel) (by decide +kernel), Or.inl rfl, tyX1_ok, nmX1, rfl, (fun _ => rfl), .inr (.inr (.inl ⟨rfl, .inr ⟨_, rfl⟩⟩))⟩
theorem xt_123 : xi_site RX1 (41, 7, 5, 2, 21) := ⟨RX1, TX1, 15, "UnwindTower$Compiler", tyX1, rfl, xu_7, by decide, xw_t2 60 (by decide +kernel) (by decide +kernel), Or.inl rfl, tyX1_ok, nmX1, rfl, (fun _ => rfl), .inr (.inr (.inl ⟨rfl, .inr ⟨_, rfl⟩⟩))⟩
theorem xt_124 : xi_site RX1 (41, 7, 6, 2, 24) := ⟨RX1, TX1, 15, "UnwindTower$Compiler", tyX1, rfl, xu_7, by decide, xw_t2 61 (by decide +kernel) (by decide +kernel), Or.inl rfl, tyX1_ok, nmX1, rfl, (fun _ => rfl), .inr (.inr (.inl ⟨rfl, .inr ⟨_, rfl⟩⟩))⟩
theorem xt_125 : xi_site RX1 (41, 7, 8, 2, 27) := ⟨RX1, TX1, 15, "UnwindTower$Compiler", tyX1, rfl, xu_7, by decide, xw_t2 63 (by decide +kernel) (by decide +kernel), Or.inl rfl, tyX1_ok, nmX1, rfl, (fun _ => rfl), .inr (.inr (.inl ⟨rfl, .inr ⟨_, rfl⟩⟩))⟩
theorem xt_126 : xi_site RX1 (41, 7, 9, 2, 30) := ⟨RX1, TX1, 15, "UnwindTower$Compiler", tyX1, rfl, xu_7, by decide, xw_t2 64 (by decide +kernel) (by decide +kernel), Or.inl rfl, tyX1_ok, nmX1, rfl, (fun _ => rfl), .inr (.inr (.inl ⟨rfl, .inr ⟨_, rfl⟩⟩))⟩
theorem xt_127 : xi_site RX1 (41, 7, 11, 2, 33) := ⟨RX1, TX1, 15, "UnwindTower$Compiler", tyX1, rfl, xu_7, by decide, xw_t2 66 (by decide +kernel) (by decide +kernel), Or.inl rfl, tyX1_ok, nmX1, rfl, (fun _ => rfl), .inr (.inr (.inl ⟨rfl, .inr ⟨_, rfl⟩⟩))⟩
theorem xt_128 : xi_site RX1 (41, 7, 12, 2, 36) := ⟨RX1, TX1, 15, "UnwindTower$Compiler", tyX1, rfl, xu_7, by decide, xw_t2 67 (by decide +kernel) (by decide +kernel), Or.inl rfl, tyX1_ok, nmX1, rfl, (fun _ => rfl), .inr (.inr (.inl ⟨rfl, .inr ⟨_, rfl⟩⟩))⟩
theorem xt_129 : xi_site RX1 (51, 0, 0, 0, 3) := ⟨xw_t2 22 (by decide +kernel) (by decide +kernel), xw_t1 52 (by decide +kernel) (by decide +kernel), xw_t1 53 (by decide +kernel) (by decide +kernel)⟩
theorem xt_130 : xi_site RX1 (56, 11, 0, 0, 9) := ⟨RX5, TX5, 6, tyX5, rfl, tyX5_ok, xw_t2 23 (by decide +kernel) (by decide +kernel), xw_t2 25 (by decide +kernel) (by decide +kernel), xw_t1 7 (by decide +kernel) (by decide +kernel), xu_11, by decide +kernel⟩
theorem xt_131 : xi_site RX1 (57, 0, 0, 0, 0) := .inl ⟨rfl, xw_t1 152 (by decide +kernel) (by decide +kernel)⟩
theorem xt_132 : xi_site RX1 (58, 2, 0, 0, 9) := ⟨by decide, by decide, "UnwindTower$Place", rfl, xw_t2 23 (by decide +kernel) (by decide +kernel), xw_t2 24 (by decide +kernel) (by decide +kernel)⟩
theorem xv_51 : xs_cl 51 0 := ⟨xw_t2 28 rfl (by decide +kernel), xw_t1 7 (by decide +kernel) (by decide +kernel), ⟨by decide +kernel, by decide +kernel⟩, by decide +kernel, by decide +kernel⟩
theorem xt_133 : xi_site RX1 (99, 51, 0, 11, 55) := ⟨xv_51, by decide +kernel, by decide +kernel, by decide +kernel, "UnwindTower", xw_t2 26 (by decide +kernel) (by decide +kernel), xw_t2 27 (by decide +kernel) (by decide +kernel)⟩
theorem xt_134 : xi_site RX2 (38, 8, 0, 0, 18) := ⟨RX2, TX2, 5, "UnwindTower$Faults", rfl, xu_8, by decide, xw_t1 159 (by decide +kernel) (by decide +kernel), Or.inl rfl⟩
theorem xt_135 : xi_site RX2 (38, 8, 1, 0, 11) := ⟨RX2, TX2, 5, "UnwindTower$Faults", rfl, xu_8, by decide, xw_t1 160 (by decide +kernel) (by decide +kernel), Or.inl rfl⟩
theorem xt_136 : xi_site RX2 (38, 8, 4, 0, 26) := ⟨RX2, TX2, 5, "UnwindTower$Faults", rfl, xu_8, by decide, xw_t1 163 (by decide +kernel) (by decide +kernel), Or.inl rfl⟩
theorem xt_137 : xi_site RX2 (38, 12, 4, 0, 34) := ⟨RX6, TX6, 19, "UnwindTower$Program", rfl, xu_12, by decide, xw_t1 72 (by decide +kernel) (by decide +kernel), Or.inl rfl⟩
theorem xt_138 : xi_site RX2 (38, 12, 6, 0, 39) := ⟨RX6, TX6, 19, "UnwindTower$Program", rfl, xu_12, by decide, xw_t1 79 (by decide +kernel) (by decide +kernel), Or.inl rfl⟩
theorem xt_139 : xi_site RX2 (40, 8, 4, 0, 26) := ⟨RX2, TX2, 5, "UnwindTower$Faults", tyX2, rfl, xu_8, by decide, xw_t1 163 (by decide +kernel) (by decide +kernel), Or.inl rfl, tyX2_ok, nmX2, rfl, (fun h => nomatch h), .inl ⟨rfl, rfl⟩⟩
theorem xt_140 : xi_site RX2 (41, 8, 0, 2, 18) := ⟨RX2, TX2, 5, "UnwindTower$Faults", tyX2, rfl, xu_8, by decide, xw_t1 159 (by decide +kernel) (by decide +kernel), Or.inl rfl, tyX2_ok, nmX2, rfl, (fun _ => rfl), .inr (.inr (.inl ⟨rfl, .inl ⟨_, rfl⟩⟩))⟩
theorem xt_141 : xi_site RX2 (41, 8, 1, 2, 11) := ⟨RX2, TX2, 5, "UnwindTower$Faults", tyX2, rfl, xu_8, by decide, xw_t1 160 (by decide +kernel) (by decide +kernel), Or.inl rfl, tyX2_ok, nmX2, rfl, (fun _ => rfl), .inr (.inr (.inl ⟨rfl, .inr ⟨_, rfl⟩⟩))⟩
theorem xt_142 : xi_site RX2 (41, 8, 2, 2, 15) := ⟨RX2, TX2, 5, "UnwindTower$Faults", tyX2, rfl, xu_8, by decide, xw_t1 161 (by decide +kernel) (by decide +kernel), Or.inl rfl, tyX2_ok, nmX2, rfl, (fun _ => rfl), .inr (.inr (.inl ⟨rfl, .inr ⟨_, rfl⟩⟩))⟩
theorem xt_143 : xi_site RX2 (51, 0, 0, 0, 3) := ⟨xw_t1 158 (by decide +kernel) (by decide +kernel), xw_t1 52 (by decide +kernel) (by decide +kernel), xw_t1 53 (by decide +kernel) (by decide +kernel)⟩
theorem xt_144 : xi_site RX2 (57, 0, 0, 0, 0) := .inl ⟨rfl, xw_t1 152 (by decide +kernel) (by decide +kernel)⟩
theorem xt_145 : xi_site RX2 (97, 2, 2, 0, 22) := ⟨xv_2, by decide +kernel, "UnwindTower", xw_t3 120 (by decide +kernel) (by decide +kernel), xw_t3 58 (by decide +kernel) (by decide +kernel)⟩
theorem xt_146 : xi_site RX2 (97, 28, 3, 0, 30) := ⟨xv_28, by decide +kernel, "UnwindTower", xw_t3 125 (by decide +kernel) (by decide +kernel), xw_t3 78 (by decide +kernel) (by decide +kernel)⟩
theorem xv_45 : xs_cl 45 4 := ⟨xw_t3 124 rfl (by decide +kernel), xw_t1 3 (by decide +kernel) (by decide +kernel), ⟨by decide +kernel, by decide +kernel⟩, by decide +kernel, by decide +kernel⟩
theorem xt_147 : xi_site RX2 (100, 45, 4, 8, 42) := ⟨xv_45, by decide +kernel, xw_t3 121 (by decide +kernel) (by decide +kernel), xw_t3 122 (by decide +kernel) (by decide +kernel), _, rfl, xw_t3 123 (by decide +kernel) (by decide +kernel)⟩
theorem xt_148 : xi_site RX3 (41, 9, 4, 2, 9) := ⟨RX3, TX3, 6, "UnwindTower$Frame", tyX3, rfl, xu_9, by decide, xw_t2 173 (by decide +kernel) (by decide +kernel), Or.inl rfl, tyX3_ok, nmX3, rfl, (fun _ => rfl), .inr (.inr (.inl ⟨rfl, .inr ⟨_, rfl⟩⟩))⟩
theorem xt_149 : xi_site RX3 (41, 9, 5, 2, 15) := ⟨RX3, TX3, 6, "UnwindTower$Frame", tyX3, rfl, xu_9, by decide, xw_t2 175 (by decide +kernel) (by decide +kernel), Or.inl rfl, tyX3_ok, nmX3, rfl, (fun _ => rfl), .inr (.inr (.inl ⟨rfl, .inr ⟨_, rfl⟩⟩))⟩
theorem xt_150 : xi_site RX3 (51, 0, 0, 0, 3) := ⟨xw_t2 168 (by decide +kernel) (by decide +kernel), xw_t1 52 (by decide +kernel) (by decide +kernel), xw_t1 53 (by decide +kernel) (by decide +kernel)⟩
theorem xt_151 : xi_site RX3 (57, 0, 0, 0, 0) := .inl ⟨rfl, xw_t1 152 (by decide +kernel) (by decide +kernel)⟩
theorem xt_152 : xi_site RX4 (38, 10, 4, 0, 18) := ⟨RX4, TX4, 18, "UnwindTower$Machine", rfl, xu_10, by decide, xw_t2 195 (by decide +kernel) (by decide +kernel), Or.inl rfl⟩
theorem xt_153 : xi_site RX4 (38, 10, 6, 0, 25) := ⟨RX4, TX4, 18, "UnwindTower$Machine", rfl, xu_10, by decide, xw_t2 199 (by decide +kernel) (by decide +kernel), Or.inl rfl⟩
theorem xt_154 : xi_site RX4 (38, 10, 11, 0, 39) := ⟨RX4, TX4, 18, "UnwindTower$Machine", rfl, xu_10, by decide, xw_t2 208 (by decide +kernel) (by decide +kernel), Or.inl rfl⟩
theorem xt_155 : xi_site RX4 (41, 10, 0, 2, 43) := ⟨RX4, TX4, 18, "UnwindTower$Machine", tyX4, rfl, xu_10, by decide, xw_t2 190 (by decide +kernel) (by decide +kernel), Or.inl rfl, tyX4_ok, nmX4, rfl, (fun _ => rfl), .inr (.inr (.inl ⟨rfl, .inl ⟨_, rfl⟩⟩))⟩
theorem xt_156 : xi_site RX4 (41, 10, 1, 2, 47) := ⟨RX4, TX4, 18, "UnwindTower$Machine", tyX4, rfl, xu_10, by decide, xw_t2 191 (by decide +kernel) (by decide +kernel), Or.inl rfl, tyX4_ok, nmX4, rfl, (fun _ => rfl), .inr (.inr (.inl ⟨rfl, .inr ⟨_, rfl⟩⟩))⟩
theorem xt_157 : xi_site RX4 (41, 10, 2, 2, 51) := ⟨RX4, TX4, 18, "UnwindTower$Machine", tyX4, rfl, xu_10, by decide, xw_t2 192 (by decide +kernel) (by decide +kernel), Or.inl rfl, tyX4_ok, nmX4, rfl, (fun _ => rfl), .inr (.inr (.inl ⟨rfl, .inl ⟨_, rfl⟩⟩))⟩
theorem xt_158 : xi_site RX4 (41, 10, 3, 2, 12) := ⟨RX4, TX4, 18, "UnwindTower$Machine", tyX4, rfl, xu_10, by decide, xw_t2 193 (by decide +kernel) (by decide +kernel), Or.inl rfl, tyX4_ok, nmX4, rfl, (fun _ => rfl), .inr (.inr (.inl ⟨rfl, .inl ⟨_, rfl⟩⟩))⟩
theorem xt_159 : xi_site RX4 (41, 10, 4, 2, 18) := ⟨RX4, TX4, 18, "UnwindTower$Machine", tyX4, rfl, xu_10, by decide, xw_t2 195 (by decide +kernel) (by decide +kernel), Or.inl rfl, tyX4_ok, nmX4, rfl, (fun _ => rfl), .inr (.inr (.inl ⟨rfl, .inr ⟨_, rfl⟩⟩))⟩
theorem xt_160 : xi_site RX4 (41, 10, 5, 2, 22) := ⟨RX4, TX4, 18, "UnwindTower$Machine", tyX4, rfl, xu_10, by decide, xw_t2 197 (by decide +kernel) (by decide +kernel), Or.inl rfl, tyX4_ok, nmX4, rfl, (fun _ => rfl), .inr (.inr (.inl ⟨rfl, .inr ⟨_, rfl⟩⟩))⟩
theorem xt_161 : xi_site RX4 (41, 10, 6, 2, 25) := ⟨RX4, TX4, 18, "UnwindTower$Machine", tyX4, rfl, xu_10, by decide, xw_t2 199 (by decide +kernel) (by decide +kernel), Or.inl rfl, tyX4_ok, nmX4, rfl, (fun _ => rfl), .inr (.inr (.inl ⟨rfl, .inr ⟨_, rfl⟩⟩))⟩
theorem xt_162 : xi_site RX4 (41, 10, 7, 2, 28) := ⟨RX4, TX4, 18, "UnwindTower$Machine", tyX4, rfl, xu_10, by decide, xw_t2 201 (by decide +kernel) (by decide +kernel), Or.inl rfl, tyX4_ok, nmX4, rfl, (fun _ => rfl), .inr (.inr (.inl ⟨rfl, .inr ⟨_, rfl⟩⟩))⟩
theorem xt_163 : xi_site RX4 (41, 10, 8, 2, 31) := ⟨RX4, TX4, 18, "UnwindTower$Machine", tyX4, rfl, xu_10, by decide, xw_t2 203 (by decide +kernel) (by decide +kernel), Or.inl rfl, tyX4_ok, nmX4, rfl, (fun _ => rfl), .inr (.inr (.inl ⟨rfl, .inr ⟨_, rfl⟩⟩))⟩
theorem xt_164 : xi_site RX4 (41, 10, 9, 2, 34) := ⟨RX4, TX4, 18, "UnwindTower$Machine", tyX4, rfl, xu_10, by decide, xw_t2 205 (by decide +kernel) (by decide +kernel), Or.inl rfl, tyX4_ok, nmX4, rfl, (fun _ => rfl), .inr (.inr (.inl ⟨rfl, .inr ⟨_, rfl⟩⟩))⟩
theorem xt_165 : xi_site RX4 (41, 10, 11, 2, 39) := ⟨RX4, TX4, 18, "UnwindTower$Machine", tyX4, rfl, xu_10, by decide, xw_t2 208 (by decide +kernel) (by decide +kernel), Or.inl rfl, tyX4_ok, nmX4, rfl, (fun _ => rfl), .inr (.inr (.inl ⟨rfl, .inr ⟨_, rfl⟩⟩))⟩
theorem xt_166 : xi_site RX4 (51, 0, 0, 0, 3) := ⟨xw_t2 106 (by decide +kernel) (by decide +kernel), xw_t1 52 (by decide +kernel) (by decide +kernel), xw_t1 53 (by decide +kernel) (by decide +kernel)⟩
theorem xt_167 : xi_site RX4 (56, 9, 0, 0, 37) := ⟨RX3, TX3, 6, tyX3, rfl, tyX3_ok, xw_t2 162 (by decide +kernel) (by decide +kernel), xw_t2 164 (by decide +kernel) (by decide +kernel), xw_t1 10 (by decide +kernel) (by decide +kernel), xu_9, by decide +kernel⟩
theorem xt_168 : xi_site RX4 (56, 14, 0, 0, 9) := ⟨RX8, TX8, 13, tyX8, rfl, tyX8_ok, xw_t2 107 (by decide +kernel) (by decide +kernel), xw_t2 108 (by decide +kernel) (by decide +kernel), xw_t1 9 (by decide +kernel) (by decide +kernel), xu_14, by decide +kernel⟩
theorem xt_169 : xi_site RX4 (57, 0, 0, 0, 0) := .inl ⟨rfl, xw_t1 152 (by decide +kernel) (by decide +kernel)⟩
theorem xt_170 : xi_site RX4 (58, 3, 0, 0, 37) := ⟨by decide, by decide, "UnwindTower$Frame", rfl, xw_t2 162 (by decide +kernel) (by decide +kernel), xw_t2 163 (by decide +kernel) (by decide +kernel)⟩
theorem xt_171 : xi_site RX4 (97, 2, 2, 0, 56) := ⟨xv_2, by decide +kernel, "UnwindTower", xw_t4 153 (by decide +kernel) (by decide +kernel), xw_t3 58 (by decide +kernel) (by decide +kernel)⟩
theorem xv_48 : xs_cl 48 0 := ⟨xw_t2 167 rfl (by decide +kernel), xw_t1 10 (by decide +kernel) (by decide +kernel), ⟨by decide +kernel, by decide +kernel⟩, by decide +kernel, by decide +kernel⟩
theorem xt_172 : xi_site RX4 (99, 48, 0, 9, 55) := ⟨xv_48, by decide +kernel, by decide +kernel, by decide +kernel, "UnwindTower", xw_t2 165 (by decide +kernel) (by decide +kernel), xw_t2 166 (by decide +kernel) (by decide +kernel)⟩
theorem xv_76 : xs_cl 76 0 := ⟨xw_t2 111 rfl (by decide +kernel), xw_t1 9 (by decide +kernel) (by decide +kernel), ⟨by decide +kernel, by decide +kernel⟩, by decide +kernel, by decide +kernel⟩
end
section
/-! sites -/
theorem xt_173 : xi_site RX4 (99, 76, 0, 14, 11) := ⟨xv_76, by decide +kernel, by decide +kernel, by decide +kernel, "UnwindTower", xw_t2 109 (by decide +kernel) (by decide +kernel), xw_t2 110 (by decide +kernel) (by decide +kernel)⟩
theorem xt_174 : xi_site RX5 (51, 0, 0, 0, 1) := ⟨xw_t2 29 (by decide +kernel) (by decide +kernel), xw_t1 52 (by decide +kernel) (by decide +kernel), xw_t1 53 (by decide +kernel) (by decide +kernel)⟩
theorem xt_175 : xi_site RX6 (38, 12, 0, 0, 9) := ⟨RX6, TX6, 19, "UnwindTower$Program", rfl, xu_12, by decide, xw_t1 60 (by decide +kernel) (by decide +kernel), Or.inl rfl⟩
theorem xt_176 : xi_site RX6 (38, 12, 1, 0, 15) := ⟨RX6, TX6, 19, "UnwindTower$Program", rfl, xu_12, by decide, xw_t1 63 (by decide +kernel) (by decide +kernel), Or.inl rfl⟩
theorem xt_177 : xi_site RX6 (38, 12, 2, 0, 19) := ⟨RX6, TX6, 19, "UnwindTower$Program", rfl, xu_12, by decide, xw_t1 65 (by decide +kernel) (by decide +kernel), Or.inl rfl⟩
theorem xt_178 : xi_site RX6 (38, 12, 3, 0, 22) := ⟨RX6, TX6, 19, "UnwindTower$Program", rfl, xu_12, by decide, xw_t1 68 (by decide +kernel) (by decide +kernel), Or.inl rfl⟩
theorem xt_179 : xi_site RX6 (38, 12, 4, 0, 25) := ⟨RX6, TX6, 19, "UnwindTower$Program", rfl, xu_12, by decide, xw_t1 71 (by decide +kernel) (by decide +kernel), Or.inl rfl⟩
theorem xt_180 : xi_site RX6 (38, 12, 5, 0, 28) := ⟨RX6, TX6, 19, "UnwindTower$Program", rfl, xu_12, by decide, xw_t1 74 (by decide +kernel) (by decide +kernel), Or.inl rfl⟩
theorem xt_181 : xi_site RX6 (38, 12, 6, 0, 31) := ⟨RX6, TX6, 19, "UnwindTower$Program", rfl, xu_12, by decide, xw_t1 77 (by decide +kernel) (by decide +kernel), Or.inl rfl⟩
theorem xt_182 : xi_site RX6 (38, 12, 7, 0, 67) := ⟨RX6, TX6, 19, "UnwindTower$Program", rfl, xu_12, by decide, xw_t1 81 (by decide +kernel) (by decide +kernel), Or.inl rfl⟩
theorem xt_183 : xi_site RX6 (38, 12, 8, 0, 34) := ⟨RX6, TX6, 19, "UnwindTower$Program", rfl, xu_12, by decide, xw_t1 83 (by decide +kernel) (by decide +kernel), Or.inl rfl⟩
theorem xt_184 : xi_site RX6 (38, 12, 9, 0, 37) := ⟨RX6, TX6, 19, "UnwindTower$Program", rfl, xu_12, by decide, xw_t1 87 (by decide +kernel) (by decide +kernel), Or.inl rfl⟩
theorem xt_185 : xi_site RX6 (38, 12, 10, 0, 40) := ⟨RX6, TX6, 19, "UnwindTower$Program", rfl, xu_12, by decide, xw_t1 91 (by decide +kernel) (by decide +kernel), Or.inl rfl⟩
theorem xt_186 : xi_site RX6 (38, 12, 11, 0, 43) := ⟨RX6, TX6, 19, "UnwindTower$Program", rfl, xu_12, by decide, xw_t1 95 (by decide +kernel) (by decide +kernel), Or.inl rfl⟩
theorem xt_187 : xi_site RX6 (38, 12, 12, 0, 46) := ⟨RX6, TX6, 19, "UnwindTower$Program", rfl, xu_12, by decide, xw_t1 98 (by decide +kernel) (by decide +kernel), Or.inl rfl⟩
theorem xt_188 : xi_site RX6 (38, 12, 13, 0, 49) := ⟨RX6, TX6, 19, "UnwindTower$Program", rfl, xu_12, by decide, xw_t1 100 (by decide +kernel) (by decide +kernel), Or.inl rfl⟩
theorem xt_189 : xi_site RX6 (40, 12, 0, 0, 9) := ⟨RX6, TX6, 19, "UnwindTower$Program", tyX6, rfl, xu_12, by decide, xw_t1 60 (by decide +kernel) (by decide +kernel), Or.inl rfl, tyX6_ok, nmX6, rfl, (fun h => nomatch h), .inl ⟨rfl, rfl⟩⟩
theorem xt_190 : xi_site RX6 (40, 12, 4, 0, 25) := ⟨RX6, TX6, 19, "UnwindTower$Program", tyX6, rfl, xu_12, by decide, xw_t1 71 (by decide +kernel) (by decide +kernel), Or.inl rfl, tyX6_ok, nmX6, rfl, (fun h => nomatch h), .inl ⟨rfl, rfl⟩⟩
theorem xt_191 : xi_site RX6 (40, 12, 7, 0, 67) := ⟨RX6, TX6, 19, "UnwindTower$Program", tyX6, rfl, xu_12, by decide, xw_t1 81 (by decide +kernel) (by decide +kernel), Or.inl rfl, tyX6_ok, nmX6, rfl, (fun h => nomatch h), .inl ⟨rfl, rfl⟩⟩
theorem xt_192 : xi_site RX6 (41, 12, 1, 2, 15) := ⟨RX6, TX6, 19, "UnwindTower$Program", tyX6, rfl, xu_12, by decide, xw_t1 63 (by decide +kernel) (by decide +kernel), Or.inl rfl, tyX6_ok, nmX6, rfl, (fun _ => rfl), .inr (.inr (.inl ⟨rfl, .inr ⟨_, rfl⟩⟩))⟩
theorem xt_193 : xi_site RX6 (41, 12, 2, 2, 19) := ⟨RX6, TX6, 19, "UnwindTower$Program", tyX6, rfl, xu_12, by decide, xw_t1 65 (by decide +kernel) (by decide +kernel), Or.inl rfl, tyX6_ok, nmX6, rfl, (fun _ => rfl), .inr (.inr (.inl ⟨rfl, .inr ⟨_, rfl⟩⟩))⟩
theorem xt_194 : xi_site RX6 (41, 12, 3, 2, 22) := ⟨RX6, TX6, 19, "UnwindTower$Program", tyX6, rfl, xu_12, by decide, xw_t1 68 (by decide +kernel) (by decide +kernel), Or.inl rfl, tyX6_ok, nmX6, rfl, (fun _ => rfl), .inr (.inr (.inl ⟨rfl, .inr ⟨_, rfl⟩⟩))⟩
theorem xt_195 : xi_site RX6 (41, 12, 5, 2, 28) := ⟨RX6, TX6, 19, "UnwindTower$Program", tyX6, rfl, xu_12, by decide, xw_t1 74 (by decide +kernel) (by decide +kernel), Or.inl rfl, tyX6_ok, nmX6, rfl, (fun _ => rfl), .inr (.inr (.inl ⟨rfl, .inr ⟨_, rfl⟩⟩))⟩
theorem xt_196 : xi_site RX6 (41, 12, 6, 2, 31) := ⟨RX6, TX6, 19, "UnwindTower$Program", tyX6, rfl, xu_12, by decide, xw_t1 77 (by decide +kernel) (by decide +kernel), Or.inl rfl, tyX6_ok, nmX6, rfl, (fun _ => rfl), .inr (.inr (.inl ⟨rfl, .inr ⟨_, rfl⟩⟩))⟩
theorem xt_197 : xi_site RX6 (41, 12, 8, 2, 34) := ⟨RX6, TX6, 19, "UnwindTower$Program", tyX6, rfl, xu_12, by decide, xw_t1 83 (by decide +kernel) (by decide +kernel), Or.inl rfl, tyX6_ok, nmX6, rfl, (fun _ => rfl), .inr (.inr (.inl ⟨rfl, .inr ⟨_, rfl⟩⟩))⟩
theorem xt_198 : xi_site RX6 (41, 12, 9, 2, 37) := ⟨RX6, TX6, 19, "UnwindTower$Program", tyX6, rfl, xu_12, by decide, xw_t1 87 (by decide +kernel) (by decide +kernel), Or.inl rfl, tyX6_ok, nmX6, rfl, (fun _ => rfl), .inr (.inr (.inl ⟨rfl, .inr ⟨_, rfl⟩⟩))⟩
theorem xt_199 : xi_site RX6 (41, 12, 10, 2, 40) := ⟨RX6, TX6, 19, "UnwindTower$Program", tyX6, rfl, xu_12, by decide, xw_t1 91 (by decide +kernel) (by decide +kernel), Or.inl rfl, tyX6_ok, nmX6, rfl, (fun _ => rfl), .inr (.inr (.inl ⟨rfl, .inr ⟨_, rfl⟩⟩))⟩
theorem xt_200 : xi_site RX6 (41, 12, 11, 2, 43) := ⟨RX6, TX6, 19, "UnwindTower$Program", tyX6, rfl, xu_12, by decide, xw_t1 95 (by decide +kernel) (by decide +kernel), Or.inl rfl, tyX6_ok, nmX6, rfl, (fun _ => rfl), .inr (.inr (.inl ⟨rfl, .inr ⟨_, rfl⟩⟩))⟩
theorem xt_201 : xi_site RX6 (41, 12, 12, 2, 46) := ⟨RX6, TX6, 19, "UnwindTower$Program", tyX6, rfl, xu_12, by decide, xw_t1 98 (by decide +kernel) (by decide +kernel), Or.inl rfl, tyX6_ok, nmX6, rfl, (fun _ => rfl), .inr (.inr (.inl ⟨rfl, .inr ⟨_, rfl⟩⟩))⟩
theorem xt_202 : xi_site RX6 (41, 12, 13, 2, 49) := ⟨RX6, TX6, 19, "UnwindTower$Program", tyX6, rfl, xu_12, by decide, xw_t1 100 (by decide +kernel) (by decide +kernel), Or.inl rfl, tyX6_ok, nmX6, rfl, (fun _ => rfl), .inr (.inr (.inl ⟨rfl, .inr ⟨_, rfl⟩⟩))⟩
theorem xt_203 : xi_site RX6 (41, 12, 14, 2, 52) := ⟨RX6, TX6, 19, "UnwindTower$Program", tyX6, rfl, xu_12, by decide, xw_t1 101 (by decide +kernel) (by decide +kernel), Or.inl rfl, tyX6_ok, nmX6, rfl, (fun _ => rfl), .inr (.inr (.inl ⟨rfl, .inr ⟨_, rfl⟩⟩))⟩
theorem xt_204 : xi_site RX6 (41, 12, 15, 2, 55) := ⟨RX6, TX6, 19, "UnwindTower$Program", tyX6, rfl, xu_12, by decide, xw_t1 103 (by decide +kernel) (by decide +kernel), Or.inl rfl, tyX6_ok, nmX6, rfl, (fun _ => rfl), .inr (.inr (.inl ⟨rfl, .inr ⟨_, rfl⟩⟩))⟩
theorem xt_205 : xi_site RX6 (41, 12, 16, 2, 58) := ⟨RX6, TX6, 19, "UnwindTower$Program", tyX6, rfl, xu_12, by decide, xw_t1 105 (by decide +kernel) (by decide +kernel), Or.inl rfl, tyX6_ok, nmX6, rfl, (fun _ => rfl), .inr (.inr (.inl ⟨rfl, .inr ⟨_, rfl⟩⟩))⟩
theorem xt_206 : xi_site RX6 (41, 12, 17, 2, 61) := ⟨RX6, TX6, 19, "UnwindTower$Program", tyX6, rfl, xu_12, by decide, xw_t1 107 (by decide +kernel) (by decide +kernel), Or.inl rfl, tyX6_ok, nmX6, rfl, (fun _ => rfl), .inr (.inr (.inl ⟨rfl, .inr ⟨_, rfl⟩⟩))⟩
theorem xt_207 : xi_site RX6 (41, 12, 18, 2, 64) := ⟨RX6, TX6, 19, "UnwindTower$Program", tyX6, rfl, xu_12, by decide, xw_t1 110 (by decide +kernel) (by decide +kernel), Or.inl rfl, tyX6_ok, nmX6, rfl, (fun _ => rfl), .inr (.inr (.inl ⟨rfl, .inr ⟨_, rfl⟩⟩))⟩
theorem xt_208 : xi_site RX6 (51, 0, 0, 0, 3) := ⟨xw_t1 59 (by decide +kernel) (by decide +kernel), xw_t1 52 (by decide +kernel) (by decide +kernel), xw_t1 53 (by decide +kernel) (by decide +kernel)⟩
theorem xt_209 : xi_site RX6 (57, 0, 0, 0, 0) := .inl ⟨rfl, xw_t1 152 (by decide +kernel) (by decide +kernel)⟩
theorem xt_210 : xi_site RX6 (97, 2, 2, 0, 70) := ⟨xv_2, by decide +kernel, "UnwindTower", xw_t3 76 (by decide +kernel) (by decide +kernel), xw_t3 58 (by decide +kernel) (by decide +kernel)⟩
theorem xt_211 : xi_site RX6 (97, 28, 3, 0, 78) := ⟨xv_28, by decide +kernel, "UnwindTower", xw_t3 77 (by decide +kernel) (by decide +kernel), xw_t3 78 (by decide +kernel) (by decide +kernel)⟩
theorem xv_57 : xs_cl 57 1 := ⟨xw_t3 91 rfl (by decide +kernel), xw_t1 2 (by decide +kernel) (by decide +kernel), ⟨by decide +kernel, by decide +kernel⟩, by decide +kernel, by decide +kernel⟩
theorem xt_212 : xi_site RX6 (100, 57, 1, 12, 136) := ⟨xv_57, by decide +kernel, xw_t3 88 (by decide +kernel) (by decide +kernel), xw_t3 90 (by decide +kernel) (by decide +kernel), _, rfl, xw_sl 4 (by decide +kernel) (by decide +kernel)⟩
theorem xt_213 : xi_site RX6 (100, 61, 1, 12, 104) := ⟨xv_61, by decide +kernel, xw_t6 6 (by decide +kernel) (by decide +kernel), xw_t5 56 (by decide +kernel) (by decide +kernel), _, rfl, xw_t5 57 (by decide +kernel) (by decide +kernel)⟩
theorem xt_214 : xi_site RX6 (100, 62, 1, 12, 74) := ⟨xv_62, by decide +kernel, xw_t5 237 (by decide +kernel) (by decide +kernel), xw_t5 238 (by decide +kernel) (by decide +kernel), _, rfl, xw_t5 239 (by decide +kernel) (by decide +kernel)⟩
theorem xt_215 : xi_site RX6 (100, 63, 1, 12, 101) := ⟨xv_63, by decide +kernel, xw_t6 5 (by decide +kernel) (by decide +kernel), xw_t5 197 (by decide +kernel) (by decide +kernel), _, rfl, xw_t5 198 (by decide +kernel) (by decide +kernel)⟩
theorem xv_64 : xs_cl 64 1 := ⟨xw_t5 236 rfl (by decide +kernel), xw_t1 2 (by decide +kernel) (by decide +kernel), ⟨by decide +kernel, by decide +kernel⟩, by decide +kernel, by decide +kernel⟩
theorem xt_216 : xi_site RX6 (100, 64, 1, 12, 117) := ⟨xv_64, by decide +kernel, xw_t5 233 (by decide +kernel) (by decide +kernel), xw_t5 234 (by decide +kernel) (by decide +kernel), _, rfl, xw_t5 235 (by decide +kernel) (by decide +kernel)⟩
theorem xv_65 : xs_cl 65 1 := ⟨xw_t5 232 rfl (by decide +kernel), xw_t1 2 (by decide +kernel) (by decide +kernel), ⟨by decide +kernel, by decide +kernel⟩, by decide +kernel, by decide +kernel⟩
theorem xt_217 : xi_site RX6 (100, 65, 1, 12, 98) := ⟨xv_65, by decide +kernel, xw_t5 229 (by decide +kernel) (by decide +kernel), xw_t5 231 (by decide +kernel) (by decide +kernel), _, rfl, xw_sl 71 (by decide +kernel) (by decide +kernel)⟩
theorem xv_67 : xs_cl 67 1 := ⟨xw_t5 228 rfl (by decide +kernel), xw_t1 2 (by decide +kernel) (by decide +kernel), ⟨by decide +kernel, by decide +kernel⟩, by decide +kernel, by decide +kernel⟩
theorem xt_218 : xi_site RX6 (100, 67, 1, 12, 95) := ⟨xv_67, by decide +kernel, xw_t5 225 (by decide +kernel) (by decide +kernel), xw_t5 227 (by decide +kernel) (by decide +kernel), _, rfl, xw_sl 70 (by decide +kernel) (by decide +kernel)⟩
theorem xv_69 : xs_cl 69 3 := ⟨xw_t6 10 rfl (by decide +kernel), xw_t1 2 (by decide +kernel) (by decide +kernel), ⟨by decide +kernel, by decide +kernel⟩, by decide +kernel, by decide +kernel⟩
theorem xt_219 : xi_site RX6 (100, 69, 3, 12, 107) := ⟨xv_69, by decide +kernel, xw_t6 7 (by decide +kernel) (by decide +kernel), xw_t6 9 (by decide +kernel) (by decide +kernel), _, rfl, xw_sl 72 (by decide +kernel) (by decide +kernel)⟩
theorem xv_70 : xs_cl 70 3 := ⟨xw_t6 18 rfl (by decide +kernel), xw_t1 2 (by decide +kernel) (by decide +kernel), ⟨by decide +kernel, by decide +kernel⟩, by decide +kernel, by decide +kernel⟩
theorem xt_220 : xi_site RX6 (100, 70, 3, 12, 114) := ⟨xv_70, by decide +kernel, xw_t6 15 (by decide +kernel) (by decide +kernel), xw_t6 17 (by decide +kernel) (by decide +kernel), _, rfl, xw_sl 74 (by decide +kernel) (by decide +kernel)⟩
theorem xv_71 : xs_cl 71 1 := ⟨xw_t5 224 rfl (by decide +kernel), xw_t1 2 (by decide +kernel) (by decide +kernel), ⟨by decide +kernel, by decide +kernel⟩, by decide +kernel, by decide +kernel⟩
theorem xt_221 : xi_site RX6 (100, 71, 1, 12, 92) := ⟨xv_71, by decide +kernel, xw_t5 221 (by decide +kernel) (by decide +kernel), xw_t5 223 (by decide +kernel) (by decide +kernel), _, rfl, xw_sl 69 (by decide +kernel) (by decide +kernel)⟩
theorem xv_72 : xs_cl 72 1 := ⟨xw_t3 151 rfl (by decide +kernel), xw_t1 2 (by decide +kernel) (by decide +kernel), ⟨by decide +kernel, by decide +kernel⟩, by decide +kernel, by decide +kernel⟩
theorem xt_222 : xi_site RX6 (100, 72, 1, 12, 82) := ⟨xv_72, by decide +kernel, xw_t6 25 (by decide +kernel) (by decide +kernel), xw_t3 149 (by decide +kernel) (by decide +kernel), _, rfl, xw_t3 150 (by decide +kernel) (by decide +kernel)⟩
theorem xv_73 : xs_cl 73 1 := ⟨xw_t3 99 rfl (by decide +kernel), xw_t1 2 (by decide +kernel) (by decide +kernel), ⟨by decide +kernel, by decide +kernel⟩, by decide +kernel, by decide +kernel⟩
theorem xt_223 : xi_site RX6 (100, 73, 1, 12, 86) := ⟨xv_73, by decide +kernel, xw_t3 96 (by decide +kernel) (by decide +kernel), xw_t3 97 (by decide +kernel) (by decide +kernel), _, rfl, xw_t3 98 (by decide +kernel) (by decide +kernel)⟩
theorem xv_74 : xs_cl 74 1 := ⟨xw_t3 103 rfl (by decide +kernel), xw_t1 2 (by decide +kernel) (by decide +kernel), ⟨by decide +kernel, by decide +kernel⟩, by decide +kernel, by decide +kernel⟩
theorem xt_224 : xi_site RX6 (100, 74, 1, 12, 89) := ⟨xv_74, by decide +kernel, xw_t3 100 (by decide +kernel) (by decide +kernel), xw_t3 101 (by decide +kernel) (by decide +kernel), _, rfl, xw_t3 102 (by decide +kernel) (by decide +kernel)⟩
theorem xt_225 : xi_site RX7 (40, 13, 0, 2, 9) := ⟨RX7, TX7, 2, "UnwindTower$Table", tyX7, rfl, xu_13, by decide, xw_t1 182 (by decide +kernel) (by decide +kernel), Or.inl rfl, tyX7_ok, nmX7, rfl, (fun h => nomatch h), .inr (.inr (.inl ⟨rfl, .inr ⟨_, rfl⟩⟩))⟩
theorem xt_226 : xi_site RX7 (51, 0, 0, 0, 1) := ⟨xw_t1 181 (by decide +kernel) (by decide +kernel), xw_t1 52 (by decide +kernel) (by decide +kernel), xw_t1 53 (by decide +kernel) (by decide +kernel)⟩
theorem xt_227 : xi_site RX7 (57, 0, 0, 0, 0) := .inl ⟨rfl, xw_t1 152 (by decide +kernel) (by decide +kernel)⟩
theorem xt_228 : xi_site RX8 (38, 14, 0, 0, 45) := ⟨RX8, TX8, 13, "UnwindTower$Thrown", rfl, xu_14, by decide, xw_t2 113 (by decide +kernel) (by decide +kernel), Or.inl rfl⟩
theorem xt_229 : xi_site RX8 (41, 14, 2, 2, 9) := ⟨RX8, TX8, 13, "UnwindTower$Thrown", tyX8, rfl, xu_14, by decide, xw_t2 117 (by decide +kernel) (by decide +kernel), Or.inl rfl, tyX8_ok, nmX8, rfl, (fun _ => rfl), .inr (.inr (.inl ⟨rfl, .inr ⟨_, rfl⟩⟩))⟩
theorem xt_230 : xi_site RX8 (41, 14, 3, 2, 15) := ⟨RX8, TX8, 13, "UnwindTower$Thrown", tyX8, rfl, xu_14, by decide, xw_t2 119 (by decide +kernel) (by decide +kernel), Or.inl rfl, tyX8_ok, nmX8, rfl, (fun _ => rfl), .inr (.inr (.inl ⟨rfl, .inr ⟨_, rfl⟩⟩))⟩
theorem xt_231 : xi_site RX8 (41, 14, 4, 2, 18) := ⟨RX8, TX8, 13, "UnwindTower$Thrown", tyX8, rfl, xu_14, by decide, xw_t2 120 (by decide +kernel) (by decide +kernel), Or.inl rfl, tyX8_ok, nmX8, rfl, (fun _ => rfl), .inr (.inr (.inl ⟨rfl, .inr ⟨_, rfl⟩⟩))⟩
theorem xt_232 : xi_site RX8 (41, 14, 5, 2, 21) := ⟨RX8, TX8, 13, "UnwindTower$Thrown", tyX8, rfl, xu_14, by decide, xw_t2 122 (by decide +kernel) (by decide +kernel), Or.inl rfl, tyX8_ok, nmX8, rfl, (fun _ => rfl), .inr (.inr (.inl ⟨rfl, .inr ⟨_, rfl⟩⟩))⟩
theorem xt_233 : xi_site RX8 (41, 14, 6, 2, 24) := ⟨RX8, TX8, 13, "UnwindTower$Thrown", tyX8, rfl, xu_14, by decide, xw_t2 123 (by decide +kernel) (by decide +kernel), Or.inl rfl, tyX8_ok, nmX8, rfl, (fun _ => rfl), .inr (.inr (.inl ⟨rfl, .inr ⟨_, rfl⟩⟩))⟩
theorem xt_234 : xi_site RX8 (41, 14, 7, 2, 27) := ⟨RX8, TX8, 13, "UnwindTower$Thrown", tyX8, rfl, xu_14, by decide, xw_t2 125 (by decide +kernel) (by decide +kernel), Or.inl rfl, tyX8_ok, nmX8, rfl, (fun _ => rfl), .inr (.inr (.inl ⟨rfl, .inr ⟨_, rfl⟩⟩))⟩
theorem xt_235 : xi_site RX8 (41, 14, 8, 2, 30) := ⟨RX8, TX8, 13, "UnwindTower$Thrown", tyX8, rfl, xu_14, by decide, xw_t2 126 (by decide +kernel) (by decide +kernel), Or.inl rfl, tyX8_ok, nmX8, rfl, (fun _ => rfl), .inr (.inr (.inl ⟨rfl, .inr ⟨_, rfl⟩⟩))⟩
theorem xt_236 : xi_site RX8 (41, 14, 9, 2, 33) := ⟨RX8, TX8, 13, "UnwindTower$Thrown", tyX8, rfl, xu_14, by decide, xw_t2 128 (by decide +kernel) (by decide +kernel), Or.inl rfl, tyX8_ok, nmX8, rfl, (fun _ => rfl), .inr (.inr (.inl ⟨rfl, .inr ⟨_, rfl⟩⟩))⟩
theorem xt_237 : xi_site RX8 (41, 14, 10, 2, 36) := ⟨RX8, TX8, 13, "UnwindTower$Thrown", tyX8, rfl, xu_14, by decide, xw_t2 130 (by decide +kernel) (by decide +kernel), Or.inl rfl, tyX8_ok, nmX8, rfl, (fun _ => rfl), .inr (.inr (.inl ⟨rfl, .inr ⟨_, rfl⟩⟩))⟩
theorem xt_238 : xi_site RX8 (41, 14, 11, 2, 39) := ⟨RX8, TX8, 13, "UnwindTower$Thrown", tyX8, rfl, xu_14, by decide, xw_t2 131 (by decide +kernel) (by decide +kernel), Or.inl rfl, tyX8_ok, nmX8, rfl, (fun _ => rfl), .inr (.inr (.inl ⟨rfl, .inr ⟨_, rfl⟩⟩))⟩
theorem xt_239 : xi_site RX8 (41, 14, 12, 2, 42) := ⟨RX8, TX8, 13, "UnwindTower$Thrown", tyX8, rfl, xu_14, by decide, xw_t2 133 (by decide +kernel) (by decide +kernel), Or.inl rfl, tyX8_ok, nmX8, rfl, (fun _ => rfl), .inr (.inr (.inl ⟨rfl, .inr ⟨_, rfl⟩⟩))⟩
theorem xt_240 : xi_site RX8 (51, 0, 0, 0, 3) := ⟨xw_t2 112 (by decide +kernel) (by decide +kernel), xw_t1 52 (by decide +kernel) (by decide +kernel), xw_t1 53 (by decide +kernel) (by decide +kernel)⟩
theorem xt_241 : xi_site RX8 (57, 0, 0, 0, 0) := .inl ⟨rfl, xw_t1 152 (by decide +kernel) (by decide +kernel)⟩
theorem xt_242 : xi_site RL (56, 15, 0, 0, 8) := ⟨RX9, TX9, 12, tyX9, rfl, tyX9_ok, xw_t1 46 (by decide +kernel) (by decide +kernel), xw_t1 47 (by decide +kernel) (by decide +kernel), xw_t1 1 (by decide +kernel) (by decide +kernel), xu_15, by decide +kernel⟩
theorem xt_243 : xi_site RL (56, 25, 0, 0, 91) := ⟨RX19, TX19, 7, tyX19, rfl, tyX19_ok, xw_t6 175 (by decide +kernel) (by decide +kernel), xw_t6 176 (by decide +kernel) (by decide +kernel), xw_t1 11 (by decide +kernel) (by decide +kernel), xu_25, by decide +kernel⟩
theorem xt_244 : xi_site RL (57, 5, 0, 0, 0) := .inr ⟨rfl, xw_t12 37 (by decide +kernel) (by decide +kernel)⟩
theorem xv_78 : xs_cl 78 4 := ⟨xw_t6 28 rfl (by decide +kernel), xw_t1 0 (by decide +kernel) (by decide +kernel), ⟨by decide +kernel, by decide +kernel⟩, by decide +kernel, by decide +kernel⟩
theorem xt_245 : xi_site RL (96, 78, 4, 0, 121) := ⟨xv_78, xw_t6 26 (by decide +kernel) (by decide +kernel), xw_t6 27 (by decide +kernel) (by decide +kernel)⟩
theorem xv_79 : xs_cl 79 4 := ⟨xw_t6 162 rfl (by decide +kernel), xw_t1 0 (by decide +kernel) (by decide +kernel), ⟨by decide +kernel, by decide +kernel⟩, by decide +kernel, by decide +kernel⟩
theorem xt_246 : xi_site RL (96, 79, 4, 0, 178) := ⟨xv_79, xw_t6 160 (by decide +kernel) (by decide +kernel), xw_t6 161 (by decide +kernel) (by decide +kernel)⟩
theorem xv_80 : xs_cl 80 5 := ⟨xw_t6 63 rfl (by decide +kernel), xw_t1 0 (by decide +kernel) (by decide +kernel), ⟨by decide +kernel, by decide +kernel⟩, by decide +kernel, by decide +kernel⟩
theorem xt_247 : xi_site RL (96, 80, 5, 0, 135) := ⟨xv_80, xw_t6 61 (by decide +kernel) (by decide +kernel), xw_t6 62 (by decide +kernel) (by decide +kernel)⟩
theorem xv_81 : xs_cl 81 4 := ⟨xw_t6 115 rfl (by decide +kernel), xw_t1 0 (by decide +kernel) (by decide +kernel), ⟨by decide +kernel, by decide +kernel⟩, by decide +kernel, by decide +kernel⟩
theorem xt_248 : xi_site RL (96, 81, 4, 0, 155) := ⟨xv_81, xw_t6 113 (by decide +kernel) (by decide +kernel), xw_t6 114 (by decide +kernel) (by decide +kernel)⟩
theorem xv_82 : xs_cl 82 4 := ⟨xw_t6 54 rfl (by decide +kernel), xw_t1 0 (by decide +kernel) (by decide +kernel), ⟨by decide +kernel, by decide +kernel⟩, by decide +kernel, by decide +kernel⟩
theorem xt_249 : xi_site RL (96, 82, 4, 0, 127) := ⟨xv_82, xw_t6 52 (by decide +kernel) (by decide +kernel), xw_t6 53 (by decide +kernel) (by decide +kernel)⟩
theorem xv_83 : xs_cl 83 4 := ⟨xw_t6 170 rfl (by decide +kernel), xw_t1 0 (by decide +kernel) (by decide +kernel), ⟨by decide +kernel, by decide +kernel⟩, by decide +kernel, by decide +kernel⟩
theorem xt_250 : xi_site RL (96, 83, 4, 0, 181) := ⟨xv_83, xw_t6 168 (by decide +kernel) (by decide +kernel), xw_t6 169 (by decide +kernel) (by decide +kernel)⟩
theorem xv_84 : xs_cl 84 3 := ⟨xw_t6 139 rfl (by decide +kernel), xw_t1 0 (by decide +kernel) (by decide +kernel), ⟨by decide +kernel, by decide +kernel⟩, by decide +kernel, by decide +kernel⟩
theorem xt_251 : xi_site RL (96, 84, 3, 0, 164) := ⟨xv_84, xw_t6 137 (by decide +kernel) (by decide +kernel), xw_t6 138 (by decide +kernel) (by decide +kernel)⟩
theorem xv_85 : xs_cl 85 4 := ⟨xw_t5 48 rfl (by decide +kernel), xw_t1 0 (by decide +kernel) (by decide +kernel), ⟨by decide +kernel, by decide +kernel⟩, by decide +kernel, by decide +kernel⟩
theorem xt_252 : xi_site RL (96, 85, 4, 0, 94) := ⟨xv_85, xw_t5 46 (by decide +kernel) (by decide +kernel), xw_t5 47 (by decide +kernel) (by decide +kernel)⟩
theorem xv_86 : xs_cl 86 4 := ⟨xw_t6 79 rfl (by decide +kernel), xw_t1 0 (by decide +kernel) (by decide +kernel), ⟨by decide +kernel, by decide +kernel⟩, by decide +kernel, by decide +kernel⟩
theorem xt_253 : xi_site RL (96, 86, 4, 0, 142) := ⟨xv_86, xw_t6 77 (by decide +kernel) (by decide +kernel), xw_t6 78 (by decide +kernel) (by decide +kernel)⟩
theorem xv_87 : xs_cl 87 3 := ⟨xw_t6 147 rfl (by decide +kernel), xw_t1 0 (by decide +kernel) (by decide +kernel), ⟨by decide +kernel, by decide +kernel⟩, by decide +kernel, by decide +kernel⟩
theorem xt_254 : xi_site RL (96, 87, 3, 0, 172) := ⟨xv_87, xw_t6 145 (by decide +kernel) (by decide +kernel), xw_t6 146 (by decide +kernel) (by decide +kernel)⟩
theorem xv_88 : xs_cl 88 6 := ⟨xw_t5 212 rfl (by decide +kernel), xw_t1 0 (by decide +kernel) (by decide +kernel), ⟨by decide +kernel, by decide +kernel⟩, by decide +kernel, by decide +kernel⟩
theorem xt_255 : xi_site RL (96, 88, 6, 0, 117) := ⟨xv_88, xw_t5 210 (by decide +kernel) (by decide +kernel), xw_t5 211 (by decide +kernel) (by decide +kernel)⟩
theorem xv_89 : xs_cl 89 4 := ⟨xw_t5 149 rfl (by decide +kernel), xw_t1 0 (by decide +kernel) (by decide +kernel), ⟨by decide +kernel, by decide +kernel⟩, by decide +kernel, by decide +kernel⟩
theorem xt_256 : xi_site RL (96, 89, 4, 0, 103) := ⟨xv_89, xw_t5 147 (by decide +kernel) (by decide +kernel), xw_t5 148 (by decide +kernel) (by decide +kernel)⟩
theorem xv_90 : xs_cl 90 4 := ⟨xw_t6 45 rfl (by decide +kernel), xw_t1 0 (by decide +kernel) (by decide +kernel), ⟨by decide +kernel, by decide +kernel⟩, by decide +kernel, by decide +kernel⟩
theorem xt_257 : xi_site RL (96, 90, 4, 0, 124) := ⟨xv_90, xw_t6 43 (by decide +kernel) (by decide +kernel), xw_t6 44 (by decide +kernel) (by decide +kernel)⟩
theorem xv_91 : xs_cl 91 4 := ⟨xw_t5 204 rfl (by decide +kernel), xw_t1 0 (by decide +kernel) (by decide +kernel), ⟨by decide +kernel, by decide +kernel⟩, by decide +kernel, by decide +kernel⟩
theorem xt_258 : xi_site RL (96, 91, 4, 0, 114) := ⟨xv_91, xw_t5 202 (by decide +kernel) (by decide +kernel), xw_t5 203 (by decide +kernel) (by decide +kernel)⟩
theorem xv_92 : xs_cl 92 3 := ⟨xw_t6 98 rfl (by decide +kernel), xw_t1 0 (by decide +kernel) (by decide +kernel), ⟨by decide +kernel, by decide +kernel⟩, by decide +kernel, by decide +kernel⟩
theorem xt_259 : xi_site RL (96, 92, 3, 0, 149) := ⟨xv_92, xw_t6 96 (by decide +kernel) (by decide +kernel), xw_t6 97 (by decide +kernel) (by decide +kernel)⟩
theorem xv_93 : xs_cl 93 4 := ⟨xw_t6 106 rfl (by decide +kernel), xw_t1 0 (by decide +kernel) (by decide +kernel), ⟨by decide +kernel, by decide +kernel⟩, by decide +kernel, by decide +kernel⟩
theorem xt_260 : xi_site RL (96, 93, 4, 0, 152) := ⟨xv_93, xw_t6 104 (by decide +kernel) (by decide +kernel), xw_t6 105 (by decide +kernel) (by decide +kernel)⟩
theorem xv_94 : xs_cl 94 3 := ⟨xw_t5 174 rfl (by decide +kernel), xw_t1 0 (by decide +kernel) (by decide +kernel), ⟨by decide +kernel, by decide +kernel⟩, by decide +kernel, by decide +kernel⟩
theorem xt_261 : xi_site RL (96, 94, 3, 0, 107) := ⟨xv_94, xw_t5 172 (by decide +kernel) (by decide +kernel), xw_t5 173 (by decide +kernel) (by decide +kernel)⟩
theorem xv_95 : xs_cl 95 5 := ⟨xw_t6 71 rfl (by decide +kernel), xw_t1 0 (by decide +kernel) (by decide +kernel), ⟨by decide +kernel, by decide +kernel⟩, by decide +kernel, by decide +kernel⟩
theorem xt_262 : xi_site RL (96, 95, 5, 0, 139) := ⟨xv_95, xw_t6 69 (by decide +kernel) (by decide +kernel), xw_t6 70 (by decide +kernel) (by decide +kernel)⟩
theorem xv_96 : xs_cl 96 2 := ⟨xw_t6 90 rfl (by decide +kernel), xw_t1 0 (by decide +kernel) (by decide +kernel), ⟨by decide +kernel, by decide +kernel⟩, by decide +kernel, by decide +kernel⟩
theorem xt_263 : xi_site RL (96, 96, 2, 0, 145) := ⟨xv_96, xw_t6 88 (by decide +kernel) (by decide +kernel), xw_t6 89 (by decide +kernel) (by decide +kernel)⟩
end
section
/-! sites -/
theorem xv_97 : xs_cl 97 4 := ⟨xw_t6 123 rfl (by decide +kernel), xw_t1 0 (by decide +kernel) (by decide +kernel), ⟨by decide +kernel, by decide +kernel⟩, by decide +kernel, by decide +kernel⟩
theorem xt_264 : xi_site RL (96, 97, 4, 0, 158) := ⟨xv_97, xw_t6 121 (by decide +kernel) (by decide +kernel), xw_t6 122 (by decide +kernel) (by decide +kernel)⟩
theorem xv_98 : xs_cl 98 4 := ⟨xw_t5 191 rfl (by decide +kernel), xw_t1 0 (by decide +kernel) (by decide +kernel), ⟨by decide +kernel, by decide +kernel⟩, by decide +kernel, by decide +kernel⟩
theorem xt_265 : xi_site RL (96, 98, 4, 0, 111) := ⟨xv_98, xw_t5 189 (by decide +kernel) (by decide +kernel), xw_t5 190 (by decide +kernel) (by decide +kernel)⟩
theorem xv_99 : xs_cl 99 4 := ⟨xw_t6 131 rfl (by decide +kernel), xw_t1 0 (by decide +kernel) (by decide +kernel), ⟨by decide +kernel, by decide +kernel⟩, by decide +kernel, by decide +kernel⟩
theorem xt_266 : xi_site RL (96, 99, 4, 0, 161) := ⟨xv_99, xw_t6 129 (by decide +kernel) (by decide +kernel), xw_t6 130 (by decide +kernel) (by decide +kernel)⟩
theorem xv_100 : xs_cl 100 5 := ⟨xw_t6 154 rfl (by decide +kernel), xw_t1 0 (by decide +kernel) (by decide +kernel), ⟨by decide +kernel, by decide +kernel⟩, by decide +kernel, by decide +kernel⟩
theorem xt_267 : xi_site RL (96, 100, 5, 0, 175) := ⟨xv_100, xw_t6 152 (by decide +kernel) (by decide +kernel), xw_t6 153 (by decide +kernel) (by decide +kernel)⟩
theorem xv_0 : xs_cl 0 0 := ⟨xw_t1 50 rfl (by decide +kernel), xw_t1 1 (by decide +kernel) (by decide +kernel), ⟨by decide +kernel, by decide +kernel⟩, by decide +kernel, by decide +kernel⟩
theorem xt_268 : xi_site RL (98, 0, 0, 15, 90) := ⟨xv_0, by decide +kernel, by decide +kernel, by decide +kernel, xw_t1 48 (by decide +kernel) (by decide +kernel), xw_t1 49 (by decide +kernel) (by decide +kernel)⟩
theorem xv_101 : xs_cl 101 0 := ⟨xw_t6 179 rfl (by decide +kernel), xw_t1 11 (by decide +kernel) (by decide +kernel), ⟨by decide +kernel, by decide +kernel⟩, by decide +kernel, by decide +kernel⟩
theorem xt_269 : xi_site RL (98, 101, 0, 25, 93) := ⟨xv_101, by decide +kernel, by decide +kernel, by decide +kernel, xw_t6 177 (by decide +kernel) (by decide +kernel), xw_t6 178 (by decide +kernel) (by decide +kernel)⟩
theorem xv_3 : xs_cl 3 2 := ⟨xw_t6 32 rfl (by decide +kernel), xw_t1 1 (by decide +kernel) (by decide +kernel), ⟨by decide +kernel, by decide +kernel⟩, by decide +kernel, by decide +kernel⟩
theorem xt_270 : xi_site RL (100, 3, 2, 15, 37) := ⟨xv_3, by decide +kernel, xw_t6 29 (by decide +kernel) (by decide +kernel), xw_t6 30 (by decide +kernel) (by decide +kernel), _, rfl, xw_t6 31 (by decide +kernel) (by decide +kernel)⟩
theorem xv_4 : xs_cl 4 2 := ⟨xw_t6 166 rfl (by decide +kernel), xw_t1 1 (by decide +kernel) (by decide +kernel), ⟨by decide +kernel, by decide +kernel⟩, by decide +kernel, by decide +kernel⟩
theorem xt_271 : xi_site RL (100, 4, 2, 15, 84) := ⟨xv_4, by decide +kernel, xw_t6 163 (by decide +kernel) (by decide +kernel), xw_t6 164 (by decide +kernel) (by decide +kernel), _, rfl, xw_t6 165 (by decide +kernel) (by decide +kernel)⟩
theorem xv_5 : xs_cl 5 3 := ⟨xw_t6 67 rfl (by decide +kernel), xw_t1 1 (by decide +kernel) (by decide +kernel), ⟨by decide +kernel, by decide +kernel⟩, by decide +kernel, by decide +kernel⟩
theorem xt_272 : xi_site RL (100, 5, 3, 15, 46) := ⟨xv_5, by decide +kernel, xw_t6 64 (by decide +kernel) (by decide +kernel), xw_t6 65 (by decide +kernel) (by decide +kernel), _, rfl, xw_t6 66 (by decide +kernel) (by decide +kernel)⟩
theorem xv_7 : xs_cl 7 0 := ⟨xw_t3 63 rfl (by decide +kernel), xw_t1 1 (by decide +kernel) (by decide +kernel), ⟨by decide +kernel, by decide +kernel⟩, by decide +kernel, by decide +kernel⟩
theorem xt_273 : xi_site RL (100, 7, 0, 15, 184) := ⟨xv_7, by decide +kernel, xw_t3 60 (by decide +kernel) (by decide +kernel), xw_t3 61 (by decide +kernel) (by decide +kernel), _, rfl, xw_t3 62 (by decide +kernel) (by decide +kernel)⟩
theorem xv_10 : xs_cl 10 2 := ⟨xw_t6 119 rfl (by decide +kernel), xw_t1 1 (by decide +kernel) (by decide +kernel), ⟨by decide +kernel, by decide +kernel⟩, by decide +kernel, by decide +kernel⟩
theorem xt_274 : xi_site RL (100, 10, 2, 15, 66) := ⟨xv_10, by decide +kernel, xw_t6 116 (by decide +kernel) (by decide +kernel), xw_t6 117 (by decide +kernel) (by decide +kernel), _, rfl, xw_t6 118 (by decide +kernel) (by decide +kernel)⟩
theorem xv_11 : xs_cl 11 2 := ⟨xw_t6 58 rfl (by decide +kernel), xw_t1 1 (by decide +kernel) (by decide +kernel), ⟨by decide +kernel, by decide +kernel⟩, by decide +kernel, by decide +kernel⟩
theorem xt_275 : xi_site RL (100, 11, 2, 15, 43) := ⟨xv_11, by decide +kernel, xw_t6 55 (by decide +kernel) (by decide +kernel), xw_t6 56 (by decide +kernel) (by decide +kernel), _, rfl, xw_t6 57 (by decide +kernel) (by decide +kernel)⟩
theorem xv_12 : xs_cl 12 2 := ⟨xw_t6 174 rfl (by decide +kernel), xw_t1 1 (by decide +kernel) (by decide +kernel), ⟨by decide +kernel, by decide +kernel⟩, by decide +kernel, by decide +kernel⟩
theorem xt_276 : xi_site RL (100, 12, 2, 15, 87) := ⟨xv_12, by decide +kernel, xw_t6 171 (by decide +kernel) (by decide +kernel), xw_t6 172 (by decide +kernel) (by decide +kernel), _, rfl, xw_t6 173 (by decide +kernel) (by decide +kernel)⟩
theorem xv_13 : xs_cl 13 1 := ⟨xw_t6 143 rfl (by decide +kernel), xw_t1 1 (by decide +kernel) (by decide +kernel), ⟨by decide +kernel, by decide +kernel⟩, by decide +kernel, by decide +kernel⟩
theorem xt_277 : xi_site RL (100, 13, 1, 15, 75) := ⟨xv_13, by decide +kernel, xw_t6 140 (by decide +kernel) (by decide +kernel), xw_t6 141 (by decide +kernel) (by decide +kernel), _, rfl, xw_t6 142 (by decide +kernel) (by decide +kernel)⟩
theorem xv_14 : xs_cl 14 2 := ⟨xw_t5 54 rfl (by decide +kernel), xw_t1 1 (by decide +kernel) (by decide +kernel), ⟨by decide +kernel, by decide +kernel⟩, by decide +kernel, by decide +kernel⟩
theorem xt_278 : xi_site RL (100, 14, 2, 15, 7) := ⟨xv_14, by decide +kernel, xw_t5 51 (by decide +kernel) (by decide +kernel), xw_t5 52 (by decide +kernel) (by decide +kernel), _, rfl, xw_t5 53 (by decide +kernel) (by decide +kernel)⟩
theorem xv_17 : xs_cl 17 2 := ⟨xw_t6 83 rfl (by decide +kernel), xw_t1 1 (by decide +kernel) (by decide +kernel), ⟨by decide +kernel, by decide +kernel⟩, by decide +kernel, by decide +kernel⟩
theorem xt_279 : xi_site RL (100, 17, 2, 15, 53) := ⟨xv_17, by decide +kernel, xw_t6 80 (by decide +kernel) (by decide +kernel), xw_t6 81 (by decide +kernel) (by decide +kernel), _, rfl, xw_t6 82 (by decide +kernel) (by decide +kernel)⟩
theorem xv_18 : xs_cl 18 1 := ⟨xw_t6 151 rfl (by decide +kernel), xw_t1 1 (by decide +kernel) (by decide +kernel), ⟨by decide +kernel, by decide +kernel⟩, by decide +kernel, by decide +kernel⟩
theorem xt_280 : xi_site RL (100, 18, 1, 15, 78) := ⟨xv_18, by decide +kernel, xw_t6 148 (by decide +kernel) (by decide +kernel), xw_t6 149 (by decide +kernel) (by decide +kernel), _, rfl, xw_t6 150 (by decide +kernel) (by decide +kernel)⟩
theorem xv_19 : xs_cl 19 0 := ⟨xw_t3 56 rfl (by decide +kernel), xw_t1 1 (by decide +kernel) (by decide +kernel), ⟨by decide +kernel, by decide +kernel⟩, by decide +kernel, by decide +kernel⟩
theorem xt_281 : xi_site RL (100, 19, 0, 15, 167) := ⟨xv_19, by decide +kernel, xw_t3 53 (by decide +kernel) (by decide +kernel), xw_t3 54 (by decide +kernel) (by decide +kernel), _, rfl, xw_t3 55 (by decide +kernel) (by decide +kernel)⟩
theorem xv_20 : xs_cl 20 4 := ⟨xw_t5 216 rfl (by decide +kernel), xw_t1 1 (by decide +kernel) (by decide +kernel), ⟨by decide +kernel, by decide +kernel⟩, by decide +kernel, by decide +kernel⟩
theorem xt_282 : xi_site RL (100, 20, 4, 15, 33) := ⟨xv_20, by decide +kernel, xw_t5 213 (by decide +kernel) (by decide +kernel), xw_t5 214 (by decide +kernel) (by decide +kernel), _, rfl, xw_t5 215 (by decide +kernel) (by decide +kernel)⟩
theorem xv_21 : xs_cl 21 2 := ⟨xw_t5 154 rfl (by decide +kernel), xw_t1 1 (by decide +kernel) (by decide +kernel), ⟨by decide +kernel, by decide +kernel⟩, by decide +kernel, by decide +kernel⟩
theorem xt_283 : xi_site RL (100, 21, 2, 15, 17) := ⟨xv_21, by decide +kernel, xw_t5 151 (by decide +kernel) (by decide +kernel), xw_t5 152 (by decide +kernel) (by decide +kernel), _, rfl, xw_t5 153 (by decide +kernel) (by decide +kernel)⟩
theorem xv_22 : xs_cl 22 2 := ⟨xw_t6 49 rfl (by decide +kernel), xw_t1 1 (by decide +kernel) (by decide +kernel), ⟨by decide +kernel, by decide +kernel⟩, by decide +kernel, by decide +kernel⟩
theorem xt_284 : xi_site RL (100, 22, 2, 15, 40) := ⟨xv_22, by decide +kernel, xw_t6 46 (by decide +kernel) (by decide +kernel), xw_t6 47 (by decide +kernel) (by decide +kernel), _, rfl, xw_t6 48 (by decide +kernel) (by decide +kernel)⟩
theorem xv_23 : xs_cl 23 2 := ⟨xw_t5 208 rfl (by decide +kernel), xw_t1 1 (by decide +kernel) (by decide +kernel), ⟨by decide +kernel, by decide +kernel⟩, by decide +kernel, by decide +kernel⟩
theorem xt_285 : xi_site RL (100, 23, 2, 15, 30) := ⟨xv_23, by decide +kernel, xw_t5 205 (by decide +kernel) (by decide +kernel), xw_t5 206 (by decide +kernel) (by decide +kernel), _, rfl, xw_t5 207 (by decide +kernel) (by decide +kernel)⟩
theorem xv_24 : xs_cl 24 1 := ⟨xw_t6 102 rfl (by decide +kernel), xw_t1 1 (by decide +kernel) (by decide +kernel), ⟨by decide +kernel, by decide +kernel⟩, by decide +kernel, by decide +kernel⟩
theorem xt_286 : xi_site RL (100, 24, 1, 15, 60) := ⟨xv_24, by decide +kernel, xw_t6 99 (by decide +kernel) (by decide +kernel), xw_t6 100 (by decide +kernel) (by decide +kernel), _, rfl, xw_t6 101 (by decide +kernel) (by decide +kernel)⟩
theorem xv_25 : xs_cl 25 2 := ⟨xw_t6 110 rfl (by decide +kernel), xw_t1 1 (by decide +kernel) (by decide +kernel), ⟨by decide +kernel, by decide +kernel⟩, by decide +kernel, by decide +kernel⟩
theorem xt_287 : xi_site RL (100, 25, 2, 15, 63) := ⟨xv_25, by decide +kernel, xw_t6 107 (by decide +kernel) (by decide +kernel), xw_t6 108 (by decide +kernel) (by decide +kernel), _, rfl, xw_t6 109 (by decide +kernel) (by decide +kernel)⟩
theorem xv_26 : xs_cl 26 1 := ⟨xw_t5 178 rfl (by decide +kernel), xw_t1 1 (by decide +kernel) (by decide +kernel), ⟨by decide +kernel, by decide +kernel⟩, by decide +kernel, by decide +kernel⟩
theorem xt_288 : xi_site RL (100, 26, 1, 15, 23) := ⟨xv_26, by decide +kernel, xw_t5 175 (by decide +kernel) (by decide +kernel), xw_t5 176 (by decide +kernel) (by decide +kernel), _, rfl, xw_t5 177 (by decide +kernel) (by decide +kernel)⟩
theorem xv_27 : xs_cl 27 1 := ⟨xw_t3 52 rfl (by decide +kernel), xw_t1 1 (by decide +kernel) (by decide +kernel), ⟨by decide +kernel, by decide +kernel⟩, by decide +kernel, by decide +kernel⟩
theorem xt_289 : xi_site RL (100, 27, 1, 15, 130) := ⟨xv_27, by decide +kernel, xw_t3 49 (by decide +kernel) (by decide +kernel), xw_t3 50 (by decide +kernel) (by decide +kernel), _, rfl, xw_t3 51 (by decide +kernel) (by decide +kernel)⟩
theorem xv_35 : xs_cl 35 3 := ⟨xw_t6 75 rfl (by decide +kernel), xw_t1 1 (by decide +kernel) (by decide +kernel), ⟨by decide +kernel, by decide +kernel⟩, by decide +kernel, by decide +kernel⟩
theorem xt_290 : xi_site RL (100, 35, 3, 15, 50) := ⟨xv_35, by decide +kernel, xw_t6 72 (by decide +kernel) (by decide +kernel), xw_t6 73 (by decide +kernel) (by decide +kernel), _, rfl, xw_t6 74 (by decide +kernel) (by decide +kernel)⟩
theorem xv_37 : xs_cl 37 0 := ⟨xw_t6 94 rfl (by decide +kernel), xw_t1 1 (by decide +kernel) (by decide +kernel), ⟨by decide +kernel, by decide +kernel⟩, by decide +kernel, by decide +kernel⟩
theorem xt_291 : xi_site RL (100, 37, 0, 15, 56) := ⟨xv_37, by decide +kernel, xw_t6 91 (by decide +kernel) (by decide +kernel), xw_t6 92 (by decide +kernel) (by decide +kernel), _, rfl, xw_t6 93 (by decide +kernel) (by decide +kernel)⟩
theorem xv_38 : xs_cl 38 2 := ⟨xw_t6 127 rfl (by decide +kernel), xw_t1 1 (by decide +kernel) (by decide +kernel), ⟨by decide +kernel, by decide +kernel⟩, by decide +kernel, by decide +kernel⟩
theorem xt_292 : xi_site RL (100, 38, 2, 15, 69) := ⟨xv_38, by decide +kernel, xw_t6 124 (by decide +kernel) (by decide +kernel), xw_t6 125 (by decide +kernel) (by decide +kernel), _, rfl, xw_t6 126 (by decide +kernel) (by decide +kernel)⟩
theorem xv_39 : xs_cl 39 2 := ⟨xw_t5 195 rfl (by decide +kernel), xw_t1 1 (by decide +kernel) (by decide +kernel), ⟨by decide +kernel, by decide +kernel⟩, by decide +kernel, by decide +kernel⟩
theorem xt_293 : xi_site RL (100, 39, 2, 15, 27) := ⟨xv_39, by decide +kernel, xw_t5 192 (by decide +kernel) (by decide +kernel), xw_t5 193 (by decide +kernel) (by decide +kernel), _, rfl, xw_t5 194 (by decide +kernel) (by decide +kernel)⟩
theorem xv_40 : xs_cl 40 2 := ⟨xw_t6 135 rfl (by decide +kernel), xw_t1 1 (by decide +kernel) (by decide +kernel), ⟨by decide +kernel, by decide +kernel⟩, by decide +kernel, by decide +kernel⟩
theorem xt_294 : xi_site RL (100, 40, 2, 15, 72) := ⟨xv_40, by decide +kernel, xw_t6 132 (by decide +kernel) (by decide +kernel), xw_t6 133 (by decide +kernel) (by decide +kernel), _, rfl, xw_t6 134 (by decide +kernel) (by decide +kernel)⟩
theorem xv_41 : xs_cl 41 3 := ⟨xw_t6 158 rfl (by decide +kernel), xw_t1 1 (by decide +kernel) (by decide +kernel), ⟨by decide +kernel, by decide +kernel⟩, by decide +kernel, by decide +kernel⟩
theorem xt_295 : xi_site RL (100, 41, 3, 15, 81) := ⟨xv_41, by decide +kernel, xw_t6 155 (by decide +kernel) (by decide +kernel), xw_t6 156 (by decide +kernel) (by decide +kernel), _, rfl, xw_t6 157 (by decide +kernel) (by decide +kernel)⟩
theorem xv_103 : xs_cl 103 2 := ⟨xw_t10 205 rfl (by decide +kernel), xw_t1 11 (by decide +kernel) (by decide +kernel), ⟨by decide +kernel, by decide +kernel⟩, by decide +kernel, by decide +kernel⟩
theorem xt_296 : xi_site RL (100, 103, 2, 25, 123) := ⟨xv_103, by decide +kernel, xw_t10 202 (by decide +kernel) (by decide +kernel), xw_t10 203 (by decide +kernel) (by decide +kernel), _, rfl, xw_t10 204 (by decide +kernel) (by decide +kernel)⟩
theorem xv_104 : xs_cl 104 2 := ⟨xw_t12 18 rfl (by decide +kernel), xw_t1 11 (by decide +kernel) (by decide +kernel), ⟨by decide +kernel, by decide +kernel⟩, by decide +kernel, by decide +kernel⟩
theorem xt_297 : xi_site RL (100, 104, 2, 25, 180) := ⟨xv_104, by decide +kernel, xw_t12 15 (by decide +kernel) (by decide +kernel), xw_t12 16 (by decide +kernel) (by decide +kernel), _, rfl, xw_t12 17 (by decide +kernel) (by decide +kernel)⟩
theorem xv_105 : xs_cl 105 3 := ⟨xw_t10 231 rfl (by decide +kernel), xw_t1 11 (by decide +kernel) (by decide +kernel), ⟨by decide +kernel, by decide +kernel⟩, by decide +kernel, by decide +kernel⟩
theorem xt_298 : xi_site RL (100, 105, 3, 25, 138) := ⟨xv_105, by decide +kernel, xw_t10 228 (by decide +kernel) (by decide +kernel), xw_t10 229 (by decide +kernel) (by decide +kernel), _, rfl, xw_t10 230 (by decide +kernel) (by decide +kernel)⟩
theorem xv_107 : xs_cl 107 0 := ⟨xw_t12 31 rfl (by decide +kernel), xw_t1 11 (by decide +kernel) (by decide +kernel), ⟨by decide +kernel, by decide +kernel⟩, by decide +kernel, by decide +kernel⟩
theorem xt_299 : xi_site RL (100, 107, 0, 25, 188) := ⟨xv_107, by decide +kernel, xw_t12 28 (by decide +kernel) (by decide +kernel), xw_t12 29 (by decide +kernel) (by decide +kernel), _, rfl, xw_t12 30 (by decide +kernel) (by decide +kernel)⟩
theorem xv_108 : xs_cl 108 2 := ⟨xw_t11 210 rfl (by decide +kernel), xw_t1 11 (by decide +kernel) (by decide +kernel), ⟨by decide +kernel, by decide +kernel⟩, by decide +kernel, by decide +kernel⟩
theorem xt_300 : xi_site RL (100, 108, 2, 25, 157) := ⟨xv_108, by decide +kernel, xw_t11 207 (by decide +kernel) (by decide +kernel), xw_t11 208 (by decide +kernel) (by decide +kernel), _, rfl, xw_t11 209 (by decide +kernel) (by decide +kernel)⟩
theorem xv_109 : xs_cl 109 2 := ⟨xw_t10 222 rfl (by decide +kernel), xw_t1 11 (by decide +kernel) (by decide +kernel), ⟨by decide +kernel, by decide +kernel⟩, by decide +kernel, by decide +kernel⟩
theorem xt_301 : xi_site RL (100, 109, 2, 25, 129) := ⟨xv_109, by decide +kernel, xw_t10 219 (by decide +kernel) (by decide +kernel), xw_t10 220 (by decide +kernel) (by decide +kernel), _, rfl, xw_t10 221 (by decide +kernel) (by decide +kernel)⟩
theorem xv_110 : xs_cl 110 2 := ⟨xw_t12 27 rfl (by decide +kernel), xw_t1 11 (by decide +kernel) (by decide +kernel), ⟨by decide +kernel, by decide +kernel⟩, by decide +kernel, by decide +kernel⟩
theorem xt_302 : xi_site RL (100, 110, 2, 25, 183) := ⟨xv_110, by decide +kernel, xw_t12 24 (by decide +kernel) (by decide +kernel), xw_t12 25 (by decide +kernel) (by decide +kernel), _, rfl, xw_t12 26 (by decide +kernel) (by decide +kernel)⟩
theorem xv_111 : xs_cl 111 1 := ⟨xw_t11 234 rfl (by decide +kernel), xw_t1 11 (by decide +kernel) (by decide +kernel), ⟨by decide +kernel, by decide +kernel⟩, by decide +kernel, by decide +kernel⟩
theorem xt_303 : xi_site RL (100, 111, 1, 25, 166) := ⟨xv_111, by decide +kernel, xw_t11 231 (by decide +kernel) (by decide +kernel), xw_t11 232 (by decide +kernel) (by decide +kernel), _, rfl, xw_t11 233 (by decide +kernel) (by decide +kernel)⟩
theorem xv_123 : xs_cl 123 2 := ⟨xw_t7 129 rfl (by decide +kernel), xw_t1 11 (by decide +kernel) (by decide +kernel), ⟨by decide +kernel, by decide +kernel⟩, by decide +kernel, by decide +kernel⟩
theorem xt_304 : xi_site RL (100, 123, 2, 25, 99) := ⟨xv_123, by decide +kernel, xw_t7 126 (by decide +kernel) (by decide +kernel), xw_t7 127 (by decide +kernel) (by decide +kernel), _, rfl, xw_t7 128 (by decide +kernel) (by decide +kernel)⟩
theorem xv_124 : xs_cl 124 2 := ⟨xw_t10 239 rfl (by decide +kernel), xw_t1 11 (by decide +kernel) (by decide +kernel), ⟨by decide +kernel, by decide +kernel⟩, by decide +kernel, by decide +kernel⟩
theorem xt_305 : xi_site RL (100, 124, 2, 25, 144) := ⟨xv_124, by decide +kernel, xw_t10 236 (by decide +kernel) (by decide +kernel), xw_t10 237 (by decide +kernel) (by decide +kernel), _, rfl, xw_t10 238 (by decide +kernel) (by decide +kernel)⟩
theorem xv_125 : xs_cl 125 1 := ⟨xw_t12 6 rfl (by decide +kernel), xw_t1 11 (by decide +kernel) (by decide +kernel), ⟨by decide +kernel, by decide +kernel⟩, by decide +kernel, by decide +kernel⟩
theorem xt_306 : xi_site RL (100, 125, 1, 25, 174) := ⟨xv_125, by decide +kernel, xw_t12 3 (by decide +kernel) (by decide +kernel), xw_t12 4 (by decide +kernel) (by decide +kernel), _, rfl, xw_t12 5 (by decide +kernel) (by decide +kernel)⟩
theorem xv_126 : xs_cl 126 0 := ⟨xw_t12 2 rfl (by decide +kernel), xw_t1 11 (by decide +kernel) (by decide +kernel), ⟨by decide +kernel, by decide +kernel⟩, by decide +kernel, by decide +kernel⟩
theorem xt_307 : xi_site RL (100, 126, 0, 25, 171) := ⟨xv_126, by decide +kernel, xw_t11 239 (by decide +kernel) (by decide +kernel), xw_t12 0 (by decide +kernel) (by decide +kernel), _, rfl, xw_t12 1 (by decide +kernel) (by decide +kernel)⟩
theorem xv_127 : xs_cl 127 4 := ⟨xw_t10 112 rfl (by decide +kernel), xw_t1 11 (by decide +kernel) (by decide +kernel), ⟨by decide +kernel, by decide +kernel⟩, by decide +kernel, by decide +kernel⟩
theorem xt_308 : xi_site RL (100, 127, 4, 25, 120) := ⟨xv_127, by decide +kernel, xw_t10 109 (by decide +kernel) (by decide +kernel), xw_t10 110 (by decide +kernel) (by decide +kernel), _, rfl, xw_t10 111 (by decide +kernel) (by decide +kernel)⟩
theorem xv_128 : xs_cl 128 2 := ⟨xw_t7 155 rfl (by decide +kernel), xw_t1 11 (by decide +kernel) (by decide +kernel), ⟨by decide +kernel, by decide +kernel⟩, by decide +kernel, by decide +kernel⟩
theorem xt_309 : xi_site RL (100, 128, 2, 25, 106) := ⟨xv_128, by decide +kernel, xw_t7 152 (by decide +kernel) (by decide +kernel), xw_t7 153 (by decide +kernel) (by decide +kernel), _, rfl, xw_t7 154 (by decide +kernel) (by decide +kernel)⟩
theorem xv_130 : xs_cl 130 2 := ⟨xw_t10 213 rfl (by decide +kernel), xw_t1 11 (by decide +kernel) (by decide +kernel), ⟨by decide +kernel, by decide +kernel⟩, by decide +kernel, by decide +kernel⟩
theorem xt_310 : xi_site RL (100, 130, 2, 25, 126) := ⟨xv_130, by decide +kernel, xw_t10 210 (by decide +kernel) (by decide +kernel), xw_t10 211 (by decide +kernel) (by decide +kernel), _, rfl, xw_t10 212 (by decide +kernel) (by decide +kernel)⟩
theorem xv_131 : xs_cl 131 2 := ⟨xw_t8 26 rfl (by decide +kernel), xw_t1 11 (by decide +kernel) (by decide +kernel), ⟨by decide +kernel, by decide +kernel⟩, by decide +kernel, by decide +kernel⟩
theorem xt_311 : xi_site RL (100, 131, 2, 25, 116) := ⟨xv_131, by decide +kernel, xw_t8 23 (by decide +kernel) (by decide +kernel), xw_t8 24 (by decide +kernel) (by decide +kernel), _, rfl, xw_t8 25 (by decide +kernel) (by decide +kernel)⟩
theorem xv_133 : xs_cl 133 1 := ⟨xw_t11 189 rfl (by decide +kernel), xw_t1 11 (by decide +kernel) (by decide +kernel), ⟨by decide +kernel, by decide +kernel⟩, by decide +kernel, by decide +kernel⟩
theorem xt_312 : xi_site RL (100, 133, 1, 25, 151) := ⟨xv_133, by decide +kernel, xw_t11 186 (by decide +kernel) (by decide +kernel), xw_t11 187 (by decide +kernel) (by decide +kernel), _, rfl, xw_t11 188 (by decide +kernel) (by decide +kernel)⟩
theorem xv_135 : xs_cl 135 2 := ⟨xw_t11 201 rfl (by decide +kernel), xw_t1 11 (by decide +kernel) (by decide +kernel), ⟨by decide +kernel, by decide +kernel⟩, by decide +kernel, by decide +kernel⟩
theorem xt_313 : xi_site RL (100, 135, 2, 25, 154) := ⟨xv_135, by decide +kernel, xw_t11 198 (by decide +kernel) (by decide +kernel), xw_t11 199 (by decide +kernel) (by decide +kernel), _, rfl, xw_t11 200 (by decide +kernel) (by decide +kernel)⟩
theorem xv_136 : xs_cl 136 1 := ⟨xw_t8 8 rfl (by decide +kernel), xw_t1 11 (by decide +kernel) (by decide +kernel), ⟨by decide +kernel, by decide +kernel⟩, by decide +kernel, by decide +kernel⟩
theorem xt_314 : xi_site RL (100, 136, 1, 25, 110) := ⟨xv_136, by decide +kernel, xw_t8 5 (by decide +kernel) (by decide +kernel), xw_t8 6 (by decide +kernel) (by decide +kernel), _, rfl, xw_t8 7 (by decide +kernel) (by decide +kernel)⟩
theorem xv_137 : xs_cl 137 1 := ⟨xw_t10 227 rfl (by decide +kernel), xw_t1 11 (by decide +kernel) (by decide +kernel), ⟨by decide +kernel, by decide +kernel⟩, by decide +kernel, by decide +kernel⟩
theorem xt_315 : xi_site RL (100, 137, 1, 25, 134) := ⟨xv_137, by decide +kernel, xw_t10 224 (by decide +kernel) (by decide +kernel), xw_t10 225 (by decide +kernel) (by decide +kernel), _, rfl, xw_t10 226 (by decide +kernel) (by decide +kernel)⟩
theorem xv_139 : xs_cl 139 3 := ⟨xw_t10 235 rfl (by decide +kernel), xw_t1 11 (by decide +kernel) (by decide +kernel), ⟨by decide +kernel, by decide +kernel⟩, by decide +kernel, by decide +kernel⟩
theorem xt_316 : xi_site RL (100, 139, 3, 25, 141) := ⟨xv_139, by decide +kernel, xw_t10 232 (by decide +kernel) (by decide +kernel), xw_t10 233 (by decide +kernel) (by decide +kernel), _, rfl, xw_t10 234 (by decide +kernel) (by decide +kernel)⟩
theorem xv_140 : xs_cl 140 0 := ⟨xw_t11 6 rfl (by decide +kernel), xw_t1 11 (by decide +kernel) (by decide +kernel), ⟨by decide +kernel, by decide +kernel⟩, by decide +kernel, by decide +kernel⟩
theorem xt_317 : xi_site RL (100, 140, 0, 25, 148) := ⟨xv_140, by decide +kernel, xw_t11 3 (by decide +kernel) (by decide +kernel), xw_t11 4 (by decide +kernel) (by decide +kernel), _, rfl, xw_t11 5 (by decide +kernel) (by decide +kernel)⟩
theorem xv_142 : xs_cl 142 2 := ⟨xw_t11 226 rfl (by decide +kernel), xw_t1 11 (by decide +kernel) (by decide +kernel), ⟨by decide +kernel, by decide +kernel⟩, by decide +kernel, by decide +kernel⟩
theorem xt_318 : xi_site RL (100, 142, 2, 25, 160) := ⟨xv_142, by decide +kernel, xw_t11 223 (by decide +kernel) (by decide +kernel), xw_t11 224 (by decide +kernel) (by decide +kernel), _, rfl, xw_t11 225 (by decide +kernel) (by decide +kernel)⟩
theorem xv_143 : xs_cl 143 2 := ⟨xw_t8 18 rfl (by decide +kernel), xw_t1 11 (by decide +kernel) (by decide +kernel), ⟨by decide +kernel, by decide +kernel⟩, by decide +kernel, by decide +kernel⟩
theorem xt_319 : xi_site RL (100, 143, 2, 25, 113) := ⟨xv_143, by decide +kernel, xw_t8 15 (by decide +kernel) (by decide +kernel), xw_t8 16 (by decide +kernel) (by decide +kernel), _, rfl, xw_t8 17 (by decide +kernel) (by decide +kernel)⟩
theorem xv_144 : xs_cl 144 0 := ⟨xw_t7 125 rfl (by decide +kernel), xw_t1 11 (by decide +kernel) (by decide +kernel), ⟨by decide +kernel, by decide +kernel⟩, by decide +kernel, by decide +kernel⟩
theorem xt_320 : xi_site RL (100, 144, 0, 25, 100) := ⟨xv_144, by decide +kernel, xw_t7 122 (by decide +kernel) (by decide +kernel), xw_t7 123 (by decide +kernel) (by decide +kernel), _, rfl, xw_t7 124 (by decide +kernel) (by decide +kernel)⟩
theorem xv_145 : xs_cl 145 2 := ⟨xw_t11 230 rfl (by decide +kernel), xw_t1 11 (by decide +kernel) (by decide +kernel), ⟨by decide +kernel, by decide +kernel⟩, by decide +kernel, by decide +kernel⟩
theorem xt_321 : xi_site RL (100, 145, 2, 25, 163) := ⟨xv_145, by decide +kernel, xw_t11 227 (by decide +kernel) (by decide +kernel), xw_t11 228 (by decide +kernel) (by decide +kernel), _, rfl, xw_t11 229 (by decide +kernel) (by decide +kernel)⟩
theorem xv_146 : xs_cl 146 3 := ⟨xw_t12 14 rfl (by decide +kernel), xw_t1 11 (by decide +kernel) (by decide +kernel), ⟨by decide +kernel, by decide +kernel⟩, by decide +kernel, by decide +kernel⟩
theorem xt_322 : xi_site RL (100, 146, 3, 25, 177) := ⟨xv_146, by decide +kernel, xw_t12 11 (by decide +kernel) (by decide +kernel), xw_t12 12 (by decide +kernel) (by decide +kernel), _, rfl, xw_t12 13 (by decide +kernel) (by decide +kernel)⟩
theorem xt_323 : xi_site RX19 (3, 9223372036854775839, 0, 0, 296) := ⟨(31 : Int64), by decide +kernel, xw_t12 36 (by decide +kernel) (by decide +kernel)⟩
theorem xt_324 : xi_site RX19 (3, 9223372036854833936, 0, 0, 298) := ⟨(58128 : Int64), by decide +kernel, xw_t12 32 (by decide +kernel) (by decide +kernel)⟩
end
section
/-! sites -/
theorem xt_325 : xi_site RX19 (38, 17, 0, 0, 87) := ⟨RX11, TX11, 2, "UnwindTowerModel$Kind", rfl, xu_17, by decide, xw_t6 228 (by decide +kernel) (by decide +kernel), Or.inl rfl⟩
theorem xt_326 : xi_site RX19 (38, 18, 0, 0, 118) := ⟨RX12, TX12, 7, "UnwindTowerModel$Node", rfl, xu_18, by decide, xw_t10 154 (by decide +kernel) (by decide +kernel), Or.inl rfl⟩
theorem xt_327 : xi_site RX19 (38, 19, 0, 0, 153) := ⟨RX13, TX13, 2, "UnwindTowerModel$Procedure", rfl, xu_19, by decide, xw_t7 74 (by decide +kernel) (by decide +kernel), Or.inl rfl⟩
theorem xt_328 : xi_site RX19 (38, 19, 1, 0, 156) := ⟨RX13, TX13, 2, "UnwindTowerModel$Procedure", rfl, xu_19, by decide, xw_t7 78 (by decide +kernel) (by decide +kernel), Or.inl rfl⟩
theorem xt_329 : xi_site RX19 (38, 20, 0, 0, 30) := ⟨RX14, TX14, 3, "UnwindTowerModel$Program", rfl, xu_20, by decide, xw_t7 86 (by decide +kernel) (by decide +kernel), Or.inl rfl⟩
theorem xt_330 : xi_site RX19 (38, 20, 1, 0, 44) := ⟨RX14, TX14, 3, "UnwindTowerModel$Program", rfl, xu_20, by decide, xw_t7 90 (by decide +kernel) (by decide +kernel), Or.inl rfl⟩
theorem xt_331 : xi_site RX19 (38, 20, 2, 0, 47) := ⟨RX14, TX14, 3, "UnwindTowerModel$Program", rfl, xu_20, by decide, xw_t7 92 (by decide +kernel) (by decide +kernel), Or.inl rfl⟩
theorem xt_332 : xi_site RX19 (38, 25, 0, 0, 23) := ⟨RX19, TX19, 7, "UnwindTowerModel", rfl, xu_25, by decide, xw_t7 100 (by decide +kernel) (by decide +kernel), Or.inl rfl⟩
theorem xt_333 : xi_site RX19 (38, 25, 1, 0, 10) := ⟨RX19, TX19, 7, "UnwindTowerModel", rfl, xu_25, by decide, xw_t7 101 (by decide +kernel) (by decide +kernel), Or.inl rfl⟩
theorem xt_334 : xi_site RX19 (38, 25, 2, 0, 60) := ⟨RX19, TX19, 7, "UnwindTowerModel", rfl, xu_25, by decide, xw_t7 102 (by decide +kernel) (by decide +kernel), Or.inl rfl⟩
theorem xt_335 : xi_site RX19 (38, 25, 3, 0, 16) := ⟨RX19, TX19, 7, "UnwindTowerModel", rfl, xu_25, by decide, xw_t7 103 (by decide +kernel) (by decide +kernel), Or.inl rfl⟩
theorem xt_336 : xi_site RX19 (38, 25, 4, 0, 20) := ⟨RX19, TX19, 7, "UnwindTowerModel", rfl, xu_25, by decide, xw_t7 104 (by decide +kernel) (by decide +kernel), Or.inl rfl⟩
theorem xt_337 : xi_site RX19 (38, 25, 5, 0, 124) := ⟨RX19, TX19, 7, "UnwindTowerModel", rfl, xu_25, by decide, xw_t7 105 (by decide +kernel) (by decide +kernel), Or.inl rfl⟩
theorem xt_338 : xi_site RX19 (38, 25, 6, 0, 234) := ⟨RX19, TX19, 7, "UnwindTowerModel", rfl, xu_25, by decide, xw_t7 106 (by decide +kernel) (by decide +kernel), Or.inl rfl⟩
theorem xt_339 : xi_site RX19 (40, 19, 0, 0, 153) := ⟨RX13, TX13, 2, "UnwindTowerModel$Procedure", tyX13, rfl, xu_19, by decide, xw_t7 74 (by decide +kernel) (by decide +kernel), Or.inl rfl, tyX13_ok, nmX13, rfl, (fun h => nomatch h), .inl ⟨rfl, rfl⟩⟩
theorem xt_340 : xi_site RX19 (40, 25, 0, 0, 23) := ⟨RX19, TX19, 7, "UnwindTowerModel", tyX19, rfl, xu_25, by decide, xw_t7 100 (by decide +kernel) (by decide +kernel), Or.inl rfl, tyX19_ok, nmX19, rfl, (fun h => nomatch h), .inl ⟨rfl, rfl⟩⟩
theorem xt_341 : xi_site RX19 (40, 25, 2, 1, 60) := ⟨RX19, TX19, 7, "UnwindTowerModel", tyX19, rfl, xu_25, by decide, xw_t7 102 (by decide +kernel) (by decide +kernel), Or.inl rfl, tyX19_ok, nmX19, rfl, (fun h => nomatch h), .inr (.inl ⟨rfl, rfl⟩)⟩
theorem xt_342 : xi_site RX19 (40, 25, 3, 0, 16) := ⟨RX19, TX19, 7, "UnwindTowerModel", tyX19, rfl, xu_25, by decide, xw_t7 103 (by decide +kernel) (by decide +kernel), Or.inl rfl, tyX19_ok, nmX19, rfl, (fun h => nomatch h), .inl ⟨rfl, rfl⟩⟩
theorem xt_343 : xi_site RX19 (40, 25, 4, 0, 20) := ⟨RX19, TX19, 7, "UnwindTowerModel", tyX19, rfl, xu_25, by decide, xw_t7 104 (by decide +kernel) (by decide +kernel), Or.inl rfl, tyX19_ok, nmX19, rfl, (fun h => nomatch h), .inl ⟨rfl, rfl⟩⟩
theorem xt_344 : xi_site RX19 (41, 25, 1, 2, 10) := ⟨RX19, TX19, 7, "UnwindTowerModel", tyX19, rfl, xu_25, by decide, xw_t7 101 (by decide +kernel) (by decide +kernel), Or.inl rfl, tyX19_ok, nmX19, rfl, (fun _ => rfl), .inr (.inr (.inl ⟨rfl, .inl ⟨_, rfl⟩⟩))⟩
theorem xt_345 : xi_site RX19 (49, 0, 17, 0, 74) := ⟨"UnwindTowerModel$Kind", xw_t7 149 (by decide +kernel) (by decide +kernel), .inl ⟨rfl, _, rfl, rfl⟩⟩
theorem xt_346 : xi_site RX19 (49, 0, 19, 0, 145) := ⟨"UnwindTowerModel$Procedure", xw_t8 13 (by decide +kernel) (by decide +kernel), .inl ⟨rfl, _, rfl, rfl⟩⟩
theorem xt_347 : xi_site RX19 (49, 1, 0, 0, 226) := ⟨"[I", xw_t10 223 (by decide +kernel) (by decide +kernel), .inr ⟨rfl, rfl, rfl⟩⟩
theorem xt_348 : xi_site RX19 (51, 0, 0, 0, 1) := ⟨xw_t6 180 (by decide +kernel) (by decide +kernel), xw_t1 52 (by decide +kernel) (by decide +kernel), xw_t1 53 (by decide +kernel) (by decide +kernel)⟩
theorem xt_349 : xi_site RX19 (56, 17, 0, 0, 74) := ⟨RX11, TX11, 2, tyX11, rfl, tyX11_ok, xw_t7 149 (by decide +kernel) (by decide +kernel), xw_t6 221 (by decide +kernel) (by decide +kernel), xw_t1 16 (by decide +kernel) (by decide +kernel), xu_17, by decide +kernel⟩
theorem xt_350 : xi_site RX19 (56, 18, 0, 0, 110) := ⟨RX12, TX12, 7, tyX12, rfl, tyX12_ok, xw_t7 234 (by decide +kernel) (by decide +kernel), xw_t10 146 (by decide +kernel) (by decide +kernel), xw_t1 42 (by decide +kernel) (by decide +kernel), xu_18, by decide +kernel⟩
theorem xt_351 : xi_site RX19 (56, 19, 0, 0, 145) := ⟨RX13, TX13, 2, tyX13, rfl, tyX13_ok, xw_t8 13 (by decide +kernel) (by decide +kernel), xw_t7 67 (by decide +kernel) (by decide +kernel), xw_t1 21 (by decide +kernel) (by decide +kernel), xu_19, by decide +kernel⟩
theorem xt_352 : xi_site RX19 (56, 20, 0, 0, 7) := ⟨RX14, TX14, 3, tyX14, rfl, tyX14_ok, xw_t6 181 (by decide +kernel) (by decide +kernel), xw_t6 182 (by decide +kernel) (by decide +kernel), xw_t1 12 (by decide +kernel) (by decide +kernel), xu_20, by decide +kernel⟩
theorem xv_102 : xs_cl 102 2 := ⟨xw_t12 35 rfl (by decide +kernel), xw_t1 11 (by decide +kernel) (by decide +kernel), ⟨by decide +kernel, by decide +kernel⟩, by decide +kernel, by decide +kernel⟩
theorem xt_353 : xi_site RX19 (96, 102, 2, 0, 300) := ⟨xv_102, xw_t12 33 (by decide +kernel) (by decide +kernel), xw_t12 34 (by decide +kernel) (by decide +kernel)⟩
theorem xv_114 : xs_cl 114 3 := ⟨xw_t7 140 rfl (by decide +kernel), xw_t1 11 (by decide +kernel) (by decide +kernel), ⟨by decide +kernel, by decide +kernel⟩, by decide +kernel, by decide +kernel⟩
theorem xt_354 : xi_site RX19 (96, 114, 3, 0, 40) := ⟨xv_114, xw_t7 138 (by decide +kernel) (by decide +kernel), xw_t7 139 (by decide +kernel) (by decide +kernel)⟩
theorem xv_116 : xs_cl 116 2 := ⟨xw_t11 2 rfl (by decide +kernel), xw_t1 11 (by decide +kernel) (by decide +kernel), ⟨by decide +kernel, by decide +kernel⟩, by decide +kernel, by decide +kernel⟩
theorem xt_355 : xi_site RX19 (96, 116, 2, 0, 227) := ⟨xv_116, xw_t11 0 (by decide +kernel) (by decide +kernel), xw_t11 1 (by decide +kernel) (by decide +kernel)⟩
theorem xv_147 : xs_cl 147 2 := ⟨xw_t6 224 rfl (by decide +kernel), xw_t1 16 (by decide +kernel) (by decide +kernel), ⟨by decide +kernel, by decide +kernel⟩, by decide +kernel, by decide +kernel⟩
theorem xt_356 : xi_site RX19 (98, 147, 2, 17, 76) := ⟨xv_147, by decide +kernel, by decide +kernel, by decide +kernel, xw_t7 150 (by decide +kernel) (by decide +kernel), xw_t6 223 (by decide +kernel) (by decide +kernel)⟩
theorem xv_148 : xs_cl 148 5 := ⟨xw_t10 149 rfl (by decide +kernel), xw_t1 42 (by decide +kernel) (by decide +kernel), ⟨by decide +kernel, by decide +kernel⟩, by decide +kernel, by decide +kernel⟩
theorem xt_357 : xi_site RX19 (98, 148, 5, 18, 187) := ⟨xv_148, by decide +kernel, by decide +kernel, by decide +kernel, xw_t10 147 (by decide +kernel) (by decide +kernel), xw_t10 148 (by decide +kernel) (by decide +kernel)⟩
theorem xv_150 : xs_cl 150 1 := ⟨xw_t7 70 rfl (by decide +kernel), xw_t1 21 (by decide +kernel) (by decide +kernel), ⟨by decide +kernel, by decide +kernel⟩, by decide +kernel, by decide +kernel⟩
theorem xt_358 : xi_site RX19 (98, 150, 1, 19, 147) := ⟨xv_150, by decide +kernel, by decide +kernel, by decide +kernel, xw_t8 14 (by decide +kernel) (by decide +kernel), xw_t7 69 (by decide +kernel) (by decide +kernel)⟩
theorem xv_151 : xs_cl 151 0 := ⟨xw_t6 185 rfl (by decide +kernel), xw_t1 12 (by decide +kernel) (by decide +kernel), ⟨by decide +kernel, by decide +kernel⟩, by decide +kernel, by decide +kernel⟩
theorem xt_359 : xi_site RX19 (98, 151, 0, 20, 9) := ⟨xv_151, by decide +kernel, by decide +kernel, by decide +kernel, xw_t6 183 (by decide +kernel) (by decide +kernel), xw_t6 184 (by decide +kernel) (by decide +kernel)⟩
theorem xv_106 : xs_cl 106 2 := ⟨xw_t12 10 rfl (by decide +kernel), xw_t1 11 (by decide +kernel) (by decide +kernel), ⟨by decide +kernel, by decide +kernel⟩, by decide +kernel, by decide +kernel⟩
theorem xt_360 : xi_site RX19 (100, 106, 2, 25, 286) := ⟨xv_106, by decide +kernel, xw_t12 7 (by decide +kernel) (by decide +kernel), xw_t12 9 (by decide +kernel) (by decide +kernel), _, rfl, xw_sl 133 (by decide +kernel) (by decide +kernel)⟩
theorem xv_112 : xs_cl 112 1 := ⟨xw_t11 238 rfl (by decide +kernel), xw_t1 11 (by decide +kernel) (by decide +kernel), ⟨by decide +kernel, by decide +kernel⟩, by decide +kernel, by decide +kernel⟩
theorem xt_361 : xi_site RX19 (100, 112, 1, 25, 283) := ⟨xv_112, by decide +kernel, xw_t11 235 (by decide +kernel) (by decide +kernel), xw_t11 237 (by decide +kernel) (by decide +kernel), _, rfl, xw_sl 132 (by decide +kernel) (by decide +kernel)⟩
theorem xv_113 : xs_cl 113 0 := ⟨xw_t8 30 rfl (by decide +kernel), xw_t1 11 (by decide +kernel) (by decide +kernel), ⟨by decide +kernel, by decide +kernel⟩, by decide +kernel, by decide +kernel⟩
theorem xt_362 : xi_site RX19 (100, 113, 0, 25, 176) := ⟨xv_113, by decide +kernel, xw_t8 27 (by decide +kernel) (by decide +kernel), xw_t8 29 (by decide +kernel) (by decide +kernel), _, rfl, xw_sl 84 (by decide +kernel) (by decide +kernel)⟩
theorem xv_115 : xs_cl 115 1 := ⟨xw_t7 133 rfl (by decide +kernel), xw_t1 11 (by decide +kernel) (by decide +kernel), ⟨by decide +kernel, by decide +kernel⟩, by decide +kernel, by decide +kernel⟩
theorem xt_363 : xi_site RX19 (100, 115, 1, 25, 67) := ⟨xv_115, by decide +kernel, xw_t7 130 (by decide +kernel) (by decide +kernel), xw_t7 132 (by decide +kernel) (by decide +kernel), _, rfl, xw_sl 78 (by decide +kernel) (by decide +kernel)⟩
theorem xv_117 : xs_cl 117 1 := ⟨xw_t10 209 rfl (by decide +kernel), xw_t1 11 (by decide +kernel) (by decide +kernel), ⟨by decide +kernel, by decide +kernel⟩, by decide +kernel, by decide +kernel⟩
theorem xt_364 : xi_site RX19 (100, 117, 1, 25, 205) := ⟨xv_117, by decide +kernel, xw_t10 206 (by decide +kernel) (by decide +kernel), xw_t10 208 (by decide +kernel) (by decide +kernel), _, rfl, xw_sl 114 (by decide +kernel) (by decide +kernel)⟩
theorem xv_118 : xs_cl 118 1 := ⟨xw_t8 22 rfl (by decide +kernel), xw_t1 11 (by decide +kernel) (by decide +kernel), ⟨by decide +kernel, by decide +kernel⟩, by decide +kernel, by decide +kernel⟩
theorem xt_365 : xi_site RX19 (100, 118, 1, 25, 150) := ⟨xv_118, by decide +kernel, xw_t8 19 (by decide +kernel) (by decide +kernel), xw_t8 21 (by decide +kernel) (by decide +kernel), _, rfl, xw_sl 83 (by decide +kernel) (by decide +kernel)⟩
theorem xv_119 : xs_cl 119 1 := ⟨xw_t8 12 rfl (by decide +kernel), xw_t1 11 (by decide +kernel) (by decide +kernel), ⟨by decide +kernel, by decide +kernel⟩, by decide +kernel, by decide +kernel⟩
theorem xt_366 : xi_site RX19 (100, 119, 1, 25, 142) := ⟨xv_119, by decide +kernel, xw_t8 9 (by decide +kernel) (by decide +kernel), xw_t8 11 (by decide +kernel) (by decide +kernel), _, rfl, xw_sl 82 (by decide +kernel) (by decide +kernel)⟩
theorem xv_120 : xs_cl 120 1 := ⟨xw_t11 214 rfl (by decide +kernel), xw_t1 11 (by decide +kernel) (by decide +kernel), ⟨by decide +kernel, by decide +kernel⟩, by decide +kernel, by decide +kernel⟩
theorem xt_367 : xi_site RX19 (100, 120, 1, 25, 271) := ⟨xv_120, by decide +kernel, xw_t11 211 (by decide +kernel) (by decide +kernel), xw_t11 213 (by decide +kernel) (by decide +kernel), _, rfl, xw_sl 129 (by decide +kernel) (by decide +kernel)⟩
theorem xv_121 : xs_cl 121 0 := ⟨xw_t11 218 rfl (by decide +kernel), xw_t1 11 (by decide +kernel) (by decide +kernel), ⟨by decide +kernel, by decide +kernel⟩, by decide +kernel, by decide +kernel⟩
theorem xt_368 : xi_site RX19 (100, 121, 0, 25, 256) := ⟨xv_121, by decide +kernel, xw_t11 215 (by decide +kernel) (by decide +kernel), xw_t11 217 (by decide +kernel) (by decide +kernel), _, rfl, xw_sl 130 (by decide +kernel) (by decide +kernel)⟩
theorem xv_122 : xs_cl 122 0 := ⟨xw_t11 205 rfl (by decide +kernel), xw_t1 11 (by decide +kernel) (by decide +kernel), ⟨by decide +kernel, by decide +kernel⟩, by decide +kernel, by decide +kernel⟩
theorem xt_369 : xi_site RX19 (100, 122, 0, 25, 253) := ⟨xv_122, by decide +kernel, xw_t11 202 (by decide +kernel) (by decide +kernel), xw_t11 204 (by decide +kernel) (by decide +kernel), _, rfl, xw_sl 128 (by decide +kernel) (by decide +kernel)⟩
theorem xv_129 : xs_cl 129 2 := ⟨xw_t7 159 rfl (by decide +kernel), xw_t1 11 (by decide +kernel) (by decide +kernel), ⟨by decide +kernel, by decide +kernel⟩, by decide +kernel, by decide +kernel⟩
theorem xt_370 : xi_site RX19 (100, 129, 2, 25, 138) := ⟨xv_129, by decide +kernel, xw_t7 156 (by decide +kernel) (by decide +kernel), xw_t7 158 (by decide +kernel) (by decide +kernel), _, rfl, xw_sl 81 (by decide +kernel) (by decide +kernel)⟩
theorem xv_132 : xs_cl 132 3 := ⟨xw_t10 101 rfl (by decide +kernel), xw_t1 11 (by decide +kernel) (by decide +kernel), ⟨by decide +kernel, by decide +kernel⟩, by decide +kernel, by decide +kernel⟩
theorem xt_371 : xi_site RX19 (100, 132, 3, 25, 179) := ⟨xv_132, by decide +kernel, xw_t10 98 (by decide +kernel) (by decide +kernel), xw_t10 100 (by decide +kernel) (by decide +kernel), _, rfl, xw_sl 106 (by decide +kernel) (by decide +kernel)⟩
theorem xv_134 : xs_cl 134 1 := ⟨xw_t11 193 rfl (by decide +kernel), xw_t1 11 (by decide +kernel) (by decide +kernel), ⟨by decide +kernel, by decide +kernel⟩, by decide +kernel, by decide +kernel⟩
theorem xt_372 : xi_site RX19 (100, 134, 1, 25, 242) := ⟨xv_134, by decide +kernel, xw_t11 190 (by decide +kernel) (by decide +kernel), xw_t11 192 (by decide +kernel) (by decide +kernel), _, rfl, xw_sl 127 (by decide +kernel) (by decide +kernel)⟩
theorem xv_138 : xs_cl 138 2 := ⟨xw_t7 148 rfl (by decide +kernel), xw_t1 11 (by decide +kernel) (by decide +kernel), ⟨by decide +kernel, by decide +kernel⟩, by decide +kernel, by decide +kernel⟩
theorem xt_373 : xi_site RX19 (100, 138, 2, 25, 26) := ⟨xv_138, by decide +kernel, xw_t7 145 (by decide +kernel) (by decide +kernel), xw_t7 147 (by decide +kernel) (by decide +kernel), _, rfl, xw_sl 80 (by decide +kernel) (by decide +kernel)⟩
theorem xv_141 : xs_cl 141 2 := ⟨xw_t7 144 rfl (by decide +kernel), xw_t1 11 (by decide +kernel) (by decide +kernel), ⟨by decide +kernel, by decide +kernel⟩, by decide +kernel, by decide +kernel⟩
theorem xt_374 : xi_site RX19 (100, 141, 2, 25, 71) := ⟨xv_141, by decide +kernel, xw_t7 141 (by decide +kernel) (by decide +kernel), xw_t7 143 (by decide +kernel) (by decide +kernel), _, rfl, xw_sl 79 (by decide +kernel) (by decide +kernel)⟩
theorem xv_149 : xs_cl 149 0 := ⟨xw_t8 80 rfl (by decide +kernel), xw_t1 42 (by decide +kernel) (by decide +kernel), ⟨by decide +kernel, by decide +kernel⟩, by decide +kernel, by decide +kernel⟩
theorem xt_375 : xi_site RX19 (100, 149, 0, 18, 190) := ⟨xv_149, by decide +kernel, xw_t10 198 (by decide +kernel) (by decide +kernel), xw_t8 78 (by decide +kernel) (by decide +kernel), _, rfl, xw_t8 79 (by decide +kernel) (by decide +kernel)⟩
theorem xv_152 : xs_cl 152 1 := ⟨xw_t7 182 rfl (by decide +kernel), xw_t1 12 (by decide +kernel) (by decide +kernel), ⟨by decide +kernel, by decide +kernel⟩, by decide +kernel, by decide +kernel⟩
theorem xt_376 : xi_site RX19 (100, 152, 1, 20, 93) := ⟨xv_152, by decide +kernel, xw_t7 179 (by decide +kernel) (by decide +kernel), xw_t7 180 (by decide +kernel) (by decide +kernel), _, rfl, xw_t7 181 (by decide +kernel) (by decide +kernel)⟩
theorem xv_153 : xs_cl 153 1 := ⟨xw_t8 51 rfl (by decide +kernel), xw_t1 12 (by decide +kernel) (by decide +kernel), ⟨by decide +kernel, by decide +kernel⟩, by decide +kernel, by decide +kernel⟩
theorem xt_377 : xi_site RX19 (100, 153, 1, 20, 159) := ⟨xv_153, by decide +kernel, xw_t10 102 (by decide +kernel) (by decide +kernel), xw_t8 49 (by decide +kernel) (by decide +kernel), _, rfl, xw_t8 50 (by decide +kernel) (by decide +kernel)⟩
theorem xv_154 : xs_cl 154 0 := ⟨xw_t8 34 rfl (by decide +kernel), xw_t1 12 (by decide +kernel) (by decide +kernel), ⟨by decide +kernel, by decide +kernel⟩, by decide +kernel, by decide +kernel⟩
theorem xt_378 : xi_site RX19 (100, 154, 0, 20, 50) := ⟨xv_154, by decide +kernel, xw_t8 31 (by decide +kernel) (by decide +kernel), xw_t8 32 (by decide +kernel) (by decide +kernel), _, rfl, xw_t8 33 (by decide +kernel) (by decide +kernel)⟩
theorem xv_156 : xs_cl 156 1 := ⟨xw_t7 177 rfl (by decide +kernel), xw_t1 12 (by decide +kernel) (by decide +kernel), ⟨by decide +kernel, by decide +kernel⟩, by decide +kernel, by decide +kernel⟩
theorem xt_379 : xi_site RX19 (100, 156, 1, 20, 90) := ⟨xv_156, by decide +kernel, xw_t7 174 (by decide +kernel) (by decide +kernel), xw_t7 175 (by decide +kernel) (by decide +kernel), _, rfl, xw_t7 176 (by decide +kernel) (by decide +kernel)⟩
theorem xv_158 : xs_cl 158 4 := ⟨xw_t10 116 rfl (by decide +kernel), xw_t1 12 (by decide +kernel) (by decide +kernel), ⟨by decide +kernel, by decide +kernel⟩, by decide +kernel, by decide +kernel⟩
theorem xt_380 : xi_site RX19 (100, 158, 4, 20, 183) := ⟨xv_158, by decide +kernel, xw_t10 113 (by decide +kernel) (by decide +kernel), xw_t10 114 (by decide +kernel) (by decide +kernel), _, rfl, xw_t10 115 (by decide +kernel) (by decide +kernel)⟩
theorem xv_168 : xs_cl 168 1 := ⟨xw_t6 239 rfl (by decide +kernel), xw_t1 15 (by decide +kernel) (by decide +kernel), ⟨by decide +kernel, by decide +kernel⟩, by decide +kernel, by decide +kernel⟩
theorem xt_381 : xi_site RX19 (100, 168, 1, 5, 79) := ⟨xv_168, by decide +kernel, xw_t7 151 (by decide +kernel) (by decide +kernel), xw_t6 237 (by decide +kernel) (by decide +kernel), _, rfl, xw_t6 238 (by decide +kernel) (by decide +kernel)⟩
theorem xv_171 : xs_cl 171 1 := ⟨xw_t7 163 rfl (by decide +kernel), xw_t1 15 (by decide +kernel) (by decide +kernel), ⟨by decide +kernel, by decide +kernel⟩, by decide +kernel, by decide +kernel⟩
theorem xt_382 : xi_site RX19 (100, 171, 1, 5, 83) := ⟨xv_171, by decide +kernel, xw_t7 160 (by decide +kernel) (by decide +kernel), xw_t7 161 (by decide +kernel) (by decide +kernel), _, rfl, xw_t7 162 (by decide +kernel) (by decide +kernel)⟩
theorem xv_174 : xs_cl 174 0 := ⟨xw_t8 124 rfl (by decide +kernel), xw_t1 15 (by decide +kernel) (by decide +kernel), ⟨by decide +kernel, by decide +kernel⟩, by decide +kernel, by decide +kernel⟩
theorem xt_383 : xi_site RX19 (100, 174, 0, 5, 54) := ⟨xv_174, by decide +kernel, xw_t10 97 (by decide +kernel) (by decide +kernel), xw_t8 122 (by decide +kernel) (by decide +kernel), _, rfl, xw_t8 123 (by decide +kernel) (by decide +kernel)⟩
theorem xv_175 : xs_cl 175 0 := ⟨xw_t7 191 rfl (by decide +kernel), xw_t1 15 (by decide +kernel) (by decide +kernel), ⟨by decide +kernel, by decide +kernel⟩, by decide +kernel, by decide +kernel⟩
theorem xt_384 : xi_site RX19 (100, 175, 0, 5, 97) := ⟨xv_175, by decide +kernel, xw_t7 188 (by decide +kernel) (by decide +kernel), xw_t7 189 (by decide +kernel) (by decide +kernel), _, rfl, xw_t7 190 (by decide +kernel) (by decide +kernel)⟩
theorem xv_176 : xs_cl 176 0 := ⟨xw_t7 137 rfl (by decide +kernel), xw_t1 15 (by decide +kernel) (by decide +kernel), ⟨by decide +kernel, by decide +kernel⟩, by decide +kernel, by decide +kernel⟩
theorem xt_385 : xi_site RX19 (100, 176, 0, 5, 34) := ⟨xv_176, by decide +kernel, xw_t7 134 (by decide +kernel) (by decide +kernel), xw_t7 135 (by decide +kernel) (by decide +kernel), _, rfl, xw_t7 136 (by decide +kernel) (by decide +kernel)⟩
theorem xt_386 : xi_site RX19 (101, 179, 0, 3, 101) := ⟨xw_t7 220 rfl (by decide +kernel), xw_t1 30 (by decide +kernel) (by decide +kernel), by decide +kernel, by decide +kernel, ⟨"java/util/Iterator", "hasNext", "()Z"⟩, _, ⟨by decide +kernel, by decide +kernel⟩, by decide +kernel, rfl, xw_t7 212 (by decide +kernel) (by decide +kernel), xw_t7 214 (by decide +kernel) (by decide +kernel), xw_t7 213 (by decide +kernel) (by decide +kernel), xw_t7 216 (by decide +kernel) (by decide +kernel), xw_t7 218 (by decide +kernel) (by decide +kernel), xw_t7 219 (by decide +kernel) (by decide +kernel), xw_t7 217 (by decide +kernel) (by decide +kernel), xw_t7 215 (by decide +kernel) (by decide +kernel)⟩
theorem xt_387 : xi_site RX19 (101, 180, 0, 3, 106) := ⟨xw_t7 229 rfl (by decide +kernel), xw_t1 30 (by decide +kernel) (by decide +kernel), by decide +kernel, by decide +kernel, ⟨"java/util/Iterator", "next", "()Ljava/lang/Object;"⟩, _, ⟨by decide +kernel, by decide +kernel⟩, by decide +kernel, rfl, xw_t7 222 (by decide +kernel) (by decide +kernel), xw_t7 224 (by decide +kernel) (by decide +kernel), xw_t7 223 (by decide +kernel) (by decide +kernel), xw_t7 225 (by decide +kernel) (by decide +kernel), xw_t7 227 (by decide +kernel) (by decide +kernel), xw_t7 228 (by decide +kernel) (by decide +kernel), xw_t7 226 (by decide +kernel) (by decide +kernel), xw_t7 215 (by decide +kernel) (by decide +kernel)⟩
theorem xt_388 : xi_site RX11 (41, 17, 0, 0, 7) := ⟨RX11, TX11, 2, "UnwindTowerModel$Kind", tyX11, rfl, xu_17, by decide, xw_t6 226 (by decide +kernel) (by decide +kernel), Or.inl rfl, tyX11_ok, nmX11, rfl, (fun _ => rfl), .inl ⟨rfl, rfl⟩⟩
theorem xt_389 : xi_site RX11 (41, 17, 1, 1, 13) := ⟨RX11, TX11, 2, "UnwindTowerModel$Kind", tyX11, rfl, xu_17, by decide, xw_t6 229 (by decide +kernel) (by decide +kernel), Or.inl rfl, tyX11_ok, nmX11, rfl, (fun _ => rfl), .inr (.inl ⟨rfl, rfl⟩)⟩
theorem xt_390 : xi_site RX11 (51, 0, 0, 0, 1) := ⟨xw_t6 225 (by decide +kernel) (by decide +kernel), xw_t1 52 (by decide +kernel) (by decide +kernel), xw_t1 53 (by decide +kernel) (by decide +kernel)⟩
theorem xt_391 : xi_site RX12 (38, 18, 1, 0, 21) := ⟨RX12, TX12, 7, "UnwindTowerModel$Node", rfl, xu_18, by decide, xw_t10 156 (by decide +kernel) (by decide +kernel), Or.inl rfl⟩
theorem xt_392 : xi_site RX12 (40, 18, 5, 0, 9) := ⟨RX12, TX12, 7, "UnwindTowerModel$Node", tyX12, rfl, xu_18, by decide, xw_t10 177 (by decide +kernel) (by decide +kernel), Or.inl rfl, tyX12_ok, nmX12, rfl, (fun h => nomatch h), .inl ⟨rfl, rfl⟩⟩
theorem xt_393 : xi_site RX12 (40, 18, 6, 0, 15) := ⟨RX12, TX12, 7, "UnwindTowerModel$Node", tyX12, rfl, xu_18, by decide, xw_t10 180 (by decide +kernel) (by decide +kernel), Or.inl rfl, tyX12_ok, nmX12, rfl, (fun h => nomatch h), .inl ⟨rfl, rfl⟩⟩
theorem xt_394 : xi_site RX12 (41, 18, 0, 0, 18) := ⟨RX12, TX12, 7, "UnwindTowerModel$Node", tyX12, rfl, xu_18, by decide, xw_t10 151 (by decide +kernel) (by decide +kernel), Or.inl rfl, tyX12_ok, nmX12, rfl, (fun _ => rfl), .inl ⟨rfl, rfl⟩⟩
theorem xt_395 : xi_site RX12 (41, 18, 1, 0, 21) := ⟨RX12, TX12, 7, "UnwindTowerModel$Node", tyX12, rfl, xu_18, by decide, xw_t10 156 (by decide +kernel) (by decide +kernel), Or.inl rfl, tyX12_ok, nmX12, rfl, (fun _ => rfl), .inl ⟨rfl, rfl⟩⟩
theorem xt_396 : xi_site RX12 (41, 18, 2, 0, 24) := ⟨RX12, TX12, 7, "UnwindTowerModel$Node", tyX12, rfl, xu_18, by decide, xw_t10 162 (by decide +kernel) (by decide +kernel), Or.inl rfl, tyX12_ok, nmX12, rfl, (fun _ => rfl), .inl ⟨rfl, rfl⟩⟩
theorem xt_397 : xi_site RX12 (41, 18, 3, 0, 27) := ⟨RX12, TX12, 7, "UnwindTowerModel$Node", tyX12, rfl, xu_18, by decide, xw_t10 167 (by decide +kernel) (by decide +kernel), Or.inl rfl, tyX12_ok, nmX12, rfl, (fun _ => rfl), .inl ⟨rfl, rfl⟩⟩
theorem xt_398 : xi_site RX12 (41, 18, 4, 0, 30) := ⟨RX12, TX12, 7, "UnwindTowerModel$Node", tyX12, rfl, xu_18, by decide, xw_t10 172 (by decide +kernel) (by decide +kernel), Or.inl rfl, tyX12_ok, nmX12, rfl, (fun _ => rfl), .inl ⟨rfl, rfl⟩⟩
theorem xt_399 : xi_site RX12 (51, 0, 0, 0, 3) := ⟨xw_t10 150 (by decide +kernel) (by decide +kernel), xw_t1 52 (by decide +kernel) (by decide +kernel), xw_t1 53 (by decide +kernel) (by decide +kernel)⟩
theorem xt_400 : xi_site RX12 (56, 5, 0, 0, 33) := ⟨RJx4a65c, TJx4a65c, 3, tyJx4a65c, rfl, tyJx4a65c_ok, xw_t8 81 (by decide +kernel) (by decide +kernel), xw_t6 188 (by decide +kernel) (by decide +kernel), xw_t1 15 (by decide +kernel) (by decide +kernel), xu_5, by decide +kernel⟩
theorem xv_167 : xs_cl 167 0 := ⟨xw_t6 191 rfl (by decide +kernel), xw_t1 15 (by decide +kernel) (by decide +kernel), ⟨by decide +kernel, by decide +kernel⟩, by decide +kernel, by decide +kernel⟩
theorem xt_401 : xi_site RX12 (98, 167, 0, 5, 35) := ⟨xv_167, by decide +kernel, by decide +kernel, by decide +kernel, xw_t8 82 (by decide +kernel) (by decide +kernel), xw_t6 190 (by decide +kernel) (by decide +kernel)⟩
theorem xt_402 : xi_site RX13 (40, 19, 0, 0, 15) := ⟨RX13, TX13, 2, "UnwindTowerModel$Procedure", tyX13, rfl, xu_19, by decide, xw_t7 72 (by decide +kernel) (by decide +kernel), Or.inl rfl, tyX13_ok, nmX13, rfl, (fun h => nomatch h), .inl ⟨rfl, rfl⟩⟩
theorem xt_403 : xi_site RX13 (40, 19, 1, 0, 9) := ⟨RX13, TX13, 2, "UnwindTowerModel$Procedure", tyX13, rfl, xu_19, by decide, xw_t7 75 (by decide +kernel) (by decide +kernel), Or.inl rfl, tyX13_ok, nmX13, rfl, (fun h => nomatch h), .inl ⟨rfl, rfl⟩⟩
theorem xt_404 : xi_site RX13 (51, 0, 0, 0, 3) := ⟨xw_t7 71 (by decide +kernel) (by decide +kernel), xw_t1 52 (by decide +kernel) (by decide +kernel), xw_t1 53 (by decide +kernel) (by decide +kernel)⟩
theorem xt_405 : xi_site RX14 (38, 17, 0, 0, 44) := ⟨RX11, TX11, 2, "UnwindTowerModel$Kind", rfl, xu_17, by decide, xw_t6 227 (by decide +kernel) (by decide +kernel), Or.inl rfl⟩
theorem xt_406 : xi_site RX14 (38, 17, 1, 0, 48) := ⟨RX11, TX11, 2, "UnwindTowerModel$Kind", rfl, xu_17, by decide, xw_t6 230 (by decide +kernel) (by decide +kernel), Or.inl rfl⟩
theorem xt_407 : xi_site RX14 (38, 19, 1, 0, 135) := ⟨RX13, TX13, 2, "UnwindTowerModel$Procedure", rfl, xu_19, by decide, xw_t7 79 (by decide +kernel) (by decide +kernel), Or.inl rfl⟩
theorem xt_408 : xi_site RX14 (38, 20, 0, 0, 12) := ⟨RX14, TX14, 3, "UnwindTowerModel$Program", rfl, xu_20, by decide, xw_t7 85 (by decide +kernel) (by decide +kernel), Or.inl rfl⟩
theorem xt_409 : xi_site RX14 (38, 20, 1, 0, 18) := ⟨RX14, TX14, 3, "UnwindTowerModel$Program", rfl, xu_20, by decide, xw_t7 87 (by decide +kernel) (by decide +kernel), Or.inl rfl⟩
theorem xt_410 : xi_site RX14 (38, 20, 2, 0, 21) := ⟨RX14, TX14, 3, "UnwindTowerModel$Program", rfl, xu_20, by decide, xw_t7 91 (by decide +kernel) (by decide +kernel), Or.inl rfl⟩
end
section
/-! sites -/
theorem xt_411 : xi_site RX14 (41, 20, 0, 2, 12) := ⟨RX14, TX14, 3, "UnwindTowerModel$Program", tyX14, rfl, xu_20, by decide, xw_t7 85 (by decide +kernel) (by decide +kernel), Or.inl rfl, tyX14_ok, nmX14, rfl, (fun _ => rfl), .inr (.inr (.inl ⟨rfl, .inl ⟨_, rfl⟩⟩))⟩
theorem xt_412 : xi_site RX14 (41, 20, 1, 2, 18) := ⟨RX14, TX14, 3, "UnwindTowerModel$Program", tyX14, rfl, xu_20, by decide, xw_t7 87 (by decide +kernel) (by decide +kernel), Or.inl rfl, tyX14_ok, nmX14, rfl, (fun _ => rfl), .inr (.inr (.inl ⟨rfl, .inl ⟨_, rfl⟩⟩))⟩
theorem xt_413 : xi_site RX14 (41, 20, 2, 2, 21) := ⟨RX14, TX14, 3, "UnwindTowerModel$Program", tyX14, rfl, xu_20, by decide, xw_t7 91 (by decide +kernel) (by decide +kernel), Or.inl rfl, tyX14_ok, nmX14, rfl, (fun _ => rfl), .inr (.inr (.inl ⟨rfl, .inl ⟨_, rfl⟩⟩))⟩
theorem xt_414 : xi_site RX14 (49, 0, 17, 0, 24) := ⟨"UnwindTowerModel$Kind", xw_t6 220 (by decide +kernel) (by decide +kernel), .inl ⟨rfl, _, rfl, rfl⟩⟩
theorem xt_415 : xi_site RX14 (49, 0, 19, 0, 33) := ⟨"UnwindTowerModel$Procedure", xw_t7 66 (by decide +kernel) (by decide +kernel), .inl ⟨rfl, _, rfl, rfl⟩⟩
theorem xt_416 : xi_site RX14 (51, 0, 0, 0, 3) := ⟨xw_t6 186 (by decide +kernel) (by decide +kernel), xw_t1 52 (by decide +kernel) (by decide +kernel), xw_t1 53 (by decide +kernel) (by decide +kernel)⟩
theorem xt_417 : xi_site RX14 (56, 5, 0, 0, 9) := ⟨RJx4a65c, TJx4a65c, 3, tyJx4a65c, rfl, tyJx4a65c_ok, xw_t6 187 (by decide +kernel) (by decide +kernel), xw_t6 188 (by decide +kernel) (by decide +kernel), xw_t1 15 (by decide +kernel) (by decide +kernel), xu_5, by decide +kernel⟩
theorem xt_418 : xi_site RX14 (56, 17, 0, 0, 24) := ⟨RX11, TX11, 2, tyX11, rfl, tyX11_ok, xw_t6 220 (by decide +kernel) (by decide +kernel), xw_t6 221 (by decide +kernel) (by decide +kernel), xw_t1 16 (by decide +kernel) (by decide +kernel), xu_17, by decide +kernel⟩
theorem xt_419 : xi_site RX14 (56, 19, 0, 0, 33) := ⟨RX13, TX13, 2, tyX13, rfl, tyX13_ok, xw_t7 66 (by decide +kernel) (by decide +kernel), xw_t7 67 (by decide +kernel) (by decide +kernel), xw_t1 21 (by decide +kernel) (by decide +kernel), xu_19, by decide +kernel⟩
theorem xt_420 : xi_site RX14 (57, 0, 0, 0, 0) := .inl ⟨rfl, xw_t1 152 (by decide +kernel) (by decide +kernel)⟩
theorem xt_421 : xi_site RX14 (97, 114, 3, 0, 60) := ⟨xv_114, by decide +kernel, "UnwindTowerModel", xw_t10 121 (by decide +kernel) (by decide +kernel), xw_t7 139 (by decide +kernel) (by decide +kernel)⟩
theorem xt_422 : xi_site RX14 (98, 147, 2, 17, 26) := ⟨xv_147, by decide +kernel, by decide +kernel, by decide +kernel, xw_t6 222 (by decide +kernel) (by decide +kernel), xw_t6 223 (by decide +kernel) (by decide +kernel)⟩
theorem xt_423 : xi_site RX14 (98, 150, 1, 19, 35) := ⟨xv_150, by decide +kernel, by decide +kernel, by decide +kernel, xw_t7 68 (by decide +kernel) (by decide +kernel), xw_t7 69 (by decide +kernel) (by decide +kernel)⟩
theorem xt_424 : xi_site RX14 (98, 167, 0, 5, 11) := ⟨xv_167, by decide +kernel, by decide +kernel, by decide +kernel, xw_t6 189 (by decide +kernel) (by decide +kernel), xw_t6 190 (by decide +kernel) (by decide +kernel)⟩
theorem xv_155 : xs_cl 155 2 := ⟨xw_t7 187 rfl (by decide +kernel), xw_t1 12 (by decide +kernel) (by decide +kernel), ⟨by decide +kernel, by decide +kernel⟩, by decide +kernel, by decide +kernel⟩
theorem xt_425 : xi_site RX14 (100, 155, 2, 20, 56) := ⟨xv_155, by decide +kernel, xw_t7 184 (by decide +kernel) (by decide +kernel), xw_t7 185 (by decide +kernel) (by decide +kernel), _, rfl, xw_t7 186 (by decide +kernel) (by decide +kernel)⟩
theorem xv_157 : xs_cl 157 1 := ⟨xw_t10 141 rfl (by decide +kernel), xw_t1 12 (by decide +kernel) (by decide +kernel), ⟨by decide +kernel, by decide +kernel⟩, by decide +kernel, by decide +kernel⟩
theorem xt_426 : xi_site RX14 (100, 157, 1, 20, 94) := ⟨xv_157, by decide +kernel, xw_t10 138 (by decide +kernel) (by decide +kernel), xw_t10 140 (by decide +kernel) (by decide +kernel), _, rfl, xw_sl 112 (by decide +kernel) (by decide +kernel)⟩
theorem xv_159 : xs_cl 159 1 := ⟨xw_t10 125 rfl (by decide +kernel), xw_t1 12 (by decide +kernel) (by decide +kernel), ⟨by decide +kernel, by decide +kernel⟩, by decide +kernel, by decide +kernel⟩
theorem xt_427 : xi_site RX14 (100, 159, 1, 20, 85) := ⟨xv_159, by decide +kernel, xw_t10 122 (by decide +kernel) (by decide +kernel), xw_t10 123 (by decide +kernel) (by decide +kernel), _, rfl, xw_t10 124 (by decide +kernel) (by decide +kernel)⟩
theorem xv_160 : xs_cl 160 2 := ⟨xw_t10 129 rfl (by decide +kernel), xw_t1 12 (by decide +kernel) (by decide +kernel), ⟨by decide +kernel, by decide +kernel⟩, by decide +kernel, by decide +kernel⟩
theorem xt_428 : xi_site RX14 (100, 160, 2, 20, 77) := ⟨xv_160, by decide +kernel, xw_t10 126 (by decide +kernel) (by decide +kernel), xw_t10 128 (by decide +kernel) (by decide +kernel), _, rfl, xw_sl 109 (by decide +kernel) (by decide +kernel)⟩
theorem xv_161 : xs_cl 161 2 := ⟨xw_t10 133 rfl (by decide +kernel), xw_t1 12 (by decide +kernel) (by decide +kernel), ⟨by decide +kernel, by decide +kernel⟩, by decide +kernel, by decide +kernel⟩
theorem xt_429 : xi_site RX14 (100, 161, 2, 20, 88) := ⟨xv_161, by decide +kernel, xw_t10 130 (by decide +kernel) (by decide +kernel), xw_t10 132 (by decide +kernel) (by decide +kernel), _, rfl, xw_sl 110 (by decide +kernel) (by decide +kernel)⟩
theorem xv_162 : xs_cl 162 1 := ⟨xw_t10 137 rfl (by decide +kernel), xw_t1 12 (by decide +kernel) (by decide +kernel), ⟨by decide +kernel, by decide +kernel⟩, by decide +kernel, by decide +kernel⟩
theorem xt_430 : xi_site RX14 (100, 162, 1, 20, 91) := ⟨xv_162, by decide +kernel, xw_t10 134 (by decide +kernel) (by decide +kernel), xw_t10 136 (by decide +kernel) (by decide +kernel), _, rfl, xw_sl 111 (by decide +kernel) (by decide +kernel)⟩
theorem xv_163 : xs_cl 163 1 := ⟨xw_t10 145 rfl (by decide +kernel), xw_t1 12 (by decide +kernel) (by decide +kernel), ⟨by decide +kernel, by decide +kernel⟩, by decide +kernel, by decide +kernel⟩
theorem xt_431 : xi_site RX14 (100, 163, 1, 20, 97) := ⟨xv_163, by decide +kernel, xw_t10 142 (by decide +kernel) (by decide +kernel), xw_t10 144 (by decide +kernel) (by decide +kernel), _, rfl, xw_sl 113 (by decide +kernel) (by decide +kernel)⟩
theorem xv_164 : xs_cl 164 1 := ⟨xw_t10 120 rfl (by decide +kernel), xw_t1 12 (by decide +kernel) (by decide +kernel), ⟨by decide +kernel, by decide +kernel⟩, by decide +kernel, by decide +kernel⟩
theorem xt_432 : xi_site RX14 (100, 164, 1, 20, 81) := ⟨xv_164, by decide +kernel, xw_t10 117 (by decide +kernel) (by decide +kernel), xw_t10 119 (by decide +kernel) (by decide +kernel), _, rfl, xw_sl 108 (by decide +kernel) (by decide +kernel)⟩
theorem xt_433 : xi_site RX14 (100, 168, 1, 5, 29) := ⟨xv_168, by decide +kernel, xw_t6 236 (by decide +kernel) (by decide +kernel), xw_t6 237 (by decide +kernel) (by decide +kernel), _, rfl, xw_t6 238 (by decide +kernel) (by decide +kernel)⟩
theorem xt_434 : xi_site RX14 (100, 171, 1, 5, 38) := ⟨xv_171, by decide +kernel, xw_t7 178 (by decide +kernel) (by decide +kernel), xw_t7 161 (by decide +kernel) (by decide +kernel), _, rfl, xw_t7 162 (by decide +kernel) (by decide +kernel)⟩
theorem xt_435 : xi_site RX14 (100, 174, 0, 5, 150) := ⟨xv_174, by decide +kernel, xw_t8 121 (by decide +kernel) (by decide +kernel), xw_t8 122 (by decide +kernel) (by decide +kernel), _, rfl, xw_t8 123 (by decide +kernel) (by decide +kernel)⟩
theorem xt_436 : xi_site RX14 (100, 176, 0, 5, 52) := ⟨xv_176, by decide +kernel, xw_t7 183 (by decide +kernel) (by decide +kernel), xw_t7 135 (by decide +kernel) (by decide +kernel), _, rfl, xw_t7 136 (by decide +kernel) (by decide +kernel)⟩
theorem xt_437 : xi_site RJxa1e45 (51, 0, 0, 0, 1) := ⟨xw_t6 198 (by decide +kernel) (by decide +kernel), xw_t1 52 (by decide +kernel) (by decide +kernel), xw_t1 53 (by decide +kernel) (by decide +kernel)⟩
theorem xt_438 : xi_site RJxc12de (40, 5, 0, 0, 7) := ⟨RJx4a65c, TJx4a65c, 3, "java/util/AbstractList", tyJx4a65c, rfl, xu_5, by decide, xw_t6 206 (by decide +kernel) (by decide +kernel), Or.inl rfl, tyJx4a65c_ok, nmJx4a65c, rfl, (fun h => nomatch h), .inl ⟨rfl, rfl⟩⟩
theorem xv_165 : xs_cl 165 0 := ⟨xw_t6 197 rfl (by decide +kernel), xw_t1 13 (by decide +kernel) (by decide +kernel), ⟨by decide +kernel, by decide +kernel⟩, by decide +kernel, by decide +kernel⟩
theorem xt_439 : xi_site RJxc12de (98, 165, 0, 0, 1) := ⟨xv_165, by decide +kernel, by decide +kernel, by decide +kernel, xw_t6 195 (by decide +kernel) (by decide +kernel), xw_t6 196 (by decide +kernel) (by decide +kernel)⟩
theorem xt_440 : xi_site RJx4a65c (38, 5, 0, 0, 63) := ⟨RJx4a65c, TJx4a65c, 3, "java/util/ArrayList", rfl, xu_5, by decide, xw_t6 212 (by decide +kernel) (by decide +kernel), Or.inr (xw_t6 208 (by decide +kernel) (by decide +kernel))⟩
theorem xt_441 : xi_site RJx4a65c (38, 5, 1, 0, 9) := ⟨RJx4a65c, TJx4a65c, 3, "java/util/ArrayList", rfl, xu_5, by decide, xw_t6 201 (by decide +kernel) (by decide +kernel), Or.inl rfl⟩
theorem xt_442 : xi_site RJx4a65c (38, 5, 2, 0, 48) := ⟨RJx4a65c, TJx4a65c, 3, "java/util/ArrayList", rfl, xu_5, by decide, xw_t6 205 (by decide +kernel) (by decide +kernel), Or.inl rfl⟩
theorem xt_443 : xi_site RJx4a65c (40, 5, 0, 0, 63) := ⟨RJx4a65c, TJx4a65c, 3, "java/util/ArrayList", tyJx4a65c, rfl, xu_5, by decide, xw_t6 212 (by decide +kernel) (by decide +kernel), Or.inr (xw_t6 208 (by decide +kernel) (by decide +kernel)), tyJx4a65c_ok, nmJx4a65c, rfl, (fun h => nomatch h), .inl ⟨rfl, rfl⟩⟩
theorem xt_444 : xi_site RJx4a65c (40, 5, 1, 2, 9) := ⟨RJx4a65c, TJx4a65c, 3, "java/util/ArrayList", tyJx4a65c, rfl, xu_5, by decide, xw_t6 201 (by decide +kernel) (by decide +kernel), Or.inl rfl, tyJx4a65c_ok, nmJx4a65c, rfl, (fun h => nomatch h), .inr (.inr (.inl ⟨rfl, .inr ⟨_, rfl⟩⟩))⟩
theorem xt_445 : xi_site RJx4a65c (40, 5, 2, 0, 48) := ⟨RJx4a65c, TJx4a65c, 3, "java/util/ArrayList", tyJx4a65c, rfl, xu_5, by decide, xw_t6 205 (by decide +kernel) (by decide +kernel), Or.inl rfl, tyJx4a65c_ok, nmJx4a65c, rfl, (fun h => nomatch h), .inl ⟨rfl, rfl⟩⟩
theorem xt_446 : xi_site RJx4a65c (50, 0, 0, 0, 39) := ⟨rfl, xw_t6 199 (by decide +kernel) (by decide +kernel)⟩
theorem xt_447 : xi_site RJx4a65c (52, 0, 0, 0, 79) := ⟨xw_t7 64 (by decide +kernel) (by decide +kernel), xw_t7 16 (by decide +kernel) (by decide +kernel), xw_t1 18 (by decide +kernel) (by decide +kernel), xw_t7 17 (by decide +kernel) (by decide +kernel)⟩
theorem xt_448 : xi_site RJx4a65c (56, 3, 0, 0, 267) := ⟨RJx35411, TJx35411, 4, tyJx35411, rfl, tyJx35411_ok, xw_t7 192 (by decide +kernel) (by decide +kernel), xw_t7 193 (by decide +kernel) (by decide +kernel), xw_t1 30 (by decide +kernel) (by decide +kernel), xu_3, by decide +kernel⟩
theorem xt_449 : xi_site RJx4a65c (58, 4, 0, 0, 7) := ⟨by decide, by decide, "java/lang/Object", rfl, xw_t7 65 (by decide +kernel) (by decide +kernel), xw_t7 62 (by decide +kernel) (by decide +kernel)⟩
theorem xv_181 : xs_cl 181 2 := ⟨xw_t7 166 rfl (by decide +kernel), xw_t1 28 (by decide +kernel) (by decide +kernel), ⟨by decide +kernel, by decide +kernel⟩, by decide +kernel, by decide +kernel⟩
theorem xt_450 : xi_site RJx4a65c (96, 181, 2, 0, 118) := ⟨xv_181, xw_t7 164 (by decide +kernel) (by decide +kernel), xw_t7 165 (by decide +kernel) (by decide +kernel)⟩
theorem xv_166 : xs_cl 166 0 := ⟨xw_t6 194 rfl (by decide +kernel), xw_t1 14 (by decide +kernel) (by decide +kernel), ⟨by decide +kernel, by decide +kernel⟩, by decide +kernel, by decide +kernel⟩
theorem xt_451 : xi_site RJx4a65c (98, 166, 0, 0, 1) := ⟨xv_166, by decide +kernel, by decide +kernel, by decide +kernel, xw_t6 192 (by decide +kernel) (by decide +kernel), xw_t6 193 (by decide +kernel) (by decide +kernel)⟩
theorem xv_177 : xs_cl 177 1 := ⟨xw_t7 196 rfl (by decide +kernel), xw_t1 30 (by decide +kernel) (by decide +kernel), ⟨by decide +kernel, by decide +kernel⟩, by decide +kernel, by decide +kernel⟩
theorem xt_452 : xi_site RJx4a65c (98, 177, 1, 3, 269) := ⟨xv_177, by decide +kernel, by decide +kernel, by decide +kernel, xw_t7 194 (by decide +kernel) (by decide +kernel), xw_t7 195 (by decide +kernel) (by decide +kernel)⟩
theorem xv_169 : xs_cl 169 3 := ⟨xw_t7 3 rfl (by decide +kernel), xw_t1 15 (by decide +kernel) (by decide +kernel), ⟨by decide +kernel, by decide +kernel⟩, by decide +kernel, by decide +kernel⟩
theorem xt_453 : xi_site RJx4a65c (100, 169, 3, 5, 131) := ⟨xv_169, by decide +kernel, xw_t7 0 (by decide +kernel) (by decide +kernel), xw_t7 2 (by decide +kernel) (by decide +kernel), _, rfl, xw_sl 75 (by decide +kernel) (by decide +kernel)⟩
theorem xv_170 : xs_cl 170 1 := ⟨xw_t7 173 rfl (by decide +kernel), xw_t1 15 (by decide +kernel) (by decide +kernel), ⟨by decide +kernel, by decide +kernel⟩, by decide +kernel, by decide +kernel⟩
theorem xt_454 : xi_site RJx4a65c (100, 170, 1, 5, 123) := ⟨xv_170, by decide +kernel, xw_t7 170 (by decide +kernel) (by decide +kernel), xw_t7 171 (by decide +kernel) (by decide +kernel), _, rfl, xw_t7 172 (by decide +kernel) (by decide +kernel)⟩
theorem xv_172 : xs_cl 172 0 := ⟨xw_t7 7 rfl (by decide +kernel), xw_t1 15 (by decide +kernel) (by decide +kernel), ⟨by decide +kernel, by decide +kernel⟩, by decide +kernel, by decide +kernel⟩
theorem xt_455 : xi_site RJx4a65c (100, 172, 0, 5, 129) := ⟨xv_172, by decide +kernel, xw_t7 4 (by decide +kernel) (by decide +kernel), xw_t7 6 (by decide +kernel) (by decide +kernel), _, rfl, xw_sl 76 (by decide +kernel) (by decide +kernel)⟩
theorem xv_173 : xs_cl 173 1 := ⟨xw_t7 11 rfl (by decide +kernel), xw_t1 15 (by decide +kernel) (by decide +kernel), ⟨by decide +kernel, by decide +kernel⟩, by decide +kernel, by decide +kernel⟩
theorem xt_456 : xi_site RJx4a65c (100, 173, 1, 5, 69) := ⟨xv_173, by decide +kernel, xw_t7 8 (by decide +kernel) (by decide +kernel), xw_t7 10 (by decide +kernel) (by decide +kernel), _, rfl, xw_sl 77 (by decide +kernel) (by decide +kernel)⟩
theorem xt_457 : xi_site RJx35411 (38, 3, 0, 0, 25) := ⟨RJx35411, TJx35411, 4, "java/util/ArrayList$Itr", rfl, xu_3, by decide, xw_t7 198 (by decide +kernel) (by decide +kernel), Or.inl rfl⟩
theorem xt_458 : xi_site RJx35411 (38, 3, 2, 0, 22) := ⟨RJx35411, TJx35411, 4, "java/util/ArrayList$Itr", rfl, xu_3, by decide, xw_t7 200 (by decide +kernel) (by decide +kernel), Or.inl rfl⟩
theorem xt_459 : xi_site RJx35411 (38, 3, 3, 0, 1) := ⟨RJx35411, TJx35411, 4, "java/util/ArrayList$Itr", rfl, xu_3, by decide, xw_t7 201 (by decide +kernel) (by decide +kernel), Or.inl rfl⟩
theorem xt_460 : xi_site RJx35411 (38, 5, 0, 0, 17) := ⟨RJx4a65c, TJx4a65c, 3, "java/util/ArrayList", rfl, xu_5, by decide, xw_t6 207 (by decide +kernel) (by decide +kernel), Or.inr (xw_t6 208 (by decide +kernel) (by decide +kernel))⟩
theorem xt_461 : xi_site RJx35411 (38, 5, 1, 0, 37) := ⟨RJx4a65c, TJx4a65c, 3, "java/util/ArrayList", rfl, xu_5, by decide, xw_t6 202 (by decide +kernel) (by decide +kernel), Or.inl rfl⟩
theorem xt_462 : xi_site RJx35411 (39, 5, 2, 0, 28) := ⟨RJx4a65c, TJx4a65c, 3, "java/util/ArrayList", "java/util/ArrayList", rfl, xu_5, by decide, xw_t6 204 (by decide +kernel) (by decide +kernel), Or.inl rfl⟩
theorem xt_463 : xi_site RJx35411 (40, 3, 0, 0, 25) := ⟨RJx35411, TJx35411, 4, "java/util/ArrayList$Itr", tyJx35411, rfl, xu_3, by decide, xw_t7 198 (by decide +kernel) (by decide +kernel), Or.inl rfl, tyJx35411_ok, nmJx35411, rfl, (fun h => nomatch h), .inl ⟨rfl, rfl⟩⟩
theorem xt_464 : xi_site RJx35411 (40, 3, 1, 0, 13) := ⟨RJx35411, TJx35411, 4, "java/util/ArrayList$Itr", tyJx35411, rfl, xu_3, by decide, xw_t7 199 (by decide +kernel) (by decide +kernel), Or.inl rfl, tyJx35411_ok, nmJx35411, rfl, (fun h => nomatch h), .inl ⟨rfl, rfl⟩⟩
theorem xt_465 : xi_site RJx35411 (40, 3, 2, 0, 22) := ⟨RJx35411, TJx35411, 4, "java/util/ArrayList$Itr", tyJx35411, rfl, xu_3, by decide, xw_t7 200 (by decide +kernel) (by decide +kernel), Or.inl rfl, tyJx35411_ok, nmJx35411, rfl, (fun h => nomatch h), .inl ⟨rfl, rfl⟩⟩
theorem xt_466 : xi_site RJx35411 (41, 3, 3, 2, 1) := ⟨RJx35411, TJx35411, 4, "java/util/ArrayList$Itr", tyJx35411, rfl, xu_3, by decide, xw_t7 201 (by decide +kernel) (by decide +kernel), Or.inl rfl, tyJx35411_ok, nmJx35411, rfl, (fun _ => rfl), .inr (.inr (.inl ⟨rfl, .inl ⟨_, rfl⟩⟩))⟩
theorem xt_467 : xi_site RJx35411 (51, 0, 0, 0, 7) := ⟨xw_t7 197 (by decide +kernel) (by decide +kernel), xw_t1 52 (by decide +kernel) (by decide +kernel), xw_t1 53 (by decide +kernel) (by decide +kernel)⟩
theorem xv_178 : xs_cl 178 0 := ⟨xw_t7 233 rfl (by decide +kernel), xw_t1 30 (by decide +kernel) (by decide +kernel), ⟨by decide +kernel, by decide +kernel⟩, by decide +kernel, by decide +kernel⟩
theorem xt_468 : xi_site RJx35411 (100, 178, 0, 3, 31) := ⟨xv_178, by decide +kernel, xw_t7 230 (by decide +kernel) (by decide +kernel), xw_t7 231 (by decide +kernel) (by decide +kernel), _, rfl, xw_t7 232 (by decide +kernel) (by decide +kernel)⟩
theorem xv_182 : xs_cl 182 3 := ⟨xw_t7 169 rfl (by decide +kernel), xw_t1 29 (by decide +kernel) (by decide +kernel), ⟨by decide +kernel, by decide +kernel⟩, by decide +kernel, by decide +kernel⟩
theorem xt_469 : xi_site RJ15 (96, 182, 3, 0, 105) := ⟨xv_182, xw_t7 167 (by decide +kernel) (by decide +kernel), xw_t7 168 (by decide +kernel) (by decide +kernel)⟩
def xg_SX9 : List (Nat × Nat × Nat × Nat × Nat) := [(3, 9223372036854775839, 0, 0, 303), (3, 9223372036854833936, 0, 0, 301), (38, 8, 4, 0, 182), (38, 10, 3, 0, 248), (38, 10, 4, 0, 229), (38, 10, 5, 0, 364), (38, 10, 6, 0, 367), (38, 10, 8, 0, 337), (38, 12, 0, 0, 80), (38, 12, 1, 0, 316), (38, 12, 2, 0, 319), (38, 12, 3, 0, 322), (38, 12, 4, 0, 111), (38, 12, 5, 0, 125), (38, 12, 6, 0, 331), (38, 12, 7, 0, 148), (38, 14, 4, 0, 328), (38, 15, 0, 0, 10), (38, 15, 1, 0, 21), (38, 15, 2, 0, 28), (38, 15, 3, 0, 34), (38, 15, 5, 0, 51), (38, 15, 7, 0, 192), (38, 15, 8, 0, 58), (38, 15, 9, 0, 62), (38, 15, 10, 0, 66), (38, 15, 11, 0, 226), (40, 15, 7, 1, 192), (40, 15, 8, 1, 58), (40, 15, 9, 0, 62), (40, 15, 10, 0, 66), (41, 15, 0, 2, 10), (41, 15, 1, 2, 21), (41, 15, 2, 2, 28), (41, 15, 3, 2, 34), (41, 15, 4, 2, 44), (41, 15, 5, 2, 51), (41, 15, 6, 2, 55), (51, 0, 0, 0, 1), (56, 6, 0, 0, 32), (56, 7, 0, 0, 39), (56, 8, 0, 0, 16), (56, 10, 0, 0, 48), (56, 12, 0, 0, 7), (56, 13, 0, 0, 25), (58, 1, 0, 0, 32), (90, 0, 75, 77, 73), (90, 0, 92, 77, 73), (90, 0, 123, 77, 73), (90, 0, 160, 77, 73), (90, 0, 175, 77, 73), (90, 0, 185, 77, 73), (90, 0, 198, 77, 73), (90, 0, 208, 77, 73), (90, 0, 241, 77, 73), (90, 1, 96, 98, 94), (90, 1, 109, 98, 94), (90, 1, 137, 98, 94), (90, 1, 146, 98, 94), (90, 1, 187, 98, 94), (90, 1, 218, 98, 94), (90, 1, 232, 98, 94), (90, 2, 220, 87, 83), (91, 0, 257, 77, 73), (91, 0, 263, 77, 73), (91, 0, 277, 77, 73), (91, 0, 282, 77, 73), (91, 0, 296, 77, 73), (91, 1, 294, 98, 94), (96, 1, 2, 0, 214), (96, 2, 2, 0, 129), (96, 6, 2, 0, 200), (96, 28, 3, 0, 133), (98, 43, 3, 7, 41), (98, 44, 1, 8, 18), (98, 49, 3, 10, 50), (98, 52, 0, 12, 9), (99, 42, 0, 6, 38), (99, 75, 0, 13, 27), (100, 8, 2, 15, 305), (100, 9, 1, 15, 309), (100, 15, 1, 15, 195), (100, 16, 0, 15, 373), (100, 29, 1, 15, 284), (100, 30, 2, 15, 102), (100, 31, 1, 15, 291), (100, 32, 2, 15, 139), (100, 33, 1, 15, 234), (100, 34, 0, 15, 99), (100, 36, 1, 15, 205), (100, 46, 0, 8, 386), (100, 47, 2, 8, 189), (100, 50, 0, 10, 237), (100, 53, 2, 12, 88), (100, 54, 4, 12, 153), (100, 55, 1, 12, 116), (100, 56, 1, 12, 334), (100, 58, 1, 12, 325), (100, 59, 0, 12, 370), (100, 60, 0, 12, 383), (100, 61, 1, 12, 69), (100, 62, 1, 12, 157), (100, 63, 1, 12, 120), (100, 66, 4, 12, 142), (100, 68, 1, 12, 106), (100, 77, 1, 14, 252)]
theorem xs_SX9 : ∀ t ∈ xg_SX9, xi_site RX9 t := List.forall_mem_cons.mpr ⟨xt_0, List.forall_mem_cons.mpr ⟨xt_1, List.forall_mem_cons.mpr ⟨xt_2, List.forall_mem_cons.mpr ⟨xt_3, List.forall_mem_cons.mpr ⟨xt_4, List.forall_mem_cons.mpr ⟨xt_5, List.forall_mem_cons.mpr ⟨xt_6, List.forall_mem_cons.mpr ⟨xt_7, List.forall_mem_cons.mpr ⟨xt_8, List.forall_mem_cons.mpr ⟨xt_9, List.forall_mem_cons.mpr ⟨xt_10, List.forall_mem_cons.mpr ⟨xt_11, List.forall_mem_cons.mpr ⟨xt_12, List.forall_mem_cons.mpr ⟨xt_13, List.forall_mem_cons.mpr ⟨xt_14, List.forall_mem_cons.mpr ⟨xt_15, List.forall_mem_cons.mpr ⟨xt_16, List.forall_mem_cons.mpr ⟨xt_17, List.forall_mem_cons.mpr ⟨xt_18, List.forall_mem_cons.mpr ⟨xt_19, List.forall_mem_cons.mpr ⟨xt_20, List.forall_mem_cons.mpr ⟨xt_21, List.forall_mem_cons.mpr ⟨xt_22, List.forall_mem_cons.mpr ⟨xt_23, List.forall_mem_cons.mpr ⟨xt_24, List.forall_mem_cons.mpr ⟨xt_25, List.forall_mem_cons.mpr ⟨xt_26, List.forall_mem_cons.mpr ⟨xt_27, List.forall_mem_cons.mpr ⟨xt_28, List.forall_mem_cons.mpr ⟨xt_29, List.forall_mem_cons.mpr ⟨xt_30, List.forall_mem_cons.mpr ⟨xt_31, List.forall_mem_cons.mpr ⟨xt_32, List.forall_mem_cons.mpr ⟨xt_33, List.forall_mem_cons.mpr ⟨xt_34, List.forall_mem_cons.mpr ⟨xt_35, List.forall_mem_cons.mpr ⟨xt_36, List.forall_mem_cons.mpr ⟨xt_37, List.forall_mem_cons.mpr ⟨xt_38, List.forall_mem_cons.mpr ⟨xt_39, List.forall_mem_cons.mpr ⟨xt_40, List.forall_mem_cons.mpr ⟨xt_41, List.forall_mem_cons.mpr ⟨xt_42, List.forall_mem_cons.mpr ⟨xt_43, List.forall_mem_cons.mpr ⟨xt_44, List.forall_mem_cons.mpr ⟨xt_45, List.forall_mem_cons.mpr ⟨xt_46, List.forall_mem_cons.mpr ⟨xt_47, List.forall_mem_cons.mpr ⟨xt_48, List.forall_mem_cons.mpr ⟨xt_49, List.forall_mem_cons.mpr ⟨xt_50, List.forall_mem_cons.mpr ⟨xt_51, List.forall_mem_cons.mpr ⟨xt_52, List.forall_mem_cons.mpr ⟨xt_53, List.forall_mem_cons.mpr ⟨xt_54, List.forall_mem_cons.mpr ⟨xt_55, List.forall_mem_cons.mpr ⟨xt_56, List.forall_mem_cons.mpr ⟨xt_57, List.forall_mem_cons.mpr ⟨xt_58, List.forall_mem_cons.mpr ⟨xt_59, List.forall_mem_cons.mpr ⟨xt_60, List.forall_mem_cons.mpr ⟨xt_61, List.forall_mem_cons.mpr ⟨xt_62, List.forall_mem_cons.mpr ⟨xt_63, List.forall_mem_cons.mpr ⟨xt_64, List.forall_mem_cons.mpr ⟨xt_65, List.forall_mem_cons.mpr ⟨xt_66, List.forall_mem_cons.mpr ⟨xt_67, List.forall_mem_cons.mpr ⟨xt_68, List.forall_mem_cons.mpr ⟨xt_69, List.forall_mem_cons.mpr ⟨xt_70, List.forall_mem_cons.mpr ⟨xt_71, List.forall_mem_cons.mpr ⟨xt_72, List.forall_mem_cons.mpr ⟨xt_73, List.forall_mem_cons.mpr ⟨xt_74, List.forall_mem_cons.mpr ⟨xt_75, List.forall_mem_cons.mpr ⟨xt_76, List.forall_mem_cons.mpr ⟨xt_77, List.forall_mem_cons.mpr ⟨xt_78, List.forall_mem_cons.mpr ⟨xt_79, List.forall_mem_cons.mpr ⟨xt_80, List.forall_mem_cons.mpr ⟨xt_81, List.forall_mem_cons.mpr ⟨xt_82, List.forall_mem_cons.mpr ⟨xt_83, List.forall_mem_cons.mpr ⟨xt_84, List.forall_mem_cons.mpr ⟨xt_85, List.forall_mem_cons.mpr ⟨xt_86, List.forall_mem_cons.mpr ⟨xt_87, List.forall_mem_cons.mpr ⟨xt_88, List.forall_mem_cons.mpr ⟨xt_89, List.forall_mem_cons.mpr ⟨xt_90, List.forall_mem_cons.mpr ⟨xt_91, List.forall_mem_cons.mpr ⟨xt_92, List.forall_mem_cons.mpr ⟨xt_93, List.forall_mem_cons.mpr ⟨xt_94, List.forall_mem_cons.mpr ⟨xt_95, List.forall_mem_cons.mpr ⟨xt_96, List.forall_mem_cons.mpr ⟨xt_97, List.forall_mem_cons.mpr ⟨xt_98, List.forall_mem_cons.mpr ⟨xt_99, List.forall_mem_cons.mpr ⟨xt_100, List.forall_mem_cons.mpr ⟨xt_101, List.forall_mem_cons.mpr ⟨xt_102, List.forall_mem_cons.mpr ⟨xt_103, List.forall_mem_cons.mpr ⟨xt_104, List.forall_mem_cons.mpr ⟨xt_105, fun _ h => nomatch h⟩⟩⟩⟩⟩⟩⟩⟩⟩⟩⟩⟩⟩⟩⟩⟩⟩⟩⟩⟩⟩⟩⟩⟩⟩⟩⟩⟩⟩⟩⟩⟩⟩⟩⟩⟩⟩⟩⟩⟩⟩⟩⟩⟩⟩⟩⟩⟩⟩⟩⟩⟩⟩⟩⟩⟩⟩⟩⟩⟩⟩⟩⟩⟩⟩⟩⟩⟩⟩⟩⟩⟩⟩⟩⟩⟩⟩⟩⟩⟩⟩⟩⟩⟩⟩⟩⟩⟩⟩⟩⟩⟩⟩⟩⟩⟩⟩⟩⟩⟩⟩⟩⟩⟩⟩⟩
def xg_SX0 : List (Nat × Nat × Nat × Nat × Nat) := [(41, 6, 2, 2, 9), (41, 6, 3, 2, 15), (41, 6, 4, 2, 18), (41, 6, 5, 2, 21), (41, 6, 6, 2, 24), (41, 6, 7, 2, 27), (41, 6, 8, 2, 30), (41, 6, 9, 2, 33), (51, 0, 0, 0, 3), (57, 0, 0, 0, 0)]
theorem xs_SX0 : ∀ t ∈ xg_SX0, xi_site RX0 t := List.forall_mem_cons.mpr ⟨xt_106, List.forall_mem_cons.mpr ⟨xt_107, List.forall_mem_cons.mpr ⟨xt_108, List.forall_mem_cons.mpr ⟨xt_109, List.forall_mem_cons.mpr ⟨xt_110, List.forall_mem_cons.mpr ⟨xt_111, List.forall_mem_cons.mpr ⟨xt_112, List.forall_mem_cons.mpr ⟨xt_113, List.forall_mem_cons.mpr ⟨xt_114, List.forall_mem_cons.mpr ⟨xt_115, fun _ h => nomatch h⟩⟩⟩⟩⟩⟩⟩⟩⟩⟩
def xg_SX1 : List (Nat × Nat × Nat × Nat × Nat) := [(38, 7, 3, 0, 11), (40, 7, 13, 2, 51), (41, 7, 0, 2, 39), (41, 7, 1, 2, 43), (41, 7, 2, 2, 47), (41, 7, 3, 2, 11), (41, 7, 4, 2, 17), (41, 7, 5, 2, 21), (41, 7, 6, 2, 24), (41, 7, 8, 2, 27), (41, 7, 9, 2, 30), (41, 7, 11, 2, 33), (41, 7, 12, 2, 36), (51, 0, 0, 0, 3), (56, 11, 0, 0, 9), (57, 0, 0, 0, 0), (58, 2, 0, 0, 9), (99, 51, 0, 11, 55)]
theorem xs_SX1 : ∀ t ∈ xg_SX1, xi_site RX1 t := List.forall_mem_cons.mpr ⟨xt_116, List.forall_mem_cons.mpr ⟨xt_117, List.forall_mem_cons.mpr ⟨xt_118, List.forall_mem_cons.mpr ⟨xt_119, List.forall_mem_cons.mpr ⟨xt_120, List.forall_mem_cons.mpr ⟨xt_121, List.forall_mem_cons.mpr ⟨xt_122, List.forall_mem_cons.mpr ⟨xt_123, List.forall_mem_cons.mpr ⟨xt_124, List.forall_mem_cons.mpr ⟨xt_125, List.forall_mem_cons.mpr ⟨xt_126, List.forall_mem_cons.mpr ⟨xt_127, List.forall_mem_cons.mpr ⟨xt_128, List.forall_mem_cons.mpr ⟨xt_129, List.forall_mem_cons.mpr ⟨xt_130, List.forall_mem_cons.mpr ⟨xt_131, List.forall_mem_cons.mpr ⟨xt_132, List.forall_mem_cons.mpr ⟨xt_133, fun _ h => nomatch h⟩⟩⟩⟩⟩⟩⟩⟩⟩⟩⟩⟩⟩⟩⟩⟩⟩⟩
def xg_SX2 : List (Nat × Nat × Nat × Nat × Nat) := [(38, 8, 0, 0, 18), (38, 8, 1, 0, 11), (38, 8, 4, 0, 26), (38, 12, 4, 0, 34), (38, 12, 6, 0, 39), (40, 8, 4, 0, 26), (41, 8, 0, 2, 18), (41, 8, 1, 2, 11), (41, 8, 2, 2, 15), (51, 0, 0, 0, 3), (57, 0, 0, 0, 0), (97, 2, 2, 0, 22), (97, 28, 3, 0, 30), (100, 45, 4, 8, 42)]
theorem xs_SX2 : ∀ t ∈ xg_SX2, xi_site RX2 t := List.forall_mem_cons.mpr ⟨xt_134, List.forall_mem_cons.mpr ⟨xt_135, List.forall_mem_cons.mpr ⟨xt_136, List.forall_mem_cons.mpr ⟨xt_137, List.forall_mem_cons.mpr ⟨xt_138, List.forall_mem_cons.mpr ⟨xt_139, List.forall_mem_cons.mpr ⟨xt_140, List.forall_mem_cons.mpr ⟨xt_141, List.forall_mem_cons.mpr ⟨xt_142, List.forall_mem_cons.mpr ⟨xt_143, List.forall_mem_cons.mpr ⟨xt_144, List.forall_mem_cons.mpr ⟨xt_145, List.forall_mem_cons.mpr ⟨xt_146, List.forall_mem_cons.mpr ⟨xt_147, fun _ h => nomatch h⟩⟩⟩⟩⟩⟩⟩⟩⟩⟩⟩⟩⟩⟩
def xg_SX3 : List (Nat × Nat × Nat × Nat × Nat) := [(41, 9, 4, 2, 9), (41, 9, 5, 2, 15), (51, 0, 0, 0, 3), (57, 0, 0, 0, 0)]
theorem xs_SX3 : ∀ t ∈ xg_SX3, xi_site RX3 t := List.forall_mem_cons.mpr ⟨xt_148, List.forall_mem_cons.mpr ⟨xt_149, List.forall_mem_cons.mpr ⟨xt_150, List.forall_mem_cons.mpr ⟨xt_151, fun _ h => nomatch h⟩⟩⟩⟩
def xg_SX4 : List (Nat × Nat × Nat × Nat × Nat) := [(38, 10, 4, 0, 18), (38, 10, 6, 0, 25), (38, 10, 11, 0, 39), (41, 10, 0, 2, 43), (41, 10, 1, 2, 47), (41, 10, 2, 2, 51), (41, 10, 3, 2, 12), (41, 10, 4, 2, 18), (41, 10, 5, 2, 22), (41, 10, 6, 2, 25), (41, 10, 7, 2, 28), (41, 10, 8, 2, 31), (41, 10, 9, 2, 34), (41, 10, 11, 2, 39), (51, 0, 0, 0, 3), (56, 9, 0, 0, 37), (56, 14, 0, 0, 9), (57, 0, 0, 0, 0), (58, 3, 0, 0, 37), (97, 2, 2, 0, 56), (99, 48, 0, 9, 55), (99, 76, 0, 14, 11)]
theorem xs_SX4 : ∀ t ∈ xg_SX4, xi_site RX4 t := List.forall_mem_cons.mpr ⟨xt_152, List.forall_mem_cons.mpr ⟨xt_153, List.forall_mem_cons.mpr ⟨xt_154, List.forall_mem_cons.mpr ⟨xt_155, List.forall_mem_cons.mpr ⟨xt_156, List.forall_mem_cons.mpr ⟨xt_157, List.forall_mem_cons.mpr ⟨xt_158, List.forall_mem_cons.mpr ⟨xt_159, List.forall_mem_cons.mpr ⟨xt_160, List.forall_mem_cons.mpr ⟨xt_161, List.forall_mem_cons.mpr ⟨xt_162, List.forall_mem_cons.mpr ⟨xt_163, List.forall_mem_cons.mpr ⟨xt_164, List.forall_mem_cons.mpr ⟨xt_165, List.forall_mem_cons.mpr ⟨xt_166, List.forall_mem_cons.mpr ⟨xt_167, List.forall_mem_cons.mpr ⟨xt_168, List.forall_mem_cons.mpr ⟨xt_169, List.forall_mem_cons.mpr ⟨xt_170, List.forall_mem_cons.mpr ⟨xt_171, List.forall_mem_cons.mpr ⟨xt_172, List.forall_mem_cons.mpr ⟨xt_173, fun _ h => nomatch h⟩⟩⟩⟩⟩⟩⟩⟩⟩⟩⟩⟩⟩⟩⟩⟩⟩⟩⟩⟩⟩⟩
def xg_SX5 : List (Nat × Nat × Nat × Nat × Nat) := [(51, 0, 0, 0, 1)]
theorem xs_SX5 : ∀ t ∈ xg_SX5, xi_site RX5 t := List.forall_mem_cons.mpr ⟨xt_174, fun _ h => nomatch h⟩
def xg_SX6 : List (Nat × Nat × Nat × Nat × Nat) := [(38, 12, 0, 0, 9), (38, 12, 1, 0, 15), (38, 12, 2, 0, 19), (38, 12, 3, 0, 22), (38, 12, 4, 0, 25), (38, 12, 5, 0, 28), (38, 12, 6, 0, 31), (38, 12, 7, 0, 67), (38, 12, 8, 0, 34), (38, 12, 9, 0, 37), (38, 12, 10, 0, 40), (38, 12, 11, 0, 43), (38, 12, 12, 0, 46), (38, 12, 13, 0, 49), (40, 12, 0, 0, 9), (40, 12, 4, 0, 25), (40, 12, 7, 0, 67), (41, 12, 1, 2, 15), (41, 12, 2, 2, 19), (41, 12, 3, 2, 22), (41, 12, 5, 2, 28), (41, 12, 6, 2, 31), (41, 12, 8, 2, 34), (41, 12, 9, 2, 37), (41, 12, 10, 2, 40), (41, 12, 11, 2, 43), (41, 12, 12, 2, 46), (41, 12, 13, 2, 49), (41, 12, 14, 2, 52), (41, 12, 15, 2, 55), (41, 12, 16, 2, 58), (41, 12, 17, 2, 61), (41, 12, 18, 2, 64), (51, 0, 0, 0, 3), (57, 0, 0, 0, 0), (97, 2, 2, 0, 70), (97, 28, 3, 0, 78), (100, 57, 1, 12, 136), (100, 61, 1, 12, 104), (100, 62, 1, 12, 74), (100, 63, 1, 12, 101), (100, 64, 1, 12, 117), (100, 65, 1, 12, 98), (100, 67, 1, 12, 95), (100, 69, 3, 12, 107), (100, 70, 3, 12, 114), (100, 71, 1, 12, 92), (100, 72, 1, 12, 82), (100, 73, 1, 12, 86), (100, 74, 1, 12, 89)]
theorem xs_SX6 : ∀ t ∈ xg_SX6, xi_site RX6 t := List.forall_mem_cons.mpr ⟨xt_175, List.forall_mem_cons.mpr ⟨xt_176, List.forall_mem_cons.mpr ⟨xt_177, List.forall_mem_cons.mpr ⟨xt_178, List.forall_mem_cons.mpr ⟨xt_179, List.forall_mem_cons.mpr ⟨xt_180, List.forall_mem_cons.mpr ⟨xt_181, List.forall_mem_cons.mpr ⟨xt_182, List.forall_mem_cons.mpr ⟨xt_183, List.forall_mem_cons.mpr ⟨xt_184, List.forall_mem_cons.mpr ⟨xt_185, List.forall_mem_cons.mpr ⟨xt_186, List.forall_mem_cons.mpr ⟨xt_187, List.forall_mem_cons.mpr ⟨xt_188, List.forall_mem_cons.mpr ⟨xt_189, List.forall_mem_cons.mpr ⟨xt_190, List.forall_mem_cons.mpr ⟨xt_191, List.forall_mem_cons.mpr ⟨xt_192, List.forall_mem_cons.mpr ⟨xt_193, List.forall_mem_cons.mpr ⟨xt_194, List.forall_mem_cons.mpr ⟨xt_195, List.forall_mem_cons.mpr ⟨xt_196, List.forall_mem_cons.mpr ⟨xt_197, List.forall_mem_cons.mpr ⟨xt_198, List.forall_mem_cons.mpr ⟨xt_199, List.forall_mem_cons.mpr ⟨xt_200, List.forall_mem_cons.mpr ⟨xt_201, List.forall_mem_cons.mpr ⟨xt_202, List.forall_mem_cons.mpr ⟨xt_203, List.forall_mem_cons.mpr ⟨xt_204, List.forall_mem_cons.mpr ⟨xt_205, List.forall_mem_cons.mpr ⟨xt_206, List.forall_mem_cons.mpr ⟨xt_207, List.forall_mem_cons.mpr ⟨xt_208, List.forall_mem_cons.mpr ⟨xt_209, List.forall_mem_cons.mpr ⟨xt_210, List.forall_mem_cons.mpr ⟨xt_211, List.forall_mem_cons.mpr ⟨xt_212, List.forall_mem_cons.mpr ⟨xt_213, List.forall_mem_cons.mpr ⟨xt_214, List.forall_mem_cons.mpr ⟨xt_215, List.forall_mem_cons.mpr ⟨xt_216, List.forall_mem_cons.mpr ⟨xt_217, List.forall_mem_cons.mpr ⟨xt_218, List.forall_mem_cons.mpr ⟨xt_219, List.forall_mem_cons.mpr ⟨xt_220, List.forall_mem_cons.mpr ⟨xt_221, List.forall_mem_cons.mpr ⟨xt_222, List.forall_mem_cons.mpr ⟨xt_223, List.forall_mem_cons.mpr ⟨xt_224, fun _ h => nomatch h⟩⟩⟩⟩⟩⟩⟩⟩⟩⟩⟩⟩⟩⟩⟩⟩⟩⟩⟩⟩⟩⟩⟩⟩⟩⟩⟩⟩⟩⟩⟩⟩⟩⟩⟩⟩⟩⟩⟩⟩⟩⟩⟩⟩⟩⟩⟩⟩⟩⟩
def xg_SX7 : List (Nat × Nat × Nat × Nat × Nat) := [(40, 13, 0, 2, 9), (51, 0, 0, 0, 1), (57, 0, 0, 0, 0)]
theorem xs_SX7 : ∀ t ∈ xg_SX7, xi_site RX7 t := List.forall_mem_cons.mpr ⟨xt_225, List.forall_mem_cons.mpr ⟨xt_226, List.forall_mem_cons.mpr ⟨xt_227, fun _ h => nomatch h⟩⟩⟩
def xg_SX8 : List (Nat × Nat × Nat × Nat × Nat) := [(38, 14, 0, 0, 45), (41, 14, 2, 2, 9), (41, 14, 3, 2, 15), (41, 14, 4, 2, 18), (41, 14, 5, 2, 21), (41, 14, 6, 2, 24), (41, 14, 7, 2, 27), (41, 14, 8, 2, 30), (41, 14, 9, 2, 33), (41, 14, 10, 2, 36), (41, 14, 11, 2, 39), (41, 14, 12, 2, 42), (51, 0, 0, 0, 3), (57, 0, 0, 0, 0)]
theorem xs_SX8 : ∀ t ∈ xg_SX8, xi_site RX8 t := List.forall_mem_cons.mpr ⟨xt_228, List.forall_mem_cons.mpr ⟨xt_229, List.forall_mem_cons.mpr ⟨xt_230, List.forall_mem_cons.mpr ⟨xt_231, List.forall_mem_cons.mpr ⟨xt_232, List.forall_mem_cons.mpr ⟨xt_233, List.forall_mem_cons.mpr ⟨xt_234, List.forall_mem_cons.mpr ⟨xt_235, List.forall_mem_cons.mpr ⟨xt_236, List.forall_mem_cons.mpr ⟨xt_237, List.forall_mem_cons.mpr ⟨xt_238, List.forall_mem_cons.mpr ⟨xt_239, List.forall_mem_cons.mpr ⟨xt_240, List.forall_mem_cons.mpr ⟨xt_241, fun _ h => nomatch h⟩⟩⟩⟩⟩⟩⟩⟩⟩⟩⟩⟩⟩⟩
def xg_SL : List (Nat × Nat × Nat × Nat × Nat) := [(56, 15, 0, 0, 8), (56, 25, 0, 0, 91), (57, 5, 0, 0, 0), (96, 78, 4, 0, 121), (96, 79, 4, 0, 178), (96, 80, 5, 0, 135), (96, 81, 4, 0, 155), (96, 82, 4, 0, 127), (96, 83, 4, 0, 181), (96, 84, 3, 0, 164), (96, 85, 4, 0, 94), (96, 86, 4, 0, 142), (96, 87, 3, 0, 172), (96, 88, 6, 0, 117), (96, 89, 4, 0, 103), (96, 90, 4, 0, 124), (96, 91, 4, 0, 114), (96, 92, 3, 0, 149), (96, 93, 4, 0, 152), (96, 94, 3, 0, 107), (96, 95, 5, 0, 139), (96, 96, 2, 0, 145), (96, 97, 4, 0, 158), (96, 98, 4, 0, 111), (96, 99, 4, 0, 161), (96, 100, 5, 0, 175), (98, 0, 0, 15, 90), (98, 101, 0, 25, 93), (100, 3, 2, 15, 37), (100, 4, 2, 15, 84), (100, 5, 3, 15, 46), (100, 7, 0, 15, 184), (100, 10, 2, 15, 66), (100, 11, 2, 15, 43), (100, 12, 2, 15, 87), (100, 13, 1, 15, 75), (100, 14, 2, 15, 7), (100, 17, 2, 15, 53), (100, 18, 1, 15, 78), (100, 19, 0, 15, 167), (100, 20, 4, 15, 33), (100, 21, 2, 15, 17), (100, 22, 2, 15, 40), (100, 23, 2, 15, 30), (100, 24, 1, 15, 60), (100, 25, 2, 15, 63), (100, 26, 1, 15, 23), (100, 27, 1, 15, 130), (100, 35, 3, 15, 50), (100, 37, 0, 15, 56), (100, 38, 2, 15, 69), (100, 39, 2, 15, 27), (100, 40, 2, 15, 72), (100, 41, 3, 15, 81), (100, 103, 2, 25, 123), (100, 104, 2, 25, 180), (100, 105, 3, 25, 138), (100, 107, 0, 25, 188), (100, 108, 2, 25, 157), (100, 109, 2, 25, 129), (100, 110, 2, 25, 183), (100, 111, 1, 25, 166), (100, 123, 2, 25, 99), (100, 124, 2, 25, 144), (100, 125, 1, 25, 174), (100, 126, 0, 25, 171), (100, 127, 4, 25, 120), (100, 128, 2, 25, 106), (100, 130, 2, 25, 126), (100, 131, 2, 25, 116), (100, 133, 1, 25, 151), (100, 135, 2, 25, 154), (100, 136, 1, 25, 110), (100, 137, 1, 25, 134), (100, 139, 3, 25, 141), (100, 140, 0, 25, 148), (100, 142, 2, 25, 160), (100, 143, 2, 25, 113), (100, 144, 0, 25, 100), (100, 145, 2, 25, 163), (100, 146, 3, 25, 177)]
theorem xs_SL : ∀ t ∈ xg_SL, xi_site RL t := List.forall_mem_cons.mpr ⟨xt_242, List.forall_mem_cons.mpr ⟨xt_243, List.forall_mem_cons.mpr ⟨xt_244, List.forall_mem_cons.mpr ⟨xt_245, List.forall_mem_cons.mpr ⟨xt_246, List.forall_mem_cons.mpr ⟨xt_247, List.forall_mem_cons.mpr ⟨xt_248, List.forall_mem_cons.mpr ⟨xt_249, List.forall_mem_cons.mpr ⟨xt_250, List.forall_mem_cons.mpr ⟨xt_251, List.forall_mem_cons.mpr ⟨xt_252, List.forall_mem_cons.mpr ⟨xt_253, List.forall_mem_cons.mpr ⟨xt_254, List.forall_mem_cons.mpr ⟨xt_255, List.forall_mem_cons.mpr ⟨xt_256, List.forall_mem_cons.mpr ⟨xt_257, List.forall_mem_cons.mpr ⟨xt_258, List.forall_mem_cons.mpr ⟨xt_259, List.forall_mem_cons.mpr ⟨xt_260, List.forall_mem_cons.mpr ⟨xt_261, List.forall_mem_cons.mpr ⟨xt_262, List.forall_mem_cons.mpr ⟨xt_263, List.forall_mem_cons.mpr ⟨xt_264, List.forall_mem_cons.mpr ⟨xt_265, List.forall_mem_cons.mpr ⟨xt_266, List.forall_mem_cons.mpr ⟨xt_267, List.forall_mem_cons.mpr ⟨xt_268, List.forall_mem_cons.mpr ⟨xt_269, List.forall_mem_cons.mpr ⟨xt_270, List.forall_mem_cons.mpr ⟨xt_271, List.forall_mem_cons.mpr ⟨xt_272, List.forall_mem_cons.mpr ⟨xt_273, List.forall_mem_cons.mpr ⟨xt_274, List.forall_mem_cons.mpr ⟨xt_275, List.forall_mem_cons.mpr ⟨xt_276, List.forall_mem_cons.mpr ⟨xt_277, List.forall_mem_cons.mpr ⟨xt_278, List.forall_mem_cons.mpr ⟨xt_279, List.forall_mem_cons.mpr ⟨xt_280, List.forall_mem_cons.mpr ⟨xt_281, List.forall_mem_cons.mpr ⟨xt_282, List.forall_mem_cons.mpr ⟨xt_283, List.forall_mem_cons.mpr ⟨xt_284, List.forall_mem_cons.mpr ⟨xt_285, List.forall_mem_cons.mpr ⟨xt_286, List.forall_mem_cons.mpr ⟨xt_287, List.forall_mem_cons.mpr ⟨xt_288, List.forall_mem_cons.mpr ⟨xt_289, List.forall_mem_cons.mpr ⟨xt_290, List.forall_mem_cons.mpr ⟨xt_291, List.forall_mem_cons.mpr ⟨xt_292, List.forall_mem_cons.mpr ⟨xt_293, List.forall_mem_cons.mpr ⟨xt_294, List.forall_mem_cons.mpr ⟨xt_295, List.forall_mem_cons.mpr ⟨xt_296, List.forall_mem_cons.mpr ⟨xt_297, List.forall_mem_cons.mpr ⟨xt_298, List.forall_mem_cons.mpr ⟨xt_299, List.forall_mem_cons.mpr ⟨xt_300, List.forall_mem_cons.mpr ⟨xt_301, List.forall_mem_cons.mpr ⟨xt_302, List.forall_mem_cons.mpr ⟨xt_303, List.forall_mem_cons.mpr ⟨xt_304, List.forall_mem_cons.mpr ⟨xt_305, List.forall_mem_cons.mpr ⟨xt_306, List.forall_mem_cons.mpr ⟨xt_307, List.forall_mem_cons.mpr ⟨xt_308, List.forall_mem_cons.mpr ⟨xt_309, List.forall_mem_cons.mpr ⟨xt_310, List.forall_mem_cons.mpr ⟨xt_311, List.forall_mem_cons.mpr ⟨xt_312, List.forall_mem_cons.mpr ⟨xt_313, List.forall_mem_cons.mpr ⟨xt_314, List.forall_mem_cons.mpr ⟨xt_315, List.forall_mem_cons.mpr ⟨xt_316, List.forall_mem_cons.mpr ⟨xt_317, List.forall_mem_cons.mpr ⟨xt_318, List.forall_mem_cons.mpr ⟨xt_319, List.forall_mem_cons.mpr ⟨xt_320, List.forall_mem_cons.mpr ⟨xt_321, List.forall_mem_cons.mpr ⟨xt_322, fun _ h => nomatch h⟩⟩⟩⟩⟩⟩⟩⟩⟩⟩⟩⟩⟩⟩⟩⟩⟩⟩⟩⟩⟩⟩⟩⟩⟩⟩⟩⟩⟩⟩⟩⟩⟩⟩⟩⟩⟩⟩⟩⟩⟩⟩⟩⟩⟩⟩⟩⟩⟩⟩⟩⟩⟩⟩⟩⟩⟩⟩⟩⟩⟩⟩⟩⟩⟩⟩⟩⟩⟩⟩⟩⟩⟩⟩⟩⟩⟩⟩⟩⟩⟩
def xg_SX19 : List (Nat × Nat × Nat × Nat × Nat) := [(3, 9223372036854775839, 0, 0, 296), (3, 9223372036854833936, 0, 0, 298), (38, 17, 0, 0, 87), (38, 18, 0, 0, 118), (38, 19, 0, 0, 153), (38, 19, 1, 0, 156), (38, 20, 0, 0, 30), (38, 20, 1, 0, 44), (38, 20, 2, 0, 47), (38, 25, 0, 0, 23), (38, 25, 1, 0, 10), (38, 25, 2, 0, 60), (38, 25, 3, 0, 16), (38, 25, 4, 0, 20), (38, 25, 5, 0, 124), (38, 25, 6, 0, 234), (40, 19, 0, 0, 153), (40, 25, 0, 0, 23), (40, 25, 2, 1, 60), (40, 25, 3, 0, 16), (40, 25, 4, 0, 20), (41, 25, 1, 2, 10), (49, 0, 17, 0, 74), (49, 0, 19, 0, 145), (49, 1, 0, 0, 226), (51, 0, 0, 0, 1), (56, 17, 0, 0, 74), (56, 18, 0, 0, 110), (56, 19, 0, 0, 145), (56, 20, 0, 0, 7), (96, 102, 2, 0, 300), (96, 114, 3, 0, 40), (96, 116, 2, 0, 227), (98, 147, 2, 17, 76), (98, 148, 5, 18, 187), (98, 150, 1, 19, 147), (98, 151, 0, 20, 9), (100, 106, 2, 25, 286), (100, 112, 1, 25, 283), (100, 113, 0, 25, 176), (100, 115, 1, 25, 67), (100, 117, 1, 25, 205), (100, 118, 1, 25, 150), (100, 119, 1, 25, 142), (100, 120, 1, 25, 271), (100, 121, 0, 25, 256), (100, 122, 0, 25, 253), (100, 129, 2, 25, 138), (100, 132, 3, 25, 179), (100, 134, 1, 25, 242), (100, 138, 2, 25, 26), (100, 141, 2, 25, 71), (100, 149, 0, 18, 190), (100, 152, 1, 20, 93), (100, 153, 1, 20, 159), (100, 154, 0, 20, 50), (100, 156, 1, 20, 90), (100, 158, 4, 20, 183), (100, 168, 1, 5, 79), (100, 171, 1, 5, 83), (100, 174, 0, 5, 54), (100, 175, 0, 5, 97), (100, 176, 0, 5, 34), (101, 179, 0, 3, 101), (101, 180, 0, 3, 106)]
theorem xs_SX19 : ∀ t ∈ xg_SX19, xi_site RX19 t := List.forall_mem_cons.mpr ⟨xt_323, List.forall_mem_cons.mpr ⟨xt_324, List.forall_mem_cons.mpr ⟨xt_325, List.forall_mem_cons.mpr ⟨xt_326, List.forall_mem_cons.mpr ⟨xt_327, List.forall_mem_cons.mpr ⟨xt_328, List.forall_mem_cons.mpr ⟨xt_329, List.forall_mem_cons.mpr ⟨xt_330, List.forall_mem_cons.mpr ⟨xt_331, List.forall_mem_cons.mpr ⟨xt_332, List.forall_mem_cons.mpr ⟨xt_333, List.forall_mem_cons.mpr ⟨xt_334, List.forall_mem_cons.mpr ⟨xt_335, List.forall_mem_cons.mpr ⟨xt_336, List.forall_mem_cons.mpr ⟨xt_337, List.forall_mem_cons.mpr ⟨xt_338, List.forall_mem_cons.mpr ⟨xt_339, List.forall_mem_cons.mpr ⟨xt_340, List.forall_mem_cons.mpr ⟨xt_341, List.forall_mem_cons.mpr ⟨xt_342, List.forall_mem_cons.mpr ⟨xt_343, List.forall_mem_cons.mpr ⟨xt_344, List.forall_mem_cons.mpr ⟨xt_345, List.forall_mem_cons.mpr ⟨xt_346, List.forall_mem_cons.mpr ⟨xt_347, List.forall_mem_cons.mpr ⟨xt_348, List.forall_mem_cons.mpr ⟨xt_349, List.forall_mem_cons.mpr ⟨xt_350, List.forall_mem_cons.mpr ⟨xt_351, List.forall_mem_cons.mpr ⟨xt_352, List.forall_mem_cons.mpr ⟨xt_353, List.forall_mem_cons.mpr ⟨xt_354, List.forall_mem_cons.mpr ⟨xt_355, List.forall_mem_cons.mpr ⟨xt_356, List.forall_mem_cons.mpr ⟨xt_357, List.forall_mem_cons.mpr ⟨xt_358, List.forall_mem_cons.mpr ⟨xt_359, List.forall_mem_cons.mpr ⟨xt_360, List.forall_mem_cons.mpr ⟨xt_361, List.forall_mem_cons.mpr ⟨xt_362, List.forall_mem_cons.mpr ⟨xt_363, List.forall_mem_cons.mpr ⟨xt_364, List.forall_mem_cons.mpr ⟨xt_365, List.forall_mem_cons.mpr ⟨xt_366, List.forall_mem_cons.mpr ⟨xt_367, List.forall_mem_cons.mpr ⟨xt_368, List.forall_mem_cons.mpr ⟨xt_369, List.forall_mem_cons.mpr ⟨xt_370, List.forall_mem_cons.mpr ⟨xt_371, List.forall_mem_cons.mpr ⟨xt_372, List.forall_mem_cons.mpr ⟨xt_373, List.forall_mem_cons.mpr ⟨xt_374, List.forall_mem_cons.mpr ⟨xt_375, List.forall_mem_cons.mpr ⟨xt_376, List.forall_mem_cons.mpr ⟨xt_377, List.forall_mem_cons.mpr ⟨xt_378, List.forall_mem_cons.mpr ⟨xt_379, List.forall_mem_cons.mpr ⟨xt_380, List.forall_mem_cons.mpr ⟨xt_381, List.forall_mem_cons.mpr ⟨xt_382, List.forall_mem_cons.mpr ⟨xt_383, List.forall_mem_cons.mpr ⟨xt_384, List.forall_mem_cons.mpr ⟨xt_385, List.forall_mem_cons.mpr ⟨xt_386, List.forall_mem_cons.mpr ⟨xt_387, fun _ h => nomatch h⟩⟩⟩⟩⟩⟩⟩⟩⟩⟩⟩⟩⟩⟩⟩⟩⟩⟩⟩⟩⟩⟩⟩⟩⟩⟩⟩⟩⟩⟩⟩⟩⟩⟩⟩⟩⟩⟩⟩⟩⟩⟩⟩⟩⟩⟩⟩⟩⟩⟩⟩⟩⟩⟩⟩⟩⟩⟩⟩⟩⟩⟩⟩⟩⟩
def xg_SX11 : List (Nat × Nat × Nat × Nat × Nat) := [(41, 17, 0, 0, 7), (41, 17, 1, 1, 13), (51, 0, 0, 0, 1)]
theorem xs_SX11 : ∀ t ∈ xg_SX11, xi_site RX11 t := List.forall_mem_cons.mpr ⟨xt_388, List.forall_mem_cons.mpr ⟨xt_389, List.forall_mem_cons.mpr ⟨xt_390, fun _ h => nomatch h⟩⟩⟩
def xg_SX12 : List (Nat × Nat × Nat × Nat × Nat) := [(38, 18, 1, 0, 21), (40, 18, 5, 0, 9), (40, 18, 6, 0, 15), (41, 18, 0, 0, 18), (41, 18, 1, 0, 21), (41, 18, 2, 0, 24), (41, 18, 3, 0, 27), (41, 18, 4, 0, 30), (51, 0, 0, 0, 3), (56, 5, 0, 0, 33), (98, 167, 0, 5, 35)]
theorem xs_SX12 : ∀ t ∈ xg_SX12, xi_site RX12 t := List.forall_mem_cons.mpr ⟨xt_391, List.forall_mem_cons.mpr ⟨xt_392, List.forall_mem_cons.mpr ⟨xt_393, List.forall_mem_cons.mpr ⟨xt_394, List.forall_mem_cons.mpr ⟨xt_395, List.forall_mem_cons.mpr ⟨xt_396, List.forall_mem_cons.mpr ⟨xt_397, List.forall_mem_cons.mpr ⟨xt_398, List.forall_mem_cons.mpr ⟨xt_399, List.forall_mem_cons.mpr ⟨xt_400, List.forall_mem_cons.mpr ⟨xt_401, fun _ h => nomatch h⟩⟩⟩⟩⟩⟩⟩⟩⟩⟩⟩
def xg_SX13 : List (Nat × Nat × Nat × Nat × Nat) := [(40, 19, 0, 0, 15), (40, 19, 1, 0, 9), (51, 0, 0, 0, 3)]
theorem xs_SX13 : ∀ t ∈ xg_SX13, xi_site RX13 t := List.forall_mem_cons.mpr ⟨xt_402, List.forall_mem_cons.mpr ⟨xt_403, List.forall_mem_cons.mpr ⟨xt_404, fun _ h => nomatch h⟩⟩⟩
def xg_SX14 : List (Nat × Nat × Nat × Nat × Nat) := [(38, 17, 0, 0, 44), (38, 17, 1, 0, 48), (38, 19, 1, 0, 135), (38, 20, 0, 0, 12), (38, 20, 1, 0, 18), (38, 20, 2, 0, 21), (41, 20, 0, 2, 12), (41, 20, 1, 2, 18), (41, 20, 2, 2, 21), (49, 0, 17, 0, 24), (49, 0, 19, 0, 33), (51, 0, 0, 0, 3), (56, 5, 0, 0, 9), (56, 17, 0, 0, 24), (56, 19, 0, 0, 33), (57, 0, 0, 0, 0), (97, 114, 3, 0, 60), (98, 147, 2, 17, 26), (98, 150, 1, 19, 35), (98, 167, 0, 5, 11), (100, 155, 2, 20, 56), (100, 157, 1, 20, 94), (100, 159, 1, 20, 85), (100, 160, 2, 20, 77), (100, 161, 2, 20, 88), (100, 162, 1, 20, 91), (100, 163, 1, 20, 97), (100, 164, 1, 20, 81), (100, 168, 1, 5, 29), (100, 171, 1, 5, 38), (100, 174, 0, 5, 150), (100, 176, 0, 5, 52)]
theorem xs_SX14 : ∀ t ∈ xg_SX14, xi_site RX14 t := List.forall_mem_cons.mpr ⟨xt_405, List.forall_mem_cons.mpr ⟨xt_406, List.forall_mem_cons.mpr ⟨xt_407, List.forall_mem_cons.mpr ⟨xt_408, List.forall_mem_cons.mpr ⟨xt_409, List.forall_mem_cons.mpr ⟨xt_410, List.forall_mem_cons.mpr ⟨xt_411, List.forall_mem_cons.mpr ⟨xt_412, List.forall_mem_cons.mpr ⟨xt_413, List.forall_mem_cons.mpr ⟨xt_414, List.forall_mem_cons.mpr ⟨xt_415, List.forall_mem_cons.mpr ⟨xt_416, List.forall_mem_cons.mpr ⟨xt_417, List.forall_mem_cons.mpr ⟨xt_418, List.forall_mem_cons.mpr ⟨xt_419, List.forall_mem_cons.mpr ⟨xt_420, List.forall_mem_cons.mpr ⟨xt_421, List.forall_mem_cons.mpr ⟨xt_422, List.forall_mem_cons.mpr ⟨xt_423, List.forall_mem_cons.mpr ⟨xt_424, List.forall_mem_cons.mpr ⟨xt_425, List.forall_mem_cons.mpr ⟨xt_426, List.forall_mem_cons.mpr ⟨xt_427, List.forall_mem_cons.mpr ⟨xt_428, List.forall_mem_cons.mpr ⟨xt_429, List.forall_mem_cons.mpr ⟨xt_430, List.forall_mem_cons.mpr ⟨xt_431, List.forall_mem_cons.mpr ⟨xt_432, List.forall_mem_cons.mpr ⟨xt_433, List.forall_mem_cons.mpr ⟨xt_434, List.forall_mem_cons.mpr ⟨xt_435, List.forall_mem_cons.mpr ⟨xt_436, fun _ h => nomatch h⟩⟩⟩⟩⟩⟩⟩⟩⟩⟩⟩⟩⟩⟩⟩⟩⟩⟩⟩⟩⟩⟩⟩⟩⟩⟩⟩⟩⟩⟩⟩⟩
def xg_SJxa1e45 : List (Nat × Nat × Nat × Nat × Nat) := [(51, 0, 0, 0, 1)]
theorem xs_SJxa1e45 : ∀ t ∈ xg_SJxa1e45, xi_site RJxa1e45 t := List.forall_mem_cons.mpr ⟨xt_437, fun _ h => nomatch h⟩
def xg_SJxc12de : List (Nat × Nat × Nat × Nat × Nat) := [(40, 5, 0, 0, 7), (98, 165, 0, 0, 1)]
theorem xs_SJxc12de : ∀ t ∈ xg_SJxc12de, xi_site RJxc12de t := List.forall_mem_cons.mpr ⟨xt_438, List.forall_mem_cons.mpr ⟨xt_439, fun _ h => nomatch h⟩⟩
def xg_SJx4a65c : List (Nat × Nat × Nat × Nat × Nat) := [(38, 5, 0, 0, 63), (38, 5, 1, 0, 9), (38, 5, 2, 0, 48), (40, 5, 0, 0, 63), (40, 5, 1, 2, 9), (40, 5, 2, 0, 48), (50, 0, 0, 0, 39), (52, 0, 0, 0, 79), (56, 3, 0, 0, 267), (58, 4, 0, 0, 7), (96, 181, 2, 0, 118), (98, 166, 0, 0, 1), (98, 177, 1, 3, 269), (100, 169, 3, 5, 131), (100, 170, 1, 5, 123), (100, 172, 0, 5, 129), (100, 173, 1, 5, 69)]
theorem xs_SJx4a65c : ∀ t ∈ xg_SJx4a65c, xi_site RJx4a65c t := List.forall_mem_cons.mpr ⟨xt_440, List.forall_mem_cons.mpr ⟨xt_441, List.forall_mem_cons.mpr ⟨xt_442, List.forall_mem_cons.mpr ⟨xt_443, List.forall_mem_cons.mpr ⟨xt_444, List.forall_mem_cons.mpr ⟨xt_445, List.forall_mem_cons.mpr ⟨xt_446, List.forall_mem_cons.mpr ⟨xt_447, List.forall_mem_cons.mpr ⟨xt_448, List.forall_mem_cons.mpr ⟨xt_449, List.forall_mem_cons.mpr ⟨xt_450, List.forall_mem_cons.mpr ⟨xt_451, List.forall_mem_cons.mpr ⟨xt_452, List.forall_mem_cons.mpr ⟨xt_453, List.forall_mem_cons.mpr ⟨xt_454, List.forall_mem_cons.mpr ⟨xt_455, List.forall_mem_cons.mpr ⟨xt_456, fun _ h => nomatch h⟩⟩⟩⟩⟩⟩⟩⟩⟩⟩⟩⟩⟩⟩⟩⟩⟩
def xg_SJx35411 : List (Nat × Nat × Nat × Nat × Nat) := [(38, 3, 0, 0, 25), (38, 3, 2, 0, 22), (38, 3, 3, 0, 1), (38, 5, 0, 0, 17), (38, 5, 1, 0, 37), (39, 5, 2, 0, 28), (40, 3, 0, 0, 25), (40, 3, 1, 0, 13), (40, 3, 2, 0, 22), (41, 3, 3, 2, 1), (51, 0, 0, 0, 7), (100, 178, 0, 3, 31)]
theorem xs_SJx35411 : ∀ t ∈ xg_SJx35411, xi_site RJx35411 t := List.forall_mem_cons.mpr ⟨xt_457, List.forall_mem_cons.mpr ⟨xt_458, List.forall_mem_cons.mpr ⟨xt_459, List.forall_mem_cons.mpr ⟨xt_460, List.forall_mem_cons.mpr ⟨xt_461, List.forall_mem_cons.mpr ⟨xt_462, List.forall_mem_cons.mpr ⟨xt_463, List.forall_mem_cons.mpr ⟨xt_464, List.forall_mem_cons.mpr ⟨xt_465, List.forall_mem_cons.mpr ⟨xt_466, List.forall_mem_cons.mpr ⟨xt_467, List.forall_mem_cons.mpr ⟨xt_468, fun _ h => nomatch h⟩⟩⟩⟩⟩⟩⟩⟩⟩⟩⟩⟩
def xg_SJ15 : List (Nat × Nat × Nat × Nat × Nat) := [(96, 182, 3, 0, 105)]
theorem xs_SJ15 : ∀ t ∈ xg_SJ15, xi_site RJ15 t := List.forall_mem_cons.mpr ⟨xt_469, fun _ h => nomatch h⟩
end
