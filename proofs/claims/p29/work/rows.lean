section
-- ===== PART A: goes FIRST, ahead of the names: the tables' words, and 'selects' of the private methods out of them =====
/-- a private method of a class that the tables say can be made, by its rows of tables_1 -/
def lw_okq (q : MethodName × Nat) : Prop := (q.1.cls ≠ "java/lang/invoke/MethodHandle" ∧ q.1.cls ≠ "java/lang/invoke/VarHandle") ∧ Cond.instantiable q.1.cls q.2 ∈ tables_1 ∧ Cond.privateMethod q.1 ∈ tables_1 ∧ Cond.instanceMethod q.1 ∈ tables_1
theorem lw_p0 : lw_okq (⟨"java/lang/Throwable", "fillInStackTrace", "(I)Ljava/lang/Throwable;"⟩, 6) := ⟨⟨by decide +kernel, by decide +kernel⟩, List.mem_of_getElem? (i := 550) (by decide +kernel), List.mem_of_getElem? (i := 548) (by decide +kernel), List.mem_of_getElem? (i := 549) (by decide +kernel)⟩
theorem lw_p1 : lw_okq (⟨"UnwindTower", "refresh", "()V"⟩, 12) := ⟨⟨by decide +kernel, by decide +kernel⟩, List.mem_of_getElem? (i := 22) (by decide +kernel), List.mem_of_getElem? (i := 611) (by decide +kernel), List.mem_of_getElem? (i := 612) (by decide +kernel)⟩
theorem lw_p2 : lw_okq (⟨"UnwindTower$Program", "deriveFromAround", "(I)V"⟩, 19) := ⟨⟨by decide +kernel, by decide +kernel⟩, List.mem_of_getElem? (i := 30) (by decide +kernel), List.mem_of_getElem? (i := 619) (by decide +kernel), List.mem_of_getElem? (i := 620) (by decide +kernel)⟩
theorem lw_p3 : lw_okq (⟨"UnwindTower$Program", "canOf", "(I)I"⟩, 19) := ⟨⟨by decide +kernel, by decide +kernel⟩, List.mem_of_getElem? (i := 30) (by decide +kernel), List.mem_of_getElem? (i := 625) (by decide +kernel), List.mem_of_getElem? (i := 626) (by decide +kernel)⟩
theorem lw_p4 : lw_okq (⟨"UnwindTower$Program", "toldOf", "(I)I"⟩, 19) := ⟨⟨by decide +kernel, by decide +kernel⟩, List.mem_of_getElem? (i := 30) (by decide +kernel), List.mem_of_getElem? (i := 629) (by decide +kernel), List.mem_of_getElem? (i := 630) (by decide +kernel)⟩
theorem lw_p5 : lw_okq (⟨"UnwindTower$Program", "canOfPart", "(I)I"⟩, 19) := ⟨⟨by decide +kernel, by decide +kernel⟩, List.mem_of_getElem? (i := 30) (by decide +kernel), List.mem_of_getElem? (i := 633) (by decide +kernel), List.mem_of_getElem? (i := 634) (by decide +kernel)⟩
theorem lw_p6 : lw_okq (⟨"UnwindTower$Program", "canOfTry", "(I)I"⟩, 19) := ⟨⟨by decide +kernel, by decide +kernel⟩, List.mem_of_getElem? (i := 30) (by decide +kernel), List.mem_of_getElem? (i := 637) (by decide +kernel), List.mem_of_getElem? (i := 638) (by decide +kernel)⟩
theorem lw_p7 : lw_okq (⟨"UnwindTower$Program", "neverEnds", "(I)Z"⟩, 19) := ⟨⟨by decide +kernel, by decide +kernel⟩, List.mem_of_getElem? (i := 30) (by decide +kernel), List.mem_of_getElem? (i := 649) (by decide +kernel), List.mem_of_getElem? (i := 650) (by decide +kernel)⟩
theorem lw_p8 : lw_okq (⟨"UnwindTower$Program", "isNever", "(I)Z"⟩, 19) := ⟨⟨by decide +kernel, by decide +kernel⟩, List.mem_of_getElem? (i := 30) (by decide +kernel), List.mem_of_getElem? (i := 653) (by decide +kernel), List.mem_of_getElem? (i := 654) (by decide +kernel)⟩
theorem lw_p9 : lw_okq (⟨"UnwindTower$Program", "neverPastTry", "(I)Z"⟩, 19) := ⟨⟨by decide +kernel, by decide +kernel⟩, List.mem_of_getElem? (i := 30) (by decide +kernel), List.mem_of_getElem? (i := 657) (by decide +kernel), List.mem_of_getElem? (i := 658) (by decide +kernel)⟩
theorem lw_p10 : lw_okq (⟨"UnwindTower$Faults", "findInNodes", "(II)V"⟩, 5) := ⟨⟨by decide +kernel, by decide +kernel⟩, List.mem_of_getElem? (i := 129) (by decide +kernel), List.mem_of_getElem? (i := 671) (by decide +kernel), List.mem_of_getElem? (i := 672) (by decide +kernel)⟩
theorem lw_p11 : lw_okq (⟨"UnwindTower$Faults", "push", "(I)V"⟩, 5) := ⟨⟨by decide +kernel, by decide +kernel⟩, List.mem_of_getElem? (i := 129) (by decide +kernel), List.mem_of_getElem? (i := 675) (by decide +kernel), List.mem_of_getElem? (i := 676) (by decide +kernel)⟩
theorem lw_p12 : lw_okq (⟨"UnwindTower$Faults", "faultOf", "(I)I"⟩, 5) := ⟨⟨by decide +kernel, by decide +kernel⟩, List.mem_of_getElem? (i := 129) (by decide +kernel), List.mem_of_getElem? (i := 679) (by decide +kernel), List.mem_of_getElem? (i := 680) (by decide +kernel)⟩
theorem lw_p13 : lw_okq (⟨"UnwindTower$Faults", "faultOfCatch", "(I)I"⟩, 5) := ⟨⟨by decide +kernel, by decide +kernel⟩, List.mem_of_getElem? (i := 129) (by decide +kernel), List.mem_of_getElem? (i := 683) (by decide +kernel), List.mem_of_getElem? (i := 684) (by decide +kernel)⟩
theorem lw_p14 : lw_okq (⟨"UnwindTower$Faults", "findUntold", "(I)V"⟩, 5) := ⟨⟨by decide +kernel, by decide +kernel⟩, List.mem_of_getElem? (i := 129) (by decide +kernel), List.mem_of_getElem? (i := 697) (by decide +kernel), List.mem_of_getElem? (i := 698) (by decide +kernel)⟩
theorem lw_p15 : lw_okq (⟨"UnwindTower$Compiler", "placeAt", "(I)LUnwindTower$Place;"⟩, 15) := ⟨⟨by decide +kernel, by decide +kernel⟩, List.mem_of_getElem? (i := 233) (by decide +kernel), List.mem_of_getElem? (i := 719) (by decide +kernel), List.mem_of_getElem? (i := 720) (by decide +kernel)⟩
def lw_privs_1 : List (MethodName × Nat) := [(⟨"java/lang/Throwable", "fillInStackTrace", "(I)Ljava/lang/Throwable;"⟩, 6), (⟨"UnwindTower", "refresh", "()V"⟩, 12), (⟨"UnwindTower$Program", "deriveFromAround", "(I)V"⟩, 19), (⟨"UnwindTower$Program", "canOf", "(I)I"⟩, 19), (⟨"UnwindTower$Program", "toldOf", "(I)I"⟩, 19), (⟨"UnwindTower$Program", "canOfPart", "(I)I"⟩, 19), (⟨"UnwindTower$Program", "canOfTry", "(I)I"⟩, 19), (⟨"UnwindTower$Program", "neverEnds", "(I)Z"⟩, 19), (⟨"UnwindTower$Program", "isNever", "(I)Z"⟩, 19), (⟨"UnwindTower$Program", "neverPastTry", "(I)Z"⟩, 19), (⟨"UnwindTower$Faults", "findInNodes", "(II)V"⟩, 5), (⟨"UnwindTower$Faults", "push", "(I)V"⟩, 5), (⟨"UnwindTower$Faults", "faultOf", "(I)I"⟩, 5), (⟨"UnwindTower$Faults", "faultOfCatch", "(I)I"⟩, 5), (⟨"UnwindTower$Faults", "findUntold", "(I)V"⟩, 5), (⟨"UnwindTower$Compiler", "placeAt", "(I)LUnwindTower$Place;"⟩, 15)]
theorem lw_r1 : ∀ q ∈ lw_privs_1, lw_okq q := List.forall_mem_cons.mpr ⟨lw_p0, List.forall_mem_cons.mpr ⟨lw_p1, List.forall_mem_cons.mpr ⟨lw_p2, List.forall_mem_cons.mpr ⟨lw_p3, List.forall_mem_cons.mpr ⟨lw_p4, List.forall_mem_cons.mpr ⟨lw_p5, List.forall_mem_cons.mpr ⟨lw_p6, List.forall_mem_cons.mpr ⟨lw_p7, List.forall_mem_cons.mpr ⟨lw_p8, List.forall_mem_cons.mpr ⟨lw_p9, List.forall_mem_cons.mpr ⟨lw_p10, List.forall_mem_cons.mpr ⟨lw_p11, List.forall_mem_cons.mpr ⟨lw_p12, List.forall_mem_cons.mpr ⟨lw_p13, List.forall_mem_cons.mpr ⟨lw_p14, List.forall_mem_cons.mpr ⟨lw_p15, fun _ h => absurd h List.not_mem_nil⟩⟩⟩⟩⟩⟩⟩⟩⟩⟩⟩⟩⟩⟩⟩⟩
theorem lw_p16 : lw_okq (⟨"UnwindTower$Compiler", "lay", "(II)V"⟩, 15) := ⟨⟨by decide +kernel, by decide +kernel⟩, List.mem_of_getElem? (i := 233) (by decide +kernel), List.mem_of_getElem? (i := 724) (by decide +kernel), List.mem_of_getElem? (i := 725) (by decide +kernel)⟩
theorem lw_p17 : lw_okq (⟨"UnwindTower$Compiler", "inner", "(I)LUnwindTower$Place;"⟩, 15) := ⟨⟨by decide +kernel, by decide +kernel⟩, List.mem_of_getElem? (i := 233) (by decide +kernel), List.mem_of_getElem? (i := 737) (by decide +kernel), List.mem_of_getElem? (i := 738) (by decide +kernel)⟩
theorem lw_p18 : lw_okq (⟨"UnwindTower$Compiler", "inner", "(II)LUnwindTower$Place;"⟩, 15) := ⟨⟨by decide +kernel, by decide +kernel⟩, List.mem_of_getElem? (i := 233) (by decide +kernel), List.mem_of_getElem? (i := 741) (by decide +kernel), List.mem_of_getElem? (i := 742) (by decide +kernel)⟩
theorem lw_p19 : lw_okq (⟨"UnwindTower$Compiler", "layIf", "(II)V"⟩, 15) := ⟨⟨by decide +kernel, by decide +kernel⟩, List.mem_of_getElem? (i := 233) (by decide +kernel), List.mem_of_getElem? (i := 749) (by decide +kernel), List.mem_of_getElem? (i := 750) (by decide +kernel)⟩
theorem lw_p20 : lw_okq (⟨"UnwindTower$Compiler", "newLabel", "()I"⟩, 15) := ⟨⟨by decide +kernel, by decide +kernel⟩, List.mem_of_getElem? (i := 233) (by decide +kernel), List.mem_of_getElem? (i := 753) (by decide +kernel), List.mem_of_getElem? (i := 754) (by decide +kernel)⟩
theorem lw_p21 : lw_okq (⟨"UnwindTower$Compiler", "emitTo", "(IIIII)V"⟩, 15) := ⟨⟨by decide +kernel, by decide +kernel⟩, List.mem_of_getElem? (i := 233) (by decide +kernel), List.mem_of_getElem? (i := 757) (by decide +kernel), List.mem_of_getElem? (i := 758) (by decide +kernel)⟩
theorem lw_p22 : lw_okq (⟨"UnwindTower$Compiler", "settle", "(II)V"⟩, 15) := ⟨⟨by decide +kernel, by decide +kernel⟩, List.mem_of_getElem? (i := 233) (by decide +kernel), List.mem_of_getElem? (i := 766) (by decide +kernel), List.mem_of_getElem? (i := 767) (by decide +kernel)⟩
theorem lw_p23 : lw_okq (⟨"UnwindTower$Compiler", "layLoop", "(II)V"⟩, 15) := ⟨⟨by decide +kernel, by decide +kernel⟩, List.mem_of_getElem? (i := 233) (by decide +kernel), List.mem_of_getElem? (i := 770) (by decide +kernel), List.mem_of_getElem? (i := 771) (by decide +kernel)⟩
theorem lw_p24 : lw_okq (⟨"UnwindTower$Compiler", "emit", "(IIIIII)V"⟩, 15) := ⟨⟨by decide +kernel, by decide +kernel⟩, List.mem_of_getElem? (i := 233) (by decide +kernel), List.mem_of_getElem? (i := 774) (by decide +kernel), List.mem_of_getElem? (i := 775) (by decide +kernel)⟩
theorem lw_p25 : lw_okq (⟨"UnwindTower$Compiler", "layBreak", "(II)V"⟩, 15) := ⟨⟨by decide +kernel, by decide +kernel⟩, List.mem_of_getElem? (i := 233) (by decide +kernel), List.mem_of_getElem? (i := 778) (by decide +kernel), List.mem_of_getElem? (i := 779) (by decide +kernel)⟩
theorem lw_p26 : lw_okq (⟨"UnwindTower$Compiler", "layWayOut", "(II)V"⟩, 15) := ⟨⟨by decide +kernel, by decide +kernel⟩, List.mem_of_getElem? (i := 233) (by decide +kernel), List.mem_of_getElem? (i := 782) (by decide +kernel), List.mem_of_getElem? (i := 783) (by decide +kernel)⟩
theorem lw_p27 : lw_okq (⟨"UnwindTower$Compiler", "layClose", "(II)V"⟩, 15) := ⟨⟨by decide +kernel, by decide +kernel⟩, List.mem_of_getElem? (i := 233) (by decide +kernel), List.mem_of_getElem? (i := 786) (by decide +kernel), List.mem_of_getElem? (i := 787) (by decide +kernel)⟩
theorem lw_p28 : lw_okq (⟨"UnwindTower$Compiler", "layReturn", "(II)V"⟩, 15) := ⟨⟨by decide +kernel, by decide +kernel⟩, List.mem_of_getElem? (i := 233) (by decide +kernel), List.mem_of_getElem? (i := 790) (by decide +kernel), List.mem_of_getElem? (i := 791) (by decide +kernel)⟩
theorem lw_p29 : lw_okq (⟨"UnwindTower$Compiler", "layTry", "(II)V"⟩, 15) := ⟨⟨by decide +kernel, by decide +kernel⟩, List.mem_of_getElem? (i := 233) (by decide +kernel), List.mem_of_getElem? (i := 794) (by decide +kernel), List.mem_of_getElem? (i := 795) (by decide +kernel)⟩
theorem lw_p30 : lw_okq (⟨"UnwindTower$Compiler", "newGuard", "(II)I"⟩, 15) := ⟨⟨by decide +kernel, by decide +kernel⟩, List.mem_of_getElem? (i := 233) (by decide +kernel), List.mem_of_getElem? (i := 798) (by decide +kernel), List.mem_of_getElem? (i := 799) (by decide +kernel)⟩
theorem lw_p31 : lw_okq (⟨"UnwindTower$Compiler", "layFinally", "(III)V"⟩, 15) := ⟨⟨by decide +kernel, by decide +kernel⟩, List.mem_of_getElem? (i := 233) (by decide +kernel), List.mem_of_getElem? (i := 802) (by decide +kernel), List.mem_of_getElem? (i := 803) (by decide +kernel)⟩
def lw_privs_2 : List (MethodName × Nat) := [(⟨"UnwindTower$Compiler", "lay", "(II)V"⟩, 15), (⟨"UnwindTower$Compiler", "inner", "(I)LUnwindTower$Place;"⟩, 15), (⟨"UnwindTower$Compiler", "inner", "(II)LUnwindTower$Place;"⟩, 15), (⟨"UnwindTower$Compiler", "layIf", "(II)V"⟩, 15), (⟨"UnwindTower$Compiler", "newLabel", "()I"⟩, 15), (⟨"UnwindTower$Compiler", "emitTo", "(IIIII)V"⟩, 15), (⟨"UnwindTower$Compiler", "settle", "(II)V"⟩, 15), (⟨"UnwindTower$Compiler", "layLoop", "(II)V"⟩, 15), (⟨"UnwindTower$Compiler", "emit", "(IIIIII)V"⟩, 15), (⟨"UnwindTower$Compiler", "layBreak", "(II)V"⟩, 15), (⟨"UnwindTower$Compiler", "layWayOut", "(II)V"⟩, 15), (⟨"UnwindTower$Compiler", "layClose", "(II)V"⟩, 15), (⟨"UnwindTower$Compiler", "layReturn", "(II)V"⟩, 15), (⟨"UnwindTower$Compiler", "layTry", "(II)V"⟩, 15), (⟨"UnwindTower$Compiler", "newGuard", "(II)I"⟩, 15), (⟨"UnwindTower$Compiler", "layFinally", "(III)V"⟩, 15)]
theorem lw_r2 : ∀ q ∈ lw_privs_2, lw_okq q := List.forall_mem_cons.mpr ⟨lw_p16, List.forall_mem_cons.mpr ⟨lw_p17, List.forall_mem_cons.mpr ⟨lw_p18, List.forall_mem_cons.mpr ⟨lw_p19, List.forall_mem_cons.mpr ⟨lw_p20, List.forall_mem_cons.mpr ⟨lw_p21, List.forall_mem_cons.mpr ⟨lw_p22, List.forall_mem_cons.mpr ⟨lw_p23, List.forall_mem_cons.mpr ⟨lw_p24, List.forall_mem_cons.mpr ⟨lw_p25, List.forall_mem_cons.mpr ⟨lw_p26, List.forall_mem_cons.mpr ⟨lw_p27, List.forall_mem_cons.mpr ⟨lw_p28, List.forall_mem_cons.mpr ⟨lw_p29, List.forall_mem_cons.mpr ⟨lw_p30, List.forall_mem_cons.mpr ⟨lw_p31, fun _ h => absurd h List.not_mem_nil⟩⟩⟩⟩⟩⟩⟩⟩⟩⟩⟩⟩⟩⟩⟩⟩
theorem lw_p32 : lw_okq (⟨"UnwindTower$Compiler", "layCatch", "(III)V"⟩, 15) := ⟨⟨by decide +kernel, by decide +kernel⟩, List.mem_of_getElem? (i := 233) (by decide +kernel), List.mem_of_getElem? (i := 806) (by decide +kernel), List.mem_of_getElem? (i := 807) (by decide +kernel)⟩
theorem lw_p33 : lw_okq (⟨"UnwindTower$Compiler", "layCatchRows", "(IIII)V"⟩, 15) := ⟨⟨by decide +kernel, by decide +kernel⟩, List.mem_of_getElem? (i := 233) (by decide +kernel), List.mem_of_getElem? (i := 810) (by decide +kernel), List.mem_of_getElem? (i := 811) (by decide +kernel)⟩
theorem lw_p34 : lw_okq (⟨"UnwindTower$Compiler", "layRows", "(IIIII)V"⟩, 15) := ⟨⟨by decide +kernel, by decide +kernel⟩, List.mem_of_getElem? (i := 233) (by decide +kernel), List.mem_of_getElem? (i := 814) (by decide +kernel), List.mem_of_getElem? (i := 815) (by decide +kernel)⟩
theorem lw_p35 : lw_okq (⟨"UnwindTower$Compiler", "isGuarded", "(II)Z"⟩, 15) := ⟨⟨by decide +kernel, by decide +kernel⟩, List.mem_of_getElem? (i := 233) (by decide +kernel), List.mem_of_getElem? (i := 818) (by decide +kernel), List.mem_of_getElem? (i := 819) (by decide +kernel)⟩
theorem lw_p36 : lw_okq (⟨"UnwindTower$Compiler", "layFinallyRows", "(IIIII)V"⟩, 15) := ⟨⟨by decide +kernel, by decide +kernel⟩, List.mem_of_getElem? (i := 233) (by decide +kernel), List.mem_of_getElem? (i := 847) (by decide +kernel), List.mem_of_getElem? (i := 848) (by decide +kernel)⟩
theorem lw_p37 : lw_okq (⟨"UnwindTower$Compiler", "layUsing", "(II)V"⟩, 15) := ⟨⟨by decide +kernel, by decide +kernel⟩, List.mem_of_getElem? (i := 233) (by decide +kernel), List.mem_of_getElem? (i := 851) (by decide +kernel), List.mem_of_getElem? (i := 852) (by decide +kernel)⟩
theorem lw_p38 : lw_okq (⟨"UnwindTower$Compiler", "laySingle", "(ILUnwindTower$Place;)V"⟩, 15) := ⟨⟨by decide +kernel, by decide +kernel⟩, List.mem_of_getElem? (i := 233) (by decide +kernel), List.mem_of_getElem? (i := 855) (by decide +kernel), List.mem_of_getElem? (i := 856) (by decide +kernel)⟩
theorem lw_p39 : lw_okq (⟨"UnwindTower", "readProcedure", "(II)I"⟩, 12) := ⟨⟨by decide +kernel, by decide +kernel⟩, List.mem_of_getElem? (i := 22) (by decide +kernel), List.mem_of_getElem? (i := 860) (by decide +kernel), List.mem_of_getElem? (i := 861) (by decide +kernel)⟩
theorem lw_p40 : lw_okq (⟨"UnwindTower", "lengthOf", "(I)I"⟩, 12) := ⟨⟨by decide +kernel, by decide +kernel⟩, List.mem_of_getElem? (i := 22) (by decide +kernel), List.mem_of_getElem? (i := 865) (by decide +kernel), List.mem_of_getElem? (i := 866) (by decide +kernel)⟩
theorem lw_p41 : lw_okq (⟨"UnwindTower", "rowsOf", "(I)I"⟩, 12) := ⟨⟨by decide +kernel, by decide +kernel⟩, List.mem_of_getElem? (i := 22) (by decide +kernel), List.mem_of_getElem? (i := 870) (by decide +kernel), List.mem_of_getElem? (i := 871) (by decide +kernel)⟩
theorem lw_p42 : lw_okq (⟨"UnwindTower$Machine", "clear", "()V"⟩, 18) := ⟨⟨by decide +kernel, by decide +kernel⟩, List.mem_of_getElem? (i := 317) (by decide +kernel), List.mem_of_getElem? (i := 910) (by decide +kernel), List.mem_of_getElem? (i := 911) (by decide +kernel)⟩
theorem lw_p43 : lw_okq (⟨"UnwindTower$Machine", "enter", "(III)V"⟩, 18) := ⟨⟨by decide +kernel, by decide +kernel⟩, List.mem_of_getElem? (i := 317) (by decide +kernel), List.mem_of_getElem? (i := 921) (by decide +kernel), List.mem_of_getElem? (i := 922) (by decide +kernel)⟩
theorem lw_p44 : lw_okq (⟨"UnwindTower$Machine", "raise", "(IIII)V"⟩, 18) := ⟨⟨by decide +kernel, by decide +kernel⟩, List.mem_of_getElem? (i := 317) (by decide +kernel), List.mem_of_getElem? (i := 925) (by decide +kernel), List.mem_of_getElem? (i := 926) (by decide +kernel)⟩
theorem lw_p45 : lw_okq (⟨"UnwindTower$Machine", "fly", "(I)V"⟩, 18) := ⟨⟨by decide +kernel, by decide +kernel⟩, List.mem_of_getElem? (i := 317) (by decide +kernel), List.mem_of_getElem? (i := 940) (by decide +kernel), List.mem_of_getElem? (i := 941) (by decide +kernel)⟩
theorem lw_p46 : lw_okq (⟨"UnwindTower$Machine", "performNext", "()V"⟩, 18) := ⟨⟨by decide +kernel, by decide +kernel⟩, List.mem_of_getElem? (i := 317) (by decide +kernel), List.mem_of_getElem? (i := 947) (by decide +kernel), List.mem_of_getElem? (i := 948) (by decide +kernel)⟩
theorem lw_p47 : lw_okq (⟨"UnwindTower$Machine", "begin", "(LUnwindTower$Code;I)Z"⟩, 18) := ⟨⟨by decide +kernel, by decide +kernel⟩, List.mem_of_getElem? (i := 317) (by decide +kernel), List.mem_of_getElem? (i := 952) (by decide +kernel), List.mem_of_getElem? (i := 953) (by decide +kernel)⟩
def lw_privs_3 : List (MethodName × Nat) := [(⟨"UnwindTower$Compiler", "layCatch", "(III)V"⟩, 15), (⟨"UnwindTower$Compiler", "layCatchRows", "(IIII)V"⟩, 15), (⟨"UnwindTower$Compiler", "layRows", "(IIIII)V"⟩, 15), (⟨"UnwindTower$Compiler", "isGuarded", "(II)Z"⟩, 15), (⟨"UnwindTower$Compiler", "layFinallyRows", "(IIIII)V"⟩, 15), (⟨"UnwindTower$Compiler", "layUsing", "(II)V"⟩, 15), (⟨"UnwindTower$Compiler", "laySingle", "(ILUnwindTower$Place;)V"⟩, 15), (⟨"UnwindTower", "readProcedure", "(II)I"⟩, 12), (⟨"UnwindTower", "lengthOf", "(I)I"⟩, 12), (⟨"UnwindTower", "rowsOf", "(I)I"⟩, 12), (⟨"UnwindTower$Machine", "clear", "()V"⟩, 18), (⟨"UnwindTower$Machine", "enter", "(III)V"⟩, 18), (⟨"UnwindTower$Machine", "raise", "(IIII)V"⟩, 18), (⟨"UnwindTower$Machine", "fly", "(I)V"⟩, 18), (⟨"UnwindTower$Machine", "performNext", "()V"⟩, 18), (⟨"UnwindTower$Machine", "begin", "(LUnwindTower$Code;I)Z"⟩, 18)]
theorem lw_r3 : ∀ q ∈ lw_privs_3, lw_okq q := List.forall_mem_cons.mpr ⟨lw_p32, List.forall_mem_cons.mpr ⟨lw_p33, List.forall_mem_cons.mpr ⟨lw_p34, List.forall_mem_cons.mpr ⟨lw_p35, List.forall_mem_cons.mpr ⟨lw_p36, List.forall_mem_cons.mpr ⟨lw_p37, List.forall_mem_cons.mpr ⟨lw_p38, List.forall_mem_cons.mpr ⟨lw_p39, List.forall_mem_cons.mpr ⟨lw_p40, List.forall_mem_cons.mpr ⟨lw_p41, List.forall_mem_cons.mpr ⟨lw_p42, List.forall_mem_cons.mpr ⟨lw_p43, List.forall_mem_cons.mpr ⟨lw_p44, List.forall_mem_cons.mpr ⟨lw_p45, List.forall_mem_cons.mpr ⟨lw_p46, List.forall_mem_cons.mpr ⟨lw_p47, fun _ h => absurd h List.not_mem_nil⟩⟩⟩⟩⟩⟩⟩⟩⟩⟩⟩⟩⟩⟩⟩⟩
theorem lw_p48 : lw_okq (⟨"UnwindTower$Machine", "performRisky", "(LUnwindTower$Code;ILUnwindTower$Frame;)V"⟩, 18) := ⟨⟨by decide +kernel, by decide +kernel⟩, List.mem_of_getElem? (i := 317) (by decide +kernel), List.mem_of_getElem? (i := 957) (by decide +kernel), List.mem_of_getElem? (i := 958) (by decide +kernel)⟩
theorem lw_p49 : lw_okq (⟨"UnwindTower$Machine", "valueOf", "(I)I"⟩, 18) := ⟨⟨by decide +kernel, by decide +kernel⟩, List.mem_of_getElem? (i := 317) (by decide +kernel), List.mem_of_getElem? (i := 961) (by decide +kernel), List.mem_of_getElem? (i := 962) (by decide +kernel)⟩
theorem lw_p50 : lw_okq (⟨"UnwindTower$Machine", "divide", "(IILUnwindTower$Frame;I)V"⟩, 18) := ⟨⟨by decide +kernel, by decide +kernel⟩, List.mem_of_getElem? (i := 317) (by decide +kernel), List.mem_of_getElem? (i := 965) (by decide +kernel), List.mem_of_getElem? (i := 966) (by decide +kernel)⟩
theorem lw_p51 : lw_okq (⟨"UnwindTower$Machine", "suppress", "(I)V"⟩, 18) := ⟨⟨by decide +kernel, by decide +kernel⟩, List.mem_of_getElem? (i := 317) (by decide +kernel), List.mem_of_getElem? (i := 969) (by decide +kernel), List.mem_of_getElem? (i := 970) (by decide +kernel)⟩
theorem lw_p52 : lw_okq (⟨"UnwindTower$Machine", "link", "(IILUnwindTower$Frame;I)V"⟩, 18) := ⟨⟨by decide +kernel, by decide +kernel⟩, List.mem_of_getElem? (i := 317) (by decide +kernel), List.mem_of_getElem? (i := 977) (by decide +kernel), List.mem_of_getElem? (i := 978) (by decide +kernel)⟩
theorem lw_p53 : lw_okq (⟨"UnwindTower$Machine", "throwHeld", "(II)V"⟩, 18) := ⟨⟨by decide +kernel, by decide +kernel⟩, List.mem_of_getElem? (i := 317) (by decide +kernel), List.mem_of_getElem? (i := 989) (by decide +kernel), List.mem_of_getElem? (i := 990) (by decide +kernel)⟩
theorem lw_p54 : lw_okq (⟨"UnwindTower$Machine", "performSafe", "(LUnwindTower$Code;ILUnwindTower$Frame;)V"⟩, 18) := ⟨⟨by decide +kernel, by decide +kernel⟩, List.mem_of_getElem? (i := 317) (by decide +kernel), List.mem_of_getElem? (i := 993) (by decide +kernel), List.mem_of_getElem? (i := 994) (by decide +kernel)⟩
theorem lw_p55 : lw_okq (⟨"UnwindTower$Machine", "print", "(II)V"⟩, 18) := ⟨⟨by decide +kernel, by decide +kernel⟩, List.mem_of_getElem? (i := 317) (by decide +kernel), List.mem_of_getElem? (i := 997) (by decide +kernel), List.mem_of_getElem? (i := 998) (by decide +kernel)⟩
theorem lw_p56 : lw_okq (⟨"UnwindTower$Machine", "leave", "(LUnwindTower$Frame;I)V"⟩, 18) := ⟨⟨by decide +kernel, by decide +kernel⟩, List.mem_of_getElem? (i := 317) (by decide +kernel), List.mem_of_getElem? (i := 1001) (by decide +kernel), List.mem_of_getElem? (i := 1002) (by decide +kernel)⟩
theorem lw_p57 : lw_okq (⟨"UnwindTower$Machine", "unwind", "()V"⟩, 18) := ⟨⟨by decide +kernel, by decide +kernel⟩, List.mem_of_getElem? (i := 317) (by decide +kernel), List.mem_of_getElem? (i := 1005) (by decide +kernel), List.mem_of_getElem? (i := 1006) (by decide +kernel)⟩
theorem lw_p58 : lw_okq (⟨"UnwindTower$Machine", "placeFor", "(LUnwindTower$Code;I)I"⟩, 18) := ⟨⟨by decide +kernel, by decide +kernel⟩, List.mem_of_getElem? (i := 317) (by decide +kernel), List.mem_of_getElem? (i := 1009) (by decide +kernel), List.mem_of_getElem? (i := 1010) (by decide +kernel)⟩
theorem lw_p59 : lw_okq (⟨"UnwindTower", "readRun", "(I)I"⟩, 12) := ⟨⟨by decide +kernel, by decide +kernel⟩, List.mem_of_getElem? (i := 22) (by decide +kernel), List.mem_of_getElem? (i := 1024) (by decide +kernel), List.mem_of_getElem? (i := 1025) (by decide +kernel)⟩
theorem lw_p60 : lw_okq (⟨"UnwindTower", "readMany", "(I)I"⟩, 12) := ⟨⟨by decide +kernel, by decide +kernel⟩, List.mem_of_getElem? (i := 22) (by decide +kernel), List.mem_of_getElem? (i := 1032) (by decide +kernel), List.mem_of_getElem? (i := 1033) (by decide +kernel)⟩
theorem lw_p61 : lw_okq (⟨"UnwindTower", "lengthOfAll", "()I"⟩, 12) := ⟨⟨by decide +kernel, by decide +kernel⟩, List.mem_of_getElem? (i := 22) (by decide +kernel), List.mem_of_getElem? (i := 1040) (by decide +kernel), List.mem_of_getElem? (i := 1041) (by decide +kernel)⟩
theorem lw_p62 : lw_okq (⟨"UnwindTower$Program", "firstCatch", "(II)I"⟩, 19) := ⟨⟨by decide +kernel, by decide +kernel⟩, List.mem_of_getElem? (i := 30) (by decide +kernel), List.mem_of_getElem? (i := 1066) (by decide +kernel), List.mem_of_getElem? (i := 1067) (by decide +kernel)⟩
theorem lw_p63 : lw_okq (⟨"UnwindTower", "readKind", "(II)I"⟩, 12) := ⟨⟨by decide +kernel, by decide +kernel⟩, List.mem_of_getElem? (i := 22) (by decide +kernel), List.mem_of_getElem? (i := 1081) (by decide +kernel), List.mem_of_getElem? (i := 1082) (by decide +kernel)⟩
def lw_privs_4 : List (MethodName × Nat) := [(⟨"UnwindTower$Machine", "performRisky", "(LUnwindTower$Code;ILUnwindTower$Frame;)V"⟩, 18), (⟨"UnwindTower$Machine", "valueOf", "(I)I"⟩, 18), (⟨"UnwindTower$Machine", "divide", "(IILUnwindTower$Frame;I)V"⟩, 18), (⟨"UnwindTower$Machine", "suppress", "(I)V"⟩, 18), (⟨"UnwindTower$Machine", "link", "(IILUnwindTower$Frame;I)V"⟩, 18), (⟨"UnwindTower$Machine", "throwHeld", "(II)V"⟩, 18), (⟨"UnwindTower$Machine", "performSafe", "(LUnwindTower$Code;ILUnwindTower$Frame;)V"⟩, 18), (⟨"UnwindTower$Machine", "print", "(II)V"⟩, 18), (⟨"UnwindTower$Machine", "leave", "(LUnwindTower$Frame;I)V"⟩, 18), (⟨"UnwindTower$Machine", "unwind", "()V"⟩, 18), (⟨"UnwindTower$Machine", "placeFor", "(LUnwindTower$Code;I)I"⟩, 18), (⟨"UnwindTower", "readRun", "(I)I"⟩, 12), (⟨"UnwindTower", "readMany", "(I)I"⟩, 12), (⟨"UnwindTower", "lengthOfAll", "()I"⟩, 12), (⟨"UnwindTower$Program", "firstCatch", "(II)I"⟩, 19), (⟨"UnwindTower", "readKind", "(II)I"⟩, 12)]
theorem lw_r4 : ∀ q ∈ lw_privs_4, lw_okq q := List.forall_mem_cons.mpr ⟨lw_p48, List.forall_mem_cons.mpr ⟨lw_p49, List.forall_mem_cons.mpr ⟨lw_p50, List.forall_mem_cons.mpr ⟨lw_p51, List.forall_mem_cons.mpr ⟨lw_p52, List.forall_mem_cons.mpr ⟨lw_p53, List.forall_mem_cons.mpr ⟨lw_p54, List.forall_mem_cons.mpr ⟨lw_p55, List.forall_mem_cons.mpr ⟨lw_p56, List.forall_mem_cons.mpr ⟨lw_p57, List.forall_mem_cons.mpr ⟨lw_p58, List.forall_mem_cons.mpr ⟨lw_p59, List.forall_mem_cons.mpr ⟨lw_p60, List.forall_mem_cons.mpr ⟨lw_p61, List.forall_mem_cons.mpr ⟨lw_p62, List.forall_mem_cons.mpr ⟨lw_p63, fun _ h => absurd h List.not_mem_nil⟩⟩⟩⟩⟩⟩⟩⟩⟩⟩⟩⟩⟩⟩⟩⟩
theorem lw_p64 : lw_okq (⟨"UnwindTower", "digestProcedure", "(JI)J"⟩, 12) := ⟨⟨by decide +kernel, by decide +kernel⟩, List.mem_of_getElem? (i := 22) (by decide +kernel), List.mem_of_getElem? (i := 1089) (by decide +kernel), List.mem_of_getElem? (i := 1090) (by decide +kernel)⟩
theorem lw_p65 : lw_okq (⟨"UnwindTower", "readNode", "(II)I"⟩, 12) := ⟨⟨by decide +kernel, by decide +kernel⟩, List.mem_of_getElem? (i := 22) (by decide +kernel), List.mem_of_getElem? (i := 1098) (by decide +kernel), List.mem_of_getElem? (i := 1099) (by decide +kernel)⟩
theorem lw_p66 : lw_okq (⟨"UnwindTower", "digestRun", "(J)J"⟩, 12) := ⟨⟨by decide +kernel, by decide +kernel⟩, List.mem_of_getElem? (i := 22) (by decide +kernel), List.mem_of_getElem? (i := 1106) (by decide +kernel), List.mem_of_getElem? (i := 1107) (by decide +kernel)⟩
theorem lw_p67 : lw_okq (⟨"UnwindTower", "digestException", "(JI)J"⟩, 12) := ⟨⟨by decide +kernel, by decide +kernel⟩, List.mem_of_getElem? (i := 22) (by decide +kernel), List.mem_of_getElem? (i := 1122) (by decide +kernel), List.mem_of_getElem? (i := 1123) (by decide +kernel)⟩
theorem lw_p68 : lw_okq (⟨"UnwindTower", "readHeld", "(I)I"⟩, 12) := ⟨⟨by decide +kernel, by decide +kernel⟩, List.mem_of_getElem? (i := 22) (by decide +kernel), List.mem_of_getElem? (i := 1134) (by decide +kernel), List.mem_of_getElem? (i := 1135) (by decide +kernel)⟩
theorem lw_p69 : lw_okq (⟨"UnwindTower$Program", "isVariable", "(I)Z"⟩, 19) := ⟨⟨by decide +kernel, by decide +kernel⟩, List.mem_of_getElem? (i := 30) (by decide +kernel), List.mem_of_getElem? (i := 1219) (by decide +kernel), List.mem_of_getElem? (i := 1220) (by decide +kernel)⟩
theorem lw_p70 : lw_okq (⟨"UnwindTower$Program", "isOperand", "(I)Z"⟩, 19) := ⟨⟨by decide +kernel, by decide +kernel⟩, List.mem_of_getElem? (i := 30) (by decide +kernel), List.mem_of_getElem? (i := 1223) (by decide +kernel), List.mem_of_getElem? (i := 1224) (by decide +kernel)⟩
theorem lw_p71 : lw_okq (⟨"UnwindTower$Program", "isFreeStatement", "(I)Z"⟩, 19) := ⟨⟨by decide +kernel, by decide +kernel⟩, List.mem_of_getElem? (i := 30) (by decide +kernel), List.mem_of_getElem? (i := 1227) (by decide +kernel), List.mem_of_getElem? (i := 1228) (by decide +kernel)⟩
theorem lw_p72 : lw_okq (⟨"UnwindTower$Program", "isTry", "(III)Z"⟩, 19) := ⟨⟨by decide +kernel, by decide +kernel⟩, List.mem_of_getElem? (i := 30) (by decide +kernel), List.mem_of_getElem? (i := 1242) (by decide +kernel), List.mem_of_getElem? (i := 1243) (by decide +kernel)⟩
theorem lw_p73 : lw_okq (⟨"UnwindTower$Program", "isFreeCatch", "(I)Z"⟩, 19) := ⟨⟨by decide +kernel, by decide +kernel⟩, List.mem_of_getElem? (i := 30) (by decide +kernel), List.mem_of_getElem? (i := 1246) (by decide +kernel), List.mem_of_getElem? (i := 1247) (by decide +kernel)⟩
theorem lw_p74 : lw_okq (⟨"UnwindTower$Program", "isUsing", "(III)Z"⟩, 19) := ⟨⟨by decide +kernel, by decide +kernel⟩, List.mem_of_getElem? (i := 30) (by decide +kernel), List.mem_of_getElem? (i := 1250) (by decide +kernel), List.mem_of_getElem? (i := 1251) (by decide +kernel)⟩
def lw_privs_5 : List (MethodName × Nat) := [(⟨"UnwindTower", "digestProcedure", "(JI)J"⟩, 12), (⟨"UnwindTower", "readNode", "(II)I"⟩, 12), (⟨"UnwindTower", "digestRun", "(J)J"⟩, 12), (⟨"UnwindTower", "digestException", "(JI)J"⟩, 12), (⟨"UnwindTower", "readHeld", "(I)I"⟩, 12), (⟨"UnwindTower$Program", "isVariable", "(I)Z"⟩, 19), (⟨"UnwindTower$Program", "isOperand", "(I)Z"⟩, 19), (⟨"UnwindTower$Program", "isFreeStatement", "(I)Z"⟩, 19), (⟨"UnwindTower$Program", "isTry", "(III)Z"⟩, 19), (⟨"UnwindTower$Program", "isFreeCatch", "(I)Z"⟩, 19), (⟨"UnwindTower$Program", "isUsing", "(III)Z"⟩, 19)]
theorem lw_r5 : ∀ q ∈ lw_privs_5, lw_okq q := List.forall_mem_cons.mpr ⟨lw_p64, List.forall_mem_cons.mpr ⟨lw_p65, List.forall_mem_cons.mpr ⟨lw_p66, List.forall_mem_cons.mpr ⟨lw_p67, List.forall_mem_cons.mpr ⟨lw_p68, List.forall_mem_cons.mpr ⟨lw_p69, List.forall_mem_cons.mpr ⟨lw_p70, List.forall_mem_cons.mpr ⟨lw_p71, List.forall_mem_cons.mpr ⟨lw_p72, List.forall_mem_cons.mpr ⟨lw_p73, List.forall_mem_cons.mpr ⟨lw_p74, fun _ h => absurd h List.not_mem_nil⟩⟩⟩⟩⟩⟩⟩⟩⟩⟩⟩
def lw_privs : List (MethodName × Nat) := lw_privs_1 ++ (lw_privs_2 ++ (lw_privs_3 ++ (lw_privs_4 ++ (lw_privs_5))))
def lw_tbl : List Cond := k2_sels lw_privs ++ tables_1
theorem lw_privs_ok : ∀ q ∈ lw_privs, lw_okq q := by
  show ∀ q ∈ lw_privs_1 ++ (lw_privs_2 ++ (lw_privs_3 ++ (lw_privs_4 ++ (lw_privs_5)))), lw_okq q
  exact List.forall_mem_append.mpr ⟨lw_r1, List.forall_mem_append.mpr ⟨lw_r2, List.forall_mem_append.mpr ⟨lw_r3, List.forall_mem_append.mpr ⟨lw_r4, lw_r5⟩⟩⟩⟩
-- ===== end of PART A =====
end
section
def RX0 : String := "UnwindTower$Code"
def TX0 : u_T := fun k => match k with
  | 0 => ("UnwindTower$Code", "length", "I", false)
  | 1 => ("UnwindTower$Code", "isTooLong", "Z", false)
  | 2 => ("UnwindTower$Code", "ops", "[I", true)
  | 3 => ("UnwindTower$Code", "xs", "[I", true)
  | 4 => ("UnwindTower$Code", "ys", "[I", true)
  | 5 => ("UnwindTower$Code", "zs", "[I", true)
  | 6 => ("UnwindTower$Code", "nodes", "[I", true)
  | 7 => ("UnwindTower$Code", "firstBegins", "[I", true)
  | 8 => ("UnwindTower$Code", "manyBegins", "[I", true)
  | 9 => ("UnwindTower$Code", "begins", "[I", true)
  | 10 => ("UnwindTower$Code", "allBegins", "I", false)
  | 11 => ("UnwindTower$Code", "firstRow", "I", false)
  | _ => ("UnwindTower$Code", "rows", "I", false)
def tyX0 : Nat → FieldType := fun k => match k with
  | 0 => .int
  | 1 => .boolean
  | 2 => .array .int
  | 3 => .array .int
  | 4 => .array .int
  | 5 => .array .int
  | 6 => .array .int
  | 7 => .array .int
  | 8 => .array .int
  | 9 => .array .int
  | 10 => .int
  | 11 => .int
  | _ => .int
abbrev wsX00 : List Cond := u_ws RX0 TX0 13
theorem nmX0 : ∀ a, a < 13 → ∀ b, b < 13 → a ≠ b → (TX0 a).2.1 ≠ (TX0 b).2.1 := by decide +kernel
theorem tyX0_ok : ∀ k, k < 13 → parseFieldDescriptor (TX0 k).2.2.1 = some (tyX0 k) := by decide +kernel
abbrev cX0_init : ByteArray := prog_2_method_1_code
def yX0_init : MethodName := ⟨RX0, "<init>", "()V"⟩
abbrev cX0_clear : ByteArray := prog_2_method_2_code
def yX0_clear : MethodName := ⟨RX0, "clear", "()V"⟩
abbrev cX0_begin : ByteArray := prog_2_method_3_code
def yX0_begin : MethodName := ⟨RX0, "begin", "(I)V"⟩
abbrev cX0_add : ByteArray := prog_2_method_4_code
def yX0_add : MethodName := ⟨RX0, "add", "(IIIII)V"⟩
abbrev cX0_read : ByteArray := prog_2_method_5_code
def yX0_read : MethodName := ⟨RX0, "read", "(II)I"⟩
abbrev cX0_mayThrow : ByteArray := prog_2_method_6_code
def yX0_mayThrow : MethodName := ⟨RX0, "mayThrow", "(I)Z"⟩
def RX1 : String := "UnwindTower$Compiler"
def TX1 : u_T := fun k => match k with
  | 0 => ("UnwindTower$Compiler", "program", "LUnwindTower$Program;", true)
  | 1 => ("UnwindTower$Compiler", "codes", "[LUnwindTower$Code;", true)
  | 2 => ("UnwindTower$Compiler", "table", "LUnwindTower$Table;", true)
  | 3 => ("UnwindTower$Compiler", "places", "[LUnwindTower$Place;", true)
  | 4 => ("UnwindTower$Compiler", "guardNodes", "[I", true)
  | 5 => ("UnwindTower$Compiler", "guardOuters", "[I", true)
  | 6 => ("UnwindTower$Compiler", "guardDepths", "[I", true)
  | 7 => ("UnwindTower$Compiler", "guards", "I", false)
  | 8 => ("UnwindTower$Compiler", "guardOf", "[I", true)
  | 9 => ("UnwindTower$Compiler", "labels", "[I", true)
  | 10 => ("UnwindTower$Compiler", "lastLabel", "I", false)
  | 11 => ("UnwindTower$Compiler", "catchFrom", "[I", true)
  | 12 => ("UnwindTower$Compiler", "catchTo", "[I", true)
  | 13 => ("UnwindTower$Compiler", "code", "LUnwindTower$Code;", false)
  | _ => ("UnwindTower$Compiler", "isPruned", "Z", false)
def tyX1 : Nat → FieldType := fun k => match k with
  | 0 => .object "UnwindTower$Program"
  | 1 => .array (.object "UnwindTower$Code")
  | 2 => .object "UnwindTower$Table"
  | 3 => .array (.object "UnwindTower$Place")
  | 4 => .array .int
  | 5 => .array .int
  | 6 => .array .int
  | 7 => .int
  | 8 => .array .int
  | 9 => .array .int
  | 10 => .int
  | 11 => .array .int
  | 12 => .array .int
  | 13 => .object "UnwindTower$Code"
  | _ => .boolean
abbrev wsX10 : List Cond := u_ws RX1 TX1 15
theorem nmX1 : ∀ a, a < 15 → ∀ b, b < 15 → a ≠ b → (TX1 a).2.1 ≠ (TX1 b).2.1 := by decide +kernel
theorem tyX1_ok : ∀ k, k < 15 → parseFieldDescriptor (TX1 k).2.2.1 = some (tyX1 k) := by decide +kernel
abbrev cX1_init : ByteArray := prog_3_method_1_code
def yX1_init : MethodName := ⟨RX1, "<init>", "(LUnwindTower$Program;[LUnwindTower$Code;LUnwindTower$Table;)V"⟩
abbrev cX1_layProcedure : ByteArray := prog_3_method_2_code
def yX1_layProcedure : MethodName := ⟨RX1, "layProcedure", "(IZ)Z"⟩
abbrev cX1_lay : ByteArray := prog_3_method_3_code
def yX1_lay : MethodName := ⟨RX1, "lay", "(II)V"⟩
abbrev cX1_laySingle : ByteArray := prog_3_method_4_code
def yX1_laySingle : MethodName := ⟨RX1, "laySingle", "(ILUnwindTower$Place;)V"⟩
abbrev cX1_layIf : ByteArray := prog_3_method_5_code
def yX1_layIf : MethodName := ⟨RX1, "layIf", "(II)V"⟩
abbrev cX1_layLoop : ByteArray := prog_3_method_6_code
def yX1_layLoop : MethodName := ⟨RX1, "layLoop", "(II)V"⟩
abbrev cX1_layBreak : ByteArray := prog_3_method_7_code
def yX1_layBreak : MethodName := ⟨RX1, "layBreak", "(II)V"⟩
abbrev cX1_layReturn : ByteArray := prog_3_method_8_code
def yX1_layReturn : MethodName := ⟨RX1, "layReturn", "(II)V"⟩
abbrev cX1_layWayOut : ByteArray := prog_3_method_9_code
def yX1_layWayOut : MethodName := ⟨RX1, "layWayOut", "(II)V"⟩
abbrev cX1_layTry : ByteArray := prog_3_method_10_code
def yX1_layTry : MethodName := ⟨RX1, "layTry", "(II)V"⟩
abbrev cX1_layCatch : ByteArray := prog_3_method_11_code
def yX1_layCatch : MethodName := ⟨RX1, "layCatch", "(III)V"⟩
abbrev cX1_layFinally : ByteArray := prog_3_method_12_code
def yX1_layFinally : MethodName := ⟨RX1, "layFinally", "(III)V"⟩
abbrev cX1_layUsing : ByteArray := prog_3_method_13_code
def yX1_layUsing : MethodName := ⟨RX1, "layUsing", "(II)V"⟩
abbrev cX1_layClose : ByteArray := prog_3_method_14_code
def yX1_layClose : MethodName := ⟨RX1, "layClose", "(II)V"⟩
abbrev cX1_layCatchRows : ByteArray := prog_3_method_15_code
def yX1_layCatchRows : MethodName := ⟨RX1, "layCatchRows", "(IIII)V"⟩
abbrev cX1_layFinallyRows : ByteArray := prog_3_method_16_code
def yX1_layFinallyRows : MethodName := ⟨RX1, "layFinallyRows", "(IIIII)V"⟩
abbrev cX1_layRows : ByteArray := prog_3_method_17_code
def yX1_layRows : MethodName := ⟨RX1, "layRows", "(IIIII)V"⟩
abbrev cX1_isGuarded : ByteArray := prog_3_method_18_code
def yX1_isGuarded : MethodName := ⟨RX1, "isGuarded", "(II)Z"⟩
abbrev cX1_placeAt : ByteArray := prog_3_method_19_code
def yX1_placeAt : MethodName := ⟨RX1, "placeAt", "(I)LUnwindTower$Place;"⟩
abbrev cX1_inner : ByteArray := prog_3_method_20_code
def yX1_inner : MethodName := ⟨RX1, "inner", "(I)LUnwindTower$Place;"⟩
abbrev cX1_inner_ : ByteArray := prog_3_method_21_code
def yX1_inner_ : MethodName := ⟨RX1, "inner", "(II)LUnwindTower$Place;"⟩
abbrev cX1_newGuard : ByteArray := prog_3_method_22_code
def yX1_newGuard : MethodName := ⟨RX1, "newGuard", "(II)I"⟩
abbrev cX1_newLabel : ByteArray := prog_3_method_23_code
def yX1_newLabel : MethodName := ⟨RX1, "newLabel", "()I"⟩
abbrev cX1_emit : ByteArray := prog_3_method_24_code
def yX1_emit : MethodName := ⟨RX1, "emit", "(IIIIII)V"⟩
abbrev cX1_emitTo : ByteArray := prog_3_method_25_code
def yX1_emitTo : MethodName := ⟨RX1, "emitTo", "(IIIII)V"⟩
abbrev cX1_settle : ByteArray := prog_3_method_26_code
def yX1_settle : MethodName := ⟨RX1, "settle", "(II)V"⟩
def RX2 : String := "UnwindTower$Faults"
def TX2 : u_T := fun k => match k with
  | 0 => ("UnwindTower$Faults", "program", "LUnwindTower$Program;", true)
  | 1 => ("UnwindTower$Faults", "cells", "[I", true)
  | 2 => ("UnwindTower$Faults", "stack", "[I", true)
  | 3 => ("UnwindTower$Faults", "top", "I", false)
  | _ => ("UnwindTower$Faults", "count", "I", false)
def tyX2 : Nat → FieldType := fun k => match k with
  | 0 => .object "UnwindTower$Program"
  | 1 => .array .int
  | 2 => .array .int
  | 3 => .int
  | _ => .int
abbrev wsX20 : List Cond := u_ws RX2 TX2 5
theorem nmX2 : ∀ a, a < 5 → ∀ b, b < 5 → a ≠ b → (TX2 a).2.1 ≠ (TX2 b).2.1 := by decide +kernel
theorem tyX2_ok : ∀ k, k < 5 → parseFieldDescriptor (TX2 k).2.2.1 = some (tyX2 k) := by decide +kernel
abbrev cX2_init : ByteArray := prog_4_method_1_code
def yX2_init : MethodName := ⟨RX2, "<init>", "(LUnwindTower$Program;)V"⟩
abbrev cX2_read : ByteArray := prog_4_method_2_code
def yX2_read : MethodName := ⟨RX2, "read", "(II)I"⟩
abbrev cX2_add : ByteArray := prog_4_method_3_code
def yX2_add : MethodName := ⟨RX2, "add", "(IIII)V"⟩
abbrev cX2_find : ByteArray := prog_4_method_4_code
def yX2_find : MethodName := ⟨RX2, "find", "()V"⟩
abbrev cX2_findInNodes : ByteArray := prog_4_method_5_code
def yX2_findInNodes : MethodName := ⟨RX2, "findInNodes", "(II)V"⟩
abbrev cX2_push : ByteArray := prog_4_method_6_code
def yX2_push : MethodName := ⟨RX2, "push", "(I)V"⟩
abbrev cX2_faultOf : ByteArray := prog_4_method_7_code
def yX2_faultOf : MethodName := ⟨RX2, "faultOf", "(I)I"⟩
abbrev cX2_faultOfCatch : ByteArray := prog_4_method_8_code
def yX2_faultOfCatch : MethodName := ⟨RX2, "faultOfCatch", "(I)I"⟩
abbrev cX2_findUntold : ByteArray := prog_4_method_9_code
def yX2_findUntold : MethodName := ⟨RX2, "findUntold", "(I)V"⟩
def RX3 : String := "UnwindTower$Frame"
def TX3 : u_T := fun k => match k with
  | 0 => ("UnwindTower$Frame", "procedure", "I", false)
  | 1 => ("UnwindTower$Frame", "place", "I", false)
  | 2 => ("UnwindTower$Frame", "variable", "I", false)
  | 3 => ("UnwindTower$Frame", "node", "I", false)
  | 4 => ("UnwindTower$Frame", "caught", "[I", true)
  | _ => ("UnwindTower$Frame", "held", "[I", true)
def tyX3 : Nat → FieldType := fun k => match k with
  | 0 => .int
  | 1 => .int
  | 2 => .int
  | 3 => .int
  | 4 => .array .int
  | _ => .array .int
abbrev wsX30 : List Cond := u_ws RX3 TX3 6
theorem nmX3 : ∀ a, a < 6 → ∀ b, b < 6 → a ≠ b → (TX3 a).2.1 ≠ (TX3 b).2.1 := by decide +kernel
theorem tyX3_ok : ∀ k, k < 6 → parseFieldDescriptor (TX3 k).2.2.1 = some (tyX3 k) := by decide +kernel
abbrev cX3_init : ByteArray := prog_5_method_1_code
def yX3_init : MethodName := ⟨RX3, "<init>", "()V"⟩
def RX4 : String := "UnwindTower$Machine"
def TX4 : u_T := fun k => match k with
  | 0 => ("UnwindTower$Machine", "program", "LUnwindTower$Program;", true)
  | 1 => ("UnwindTower$Machine", "codes", "[LUnwindTower$Code;", true)
  | 2 => ("UnwindTower$Machine", "table", "LUnwindTower$Table;", true)
  | 3 => ("UnwindTower$Machine", "thrown", "LUnwindTower$Thrown;", true)
  | 4 => ("UnwindTower$Machine", "told", "[I", true)
  | 5 => ("UnwindTower$Machine", "variables", "[I", true)
  | 6 => ("UnwindTower$Machine", "slots", "[I", true)
  | 7 => ("UnwindTower$Machine", "begun", "[I", true)
  | 8 => ("UnwindTower$Machine", "called", "[I", true)
  | 9 => ("UnwindTower$Machine", "prints", "[I", true)
  | 10 => ("UnwindTower$Machine", "printSum", "J", false)
  | 11 => ("UnwindTower$Machine", "frames", "[LUnwindTower$Frame;", true)
  | 12 => ("UnwindTower$Machine", "depth", "I", false)
  | 13 => ("UnwindTower$Machine", "most", "I", false)
  | 14 => ("UnwindTower$Machine", "deep", "I", false)
  | 15 => ("UnwindTower$Machine", "isRunning", "Z", false)
  | 16 => ("UnwindTower$Machine", "flying", "I", false)
  | _ => ("UnwindTower$Machine", "isFlying", "Z", false)
def tyX4 : Nat → FieldType := fun k => match k with
  | 0 => .object "UnwindTower$Program"
  | 1 => .array (.object "UnwindTower$Code")
  | 2 => .object "UnwindTower$Table"
  | 3 => .object "UnwindTower$Thrown"
  | 4 => .array .int
  | 5 => .array .int
  | 6 => .array .int
  | 7 => .array .int
  | 8 => .array .int
  | 9 => .array .int
  | 10 => .long
  | 11 => .array (.object "UnwindTower$Frame")
  | 12 => .int
  | 13 => .int
  | 14 => .int
  | 15 => .boolean
  | 16 => .int
  | _ => .boolean
abbrev wsX40 : List Cond := u_ws RX4 TX4 18
theorem nmX4 : ∀ a, a < 18 → ∀ b, b < 18 → a ≠ b → (TX4 a).2.1 ≠ (TX4 b).2.1 := by decide +kernel
theorem tyX4_ok : ∀ k, k < 18 → parseFieldDescriptor (TX4 k).2.2.1 = some (tyX4 k) := by decide +kernel
abbrev cX4_init : ByteArray := prog_6_method_1_code
def yX4_init : MethodName := ⟨RX4, "<init>", "(LUnwindTower$Program;[LUnwindTower$Code;LUnwindTower$Table;)V"⟩
abbrev cX4_keptPrints : ByteArray := prog_6_method_2_code
def yX4_keptPrints : MethodName := ⟨RX4, "keptPrints", "()I"⟩
abbrev cX4_readPrint : ByteArray := prog_6_method_3_code
def yX4_readPrint : MethodName := ⟨RX4, "readPrint", "(II)I"⟩
abbrev cX4_perform : ByteArray := prog_6_method_4_code
def yX4_perform : MethodName := ⟨RX4, "perform", "(II)V"⟩
abbrev cX4_clear : ByteArray := prog_6_method_5_code
def yX4_clear : MethodName := ⟨RX4, "clear", "()V"⟩
abbrev cX4_performNext : ByteArray := prog_6_method_6_code
def yX4_performNext : MethodName := ⟨RX4, "performNext", "()V"⟩
abbrev cX4_begin : ByteArray := prog_6_method_7_code
def yX4_begin : MethodName := ⟨RX4, "begin", "(LUnwindTower$Code;I)Z"⟩
abbrev cX4_performSafe : ByteArray := prog_6_method_8_code
def yX4_performSafe : MethodName := ⟨RX4, "performSafe", "(LUnwindTower$Code;ILUnwindTower$Frame;)V"⟩
abbrev cX4_performRisky : ByteArray := prog_6_method_9_code
def yX4_performRisky : MethodName := ⟨RX4, "performRisky", "(LUnwindTower$Code;ILUnwindTower$Frame;)V"⟩
abbrev cX4_valueOf : ByteArray := prog_6_method_10_code
def yX4_valueOf : MethodName := ⟨RX4, "valueOf", "(I)I"⟩
abbrev cX4_print : ByteArray := prog_6_method_11_code
def yX4_print : MethodName := ⟨RX4, "print", "(II)V"⟩
abbrev cX4_divide : ByteArray := prog_6_method_12_code
def yX4_divide : MethodName := ⟨RX4, "divide", "(IILUnwindTower$Frame;I)V"⟩
abbrev cX4_link : ByteArray := prog_6_method_13_code
def yX4_link : MethodName := ⟨RX4, "link", "(IILUnwindTower$Frame;I)V"⟩
abbrev cX4_throwHeld : ByteArray := prog_6_method_14_code
def yX4_throwHeld : MethodName := ⟨RX4, "throwHeld", "(II)V"⟩
abbrev cX4_suppress : ByteArray := prog_6_method_15_code
def yX4_suppress : MethodName := ⟨RX4, "suppress", "(I)V"⟩
abbrev cX4_enter : ByteArray := prog_6_method_16_code
def yX4_enter : MethodName := ⟨RX4, "enter", "(III)V"⟩
abbrev cX4_leave : ByteArray := prog_6_method_17_code
def yX4_leave : MethodName := ⟨RX4, "leave", "(LUnwindTower$Frame;I)V"⟩
abbrev cX4_raise : ByteArray := prog_6_method_18_code
def yX4_raise : MethodName := ⟨RX4, "raise", "(IIII)V"⟩
abbrev cX4_fly : ByteArray := prog_6_method_19_code
def yX4_fly : MethodName := ⟨RX4, "fly", "(I)V"⟩
abbrev cX4_unwind : ByteArray := prog_6_method_20_code
def yX4_unwind : MethodName := ⟨RX4, "unwind", "()V"⟩
abbrev cX4_placeFor : ByteArray := prog_6_method_21_code
def yX4_placeFor : MethodName := ⟨RX4, "placeFor", "(LUnwindTower$Code;I)I"⟩
def RX5 : String := "UnwindTower$Place"
def TX5 : u_T := fun k => match k with
  | 0 => ("UnwindTower$Place", "guard", "I", false)
  | 1 => ("UnwindTower$Place", "caughts", "I", false)
  | 2 => ("UnwindTower$Place", "finallys", "I", false)
  | 3 => ("UnwindTower$Place", "catchCaught", "I", false)
  | 4 => ("UnwindTower$Place", "loopLabel", "I", false)
  | _ => ("UnwindTower$Place", "loopGuard", "I", false)
def tyX5 : Nat → FieldType := fun k => match k with
  | 0 => .int
  | 1 => .int
  | 2 => .int
  | 3 => .int
  | 4 => .int
  | _ => .int
abbrev wsX50 : List Cond := u_ws RX5 TX5 6
theorem nmX5 : ∀ a, a < 6 → ∀ b, b < 6 → a ≠ b → (TX5 a).2.1 ≠ (TX5 b).2.1 := by decide +kernel
theorem tyX5_ok : ∀ k, k < 6 → parseFieldDescriptor (TX5 k).2.2.1 = some (tyX5 k) := by decide +kernel
abbrev cX5_init : ByteArray := prog_7_method_1_code
def yX5_init : MethodName := ⟨RX5, "<init>", "()V"⟩
abbrev cX5_copy : ByteArray := prog_7_method_2_code
def yX5_copy : MethodName := ⟨RX5, "copy", "(LUnwindTower$Place;)V"⟩
def RX6 : String := "UnwindTower$Program"
def TX6 : u_T := fun k => match k with
  | 0 => ("UnwindTower$Program", "kinds", "I", false)
  | 1 => ("UnwindTower$Program", "parents", "[I", true)
  | 2 => ("UnwindTower$Program", "checked", "[I", true)
  | 3 => ("UnwindTower$Program", "below", "[I", true)
  | 4 => ("UnwindTower$Program", "procedures", "I", false)
  | 5 => ("UnwindTower$Program", "tells", "[I", true)
  | 6 => ("UnwindTower$Program", "bodies", "[I", true)
  | 7 => ("UnwindTower$Program", "nodes", "I", false)
  | 8 => ("UnwindTower$Program", "sorts", "[I", true)
  | 9 => ("UnwindTower$Program", "as", "[I", true)
  | 10 => ("UnwindTower$Program", "bs", "[I", true)
  | 11 => ("UnwindTower$Program", "cs", "[I", true)
  | 12 => ("UnwindTower$Program", "around", "[I", true)
  | 13 => ("UnwindTower$Program", "bodyOf", "[I", true)
  | 14 => ("UnwindTower$Program", "in", "[I", true)
  | 15 => ("UnwindTower$Program", "catchAround", "[I", true)
  | 16 => ("UnwindTower$Program", "loopAround", "[I", true)
  | 17 => ("UnwindTower$Program", "can", "[I", true)
  | _ => ("UnwindTower$Program", "never", "[I", true)
def tyX6 : Nat → FieldType := fun k => match k with
  | 0 => .int
  | 1 => .array .int
  | 2 => .array .int
  | 3 => .array .int
  | 4 => .int
  | 5 => .array .int
  | 6 => .array .int
  | 7 => .int
  | 8 => .array .int
  | 9 => .array .int
  | 10 => .array .int
  | 11 => .array .int
  | 12 => .array .int
  | 13 => .array .int
  | 14 => .array .int
  | 15 => .array .int
  | 16 => .array .int
  | 17 => .array .int
  | _ => .array .int
abbrev wsX60 : List Cond := u_ws RX6 TX6 19
theorem nmX6 : ∀ a, a < 19 → ∀ b, b < 19 → a ≠ b → (TX6 a).2.1 ≠ (TX6 b).2.1 := by decide +kernel
theorem tyX6_ok : ∀ k, k < 19 → parseFieldDescriptor (TX6 k).2.2.1 = some (tyX6 k) := by decide +kernel
abbrev cX6_init : ByteArray := prog_8_method_1_code
def yX6_init : MethodName := ⟨RX6, "<init>", "()V"⟩
abbrev cX6_hasKind : ByteArray := prog_8_method_2_code
def yX6_hasKind : MethodName := ⟨RX6, "hasKind", "(I)Z"⟩
abbrev cX6_hasProcedure : ByteArray := prog_8_method_3_code
def yX6_hasProcedure : MethodName := ⟨RX6, "hasProcedure", "(I)Z"⟩
abbrev cX6_hasNode : ByteArray := prog_8_method_4_code
def yX6_hasNode : MethodName := ⟨RX6, "hasNode", "(I)Z"⟩
abbrev cX6_isSet : ByteArray := prog_8_method_5_code
def yX6_isSet : MethodName := ⟨RX6, "isSet", "(I)Z"⟩
abbrev cX6_isStatement : ByteArray := prog_8_method_6_code
def yX6_isStatement : MethodName := ⟨RX6, "isStatement", "(I)Z"⟩
abbrev cX6_isFree : ByteArray := prog_8_method_7_code
def yX6_isFree : MethodName := ⟨RX6, "isFree", "(I)Z"⟩
abbrev cX6_isAtOrBelow : ByteArray := prog_8_method_8_code
def yX6_isAtOrBelow : MethodName := ⟨RX6, "isAtOrBelow", "(II)Z"⟩
abbrev cX6_addKind : ByteArray := prog_8_method_9_code
def yX6_addKind : MethodName := ⟨RX6, "addKind", "(IZ)I"⟩
abbrev cX6_addProcedure : ByteArray := prog_8_method_10_code
def yX6_addProcedure : MethodName := ⟨RX6, "addProcedure", "(I)I"⟩
abbrev cX6_setBody : ByteArray := prog_8_method_11_code
def yX6_setBody : MethodName := ⟨RX6, "setBody", "(II)I"⟩
abbrev cX6_addNode : ByteArray := prog_8_method_12_code
def yX6_addNode : MethodName := ⟨RX6, "addNode", "(IIII)I"⟩
abbrev cX6_partA : ByteArray := prog_8_method_13_code
def yX6_partA : MethodName := ⟨RX6, "partA", "(I)I"⟩
abbrev cX6_partB : ByteArray := prog_8_method_14_code
def yX6_partB : MethodName := ⟨RX6, "partB", "(I)I"⟩
abbrev cX6_partC : ByteArray := prog_8_method_15_code
def yX6_partC : MethodName := ⟨RX6, "partC", "(I)I"⟩
abbrev cX6_isNode : ByteArray := prog_8_method_16_code
def yX6_isNode : MethodName := ⟨RX6, "isNode", "(IIII)Z"⟩
abbrev cX6_isTry : ByteArray := prog_8_method_17_code
def yX6_isTry : MethodName := ⟨RX6, "isTry", "(III)Z"⟩
abbrev cX6_isUsing : ByteArray := prog_8_method_18_code
def yX6_isUsing : MethodName := ⟨RX6, "isUsing", "(III)Z"⟩
abbrev cX6_isVariable : ByteArray := prog_8_method_19_code
def yX6_isVariable : MethodName := ⟨RX6, "isVariable", "(I)Z"⟩
abbrev cX6_isOperand : ByteArray := prog_8_method_20_code
def yX6_isOperand : MethodName := ⟨RX6, "isOperand", "(I)Z"⟩
abbrev cX6_isFreeStatement : ByteArray := prog_8_method_21_code
def yX6_isFreeStatement : MethodName := ⟨RX6, "isFreeStatement", "(I)Z"⟩
abbrev cX6_isFreeCatch : ByteArray := prog_8_method_22_code
def yX6_isFreeCatch : MethodName := ⟨RX6, "isFreeCatch", "(I)Z"⟩
abbrev cX6_derive : ByteArray := prog_8_method_23_code
def yX6_derive : MethodName := ⟨RX6, "derive", "()V"⟩
abbrev cX6_deriveFromAround : ByteArray := prog_8_method_24_code
def yX6_deriveFromAround : MethodName := ⟨RX6, "deriveFromAround", "(I)V"⟩
abbrev cX6_canOf : ByteArray := prog_8_method_25_code
def yX6_canOf : MethodName := ⟨RX6, "canOf", "(I)I"⟩
abbrev cX6_toldOf : ByteArray := prog_8_method_26_code
def yX6_toldOf : MethodName := ⟨RX6, "toldOf", "(I)I"⟩
abbrev cX6_canOfPart : ByteArray := prog_8_method_27_code
def yX6_canOfPart : MethodName := ⟨RX6, "canOfPart", "(I)I"⟩
abbrev cX6_canOfTry : ByteArray := prog_8_method_28_code
def yX6_canOfTry : MethodName := ⟨RX6, "canOfTry", "(I)I"⟩
abbrev cX6_canOfBody : ByteArray := prog_8_method_29_code
def yX6_canOfBody : MethodName := ⟨RX6, "canOfBody", "(I)I"⟩
abbrev cX6_neverEnds : ByteArray := prog_8_method_30_code
def yX6_neverEnds : MethodName := ⟨RX6, "neverEnds", "(I)Z"⟩
abbrev cX6_isNever : ByteArray := prog_8_method_31_code
def yX6_isNever : MethodName := ⟨RX6, "isNever", "(I)Z"⟩
abbrev cX6_neverPastTry : ByteArray := prog_8_method_32_code
def yX6_neverPastTry : MethodName := ⟨RX6, "neverPastTry", "(I)Z"⟩
abbrev cX6_countCatches : ByteArray := prog_8_method_33_code
def yX6_countCatches : MethodName := ⟨RX6, "countCatches", "(I)I"⟩
abbrev cX6_countInNone : ByteArray := prog_8_method_34_code
def yX6_countInNone : MethodName := ⟨RX6, "countInNone", "()I"⟩
abbrev cX6_catchOf : ByteArray := prog_8_method_35_code
def yX6_catchOf : MethodName := ⟨RX6, "catchOf", "(II)I"⟩
abbrev cX6_firstCatch : ByteArray := prog_8_method_36_code
def yX6_firstCatch : MethodName := ⟨RX6, "firstCatch", "(II)I"⟩
def RX7 : String := "UnwindTower$Table"
def TX7 : u_T := fun k => match k with
  | 0 => ("UnwindTower$Table", "cells", "[I", false)
  | _ => ("UnwindTower$Table", "count", "I", false)
def tyX7 : Nat → FieldType := fun k => match k with
  | 0 => .array .int
  | _ => .int
abbrev wsX70 : List Cond := u_ws RX7 TX7 2
theorem nmX7 : ∀ a, a < 2 → ∀ b, b < 2 → a ≠ b → (TX7 a).2.1 ≠ (TX7 b).2.1 := by decide +kernel
theorem tyX7_ok : ∀ k, k < 2 → parseFieldDescriptor (TX7 k).2.2.1 = some (tyX7 k) := by decide +kernel
abbrev cX7_init : ByteArray := prog_9_method_1_code
def yX7_init : MethodName := ⟨RX7, "<init>", "()V"⟩
abbrev cX7_add : ByteArray := prog_9_method_2_code
def yX7_add : MethodName := ⟨RX7, "add", "(IIII)V"⟩
abbrev cX7_read : ByteArray := prog_9_method_3_code
def yX7_read : MethodName := ⟨RX7, "read", "(II)I"⟩
def RX8 : String := "UnwindTower$Thrown"
def TX8 : u_T := fun k => match k with
  | 0 => ("UnwindTower$Thrown", "made", "I", false)
  | 1 => ("UnwindTower$Thrown", "suppressions", "I", false)
  | 2 => ("UnwindTower$Thrown", "kinds", "[I", true)
  | 3 => ("UnwindTower$Thrown", "causes", "[I", true)
  | 4 => ("UnwindTower$Thrown", "ofEachKind", "[I", true)
  | 5 => ("UnwindTower$Thrown", "numbers", "[I", true)
  | 6 => ("UnwindTower$Thrown", "traceLength", "[I", true)
  | 7 => ("UnwindTower$Thrown", "traces", "[I", true)
  | 8 => ("UnwindTower$Thrown", "under", "[I", true)
  | 9 => ("UnwindTower$Thrown", "firstUnder", "[I", true)
  | 10 => ("UnwindTower$Thrown", "lastUnder", "[I", true)
  | 11 => ("UnwindTower$Thrown", "whichUnder", "[I", true)
  | _ => ("UnwindTower$Thrown", "nextUnder", "[I", true)
def tyX8 : Nat → FieldType := fun k => match k with
  | 0 => .int
  | 1 => .int
  | 2 => .array .int
  | 3 => .array .int
  | 4 => .array .int
  | 5 => .array .int
  | 6 => .array .int
  | 7 => .array .int
  | 8 => .array .int
  | 9 => .array .int
  | 10 => .array .int
  | 11 => .array .int
  | _ => .array .int
abbrev wsX80 : List Cond := u_ws RX8 TX8 13
theorem nmX8 : ∀ a, a < 13 → ∀ b, b < 13 → a ≠ b → (TX8 a).2.1 ≠ (TX8 b).2.1 := by decide +kernel
theorem tyX8_ok : ∀ k, k < 13 → parseFieldDescriptor (TX8 k).2.2.1 = some (tyX8 k) := by decide +kernel
abbrev cX8_init : ByteArray := prog_10_method_1_code
def yX8_init : MethodName := ⟨RX8, "<init>", "()V"⟩
abbrev cX8_clear : ByteArray := prog_10_method_2_code
def yX8_clear : MethodName := ⟨RX8, "clear", "()V"⟩
abbrev cX8_isKept : ByteArray := prog_10_method_3_code
def yX8_isKept : MethodName := ⟨RX8, "isKept", "(I)Z"⟩
abbrev cX8_make : ByteArray := prog_10_method_4_code
def yX8_make : MethodName := ⟨RX8, "make", "(III)I"⟩
abbrev cX8_addTrace : ByteArray := prog_10_method_5_code
def yX8_addTrace : MethodName := ⟨RX8, "addTrace", "(II)V"⟩
abbrev cX8_readTrace : ByteArray := prog_10_method_6_code
def yX8_readTrace : MethodName := ⟨RX8, "readTrace", "(II)I"⟩
abbrev cX8_suppress : ByteArray := prog_10_method_7_code
def yX8_suppress : MethodName := ⟨RX8, "suppress", "(II)V"⟩
abbrev cX8_setCause : ByteArray := prog_10_method_8_code
def yX8_setCause : MethodName := ⟨RX8, "setCause", "(II)V"⟩
abbrev cX8_isBehind : ByteArray := prog_10_method_9_code
def yX8_isBehind : MethodName := ⟨RX8, "isBehind", "(II)Z"⟩
abbrev cX8_read : ByteArray := prog_10_method_10_code
def yX8_read : MethodName := ⟨RX8, "read", "(II)I"⟩
def RX9 : String := "UnwindTower"
def TX9 : u_T := fun k => match k with
  | 0 => ("UnwindTower", "program", "LUnwindTower$Program;", true)
  | 1 => ("UnwindTower", "faults", "LUnwindTower$Faults;", true)
  | 2 => ("UnwindTower", "table", "LUnwindTower$Table;", true)
  | 3 => ("UnwindTower", "codes", "[LUnwindTower$Code;", true)
  | 4 => ("UnwindTower", "compiler", "LUnwindTower$Compiler;", true)
  | 5 => ("UnwindTower", "machine", "LUnwindTower$Machine;", true)
  | 6 => ("UnwindTower", "spare", "LUnwindTower$Machine;", true)
  | 7 => ("UnwindTower", "isPruned", "Z", false)
  | 8 => ("UnwindTower", "isStale", "Z", false)
  | 9 => ("UnwindTower", "most", "I", false)
  | 10 => ("UnwindTower", "deep", "I", false)
  | _ => ("UnwindTower", "runs", "I", false)
def tyX9 : Nat → FieldType := fun k => match k with
  | 0 => .object "UnwindTower$Program"
  | 1 => .object "UnwindTower$Faults"
  | 2 => .object "UnwindTower$Table"
  | 3 => .array (.object "UnwindTower$Code")
  | 4 => .object "UnwindTower$Compiler"
  | 5 => .object "UnwindTower$Machine"
  | 6 => .object "UnwindTower$Machine"
  | 7 => .boolean
  | 8 => .boolean
  | 9 => .int
  | 10 => .int
  | _ => .int
abbrev wsX90 : List Cond := u_ws RX9 TX9 12
theorem nmX9 : ∀ a, a < 12 → ∀ b, b < 12 → a ≠ b → (TX9 a).2.1 ≠ (TX9 b).2.1 := by decide +kernel
theorem tyX9_ok : ∀ k, k < 12 → parseFieldDescriptor (TX9 k).2.2.1 = some (tyX9 k) := by decide +kernel
abbrev cX9_init : ByteArray := prog_1_method_1_code
def yX9_init : MethodName := ⟨RX9, "<init>", "()V"⟩
abbrev cX9_kind : ByteArray := prog_1_method_2_code
def yX9_kind : MethodName := ⟨RX9, "kind", "(IZ)I"⟩
abbrev cX9_procedure : ByteArray := prog_1_method_4_code
def yX9_procedure : MethodName := ⟨RX9, "procedure", "(I)I"⟩
abbrev cX9_tell : ByteArray := prog_1_method_5_code
def yX9_tell : MethodName := ⟨RX9, "tell", "(II)I"⟩
abbrev cX9_ofProcedure : ByteArray := prog_1_method_6_code
def yX9_ofProcedure : MethodName := ⟨RX9, "ofProcedure", "(II)I"⟩
abbrev cX9_node : ByteArray := prog_1_method_7_code
def yX9_node : MethodName := ⟨RX9, "node", "(IIII)I"⟩
abbrev cX9_body : ByteArray := prog_1_method_8_code
def yX9_body : MethodName := ⟨RX9, "body", "(II)I"⟩
abbrev cX9_ofNode : ByteArray := prog_1_method_9_code
def yX9_ofNode : MethodName := ⟨RX9, "ofNode", "(II)I"⟩
abbrev cX9_prune : ByteArray := prog_1_method_11_code
def yX9_prune : MethodName := ⟨RX9, "prune", "(Z)Z"⟩
abbrev cX9_limits : ByteArray := prog_1_method_14_code
def yX9_limits : MethodName := ⟨RX9, "limits", "(II)I"⟩
abbrev cX9_run : ByteArray := prog_1_method_15_code
def yX9_run : MethodName := ⟨RX9, "run", "()I"⟩
abbrev cX9_ofRun : ByteArray := prog_1_method_16_code
def yX9_ofRun : MethodName := ⟨RX9, "ofRun", "(I)I"⟩
abbrev cX9_exception : ByteArray := prog_1_method_18_code
def yX9_exception : MethodName := ⟨RX9, "exception", "(II)I"⟩
abbrev cX9_suppressed : ByteArray := prog_1_method_19_code
def yX9_suppressed : MethodName := ⟨RX9, "suppressed", "(II)I"⟩
abbrev cX9_trace : ByteArray := prog_1_method_20_code
def yX9_trace : MethodName := ⟨RX9, "trace", "(II)I"⟩
abbrev cX9_many : ByteArray := prog_1_method_23_code
def yX9_many : MethodName := ⟨RX9, "many", "(I)I"⟩
abbrev cX9_wouldRun : ByteArray := prog_1_method_24_code
def yX9_wouldRun : MethodName := ⟨RX9, "wouldRun", "(III)I"⟩
abbrev cX9_catcher : ByteArray := prog_1_method_25_code
def yX9_catcher : MethodName := ⟨RX9, "catcher", "(II)I"⟩
abbrev cX9_faultsWith : ByteArray := prog_1_method_26_code
def yX9_faultsWith : MethodName := ⟨RX9, "faultsWith", "(II)I"⟩
abbrev cX9_digest : ByteArray := prog_1_method_27_code
def yX9_digest : MethodName := ⟨RX9, "digest", "()J"⟩
abbrev cX9_digestProcedure : ByteArray := prog_1_method_28_code
def yX9_digestProcedure : MethodName := ⟨RX9, "digestProcedure", "(JI)J"⟩
abbrev cX9_digestRun : ByteArray := prog_1_method_29_code
def yX9_digestRun : MethodName := ⟨RX9, "digestRun", "(J)J"⟩
abbrev cX9_digestException : ByteArray := prog_1_method_30_code
def yX9_digestException : MethodName := ⟨RX9, "digestException", "(JI)J"⟩
abbrev cX9_readKind : ByteArray := prog_1_method_31_code
def yX9_readKind : MethodName := ⟨RX9, "readKind", "(II)I"⟩
abbrev cX9_readProcedure : ByteArray := prog_1_method_32_code
def yX9_readProcedure : MethodName := ⟨RX9, "readProcedure", "(II)I"⟩
abbrev cX9_readNode : ByteArray := prog_1_method_33_code
def yX9_readNode : MethodName := ⟨RX9, "readNode", "(II)I"⟩
abbrev cX9_readRun : ByteArray := prog_1_method_34_code
def yX9_readRun : MethodName := ⟨RX9, "readRun", "(I)I"⟩
abbrev cX9_readHeld : ByteArray := prog_1_method_35_code
def yX9_readHeld : MethodName := ⟨RX9, "readHeld", "(I)I"⟩
abbrev cX9_readMany : ByteArray := prog_1_method_36_code
def yX9_readMany : MethodName := ⟨RX9, "readMany", "(I)I"⟩
abbrev cX9_lengthOf : ByteArray := prog_1_method_37_code
def yX9_lengthOf : MethodName := ⟨RX9, "lengthOf", "(I)I"⟩
abbrev cX9_rowsOf : ByteArray := prog_1_method_38_code
def yX9_rowsOf : MethodName := ⟨RX9, "rowsOf", "(I)I"⟩
abbrev cX9_lengthOfAll : ByteArray := prog_1_method_39_code
def yX9_lengthOfAll : MethodName := ⟨RX9, "lengthOfAll", "()I"⟩
abbrev cX9_areLimits : ByteArray := prog_1_method_40_code
def yX9_areLimits : MethodName := ⟨RX9, "areLimits", "(II)Z"⟩
abbrev cX9_refresh : ByteArray := prog_1_method_41_code
def yX9_refresh : MethodName := ⟨RX9, "refresh", "()V"⟩
abbrev cX9_at : ByteArray := prog_1_method_42_code
def yX9_at : MethodName := ⟨RX9, "at", "([II)I"⟩
abbrev cX9_put : ByteArray := prog_1_method_43_code
def yX9_put : MethodName := ⟨RX9, "put", "([III)V"⟩
abbrev cX9_increment : ByteArray := prog_1_method_44_code
def yX9_increment : MethodName := ⟨RX9, "increment", "([II)V"⟩
abbrev cX9_codeAt : ByteArray := prog_1_method_45_code
def yX9_codeAt : MethodName := ⟨RX9, "codeAt", "([LUnwindTower$Code;I)LUnwindTower$Code;"⟩
def RX10 : String := "UnwindTowerLaw$Own"
def TX10 : u_T := fun k => match k with
  | 0 => ("UnwindTowerLaw$Own", "nodes", "[[I", false)
  | 1 => ("UnwindTowerLaw$Own", "parents", "[I", false)
  | 2 => ("UnwindTowerLaw$Own", "isChecked", "[Z", false)
  | 3 => ("UnwindTowerLaw$Own", "tells", "[I", false)
  | _ => ("UnwindTowerLaw$Own", "bodies", "[I", false)
def tyX10 : Nat → FieldType := fun k => match k with
  | 0 => .array (.array .int)
  | 1 => .array .int
  | 2 => .array .boolean
  | 3 => .array .int
  | _ => .array .int
abbrev wsX100 : List Cond := u_ws RX10 TX10 5
theorem nmX10 : ∀ a, a < 5 → ∀ b, b < 5 → a ≠ b → (TX10 a).2.1 ≠ (TX10 b).2.1 := by decide +kernel
theorem tyX10_ok : ∀ k, k < 5 → parseFieldDescriptor (TX10 k).2.2.1 = some (tyX10 k) := by decide +kernel
abbrev cX10_init : ByteArray := prog_12_method_1_code
def yX10_init : MethodName := ⟨RX10, "<init>", "()V"⟩
abbrev cX10_plus : ByteArray := prog_12_method_2_code
def yX10_plus : MethodName := ⟨RX10, "plus", "([II)[I"⟩
abbrev cX10_with : ByteArray := prog_12_method_3_code
def yX10_with : MethodName := ⟨RX10, "with", "([[I[I)[[I"⟩
abbrev cX10_isBelow : ByteArray := prog_12_method_4_code
def yX10_isBelow : MethodName := ⟨RX10, "isBelow", "(II)Z"⟩
abbrev cX10_isChecked : ByteArray := prog_12_method_5_code
def yX10_isChecked : MethodName := ⟨RX10, "isChecked", "(I)Z"⟩
abbrev cX10_parts : ByteArray := prog_12_method_7_code
def yX10_parts : MethodName := ⟨RX10, "parts", "(I)[I"⟩
abbrev cX10_never : ByteArray := prog_12_method_13_code
def yX10_never : MethodName := ⟨RX10, "never", "(I)Z"⟩
def RX11 : String := "UnwindTowerModel$Code"
def TX11 : u_T := fun k => match k with
  | _ => ("", "", "", false)
def tyX11 : Nat → FieldType := fun k => match k with
  | _ => .int
abbrev wsX110 : List Cond := u_ws RX11 TX11 0
theorem nmX11 : ∀ a, a < 0 → ∀ b, b < 0 → a ≠ b → (TX11 a).2.1 ≠ (TX11 b).2.1 := by decide +kernel
theorem tyX11_ok : ∀ k, k < 0 → parseFieldDescriptor (TX11 k).2.2.1 = some (tyX11 k) := by decide +kernel
def RX12 : String := "UnwindTowerModel$Kind"
def TX12 : u_T := fun k => match k with
  | _ => ("", "", "", false)
def tyX12 : Nat → FieldType := fun k => match k with
  | _ => .int
abbrev wsX120 : List Cond := u_ws RX12 TX12 0
theorem nmX12 : ∀ a, a < 0 → ∀ b, b < 0 → a ≠ b → (TX12 a).2.1 ≠ (TX12 b).2.1 := by decide +kernel
theorem tyX12_ok : ∀ k, k < 0 → parseFieldDescriptor (TX12 k).2.2.1 = some (tyX12 k) := by decide +kernel
def RX13 : String := "UnwindTowerModel$Node"
def TX13 : u_T := fun k => match k with
  | _ => ("", "", "", false)
def tyX13 : Nat → FieldType := fun k => match k with
  | _ => .int
abbrev wsX130 : List Cond := u_ws RX13 TX13 0
theorem nmX13 : ∀ a, a < 0 → ∀ b, b < 0 → a ≠ b → (TX13 a).2.1 ≠ (TX13 b).2.1 := by decide +kernel
theorem tyX13_ok : ∀ k, k < 0 → parseFieldDescriptor (TX13 k).2.2.1 = some (tyX13 k) := by decide +kernel
def RX14 : String := "UnwindTowerModel$Procedure"
def TX14 : u_T := fun k => match k with
  | _ => ("", "", "", false)
def tyX14 : Nat → FieldType := fun k => match k with
  | _ => .int
abbrev wsX140 : List Cond := u_ws RX14 TX14 0
theorem nmX14 : ∀ a, a < 0 → ∀ b, b < 0 → a ≠ b → (TX14 a).2.1 ≠ (TX14 b).2.1 := by decide +kernel
theorem tyX14_ok : ∀ k, k < 0 → parseFieldDescriptor (TX14 k).2.2.1 = some (tyX14 k) := by decide +kernel
def RX15 : String := "UnwindTowerModel$Program"
def TX15 : u_T := fun k => match k with
  | _ => ("", "", "", false)
def tyX15 : Nat → FieldType := fun k => match k with
  | _ => .int
abbrev wsX150 : List Cond := u_ws RX15 TX15 0
theorem nmX15 : ∀ a, a < 0 → ∀ b, b < 0 → a ≠ b → (TX15 a).2.1 ≠ (TX15 b).2.1 := by decide +kernel
theorem tyX15_ok : ∀ k, k < 0 → parseFieldDescriptor (TX15 k).2.2.1 = some (tyX15 k) := by decide +kernel
def RX16 : String := "UnwindTowerModel$Region"
def TX16 : u_T := fun k => match k with
  | _ => ("", "", "", false)
def tyX16 : Nat → FieldType := fun k => match k with
  | _ => .int
abbrev wsX160 : List Cond := u_ws RX16 TX16 0
theorem nmX16 : ∀ a, a < 0 → ∀ b, b < 0 → a ≠ b → (TX16 a).2.1 ≠ (TX16 b).2.1 := by decide +kernel
theorem tyX16_ok : ∀ k, k < 0 → parseFieldDescriptor (TX16 k).2.2.1 = some (tyX16 k) := by decide +kernel
def RX17 : String := "UnwindTowerModel$Run"
def TX17 : u_T := fun k => match k with
  | _ => ("", "", "", false)
def tyX17 : Nat → FieldType := fun k => match k with
  | _ => .int
abbrev wsX170 : List Cond := u_ws RX17 TX17 0
theorem nmX17 : ∀ a, a < 0 → ∀ b, b < 0 → a ≠ b → (TX17 a).2.1 ≠ (TX17 b).2.1 := by decide +kernel
theorem tyX17_ok : ∀ k, k < 0 → parseFieldDescriptor (TX17 k).2.2.1 = some (tyX17 k) := by decide +kernel
def RX18 : String := "UnwindTowerModel$Thing"
def TX18 : u_T := fun k => match k with
  | _ => ("", "", "", false)
def tyX18 : Nat → FieldType := fun k => match k with
  | _ => .int
abbrev wsX180 : List Cond := u_ws RX18 TX18 0
theorem nmX18 : ∀ a, a < 0 → ∀ b, b < 0 → a ≠ b → (TX18 a).2.1 ≠ (TX18 b).2.1 := by decide +kernel
theorem tyX18_ok : ∀ k, k < 0 → parseFieldDescriptor (TX18 k).2.2.1 = some (tyX18 k) := by decide +kernel
def RX19 : String := "UnwindTowerModel$Way"
def TX19 : u_T := fun k => match k with
  | _ => ("", "", "", false)
def tyX19 : Nat → FieldType := fun k => match k with
  | _ => .int
abbrev wsX190 : List Cond := u_ws RX19 TX19 0
theorem nmX19 : ∀ a, a < 0 → ∀ b, b < 0 → a ≠ b → (TX19 a).2.1 ≠ (TX19 b).2.1 := by decide +kernel
theorem tyX19_ok : ∀ k, k < 0 → parseFieldDescriptor (TX19 k).2.2.1 = some (tyX19 k) := by decide +kernel
def RX20 : String := "UnwindTowerModel"
def TX20 : u_T := fun k => match k with
  | _ => ("", "", "", false)
def tyX20 : Nat → FieldType := fun k => match k with
  | _ => .int
abbrev wsX200 : List Cond := u_ws RX20 TX20 0
theorem nmX20 : ∀ a, a < 0 → ∀ b, b < 0 → a ≠ b → (TX20 a).2.1 ≠ (TX20 b).2.1 := by decide +kernel
theorem tyX20_ok : ∀ k, k < 0 → parseFieldDescriptor (TX20 k).2.2.1 = some (tyX20 k) := by decide +kernel
def RJx145de : String := "java/io/Serializable"
def TJx145de : u_T := fun k => match k with
  | _ => ("", "", "", false)
def tyJx145de : Nat → FieldType := fun k => match k with
  | _ => .int
abbrev wsJx145de0 : List Cond := u_ws RJx145de TJx145de 0
theorem nmJx145de : ∀ a, a < 0 → ∀ b, b < 0 → a ≠ b → (TJx145de a).2.1 ≠ (TJx145de b).2.1 := by decide +kernel
theorem tyJx145de_ok : ∀ k, k < 0 → parseFieldDescriptor (TJx145de k).2.2.1 = some (tyJx145de k) := by decide +kernel
def RJx8e188 : String := "java/lang/Cloneable"
def TJx8e188 : u_T := fun k => match k with
  | _ => ("", "", "", false)
def tyJx8e188 : Nat → FieldType := fun k => match k with
  | _ => .int
abbrev wsJx8e1880 : List Cond := u_ws RJx8e188 TJx8e188 0
theorem nmJx8e188 : ∀ a, a < 0 → ∀ b, b < 0 → a ≠ b → (TJx8e188 a).2.1 ≠ (TJx8e188 b).2.1 := by decide +kernel
theorem tyJx8e188_ok : ∀ k, k < 0 → parseFieldDescriptor (TJx8e188 k).2.2.1 = some (tyJx8e188 k) := by decide +kernel
def RJ9 : String := "java/lang/Math"
def TJ9 : u_T := fun k => match k with
  | _ => ("", "", "", false)
def tyJ9 : Nat → FieldType := fun k => match k with
  | _ => .int
abbrev wsJ90 : List Cond := u_ws RJ9 TJ9 0
theorem nmJ9 : ∀ a, a < 0 → ∀ b, b < 0 → a ≠ b → (TJ9 a).2.1 ≠ (TJ9 b).2.1 := by decide +kernel
theorem tyJ9_ok : ∀ k, k < 0 → parseFieldDescriptor (TJ9 k).2.2.1 = some (tyJ9 k) := by decide +kernel
abbrev cJ9_min_7cf53 : ByteArray := prog_28_method_69_code
def yJ9_min_7cf53 : MethodName := ⟨RJ9, "min", "(II)I"⟩
def RJ0 : String := "java/lang/String"
def TJ0 : u_T := fun k => match k with
  | _ => ("", "", "", false)
def tyJ0 : Nat → FieldType := fun k => match k with
  | _ => .int
abbrev wsJ00 : List Cond := u_ws RJ0 TJ0 0
theorem nmJ0 : ∀ a, a < 0 → ∀ b, b < 0 → a ≠ b → (TJ0 a).2.1 ≠ (TJ0 b).2.1 := by decide +kernel
theorem tyJ0_ok : ∀ k, k < 0 → parseFieldDescriptor (TJ0 k).2.2.1 = some (tyJ0 k) := by decide +kernel
def RJ10 : String := "java/lang/System"
def TJ10 : u_T := fun k => match k with
  | _ => ("", "", "", false)
def tyJ10 : Nat → FieldType := fun k => match k with
  | _ => .int
abbrev wsJ100 : List Cond := u_ws RJ10 TJ10 0
theorem nmJ10 : ∀ a, a < 0 → ∀ b, b < 0 → a ≠ b → (TJ10 a).2.1 ≠ (TJ10 b).2.1 := by decide +kernel
theorem tyJ10_ok : ∀ k, k < 0 → parseFieldDescriptor (TJ10 k).2.2.1 = some (tyJ10 k) := by decide +kernel
def RJ7 : String := "java/util/Arrays"
def TJ7 : u_T := fun k => match k with
  | _ => ("", "", "", false)
def tyJ7 : Nat → FieldType := fun k => match k with
  | _ => .int
abbrev wsJ70 : List Cond := u_ws RJ7 TJ7 0
theorem nmJ7 : ∀ a, a < 0 → ∀ b, b < 0 → a ≠ b → (TJ7 a).2.1 ≠ (TJ7 b).2.1 := by decide +kernel
theorem tyJ7_ok : ∀ k, k < 0 → parseFieldDescriptor (TJ7 k).2.2.1 = some (tyJ7 k) := by decide +kernel
abbrev cJ7_fill_53178 : ByteArray := prog_33_method_103_code
def yJ7_fill_53178 : MethodName := ⟨RJ7, "fill", "([II)V"⟩
abbrev cJ7_copyOf_59c91 : ByteArray := prog_33_method_123_code
def yJ7_copyOf_59c91 : MethodName := ⟨RJ7, "copyOf", "([II)[I"⟩
def RL : String := "UnwindTowerLaw"
abbrev cL_below : ByteArray := method_2_code
def yL_below : MethodName := ⟨RL, "below", "(II)I"⟩
abbrev cL_cell : ByteArray := method_3_code
def yL_cell : MethodName := ⟨RL, "cell", "([II)I"⟩
abbrev cL_node : ByteArray := method_4_code
def yL_node : MethodName := ⟨RL, "node", "(LUnwindTower;LUnwindTowerLaw$Own;IIII)I"⟩
abbrev cL_operand : ByteArray := method_5_code
def yL_operand : MethodName := ⟨RL, "operand", "(I)I"⟩
abbrev cL_build : ByteArray := method_6_code
def yL_build : MethodName := ⟨RL, "build", "(LUnwindTower;LUnwindTowerLaw$Own;[IIIZZ)I"⟩
abbrev cL_loop : ByteArray := method_7_code
def yL_loop : MethodName := ⟨RL, "loop", "(LUnwindTower;LUnwindTowerLaw$Own;[IIIZ)I"⟩
abbrev cL_tryAll : ByteArray := method_8_code
def yL_tryAll : MethodName := ⟨RL, "tryAll", "(LUnwindTower;LUnwindTowerLaw$Own;[IIIZZ)I"⟩
abbrev cL_write : ByteArray := method_9_code
def yL_write : MethodName := ⟨RL, "write", "(LUnwindTower;LUnwindTowerLaw$Own;[IZ)Z"⟩
abbrev cL_law : ByteArray := code
def yL_law : MethodName := ⟨RL, "law", "([I)Z"⟩
abbrev cL_isFair : ByteArray := method_11_code
def yL_isFair : MethodName := ⟨RL, "isFair", "(LUnwindTower;LUnwindTowerLaw$Own;I)Z"⟩
abbrev cL_isTold : ByteArray := method_12_code
def yL_isTold : MethodName := ⟨RL, "isTold", "(LUnwindTower;LUnwindTowerLaw$Own;I)Z"⟩
abbrev vwCl : List vw_C := [(RX0, TX0, 13), (RX1, TX1, 15), (RX2, TX2, 5), (RX3, TX3, 6), (RX4, TX4, 18), (RX5, TX5, 6), (RX6, TX6, 19), (RX7, TX7, 2), (RX8, TX8, 13), (RX9, TX9, 12), (RX10, TX10, 5)]
end
section
/-! A MODEL OF FRAMES: what a stretch of bytecode does, as a function on lists (whole values; a reference is the number of a cell, from 0; the script is the reference 1000000000) -/
/-- a cell: an object of a class; an int[]; a boolean[]; a row of references -/
abbrev zO : Type := (Nat × List Value) ⊕ (List Int32 ⊕ (List Int32 ⊕ (Nat × List (Option Nat))))
abbrev zL : Type := Nat → Option Value
/-- an instruction: pc, length, number, operands -/
abbrev zI : Type := Nat × Nat × Nat × Nat × Nat × Nat × Nat
/-- how it came out: the value, the cells, how many cells and slots were made -/
abbrev zR : Type := Option Value × List zO × Nat × Nat
abbrev zM : Type := List zI × List (List Nat) × Nat
abbrev zT : Type := zL × List Value × List zO
def zSC : Nat := 1000000000
def zc (x : Nat) : Int32 := Int32.ofInt ((x : Int) - 2147483648)
def zcl (x : Nat) : Int64 := Int64.ofInt ((x : Int) - 9223372036854775808)
/-- the component type of a row -/
def zTY (t : Nat) : FieldType := match t with
  | 0 => .int
  | 1 => .object "UnwindTower$Code"
  | 2 => .object "UnwindTower$Place"
  | 3 => .object "UnwindTower$Frame"
  | 4 => .array .int
  | _ => .boolean
/-- the class of what may lie in it -/
def zEC (t : Nat) : Nat := match t with
  | 1 => 0
  | 2 => 5
  | _ => 3
section ZQ
variable {α β : Type}
def zq_i (S : List Value) (k : Int32 → List Value → Option β) : Option β := match S with
  | .int x :: S => k x S
  | _ => none
def zq_l (S : List Value) (k : Int64 → List Value → Option β) : Option β := match S with
  | .long x :: S => k x S
  | _ => none
def zq_r (S : List Value) (k : Nat → List Value → Option β) : Option β := match S with
  | .ref a :: S => k a S
  | _ => none
/-- a value of one slot -/
def zq_v (S : List Value) (k : Value → List Value → Option β) : Option β := match S with
  | .int x :: S => k (.int x) S
  | .ref x :: S => k (.ref x) S
  | .null :: S => k .null S
  | _ => none
def zq_b (b : Bool) (k : Option β) : Option β := match b with
  | true => k
  | false => none
def zq_n (l : List α) (j : Nat) (k : α → Option β) : Option β := match l[j]? with
  | some v => k v
  | none => none
def zq_o (h : List zO) (a c : Nat) (k : List Value → Option β) : Option β := match h[a]? with
  | some (.inl (c', fs)) => zq_b (Nat.beq c' c) (k fs)
  | _ => none
def zq_a (h : List zO) (a : Nat) (k : List Int32 → Option β) : Option β := match h[a]? with
  | some (.inr (.inl xs)) => k xs
  | _ => none
def zq_z (h : List zO) (a : Nat) (k : List Int32 → Option β) : Option β := match h[a]? with
  | some (.inr (.inr (.inl xs))) => k xs
  | _ => none
def zq_q (h : List zO) (a : Nat) (k : Nat → List (Option Nat) → Option β) : Option β := match h[a]? with
  | some (.inr (.inr (.inr (t, xs)))) => k t xs
  | _ => none
/-- the index of a place in a row -/
def zq_x (i : Int32) (n : Nat) (k : Nat → Option β) : Option β := zq_b (and (decide (0 ≤ i.toInt)) (decide (i.toInt.toNat < n))) (k i.toInt.toNat)
def zq_m (o : Option α) (k : α → Option β) : Option β := match o with
  | some v => k v
  | none => none
end ZQ
/-- a long that begins ahead of a slot is gone when that slot is written -/
def zL_cut (L : zL) (i j : Nat) : Option Value := match L j with
  | some (.long x) => if j + 1 = i then none else some (.long x)
  | w => w
def zL_set (L : zL) (i : Nat) (v : Value) : zL := fun j => if j = i then some v else zL_cut L i j
def zL_set2 (L : zL) (i : Nat) (v : Value) : zL := fun j => if j = i then some v else if j = i + 1 then none else zL_cut L i j
/-- does a value fit: 0 int, 1 boolean, 2 a reference, 3 long -/
def zfit (t : Nat) (v : Value) : Bool := match t, v with
  | 0, .int _ => true
  | 1, .int x => or (x == 0) (x == 1)
  | 2, .ref _ => true
  | 2, .null => true
  | 3, .long _ => true
  | _, _ => false
def zrel (c : Nat) (x y : Int32) : Bool := match c with
  | 0 => decide (x = y)
  | 1 => !(decide (x = y))
  | 2 => decide (x < y)
  | 3 => decide (y ≤ x)
  | 4 => decide (y < x)
  | _ => decide (x ≤ y)
def zisA (h : List zO) (a : Nat) : Bool := match h[a]? with
  | some (.inr (.inl _)) => true
  | _ => false
def zisO (h : List zO) (a c : Nat) : Bool := match h[a]? with
  | some (.inl (c', _)) => Nat.beq c' c
  | _ => false
/-- may it lie in a row of this type -/
def zel (h : List zO) (t : Nat) (v : Value) : Option (Option Nat) := match v with
  | .ref a => cond (cond (Nat.beq t 4) (zisA h a) (zisO h a (zEC t))) (some (some a)) none
  | _ => none
def zrf (v : Option Nat) : Value := match v with
  | some a => .ref a
  | none => .null
/-- a row into another one -/
def zcpy {α : Type} (xs ys : List α) (s d n : Nat) : List α := ys.take d ++ (xs.drop s).take n ++ ys.drop (d + n)
def zallA (h : List zO) (xs : List (Option Nat)) : Bool := xs.all fun v => match v with
  | some k => zisA h k
  | none => true
def zcopy (h : List zO) (a s b d n : Nat) : Option (List zO) := match h[a]?, h[b]? with
  | some (.inr (.inl xs)), some (.inr (.inl ys)) => zq_b (and (decide (s + n ≤ xs.length)) (decide (d + n ≤ ys.length))) (some (h.set b (.inr (.inl (zcpy xs ys s d n)))))
  | some (.inr (.inr (.inr (t, xs)))), some (.inr (.inr (.inr (t', ys)))) => zq_b (and (and (Nat.beq t 4) (Nat.beq t' 4)) (and (and (decide (s + n ≤ xs.length)) (decide (d + n ≤ ys.length))) (zallA h xs))) (some (h.set b (.inr (.inr (.inr (4, zcpy xs ys s d n))))))
  | _, _ => none
abbrev zF : Type := zL → List Value → List zO → Option zT
def zo_push (v : Value) : zF := fun L S h => some (L, v :: S, h)
def zo_ld (t i : Nat) : zF := fun L S h => zq_m (L i) fun v => zq_b (zfit t v) (some (L, v :: S, h))
def zo_st (t i : Nat) : zF := fun L S h => zq_v S fun v S => zq_b (zfit t v) (some (zL_set L i v, S, h))
def zo_lst (i : Nat) : zF := fun L S h => zq_l S fun x S => some (zL_set2 L i (.long x), S, h)
def zo_inc (i : Nat) (v : Int32) : zF := fun L S h => match L i with
  | some (.int x) => some (zL_set L i (.int (x + v)), S, h)
  | _ => none
def zo_bin (f : Int32 → Int32 → Int32) : zF := fun L S h => zq_i S fun y S => zq_i S fun x S => some (L, .int (f x y) :: S, h)
def zo_div (f : Int32 → Int32 → Int32) : zF := fun L S h => zq_i S fun y S => zq_i S fun x S => zq_b (!(decide (y = 0))) (some (L, .int (f x y) :: S, h))
def zo_i2l : zF := fun L S h => zq_i S fun x S => some (L, .long x.toInt64 :: S, h)
def zo_lbin (f : Int64 → Int64 → Int64) : zF := fun L S h => zq_l S fun y S => zq_l S fun x S => some (L, .long (f x y) :: S, h)
def zo_lcmp : zF := fun L S h => zq_l S fun y S => zq_l S fun x S => some (L, .int (lg_cmp x y) :: S, h)
def zo_dup : zF := fun L S h => zq_v S fun v S => some (L, v :: v :: S, h)
def zo_dup2 : zF := fun L S h => zq_v S fun b S => zq_v S fun a S => some (L, b :: a :: b :: a :: S, h)
def zo_pop : zF := fun L S h => zq_v S fun _ S => some (L, S, h)
def zo_get (c f : Nat) : zF := fun L S h => zq_r S fun a S => zq_o h a c fun fs => zq_n fs f fun v => some (L, v :: S, h)
def zo_put (c f z : Nat) : zF := fun L S h => match S with
  | v :: .ref a :: S => zq_b (zfit z v) (zq_o h a c fun fs => zq_b (decide (f < fs.length)) (some (L, S, h.set a (.inl (c, fs.set f v)))))
  | _ => none
def zo_iald (sc : List Int32) : zF := fun L S h => zq_i S fun i S => zq_r S fun a S => cond (Nat.beq a zSC) (zq_x i sc.length fun j => zq_n sc j fun x => some (L, .int x :: S, h)) (zq_a h a fun xs => zq_x i xs.length fun j => zq_n xs j fun x => some (L, .int x :: S, h))
def zo_iast : zF := fun L S h => zq_i S fun v S => zq_i S fun i S => zq_r S fun a S => zq_a h a fun xs => zq_x i xs.length fun j => some (L, S, h.set a (.inr (.inl (xs.set j v))))
def zo_aald : zF := fun L S h => zq_i S fun i S => zq_r S fun a S => zq_q h a fun _ xs => zq_x i xs.length fun j => zq_n xs j fun x => some (L, zrf x :: S, h)
def zo_aast : zF := fun L S h => match S with
  | v :: .int i :: .ref a :: S => zq_q h a fun t xs => zq_x i xs.length fun j => zq_m (zel h t v) fun x => some (L, S, h.set a (.inr (.inr (.inr (t, xs.set j x)))))
  | _ => none
def zlen (o : zO) : Option Nat := match o with
  | .inr (.inl xs) => some xs.length
  | .inr (.inr (.inl xs)) => some xs.length
  | .inr (.inr (.inr (_, xs))) => some xs.length
  | _ => none
def zo_alen (sc : List Int32) : zF := fun L S h => zq_r S fun a S => cond (Nat.beq a zSC) (some (L, .int (Int32.ofNat sc.length) :: S, h)) (zq_m h[a]? fun o => zq_m (zlen o) fun n => some (L, .int (Int32.ofNat n) :: S, h))
def zo_zald : zF := fun L S h => zq_i S fun i S => zq_r S fun a S => zq_z h a fun xs => zq_x i xs.length fun j => zq_n xs j fun x => some (L, .int x :: S, h)
def zo_zast : zF := fun L S h => zq_i S fun v S => zq_i S fun i S => zq_r S fun a S => zq_z h a fun xs => zq_x i xs.length fun j => zq_b (or (v == 0) (v == 1)) (some (L, S, h.set a (.inr (.inr (.inl (xs.set j v))))))
def zo_oini (d : Nat) : zF := fun L S h => zq_r S fun a S => zq_b (and (decide (a < h.length)) (and (Nat.ble 1 d) (Nat.ble S.length 4))) (some (L, S, h))
def zo_copy (d : Nat) : zF := fun L S h => match S with
  | .int n :: .int dp :: .ref b :: .int sp :: .ref a :: S => zq_b (and (and (decide (0 ≤ n.toInt)) (and (decide (0 ≤ dp.toInt)) (decide (0 ≤ sp.toInt)))) (and (Nat.ble 1 d) (Nat.ble S.length 4))) (zq_m (zcopy h a sp.toInt.toNat b dp.toInt.toNat n.toInt.toNat) fun h' => some (L, S, h'))
  | _ => none
/-- an instruction that goes on to the next one and makes no cell -/
def z1a (op x y : Nat) : zF := cond (Nat.ble op 11) (cond (Nat.ble op 3) (cond (Nat.ble op 2) (zo_push (.int (zc x))) (zo_push (.long (zcl x)))) (cond (Nat.ble op 7) (cond (Nat.ble op 5) (zo_push .null) (zo_ld 0 x)) (cond (Nat.ble op 9) (zo_ld 2 x) (zo_ld 3 x))))
  (cond (Nat.ble op 17) (cond (Nat.ble op 15) (zo_st 0 x) (zo_st 2 x)) (cond (Nat.ble op 19) (zo_lst x) (cond (Nat.ble op 22) (zo_inc x (zc y)) (cond (Nat.ble op 23) (zo_bin (· + ·)) (cond (Nat.ble op 24) (zo_bin (· - ·)) (zo_bin (· * ·)))))))
def z1b (op : Nat) : zF := cond (Nat.ble op 29) (cond (Nat.ble op 27) (cond (Nat.ble op 26) (zo_bin (· &&& ·)) (zo_bin (· ||| ·))) (cond (Nat.ble op 28) (zo_bin fun x y => x <<< (y &&& 31)) zo_i2l)) (cond (Nat.ble op 31) (cond (Nat.ble op 30) (zo_lbin (· + ·)) (zo_lbin (· * ·))) (cond (Nat.ble op 32) zo_lcmp (cond (Nat.ble op 34) zo_dup (cond (Nat.ble op 35) zo_dup2 zo_pop))))
def z1c (sc : List Int32) (d op x y z : Nat) : zF := cond (Nat.ble op 41) (cond (Nat.ble op 39) (zo_get x y) (zo_put x y z)) (cond (Nat.ble op 43) (cond (Nat.ble op 42) (zo_iald sc) zo_iast) (cond (Nat.ble op 47) (cond (Nat.ble op 46) zo_aald zo_aast) (cond (Nat.ble op 48) (zo_alen sc) (zo_oini d))))
def z1d (d op x : Nat) : zF := cond (Nat.ble op 105) (cond (Nat.ble op 103) (cond (Nat.ble op 102) (zo_div (· % ·)) (zo_div (· / ·))) (cond (Nat.ble op 104) (zo_bin fun x y => x >>> (y &&& 31)) (zo_bin (· ^^^ ·)))) (cond (Nat.ble op 107) (cond (Nat.ble op 106) (zo_push (.long (zcl x))) zo_zald) (cond (Nat.ble op 109) (cond (Nat.ble op 108) zo_zast (zo_copy d)) (zo_push (.int (zc x)))))
def z1 (sc : List Int32) (d op x y z : Nat) : zF := cond (Nat.ble op 37) (cond (Nat.ble op 25) (z1a op x y) (z1b op)) (cond (Nat.ble op 51) (z1c sc d op x y z) (z1d d op x))
/-- a cell that is new -/
def zdef (t : Nat) (n : Nat) : zO := cond (Nat.beq t 0) (.inr (.inl (List.replicate n 0))) (cond (Nat.beq t 5) (.inr (.inr (.inl (List.replicate n 0)))) (.inr (.inr (.inr (t, List.replicate n none)))))
def zargs : Nat → List Value → zL
  | _, [] => fun _ => none
  | i, v :: as => fun j => if j = i then some v else zargs (i + v.category) as j
def zsz (as : List Value) : Nat := (as.map fun v => v.category).sum
abbrev zX : Type := Nat → List Value → List zO → Option zR
abbrev zN : Type := Nat → zL → List Value → List zO → Nat → Nat → Option zR
def zj (op x z j : Nat) (sw : List (List Nat)) (ih : zN) (L : zL) (S : List Value) (h : List zO) (nc ns : Nat) : Option zR :=
  cond (Nat.ble op 69) (zq_i S fun a S => ih (cond (zrel (op - 64) a 0) x (j + 1)) L S h nc ns)
  (cond (Nat.ble op 75) (zq_i S fun b S => zq_i S fun a S => ih (cond (zrel (op - 70) a b) x (j + 1)) L S h nc ns)
  (cond (Nat.ble op 80) (ih x L S h nc ns)
  (zq_i S fun a S => zq_n sw x fun w => match w with
    | lo :: df :: ts => ih (if a.toInt < (zc lo).toInt then df else ts.getD (a.toInt - (zc lo).toInt).toNat df) L S h nc ns
    | _ => none)))
def zr (op z : Nat) (S : List Value) (h : List zO) (nc ns : Nat) : Option zR := match S with
  | [] => zq_b (Nat.beq op 84) (some (none, h, nc, ns))
  | [v] => zq_b (cond (Nat.beq op 85) (zfit z v) (cond (Nat.beq op 86) (zfit 2 v) (and (Nat.beq op 87) (zfit 3 v)))) (some (some v, h, nc, ns))
  | _ => none
def znew (op x j : Nat) (FD : List (List Value)) (ih : zN) (L : zL) (S : List Value) (h : List zO) (nc ns : Nat) : Option zR :=
  cond (Nat.ble op 56) (zq_n FD x fun fs => ih (j + 1) L (.ref h.length :: S) (h ++ [.inl (x, fs)]) (nc + 1) (ns + fs.length))
    (zq_i S fun m S => zq_b (and (decide (0 ≤ m.toInt)) (decide (m.toInt.toNat ≤ 1048576))) (ih (j + 1) L (.ref h.length :: S) (h ++ [zdef x m.toInt.toNat]) (nc + 1) (ns + m.toInt.toNat)))
def zback (j : Nat) (ih : zN) (L : zL) (S : List Value) (nc ns : Nat) (R : zR) : Option zR := ih (j + 1) L (R.1.toList ++ S) R.2.1 (nc + R.2.2.1) (ns + R.2.2.2)
def zcall (op x y z j : Nat) (X : zX) (ih : zN) (L : zL) (S : List Value) (h : List zO) (nc ns : Nat) : Option zR :=
  zq_b (Nat.ble y S.length) (cond (Nat.ble op 97) (zq_b (Nat.ble (S.drop y).length 4) (zq_m (X x (S.take y).reverse h) (zback j ih L (S.drop y) nc ns)))
    (zq_r (S.drop y) fun a S' => zq_b (and (Nat.ble S'.length 4) (zisO h a z)) (zq_m (X x (.ref a :: (S.take y).reverse) h) (zback j ih L S' nc ns))))
/-- one row -/
def zrow (FD : List (List Value)) (X : zX) (d : Nat) (sc : List Int32) (sw : List (List Nat)) (i : zI) (j : Nat) (ih : zN) (L : zL) (S : List Value) (h : List zO) (nc ns : Nat) : Option zR :=
  cond (or (Nat.ble i.2.2.1 51) (and (Nat.ble 102 i.2.2.1) (Nat.ble i.2.2.1 111))) (zq_m (z1 sc d i.2.2.1 i.2.2.2.1 i.2.2.2.2.1 i.2.2.2.2.2.1 L S h) fun t => ih (j + 1) t.1 t.2.1 t.2.2 nc ns)
  (cond (Nat.ble i.2.2.1 58) (znew i.2.2.1 i.2.2.2.1 j FD ih L S h nc ns)
  (cond (Nat.ble i.2.2.1 81) (zj i.2.2.1 i.2.2.2.1 i.2.2.2.2.2.1 j sw ih L S h nc ns)
  (cond (Nat.ble i.2.2.1 87) (zr i.2.2.1 i.2.2.2.2.2.1 S h nc ns)
  (cond (Nat.ble i.2.2.1 100) (zcall i.2.2.1 i.2.2.2.1 i.2.2.2.2.1 i.2.2.2.2.2.1 j X ih L S h nc ns) none))))
/-- one frame: d is how many calls may stand open below it; j is the row that comes next -/
def zl (FD : List (List Value)) (X : zX) (d : Nat) (sc : List Int32) (code : List zI) (sw : List (List Nat)) : Nat → zN
  | 0, _, _, _, _, _, _ => none
  | n + 1, j, L, S, h, nc, ns => zq_n code j fun i => zrow FD X d sc sw i j (zl FD X d sc code sw n) L S h nc ns
/-- a method, with d calls below it, and so many steps in each frame -/
def zx (FD : List (List Value)) (MT : List (List zM)) (sc : List Int32) (F : Nat) : Nat → zX
  | 0, _, _, _ => none
  | d + 1, k, as, h => zq_n MT (k / 16) fun g => zq_n g (k % 16) fun t => zq_b (Nat.ble (zsz as) t.2.2) (zl FD (zx FD MT sc F d) d sc t.1 t.2.1 F 0 (zargs 0 as) [] h 0 0)
end
