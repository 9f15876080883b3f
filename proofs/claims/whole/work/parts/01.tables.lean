-- ===== PART A: goes FIRST, ahead of the names: the tables' words, and 'selects' of the private methods out of them =====
/-- a private method of a class that the tables say can be made, by its rows of tables_1 -/
def lw_okq (q : MethodName × Nat) : Prop := (q.1.cls ≠ "java/lang/invoke/MethodHandle" ∧ q.1.cls ≠ "java/lang/invoke/VarHandle") ∧ Cond.instantiable q.1.cls q.2 ∈ tables_1 ∧ Cond.privateMethod q.1 ∈ tables_1 ∧ Cond.instanceMethod q.1 ∈ tables_1
theorem lw_p0 : lw_okq (⟨"TideLoans", "finding", "(I)I"⟩, 12) := ⟨⟨by decide +kernel, by decide +kernel⟩, List.mem_of_getElem? (i := 16) (by decide +kernel), List.mem_of_getElem? (i := 219) (by decide +kernel), List.mem_of_getElem? (i := 220) (by decide +kernel)⟩
theorem lw_p1 : lw_okq (⟨"TideLoans", "owedNow", "(LTideLoans$Thing;)I"⟩, 12) := ⟨⟨by decide +kernel, by decide +kernel⟩, List.mem_of_getElem? (i := 16) (by decide +kernel), List.mem_of_getElem? (i := 291) (by decide +kernel), List.mem_of_getElem? (i := 292) (by decide +kernel)⟩
theorem lw_p2 : lw_okq (⟨"TideLoans", "followAll", "(I)V"⟩, 12) := ⟨⟨by decide +kernel, by decide +kernel⟩, List.mem_of_getElem? (i := 16) (by decide +kernel), List.mem_of_getElem? (i := 351) (by decide +kernel), List.mem_of_getElem? (i := 352) (by decide +kernel)⟩
theorem lw_p3 : lw_okq (⟨"TideLoans", "follow", "(II)V"⟩, 12) := ⟨⟨by decide +kernel, by decide +kernel⟩, List.mem_of_getElem? (i := 16) (by decide +kernel), List.mem_of_getElem? (i := 355) (by decide +kernel), List.mem_of_getElem? (i := 356) (by decide +kernel)⟩
theorem lw_p4 : lw_okq (⟨"TideLoans$Way", "waitForTide", "(IIII)V"⟩, 5) := ⟨⟨by decide +kernel, by decide +kernel⟩, List.mem_of_getElem? (i := 129) (by decide +kernel), List.mem_of_getElem? (i := 363) (by decide +kernel), List.mem_of_getElem? (i := 364) (by decide +kernel)⟩
theorem lw_p5 : lw_okq (⟨"TideLoans$Way", "waitForSpring", "(III)V"⟩, 5) := ⟨⟨by decide +kernel, by decide +kernel⟩, List.mem_of_getElem? (i := 129) (by decide +kernel), List.mem_of_getElem? (i := 371) (by decide +kernel), List.mem_of_getElem? (i := 372) (by decide +kernel)⟩
theorem lw_p6 : lw_okq (⟨"TideLoans", "bring", "(LTideLoans$Thing;LTideLoans$Way;)V"⟩, 12) := ⟨⟨by decide +kernel, by decide +kernel⟩, List.mem_of_getElem? (i := 16) (by decide +kernel), List.mem_of_getElem? (i := 382) (by decide +kernel), List.mem_of_getElem? (i := 383) (by decide +kernel)⟩
theorem lw_p7 : lw_okq (⟨"TideLoans", "allOwedNow", "()I"⟩, 12) := ⟨⟨by decide +kernel, by decide +kernel⟩, List.mem_of_getElem? (i := 16) (by decide +kernel), List.mem_of_getElem? (i := 409) (by decide +kernel), List.mem_of_getElem? (i := 410) (by decide +kernel)⟩
theorem lw_p8 : lw_okq (⟨"TideLoans", "purseThen", "(III)I"⟩, 12) := ⟨⟨by decide +kernel, by decide +kernel⟩, List.mem_of_getElem? (i := 16) (by decide +kernel), List.mem_of_getElem? (i := 421) (by decide +kernel), List.mem_of_getElem? (i := 422) (by decide +kernel)⟩
theorem lw_p9 : lw_okq (⟨"TideLoans", "tryOn", "(II)I"⟩, 12) := ⟨⟨by decide +kernel, by decide +kernel⟩, List.mem_of_getElem? (i := 16) (by decide +kernel), List.mem_of_getElem? (i := 443) (by decide +kernel), List.mem_of_getElem? (i := 444) (by decide +kernel)⟩
theorem lw_p10 : lw_okq (⟨"TideLoans", "purseWithTrial", "(III)I"⟩, 12) := ⟨⟨by decide +kernel, by decide +kernel⟩, List.mem_of_getElem? (i := 16) (by decide +kernel), List.mem_of_getElem? (i := 451) (by decide +kernel), List.mem_of_getElem? (i := 452) (by decide +kernel)⟩
theorem lw_p11 : lw_okq (⟨"TideLoans", "followTrial", "(II)V"⟩, 12) := ⟨⟨by decide +kernel, by decide +kernel⟩, List.mem_of_getElem? (i := 16) (by decide +kernel), List.mem_of_getElem? (i := 455) (by decide +kernel), List.mem_of_getElem? (i := 456) (by decide +kernel)⟩
theorem lw_p12 : lw_okq (⟨"TideLoans", "shareOut", "(I)I"⟩, 12) := ⟨⟨by decide +kernel, by decide +kernel⟩, List.mem_of_getElem? (i := 16) (by decide +kernel), List.mem_of_getElem? (i := 479) (by decide +kernel), List.mem_of_getElem? (i := 480) (by decide +kernel)⟩
theorem lw_p13 : lw_okq (⟨"TideLoans", "sureThen", "(I)I"⟩, 12) := ⟨⟨by decide +kernel, by decide +kernel⟩, List.mem_of_getElem? (i := 16) (by decide +kernel), List.mem_of_getElem? (i := 483) (by decide +kernel), List.mem_of_getElem? (i := 484) (by decide +kernel)⟩
theorem lw_p14 : lw_okq (⟨"TideLoans", "sharesOf", "(I)I"⟩, 12) := ⟨⟨by decide +kernel, by decide +kernel⟩, List.mem_of_getElem? (i := 16) (by decide +kernel), List.mem_of_getElem? (i := 487) (by decide +kernel), List.mem_of_getElem? (i := 488) (by decide +kernel)⟩
theorem lw_p15 : lw_okq (⟨"TideLoans", "gainAt", "(I)J"⟩, 12) := ⟨⟨by decide +kernel, by decide +kernel⟩, List.mem_of_getElem? (i := 16) (by decide +kernel), List.mem_of_getElem? (i := 495) (by decide +kernel), List.mem_of_getElem? (i := 496) (by decide +kernel)⟩
def lw_privs_1 : List (MethodName × Nat) := [(⟨"TideLoans", "finding", "(I)I"⟩, 12), (⟨"TideLoans", "owedNow", "(LTideLoans$Thing;)I"⟩, 12), (⟨"TideLoans", "followAll", "(I)V"⟩, 12), (⟨"TideLoans", "follow", "(II)V"⟩, 12), (⟨"TideLoans$Way", "waitForTide", "(IIII)V"⟩, 5), (⟨"TideLoans$Way", "waitForSpring", "(III)V"⟩, 5), (⟨"TideLoans", "bring", "(LTideLoans$Thing;LTideLoans$Way;)V"⟩, 12), (⟨"TideLoans", "allOwedNow", "()I"⟩, 12), (⟨"TideLoans", "purseThen", "(III)I"⟩, 12), (⟨"TideLoans", "tryOn", "(II)I"⟩, 12), (⟨"TideLoans", "purseWithTrial", "(III)I"⟩, 12), (⟨"TideLoans", "followTrial", "(II)V"⟩, 12), (⟨"TideLoans", "shareOut", "(I)I"⟩, 12), (⟨"TideLoans", "sureThen", "(I)I"⟩, 12), (⟨"TideLoans", "sharesOf", "(I)I"⟩, 12), (⟨"TideLoans", "gainAt", "(I)J"⟩, 12)]
theorem lw_r1 : ∀ q ∈ lw_privs_1, lw_okq q := List.forall_mem_cons.mpr ⟨lw_p0, List.forall_mem_cons.mpr ⟨lw_p1, List.forall_mem_cons.mpr ⟨lw_p2, List.forall_mem_cons.mpr ⟨lw_p3, List.forall_mem_cons.mpr ⟨lw_p4, List.forall_mem_cons.mpr ⟨lw_p5, List.forall_mem_cons.mpr ⟨lw_p6, List.forall_mem_cons.mpr ⟨lw_p7, List.forall_mem_cons.mpr ⟨lw_p8, List.forall_mem_cons.mpr ⟨lw_p9, List.forall_mem_cons.mpr ⟨lw_p10, List.forall_mem_cons.mpr ⟨lw_p11, List.forall_mem_cons.mpr ⟨lw_p12, List.forall_mem_cons.mpr ⟨lw_p13, List.forall_mem_cons.mpr ⟨lw_p14, List.forall_mem_cons.mpr ⟨lw_p15, fun _ h => absurd h List.not_mem_nil⟩⟩⟩⟩⟩⟩⟩⟩⟩⟩⟩⟩⟩⟩⟩⟩
theorem lw_p16 : lw_okq (⟨"TideLoans", "readText", "()I"⟩, 12) := ⟨⟨by decide +kernel, by decide +kernel⟩, List.mem_of_getElem? (i := 16) (by decide +kernel), List.mem_of_getElem? (i := 523) (by decide +kernel), List.mem_of_getElem? (i := 524) (by decide +kernel)⟩
theorem lw_p17 : lw_okq (⟨"TideLoans", "readItem", "()Z"⟩, 12) := ⟨⟨by decide +kernel, by decide +kernel⟩, List.mem_of_getElem? (i := 16) (by decide +kernel), List.mem_of_getElem? (i := 538) (by decide +kernel), List.mem_of_getElem? (i := 539) (by decide +kernel)⟩
theorem lw_p18 : lw_okq (⟨"TideLoans", "readThing", "(I)Z"⟩, 12) := ⟨⟨by decide +kernel, by decide +kernel⟩, List.mem_of_getElem? (i := 16) (by decide +kernel), List.mem_of_getElem? (i := 607) (by decide +kernel), List.mem_of_getElem? (i := 608) (by decide +kernel)⟩
theorem lw_p19 : lw_okq (⟨"TideLoans", "readWorth", "(LTideLoans$Thing;)Z"⟩, 12) := ⟨⟨by decide +kernel, by decide +kernel⟩, List.mem_of_getElem? (i := 16) (by decide +kernel), List.mem_of_getElem? (i := 619) (by decide +kernel), List.mem_of_getElem? (i := 620) (by decide +kernel)⟩
theorem lw_p20 : lw_okq (⟨"TideLoans", "readPlace", "(LTideLoans$Thing;)Z"⟩, 12) := ⟨⟨by decide +kernel, by decide +kernel⟩, List.mem_of_getElem? (i := 16) (by decide +kernel), List.mem_of_getElem? (i := 624) (by decide +kernel), List.mem_of_getElem? (i := 625) (by decide +kernel)⟩
theorem lw_p21 : lw_okq (⟨"TideLoans", "readHeight", "()Z"⟩, 12) := ⟨⟨by decide +kernel, by decide +kernel⟩, List.mem_of_getElem? (i := 16) (by decide +kernel), List.mem_of_getElem? (i := 630) (by decide +kernel), List.mem_of_getElem? (i := 631) (by decide +kernel)⟩
theorem lw_p22 : lw_okq (⟨"TideLoans", "readInterest", "()Z"⟩, 12) := ⟨⟨by decide +kernel, by decide +kernel⟩, List.mem_of_getElem? (i := 16) (by decide +kernel), List.mem_of_getElem? (i := 635) (by decide +kernel), List.mem_of_getElem? (i := 636) (by decide +kernel)⟩
theorem lw_p23 : lw_okq (⟨"TideLoans", "plotCourse", "(III)V"⟩, 12) := ⟨⟨by decide +kernel, by decide +kernel⟩, List.mem_of_getElem? (i := 16) (by decide +kernel), List.mem_of_getElem? (i := 682) (by decide +kernel), List.mem_of_getElem? (i := 683) (by decide +kernel)⟩
theorem lw_p24 : lw_okq (⟨"TideLoans", "addToCourse", "(III)V"⟩, 12) := ⟨⟨by decide +kernel, by decide +kernel⟩, List.mem_of_getElem? (i := 16) (by decide +kernel), List.mem_of_getElem? (i := 686) (by decide +kernel), List.mem_of_getElem? (i := 687) (by decide +kernel)⟩
theorem lw_p25 : lw_okq (⟨"TideLoans", "cellsThatFit", "(LTideLoans$Sheet;II)I"⟩, 12) := ⟨⟨by decide +kernel, by decide +kernel⟩, List.mem_of_getElem? (i := 16) (by decide +kernel), List.mem_of_getElem? (i := 694) (by decide +kernel), List.mem_of_getElem? (i := 695) (by decide +kernel)⟩
theorem lw_p26 : lw_okq (⟨"TideLoans", "isCourseWith", "(LTideLoans$Sheet;II)Z"⟩, 12) := ⟨⟨by decide +kernel, by decide +kernel⟩, List.mem_of_getElem? (i := 16) (by decide +kernel), List.mem_of_getElem? (i := 698) (by decide +kernel), List.mem_of_getElem? (i := 699) (by decide +kernel)⟩
theorem lw_p27 : lw_okq (⟨"TideLoansModel", "becomes", "(II)I"⟩, 16) := ⟨⟨by decide +kernel, by decide +kernel⟩, List.mem_of_getElem? (i := 726) (by decide +kernel), List.mem_of_getElem? (i := 792) (by decide +kernel), List.mem_of_getElem? (i := 793) (by decide +kernel)⟩
theorem lw_p28 : lw_okq (⟨"TideLoansModel", "finds", "(I)I"⟩, 16) := ⟨⟨by decide +kernel, by decide +kernel⟩, List.mem_of_getElem? (i := 726) (by decide +kernel), List.mem_of_getElem? (i := 797) (by decide +kernel), List.mem_of_getElem? (i := 798) (by decide +kernel)⟩
theorem lw_p29 : lw_okq (⟨"TideLoansModel", "laidAt", "(I)I"⟩, 16) := ⟨⟨by decide +kernel, by decide +kernel⟩, List.mem_of_getElem? (i := 726) (by decide +kernel), List.mem_of_getElem? (i := 805) (by decide +kernel), List.mem_of_getElem? (i := 806) (by decide +kernel)⟩
theorem lw_p30 : lw_okq (⟨"TideLoansModel", "isIt", "(II)Z"⟩, 16) := ⟨⟨by decide +kernel, by decide +kernel⟩, List.mem_of_getElem? (i := 726) (by decide +kernel), List.mem_of_getElem? (i := 809) (by decide +kernel), List.mem_of_getElem? (i := 810) (by decide +kernel)⟩
theorem lw_p31 : lw_okq (⟨"TideLoansModel", "its", "(II)I"⟩, 16) := ⟨⟨by decide +kernel, by decide +kernel⟩, List.mem_of_getElem? (i := 726) (by decide +kernel), List.mem_of_getElem? (i := 813) (by decide +kernel), List.mem_of_getElem? (i := 814) (by decide +kernel)⟩
def lw_privs_2 : List (MethodName × Nat) := [(⟨"TideLoans", "readText", "()I"⟩, 12), (⟨"TideLoans", "readItem", "()Z"⟩, 12), (⟨"TideLoans", "readThing", "(I)Z"⟩, 12), (⟨"TideLoans", "readWorth", "(LTideLoans$Thing;)Z"⟩, 12), (⟨"TideLoans", "readPlace", "(LTideLoans$Thing;)Z"⟩, 12), (⟨"TideLoans", "readHeight", "()Z"⟩, 12), (⟨"TideLoans", "readInterest", "()Z"⟩, 12), (⟨"TideLoans", "plotCourse", "(III)V"⟩, 12), (⟨"TideLoans", "addToCourse", "(III)V"⟩, 12), (⟨"TideLoans", "cellsThatFit", "(LTideLoans$Sheet;II)I"⟩, 12), (⟨"TideLoans", "isCourseWith", "(LTideLoans$Sheet;II)Z"⟩, 12), (⟨"TideLoansModel", "becomes", "(II)I"⟩, 16), (⟨"TideLoansModel", "finds", "(I)I"⟩, 16), (⟨"TideLoansModel", "laidAt", "(I)I"⟩, 16), (⟨"TideLoansModel", "isIt", "(II)Z"⟩, 16), (⟨"TideLoansModel", "its", "(II)I"⟩, 16)]
theorem lw_r2 : ∀ q ∈ lw_privs_2, lw_okq q := List.forall_mem_cons.mpr ⟨lw_p16, List.forall_mem_cons.mpr ⟨lw_p17, List.forall_mem_cons.mpr ⟨lw_p18, List.forall_mem_cons.mpr ⟨lw_p19, List.forall_mem_cons.mpr ⟨lw_p20, List.forall_mem_cons.mpr ⟨lw_p21, List.forall_mem_cons.mpr ⟨lw_p22, List.forall_mem_cons.mpr ⟨lw_p23, List.forall_mem_cons.mpr ⟨lw_p24, List.forall_mem_cons.mpr ⟨lw_p25, List.forall_mem_cons.mpr ⟨lw_p26, List.forall_mem_cons.mpr ⟨lw_p27, List.forall_mem_cons.mpr ⟨lw_p28, List.forall_mem_cons.mpr ⟨lw_p29, List.forall_mem_cons.mpr ⟨lw_p30, List.forall_mem_cons.mpr ⟨lw_p31, fun _ h => absurd h List.not_mem_nil⟩⟩⟩⟩⟩⟩⟩⟩⟩⟩⟩⟩⟩⟩⟩⟩
theorem lw_p32 : lw_okq (⟨"TideLoansModel", "comes", "(II)V"⟩, 16) := ⟨⟨by decide +kernel, by decide +kernel⟩, List.mem_of_getElem? (i := 726) (by decide +kernel), List.mem_of_getElem? (i := 848) (by decide +kernel), List.mem_of_getElem? (i := 849) (by decide +kernel)⟩
theorem lw_p33 : lw_okq (⟨"TideLoansModel", "isThing", "(I)Z"⟩, 16) := ⟨⟨by decide +kernel, by decide +kernel⟩, List.mem_of_getElem? (i := 726) (by decide +kernel), List.mem_of_getElem? (i := 859) (by decide +kernel), List.mem_of_getElem? (i := 860) (by decide +kernel)⟩
theorem lw_p34 : lw_okq (⟨"TideLoansModel", "wouldRepay", "(I)I"⟩, 16) := ⟨⟨by decide +kernel, by decide +kernel⟩, List.mem_of_getElem? (i := 726) (by decide +kernel), List.mem_of_getElem? (i := 867) (by decide +kernel), List.mem_of_getElem? (i := 868) (by decide +kernel)⟩
theorem lw_p35 : lw_okq (⟨"TideLoansModel", "repays", "(II)I"⟩, 16) := ⟨⟨by decide +kernel, by decide +kernel⟩, List.mem_of_getElem? (i := 726) (by decide +kernel), List.mem_of_getElem? (i := 871) (by decide +kernel), List.mem_of_getElem? (i := 872) (by decide +kernel)⟩
theorem lw_p36 : lw_okq (⟨"TideLoansModel", "lies", "(II)V"⟩, 16) := ⟨⟨by decide +kernel, by decide +kernel⟩, List.mem_of_getElem? (i := 726) (by decide +kernel), List.mem_of_getElem? (i := 897) (by decide +kernel), List.mem_of_getElem? (i := 898) (by decide +kernel)⟩
theorem lw_p37 : lw_okq (⟨"TideLoansModel", "goes", "(I)V"⟩, 16) := ⟨⟨by decide +kernel, by decide +kernel⟩, List.mem_of_getElem? (i := 726) (by decide +kernel), List.mem_of_getElem? (i := 914) (by decide +kernel), List.mem_of_getElem? (i := 915) (by decide +kernel)⟩
theorem lw_p38 : lw_okq (⟨"TideLoansModel", "day", "()V"⟩, 16) := ⟨⟨by decide +kernel, by decide +kernel⟩, List.mem_of_getElem? (i := 726) (by decide +kernel), List.mem_of_getElem? (i := 918) (by decide +kernel), List.mem_of_getElem? (i := 919) (by decide +kernel)⟩
theorem lw_p39 : lw_okq (⟨"TideLoansModel", "comesHome", "(II)V"⟩, 16) := ⟨⟨by decide +kernel, by decide +kernel⟩, List.mem_of_getElem? (i := 726) (by decide +kernel), List.mem_of_getElem? (i := 922) (by decide +kernel), List.mem_of_getElem? (i := 923) (by decide +kernel)⟩
theorem lw_p40 : lw_okq (⟨"TideLoansModel", "isTaken", "(I)Z"⟩, 16) := ⟨⟨by decide +kernel, by decide +kernel⟩, List.mem_of_getElem? (i := 726) (by decide +kernel), List.mem_of_getElem? (i := 926) (by decide +kernel), List.mem_of_getElem? (i := 927) (by decide +kernel)⟩
theorem lw_p41 : lw_okq (⟨"TideLoansModel", "purses", "()J"⟩, 16) := ⟨⟨by decide +kernel, by decide +kernel⟩, List.mem_of_getElem? (i := 726) (by decide +kernel), List.mem_of_getElem? (i := 930) (by decide +kernel), List.mem_of_getElem? (i := 931) (by decide +kernel)⟩
theorem lw_p42 : lw_okq (⟨"TideLoansModel", "thoseThatAre", "(I)I"⟩, 16) := ⟨⟨by decide +kernel, by decide +kernel⟩, List.mem_of_getElem? (i := 726) (by decide +kernel), List.mem_of_getElem? (i := 938) (by decide +kernel), List.mem_of_getElem? (i := 939) (by decide +kernel)⟩
theorem lw_p43 : lw_okq (⟨"TideLoansModel", "purseOn", "(II)I"⟩, 16) := ⟨⟨by decide +kernel, by decide +kernel⟩, List.mem_of_getElem? (i := 726) (by decide +kernel), List.mem_of_getElem? (i := 946) (by decide +kernel), List.mem_of_getElem? (i := 947) (by decide +kernel)⟩
theorem lw_p44 : lw_okq (⟨"TideLoansModel", "whenIt", "(II)I"⟩, 16) := ⟨⟨by decide +kernel, by decide +kernel⟩, List.mem_of_getElem? (i := 726) (by decide +kernel), List.mem_of_getElem? (i := 957) (by decide +kernel), List.mem_of_getElem? (i := 958) (by decide +kernel)⟩
theorem lw_p45 : lw_okq (⟨"TideLoansModel", "orNone", "(I)I"⟩, 16) := ⟨⟨by decide +kernel, by decide +kernel⟩, List.mem_of_getElem? (i := 726) (by decide +kernel), List.mem_of_getElem? (i := 961) (by decide +kernel), List.mem_of_getElem? (i := 962) (by decide +kernel)⟩
theorem lw_p46 : lw_okq (⟨"TideLoansModel", "pursesOn", "(I)J"⟩, 16) := ⟨⟨by decide +kernel, by decide +kernel⟩, List.mem_of_getElem? (i := 726) (by decide +kernel), List.mem_of_getElem? (i := 979) (by decide +kernel), List.mem_of_getElem? (i := 980) (by decide +kernel)⟩
theorem lw_p47 : lw_okq (⟨"TideLoansModel", "nextToken", "()V"⟩, 16) := ⟨⟨by decide +kernel, by decide +kernel⟩, List.mem_of_getElem? (i := 726) (by decide +kernel), List.mem_of_getElem? (i := 1022) (by decide +kernel), List.mem_of_getElem? (i := 1023) (by decide +kernel)⟩
def lw_privs_3 : List (MethodName × Nat) := [(⟨"TideLoansModel", "comes", "(II)V"⟩, 16), (⟨"TideLoansModel", "isThing", "(I)Z"⟩, 16), (⟨"TideLoansModel", "wouldRepay", "(I)I"⟩, 16), (⟨"TideLoansModel", "repays", "(II)I"⟩, 16), (⟨"TideLoansModel", "lies", "(II)V"⟩, 16), (⟨"TideLoansModel", "goes", "(I)V"⟩, 16), (⟨"TideLoansModel", "day", "()V"⟩, 16), (⟨"TideLoansModel", "comesHome", "(II)V"⟩, 16), (⟨"TideLoansModel", "isTaken", "(I)Z"⟩, 16), (⟨"TideLoansModel", "purses", "()J"⟩, 16), (⟨"TideLoansModel", "thoseThatAre", "(I)I"⟩, 16), (⟨"TideLoansModel", "purseOn", "(II)I"⟩, 16), (⟨"TideLoansModel", "whenIt", "(II)I"⟩, 16), (⟨"TideLoansModel", "orNone", "(I)I"⟩, 16), (⟨"TideLoansModel", "pursesOn", "(I)J"⟩, 16), (⟨"TideLoansModel", "nextToken", "()V"⟩, 16)]
theorem lw_r3 : ∀ q ∈ lw_privs_3, lw_okq q := List.forall_mem_cons.mpr ⟨lw_p32, List.forall_mem_cons.mpr ⟨lw_p33, List.forall_mem_cons.mpr ⟨lw_p34, List.forall_mem_cons.mpr ⟨lw_p35, List.forall_mem_cons.mpr ⟨lw_p36, List.forall_mem_cons.mpr ⟨lw_p37, List.forall_mem_cons.mpr ⟨lw_p38, List.forall_mem_cons.mpr ⟨lw_p39, List.forall_mem_cons.mpr ⟨lw_p40, List.forall_mem_cons.mpr ⟨lw_p41, List.forall_mem_cons.mpr ⟨lw_p42, List.forall_mem_cons.mpr ⟨lw_p43, List.forall_mem_cons.mpr ⟨lw_p44, List.forall_mem_cons.mpr ⟨lw_p45, List.forall_mem_cons.mpr ⟨lw_p46, List.forall_mem_cons.mpr ⟨lw_p47, fun _ h => absurd h List.not_mem_nil⟩⟩⟩⟩⟩⟩⟩⟩⟩⟩⟩⟩⟩⟩⟩⟩
theorem lw_p48 : lw_okq (⟨"TideLoansModel", "byteAt", "(I)I"⟩, 16) := ⟨⟨by decide +kernel, by decide +kernel⟩, List.mem_of_getElem? (i := 726) (by decide +kernel), List.mem_of_getElem? (i := 1026) (by decide +kernel), List.mem_of_getElem? (i := 1027) (by decide +kernel)⟩
theorem lw_p49 : lw_okq (⟨"TideLoansModel", "itemHere", "()Z"⟩, 16) := ⟨⟨by decide +kernel, by decide +kernel⟩, List.mem_of_getElem? (i := 726) (by decide +kernel), List.mem_of_getElem? (i := 1036) (by decide +kernel), List.mem_of_getElem? (i := 1037) (by decide +kernel)⟩
theorem lw_p50 : lw_okq (⟨"TideLoansModel", "kindHere", "()I"⟩, 16) := ⟨⟨by decide +kernel, by decide +kernel⟩, List.mem_of_getElem? (i := 726) (by decide +kernel), List.mem_of_getElem? (i := 1040) (by decide +kernel), List.mem_of_getElem? (i := 1041) (by decide +kernel)⟩
theorem lw_p51 : lw_okq (⟨"TideLoansModel", "isFive", "(IIIII)Z"⟩, 16) := ⟨⟨by decide +kernel, by decide +kernel⟩, List.mem_of_getElem? (i := 726) (by decide +kernel), List.mem_of_getElem? (i := 1044) (by decide +kernel), List.mem_of_getElem? (i := 1045) (by decide +kernel)⟩
theorem lw_p52 : lw_okq (⟨"TideLoansModel", "isWord", "(I)Z"⟩, 16) := ⟨⟨by decide +kernel, by decide +kernel⟩, List.mem_of_getElem? (i := 726) (by decide +kernel), List.mem_of_getElem? (i := 1048) (by decide +kernel), List.mem_of_getElem? (i := 1049) (by decide +kernel)⟩
theorem lw_p53 : lw_okq (⟨"TideLoansModel", "has3", "(IIII)Z"⟩, 16) := ⟨⟨by decide +kernel, by decide +kernel⟩, List.mem_of_getElem? (i := 726) (by decide +kernel), List.mem_of_getElem? (i := 1052) (by decide +kernel), List.mem_of_getElem? (i := 1053) (by decide +kernel)⟩
theorem lw_p54 : lw_okq (⟨"TideLoansModel", "isSix", "(IIIIII)Z"⟩, 16) := ⟨⟨by decide +kernel, by decide +kernel⟩, List.mem_of_getElem? (i := 726) (by decide +kernel), List.mem_of_getElem? (i := 1056) (by decide +kernel), List.mem_of_getElem? (i := 1057) (by decide +kernel)⟩
theorem lw_p55 : lw_okq (⟨"TideLoansModel", "thingHere", "(I)Z"⟩, 16) := ⟨⟨by decide +kernel, by decide +kernel⟩, List.mem_of_getElem? (i := 726) (by decide +kernel), List.mem_of_getElem? (i := 1060) (by decide +kernel), List.mem_of_getElem? (i := 1061) (by decide +kernel)⟩
theorem lw_p56 : lw_okq (⟨"TideLoansModel", "fails", "()Z"⟩, 16) := ⟨⟨by decide +kernel, by decide +kernel⟩, List.mem_of_getElem? (i := 726) (by decide +kernel), List.mem_of_getElem? (i := 1064) (by decide +kernel), List.mem_of_getElem? (i := 1065) (by decide +kernel)⟩
theorem lw_p57 : lw_okq (⟨"TideLoansModel", "isTwo", "(II)Z"⟩, 16) := ⟨⟨by decide +kernel, by decide +kernel⟩, List.mem_of_getElem? (i := 726) (by decide +kernel), List.mem_of_getElem? (i := 1068) (by decide +kernel), List.mem_of_getElem? (i := 1069) (by decide +kernel)⟩
theorem lw_p58 : lw_okq (⟨"TideLoansModel", "isNumber", "(II)Z"⟩, 16) := ⟨⟨by decide +kernel, by decide +kernel⟩, List.mem_of_getElem? (i := 726) (by decide +kernel), List.mem_of_getElem? (i := 1072) (by decide +kernel), List.mem_of_getElem? (i := 1073) (by decide +kernel)⟩
theorem lw_p59 : lw_okq (⟨"TideLoansModel", "heightHere", "()Z"⟩, 16) := ⟨⟨by decide +kernel, by decide +kernel⟩, List.mem_of_getElem? (i := 726) (by decide +kernel), List.mem_of_getElem? (i := 1076) (by decide +kernel), List.mem_of_getElem? (i := 1077) (by decide +kernel)⟩
theorem lw_p60 : lw_okq (⟨"TideLoansModel", "interestHere", "()Z"⟩, 16) := ⟨⟨by decide +kernel, by decide +kernel⟩, List.mem_of_getElem? (i := 726) (by decide +kernel), List.mem_of_getElem? (i := 1080) (by decide +kernel), List.mem_of_getElem? (i := 1081) (by decide +kernel)⟩
theorem lw_p61 : lw_okq (⟨"TideLoansModel", "wants", "(I)I"⟩, 16) := ⟨⟨by decide +kernel, by decide +kernel⟩, List.mem_of_getElem? (i := 726) (by decide +kernel), List.mem_of_getElem? (i := 1108) (by decide +kernel), List.mem_of_getElem? (i := 1109) (by decide +kernel)⟩
theorem lw_p62 : lw_okq (⟨"TideLoansModel", "isTold", "(II)Z"⟩, 16) := ⟨⟨by decide +kernel, by decide +kernel⟩, List.mem_of_getElem? (i := 726) (by decide +kernel), List.mem_of_getElem? (i := 1120) (by decide +kernel), List.mem_of_getElem? (i := 1121) (by decide +kernel)⟩
def lw_privs_4 : List (MethodName × Nat) := [(⟨"TideLoansModel", "byteAt", "(I)I"⟩, 16), (⟨"TideLoansModel", "itemHere", "()Z"⟩, 16), (⟨"TideLoansModel", "kindHere", "()I"⟩, 16), (⟨"TideLoansModel", "isFive", "(IIIII)Z"⟩, 16), (⟨"TideLoansModel", "isWord", "(I)Z"⟩, 16), (⟨"TideLoansModel", "has3", "(IIII)Z"⟩, 16), (⟨"TideLoansModel", "isSix", "(IIIIII)Z"⟩, 16), (⟨"TideLoansModel", "thingHere", "(I)Z"⟩, 16), (⟨"TideLoansModel", "fails", "()Z"⟩, 16), (⟨"TideLoansModel", "isTwo", "(II)Z"⟩, 16), (⟨"TideLoansModel", "isNumber", "(II)Z"⟩, 16), (⟨"TideLoansModel", "heightHere", "()Z"⟩, 16), (⟨"TideLoansModel", "interestHere", "()Z"⟩, 16), (⟨"TideLoansModel", "wants", "(I)I"⟩, 16), (⟨"TideLoansModel", "isTold", "(II)Z"⟩, 16)]
theorem lw_r4 : ∀ q ∈ lw_privs_4, lw_okq q := List.forall_mem_cons.mpr ⟨lw_p48, List.forall_mem_cons.mpr ⟨lw_p49, List.forall_mem_cons.mpr ⟨lw_p50, List.forall_mem_cons.mpr ⟨lw_p51, List.forall_mem_cons.mpr ⟨lw_p52, List.forall_mem_cons.mpr ⟨lw_p53, List.forall_mem_cons.mpr ⟨lw_p54, List.forall_mem_cons.mpr ⟨lw_p55, List.forall_mem_cons.mpr ⟨lw_p56, List.forall_mem_cons.mpr ⟨lw_p57, List.forall_mem_cons.mpr ⟨lw_p58, List.forall_mem_cons.mpr ⟨lw_p59, List.forall_mem_cons.mpr ⟨lw_p60, List.forall_mem_cons.mpr ⟨lw_p61, List.forall_mem_cons.mpr ⟨lw_p62, fun _ h => absurd h List.not_mem_nil⟩⟩⟩⟩⟩⟩⟩⟩⟩⟩⟩⟩⟩⟩⟩
def lw_privs : List (MethodName × Nat) := lw_privs_1 ++ (lw_privs_2 ++ (lw_privs_3 ++ (lw_privs_4)))
def lw_tbl : List Cond := k2_sels lw_privs ++ tables_1
theorem lw_privs_ok : ∀ q ∈ lw_privs, lw_okq q := by
  show ∀ q ∈ lw_privs_1 ++ (lw_privs_2 ++ (lw_privs_3 ++ (lw_privs_4))), lw_okq q
  exact List.forall_mem_append.mpr ⟨lw_r1, List.forall_mem_append.mpr ⟨lw_r2, List.forall_mem_append.mpr ⟨lw_r3, lw_r4⟩⟩⟩
def R_Sheet : String := "TideLoans$Sheet"
def R_Shore : String := "TideLoans$Shore"
def R_Tape : String := "TideLoans$Tape"
def R_Thing : String := "TideLoans$Thing"
def R_Way : String := "TideLoans$Way"
def R_Tide : String := "TideLoans"
def R_Model : String := "TideLoansModel"
def R_Integer : String := "java/lang/Integer"
def R_String : String := "java/lang/String"
def R_Latin : String := "java/lang/StringLatin1"
def R_Utf : String := "java/lang/StringUTF16"
def R_Math : String := "java/lang/Math"
def R_Pre : String := "jdk/internal/util/Preconditions"
def T_Sheet : u_T := fun k => match k with
  | 0 => ("TideLoans$Sheet", "numbers", "[J", true)
  | 1 => ("TideLoans$Sheet", "bits", "I", false)
  | _ => ("TideLoans$Sheet", "size", "I", false)
def ty_Sheet : Nat → FieldType := fun k => match k with
  | 0 => .array .long
  | 1 => .int
  | _ => .int
theorem nm_Sheet : ∀ a, a < 3 → ∀ b, b < 3 → a ≠ b → (T_Sheet a).2.1 ≠ (T_Sheet b).2.1 := by decide +kernel
theorem tyok_Sheet : ∀ k, k < 3 → parseFieldDescriptor (T_Sheet k).2.2.1 = some (ty_Sheet k) := by decide +kernel
def T_Shore : u_T := fun k => match k with
  | 0 => ("TideLoans$Shore", "heights", "[I", true)
  | 1 => ("TideLoans$Shore", "purses", "[I", true)
  | 2 => ("TideLoans$Shore", "things", "[LTideLoans$Thing;", true)
  | 3 => ("TideLoans$Shore", "size", "I", false)
  | 4 => ("TideLoans$Shore", "day", "I", false)
  | _ => ("TideLoans$Shore", "interest", "I", false)
def ty_Shore : Nat → FieldType := fun k => match k with
  | 0 => .array .int
  | 1 => .array .int
  | 2 => .array (.object "TideLoans$Thing")
  | 3 => .int
  | 4 => .int
  | _ => .int
theorem nm_Shore : ∀ a, a < 6 → ∀ b, b < 6 → a ≠ b → (T_Shore a).2.1 ≠ (T_Shore b).2.1 := by decide +kernel
theorem tyok_Shore : ∀ k, k < 6 → parseFieldDescriptor (T_Shore k).2.2.1 = some (ty_Shore k) := by decide +kernel
def T_Tape : u_T := fun k => match k with
  | 0 => ("TideLoans$Tape", "bytes", "[B", true)
  | 1 => ("TideLoans$Tape", "length", "I", false)
  | 2 => ("TideLoans$Tape", "token", "I", false)
  | 3 => ("TideLoans$Tape", "start", "I", false)
  | 4 => ("TideLoans$Tape", "next", "I", false)
  | _ => ("TideLoans$Tape", "number", "I", false)
def ty_Tape : Nat → FieldType := fun k => match k with
  | 0 => .array .byte
  | 1 => .int
  | 2 => .int
  | 3 => .int
  | 4 => .int
  | _ => .int
theorem nm_Tape : ∀ a, a < 6 → ∀ b, b < 6 → a ≠ b → (T_Tape a).2.1 ≠ (T_Tape b).2.1 := by decide +kernel
theorem tyok_Tape : ∀ k, k < 6 → parseFieldDescriptor (T_Tape k).2.2.1 = some (ty_Tape k) := by decide +kernel
def T_Thing : u_T := fun k => match k with
  | 0 => ("TideLoans$Thing", "kind", "I", false)
  | 1 => ("TideLoans$Thing", "family", "I", false)
  | 2 => ("TideLoans$Thing", "cell", "I", false)
  | 3 => ("TideLoans$Thing", "worth", "I", false)
  | 4 => ("TideLoans$Thing", "state", "I", false)
  | _ => ("TideLoans$Thing", "since", "I", false)
def ty_Thing : Nat → FieldType := fun k => match k with
  | 0 => .int
  | 1 => .int
  | 2 => .int
  | 3 => .int
  | 4 => .int
  | _ => .int
theorem nm_Thing : ∀ a, a < 6 → ∀ b, b < 6 → a ≠ b → (T_Thing a).2.1 ≠ (T_Thing b).2.1 := by decide +kernel
theorem tyok_Thing : ∀ k, k < 6 → parseFieldDescriptor (T_Thing k).2.2.1 = some (ty_Thing k) := by decide +kernel
def T_Way : u_T := fun k => match k with
  | 0 => ("TideLoans$Way", "lentIn", "I", false)
  | 1 => ("TideLoans$Way", "homeIn", "I", false)
  | 2 => ("TideLoans$Way", "away", "I", false)
  | 3 => ("TideLoans$Way", "state", "I", false)
  | _ => ("TideLoans$Way", "since", "I", false)
def ty_Way : Nat → FieldType := fun k => match k with
  | 0 => .int
  | 1 => .int
  | 2 => .int
  | 3 => .int
  | _ => .int
theorem nm_Way : ∀ a, a < 5 → ∀ b, b < 5 → a ≠ b → (T_Way a).2.1 ≠ (T_Way b).2.1 := by decide +kernel
theorem tyok_Way : ∀ k, k < 5 → parseFieldDescriptor (T_Way k).2.2.1 = some (ty_Way k) := by decide +kernel
def T_Tide : u_T := fun k => match k with
  | 0 => ("TideLoans", "found", "[I", true)
  | 1 => ("TideLoans", "live", "LTideLoans$Shore;", true)
  | 2 => ("TideLoans", "kept", "LTideLoans$Shore;", true)
  | 3 => ("TideLoans", "draft", "LTideLoans$Shore;", true)
  | 4 => ("TideLoans", "tape", "LTideLoans$Tape;", true)
  | 5 => ("TideLoans", "sheets", "[LTideLoans$Sheet;", true)
  | 6 => ("TideLoans", "ways", "[LTideLoans$Way;", true)
  | 7 => ("TideLoans", "shares", "[I", true)
  | 8 => ("TideLoans", "course", "[I", true)
  | 9 => ("TideLoans", "trial", "LTideLoans$Thing;", true)
  | 10 => ("TideLoans", "trialWay", "LTideLoans$Way;", true)
  | _ => ("TideLoans", "isKept", "Z", false)
def ty_Tide : Nat → FieldType := fun k => match k with
  | 0 => .array .int
  | 1 => .object "TideLoans$Shore"
  | 2 => .object "TideLoans$Shore"
  | 3 => .object "TideLoans$Shore"
  | 4 => .object "TideLoans$Tape"
  | 5 => .array (.object "TideLoans$Sheet")
  | 6 => .array (.object "TideLoans$Way")
  | 7 => .array .int
  | 8 => .array .int
  | 9 => .object "TideLoans$Thing"
  | 10 => .object "TideLoans$Way"
  | _ => .boolean
theorem nm_Tide : ∀ a, a < 12 → ∀ b, b < 12 → a ≠ b → (T_Tide a).2.1 ≠ (T_Tide b).2.1 := by decide +kernel
theorem tyok_Tide : ∀ k, k < 12 → parseFieldDescriptor (T_Tide k).2.2.1 = some (ty_Tide k) := by decide +kernel
def T_Model : u_T := fun k => match k with
  | 0 => ("TideLoansModel", "s", "[I", true)
  | 1 => ("TideLoansModel", "kept", "[I", true)
  | 2 => ("TideLoansModel", "before", "[I", true)
  | 3 => ("TideLoansModel", "aside", "[I", true)
  | 4 => ("TideLoansModel", "isKept", "Z", false)
  | 5 => ("TideLoansModel", "findings", "[I", true)
  | 6 => ("TideLoansModel", "tape", "[I", true)
  | 7 => ("TideLoansModel", "taped", "I", false)
  | 8 => ("TideLoansModel", "bitsOf", "[I", true)
  | 9 => ("TideLoansModel", "sizes", "[I", true)
  | 10 => ("TideLoansModel", "numbers", "[J", true)
  | 11 => ("TideLoansModel", "token", "I", false)
  | 12 => ("TideLoansModel", "from", "I", false)
  | 13 => ("TideLoansModel", "to", "I", false)
  | 14 => ("TideLoansModel", "value", "I", false)
  | _ => ("TideLoansModel", "faultAt", "I", false)
def ty_Model : Nat → FieldType := fun k => match k with
  | 0 => .array .int
  | 1 => .array .int
  | 2 => .array .int
  | 3 => .array .int
  | 4 => .boolean
  | 5 => .array .int
  | 6 => .array .int
  | 7 => .int
  | 8 => .array .int
  | 9 => .array .int
  | 10 => .array .long
  | 11 => .int
  | 12 => .int
  | 13 => .int
  | 14 => .int
  | _ => .int
theorem nm_Model : ∀ a, a < 16 → ∀ b, b < 16 → a ≠ b → (T_Model a).2.1 ≠ (T_Model b).2.1 := by decide +kernel
theorem tyok_Model : ∀ k, k < 16 → parseFieldDescriptor (T_Model k).2.2.1 = some (ty_Model k) := by decide +kernel
abbrev c_Sheet_init : ByteArray := prog_2_method_1_code
def y_Sheet_init : MethodName := ⟨R_Sheet, "<init>", "()V"⟩
abbrev c_Sheet_isMissing : ByteArray := prog_2_method_2_code
def y_Sheet_isMissing : MethodName := ⟨R_Sheet, "isMissing", "()Z"⟩
abbrev c_Sheet_renew : ByteArray := prog_2_method_3_code
def y_Sheet_renew : MethodName := ⟨R_Sheet, "renew", "(II)V"⟩
abbrev c_Sheet_put : ByteArray := prog_2_method_4_code
def y_Sheet_put : MethodName := ⟨R_Sheet, "put", "(IJ)V"⟩
abbrev c_Sheet_hasRun : ByteArray := prog_2_method_5_code
def y_Sheet_hasRun : MethodName := ⟨R_Sheet, "hasRun", "(II)Z"⟩
abbrev c_Shore_init : ByteArray := prog_3_method_1_code
def y_Shore_init : MethodName := ⟨R_Shore, "<init>", "()V"⟩
abbrev c_Shore_become : ByteArray := prog_3_method_2_code
def y_Shore_become : MethodName := ⟨R_Shore, "become", "(LTideLoans$Shore;)V"⟩
abbrev c_Shore_has : ByteArray := prog_3_method_3_code
def y_Shore_has : MethodName := ⟨R_Shore, "has", "(I)Z"⟩
abbrev c_Shore_isFull : ByteArray := prog_3_method_4_code
def y_Shore_isFull : MethodName := ⟨R_Shore, "isFull", "()Z"⟩
abbrev c_Shore_add : ByteArray := prog_3_method_5_code
def y_Shore_add : MethodName := ⟨R_Shore, "add", "(II)I"⟩
abbrev c_Shore_laidAt : ByteArray := prog_3_method_6_code
def y_Shore_laidAt : MethodName := ⟨R_Shore, "laidAt", "(I)I"⟩
abbrev c_Shore_allIn : ByteArray := prog_3_method_7_code
def y_Shore_allIn : MethodName := ⟨R_Shore, "allIn", "(I)I"⟩
abbrev c_Shore_allWorth : ByteArray := prog_3_method_8_code
def y_Shore_allWorth : MethodName := ⟨R_Shore, "allWorth", "()I"⟩
abbrev c_Shore_allHeights : ByteArray := prog_3_method_9_code
def y_Shore_allHeights : MethodName := ⟨R_Shore, "allHeights", "()I"⟩
abbrev c_Shore_cellsBelow : ByteArray := prog_3_method_10_code
def y_Shore_cellsBelow : MethodName := ⟨R_Shore, "cellsBelow", "(I)I"⟩
abbrev c_Shore_allPurses : ByteArray := prog_3_method_11_code
def y_Shore_allPurses : MethodName := ⟨R_Shore, "allPurses", "()J"⟩
abbrev c_Tape_init : ByteArray := prog_4_method_1_code
def y_Tape_init : MethodName := ⟨R_Tape, "<init>", "()V"⟩
abbrev c_Tape_put : ByteArray := prog_4_method_2_code
def y_Tape_put : MethodName := ⟨R_Tape, "put", "(B)V"⟩
abbrev c_Tape_rewind : ByteArray := prog_4_method_3_code
def y_Tape_rewind : MethodName := ⟨R_Tape, "rewind", "()V"⟩
abbrev c_Tape_step : ByteArray := prog_4_method_4_code
def y_Tape_step : MethodName := ⟨R_Tape, "step", "()V"⟩
abbrev c_Tape_tokenOf : ByteArray := prog_4_method_5_code
def y_Tape_tokenOf : MethodName := ⟨R_Tape, "tokenOf", "(B)I"⟩
abbrev c_Tape_isNumberTo : ByteArray := prog_4_method_6_code
def y_Tape_isNumberTo : MethodName := ⟨R_Tape, "isNumberTo", "(I)Z"⟩
abbrev c_Tape_isWord : ByteArray := prog_4_method_7_code
def y_Tape_isWord : MethodName := ⟨R_Tape, "isWord", "(Ljava/lang/String;)Z"⟩
abbrev c_Tape_kindNamed : ByteArray := prog_4_method_8_code
def y_Tape_kindNamed : MethodName := ⟨R_Tape, "kindNamed", "()I"⟩
abbrev c_Tape_nameOf : ByteArray := prog_4_method_9_code
def y_Tape_nameOf : MethodName := ⟨R_Tape, "nameOf", "(I)Ljava/lang/String;"⟩
abbrev c_Thing_init : ByteArray := prog_5_method_1_code
def y_Thing_init : MethodName := ⟨R_Thing, "<init>", "()V"⟩
abbrev c_Thing_begin : ByteArray := prog_5_method_2_code
def y_Thing_begin : MethodName := ⟨R_Thing, "begin", "(II)V"⟩
abbrev c_Thing_layAt : ByteArray := prog_5_method_3_code
def y_Thing_layAt : MethodName := ⟨R_Thing, "layAt", "(I)V"⟩
abbrev c_Thing_become : ByteArray := prog_5_method_4_code
def y_Thing_become : MethodName := ⟨R_Thing, "become", "(LTideLoans$Thing;)V"⟩
abbrev c_Way_init : ByteArray := prog_6_method_1_code
def y_Way_init : MethodName := ⟨R_Way, "<init>", "()V"⟩
abbrev c_Way_follow : ByteArray := prog_6_method_2_code
def y_Way_follow : MethodName := ⟨R_Way, "follow", "(LTideLoans$Thing;III)V"⟩
abbrev c_Way_waitForTide : ByteArray := prog_6_method_3_code
def y_Way_waitForTide : MethodName := ⟨R_Way, "waitForTide", "(IIII)V"⟩
abbrev c_Way_waitForSpring : ByteArray := prog_6_method_4_code
def y_Way_waitForSpring : MethodName := ⟨R_Way, "waitForSpring", "(III)V"⟩
abbrev c_Way_brings : ByteArray := prog_6_method_5_code
def y_Way_brings : MethodName := ⟨R_Way, "brings", "(LTideLoans$Thing;I)I"⟩
abbrev c_Tide_init : ByteArray := prog_1_method_1_code
def y_Tide_init : MethodName := ⟨R_Tide, "<init>", "()V"⟩
abbrev c_Tide_height : ByteArray := prog_1_method_2_code
def y_Tide_height : MethodName := ⟨R_Tide, "height", "(II)I"⟩
abbrev c_Tide_cell : ByteArray := prog_1_method_3_code
def y_Tide_cell : MethodName := ⟨R_Tide, "cell", "(II)I"⟩
abbrev c_Tide_interest : ByteArray := prog_1_method_4_code
def y_Tide_interest : MethodName := ⟨R_Tide, "interest", "(I)I"⟩
abbrev c_Tide_tide : ByteArray := prog_1_method_5_code
def y_Tide_tide : MethodName := ⟨R_Tide, "tide", "(II)I"⟩
abbrev c_Tide_purse : ByteArray := prog_1_method_6_code
def y_Tide_purse : MethodName := ⟨R_Tide, "purse", "(II)I"⟩
abbrev c_Tide_thing : ByteArray := prog_1_method_7_code
def y_Tide_thing : MethodName := ⟨R_Tide, "thing", "(II)I"⟩
abbrev c_Tide_of : ByteArray := prog_1_method_8_code
def y_Tide_of : MethodName := ⟨R_Tide, "of", "(II)I"⟩
abbrev c_Tide_set : ByteArray := prog_1_method_9_code
def y_Tide_set : MethodName := ⟨R_Tide, "set", "(III)I"⟩
abbrev c_Tide_turn : ByteArray := prog_1_method_10_code
def y_Tide_turn : MethodName := ⟨R_Tide, "turn", "(II)I"⟩
abbrev c_Tide_as : ByteArray := prog_1_method_11_code
def y_Tide_as : MethodName := ⟨R_Tide, "as", "(II)I"⟩
abbrev c_Tide_lay : ByteArray := prog_1_method_12_code
def y_Tide_lay : MethodName := ⟨R_Tide, "lay", "(II)I"⟩
abbrev c_Tide_fetch : ByteArray := prog_1_method_13_code
def y_Tide_fetch : MethodName := ⟨R_Tide, "fetch", "(I)I"⟩
abbrev c_Tide_days : ByteArray := prog_1_method_14_code
def y_Tide_days : MethodName := ⟨R_Tide, "days", "(I)J"⟩
abbrev c_Tide_now : ByteArray := prog_1_method_15_code
def y_Tide_now : MethodName := ⟨R_Tide, "now", "(I)I"⟩
abbrev c_Tide_on : ByteArray := prog_1_method_16_code
def y_Tide_on : MethodName := ⟨R_Tide, "on", "(II)I"⟩
abbrev c_Tide_taken : ByteArray := prog_1_method_17_code
def y_Tide_taken : MethodName := ⟨R_Tide, "taken", "(I)I"⟩
abbrev c_Tide_home : ByteArray := prog_1_method_18_code
def y_Tide_home : MethodName := ⟨R_Tide, "home", "(I)I"⟩
abbrev c_Tide_due : ByteArray := prog_1_method_19_code
def y_Tide_due : MethodName := ⟨R_Tide, "due", "()I"⟩
abbrev c_Tide_spot : ByteArray := prog_1_method_20_code
def y_Tide_spot : MethodName := ⟨R_Tide, "spot", "(II)I"⟩
abbrev c_Tide_delay : ByteArray := prog_1_method_21_code
def y_Tide_delay : MethodName := ⟨R_Tide, "delay", "(III)I"⟩
abbrev c_Tide_kind : ByteArray := prog_1_method_22_code
def y_Tide_kind : MethodName := ⟨R_Tide, "kind", "(II)I"⟩
abbrev c_Tide_worth : ByteArray := prog_1_method_23_code
def y_Tide_worth : MethodName := ⟨R_Tide, "worth", "(III)I"⟩
abbrev c_Tide_richest : ByteArray := prog_1_method_24_code
def y_Tide_richest : MethodName := ⟨R_Tide, "richest", "(I)I"⟩
abbrev c_Tide_fewest : ByteArray := prog_1_method_25_code
def y_Tide_fewest : MethodName := ⟨R_Tide, "fewest", "(III)I"⟩
abbrev c_Tide_rate : ByteArray := prog_1_method_26_code
def y_Tide_rate : MethodName := ⟨R_Tide, "rate", "(II)I"⟩
abbrev c_Tide_feed : ByteArray := prog_1_method_27_code
def y_Tide_feed : MethodName := ⟨R_Tide, "feed", "(II)I"⟩
abbrev c_Tide_wipe : ByteArray := prog_1_method_28_code
def y_Tide_wipe : MethodName := ⟨R_Tide, "wipe", "()I"⟩
abbrev c_Tide_shore : ByteArray := prog_1_method_29_code
def y_Tide_shore : MethodName := ⟨R_Tide, "shore", "()I"⟩
abbrev c_Tide_sheet : ByteArray := prog_1_method_30_code
def y_Tide_sheet : MethodName := ⟨R_Tide, "sheet", "(III)I"⟩
abbrev c_Tide_write : ByteArray := prog_1_method_31_code
def y_Tide_write : MethodName := ⟨R_Tide, "write", "(IIJ)J"⟩
abbrev c_Tide_copy : ByteArray := prog_1_method_32_code
def y_Tide_copy : MethodName := ⟨R_Tide, "copy", "(IIIII)I"⟩
abbrev c_Tide_lays : ByteArray := prog_1_method_33_code
def y_Tide_lays : MethodName := ⟨R_Tide, "lays", "(I)I"⟩
abbrev c_Tide_book : ByteArray := prog_1_method_34_code
def y_Tide_book : MethodName := ⟨R_Tide, "book", "(II)I"⟩
abbrev c_Tide_read : ByteArray := prog_1_method_35_code
def y_Tide_read : MethodName := ⟨R_Tide, "read", "(III)I"⟩
abbrev c_Tide_image : ByteArray := prog_1_method_36_code
def y_Tide_image : MethodName := ⟨R_Tide, "image", "()I"⟩
abbrev c_Tide_undo : ByteArray := prog_1_method_37_code
def y_Tide_undo : MethodName := ⟨R_Tide, "undo", "()I"⟩
abbrev c_Tide_tear : ByteArray := prog_1_method_38_code
def y_Tide_tear : MethodName := ⟨R_Tide, "tear", "()I"⟩
abbrev c_Tide_count : ByteArray := prog_1_method_39_code
def y_Tide_count : MethodName := ⟨R_Tide, "count", "(I)I"⟩
abbrev c_Tide_status : ByteArray := prog_1_method_40_code
def y_Tide_status : MethodName := ⟨R_Tide, "status", "(I)I"⟩
abbrev c_Tide_finding : ByteArray := prog_1_method_41_code
def y_Tide_finding : MethodName := ⟨R_Tide, "finding", "(I)I"⟩
abbrev c_Tide_isBelow : ByteArray := prog_1_method_42_code
def y_Tide_isBelow : MethodName := ⟨R_Tide, "isBelow", "(II)Z"⟩
abbrev c_Tide_isUpTo : ByteArray := prog_1_method_43_code
def y_Tide_isUpTo : MethodName := ⟨R_Tide, "isUpTo", "(III)Z"⟩
abbrev c_Tide_isWidth : ByteArray := prog_1_method_44_code
def y_Tide_isWidth : MethodName := ⟨R_Tide, "isWidth", "(I)Z"⟩
abbrev c_Tide_moonOf : ByteArray := prog_1_method_45_code
def y_Tide_moonOf : MethodName := ⟨R_Tide, "moonOf", "(I)I"⟩
abbrev c_Tide_isSpring : ByteArray := prog_1_method_46_code
def y_Tide_isSpring : MethodName := ⟨R_Tide, "isSpring", "(I)Z"⟩
abbrev c_Tide_markOf : ByteArray := prog_1_method_47_code
def y_Tide_markOf : MethodName := ⟨R_Tide, "markOf", "(I)I"⟩
abbrev c_Tide_springFrom : ByteArray := prog_1_method_48_code
def y_Tide_springFrom : MethodName := ⟨R_Tide, "springFrom", "(I)I"⟩
abbrev c_Tide_kindAbove : ByteArray := prog_1_method_49_code
def y_Tide_kindAbove : MethodName := ⟨R_Tide, "kindAbove", "(I)I"⟩
abbrev c_Tide_isUnder : ByteArray := prog_1_method_50_code
def y_Tide_isUnder : MethodName := ⟨R_Tide, "isUnder", "(II)Z"⟩
abbrev c_Tide_isTaken : ByteArray := prog_1_method_51_code
def y_Tide_isTaken : MethodName := ⟨R_Tide, "isTaken", "(III)Z"⟩
abbrev c_Tide_termOf : ByteArray := prog_1_method_52_code
def y_Tide_termOf : MethodName := ⟨R_Tide, "termOf", "(I)I"⟩
abbrev c_Tide_broughtAs : ByteArray := prog_1_method_53_code
def y_Tide_broughtAs : MethodName := ⟨R_Tide, "broughtAs", "(IJI)J"⟩
abbrev c_Tide_repaid : ByteArray := prog_1_method_54_code
def y_Tide_repaid : MethodName := ⟨R_Tide, "repaid", "(LTideLoans$Thing;III)I"⟩
abbrev c_Tide_owedNow : ByteArray := prog_1_method_55_code
def y_Tide_owedNow : MethodName := ⟨R_Tide, "owedNow", "(LTideLoans$Thing;)I"⟩
abbrev c_Tide_allOwedNow : ByteArray := prog_1_method_56_code
def y_Tide_allOwedNow : MethodName := ⟨R_Tide, "allOwedNow", "()I"⟩
abbrev c_Tide_filled : ByteArray := prog_1_method_57_code
def y_Tide_filled : MethodName := ⟨R_Tide, "filled", "(II)I"⟩
abbrev c_Tide_follow : ByteArray := prog_1_method_58_code
def y_Tide_follow : MethodName := ⟨R_Tide, "follow", "(II)V"⟩
abbrev c_Tide_followAll : ByteArray := prog_1_method_59_code
def y_Tide_followAll : MethodName := ⟨R_Tide, "followAll", "(I)V"⟩
abbrev c_Tide_bring : ByteArray := prog_1_method_60_code
def y_Tide_bring : MethodName := ⟨R_Tide, "bring", "(LTideLoans$Thing;LTideLoans$Way;)V"⟩
abbrev c_Tide_purseThen : ByteArray := prog_1_method_61_code
def y_Tide_purseThen : MethodName := ⟨R_Tide, "purseThen", "(III)I"⟩
abbrev c_Tide_gainAt : ByteArray := prog_1_method_62_code
def y_Tide_gainAt : MethodName := ⟨R_Tide, "gainAt", "(I)J"⟩
abbrev c_Tide_tryOn : ByteArray := prog_1_method_63_code
def y_Tide_tryOn : MethodName := ⟨R_Tide, "tryOn", "(II)I"⟩
abbrev c_Tide_followTrial : ByteArray := prog_1_method_64_code
def y_Tide_followTrial : MethodName := ⟨R_Tide, "followTrial", "(II)V"⟩
abbrev c_Tide_purseWithTrial : ByteArray := prog_1_method_65_code
def y_Tide_purseWithTrial : MethodName := ⟨R_Tide, "purseWithTrial", "(III)I"⟩
abbrev c_Tide_shareOut : ByteArray := prog_1_method_66_code
def y_Tide_shareOut : MethodName := ⟨R_Tide, "shareOut", "(I)I"⟩
abbrev c_Tide_sharesOf : ByteArray := prog_1_method_67_code
def y_Tide_sharesOf : MethodName := ⟨R_Tide, "sharesOf", "(I)I"⟩
abbrev c_Tide_sureThen : ByteArray := prog_1_method_68_code
def y_Tide_sureThen : MethodName := ⟨R_Tide, "sureThen", "(I)I"⟩
abbrev c_Tide_plotCourse : ByteArray := prog_1_method_69_code
def y_Tide_plotCourse : MethodName := ⟨R_Tide, "plotCourse", "(III)V"⟩
abbrev c_Tide_addToCourse : ByteArray := prog_1_method_70_code
def y_Tide_addToCourse : MethodName := ⟨R_Tide, "addToCourse", "(III)V"⟩
abbrev c_Tide_cellsThatFit : ByteArray := prog_1_method_71_code
def y_Tide_cellsThatFit : MethodName := ⟨R_Tide, "cellsThatFit", "(LTideLoans$Sheet;II)I"⟩
abbrev c_Tide_isCourseWith : ByteArray := prog_1_method_72_code
def y_Tide_isCourseWith : MethodName := ⟨R_Tide, "isCourseWith", "(LTideLoans$Sheet;II)Z"⟩
abbrev c_Tide_readText : ByteArray := prog_1_method_73_code
def y_Tide_readText : MethodName := ⟨R_Tide, "readText", "()I"⟩
abbrev c_Tide_readItem : ByteArray := prog_1_method_74_code
def y_Tide_readItem : MethodName := ⟨R_Tide, "readItem", "()Z"⟩
abbrev c_Tide_readThing : ByteArray := prog_1_method_75_code
def y_Tide_readThing : MethodName := ⟨R_Tide, "readThing", "(I)Z"⟩
abbrev c_Tide_readWorth : ByteArray := prog_1_method_76_code
def y_Tide_readWorth : MethodName := ⟨R_Tide, "readWorth", "(LTideLoans$Thing;)Z"⟩
abbrev c_Tide_readPlace : ByteArray := prog_1_method_77_code
def y_Tide_readPlace : MethodName := ⟨R_Tide, "readPlace", "(LTideLoans$Thing;)Z"⟩
abbrev c_Tide_readHeight : ByteArray := prog_1_method_78_code
def y_Tide_readHeight : MethodName := ⟨R_Tide, "readHeight", "()Z"⟩
abbrev c_Tide_readInterest : ByteArray := prog_1_method_79_code
def y_Tide_readInterest : MethodName := ⟨R_Tide, "readInterest", "()Z"⟩
abbrev c_Model_init : ByteArray := prog_8_method_1_code
def y_Model_init : MethodName := ⟨R_Model, "<init>", "()V"⟩
abbrev c_Model_isIn : ByteArray := prog_8_method_2_code
def y_Model_isIn : MethodName := ⟨R_Model, "isIn", "(JJJ)Z"⟩
abbrev c_Model_finds : ByteArray := prog_8_method_3_code
def y_Model_finds : MethodName := ⟨R_Model, "finds", "(I)I"⟩
abbrev c_Model_becomes : ByteArray := prog_8_method_4_code
def y_Model_becomes : MethodName := ⟨R_Model, "becomes", "(II)I"⟩
abbrev c_Model_copyRow : ByteArray := prog_8_method_5_code
def y_Model_copyRow : MethodName := ⟨R_Model, "copyRow", "([I[I)V"⟩
abbrev c_Model_isCell : ByteArray := prog_8_method_6_code
def y_Model_isCell : MethodName := ⟨R_Model, "isCell", "(I)Z"⟩
abbrev c_Model_isFamily : ByteArray := prog_8_method_7_code
def y_Model_isFamily : MethodName := ⟨R_Model, "isFamily", "(I)Z"⟩
abbrev c_Model_isThing : ByteArray := prog_8_method_8_code
def y_Model_isThing : MethodName := ⟨R_Model, "isThing", "(I)Z"⟩
abbrev c_Model_at : ByteArray := prog_8_method_9_code
def y_Model_at : MethodName := ⟨R_Model, "at", "(II)I"⟩
abbrev c_Model_its : ByteArray := prog_8_method_10_code
def y_Model_its : MethodName := ⟨R_Model, "its", "(II)I"⟩
abbrev c_Model_isIt : ByteArray := prog_8_method_11_code
def y_Model_isIt : MethodName := ⟨R_Model, "isIt", "(II)Z"⟩
abbrev c_Model_orNone : ByteArray := prog_8_method_12_code
def y_Model_orNone : MethodName := ⟨R_Model, "orNone", "(I)I"⟩
abbrev c_Model_many : ByteArray := prog_8_method_13_code
def y_Model_many : MethodName := ⟨R_Model, "many", "(I)I"⟩
abbrev c_Model_height : ByteArray := prog_8_method_14_code
def y_Model_height : MethodName := ⟨R_Model, "height", "(II)I"⟩
abbrev c_Model_laidAt : ByteArray := prog_8_method_15_code
def y_Model_laidAt : MethodName := ⟨R_Model, "laidAt", "(I)I"⟩
abbrev c_Model_cell : ByteArray := prog_8_method_16_code
def y_Model_cell : MethodName := ⟨R_Model, "cell", "(II)I"⟩
abbrev c_Model_interest : ByteArray := prog_8_method_17_code
def y_Model_interest : MethodName := ⟨R_Model, "interest", "(I)I"⟩
abbrev c_Model_isSpring : ByteArray := prog_8_method_18_code
def y_Model_isSpring : MethodName := ⟨R_Model, "isSpring", "(I)Z"⟩
abbrev c_Model_mark : ByteArray := prog_8_method_19_code
def y_Model_mark : MethodName := ⟨R_Model, "mark", "(I)I"⟩
abbrev c_Model_tide : ByteArray := prog_8_method_20_code
def y_Model_tide : MethodName := ⟨R_Model, "tide", "(II)I"⟩
abbrev c_Model_purse : ByteArray := prog_8_method_21_code
def y_Model_purse : MethodName := ⟨R_Model, "purse", "(II)I"⟩
abbrev c_Model_comes : ByteArray := prog_8_method_22_code
def y_Model_comes : MethodName := ⟨R_Model, "comes", "(II)V"⟩
abbrev c_Model_thing : ByteArray := prog_8_method_23_code
def y_Model_thing : MethodName := ⟨R_Model, "thing", "(II)I"⟩
abbrev c_Model_term : ByteArray := prog_8_method_24_code
def y_Model_term : MethodName := ⟨R_Model, "term", "(I)I"⟩
abbrev c_Model_repays : ByteArray := prog_8_method_25_code
def y_Model_repays : MethodName := ⟨R_Model, "repays", "(II)I"⟩
abbrev c_Model_wouldRepay : ByteArray := prog_8_method_26_code
def y_Model_wouldRepay : MethodName := ⟨R_Model, "wouldRepay", "(I)I"⟩
abbrev c_Model_of : ByteArray := prog_8_method_27_code
def y_Model_of : MethodName := ⟨R_Model, "of", "(II)I"⟩
abbrev c_Model_set : ByteArray := prog_8_method_28_code
def y_Model_set : MethodName := ⟨R_Model, "set", "(III)I"⟩
abbrev c_Model_turn : ByteArray := prog_8_method_29_code
def y_Model_turn : MethodName := ⟨R_Model, "turn", "(II)I"⟩
abbrev c_Model_as : ByteArray := prog_8_method_30_code
def y_Model_as : MethodName := ⟨R_Model, "as", "(II)I"⟩
abbrev c_Model_lies : ByteArray := prog_8_method_31_code
def y_Model_lies : MethodName := ⟨R_Model, "lies", "(II)V"⟩
abbrev c_Model_lay : ByteArray := prog_8_method_32_code
def y_Model_lay : MethodName := ⟨R_Model, "lay", "(II)I"⟩
abbrev c_Model_fetch : ByteArray := prog_8_method_33_code
def y_Model_fetch : MethodName := ⟨R_Model, "fetch", "(I)I"⟩
abbrev c_Model_isTaken : ByteArray := prog_8_method_34_code
def y_Model_isTaken : MethodName := ⟨R_Model, "isTaken", "(I)Z"⟩
abbrev c_Model_comesHome : ByteArray := prog_8_method_35_code
def y_Model_comesHome : MethodName := ⟨R_Model, "comesHome", "(II)V"⟩
abbrev c_Model_day : ByteArray := prog_8_method_36_code
def y_Model_day : MethodName := ⟨R_Model, "day", "()V"⟩
abbrev c_Model_goes : ByteArray := prog_8_method_37_code
def y_Model_goes : MethodName := ⟨R_Model, "goes", "(I)V"⟩
abbrev c_Model_purses : ByteArray := prog_8_method_38_code
def y_Model_purses : MethodName := ⟨R_Model, "purses", "()J"⟩
abbrev c_Model_days : ByteArray := prog_8_method_39_code
def y_Model_days : MethodName := ⟨R_Model, "days", "(I)J"⟩
abbrev c_Model_thoseThatAre : ByteArray := prog_8_method_40_code
def y_Model_thoseThatAre : MethodName := ⟨R_Model, "thoseThatAre", "(I)I"⟩
abbrev c_Model_now : ByteArray := prog_8_method_41_code
def y_Model_now : MethodName := ⟨R_Model, "now", "(I)I"⟩
abbrev c_Model_purseOn : ByteArray := prog_8_method_42_code
def y_Model_purseOn : MethodName := ⟨R_Model, "purseOn", "(II)I"⟩
abbrev c_Model_on : ByteArray := prog_8_method_43_code
def y_Model_on : MethodName := ⟨R_Model, "on", "(II)I"⟩
abbrev c_Model_whenIt : ByteArray := prog_8_method_44_code
def y_Model_whenIt : MethodName := ⟨R_Model, "whenIt", "(II)I"⟩
abbrev c_Model_taken : ByteArray := prog_8_method_45_code
def y_Model_taken : MethodName := ⟨R_Model, "taken", "(I)I"⟩
abbrev c_Model_home : ByteArray := prog_8_method_46_code
def y_Model_home : MethodName := ⟨R_Model, "home", "(I)I"⟩
abbrev c_Model_due : ByteArray := prog_8_method_47_code
def y_Model_due : MethodName := ⟨R_Model, "due", "()I"⟩
abbrev c_Model_pursesOn : ByteArray := prog_8_method_48_code
def y_Model_pursesOn : MethodName := ⟨R_Model, "pursesOn", "(I)J"⟩
abbrev c_Model_spot : ByteArray := prog_8_method_49_code
def y_Model_spot : MethodName := ⟨R_Model, "spot", "(II)I"⟩
abbrev c_Model_delay : ByteArray := prog_8_method_50_code
def y_Model_delay : MethodName := ⟨R_Model, "delay", "(III)I"⟩
abbrev c_Model_kind : ByteArray := prog_8_method_51_code
def y_Model_kind : MethodName := ⟨R_Model, "kind", "(II)I"⟩
abbrev c_Model_worth : ByteArray := prog_8_method_52_code
def y_Model_worth : MethodName := ⟨R_Model, "worth", "(III)I"⟩
abbrev c_Model_richest : ByteArray := prog_8_method_53_code
def y_Model_richest : MethodName := ⟨R_Model, "richest", "(I)I"⟩
abbrev c_Model_fewest : ByteArray := prog_8_method_54_code
def y_Model_fewest : MethodName := ⟨R_Model, "fewest", "(III)I"⟩
abbrev c_Model_rate : ByteArray := prog_8_method_55_code
def y_Model_rate : MethodName := ⟨R_Model, "rate", "(II)I"⟩
abbrev c_Model_feed : ByteArray := prog_8_method_56_code
def y_Model_feed : MethodName := ⟨R_Model, "feed", "(II)I"⟩
abbrev c_Model_wipe : ByteArray := prog_8_method_57_code
def y_Model_wipe : MethodName := ⟨R_Model, "wipe", "()I"⟩
abbrev c_Model_isLetter : ByteArray := prog_8_method_58_code
def y_Model_isLetter : MethodName := ⟨R_Model, "isLetter", "(I)Z"⟩
abbrev c_Model_isDigit : ByteArray := prog_8_method_59_code
def y_Model_isDigit : MethodName := ⟨R_Model, "isDigit", "(I)Z"⟩
abbrev c_Model_byteAt : ByteArray := prog_8_method_60_code
def y_Model_byteAt : MethodName := ⟨R_Model, "byteAt", "(I)I"⟩
abbrev c_Model_nextToken : ByteArray := prog_8_method_61_code
def y_Model_nextToken : MethodName := ⟨R_Model, "nextToken", "()V"⟩
abbrev c_Model_has3 : ByteArray := prog_8_method_62_code
def y_Model_has3 : MethodName := ⟨R_Model, "has3", "(IIII)Z"⟩
abbrev c_Model_isWord : ByteArray := prog_8_method_63_code
def y_Model_isWord : MethodName := ⟨R_Model, "isWord", "(I)Z"⟩
abbrev c_Model_fails : ByteArray := prog_8_method_64_code
def y_Model_fails : MethodName := ⟨R_Model, "fails", "()Z"⟩
abbrev c_Model_isFive : ByteArray := prog_8_method_66_code
def y_Model_isFive : MethodName := ⟨R_Model, "isFive", "(IIIII)Z"⟩
abbrev c_Model_isSix : ByteArray := prog_8_method_67_code
def y_Model_isSix : MethodName := ⟨R_Model, "isSix", "(IIIIII)Z"⟩
abbrev c_Model_kindHere : ByteArray := prog_8_method_68_code
def y_Model_kindHere : MethodName := ⟨R_Model, "kindHere", "()I"⟩
abbrev c_Model_isNumber : ByteArray := prog_8_method_69_code
def y_Model_isNumber : MethodName := ⟨R_Model, "isNumber", "(II)Z"⟩
abbrev c_Model_isTwo : ByteArray := prog_8_method_70_code
def y_Model_isTwo : MethodName := ⟨R_Model, "isTwo", "(II)Z"⟩
abbrev c_Model_thingHere : ByteArray := prog_8_method_71_code
def y_Model_thingHere : MethodName := ⟨R_Model, "thingHere", "(I)Z"⟩
abbrev c_Model_heightHere : ByteArray := prog_8_method_72_code
def y_Model_heightHere : MethodName := ⟨R_Model, "heightHere", "()Z"⟩
abbrev c_Model_interestHere : ByteArray := prog_8_method_73_code
def y_Model_interestHere : MethodName := ⟨R_Model, "interestHere", "()Z"⟩
abbrev c_Model_itemHere : ByteArray := prog_8_method_74_code
def y_Model_itemHere : MethodName := ⟨R_Model, "itemHere", "()Z"⟩
abbrev c_Model_shore : ByteArray := prog_8_method_75_code
def y_Model_shore : MethodName := ⟨R_Model, "shore", "()I"⟩
abbrev c_Model_isSheet : ByteArray := prog_8_method_76_code
def y_Model_isSheet : MethodName := ⟨R_Model, "isSheet", "(I)Z"⟩
abbrev c_Model_narrow : ByteArray := prog_8_method_77_code
def y_Model_narrow : MethodName := ⟨R_Model, "narrow", "(IJ)J"⟩
abbrev c_Model_sheet : ByteArray := prog_8_method_78_code
def y_Model_sheet : MethodName := ⟨R_Model, "sheet", "(III)I"⟩
abbrev c_Model_write : ByteArray := prog_8_method_79_code
def y_Model_write : MethodName := ⟨R_Model, "write", "(IIJ)J"⟩
abbrev c_Model_copy : ByteArray := prog_8_method_80_code
def y_Model_copy : MethodName := ⟨R_Model, "copy", "(IIIII)I"⟩
abbrev c_Model_wants : ByteArray := prog_8_method_81_code
def y_Model_wants : MethodName := ⟨R_Model, "wants", "(I)I"⟩
abbrev c_Model_lays : ByteArray := prog_8_method_82_code
def y_Model_lays : MethodName := ⟨R_Model, "lays", "(I)I"⟩
abbrev c_Model_book : ByteArray := prog_8_method_83_code
def y_Model_book : MethodName := ⟨R_Model, "book", "(II)I"⟩
abbrev c_Model_isTold : ByteArray := prog_8_method_84_code
def y_Model_isTold : MethodName := ⟨R_Model, "isTold", "(II)Z"⟩
abbrev c_Model_read : ByteArray := prog_8_method_85_code
def y_Model_read : MethodName := ⟨R_Model, "read", "(III)I"⟩
abbrev c_Model_image : ByteArray := prog_8_method_86_code
def y_Model_image : MethodName := ⟨R_Model, "image", "()I"⟩
abbrev c_Model_undo : ByteArray := prog_8_method_87_code
def y_Model_undo : MethodName := ⟨R_Model, "undo", "()I"⟩
abbrev c_Model_tear : ByteArray := prog_8_method_88_code
def y_Model_tear : MethodName := ⟨R_Model, "tear", "()I"⟩
abbrev c_Model_count : ByteArray := prog_8_method_89_code
def y_Model_count : MethodName := ⟨R_Model, "count", "(I)I"⟩
abbrev c_Model_status : ByteArray := prog_8_method_90_code
def y_Model_status : MethodName := ⟨R_Model, "status", "(I)I"⟩
abbrev c_Integer_bitCount : ByteArray := prog_9_method_49_code
def y_Integer_bitCount : MethodName := ⟨R_Integer, "bitCount", "(I)I"⟩
abbrev c_Math_max : ByteArray := prog_10_method_65_code
def y_Math_max : MethodName := ⟨R_Math, "max", "(II)I"⟩
abbrev c_Math_min : ByteArray := prog_10_method_69_code
def y_Math_min : MethodName := ⟨R_Math, "min", "(II)I"⟩
abbrev c_Math_minL : ByteArray := prog_10_method_70_code
def y_Math_minL : MethodName := ⟨R_Math, "min", "(JJ)J"⟩
abbrev c_String_length : ByteArray := prog_11_method_54_code
def y_String_length : MethodName := ⟨R_String, "length", "()I"⟩
abbrev c_String_charAt : ByteArray := prog_11_method_56_code
def y_String_charAt : MethodName := ⟨R_String, "charAt", "(I)C"⟩
abbrev c_String_coder : ByteArray := prog_11_method_152_code
def y_String_coder : MethodName := ⟨R_String, "coder", "()B"⟩
abbrev c_String_isLatin1 : ByteArray := prog_11_method_154_code
def y_String_isLatin1 : MethodName := ⟨R_String, "isLatin1", "()Z"⟩
abbrev c_String_checkIndex : ByteArray := prog_11_method_155_code
def y_String_checkIndex : MethodName := ⟨R_String, "checkIndex", "(II)V"⟩
abbrev c_Latin_charAt : ByteArray := prog_12_method_2_code
def y_Latin_charAt : MethodName := ⟨R_Latin, "charAt", "([BI)C"⟩
abbrev c_Utf_getChar : ByteArray := prog_13_method_5_code
def y_Utf_getChar : MethodName := ⟨R_Utf, "getChar", "([BI)C"⟩
abbrev c_Utf_length : ByteArray := prog_13_method_6_code
def y_Utf_length : MethodName := ⟨R_Utf, "length", "([B)I"⟩
abbrev c_Utf_charAt : ByteArray := prog_13_method_83_code
def y_Utf_charAt : MethodName := ⟨R_Utf, "charAt", "([BI)C"⟩
abbrev c_Utf_checkIndex : ByteArray := prog_13_method_91_code
def y_Utf_checkIndex : MethodName := ⟨R_Utf, "checkIndex", "(I[B)V"⟩
abbrev c_Pre_checkIndex : ByteArray := prog_15_method_11_code
def y_Pre_checkIndex : MethodName := ⟨R_Pre, "checkIndex", "(IILjava/util/function/BiFunction;)I"⟩
