section
-- ===== PART A: goes FIRST, ahead of the names: the tables' words, and 'selects' of the private methods out of them =====
/-- a private method of a class that the tables say can be made, by its rows of tables_1 -/
def lw_okq (q : MethodName × Nat) : Prop := (q.1.cls ≠ "java/lang/invoke/MethodHandle" ∧ q.1.cls ≠ "java/lang/invoke/VarHandle") ∧ Cond.instantiable q.1.cls q.2 ∈ tables_1 ∧ Cond.privateMethod q.1 ∈ tables_1 ∧ Cond.instanceMethod q.1 ∈ tables_1
theorem lw_p0 : lw_okq (⟨"TideLoans", "finding", "(I)I"⟩, 12) := ⟨⟨by decide +kernel, by decide +kernel⟩, List.mem_of_getElem? (i := 16) (by decide +kernel), List.mem_of_getElem? (i := 219) (by decide +kernel), List.mem_of_getElem? (i := 220) (by decide +kernel)⟩
theorem lw_p1 : lw_okq (⟨"TideLoans", "owedNow", "(LTideLoans$Thing;)I"⟩, 12) := ⟨⟨by decide +kernel, by decide +kernel⟩, List.mem_of_getElem? (i := 16) (by decide +kernel), List.mem_of_getElem? (i := 291) (by decide +kernel), List.mem_of_getElem? (i := 292) (by decide +kernel)⟩
theorem lw_p2 : lw_okq (⟨"TideLoans", "followAll", "(I)V"⟩, 12) := ⟨⟨by decide +kernel, by decide +kernel⟩, List.mem_of_getElem? (i := 16) (by decide +kernel), List.mem_of_getElem? (i := 351) (by decide +kernel), List.mem_of_getElem? (i := 352) (by decide +kernel)⟩
theorem lw_p3 : lw_okq (⟨"TideLoans", "follow", "(II)V"⟩, 12) := ⟨⟨by decide +kernel, by decide +kernel⟩, List.mem_of_getElem? (i := 16) (by decide +kernel), List.mem_of_getElem? (i := 355) (by decide +kernel), List.mem_of_getElem? (i := 356) (by decide +kernel)⟩
theorem lw_p4 : lw_okq (⟨"TideLoans$Way", "waitForTide", "(IIII)V"⟩, 5) := ⟨⟨by decide +kernel, by decide +kernel⟩, List.mem_of_getElem? (i := 129) (by decide +kernel), List.mem_of_getElem? (i := 363) (by decide +kernel), List.mem_of_getElem? (i := 364) (by decide +kernel)⟩
theorem lw_p5 : lw_okq (⟨"TideLoans$Way", "waitForSpring", "(III)V"⟩, 5) := ⟨⟨by decide +kernel, by decide +kernel⟩, List.mem_of_getElem? (i := 129) (by decide +kernel), List.mem_of_getElem? (i := 371) (by decide +kernel), List.mem_of_getElem? (i := 372) (by decide +kernel)⟩
theorem lw_p6 : lw_okq (⟨"TideLoans", "bring", "(LTideLoans$Thing;LTideLoans$Way;)V"⟩, 12) := ⟨⟨by decide +kernel, by decide +kernel⟩, List.mem_of_getElem? (i := 16) (by decide +kernel), List.mem_of_getElem? (i := 382) (by decide +kernel), List.mem_of_getElem? (i := 383) (by decide +kernel)⟩
theorem lw_p7 : lw_okq (⟨"TideLoans", "allOwedNow", "()I"⟩, 12) := ⟨⟨by decide +kernel, by decide +kernel⟩, List.mem_of_getElem? (i := 16) (by decide +kernel), List.mem_of_getElem? (i := 409) (by decide +kernel), List.mem_of_getElem? (i := 410) (by decide +kernel)⟩
theorem lw_p8 : lw_okq (⟨"TideLoans", "purseThen", "(III)I"⟩, 12) := ⟨⟨by decide +kernel, by decide +kernel⟩, List.mem_of_getElem? (i := 16) (by decide +kernel), List.mem_of_getElem? (i := 421) (by decide +kernel), List.mem_of_getElem? (i := 422) (by decide +kernel)⟩
theorem lw_p9 : lw_okq (⟨"TideLoans", "tryOn", "(II)I"⟩, 12) := ⟨⟨by decide +kernel, by decide +kernel⟩, List.mem_of_getElem? (i := 16) (by decide +kernel), List.mem_of_getElem? (i := 443) (by decide +kernel), List.mem_of_getElem? (i := 444) (by decide +kernel)⟩
theorem lw_p10 : lw_okq (⟨"TideLoans", "purseWithTrial", "(III)I"⟩, 12) := ⟨⟨by decide +kernel, by decide +kernel⟩, List.mem_of_getElem? (i := 16) (by decide +kernel), List.mem_of_getElem? (i := 451) (by decide +kernel), List.mem_of_getElem? (i := 452) (by decide +kernel)⟩
theorem lw_p11 : lw_okq (⟨"TideLoans", "followTrial", "(II)V"⟩, 12) := ⟨⟨by decide +kernel, by decide +kernel⟩, List.mem_of_getElem? (i := 16) (by decide +kernel), List.mem_of_getElem? (i := 455) (by decide +kernel), List.mem_of_getElem? (i := 456) (by decide +kernel)⟩
theorem lw_p12 : lw_okq (⟨"TideLoans", "shareOut", "(I)I"⟩, 12) := ⟨⟨by decide +kernel, by decide +kernel⟩, List.mem_of_getElem? (i := 16) (by decide +kernel), List.mem_of_getElem? (i := 479) (by decide +kernel), List.mem_of_getElem? (i := 480) (by decide +kernel)⟩
theorem lw_p13 : lw_okq (⟨"TideLoans", "sureThen", "(I)I"⟩, 12) := ⟨⟨by decide +kernel, by decide +kernel⟩, List.mem_of_getElem? (i := 16) (by decide +kernel), List.mem_of_getElem? (i := 483) (by decide +kernel), List.mem_of_getElem? (i := 484) (by decide +kernel)⟩
theorem lw_p14 : lw_okq (⟨"TideLoans", "sharesOf", "(I)I"⟩, 12) := ⟨⟨by decide +kernel, by decide +kernel⟩, List.mem_of_getElem? (i := 16) (by decide +kernel), List.mem_of_getElem? (i := 487) (by decide +kernel), List.mem_of_getElem? (i := 488) (by decide +kernel)⟩
theorem lw_p15 : lw_okq (⟨"TideLoans", "gainAt", "(I)J"⟩, 12) := ⟨⟨by decide +kernel, by decide +kernel⟩, List.mem_of_getElem? (i := 16) (by decide +kernel), List.mem_of_getElem? (i := 495) (by decide +kernel), List.mem_of_getElem? (i := 496) (by decide +kernel)⟩
def lw_privs_1 : List (MethodName × Nat) := [(⟨"TideLoans", "finding", "(I)I"⟩, 12), (⟨"TideLoans", "owedNow", "(LTideLoans$Thing;)I"⟩, 12), (⟨"TideLoans", "followAll", "(I)V"⟩, 12), (⟨"TideLoans", "follow", "(II)V"⟩, 12), (⟨"TideLoans$Way", "waitForTide", "(IIII)V"⟩, 5), (⟨"TideLoans$Way", "waitForSpring", "(III)V"⟩, 5), (⟨"TideLoans", "bring", "(LTideLoans$Thing;LTideLoans$Way;)V"⟩, 12), (⟨"TideLoans", "allOwedNow", "()I"⟩, 12), (⟨"TideLoans", "purseThen", "(III)I"⟩, 12), (⟨"TideLoans", "tryOn", "(II)I"⟩, 12), (⟨"TideLoans", "purseWithTrial", "(III)I"⟩, 12), (⟨"TideLoans", "followTrial", "(II)V"⟩, 12), (⟨"TideLoans", "shareOut", "(I)I"⟩, 12), (⟨"TideLoans", "sureThen", "(I)I"⟩, 12), (⟨"TideLoans", "sharesOf", "(I)I"⟩, 12), (⟨"TideLoans", "gainAt", "(I)J"⟩, 12)]
theorem lw_r1 : ∀ q ∈ lw_privs_1, lw_okq q := List.forall_mem_cons.mpr ⟨lw_p0, List.forall_mem_cons.mpr ⟨lw_p1, List.forall_mem_cons.mpr ⟨lw_p2, List.forall_mem_cons.mpr ⟨lw_p3, List.forall_mem_cons.mpr ⟨lw_p4, List.forall_mem_cons.mpr ⟨lw_p5, List.forall_mem_cons.mpr ⟨lw_p6, List.forall_mem_cons.mpr ⟨lw_p7, List.forall_mem_cons.mpr ⟨lw_p8, List.forall_mem_cons.mpr ⟨lw_p9, List.forall_mem_cons.mpr ⟨lw_p10, List.forall_mem_cons.mpr ⟨lw_p11, List.forall_mem_cons.mpr ⟨lw_p12, List.forall_mem_cons.mpr ⟨lw_p13, List.forall_mem_cons.mpr ⟨lw_p14, List.forall_mem_cons.mpr ⟨lw_p15, fun _ h => absurd h List.not_mem_nil⟩⟩⟩⟩⟩⟩⟩⟩⟩⟩⟩⟩⟩⟩⟩⟩
theorem lw_p16 : lw_okq (⟨"TideLoans", "readText", "()I"⟩, 12) := ⟨⟨by decide +kernel, by decide +kernel⟩, List.mem_of_getElem? (i := 16) (by decide +kernel), List.mem_of_getElem? (i := 523) (by decide +kernel), List.mem_of_getElem? (i := 524) (by decide +kernel)⟩
theorem lw_p17 : lw_okq (⟨"TideLoans", "readItem", "()Z"⟩, 12) := ⟨⟨by decide +kernel, by decide +kernel⟩, List.mem_of_getElem? (i := 16) (by decide +kernel), List.mem_of_getElem? (i := 538) (by decide +kernel), List.mem_of_getElem? (i := 539) (by decide +kernel)⟩
theorem lw_p18 : lw_okq (⟨"TideLoans", "readThing", "(I)Z"⟩, 12) := ⟨⟨by decide +kernel, by decide +kernel⟩, List.mem_of_getElem? (i := 16) (by decide +kernel), List.mem_of_getElem? (i := 607) (by decide +kernel), List.mem_of_getElem? (i := 608) (by decide +kernel)⟩
theorem lw_p19 : lw_okq (⟨"TideLoans", "readWorth", "(LTideLoans$Thing;)Z"⟩, 12) := ⟨⟨by decide +kernel, by decide +kernel⟩, List.mem_of_getElem? (i := 16) (by decide +kernel), List.mem_of_getElem? (i := 619) (by decide +kernel), List.mem_of_getElem? (i := 620) (by decide +kernel)⟩
theorem lw_p20 : lw_okq (⟨"TideLoans", "readPlace", "(LTideLoans$Thing;)Z"⟩, 12) := ⟨⟨by decide +kernel, by decide +kernel⟩, List.mem_of_getElem? (i := 16) (by decide +kernel), List.mem_of_getElem? (i := 624) (by decide +kernel), List.mem_of_getElem? (i := 625) (by decide +kernel)⟩
theorem lw_p21 : lw_okq (⟨"TideLoans", "readHeight", "()Z"⟩, 12) := ⟨⟨by decide +kernel, by decide +kernel⟩, List.mem_of_getElem? (i := 16) (by decide +kernel), List.mem_of_getElem? (i := 630) (by decide +kernel), List.mem_of_getElem? (i := 631) (by decide +kernel)⟩
theorem lw_p22 : lw_okq (⟨"TideLoans", "readInterest", "()Z"⟩, 12) := ⟨⟨by decide +kernel, by decide +kernel⟩, List.mem_of_getElem? (i := 16) (by decide +kernel), List.mem_of_getElem? (i := 635) (by decide +kernel), List.mem_of_getElem? (i := 636) (by decide +kernel)⟩
theorem lw_p23 : lw_okq (⟨"TideLoans", "plotCourse", "(III)V"⟩, 12) := ⟨⟨by decide +kernel, by decide +kernel⟩, List.mem_of_getElem? (i := 16) (by decide +kernel), List.mem_of_getElem? (i := 682) (by decide +kernel), List.mem_of_getElem? (i := 683) (by decide +kernel)⟩
theorem lw_p24 : lw_okq (⟨"TideLoans", "addToCourse", "(III)V"⟩, 12) := ⟨⟨by decide +kernel, by decide +kernel⟩, List.mem_of_getElem? (i := 16) (by decide +kernel), List.mem_of_getElem? (i := 686) (by decide +kernel), List.mem_of_getElem? (i := 687) (by decide +kernel)⟩
theorem lw_p25 : lw_okq (⟨"TideLoans", "cellsThatFit", "(LTideLoans$Sheet;II)I"⟩, 12) := ⟨⟨by decide +kernel, by decide +kernel⟩, List.mem_of_getElem? (i := 16) (by decide +kernel), List.mem_of_getElem? (i := 694) (by decide +kernel), List.mem_of_getElem? (i := 695) (by decide +kernel)⟩
theorem lw_p26 : lw_okq (⟨"TideLoans", "isCourseWith", "(LTideLoans$Sheet;II)Z"⟩, 12) := ⟨⟨by decide +kernel, by decide +kernel⟩, List.mem_of_getElem? (i := 16) (by decide +kernel), List.mem_of_getElem? (i := 698) (by decide +kernel), List.mem_of_getElem? (i := 699) (by decide +kernel)⟩
theorem lw_p27 : lw_okq (⟨"TideLoansModel", "becomes", "(II)I"⟩, 16) := ⟨⟨by decide +kernel, by decide +kernel⟩, List.mem_of_getElem? (i := 726) (by decide +kernel), List.mem_of_getElem? (i := 792) (by decide +kernel), List.mem_of_getElem? (i := 793) (by decide +kernel)⟩
theorem lw_p28 : lw_okq (⟨"TideLoansModel", "finds", "(I)I"⟩, 16) := ⟨⟨by decide +kernel, by decide +kernel⟩, List.mem_of_getElem? (i := 726) (by decide +kernel), List.mem_of_getElem? (i := 797) (by decide +kernel), List.mem_of_getElem? (i := 798) (by decide +kernel)⟩
theorem lw_p29 : lw_okq (⟨"TideLoansModel", "laidAt", "(I)I"⟩, 16) := ⟨⟨by decide +kernel, by decide +kernel⟩, List.mem_of_getElem? (i := 726) (by decide +kernel), List.mem_of_getElem? (i := 805) (by decide +kernel), List.mem_of_getElem? (i := 806) (by decide +kernel)⟩
theorem lw_p30 : lw_okq (⟨"TideLoansModel", "isIt", "(II)Z"⟩, 16) := ⟨⟨by decide +kernel, by decide +kernel⟩, List.mem_of_getElem? (i := 726) (by decide +kernel), List.mem_of_getElem? (i := 809) (by decide +kernel), List.mem_of_getElem? (i := 810) (by decide +kernel)⟩
theorem lw_p31 : lw_okq (⟨"TideLoansModel", "its", "(II)I"⟩, 16) := ⟨⟨by decide +kernel, by decide +kernel⟩, List.mem_of_getElem? (i := 726) (by decide +kernel), List.mem_of_getElem? (i := 813) (by decide +kernel), List.mem_of_getElem? (i := 814) (by decide +kernel)⟩
def lw_privs_2 : List (MethodName × Nat) := [(⟨"TideLoans", "readText", "()I"⟩, 12), (⟨"TideLoans", "readItem", "()Z"⟩, 12), (⟨"TideLoans", "readThing", "(I)Z"⟩, 12), (⟨"TideLoans", "readWorth", "(LTideLoans$Thing;)Z"⟩, 12), (⟨"TideLoans", "readPlace", "(LTideLoans$Thing;)Z"⟩, 12), (⟨"TideLoans", "readHeight", "()Z"⟩, 12), (⟨"TideLoans", "readInterest", "()Z"⟩, 12), (⟨"TideLoans", "plotCourse", "(III)V"⟩, 12), (⟨"TideLoans", "addToCourse", "(III)V"⟩, 12), (⟨"TideLoans", "cellsThatFit", "(LTideLoans$Sheet;II)I"⟩, 12), (⟨"TideLoans", "isCourseWith", "(LTideLoans$Sheet;II)Z"⟩, 12), (⟨"TideLoansModel", "becomes", "(II)I"⟩, 16), (⟨"TideLoansModel", "finds", "(I)I"⟩, 16), (⟨"TideLoansModel", "laidAt", "(I)I"⟩, 16), (⟨"TideLoansModel", "isIt", "(II)Z"⟩, 16), (⟨"TideLoansModel", "its", "(II)I"⟩, 16)]
theorem lw_r2 : ∀ q ∈ lw_privs_2, lw_okq q := List.forall_mem_cons.mpr ⟨lw_p16, List.forall_mem_cons.mpr ⟨lw_p17, List.forall_mem_cons.mpr ⟨lw_p18, List.forall_mem_cons.mpr ⟨lw_p19, List.forall_mem_cons.mpr ⟨lw_p20, List.forall_mem_cons.mpr ⟨lw_p21, List.forall_mem_cons.mpr ⟨lw_p22, List.forall_mem_cons.mpr ⟨lw_p23, List.forall_mem_cons.mpr ⟨lw_p24, List.forall_mem_cons.mpr ⟨lw_p25, List.forall_mem_cons.mpr ⟨lw_p26, List.forall_mem_cons.mpr ⟨lw_p27, List.forall_mem_cons.mpr ⟨lw_p28, List.forall_mem_cons.mpr ⟨lw_p29, List.forall_mem_cons.mpr ⟨lw_p30, List.forall_mem_cons.mpr ⟨lw_p31, fun _ h => absurd h List.not_mem_nil⟩⟩⟩⟩⟩⟩⟩⟩⟩⟩⟩⟩⟩⟩⟩⟩
theorem lw_p32 : lw_okq (⟨"TideLoansModel", "comes", "(II)V"⟩, 16) := ⟨⟨by decide +kernel, by decide +kernel⟩, List.mem_of_getElem? (i := 726) (by decide +kernel), List.mem_of_getElem? (i := 848) (by decide +kernel), List.mem_of_getElem? (i := 849) (by decide +kernel)⟩
theorem lw_p33 : lw_okq (⟨"TideLoansModel", "isThing", "(I)Z"⟩, 16) := ⟨⟨by decide +kernel, by decide +kernel⟩, List.mem_of_getElem? (i := 726) (by decide +kernel), List.mem_of_getElem? (i := 859) (by decide +kernel), List.mem_of_getElem? (i := 860) (by decide +kernel)⟩
theorem lw_p34 : lw_okq (⟨"TideLoansModel", "wouldRepay", "(I)I"⟩, 16) := ⟨⟨by decide +kernel, by decide +kernel⟩, List.mem_of_getElem? (i := 726) (by decide +kernel), List.mem_of_getElem? (i := 867) (by decide +kernel), List.mem_of_getElem? (i := 868) (by decide +kernel)⟩
theorem lw_p35 : lw_okq (⟨"TideLoansModel", "repays", "(II)I"⟩, 16) := ⟨⟨by decide +kernel, by decide +kernel⟩, List.mem_of_getElem? (i := 726) (by decide +kernel), List.mem_of_getElem? (i := 871) (by decide +kernel), List.mem_of_getElem? (i := 872) (by decide +kernel)⟩
theorem lw_p36 : lw_okq (⟨"TideLoansModel", "lies", "(II)V"⟩, 16) := ⟨⟨by decide +kernel, by decide +kernel⟩, List.mem_of_getElem? (i := 726) (by decide +kernel), List.mem_of_getElem? (i := 897) (by decide +kernel), List.mem_of_getElem? (i := 898) (by decide +kernel)⟩
theorem lw_p37 : lw_okq (⟨"TideLoansModel", "goes", "(I)V"⟩, 16) := ⟨⟨by decide +kernel, by decide +kernel⟩, List.mem_of_getElem? (i := 726) (by decide +kernel), List.mem_of_getElem? (i := 914) (by decide +kernel), List.mem_of_getElem? (i := 915) (by decide +kernel)⟩
theorem lw_p38 : lw_okq (⟨"TideLoansModel", "day", "()V"⟩, 16) := ⟨⟨by decide +kernel, by decide +kernel⟩, List.mem_of_getElem? (i := 726) (by decide +kernel), List.mem_of_getElem? (i := 918) (by decide +kernel), List.mem_of_getElem? (i := 919) (by decide +kernel)⟩
theorem lw_p39 : lw_okq (⟨"TideLoansModel", "comesHome", "(II)V"⟩, 16) := ⟨⟨by decide +kernel, by decide +kernel⟩, List.mem_of_getElem? (i := 726) (by decide +kernel), List.mem_of_getElem? (i := 922) (by decide +kernel), List.mem_of_getElem? (i := 923) (by decide +kernel)⟩
theorem lw_p40 : lw_okq (⟨"TideLoansModel", "isTaken", "(I)Z"⟩, 16) := ⟨⟨by decide +kernel, by decide +kernel⟩, List.mem_of_getElem? (i := 726) (by decide +kernel), List.mem_of_getElem? (i := 926) (by decide +kernel), List.mem_of_getElem? (i := 927) (by decide +kernel)⟩
theorem lw_p41 : lw_okq (⟨"TideLoansModel", "purses", "()J"⟩, 16) := ⟨⟨by decide +kernel, by decide +kernel⟩, List.mem_of_getElem? (i := 726) (by decide +kernel), List.mem_of_getElem? (i := 930) (by decide +kernel), List.mem_of_getElem? (i := 931) (by decide +kernel)⟩
theorem lw_p42 : lw_okq (⟨"TideLoansModel", "thoseThatAre", "(I)I"⟩, 16) := ⟨⟨by decide +kernel, by decide +kernel⟩, List.mem_of_getElem? (i := 726) (by decide +kernel), List.mem_of_getElem? (i := 938) (by decide +kernel), List.mem_of_getElem? (i := 939) (by decide +kernel)⟩
theorem lw_p43 : lw_okq (⟨"TideLoansModel", "purseOn", "(II)I"⟩, 16) := ⟨⟨by decide +kernel, by decide +kernel⟩, List.mem_of_getElem? (i := 726) (by decide +kernel), List.mem_of_getElem? (i := 946) (by decide +kernel), List.mem_of_getElem? (i := 947) (by decide +kernel)⟩
theorem lw_p44 : lw_okq (⟨"TideLoansModel", "whenIt", "(II)I"⟩, 16) := ⟨⟨by decide +kernel, by decide +kernel⟩, List.mem_of_getElem? (i := 726) (by decide +kernel), List.mem_of_getElem? (i := 957) (by decide +kernel), List.mem_of_getElem? (i := 958) (by decide +kernel)⟩
theorem lw_p45 : lw_okq (⟨"TideLoansModel", "orNone", "(I)I"⟩, 16) := ⟨⟨by decide +kernel, by decide +kernel⟩, List.mem_of_getElem? (i := 726) (by decide +kernel), List.mem_of_getElem? (i := 961) (by decide +kernel), List.mem_of_getElem? (i := 962) (by decide +kernel)⟩
theorem lw_p46 : lw_okq (⟨"TideLoansModel", "pursesOn", "(I)J"⟩, 16) := ⟨⟨by decide +kernel, by decide +kernel⟩, List.mem_of_getElem? (i := 726) (by decide +kernel), List.mem_of_getElem? (i := 979) (by decide +kernel), List.mem_of_getElem? (i := 980) (by decide +kernel)⟩
theorem lw_p47 : lw_okq (⟨"TideLoansModel", "nextToken", "()V"⟩, 16) := ⟨⟨by decide +kernel, by decide +kernel⟩, List.mem_of_getElem? (i := 726) (by decide +kernel), List.mem_of_getElem? (i := 1022) (by decide +kernel), List.mem_of_getElem? (i := 1023) (by decide +kernel)⟩
def lw_privs_3 : List (MethodName × Nat) := [(⟨"TideLoansModel", "comes", "(II)V"⟩, 16), (⟨"TideLoansModel", "isThing", "(I)Z"⟩, 16), (⟨"TideLoansModel", "wouldRepay", "(I)I"⟩, 16), (⟨"TideLoansModel", "repays", "(II)I"⟩, 16), (⟨"TideLoansModel", "lies", "(II)V"⟩, 16), (⟨"TideLoansModel", "goes", "(I)V"⟩, 16), (⟨"TideLoansModel", "day", "()V"⟩, 16), (⟨"TideLoansModel", "comesHome", "(II)V"⟩, 16), (⟨"TideLoansModel", "isTaken", "(I)Z"⟩, 16), (⟨"TideLoansModel", "purses", "()J"⟩, 16), (⟨"TideLoansModel", "thoseThatAre", "(I)I"⟩, 16), (⟨"TideLoansModel", "purseOn", "(II)I"⟩, 16), (⟨"TideLoansModel", "whenIt", "(II)I"⟩, 16), (⟨"TideLoansModel", "orNone", "(I)I"⟩, 16), (⟨"TideLoansModel", "pursesOn", "(I)J"⟩, 16), (⟨"TideLoansModel", "nextToken", "()V"⟩, 16)]
theorem lw_r3 : ∀ q ∈ lw_privs_3, lw_okq q := List.forall_mem_cons.mpr ⟨lw_p32, List.forall_mem_cons.mpr ⟨lw_p33, List.forall_mem_cons.mpr ⟨lw_p34, List.forall_mem_cons.mpr ⟨lw_p35, List.forall_mem_cons.mpr ⟨lw_p36, List.forall_mem_cons.mpr ⟨lw_p37, List.forall_mem_cons.mpr ⟨lw_p38, List.forall_mem_cons.mpr ⟨lw_p39, List.forall_mem_cons.mpr ⟨lw_p40, List.forall_mem_cons.mpr ⟨lw_p41, List.forall_mem_cons.mpr ⟨lw_p42, List.forall_mem_cons.mpr ⟨lw_p43, List.forall_mem_cons.mpr ⟨lw_p44, List.forall_mem_cons.mpr ⟨lw_p45, List.forall_mem_cons.mpr ⟨lw_p46, List.forall_mem_cons.mpr ⟨lw_p47, fun _ h => absurd h List.not_mem_nil⟩⟩⟩⟩⟩⟩⟩⟩⟩⟩⟩⟩⟩⟩⟩⟩
theorem lw_p48 : lw_okq (⟨"TideLoansModel", "byteAt", "(I)I"⟩, 16) := ⟨⟨by decide +kernel, by decide +kernel⟩, List.mem_of_getElem? (i := 726) (by decide +kernel), List.mem_of_getElem? (i := 1026) (by decide +kernel), List.mem_of_getElem? (i := 1027) (by decide +kernel)⟩
theorem lw_p49 : lw_okq (⟨"TideLoansModel", "itemHere", "()Z"⟩, 16) := ⟨⟨by decide +kernel, by decide +kernel⟩, List.mem_of_getElem? (i := 726) (by decide +kernel), List.mem_of_getElem? (i := 1036) (by decide +kernel), List.mem_of_getElem? (i := 1037) (by decide +kernel)⟩
theorem lw_p50 : lw_okq (⟨"TideLoansModel", "kindHere", "()I"⟩, 16) := ⟨⟨by decide +kernel, by decide +kernel⟩, List.mem_of_getElem? (i := 726) (by decide +kernel), List.mem_of_getElem? (i := 1040) (by decide +kernel), List.mem_of_getElem? (i := 1041) (by decide +kernel)⟩
theorem lw_p51 : lw_okq (⟨"TideLoansModel", "isFive", "(IIIII)Z"⟩, 16) := ⟨⟨by decide +kernel, by decide +kernel⟩, List.mem_of_getElem? (i := 726) (by decide +kernel), List.mem_of_getElem? (i := 1044) (by decide +kernel), List.mem_of_getElem? (i := 1045) (by decide +kernel)⟩
theorem lw_p52 : lw_okq (⟨"TideLoansModel", "isWord", "(I)Z"⟩, 16) := ⟨⟨by decide +kernel, by decide +kernel⟩, List.mem_of_getElem? (i := 726) (by decide +kernel), List.mem_of_getElem? (i := 1048) (by decide +kernel), List.mem_of_getElem? (i := 1049) (by decide +kernel)⟩
theorem lw_p53 : lw_okq (⟨"TideLoansModel", "has3", "(IIII)Z"⟩, 16) := ⟨⟨by decide +kernel, by decide +kernel⟩, List.mem_of_getElem? (i := 726) (by decide +kernel), List.mem_of_getElem? (i := 1052) (by decide +kernel), List.mem_of_getElem? (i := 1053) (by decide +kernel)⟩
theorem lw_p54 : lw_okq (⟨"TideLoansModel", "isSix", "(IIIIII)Z"⟩, 16) := ⟨⟨by decide +kernel, by decide +kernel⟩, List.mem_of_getElem? (i := 726) (by decide +kernel), List.mem_of_getElem? (i := 1056) (by decide +kernel), List.mem_of_getElem? (i := 1057) (by decide +kernel)⟩
theorem lw_p55 : lw_okq (⟨"TideLoansModel", "thingHere", "(I)Z"⟩, 16) := ⟨⟨by decide +kernel, by decide +kernel⟩, List.mem_of_getElem? (i := 726) (by decide +kernel), List.mem_of_getElem? (i := 1060) (by decide +kernel), List.mem_of_getElem? (i := 1061) (by decide +kernel)⟩
theorem lw_p56 : lw_okq (⟨"TideLoansModel", "fails", "()Z"⟩, 16) := ⟨⟨by decide +kernel, by decide +kernel⟩, List.mem_of_getElem? (i := 726) (by decide +kernel), List.mem_of_getElem? (i := 1064) (by decide +kernel), List.mem_of_getElem? (i := 1065) (by decide +kernel)⟩
theorem lw_p57 : lw_okq (⟨"TideLoansModel", "isTwo", "(II)Z"⟩, 16) := ⟨⟨by decide +kernel, by decide +kernel⟩, List.mem_of_getElem? (i := 726) (by decide +kernel), List.mem_of_getElem? (i := 1068) (by decide +kernel), List.mem_of_getElem? (i := 1069) (by decide +kernel)⟩
theorem lw_p58 : lw_okq (⟨"TideLoansModel", "isNumber", "(II)Z"⟩, 16) := ⟨⟨by decide +kernel, by decide +kernel⟩, List.mem_of_getElem? (i := 726) (by decide +kernel), List.mem_of_getElem? (i := 1072) (by decide +kernel), List.mem_of_getElem? (i := 1073) (by decide +kernel)⟩
theorem lw_p59 : lw_okq (⟨"TideLoansModel", "heightHere", "()Z"⟩, 16) := ⟨⟨by decide +kernel, by decide +kernel⟩, List.mem_of_getElem? (i := 726) (by decide +kernel), List.mem_of_getElem? (i := 1076) (by decide +kernel), List.mem_of_getElem? (i := 1077) (by decide +kernel)⟩
theorem lw_p60 : lw_okq (⟨"TideLoansModel", "interestHere", "()Z"⟩, 16) := ⟨⟨by decide +kernel, by decide +kernel⟩, List.mem_of_getElem? (i := 726) (by decide +kernel), List.mem_of_getElem? (i := 1080) (by decide +kernel), List.mem_of_getElem? (i := 1081) (by decide +kernel)⟩
theorem lw_p61 : lw_okq (⟨"TideLoansModel", "wants", "(I)I"⟩, 16) := ⟨⟨by decide +kernel, by decide +kernel⟩, List.mem_of_getElem? (i := 726) (by decide +kernel), List.mem_of_getElem? (i := 1108) (by decide +kernel), List.mem_of_getElem? (i := 1109) (by decide +kernel)⟩
theorem lw_p62 : lw_okq (⟨"TideLoansModel", "isTold", "(II)Z"⟩, 16) := ⟨⟨by decide +kernel, by decide +kernel⟩, List.mem_of_getElem? (i := 726) (by decide +kernel), List.mem_of_getElem? (i := 1120) (by decide +kernel), List.mem_of_getElem? (i := 1121) (by decide +kernel)⟩
def lw_privs_4 : List (MethodName × Nat) := [(⟨"TideLoansModel", "byteAt", "(I)I"⟩, 16), (⟨"TideLoansModel", "itemHere", "()Z"⟩, 16), (⟨"TideLoansModel", "kindHere", "()I"⟩, 16), (⟨"TideLoansModel", "isFive", "(IIIII)Z"⟩, 16), (⟨"TideLoansModel", "isWord", "(I)Z"⟩, 16), (⟨"TideLoansModel", "has3", "(IIII)Z"⟩, 16), (⟨"TideLoansModel", "isSix", "(IIIIII)Z"⟩, 16), (⟨"TideLoansModel", "thingHere", "(I)Z"⟩, 16), (⟨"TideLoansModel", "fails", "()Z"⟩, 16), (⟨"TideLoansModel", "isTwo", "(II)Z"⟩, 16), (⟨"TideLoansModel", "isNumber", "(II)Z"⟩, 16), (⟨"TideLoansModel", "heightHere", "()Z"⟩, 16), (⟨"TideLoansModel", "interestHere", "()Z"⟩, 16), (⟨"TideLoansModel", "wants", "(I)I"⟩, 16), (⟨"TideLoansModel", "isTold", "(II)Z"⟩, 16)]
theorem lw_r4 : ∀ q ∈ lw_privs_4, lw_okq q := List.forall_mem_cons.mpr ⟨lw_p48, List.forall_mem_cons.mpr ⟨lw_p49, List.forall_mem_cons.mpr ⟨lw_p50, List.forall_mem_cons.mpr ⟨lw_p51, List.forall_mem_cons.mpr ⟨lw_p52, List.forall_mem_cons.mpr ⟨lw_p53, List.forall_mem_cons.mpr ⟨lw_p54, List.forall_mem_cons.mpr ⟨lw_p55, List.forall_mem_cons.mpr ⟨lw_p56, List.forall_mem_cons.mpr ⟨lw_p57, List.forall_mem_cons.mpr ⟨lw_p58, List.forall_mem_cons.mpr ⟨lw_p59, List.forall_mem_cons.mpr ⟨lw_p60, List.forall_mem_cons.mpr ⟨lw_p61, List.forall_mem_cons.mpr ⟨lw_p62, fun _ h => absurd h List.not_mem_nil⟩⟩⟩⟩⟩⟩⟩⟩⟩⟩⟩⟩⟩⟩⟩
def lw_privs : List (MethodName × Nat) := lw_privs_1 ++ (lw_privs_2 ++ (lw_privs_3 ++ (lw_privs_4)))
def lw_tbl : List Cond := k2_sels lw_privs ++ tables_1
theorem lw_privs_ok : ∀ q ∈ lw_privs, lw_okq q := by
  show ∀ q ∈ lw_privs_1 ++ (lw_privs_2 ++ (lw_privs_3 ++ (lw_privs_4))), lw_okq q
  exact List.forall_mem_append.mpr ⟨lw_r1, List.forall_mem_append.mpr ⟨lw_r2, List.forall_mem_append.mpr ⟨lw_r3, lw_r4⟩⟩⟩
def R_Sheet : String := "TideLoans$Sheet"
def R_Shore : String := "TideLoans$Shore"
def R_Tape : String := "TideLoans$Tape"
def R_Thing : String := "TideLoans$Thing"
def R_Way : String := "TideLoans$Way"
def R_Tide : String := "TideLoans"
def R_Model : String := "TideLoansModel"
def R_Integer : String := "java/lang/Integer"
def R_String : String := "java/lang/String"
def R_Latin : String := "java/lang/StringLatin1"
def R_Utf : String := "java/lang/StringUTF16"
def R_Math : String := "java/lang/Math"
def R_Pre : String := "jdk/internal/util/Preconditions"
def T_Sheet : u_T := fun k => match k with
  | 0 => ("TideLoans$Sheet", "numbers", "[J", true)
  | 1 => ("TideLoans$Sheet", "bits", "I", false)
  | _ => ("TideLoans$Sheet", "size", "I", false)
def ty_Sheet : Nat → FieldType := fun k => match k with
  | 0 => .array .long
  | 1 => .int
  | _ => .int
theorem nm_Sheet : ∀ a, a < 3 → ∀ b, b < 3 → a ≠ b → (T_Sheet a).2.1 ≠ (T_Sheet b).2.1 := by decide +kernel
theorem tyok_Sheet : ∀ k, k < 3 → parseFieldDescriptor (T_Sheet k).2.2.1 = some (ty_Sheet k) := by decide +kernel
def T_Shore : u_T := fun k => match k with
  | 0 => ("TideLoans$Shore", "heights", "[I", true)
  | 1 => ("TideLoans$Shore", "purses", "[I", true)
  | 2 => ("TideLoans$Shore", "things", "[LTideLoans$Thing;", true)
  | 3 => ("TideLoans$Shore", "size", "I", false)
  | 4 => ("TideLoans$Shore", "day", "I", false)
  | _ => ("TideLoans$Shore", "interest", "I", false)
def ty_Shore : Nat → FieldType := fun k => match k with
  | 0 => .array .int
  | 1 => .array .int
  | 2 => .array (.object "TideLoans$Thing")
  | 3 => .int
  | 4 => .int
  | _ => .int
theorem nm_Shore : ∀ a, a < 6 → ∀ b, b < 6 → a ≠ b → (T_Shore a).2.1 ≠ (T_Shore b).2.1 := by decide +kernel
theorem tyok_Shore : ∀ k, k < 6 → parseFieldDescriptor (T_Shore k).2.2.1 = some (ty_Shore k) := by decide +kernel
def T_Tape : u_T := fun k => match k with
  | 0 => ("TideLoans$Tape", "bytes", "[B", true)
  | 1 => ("TideLoans$Tape", "length", "I", false)
  | 2 => ("TideLoans$Tape", "token", "I", false)
  | 3 => ("TideLoans$Tape", "start", "I", false)
  | 4 => ("TideLoans$Tape", "next", "I", false)
  | _ => ("TideLoans$Tape", "number", "I", false)
def ty_Tape : Nat → FieldType := fun k => match k with
  | 0 => .array .byte
  | 1 => .int
  | 2 => .int
  | 3 => .int
  | 4 => .int
  | _ => .int
theorem nm_Tape : ∀ a, a < 6 → ∀ b, b < 6 → a ≠ b → (T_Tape a).2.1 ≠ (T_Tape b).2.1 := by decide +kernel
theorem tyok_Tape : ∀ k, k < 6 → parseFieldDescriptor (T_Tape k).2.2.1 = some (ty_Tape k) := by decide +kernel
def T_Thing : u_T := fun k => match k with
  | 0 => ("TideLoans$Thing", "kind", "I", false)
  | 1 => ("TideLoans$Thing", "family", "I", false)
  | 2 => ("TideLoans$Thing", "cell", "I", false)
  | 3 => ("TideLoans$Thing", "worth", "I", false)
  | 4 => ("TideLoans$Thing", "state", "I", false)
  | _ => ("TideLoans$Thing", "since", "I", false)
def ty_Thing : Nat → FieldType := fun k => match k with
  | 0 => .int
  | 1 => .int
  | 2 => .int
  | 3 => .int
  | 4 => .int
  | _ => .int
theorem nm_Thing : ∀ a, a < 6 → ∀ b, b < 6 → a ≠ b → (T_Thing a).2.1 ≠ (T_Thing b).2.1 := by decide +kernel
theorem tyok_Thing : ∀ k, k < 6 → parseFieldDescriptor (T_Thing k).2.2.1 = some (ty_Thing k) := by decide +kernel
def T_Way : u_T := fun k => match k with
  | 0 => ("TideLoans$Way", "lentIn", "I", false)
  | 1 => ("TideLoans$Way", "homeIn", "I", false)
  | 2 => ("TideLoans$Way", "away", "I", false)
  | 3 => ("TideLoans$Way", "state", "I", false)
  | _ => ("TideLoans$Way", "since", "I", false)
def ty_Way : Nat → FieldType := fun k => match k with
  | 0 => .int
  | 1 => .int
  | 2 => .int
  | 3 => .int
  | _ => .int
theorem nm_Way : ∀ a, a < 5 → ∀ b, b < 5 → a ≠ b → (T_Way a).2.1 ≠ (T_Way b).2.1 := by decide +kernel
theorem tyok_Way : ∀ k, k < 5 → parseFieldDescriptor (T_Way k).2.2.1 = some (ty_Way k) := by decide +kernel
def T_Tide : u_T := fun k => match k with
  | 0 => ("TideLoans", "found", "[I", true)
  | 1 => ("TideLoans", "live", "LTideLoans$Shore;", true)
  | 2 => ("TideLoans", "kept", "LTideLoans$Shore;", true)
  | 3 => ("TideLoans", "draft", "LTideLoans$Shore;", true)
  | 4 => ("TideLoans", "tape", "LTideLoans$Tape;", true)
  | 5 => ("TideLoans", "sheets", "[LTideLoans$Sheet;", true)
  | 6 => ("TideLoans", "ways", "[LTideLoans$Way;", true)
  | 7 => ("TideLoans", "shares", "[I", true)
  | 8 => ("TideLoans", "course", "[I", true)
  | 9 => ("TideLoans", "trial", "LTideLoans$Thing;", true)
  | 10 => ("TideLoans", "trialWay", "LTideLoans$Way;", true)
  | _ => ("TideLoans", "isKept", "Z", false)
def ty_Tide : Nat → FieldType := fun k => match k with
  | 0 => .array .int
  | 1 => .object "TideLoans$Shore"
  | 2 => .object "TideLoans$Shore"
  | 3 => .object "TideLoans$Shore"
  | 4 => .object "TideLoans$Tape"
  | 5 => .array (.object "TideLoans$Sheet")
  | 6 => .array (.object "TideLoans$Way")
  | 7 => .array .int
  | 8 => .array .int
  | 9 => .object "TideLoans$Thing"
  | 10 => .object "TideLoans$Way"
  | _ => .boolean
theorem nm_Tide : ∀ a, a < 12 → ∀ b, b < 12 → a ≠ b → (T_Tide a).2.1 ≠ (T_Tide b).2.1 := by decide +kernel
theorem tyok_Tide : ∀ k, k < 12 → parseFieldDescriptor (T_Tide k).2.2.1 = some (ty_Tide k) := by decide +kernel
def T_Model : u_T := fun k => match k with
  | 0 => ("TideLoansModel", "s", "[I", true)
  | 1 => ("TideLoansModel", "kept", "[I", true)
  | 2 => ("TideLoansModel", "before", "[I", true)
  | 3 => ("TideLoansModel", "aside", "[I", true)
  | 4 => ("TideLoansModel", "isKept", "Z", false)
  | 5 => ("TideLoansModel", "findings", "[I", true)
  | 6 => ("TideLoansModel", "tape", "[I", true)
  | 7 => ("TideLoansModel", "taped", "I", false)
  | 8 => ("TideLoansModel", "bitsOf", "[I", true)
  | 9 => ("TideLoansModel", "sizes", "[I", true)
  | 10 => ("TideLoansModel", "numbers", "[J", true)
  | 11 => ("TideLoansModel", "token", "I", false)
  | 12 => ("TideLoansModel", "from", "I", false)
  | 13 => ("TideLoansModel", "to", "I", false)
  | 14 => ("TideLoansModel", "value", "I", false)
  | _ => ("TideLoansModel", "faultAt", "I", false)
def ty_Model : Nat → FieldType := fun k => match k with
  | 0 => .array .int
  | 1 => .array .int
  | 2 => .array .int
  | 3 => .array .int
  | 4 => .boolean
  | 5 => .array .int
  | 6 => .array .int
  | 7 => .int
  | 8 => .array .int
  | 9 => .array .int
  | 10 => .array .long
  | 11 => .int
  | 12 => .int
  | 13 => .int
  | 14 => .int
  | _ => .int
theorem nm_Model : ∀ a, a < 16 → ∀ b, b < 16 → a ≠ b → (T_Model a).2.1 ≠ (T_Model b).2.1 := by decide +kernel
theorem tyok_Model : ∀ k, k < 16 → parseFieldDescriptor (T_Model k).2.2.1 = some (ty_Model k) := by decide +kernel
abbrev c_Sheet_init : ByteArray := prog_2_method_1_code
def y_Sheet_init : MethodName := ⟨R_Sheet, "<init>", "()V"⟩
abbrev c_Sheet_isMissing : ByteArray := prog_2_method_2_code
def y_Sheet_isMissing : MethodName := ⟨R_Sheet, "isMissing", "()Z"⟩
abbrev c_Sheet_renew : ByteArray := prog_2_method_3_code
def y_Sheet_renew : MethodName := ⟨R_Sheet, "renew", "(II)V"⟩
abbrev c_Sheet_put : ByteArray := prog_2_method_4_code
def y_Sheet_put : MethodName := ⟨R_Sheet, "put", "(IJ)V"⟩
abbrev c_Sheet_hasRun : ByteArray := prog_2_method_5_code
def y_Sheet_hasRun : MethodName := ⟨R_Sheet, "hasRun", "(II)Z"⟩
abbrev c_Shore_init : ByteArray := prog_3_method_1_code
def y_Shore_init : MethodName := ⟨R_Shore, "<init>", "()V"⟩
abbrev c_Shore_become : ByteArray := prog_3_method_2_code
def y_Shore_become : MethodName := ⟨R_Shore, "become", "(LTideLoans$Shore;)V"⟩
abbrev c_Shore_has : ByteArray := prog_3_method_3_code
def y_Shore_has : MethodName := ⟨R_Shore, "has", "(I)Z"⟩
abbrev c_Shore_isFull : ByteArray := prog_3_method_4_code
def y_Shore_isFull : MethodName := ⟨R_Shore, "isFull", "()Z"⟩
abbrev c_Shore_add : ByteArray := prog_3_method_5_code
def y_Shore_add : MethodName := ⟨R_Shore, "add", "(II)I"⟩
abbrev c_Shore_laidAt : ByteArray := prog_3_method_6_code
def y_Shore_laidAt : MethodName := ⟨R_Shore, "laidAt", "(I)I"⟩
abbrev c_Shore_allIn : ByteArray := prog_3_method_7_code
def y_Shore_allIn : MethodName := ⟨R_Shore, "allIn", "(I)I"⟩
abbrev c_Shore_allWorth : ByteArray := prog_3_method_8_code
def y_Shore_allWorth : MethodName := ⟨R_Shore, "allWorth", "()I"⟩
abbrev c_Shore_allHeights : ByteArray := prog_3_method_9_code
def y_Shore_allHeights : MethodName := ⟨R_Shore, "allHeights", "()I"⟩
abbrev c_Shore_cellsBelow : ByteArray := prog_3_method_10_code
def y_Shore_cellsBelow : MethodName := ⟨R_Shore, "cellsBelow", "(I)I"⟩
abbrev c_Shore_allPurses : ByteArray := prog_3_method_11_code
def y_Shore_allPurses : MethodName := ⟨R_Shore, "allPurses", "()J"⟩
abbrev c_Tape_init : ByteArray := prog_4_method_1_code
def y_Tape_init : MethodName := ⟨R_Tape, "<init>", "()V"⟩
abbrev c_Tape_put : ByteArray := prog_4_method_2_code
def y_Tape_put : MethodName := ⟨R_Tape, "put", "(B)V"⟩
abbrev c_Tape_rewind : ByteArray := prog_4_method_3_code
def y_Tape_rewind : MethodName := ⟨R_Tape, "rewind", "()V"⟩
abbrev c_Tape_step : ByteArray := prog_4_method_4_code
def y_Tape_step : MethodName := ⟨R_Tape, "step", "()V"⟩
abbrev c_Tape_tokenOf : ByteArray := prog_4_method_5_code
def y_Tape_tokenOf : MethodName := ⟨R_Tape, "tokenOf", "(B)I"⟩
abbrev c_Tape_isNumberTo : ByteArray := prog_4_method_6_code
def y_Tape_isNumberTo : MethodName := ⟨R_Tape, "isNumberTo", "(I)Z"⟩
abbrev c_Tape_isWord : ByteArray := prog_4_method_7_code
def y_Tape_isWord : MethodName := ⟨R_Tape, "isWord", "(Ljava/lang/String;)Z"⟩
abbrev c_Tape_kindNamed : ByteArray := prog_4_method_8_code
def y_Tape_kindNamed : MethodName := ⟨R_Tape, "kindNamed", "()I"⟩
abbrev c_Tape_nameOf : ByteArray := prog_4_method_9_code
def y_Tape_nameOf : MethodName := ⟨R_Tape, "nameOf", "(I)Ljava/lang/String;"⟩
abbrev c_Thing_init : ByteArray := prog_5_method_1_code
def y_Thing_init : MethodName := ⟨R_Thing, "<init>", "()V"⟩
abbrev c_Thing_begin : ByteArray := prog_5_method_2_code
def y_Thing_begin : MethodName := ⟨R_Thing, "begin", "(II)V"⟩
abbrev c_Thing_layAt : ByteArray := prog_5_method_3_code
def y_Thing_layAt : MethodName := ⟨R_Thing, "layAt", "(I)V"⟩
abbrev c_Thing_become : ByteArray := prog_5_method_4_code
def y_Thing_become : MethodName := ⟨R_Thing, "become", "(LTideLoans$Thing;)V"⟩
abbrev c_Way_init : ByteArray := prog_6_method_1_code
def y_Way_init : MethodName := ⟨R_Way, "<init>", "()V"⟩
abbrev c_Way_follow : ByteArray := prog_6_method_2_code
def y_Way_follow : MethodName := ⟨R_Way, "follow", "(LTideLoans$Thing;III)V"⟩
abbrev c_Way_waitForTide : ByteArray := prog_6_method_3_code
def y_Way_waitForTide : MethodName := ⟨R_Way, "waitForTide", "(IIII)V"⟩
abbrev c_Way_waitForSpring : ByteArray := prog_6_method_4_code
def y_Way_waitForSpring : MethodName := ⟨R_Way, "waitForSpring", "(III)V"⟩
abbrev c_Way_brings : ByteArray := prog_6_method_5_code
def y_Way_brings : MethodName := ⟨R_Way, "brings", "(LTideLoans$Thing;I)I"⟩
abbrev c_Tide_init : ByteArray := prog_1_method_1_code
def y_Tide_init : MethodName := ⟨R_Tide, "<init>", "()V"⟩
abbrev c_Tide_height : ByteArray := prog_1_method_2_code
def y_Tide_height : MethodName := ⟨R_Tide, "height", "(II)I"⟩
abbrev c_Tide_cell : ByteArray := prog_1_method_3_code
def y_Tide_cell : MethodName := ⟨R_Tide, "cell", "(II)I"⟩
abbrev c_Tide_interest : ByteArray := prog_1_method_4_code
def y_Tide_interest : MethodName := ⟨R_Tide, "interest", "(I)I"⟩
abbrev c_Tide_tide : ByteArray := prog_1_method_5_code
def y_Tide_tide : MethodName := ⟨R_Tide, "tide", "(II)I"⟩
abbrev c_Tide_purse : ByteArray := prog_1_method_6_code
def y_Tide_purse : MethodName := ⟨R_Tide, "purse", "(II)I"⟩
abbrev c_Tide_thing : ByteArray := prog_1_method_7_code
def y_Tide_thing : MethodName := ⟨R_Tide, "thing", "(II)I"⟩
abbrev c_Tide_of : ByteArray := prog_1_method_8_code
def y_Tide_of : MethodName := ⟨R_Tide, "of", "(II)I"⟩
abbrev c_Tide_set : ByteArray := prog_1_method_9_code
def y_Tide_set : MethodName := ⟨R_Tide, "set", "(III)I"⟩
abbrev c_Tide_turn : ByteArray := prog_1_method_10_code
def y_Tide_turn : MethodName := ⟨R_Tide, "turn", "(II)I"⟩
abbrev c_Tide_as : ByteArray := prog_1_method_11_code
def y_Tide_as : MethodName := ⟨R_Tide, "as", "(II)I"⟩
abbrev c_Tide_lay : ByteArray := prog_1_method_12_code
def y_Tide_lay : MethodName := ⟨R_Tide, "lay", "(II)I"⟩
abbrev c_Tide_fetch : ByteArray := prog_1_method_13_code
def y_Tide_fetch : MethodName := ⟨R_Tide, "fetch", "(I)I"⟩
abbrev c_Tide_days : ByteArray := prog_1_method_14_code
def y_Tide_days : MethodName := ⟨R_Tide, "days", "(I)J"⟩
abbrev c_Tide_now : ByteArray := prog_1_method_15_code
def y_Tide_now : MethodName := ⟨R_Tide, "now", "(I)I"⟩
abbrev c_Tide_on : ByteArray := prog_1_method_16_code
def y_Tide_on : MethodName := ⟨R_Tide, "on", "(II)I"⟩
abbrev c_Tide_taken : ByteArray := prog_1_method_17_code
def y_Tide_taken : MethodName := ⟨R_Tide, "taken", "(I)I"⟩
abbrev c_Tide_home : ByteArray := prog_1_method_18_code
def y_Tide_home : MethodName := ⟨R_Tide, "home", "(I)I"⟩
abbrev c_Tide_due : ByteArray := prog_1_method_19_code
def y_Tide_due : MethodName := ⟨R_Tide, "due", "()I"⟩
abbrev c_Tide_spot : ByteArray := prog_1_method_20_code
def y_Tide_spot : MethodName := ⟨R_Tide, "spot", "(II)I"⟩
abbrev c_Tide_delay : ByteArray := prog_1_method_21_code
def y_Tide_delay : MethodName := ⟨R_Tide, "delay", "(III)I"⟩
abbrev c_Tide_kind : ByteArray := prog_1_method_22_code
def y_Tide_kind : MethodName := ⟨R_Tide, "kind", "(II)I"⟩
abbrev c_Tide_worth : ByteArray := prog_1_method_23_code
def y_Tide_worth : MethodName := ⟨R_Tide, "worth", "(III)I"⟩
abbrev c_Tide_richest : ByteArray := prog_1_method_24_code
def y_Tide_richest : MethodName := ⟨R_Tide, "richest", "(I)I"⟩
abbrev c_Tide_fewest : ByteArray := prog_1_method_25_code
def y_Tide_fewest : MethodName := ⟨R_Tide, "fewest", "(III)I"⟩
abbrev c_Tide_rate : ByteArray := prog_1_method_26_code
def y_Tide_rate : MethodName := ⟨R_Tide, "rate", "(II)I"⟩
abbrev c_Tide_feed : ByteArray := prog_1_method_27_code
def y_Tide_feed : MethodName := ⟨R_Tide, "feed", "(II)I"⟩
abbrev c_Tide_wipe : ByteArray := prog_1_method_28_code
def y_Tide_wipe : MethodName := ⟨R_Tide, "wipe", "()I"⟩
abbrev c_Tide_shore : ByteArray := prog_1_method_29_code
def y_Tide_shore : MethodName := ⟨R_Tide, "shore", "()I"⟩
abbrev c_Tide_sheet : ByteArray := prog_1_method_30_code
def y_Tide_sheet : MethodName := ⟨R_Tide, "sheet", "(III)I"⟩
abbrev c_Tide_write : ByteArray := prog_1_method_31_code
def y_Tide_write : MethodName := ⟨R_Tide, "write", "(IIJ)J"⟩
abbrev c_Tide_copy : ByteArray := prog_1_method_32_code
def y_Tide_copy : MethodName := ⟨R_Tide, "copy", "(IIIII)I"⟩
abbrev c_Tide_lays : ByteArray := prog_1_method_33_code
def y_Tide_lays : MethodName := ⟨R_Tide, "lays", "(I)I"⟩
abbrev c_Tide_book : ByteArray := prog_1_method_34_code
def y_Tide_book : MethodName := ⟨R_Tide, "book", "(II)I"⟩
abbrev c_Tide_read : ByteArray := prog_1_method_35_code
def y_Tide_read : MethodName := ⟨R_Tide, "read", "(III)I"⟩
abbrev c_Tide_image : ByteArray := prog_1_method_36_code
def y_Tide_image : MethodName := ⟨R_Tide, "image", "()I"⟩
abbrev c_Tide_undo : ByteArray := prog_1_method_37_code
def y_Tide_undo : MethodName := ⟨R_Tide, "undo", "()I"⟩
abbrev c_Tide_tear : ByteArray := prog_1_method_38_code
def y_Tide_tear : MethodName := ⟨R_Tide, "tear", "()I"⟩
abbrev c_Tide_count : ByteArray := prog_1_method_39_code
def y_Tide_count : MethodName := ⟨R_Tide, "count", "(I)I"⟩
abbrev c_Tide_status : ByteArray := prog_1_method_40_code
def y_Tide_status : MethodName := ⟨R_Tide, "status", "(I)I"⟩
abbrev c_Tide_finding : ByteArray := prog_1_method_41_code
def y_Tide_finding : MethodName := ⟨R_Tide, "finding", "(I)I"⟩
abbrev c_Tide_isBelow : ByteArray := prog_1_method_42_code
def y_Tide_isBelow : MethodName := ⟨R_Tide, "isBelow", "(II)Z"⟩
abbrev c_Tide_isUpTo : ByteArray := prog_1_method_43_code
def y_Tide_isUpTo : MethodName := ⟨R_Tide, "isUpTo", "(III)Z"⟩
abbrev c_Tide_isWidth : ByteArray := prog_1_method_44_code
def y_Tide_isWidth : MethodName := ⟨R_Tide, "isWidth", "(I)Z"⟩
abbrev c_Tide_moonOf : ByteArray := prog_1_method_45_code
def y_Tide_moonOf : MethodName := ⟨R_Tide, "moonOf", "(I)I"⟩
abbrev c_Tide_isSpring : ByteArray := prog_1_method_46_code
def y_Tide_isSpring : MethodName := ⟨R_Tide, "isSpring", "(I)Z"⟩
abbrev c_Tide_markOf : ByteArray := prog_1_method_47_code
def y_Tide_markOf : MethodName := ⟨R_Tide, "markOf", "(I)I"⟩
abbrev c_Tide_springFrom : ByteArray := prog_1_method_48_code
def y_Tide_springFrom : MethodName := ⟨R_Tide, "springFrom", "(I)I"⟩
abbrev c_Tide_kindAbove : ByteArray := prog_1_method_49_code
def y_Tide_kindAbove : MethodName := ⟨R_Tide, "kindAbove", "(I)I"⟩
abbrev c_Tide_isUnder : ByteArray := prog_1_method_50_code
def y_Tide_isUnder : MethodName := ⟨R_Tide, "isUnder", "(II)Z"⟩
abbrev c_Tide_isTaken : ByteArray := prog_1_method_51_code
def y_Tide_isTaken : MethodName := ⟨R_Tide, "isTaken", "(III)Z"⟩
abbrev c_Tide_termOf : ByteArray := prog_1_method_52_code
def y_Tide_termOf : MethodName := ⟨R_Tide, "termOf", "(I)I"⟩
abbrev c_Tide_broughtAs : ByteArray := prog_1_method_53_code
def y_Tide_broughtAs : MethodName := ⟨R_Tide, "broughtAs", "(IJI)J"⟩
abbrev c_Tide_repaid : ByteArray := prog_1_method_54_code
def y_Tide_repaid : MethodName := ⟨R_Tide, "repaid", "(LTideLoans$Thing;III)I"⟩
abbrev c_Tide_owedNow : ByteArray := prog_1_method_55_code
def y_Tide_owedNow : MethodName := ⟨R_Tide, "owedNow", "(LTideLoans$Thing;)I"⟩
abbrev c_Tide_allOwedNow : ByteArray := prog_1_method_56_code
def y_Tide_allOwedNow : MethodName := ⟨R_Tide, "allOwedNow", "()I"⟩
abbrev c_Tide_filled : ByteArray := prog_1_method_57_code
def y_Tide_filled : MethodName := ⟨R_Tide, "filled", "(II)I"⟩
abbrev c_Tide_follow : ByteArray := prog_1_method_58_code
def y_Tide_follow : MethodName := ⟨R_Tide, "follow", "(II)V"⟩
abbrev c_Tide_followAll : ByteArray := prog_1_method_59_code
def y_Tide_followAll : MethodName := ⟨R_Tide, "followAll", "(I)V"⟩
abbrev c_Tide_bring : ByteArray := prog_1_method_60_code
def y_Tide_bring : MethodName := ⟨R_Tide, "bring", "(LTideLoans$Thing;LTideLoans$Way;)V"⟩
abbrev c_Tide_purseThen : ByteArray := prog_1_method_61_code
def y_Tide_purseThen : MethodName := ⟨R_Tide, "purseThen", "(III)I"⟩
abbrev c_Tide_gainAt : ByteArray := prog_1_method_62_code
def y_Tide_gainAt : MethodName := ⟨R_Tide, "gainAt", "(I)J"⟩
abbrev c_Tide_tryOn : ByteArray := prog_1_method_63_code
def y_Tide_tryOn : MethodName := ⟨R_Tide, "tryOn", "(II)I"⟩
abbrev c_Tide_followTrial : ByteArray := prog_1_method_64_code
def y_Tide_followTrial : MethodName := ⟨R_Tide, "followTrial", "(II)V"⟩
abbrev c_Tide_purseWithTrial : ByteArray := prog_1_method_65_code
def y_Tide_purseWithTrial : MethodName := ⟨R_Tide, "purseWithTrial", "(III)I"⟩
abbrev c_Tide_shareOut : ByteArray := prog_1_method_66_code
def y_Tide_shareOut : MethodName := ⟨R_Tide, "shareOut", "(I)I"⟩
abbrev c_Tide_sharesOf : ByteArray := prog_1_method_67_code
def y_Tide_sharesOf : MethodName := ⟨R_Tide, "sharesOf", "(I)I"⟩
abbrev c_Tide_sureThen : ByteArray := prog_1_method_68_code
def y_Tide_sureThen : MethodName := ⟨R_Tide, "sureThen", "(I)I"⟩
abbrev c_Tide_plotCourse : ByteArray := prog_1_method_69_code
def y_Tide_plotCourse : MethodName := ⟨R_Tide, "plotCourse", "(III)V"⟩
abbrev c_Tide_addToCourse : ByteArray := prog_1_method_70_code
def y_Tide_addToCourse : MethodName := ⟨R_Tide, "addToCourse", "(III)V"⟩
abbrev c_Tide_cellsThatFit : ByteArray := prog_1_method_71_code
def y_Tide_cellsThatFit : MethodName := ⟨R_Tide, "cellsThatFit", "(LTideLoans$Sheet;II)I"⟩
abbrev c_Tide_isCourseWith : ByteArray := prog_1_method_72_code
def y_Tide_isCourseWith : MethodName := ⟨R_Tide, "isCourseWith", "(LTideLoans$Sheet;II)Z"⟩
abbrev c_Tide_readText : ByteArray := prog_1_method_73_code
def y_Tide_readText : MethodName := ⟨R_Tide, "readText", "()I"⟩
abbrev c_Tide_readItem : ByteArray := prog_1_method_74_code
def y_Tide_readItem : MethodName := ⟨R_Tide, "readItem", "()Z"⟩
abbrev c_Tide_readThing : ByteArray := prog_1_method_75_code
def y_Tide_readThing : MethodName := ⟨R_Tide, "readThing", "(I)Z"⟩
abbrev c_Tide_readWorth : ByteArray := prog_1_method_76_code
def y_Tide_readWorth : MethodName := ⟨R_Tide, "readWorth", "(LTideLoans$Thing;)Z"⟩
abbrev c_Tide_readPlace : ByteArray := prog_1_method_77_code
def y_Tide_readPlace : MethodName := ⟨R_Tide, "readPlace", "(LTideLoans$Thing;)Z"⟩
abbrev c_Tide_readHeight : ByteArray := prog_1_method_78_code
def y_Tide_readHeight : MethodName := ⟨R_Tide, "readHeight", "()Z"⟩
abbrev c_Tide_readInterest : ByteArray := prog_1_method_79_code
def y_Tide_readInterest : MethodName := ⟨R_Tide, "readInterest", "()Z"⟩
abbrev c_Model_init : ByteArray := prog_8_method_1_code
def y_Model_init : MethodName := ⟨R_Model, "<init>", "()V"⟩
abbrev c_Model_isIn : ByteArray := prog_8_method_2_code
def y_Model_isIn : MethodName := ⟨R_Model, "isIn", "(JJJ)Z"⟩
abbrev c_Model_finds : ByteArray := prog_8_method_3_code
def y_Model_finds : MethodName := ⟨R_Model, "finds", "(I)I"⟩
abbrev c_Model_becomes : ByteArray := prog_8_method_4_code
def y_Model_becomes : MethodName := ⟨R_Model, "becomes", "(II)I"⟩
abbrev c_Model_copyRow : ByteArray := prog_8_method_5_code
def y_Model_copyRow : MethodName := ⟨R_Model, "copyRow", "([I[I)V"⟩
abbrev c_Model_isCell : ByteArray := prog_8_method_6_code
def y_Model_isCell : MethodName := ⟨R_Model, "isCell", "(I)Z"⟩
abbrev c_Model_isFamily : ByteArray := prog_8_method_7_code
def y_Model_isFamily : MethodName := ⟨R_Model, "isFamily", "(I)Z"⟩
abbrev c_Model_isThing : ByteArray := prog_8_method_8_code
def y_Model_isThing : MethodName := ⟨R_Model, "isThing", "(I)Z"⟩
abbrev c_Model_at : ByteArray := prog_8_method_9_code
def y_Model_at : MethodName := ⟨R_Model, "at", "(II)I"⟩
abbrev c_Model_its : ByteArray := prog_8_method_10_code
def y_Model_its : MethodName := ⟨R_Model, "its", "(II)I"⟩
abbrev c_Model_isIt : ByteArray := prog_8_method_11_code
def y_Model_isIt : MethodName := ⟨R_Model, "isIt", "(II)Z"⟩
abbrev c_Model_orNone : ByteArray := prog_8_method_12_code
def y_Model_orNone : MethodName := ⟨R_Model, "orNone", "(I)I"⟩
abbrev c_Model_many : ByteArray := prog_8_method_13_code
def y_Model_many : MethodName := ⟨R_Model, "many", "(I)I"⟩
abbrev c_Model_height : ByteArray := prog_8_method_14_code
def y_Model_height : MethodName := ⟨R_Model, "height", "(II)I"⟩
abbrev c_Model_laidAt : ByteArray := prog_8_method_15_code
def y_Model_laidAt : MethodName := ⟨R_Model, "laidAt", "(I)I"⟩
abbrev c_Model_cell : ByteArray := prog_8_method_16_code
def y_Model_cell : MethodName := ⟨R_Model, "cell", "(II)I"⟩
abbrev c_Model_interest : ByteArray := prog_8_method_17_code
def y_Model_interest : MethodName := ⟨R_Model, "interest", "(I)I"⟩
abbrev c_Model_isSpring : ByteArray := prog_8_method_18_code
def y_Model_isSpring : MethodName := ⟨R_Model, "isSpring", "(I)Z"⟩
abbrev c_Model_mark : ByteArray := prog_8_method_19_code
def y_Model_mark : MethodName := ⟨R_Model, "mark", "(I)I"⟩
abbrev c_Model_tide : ByteArray := prog_8_method_20_code
def y_Model_tide : MethodName := ⟨R_Model, "tide", "(II)I"⟩
abbrev c_Model_purse : ByteArray := prog_8_method_21_code
def y_Model_purse : MethodName := ⟨R_Model, "purse", "(II)I"⟩
abbrev c_Model_comes : ByteArray := prog_8_method_22_code
def y_Model_comes : MethodName := ⟨R_Model, "comes", "(II)V"⟩
abbrev c_Model_thing : ByteArray := prog_8_method_23_code
def y_Model_thing : MethodName := ⟨R_Model, "thing", "(II)I"⟩
abbrev c_Model_term : ByteArray := prog_8_method_24_code
def y_Model_term : MethodName := ⟨R_Model, "term", "(I)I"⟩
abbrev c_Model_repays : ByteArray := prog_8_method_25_code
def y_Model_repays : MethodName := ⟨R_Model, "repays", "(II)I"⟩
abbrev c_Model_wouldRepay : ByteArray := prog_8_method_26_code
def y_Model_wouldRepay : MethodName := ⟨R_Model, "wouldRepay", "(I)I"⟩
abbrev c_Model_of : ByteArray := prog_8_method_27_code
def y_Model_of : MethodName := ⟨R_Model, "of", "(II)I"⟩
abbrev c_Model_set : ByteArray := prog_8_method_28_code
def y_Model_set : MethodName := ⟨R_Model, "set", "(III)I"⟩
abbrev c_Model_turn : ByteArray := prog_8_method_29_code
def y_Model_turn : MethodName := ⟨R_Model, "turn", "(II)I"⟩
abbrev c_Model_as : ByteArray := prog_8_method_30_code
def y_Model_as : MethodName := ⟨R_Model, "as", "(II)I"⟩
abbrev c_Model_lies : ByteArray := prog_8_method_31_code
def y_Model_lies : MethodName := ⟨R_Model, "lies", "(II)V"⟩
abbrev c_Model_lay : ByteArray := prog_8_method_32_code
def y_Model_lay : MethodName := ⟨R_Model, "lay", "(II)I"⟩
abbrev c_Model_fetch : ByteArray := prog_8_method_33_code
def y_Model_fetch : MethodName := ⟨R_Model, "fetch", "(I)I"⟩
abbrev c_Model_isTaken : ByteArray := prog_8_method_34_code
def y_Model_isTaken : MethodName := ⟨R_Model, "isTaken", "(I)Z"⟩
abbrev c_Model_comesHome : ByteArray := prog_8_method_35_code
def y_Model_comesHome : MethodName := ⟨R_Model, "comesHome", "(II)V"⟩
abbrev c_Model_day : ByteArray := prog_8_method_36_code
def y_Model_day : MethodName := ⟨R_Model, "day", "()V"⟩
abbrev c_Model_goes : ByteArray := prog_8_method_37_code
def y_Model_goes : MethodName := ⟨R_Model, "goes", "(I)V"⟩
abbrev c_Model_purses : ByteArray := prog_8_method_38_code
def y_Model_purses : MethodName := ⟨R_Model, "purses", "()J"⟩
abbrev c_Model_days : ByteArray := prog_8_method_39_code
def y_Model_days : MethodName := ⟨R_Model, "days", "(I)J"⟩
abbrev c_Model_thoseThatAre : ByteArray := prog_8_method_40_code
def y_Model_thoseThatAre : MethodName := ⟨R_Model, "thoseThatAre", "(I)I"⟩
abbrev c_Model_now : ByteArray := prog_8_method_41_code
def y_Model_now : MethodName := ⟨R_Model, "now", "(I)I"⟩
abbrev c_Model_purseOn : ByteArray := prog_8_method_42_code
def y_Model_purseOn : MethodName := ⟨R_Model, "purseOn", "(II)I"⟩
abbrev c_Model_on : ByteArray := prog_8_method_43_code
def y_Model_on : MethodName := ⟨R_Model, "on", "(II)I"⟩
abbrev c_Model_whenIt : ByteArray := prog_8_method_44_code
def y_Model_whenIt : MethodName := ⟨R_Model, "whenIt", "(II)I"⟩
abbrev c_Model_taken : ByteArray := prog_8_method_45_code
def y_Model_taken : MethodName := ⟨R_Model, "taken", "(I)I"⟩
abbrev c_Model_home : ByteArray := prog_8_method_46_code
def y_Model_home : MethodName := ⟨R_Model, "home", "(I)I"⟩
abbrev c_Model_due : ByteArray := prog_8_method_47_code
def y_Model_due : MethodName := ⟨R_Model, "due", "()I"⟩
abbrev c_Model_pursesOn : ByteArray := prog_8_method_48_code
def y_Model_pursesOn : MethodName := ⟨R_Model, "pursesOn", "(I)J"⟩
abbrev c_Model_spot : ByteArray := prog_8_method_49_code
def y_Model_spot : MethodName := ⟨R_Model, "spot", "(II)I"⟩
abbrev c_Model_delay : ByteArray := prog_8_method_50_code
def y_Model_delay : MethodName := ⟨R_Model, "delay", "(III)I"⟩
abbrev c_Model_kind : ByteArray := prog_8_method_51_code
def y_Model_kind : MethodName := ⟨R_Model, "kind", "(II)I"⟩
abbrev c_Model_worth : ByteArray := prog_8_method_52_code
def y_Model_worth : MethodName := ⟨R_Model, "worth", "(III)I"⟩
abbrev c_Model_richest : ByteArray := prog_8_method_53_code
def y_Model_richest : MethodName := ⟨R_Model, "richest", "(I)I"⟩
abbrev c_Model_fewest : ByteArray := prog_8_method_54_code
def y_Model_fewest : MethodName := ⟨R_Model, "fewest", "(III)I"⟩
abbrev c_Model_rate : ByteArray := prog_8_method_55_code
def y_Model_rate : MethodName := ⟨R_Model, "rate", "(II)I"⟩
abbrev c_Model_feed : ByteArray := prog_8_method_56_code
def y_Model_feed : MethodName := ⟨R_Model, "feed", "(II)I"⟩
abbrev c_Model_wipe : ByteArray := prog_8_method_57_code
def y_Model_wipe : MethodName := ⟨R_Model, "wipe", "()I"⟩
abbrev c_Model_isLetter : ByteArray := prog_8_method_58_code
def y_Model_isLetter : MethodName := ⟨R_Model, "isLetter", "(I)Z"⟩
abbrev c_Model_isDigit : ByteArray := prog_8_method_59_code
def y_Model_isDigit : MethodName := ⟨R_Model, "isDigit", "(I)Z"⟩
abbrev c_Model_byteAt : ByteArray := prog_8_method_60_code
def y_Model_byteAt : MethodName := ⟨R_Model, "byteAt", "(I)I"⟩
abbrev c_Model_nextToken : ByteArray := prog_8_method_61_code
def y_Model_nextToken : MethodName := ⟨R_Model, "nextToken", "()V"⟩
abbrev c_Model_has3 : ByteArray := prog_8_method_62_code
def y_Model_has3 : MethodName := ⟨R_Model, "has3", "(IIII)Z"⟩
abbrev c_Model_isWord : ByteArray := prog_8_method_63_code
def y_Model_isWord : MethodName := ⟨R_Model, "isWord", "(I)Z"⟩
abbrev c_Model_fails : ByteArray := prog_8_method_64_code
def y_Model_fails : MethodName := ⟨R_Model, "fails", "()Z"⟩
abbrev c_Model_isFive : ByteArray := prog_8_method_66_code
def y_Model_isFive : MethodName := ⟨R_Model, "isFive", "(IIIII)Z"⟩
abbrev c_Model_isSix : ByteArray := prog_8_method_67_code
def y_Model_isSix : MethodName := ⟨R_Model, "isSix", "(IIIIII)Z"⟩
abbrev c_Model_kindHere : ByteArray := prog_8_method_68_code
def y_Model_kindHere : MethodName := ⟨R_Model, "kindHere", "()I"⟩
abbrev c_Model_isNumber : ByteArray := prog_8_method_69_code
def y_Model_isNumber : MethodName := ⟨R_Model, "isNumber", "(II)Z"⟩
abbrev c_Model_isTwo : ByteArray := prog_8_method_70_code
def y_Model_isTwo : MethodName := ⟨R_Model, "isTwo", "(II)Z"⟩
abbrev c_Model_thingHere : ByteArray := prog_8_method_71_code
def y_Model_thingHere : MethodName := ⟨R_Model, "thingHere", "(I)Z"⟩
abbrev c_Model_heightHere : ByteArray := prog_8_method_72_code
def y_Model_heightHere : MethodName := ⟨R_Model, "heightHere", "()Z"⟩
abbrev c_Model_interestHere : ByteArray := prog_8_method_73_code
def y_Model_interestHere : MethodName := ⟨R_Model, "interestHere", "()Z"⟩
abbrev c_Model_itemHere : ByteArray := prog_8_method_74_code
def y_Model_itemHere : MethodName := ⟨R_Model, "itemHere", "()Z"⟩
abbrev c_Model_shore : ByteArray := prog_8_method_75_code
def y_Model_shore : MethodName := ⟨R_Model, "shore", "()I"⟩
abbrev c_Model_isSheet : ByteArray := prog_8_method_76_code
def y_Model_isSheet : MethodName := ⟨R_Model, "isSheet", "(I)Z"⟩
abbrev c_Model_narrow : ByteArray := prog_8_method_77_code
def y_Model_narrow : MethodName := ⟨R_Model, "narrow", "(IJ)J"⟩
abbrev c_Model_sheet : ByteArray := prog_8_method_78_code
def y_Model_sheet : MethodName := ⟨R_Model, "sheet", "(III)I"⟩
abbrev c_Model_write : ByteArray := prog_8_method_79_code
def y_Model_write : MethodName := ⟨R_Model, "write", "(IIJ)J"⟩
abbrev c_Model_copy : ByteArray := prog_8_method_80_code
def y_Model_copy : MethodName := ⟨R_Model, "copy", "(IIIII)I"⟩
abbrev c_Model_wants : ByteArray := prog_8_method_81_code
def y_Model_wants : MethodName := ⟨R_Model, "wants", "(I)I"⟩
abbrev c_Model_lays : ByteArray := prog_8_method_82_code
def y_Model_lays : MethodName := ⟨R_Model, "lays", "(I)I"⟩
abbrev c_Model_book : ByteArray := prog_8_method_83_code
def y_Model_book : MethodName := ⟨R_Model, "book", "(II)I"⟩
abbrev c_Model_isTold : ByteArray := prog_8_method_84_code
def y_Model_isTold : MethodName := ⟨R_Model, "isTold", "(II)Z"⟩
abbrev c_Model_read : ByteArray := prog_8_method_85_code
def y_Model_read : MethodName := ⟨R_Model, "read", "(III)I"⟩
abbrev c_Model_image : ByteArray := prog_8_method_86_code
def y_Model_image : MethodName := ⟨R_Model, "image", "()I"⟩
abbrev c_Model_undo : ByteArray := prog_8_method_87_code
def y_Model_undo : MethodName := ⟨R_Model, "undo", "()I"⟩
abbrev c_Model_tear : ByteArray := prog_8_method_88_code
def y_Model_tear : MethodName := ⟨R_Model, "tear", "()I"⟩
abbrev c_Model_count : ByteArray := prog_8_method_89_code
def y_Model_count : MethodName := ⟨R_Model, "count", "(I)I"⟩
abbrev c_Model_status : ByteArray := prog_8_method_90_code
def y_Model_status : MethodName := ⟨R_Model, "status", "(I)I"⟩
abbrev c_Integer_bitCount : ByteArray := prog_9_method_49_code
def y_Integer_bitCount : MethodName := ⟨R_Integer, "bitCount", "(I)I"⟩
abbrev c_Math_max : ByteArray := prog_10_method_65_code
def y_Math_max : MethodName := ⟨R_Math, "max", "(II)I"⟩
abbrev c_Math_min : ByteArray := prog_10_method_69_code
def y_Math_min : MethodName := ⟨R_Math, "min", "(II)I"⟩
abbrev c_Math_minL : ByteArray := prog_10_method_70_code
def y_Math_minL : MethodName := ⟨R_Math, "min", "(JJ)J"⟩
abbrev c_String_length : ByteArray := prog_11_method_54_code
def y_String_length : MethodName := ⟨R_String, "length", "()I"⟩
abbrev c_String_charAt : ByteArray := prog_11_method_56_code
def y_String_charAt : MethodName := ⟨R_String, "charAt", "(I)C"⟩
abbrev c_String_coder : ByteArray := prog_11_method_152_code
def y_String_coder : MethodName := ⟨R_String, "coder", "()B"⟩
abbrev c_String_isLatin1 : ByteArray := prog_11_method_154_code
def y_String_isLatin1 : MethodName := ⟨R_String, "isLatin1", "()Z"⟩
abbrev c_String_checkIndex : ByteArray := prog_11_method_155_code
def y_String_checkIndex : MethodName := ⟨R_String, "checkIndex", "(II)V"⟩
abbrev c_Latin_charAt : ByteArray := prog_12_method_2_code
def y_Latin_charAt : MethodName := ⟨R_Latin, "charAt", "([BI)C"⟩
abbrev c_Utf_getChar : ByteArray := prog_13_method_5_code
def y_Utf_getChar : MethodName := ⟨R_Utf, "getChar", "([BI)C"⟩
abbrev c_Utf_length : ByteArray := prog_13_method_6_code
def y_Utf_length : MethodName := ⟨R_Utf, "length", "([B)I"⟩
abbrev c_Utf_charAt : ByteArray := prog_13_method_83_code
def y_Utf_charAt : MethodName := ⟨R_Utf, "charAt", "([BI)C"⟩
abbrev c_Utf_checkIndex : ByteArray := prog_13_method_91_code
def y_Utf_checkIndex : MethodName := ⟨R_Utf, "checkIndex", "(I[B)V"⟩
abbrev c_Pre_checkIndex : ByteArray := prog_15_method_11_code
def y_Pre_checkIndex : MethodName := ⟨R_Pre, "checkIndex", "(IILjava/util/function/BiFunction;)I"⟩
end
section
/-! the words that are steady, out of the tables' -/
def tb : List Cond := lw_tbl.filter goodWord
theorem tbm {w : Cond} (i : Nat) (h : lw_tbl[i]? = some w) (g : goodWord w = true) : w ∈ tb := List.mem_filter.mpr ⟨List.mem_of_getElem? h, g⟩
theorem tb_good {ws : List Cond} (hw : ∀ w ∈ ws, w ∈ tb) : GoodIn tb ws := fun w h => ⟨hw w h, good_of_word (List.mem_filter.mp (hw w h)).2⟩
theorem tb_code {y : MethodName} {b : ByteArray} {n : Nat} {r : Option FieldType} (h : Cond.code y b n r ∈ tb) : GoodIn tb (Cond.code y b n r :: tb) := tb_good (fun w hw => (List.mem_cons.mp hw).elim (fun e => e ▸ h) id)
/-! the memory: ints and longs by node and slot -/
abbrev Mem : Type := (Nat → Nat → Int32) × (Nat → Nat → Int64)
def gI (X : Mem) (k j : Nat) : Int32 := X.1 k j
def gL (X : Mem) (k j : Nat) : Int64 := X.2 k j
def sI (X : Mem) (k j : Nat) (v : Int32) : Mem := (fun a b => if a = k ∧ b = j then v else X.1 a b, X.2)
def sL (X : Mem) (k j : Nat) (v : Int64) : Mem := (X.1, fun a b => if a = k ∧ b = j then v else X.2 a b)
def cI (X : Mem) (k0 k1 sp dp n : Nat) : Mem := (fun a b => if a = k1 then va_cpy (X.1 k0) (X.1 k1) sp dp n b else X.1 a b, X.2)
def cL (X : Mem) (k0 k1 sp dp n : Nat) : Mem := (X.1, fun a b => if a = k1 then va_cpy (X.2 k0) (X.2 k1) sp dp n b else X.2 a b)
/-! the functions' words -/
def lt {α β : Type} (a : α) (f : α → β) : β := f a
def ck (i : Int32) (n : Nat) : Bool := decide (0 ≤ i.toInt) && decide (i.toInt < (n : Int))
def rdI {β : Type} (X : Mem) (k n : Nat) (i : Int32) (G : Int32 → Option β) : Option β := if ck i n = true then G (gI X k i.toNatClampNeg) else none
def rdL {β : Type} (X : Mem) (k n : Nat) (i : Int32) (G : Int64 → Option β) : Option β := if ck i n = true then G (gL X k i.toNatClampNeg) else none
def rdR {β : Type} (n : Nat) (i : Int32) (G : Nat → Option β) : Option β := if ck i n = true then G i.toNatClampNeg else none
def wrI {β : Type} (X : Mem) (k n : Nat) (i v : Int32) (G : Mem → Option β) : Option β := if ck i n = true then G (sI X k i.toNatClampNeg v) else none
def wrB {β : Type} (X : Mem) (k n : Nat) (i v : Int32) (G : Mem → Option β) : Option β := if ck i n = true then G (sI X k i.toNatClampNeg v.toInt8.toInt32) else none
def wrL {β : Type} (X : Mem) (k n : Nat) (i : Int32) (v : Int64) (G : Mem → Option β) : Option β := if ck i n = true then G (sL X k i.toNatClampNeg v) else none
def ckC (n0 n1 : Nat) (sp dp n : Int32) : Bool := decide (0 ≤ sp.toInt) && decide (0 ≤ dp.toInt) && decide (0 ≤ n.toInt) && decide (sp.toNatClampNeg + n.toNatClampNeg ≤ n0) && decide (dp.toNatClampNeg + n.toNatClampNeg ≤ n1)
def acI {β : Type} (X : Mem) (k0 n0 : Nat) (sp : Int32) (k1 n1 : Nat) (dp n : Int32) (G : Mem → Option β) : Option β := if ckC n0 n1 sp dp n = true then G (cI X k0 k1 sp.toNatClampNeg dp.toNatClampNeg n.toNatClampNeg) else none
def acL {β : Type} (X : Mem) (k0 n0 : Nat) (sp : Int32) (k1 n1 : Nat) (dp n : Int32) (G : Mem → Option β) : Option β := if ckC n0 n1 sp dp n = true then G (cL X k0 k1 sp.toNatClampNeg dp.toNatClampNeg n.toNatClampNeg) else none
def ckZ {β : Type} (v : Int32) (G : Option β) : Option β := if v = 0 ∨ v = 1 then G else none
def bd {α β : Type} (o : Option α) (G : α → Option β) : Option β := match o with
  | none => none
  | some a => G a
def bd2 {α γ β : Type} (o : Option (α × γ)) (G : α → γ → Option β) : Option β := match o with
  | none => none
  | some a => G a.1 a.2
def it {α β : Type} (f : α → Option (β ⊕ α)) : Nat → α → Option β
  | 0, _ => none
  | n + 1, a => match f a with
    | none => none
    | some (.inl b) => some b
    | some (.inr a2) => it f n a2
def fin {α β : Type} (f : α → Option (β ⊕ α)) (n : Nat) (fr : β) (c : β ⊕ α) : Prop := match c with
  | .inl b => b = fr
  | .inr a => it f n a = some fr
def upc {α β : Type} (o : Option β) : Option (β ⊕ α) := match o with
  | none => none
  | some b => some (.inl b)
def FU : Nat := 5000
theorem bd_el {α β : Type} {o : Option α} {G : α → Option β} {r : β} (h : bd o G = some r) : ∃ a, o = some a ∧ G a = some r := by
  cases o with
  | none => cases h
  | some a => exact ⟨a, rfl, h⟩
theorem bd2_el {α γ β : Type} {o : Option (α × γ)} {G : α → γ → Option β} {r : β} (h : bd2 o G = some r) : ∃ a b, o = some (a, b) ∧ G a b = some r := by
  cases o with
  | none => cases h
  | some a => exact ⟨a.1, a.2, rfl, h⟩
theorem it_el {α β : Type} {f : α → Option (β ⊕ α)} {n : Nat} {a : α} {fr : β} (h : it f (n + 1) a = some fr) : ∃ c, f a = some c ∧ fin f n fr c := by
  unfold it at h
  cases hf : f a with
  | none => rw [hf] at h; cases h
  | some c =>
    rw [hf] at h
    cases c with
    | inl b => exact ⟨_, rfl, Option.some.inj h⟩
    | inr a2 => exact ⟨_, rfl, h⟩
theorem it_0 {α β : Type} {f : α → Option (β ⊕ α)} {a : α} {fr : β} {P : Prop} (h : it f 0 a = some fr) : P := by cases h
theorem lp_ret {α β : Type} {f : α → Option (β ⊕ α)} {n : Nat} {fr b : β} {c : β ⊕ α} (h : some (Sum.inl b) = some c) (hc : fin f n fr c) : some b = some fr := by
  cases h; exact congrArg some hc
theorem lp_next {α β : Type} {f : α → Option (β ⊕ α)} {n : Nat} {fr : β} {a : α} {c : β ⊕ α} (h : some (Sum.inr a) = some c) (hc : fin f n fr c) : it f n a = some fr := by
  cases h; exact hc
theorem lp_up {α β : Type} {f : α → Option (β ⊕ α)} {n : Nat} {fr : β} {o : Option β} {c : β ⊕ α} (h : upc o = some c) (hc : fin f n fr c) : o = some fr := by
  cases o with
  | none => cases h
  | some b => cases h; exact congrArg some hc
theorem ck_in {i : Int32} {n : Nat} (h : ck i n = true) : vp_in i n := by
  unfold ck at h
  simp only [Bool.and_eq_true, decide_eq_true_eq] at h
  exact vp_in_iff.mpr h
theorem ck_lt {i : Int32} {n : Nat} (h : ck i n = true) : i.toNatClampNeg < n := by
  unfold ck at h
  simp only [Bool.and_eq_true, decide_eq_true_eq] at h
  have : i.toInt.toNat < n := by omega
  exact this
/-! the world: eighty nodes, what each is, and what it holds -/
def kdl : List Nat := [0, 1007, 1, 1016, 1004, 4000, 2, 2, 2, 2, 2, 2, 2, 2, 2, 2, 1, 1016, 1004, 4000, 2, 2, 2, 2, 2, 2, 2, 2, 2, 2, 1, 1016, 1004, 4000, 2, 2, 2, 2, 2, 2, 2, 2, 2, 2, 5, 2120, 4001, 4002, 1010, 1040, 2, 3, 4, 3040, 4, 3040, 4, 3040, 4, 3040, 3, 3, 3, 3, 3, 3, 3, 3, 3, 3, 6, 1083, 1083, 1083, 1083, 1008, 1120, 1004, 1004, 3160]
def kd (k : Nat) : Nat := kdl.getD k 9999
theorem kd_lt {k q : Nat} (h : kd k = q) (hq : q ≠ 9999) : k < 80 := by
  rcases Nat.lt_or_ge k 80 with h1 | h1
  · exact h1
  · have : kd k = 9999 := by
      unfold kd
      rw [List.getD_eq_getElem?_getD, List.getElem?_eq_none (by simpa [kdl] using h1)]
      rfl
    exact absurd (h.symm.trans this) hq
abbrev En : Type := va_G × (Nat → Nat) × (Nat → ClassId) × (Nat → Nat) × (Nat → Nat)
def ad (E : En) (k : Nat) : Nat := E.2.1 k
def ca (E : En) (k : Nat) : ClassId := E.2.2.1 k
def eK (E : En) (k : Nat) : Nat := E.2.2.2.1 k
def eV (E : En) (k : Nat) : Nat := E.2.2.2.2 k
abbrev cls : List vw_C := [(R_Sheet, T_Sheet, 3), (R_Shore, T_Shore, 6), (R_Tape, T_Tape, 6), (R_Thing, T_Thing, 6), (R_Way, T_Way, 5), (R_Tide, T_Tide, 12), (R_Model, T_Model, 16)]
def tys (E : En) : List (ClassId × FieldType) := [(ca E 0, .int), (ca E 1, .byte), (ca E 2, .long), (ca E 3, .object "TideLoans$Thing"), (ca E 4, .object "TideLoans$Sheet"), (ca E 5, .object "TideLoans$Way")]
def cel (E : En) (X : Mem) (k : Nat) : va_E := match kd k with
  | 0 => .inr (5, [.ref (ad E 1), .ref (ad E 2), .ref (ad E 16), .ref (ad E 30), .ref (ad E 44), .ref (ad E 46), .ref (ad E 47), .ref (ad E 48), .ref (ad E 49), .ref (ad E 50), .ref (ad E 51), .int (gI X k 11)])
  | 1 => .inr (1, [.ref (ad E (k + 1)), .ref (ad E (k + 2)), .ref (ad E (k + 3)), .int (gI X k 3), .int (gI X k 4), .int (gI X k 5)])
  | 2 => .inr (3, [.int (gI X k 0), .int (gI X k 1), .int (gI X k 2), .int (gI X k 3), .int (gI X k 4), .int (gI X k 5)])
  | 3 => .inr (4, [.int (gI X k 0), .int (gI X k 1), .int (gI X k 2), .int (gI X k 3), .int (gI X k 4)])
  | 4 => .inr (0, [.ref (ad E (k + 1)), .int (gI X k 1), .int (gI X k 2)])
  | 5 => .inr (2, [.ref (ad E 45), .int (gI X k 1), .int (gI X k 2), .int (gI X k 3), .int (gI X k 4), .int (gI X k 5)])
  | 6 => .inr (6, [.ref (ad E 71), .ref (ad E 72), .ref (ad E 73), .ref (ad E 74), .int (gI X k 4), .ref (ad E 75), .ref (ad E 76), .int (gI X k 7), .ref (ad E 77), .ref (ad E 78), .ref (ad E 79), .int (gI X k 11), .int (gI X k 12), .int (gI X k 13), .int (gI X k 14), .int (gI X k 15)])
  | 4000 => .inl (ca E 3, 10, .inr (.inr (.inr (.inr (fun i => some (ad E (k + 1 + i)))))))
  | 4001 => .inl (ca E 4, 4, .inr (.inr (.inr (.inr (fun i => some (ad E (52 + 2 * i)))))))
  | 4002 => .inl (ca E 5, 10, .inr (.inr (.inr (.inr (fun i => some (ad E (60 + i)))))))
  | q => if q < 2000 then .inl (ca E 0, q - 1000, .inl (fun j => gI X k j)) else if q < 3000 then .inl (ca E 1, q - 2000, .inl (fun j => gI X k j)) else .inl (ca E 2, q - 3000, .inr (.inl (fun j => gL X k j)))
def wl (E : En) (X : Mem) : va_W := (List.range 80).map (fun k => (ad E k, cel E X k))
theorem wl_get {E : En} {X : Mem} {k : Nat} (h : k < 80) : (wl E X)[k]? = some (ad E k, cel E X k) := by
  unfold wl
  rw [List.getElem?_map, List.getElem?_range h]
  rfl
theorem cel_congr {E : En} {X Y : Mem} {k : Nat} (h1 : X.1 k = Y.1 k) (h2 : X.2 k = Y.2 k) : cel E X k = cel E Y k := by
  unfold cel gI gL
  rw [h1, h2]
theorem wl_set {E : En} {X Y : Mem} {k : Nat} (hk : k < 80) (h1 : ∀ a, a ≠ k → X.1 a = Y.1 a) (h2 : ∀ a, a ≠ k → X.2 a = Y.2 a) : (wl E X).set k (ad E k, cel E Y k) = wl E Y := by
  apply List.ext_getElem?
  intro i
  by_cases hi : i = k
  · subst hi
    rw [List.getElem?_set_self (by unfold wl; simpa using hk), wl_get hk]
  · rw [List.getElem?_set_ne (Ne.symm hi)]
    by_cases h80 : i < 80
    · rw [wl_get h80, wl_get h80, cel_congr (h1 i hi) (h2 i hi)]
    · rw [List.getElem?_eq_none (by unfold wl; simpa using h80), List.getElem?_eq_none (by unfold wl; simpa using h80)]
def Ad (E : En) : Nat → Prop := fun q => ∃ k, k < 80 ∧ q = ad E k
theorem wl_D {E : En} {X : Mem} (hi : ∀ i j, i < 80 → j < 80 → ad E i = ad E j → i = j) : va_D (Ad E) (wl E X) := by
  have key : ∀ (k : Nat) (q : Nat × va_E), (wl E X)[k]? = some q → k < 80 ∧ q.1 = ad E k := by
    intro k q h
    have hk : k < 80 := by
      have := (List.getElem?_eq_some_iff.mp h).1
      unfold wl at this
      simpa using this
    rw [wl_get hk] at h
    cases h
    exact ⟨hk, rfl⟩
  refine ⟨fun i j p q h1 h2 e => ?_, fun k q h => ?_⟩
  · obtain ⟨a1, b1⟩ := key i p h1
    obtain ⟨a2, b2⟩ := key j q h2
    exact hi i j a1 a2 (b1.symm.trans (e.trans b2))
  · obtain ⟨a1, b1⟩ := key k q h
    exact ⟨k, a1, b1⟩
/-! what a method's start knows of the tables and of the constant cells -/
def so (i : Nat) : String := if i < 6 then R_Tape else R_Tide
def si (i : Nat) : Nat := [61, 63, 65, 67, 69, 71, 377, 392, 393, 364, 373].getD i 0
def st (i : Nat) : String := ["named", "grudge", "moonless", "twice", "glass", "chair", "of", "worth", "at", "height", "interest"].getD i ""
def slen : List Nat := [5, 6, 8, 5, 5, 5, 2, 5, 2, 6, 8]
def sbyt : List (List Int32) := [[110, 97, 109, 101, 100], [103, 114, 117, 100, 103, 101], [109, 111, 111, 110, 108, 101, 115, 115], [116, 119, 105, 99, 101], [103, 108, 97, 115, 115], [99, 104, 97, 105, 114], [111, 102], [119, 111, 114, 116, 104], [97, 116], [104, 101, 105, 103, 104, 116], [105, 110, 116, 101, 114, 101, 115, 116]]
def St (E : En) (U : State) : Prop := (∀ i, i < 11 → vk_R (so i) (si i) (st i) (eK E i) U) ∧ vk_S 11 slen sbyt (eK E) (eV E) (Ad E) U U.heap ∧ va_Z "java/lang/String" "COMPACT_STRINGS" "Z" (.int 1) (Ad E) U U.heap
def isNest : Cond → Bool
  | .methodLinkNest .. => true
  | _ => false
def nst : List Cond := lw_tbl.filter isNest
theorem nsm {w : Cond} (i : Nat) (h : lw_tbl[i]? = some w) (g : isNest w = true) : w ∈ nst := List.mem_filter.mpr ⟨List.mem_of_getElem? h, g⟩
def Kx (E : En) (U : State) : Prop := va_K E.1 cls (tys E) U ∧ (∀ i j, i < 80 → j < 80 → ad E i = ad E j → i = j) ∧ (∀ w ∈ nst, va_Nw w U) ∧ St E U
theorem nst_warm {w : Cond} (hw : w ∈ nst) {s U : State} (hW : s.WarmedH U.vm) (h : va_Nw w s) : va_Nw w U := by
  have h1 := (List.mem_filter.mp hw).2
  cases w <;> first | exact va_Nw.warmM hW h | (cases h1)
theorem nst_same {w : Cond} (hw : w ∈ nst) {s U : State} (hW : s.vm = U.vm) (h : va_Nw w s) : va_Nw w U := by
  have h1 := (List.mem_filter.mp hw).2
  cases w <;> first | exact va_Nw.same rfl hW h | (cases h1)
theorem Kx.warm {E : En} {s U : State} (h : Kx E s) (hW : s.WarmedH U.vm) (hq : ∀ a : Nat, a < s.heap.size → ¬ Ad E a → U.heap[a]? = s.heap[a]?) : Kx E U := by
  obtain ⟨h1, h2, h3, h4, h5, h6⟩ := h
  exact ⟨va_K.moved hW.alike h1, h2, fun w hw => nst_warm hw hW (h3 w hw), fun i hi => (h4 i hi).warm hW, (vk_S.moved hW.alike h5).kept hq, (va_Z.moved hW.alike h6).kept hq⟩
theorem Kx.calling {E : En} {U : State} {g : JFrame} {mk : MethodId} {a : Array Value} (h : Kx E U) : Kx E (U.calling g mk a) := by
  obtain ⟨h1, h2, h3, h4, h5, h6⟩ := h
  exact ⟨va_K.moved (u := U) (U := U.calling g mk a) (Vm.Alike.refl U.vm) h1, h2, fun w hw => nst_same hw (s := U) (U := U.calling g mk a) rfl (h3 w hw), fun i hi => (h4 i hi).same rfl, vk_S.moved (u := U) (U := U.calling g mk a) (Vm.Alike.refl U.vm) h5, va_Z.moved (u := U) (U := U.calling g mk a) (Vm.Alike.refl U.vm) h6⟩
def Hs (E : En) (H0 : Heap) (X : Mem) (H : Heap) (locs : List Loc) : Prop := va_P E.1 cls (wl E X) H ∧ va_S (Ad E) H0 H locs
def PreC (E : En) (av : List Value) (X : Mem) : Array Value → State → Prop := va_Pc av (fun U => Kx E U ∧ va_P E.1 cls (wl E X) U.heap)
def PostI (E : En) (r : Int32) (X : Mem) : Array Value → State → Outcome → State → Prop := va_Qi (S := Unit) (fun v _ => v = r) (fun _ t => va_P E.1 cls (wl E X) t.heap) (Ad E)
def PostL (E : En) (r : Int64) (X : Mem) : Array Value → State → Outcome → State → Prop := va_Ql (S := Unit) (fun v _ => v = r) (fun _ t => va_P E.1 cls (wl E X) t.heap) (Ad E)
def PostV (E : En) (X : Mem) : Array Value → State → Outcome → State → Prop := va_Qv (S := Unit) (fun _ => True) (fun _ t => va_P E.1 cls (wl E X) t.heap) (Ad E)
def PostR (E : En) (r : Nat) (X : Mem) : Array Value → State → Outcome → State → Prop := va_Qr (S := Unit) (fun _ => True) (fun _ a t => a = eK E r ∧ va_P E.1 cls (wl E X) t.heap) (Ad E)
theorem PreC.blind {E : En} {av : List Value} {X : Mem} : FrameBlind (PreC E av X) := fun _ _ _ _ q => ⟨q.1, q.2.1.calling, q.2.2⟩
/-- the context of a walk -/
def Cx (p : Program) (s : State) (m : MethodId) (args : Array Value) (meth : Method) (c : Code) (cc : ByteArray) (nL : Nat) (own : String) (ret : Option FieldType) (E : En) : Prop :=
  p.tables.exec = Jvm.exec ∧ c.code = cc ∧ c.maxLocals = nL ∧ s.vm.findClass own = some m.cls ∧ (∀ w ∈ tb, w.before args s = true) ∧ meth.sig.returnType = ret ∧ meth.locks = false ∧ Kx E s
theorem met_of {l : Launch} {y : MethodName} {cc : ByteArray} {nL : Nat} {ret : Option FieldType} {rm : Room} {E : En} {av : List Value} {X : Mem} {Qc : Array Value → State → Outcome → State → Prop} (hy : plainName y.cls = true) (hn : (lg_sl av).length ≤ nL)
    (body : ∀ (p : Program) (e : Env) (s : State) (m : MethodId) (below : List Frame) (meth : Method) (c : Code), Cx p s m av.toArray meth c cc nL y.cls ret E → Hs E s.heap X s.heap [] → ∀ ls : Array Slot, lv_has ls nL (lv_args 0 av) →
      W p l e rm s m av.toArray below meth c s.heap [] 0 0 (MQ below Qc av.toArray s 0 0 (Ad E)) (F0 m 0 ls [])) : Met l y (Cond.code y cc nL ret :: tb) rm (PreC E av X) Qc 0 0 (Ad E) := by
  refine Met.ofW (cc := cc) (maxL := nL) (ret := ret) hy rfl ?_
  intro p e s m args below meth c s₁ B hml hv
  obtain ⟨rfl, hKx, hP⟩ := hv
  have hl := lv_entry av (n := nL) hn
  rw [lg_entry_eq]
  generalize (lg_sl av ++ List.replicate (nL - (lg_sl av).length) Slot.unset).toArray = ls at hl ⊢
  exact body p e s m below meth c ⟨B.exec, B.bytes, hml, findClass_of_methodNamed B.named, fun w hw => atoms_spec (ws := Cond.code y cc nL ret :: tb) B.pre w (List.mem_cons_of_mem _ hw), B.returns, B.notSynchronized, hKx⟩ ⟨hP, va_S.rf⟩ ls hl
theorem sI_1 {X : Mem} {k j : Nat} {v : Int32} {a : Nat} (ha : a ≠ k) : X.1 a = (sI X k j v).1 a := by
  funext b
  show X.1 a b = if a = k ∧ b = j then v else X.1 a b
  rw [if_neg (fun q => ha q.1)]
theorem sL_1 {X : Mem} {k j : Nat} {v : Int64} {a : Nat} (ha : a ≠ k) : X.2 a = (sL X k j v).2 a := by
  funext b
  show X.2 a b = if a = k ∧ b = j then v else X.2 a b
  rw [if_neg (fun q => ha q.1)]
theorem sI_row {X : Mem} {k j : Nat} {v : Int32} : (fun b => gI (sI X k j v) k b) = upd (fun b => gI X k b) j v := by
  funext b
  show (if k = k ∧ b = j then v else X.1 k b) = upd (fun b => X.1 k b) j v b
  by_cases hb : b = j
  · subst hb; rw [if_pos ⟨rfl, rfl⟩, pk_us]
  · rw [if_neg (fun q => hb q.2), pk_un hb]
theorem sL_row {X : Mem} {k j : Nat} {v : Int64} : (fun b => gL (sL X k j v) k b) = vp_updL (fun b => gL X k b) j v := by
  funext b
  show (if k = k ∧ b = j then v else X.2 k b) = vp_updL (fun b => X.2 k b) j v b
  by_cases hb : b = j
  · subst hb; rw [if_pos ⟨rfl, rfl⟩, pk_uLs]
  · rw [if_neg (fun q => hb q.2), pk_uLn hb]
section RW
variable {p : Program} {l : Launch} {e : Env} {R : Room} {s : State} {m : MethodId} {args : Array Value} {below : List Frame} {meth : Method} {c : Code} {H : Heap} {locs : List Loc} {cells slots : Nat} {Q : State → Prop}
variable {cc : ByteArray} {nL : Nat} {own : String} {ret : Option FieldType} {E : En} {X : Mem} {pc : Nat} {ls : Array Slot} {rest : List Value} {β : Type} {fr : β}
theorem r_top {F : Int32 → Option β} {x : Int32} (h : lt x F = some fr) (kk : ∀ v, F v = some fr → W p l e R s m args below meth c H locs cells slots Q (F0 m pc ls (.int v :: rest))) : W p l e R s m args below meth c H locs cells slots Q (F0 m pc ls (.int x :: rest)) := kk x h
theorem r_topL {F : Int64 → Option β} {x : Int64} (h : lt x F = some fr) (kk : ∀ v, F v = some fr → W p l e R s m args below meth c H locs cells slots Q (F0 m pc ls (.long v :: rest))) : W p l e R s m args below meth c H locs cells slots Q (F0 m pc ls (.long x :: rest)) := kk x h
/-- a field, any -/
theorem r_get (C : Cx p s m args meth c cc nL own ret E) (hS : Hs E s.heap X H locs) {k ci : Nat} {fs : List Value} (hk : k < 80) (hc : cel E X k = .inr (ci, fs)) {Cn : String} {T : u_T} {N : Nat} (hcl : cls[ci]? = some (Cn, T, N)) (hin : ∀ w ∈ u_ws Cn T N, w ∈ tb) (j : Nat) (hj : j < N) {index : Nat} (hl : Cond.fieldLink own index (T j).1 (T j).2.1 (T j).2.2.1 ∈ tb) {v : Value} (hv : fs[j]? = some v) (hdg : decode cc pc = .ok (.getfield index, 3))
    (kk : W p l e R s m args below meth c H locs cells slots Q (F0 m (pc + 3) ls (v :: rest))) : W p l e R s m args below meth c H locs cells slots Q (F0 m pc ls (.ref (ad E k) :: rest)) := by
  obtain ⟨hx, hb, -, ho, hts, -, -, hK, -⟩ := C
  exact va_get (D := E.1) (C := Cn) (T := T) (N := N) (ci := ci) hx hb hts hin ho hK hS.1 k (by rw [wl_get hk, hc]) hcl j hj (hts _ hl) (fun _ h9 => h9) hv hdg kk
theorem r_getI (C : Cx p s m args meth c cc nL own ret E) (hS : Hs E s.heap X H locs) {k ci : Nat} {fs : List Value} (hk : k < 80) (hc : cel E X k = .inr (ci, fs)) {Cn : String} {T : u_T} {N : Nat} (hcl : cls[ci]? = some (Cn, T, N)) (hin : ∀ w ∈ u_ws Cn T N, w ∈ tb) (j : Nat) (hj : j < N) {index : Nat} (hl : Cond.fieldLink own index (T j).1 (T j).2.1 (T j).2.2.1 ∈ tb) {x : Int32} (hv : fs[j]? = some (.int x)) {G : Int32 → Option β} (h : lt x G = some fr) (hdg : decode cc pc = .ok (.getfield index, 3))
    (kk : ∀ v : Int32, G v = some fr → W p l e R s m args below meth c H locs cells slots Q (F0 m (pc + 3) ls (.int v :: rest))) : W p l e R s m args below meth c H locs cells slots Q (F0 m pc ls (.ref (ad E k) :: rest)) :=
  r_get C hS hk hc hcl hin j hj hl hv hdg (kk x h)
theorem r_putI (C : Cx p s m args meth c cc nL own ret E) (hS : Hs E s.heap X H locs) {k ci : Nat} {fs fs1 : List Value} (hk : k < 80) (hc : cel E X k = .inr (ci, fs)) {Cn : String} {T : u_T} {N : Nat} (hcl : cls[ci]? = some (Cn, T, N)) (hin : ∀ w ∈ u_ws Cn T N, w ∈ tb) (ty0 : Nat → FieldType) (hty : ∀ k, k < N → parseFieldDescriptor (T k).2.2.1 = some (ty0 k)) (hnm : ∀ a, a < N → ∀ b, b < N → a ≠ b → (T a).2.1 ≠ (T b).2.1) (j : Nat) (hj : j < N) {index : Nat} (hl : Cond.fieldLink own index (T j).1 (T j).2.1 (T j).2.2.1 ∈ tb) (hfin : (T j).2.2.2 = false) {v : Int32} (hn : narrow (ty0 j) (.int v) = .int v) (hfit : fits (ty0 j) (.int v) = true) (hlen : j < fs.length) (hc1 : cel E (sI X k j v) k = .inr (ci, fs1)) (hfs : fs.set j (.int v) = fs1) {G : Mem → Option β} (h : lt (sI X k j v) G = some fr) (hdg : decode cc pc = .ok (.putfield index, 3))
    (kk : ∀ (Y : Mem) (H1 : Heap) (locs1 : List Loc), Hs E s.heap Y H1 locs1 → G Y = some fr → W p l e R s m args below meth c H1 locs1 cells slots Q (F0 m (pc + 3) ls rest)) : W p l e R s m args below meth c H locs cells slots Q (F0 m pc ls (.int v :: .ref (ad E k) :: rest)) := by
  obtain ⟨hx, hb, -, ho, hts, -, -, hK, hi, -⟩ := C
  refine va_put (D := E.1) (C := Cn) (T := T) (N := N) (ci := ci) (ty := ty0 j) hx hb hts hin ty0 hty hnm ho hK hS.1 (wl_D hi) hS.2 k (by rw [wl_get hk, hc]) hcl j hj (hts _ hl) (fun _ h9 => h9) hfin (hty j hj) hn hfit hlen hdg (fun H1 locs1 hP1 _ hS1 => ?_)
  refine kk (sI X k j v) H1 locs1 ⟨?_, hS1⟩ h
  rw [hfs, ← hc1, wl_set (X := X) (Y := sI X k j v) hk (fun a ha => sI_1 ha) (fun a _ => rfl)] at hP1
  exact hP1
theorem cel_I {k n : Nat} (hk : kd k = 1000 + n) (hn : n < 1000) : cel E X k = .inl (ca E 0, n, .inl (fun j => gI X k j)) := by
  unfold cel
  rw [hk]
  split <;> first | omega | skip
  rename_i q h1 h2 h3 h4 h5 h6 h7 h8 h9
  rw [if_pos (by omega), show 1000 + n - 1000 = n by omega]
theorem cel_B {k n : Nat} (hk : kd k = 2000 + n) (hn : n < 1000) : cel E X k = .inl (ca E 1, n, .inl (fun j => gI X k j)) := by
  unfold cel
  rw [hk]
  split <;> first | omega | skip
  rename_i q h1 h2 h3 h4 h5 h6 h7 h8 h9
  rw [if_neg (by omega), if_pos (by omega), show 2000 + n - 2000 = n by omega]
theorem cel_L {k n : Nat} (hk : kd k = 3000 + n) (hn : n < 1000) : cel E X k = .inl (ca E 2, n, .inr (.inl (fun j => gL X k j))) := by
  unfold cel
  rw [hk]
  split <;> first | omega | skip
  rename_i q h1 h2 h3 h4 h5 h6 h7 h8 h9
  rw [if_neg (by omega), if_neg (by omega), show 3000 + n - 3000 = n by omega]
theorem if_tr {c : Prop} [Decidable c] {a : Option β} (h : (if c then a else none) = some fr) : c ∧ a = some fr := by
  by_cases hc : c
  · rw [if_pos hc] at h; exact ⟨hc, h⟩
  · rw [if_neg hc] at h; cases h
theorem r_ldI (C : Cx p s m args meth c cc nL own ret E) (hS : Hs E s.heap X H locs) {k n : Nat} (hk : kd k = 1000 + n) (hn : n < 1000) {i : Int32} {G : Int32 → Option β} (h : rdI X k n i G = some fr) (hdg : decode cc pc = .ok (.iaload, 1))
    (kk : ∀ v : Int32, G v = some fr → W p l e R s m args below meth c H locs cells slots Q (F0 m (pc + 1) ls (.int v :: rest))) : W p l e R s m args below meth c H locs cells slots Q (F0 m pc ls (.int i :: .ref (ad E k) :: rest)) := by
  obtain ⟨hx, hb, -, ho, hts, -, -, hK, -⟩ := C
  obtain ⟨h1, h2⟩ := if_tr h
  exact va_iald hx hb hK hS.1 k 0 (by rw [wl_get (kd_lt hk (by omega)), cel_I hk hn]) rfl (ck_in h1) hdg (kk _ h2)
theorem r_ldB (C : Cx p s m args meth c cc nL own ret E) (hS : Hs E s.heap X H locs) {k n : Nat} (hk : kd k = 2000 + n) (hn : n < 1000) {i : Int32} {G : Int32 → Option β} (h : rdI X k n i G = some fr) (hdg : decode cc pc = .ok (.baload, 1))
    (kk : ∀ v : Int32, G v = some fr → W p l e R s m args below meth c H locs cells slots Q (F0 m (pc + 1) ls (.int v :: rest))) : W p l e R s m args below meth c H locs cells slots Q (F0 m pc ls (.int i :: .ref (ad E k) :: rest)) := by
  obtain ⟨hx, hb, -, ho, hts, -, -, hK, -⟩ := C
  obtain ⟨h1, h2⟩ := if_tr h
  exact va_bald hx hb hK hS.1 k 1 (by rw [wl_get (kd_lt hk (by omega)), cel_B hk hn]) rfl (ck_in h1) hdg (kk _ h2)
theorem r_ldL (C : Cx p s m args meth c cc nL own ret E) (hS : Hs E s.heap X H locs) {k n : Nat} (hk : kd k = 3000 + n) (hn : n < 1000) {i : Int32} {G : Int64 → Option β} (h : rdL X k n i G = some fr) (hdg : decode cc pc = .ok (.laload, 1))
    (kk : ∀ v : Int64, G v = some fr → W p l e R s m args below meth c H locs cells slots Q (F0 m (pc + 1) ls (.long v :: rest))) : W p l e R s m args below meth c H locs cells slots Q (F0 m pc ls (.int i :: .ref (ad E k) :: rest)) := by
  obtain ⟨hx, hb, -, ho, hts, -, -, hK, -⟩ := C
  obtain ⟨h1, h2⟩ := if_tr h
  exact va_lald hx hb hK hS.1 k 2 (by rw [wl_get (kd_lt hk (by omega)), cel_L hk hn]) rfl (ck_in h1) hdg (kk _ h2)
theorem r_stI (C : Cx p s m args meth c cc nL own ret E) (hS : Hs E s.heap X H locs) {k n : Nat} (hk : kd k = 1000 + n) (hn : n < 1000) {i v : Int32} {G : Mem → Option β} (h : wrI X k n i v G = some fr) (hdg : decode cc pc = .ok (.iastore, 1))
    (kk : ∀ (Y : Mem) (H1 : Heap) (locs1 : List Loc), Hs E s.heap Y H1 locs1 → G Y = some fr → W p l e R s m args below meth c H1 locs1 cells slots Q (F0 m (pc + 1) ls rest)) : W p l e R s m args below meth c H locs cells slots Q (F0 m pc ls (.int v :: .int i :: .ref (ad E k) :: rest)) := by
  obtain ⟨hx, hb, -, ho, hts, -, -, hK, hi, -⟩ := C
  obtain ⟨h1, h2⟩ := if_tr h
  have hk8 := kd_lt hk (by omega)
  refine va_iast hx hb hK hS.1 (wl_D hi) hS.2 k 0 (by rw [wl_get hk8, cel_I hk hn]) rfl (ck_in h1) hdg (fun H1 locs1 hP1 _ hS1 => kk _ H1 locs1 ⟨?_, hS1⟩ h2)
  rw [← sI_row, ← cel_I (E := E) (X := sI X k i.toNatClampNeg v) hk hn, wl_set (X := X) hk8 (fun a ha => sI_1 ha) (fun a _ => rfl)] at hP1
  exact hP1
theorem r_stB (C : Cx p s m args meth c cc nL own ret E) (hS : Hs E s.heap X H locs) {k n : Nat} (hk : kd k = 2000 + n) (hn : n < 1000) {i v : Int32} {G : Mem → Option β} (h : wrB X k n i v G = some fr) (hdg : decode cc pc = .ok (.bastore, 1))
    (kk : ∀ (Y : Mem) (H1 : Heap) (locs1 : List Loc), Hs E s.heap Y H1 locs1 → G Y = some fr → W p l e R s m args below meth c H1 locs1 cells slots Q (F0 m (pc + 1) ls rest)) : W p l e R s m args below meth c H locs cells slots Q (F0 m pc ls (.int v :: .int i :: .ref (ad E k) :: rest)) := by
  obtain ⟨hx, hb, -, ho, hts, -, -, hK, hi, -⟩ := C
  obtain ⟨h1, h2⟩ := if_tr h
  have hk8 := kd_lt hk (by omega)
  refine va_bast hx hb hK hS.1 (wl_D hi) hS.2 k 1 (by rw [wl_get hk8, cel_B hk hn]) rfl (ck_in h1) hdg (fun H1 locs1 hP1 _ hS1 => kk _ H1 locs1 ⟨?_, hS1⟩ h2)
  rw [vp_nar_byte, ← sI_row, ← cel_B (E := E) (X := sI X k i.toNatClampNeg v.toInt8.toInt32) hk hn, wl_set (X := X) hk8 (fun a ha => sI_1 ha) (fun a _ => rfl)] at hP1
  exact hP1
theorem r_stL (C : Cx p s m args meth c cc nL own ret E) (hS : Hs E s.heap X H locs) {k n : Nat} (hk : kd k = 3000 + n) (hn : n < 1000) {i : Int32} {v : Int64} {G : Mem → Option β} (h : wrL X k n i v G = some fr) (hdg : decode cc pc = .ok (.lastore, 1))
    (kk : ∀ (Y : Mem) (H1 : Heap) (locs1 : List Loc), Hs E s.heap Y H1 locs1 → G Y = some fr → W p l e R s m args below meth c H1 locs1 cells slots Q (F0 m (pc + 1) ls rest)) : W p l e R s m args below meth c H locs cells slots Q (F0 m pc ls (.long v :: .int i :: .ref (ad E k) :: rest)) := by
  obtain ⟨hx, hb, -, ho, hts, -, -, hK, hi, -⟩ := C
  obtain ⟨h1, h2⟩ := if_tr h
  have hk8 := kd_lt hk (by omega)
  refine va_last hx hb hK hS.1 (wl_D hi) hS.2 k 2 (by rw [wl_get hk8, cel_L hk hn]) rfl (ck_in h1) hdg (fun H1 locs1 hP1 _ hS1 => kk _ H1 locs1 ⟨?_, hS1⟩ h2)
  rw [← sL_row, ← cel_L (E := E) (X := sL X k i.toNatClampNeg v) hk hn, wl_set (X := X) (Y := sL X k i.toNatClampNeg v) hk8 (fun a _ => rfl) (fun a ha => sL_1 ha)] at hP1
  exact hP1
theorem r_ldT (C : Cx p s m args meth c cc nL own ret E) (hS : Hs E s.heap X H locs) {k : Nat} (hk : kd k = 4000) {i : Int32} {G : Nat → Option β} (h : rdR 10 i G = some fr) (hdg : decode cc pc = .ok (.aaload, 1))
    (kk : ∀ j : Nat, j < 10 → G j = some fr → W p l e R s m args below meth c H locs cells slots Q (F0 m (pc + 1) ls (.ref (ad E (k + 1 + j)) :: rest))) : W p l e R s m args below meth c H locs cells slots Q (F0 m pc ls (.int i :: .ref (ad E k) :: rest)) := by
  obtain ⟨hx, hb, -, ho, hts, -, -, hK, -⟩ := C
  obtain ⟨h1, h2⟩ := if_tr h
  exact va_aldq (f := fun i => some (ad E (k + 1 + i))) hx hb hK hS.1 k 3 (by rw [wl_get (kd_lt hk (by decide))]; unfold cel; rw [hk]; rfl) rfl (ck_in h1) hdg (kk _ (ck_lt h1) h2)
theorem r_ldS (C : Cx p s m args meth c cc nL own ret E) (hS : Hs E s.heap X H locs) {i : Int32} {G : Nat → Option β} (h : rdR 4 i G = some fr) (hdg : decode cc pc = .ok (.aaload, 1))
    (kk : ∀ j : Nat, j < 4 → G j = some fr → W p l e R s m args below meth c H locs cells slots Q (F0 m (pc + 1) ls (.ref (ad E (52 + 2 * j)) :: rest))) : W p l e R s m args below meth c H locs cells slots Q (F0 m pc ls (.int i :: .ref (ad E 46) :: rest)) := by
  obtain ⟨hx, hb, -, ho, hts, -, -, hK, -⟩ := C
  obtain ⟨h1, h2⟩ := if_tr h
  exact va_aldq (f := fun i => some (ad E (52 + 2 * i))) hx hb hK hS.1 46 4 (by rw [wl_get (by omega)]; rfl) rfl (ck_in h1) hdg (kk _ (ck_lt h1) h2)
theorem r_ldW (C : Cx p s m args meth c cc nL own ret E) (hS : Hs E s.heap X H locs) {i : Int32} {G : Nat → Option β} (h : rdR 10 i G = some fr) (hdg : decode cc pc = .ok (.aaload, 1))
    (kk : ∀ j : Nat, j < 10 → G j = some fr → W p l e R s m args below meth c H locs cells slots Q (F0 m (pc + 1) ls (.ref (ad E (60 + j)) :: rest))) : W p l e R s m args below meth c H locs cells slots Q (F0 m pc ls (.int i :: .ref (ad E 47) :: rest)) := by
  obtain ⟨hx, hb, -, ho, hts, -, -, hK, -⟩ := C
  obtain ⟨h1, h2⟩ := if_tr h
  exact va_aldq (f := fun i => some (ad E (60 + i))) hx hb hK hS.1 47 5 (by rw [wl_get (by omega)]; rfl) rfl (ck_in h1) hdg (kk _ (ck_lt h1) h2)
/-! the objects' cells by their kinds -/
theorem cel_Tide : cel E X 0 = .inr (5, [.ref (ad E 1), .ref (ad E 2), .ref (ad E 16), .ref (ad E 30), .ref (ad E 44), .ref (ad E 46), .ref (ad E 47), .ref (ad E 48), .ref (ad E 49), .ref (ad E 50), .ref (ad E 51), .int (gI X 0 11)]) := rfl
theorem cel_Tape : cel E X 44 = .inr (2, [.ref (ad E 45), .int (gI X 44 1), .int (gI X 44 2), .int (gI X 44 3), .int (gI X 44 4), .int (gI X 44 5)]) := rfl
theorem cel_Model : cel E X 70 = .inr (6, [.ref (ad E 71), .ref (ad E 72), .ref (ad E 73), .ref (ad E 74), .int (gI X 70 4), .ref (ad E 75), .ref (ad E 76), .int (gI X 70 7), .ref (ad E 77), .ref (ad E 78), .ref (ad E 79), .int (gI X 70 11), .int (gI X 70 12), .int (gI X 70 13), .int (gI X 70 14), .int (gI X 70 15)]) := rfl
theorem cel_Shore {k : Nat} (hk : kd k = 1) : cel E X k = .inr (1, [.ref (ad E (k + 1)), .ref (ad E (k + 2)), .ref (ad E (k + 3)), .int (gI X k 3), .int (gI X k 4), .int (gI X k 5)]) := by unfold cel; rw [hk]; rfl
theorem cel_Thing {k : Nat} (hk : kd k = 2) : cel E X k = .inr (3, [.int (gI X k 0), .int (gI X k 1), .int (gI X k 2), .int (gI X k 3), .int (gI X k 4), .int (gI X k 5)]) := by unfold cel; rw [hk]; rfl
theorem cel_Way {k : Nat} (hk : kd k = 3) : cel E X k = .inr (4, [.int (gI X k 0), .int (gI X k 1), .int (gI X k 2), .int (gI X k 3), .int (gI X k 4)]) := by unfold cel; rw [hk]; rfl
theorem cel_Sheet {k : Nat} (hk : kd k = 4) : cel E X k = .inr (0, [.ref (ad E (k + 1)), .int (gI X k 1), .int (gI X k 2)]) := by unfold cel; rw [hk]; rfl
theorem gs_same {X : Mem} {k j : Nat} {v : Int32} : gI (sI X k j v) k j = v := if_pos ⟨rfl, rfl⟩
theorem gs_slot {X : Mem} {k a j b : Nat} {v : Int32} (h : b ≠ j) : gI (sI X k j v) a b = gI X a b := if_neg (fun q => h q.2)
theorem gs_node {X : Mem} {k a j b : Nat} {v : Int32} (h : a ≠ k) : gI (sI X k j v) a b = gI X a b := if_neg (fun q => h q.1)
theorem kd_all {P : Nat → Nat → Bool} (h : (List.range 80).all (fun k => P k (kd k)) = true) {k : Nat} (hk : k < 80) : P k (kd k) = true := List.all_eq_true.mp h k (List.mem_range.mpr hk)
theorem kd_heights {k : Nat} (h : kd k = 1) : kd (k + 1) = 1016 := by
  have := kd_all (P := fun k q => !(q == 1) || kd (k + 1) == 1016) (by decide +kernel) (kd_lt h (by decide))
  simp only [h] at this
  simpa using this
theorem kd_purses {k : Nat} (h : kd k = 1) : kd (k + 2) = 1004 := by
  have := kd_all (P := fun k q => !(q == 1) || kd (k + 2) == 1004) (by decide +kernel) (kd_lt h (by decide))
  simp only [h] at this
  simpa using this
theorem kd_things {k : Nat} (h : kd k = 1) : kd (k + 3) = 4000 := by
  have := kd_all (P := fun k q => !(q == 1) || kd (k + 3) == 4000) (by decide +kernel) (kd_lt h (by decide))
  simp only [h] at this
  simpa using this
theorem kd_numbers {k : Nat} (h : kd k = 4) : kd (k + 1) = 3040 := by
  have := kd_all (P := fun k q => !(q == 4) || kd (k + 1) == 3040) (by decide +kernel) (kd_lt h (by decide))
  simp only [h] at this
  simpa using this
theorem kd_thing {k j : Nat} (h : kd k = 4000) (hj : j < 10) : kd (k + 1 + j) = 2 := by
  have := kd_all (P := fun k q => !(q == 4000) || (List.range 10).all (fun j => kd (k + 1 + j) == 2)) (by decide +kernel) (kd_lt h (by decide))
  simp only [h] at this
  have h2 : ∀ x, x < 10 → kd (k + 1 + x) = 2 := by simpa using this
  exact h2 j hj
theorem kd_sheet {j : Nat} (hj : j < 4) : kd (52 + 2 * j) = 4 := by
  have h : (List.range 4).all (fun j => kd (52 + 2 * j) == 4) = true := by decide +kernel
  simpa using List.all_eq_true.mp h j (List.mem_range.mpr hj)
theorem kd_way {j : Nat} (hj : j < 10) : kd (60 + j) = 3 := by
  have h : (List.range 10).all (fun j => kd (60 + j) == 3) = true := by decide +kernel
  simpa using List.all_eq_true.mp h j (List.mem_range.mpr hj)
theorem wP {D : va_G} {ws : va_W} {t : State} {H : Heap} (ht : t.heap = H) (h : va_P D cls ws H) : va_P D cls ws t.heap := by rw [ht]; exact h
/-! returns -/
theorem r_iret {r : Int32} {Y : Mem} (C : Cx p s m args meth c cc nL own ret E) (hS : Hs E s.heap X H locs) {v : Int32} (hr : ret = some .int) (h : some (v, X) = some (r, Y)) (hdg : decode cc pc = .ok (.ireturn, 1)) : W p l e R s m args below meth c H locs cells slots (MQ below (PostI E r Y) args s cells slots (Ad E)) (F0 m pc ls [.int v]) := by
  obtain ⟨hx, hb, -, -, -, hrt, hlk, -⟩ := C
  cases h
  exact W.iret (v := r) hx hb (hrt.trans hr) (fun t ht hW => ⟨⟨r, (), rfl, rfl, wP ht hS.1⟩, hS.2.F ht⟩) hS.2.2.2 hdg hlk
theorem r_zret {r : Int32} {Y : Mem} (C : Cx p s m args meth c cc nL own ret E) (hS : Hs E s.heap X H locs) {v : Int32} (hr : ret = some .boolean) (h : ckZ v (some (v, X)) = some (r, Y)) (hdg : decode cc pc = .ok (.ireturn, 1)) : W p l e R s m args below meth c H locs cells slots (MQ below (PostI E r Y) args s cells slots (Ad E)) (F0 m pc ls [.int v]) := by
  obtain ⟨hx, hb, -, -, -, hrt, hlk, -⟩ := C
  obtain ⟨hz, h⟩ := if_tr h
  cases h
  exact W.zret (v := r) hx hb (hrt.trans hr) (by rcases hz with rfl | rfl <;> rfl) (fun t ht hW => ⟨⟨r, (), rfl, rfl, wP ht hS.1⟩, hS.2.F ht⟩) hS.2.2.2 hdg hlk
theorem r_lret {r : Int64} {Y : Mem} (C : Cx p s m args meth c cc nL own ret E) (hS : Hs E s.heap X H locs) {v : Int64} (hr : ret = some .long) (h : some (v, X) = some (r, Y)) (hdg : decode cc pc = .ok (.lreturn, 1)) : W p l e R s m args below meth c H locs cells slots (MQ below (PostL E r Y) args s cells slots (Ad E)) (F0 m pc ls [.long v]) := by
  obtain ⟨hx, hb, -, -, -, hrt, hlk, -⟩ := C
  cases h
  exact W.lret (v := r) hx hb (hrt.trans hr) (fun t ht hW => ⟨⟨r, (), rfl, rfl, wP ht hS.1⟩, hS.2.F ht⟩) hS.2.2.2 hdg hlk
theorem r_vret {Y : Mem} (C : Cx p s m args meth c cc nL own ret E) (hS : Hs E s.heap X H locs) (hr : ret = none) (h : some X = some Y) (hdg : decode cc pc = .ok (.return_, 1)) : W p l e R s m args below meth c H locs cells slots (MQ below (PostV E Y) args s cells slots (Ad E)) (F0 m pc ls []) := by
  obtain ⟨hx, hb, -, -, -, hrt, hlk, -⟩ := C
  cases h
  exact W.vret hx hb (hrt.trans hr) (fun t ht hW => ⟨⟨(), rfl, trivial, wP ht hS.1⟩, hS.2.F ht⟩) hS.2.2.2 hdg hlk
theorem r_sret {r v : Nat} (C : Cx p s m args meth c cc nL own ret E) (hS : Hs E s.heap X H locs) (hr : ret = some (.object "java/lang/String")) (h : some v = some r) (hdg : decode cc pc = .ok (.areturn, 1)) : W p l e R s m args below meth c H locs cells slots (MQ below (PostR E r X) args s cells slots (Ad E)) (F0 m pc ls [.ref (eK E v)]) := by
  obtain ⟨hx, hb, -, -, -, hrt, hlk, -⟩ := C
  cases h
  exact W.aret hx hb (hrt.trans hr) (Or.inl ⟨_, rfl⟩) (Or.inr ⟨_, rfl⟩) (fun t ht hW => ⟨⟨(), _, rfl, trivial, rfl, wP ht hS.1⟩, hS.2.F ht⟩) hS.2.2.2 hdg hlk
/-! branches, by the function's own if -/
theorem if_eq {c : Prop} [Decidable c] {a b : Option β} (h : (if c then a else b) = some fr) {P : Prop} (k1 : a = some fr → P) (k2 : b = some fr → P) (hc : c ∨ ¬ c) : P := by
  by_cases hq : c
  · rw [if_pos hq] at h; exact k1 h
  · rw [if_neg hq] at h; exact k2 h
theorem ite_t {c : Prop} [Decidable c] {a b : Option β} (h : (if c then a else b) = some fr) (hc : c) : a = some fr := by rw [if_pos hc] at h; exact h
theorem ite_f {c : Prop} [Decidable c] {a b : Option β} (h : (if c then a else b) = some fr) (hc : ¬ c) : b = some fr := by rw [if_neg hc] at h; exact h
theorem r_icmp_lt (C : Cx p s m args meth c cc nL own ret E) {x y : Int32} {off : Int} {tgt : Nat} {a b : Option β} (h : (if x < y then a else b) = some fr) (hdg : decode cc pc = .ok (.if_icmp .lt off, 3)) (ht : (pc : Int) + off = (tgt : Int)) (kt : a = some fr → W p l e R s m args below meth c H locs cells slots Q (F0 m tgt ls rest)) (kf : b = some fr → W p l e R s m args below meth c H locs cells slots Q (F0 m (pc + 3) ls rest)) : W p l e R s m args below meth c H locs cells slots Q (F0 m pc ls (.int y :: .int x :: rest)) :=
  lv_icmp_lt C.1 C.2.1 hdg ht (fun q => kt (ite_t h q)) (fun q => kf (ite_f h q))
theorem r_icmp_le (C : Cx p s m args meth c cc nL own ret E) {x y : Int32} {off : Int} {tgt : Nat} {a b : Option β} (h : (if x ≤ y then a else b) = some fr) (hdg : decode cc pc = .ok (.if_icmp .le off, 3)) (ht : (pc : Int) + off = (tgt : Int)) (kt : a = some fr → W p l e R s m args below meth c H locs cells slots Q (F0 m tgt ls rest)) (kf : b = some fr → W p l e R s m args below meth c H locs cells slots Q (F0 m (pc + 3) ls rest)) : W p l e R s m args below meth c H locs cells slots Q (F0 m pc ls (.int y :: .int x :: rest)) :=
  lv_icmp_le C.1 C.2.1 hdg ht (fun q => kt (ite_t h q)) (fun q => kf (ite_f h q))
theorem r_icmp_gt (C : Cx p s m args meth c cc nL own ret E) {x y : Int32} {off : Int} {tgt : Nat} {a b : Option β} (h : (if y < x then a else b) = some fr) (hdg : decode cc pc = .ok (.if_icmp .gt off, 3)) (ht : (pc : Int) + off = (tgt : Int)) (kt : a = some fr → W p l e R s m args below meth c H locs cells slots Q (F0 m tgt ls rest)) (kf : b = some fr → W p l e R s m args below meth c H locs cells slots Q (F0 m (pc + 3) ls rest)) : W p l e R s m args below meth c H locs cells slots Q (F0 m pc ls (.int y :: .int x :: rest)) :=
  lv_icmp_gt C.1 C.2.1 hdg ht (fun q => kt (ite_t h q)) (fun q => kf (ite_f h q))
theorem r_icmp_ge (C : Cx p s m args meth c cc nL own ret E) {x y : Int32} {off : Int} {tgt : Nat} {a b : Option β} (h : (if y ≤ x then a else b) = some fr) (hdg : decode cc pc = .ok (.if_icmp .ge off, 3)) (ht : (pc : Int) + off = (tgt : Int)) (kt : a = some fr → W p l e R s m args below meth c H locs cells slots Q (F0 m tgt ls rest)) (kf : b = some fr → W p l e R s m args below meth c H locs cells slots Q (F0 m (pc + 3) ls rest)) : W p l e R s m args below meth c H locs cells slots Q (F0 m pc ls (.int y :: .int x :: rest)) :=
  lv_icmp_ge C.1 C.2.1 hdg ht (fun q => kt (ite_t h q)) (fun q => kf (ite_f h q))
theorem r_icmp_eq (C : Cx p s m args meth c cc nL own ret E) {x y : Int32} {off : Int} {tgt : Nat} {a b : Option β} (h : (if x = y then a else b) = some fr) (hdg : decode cc pc = .ok (.if_icmp .eq off, 3)) (ht : (pc : Int) + off = (tgt : Int)) (kt : a = some fr → W p l e R s m args below meth c H locs cells slots Q (F0 m tgt ls rest)) (kf : b = some fr → W p l e R s m args below meth c H locs cells slots Q (F0 m (pc + 3) ls rest)) : W p l e R s m args below meth c H locs cells slots Q (F0 m pc ls (.int y :: .int x :: rest)) :=
  lv_icmp_eq C.1 C.2.1 hdg ht (fun q => kt (ite_t h q)) (fun q => kf (ite_f h q))
theorem r_icmp_ne (C : Cx p s m args meth c cc nL own ret E) {x y : Int32} {off : Int} {tgt : Nat} {a b : Option β} (h : (if x = y then b else a) = some fr) (hdg : decode cc pc = .ok (.if_icmp .ne off, 3)) (ht : (pc : Int) + off = (tgt : Int)) (kt : a = some fr → W p l e R s m args below meth c H locs cells slots Q (F0 m tgt ls rest)) (kf : b = some fr → W p l e R s m args below meth c H locs cells slots Q (F0 m (pc + 3) ls rest)) : W p l e R s m args below meth c H locs cells slots Q (F0 m pc ls (.int y :: .int x :: rest)) :=
  lv_icmp_ne C.1 C.2.1 hdg ht (fun q => kt (ite_f h q)) (fun q => kf (ite_t h q))
theorem r_if_lt (C : Cx p s m args meth c cc nL own ret E) {x : Int32} {off : Int} {tgt : Nat} {a b : Option β} (h : (if x < 0 then a else b) = some fr) (hdg : decode cc pc = .ok (.ifCond .lt off, 3)) (ht : (pc : Int) + off = (tgt : Int)) (kt : a = some fr → W p l e R s m args below meth c H locs cells slots Q (F0 m tgt ls rest)) (kf : b = some fr → W p l e R s m args below meth c H locs cells slots Q (F0 m (pc + 3) ls rest)) : W p l e R s m args below meth c H locs cells slots Q (F0 m pc ls (.int x :: rest)) :=
  lv_if_lt C.1 C.2.1 hdg ht (fun q => kt (ite_t h q)) (fun q => kf (ite_f h q))
theorem r_if_le (C : Cx p s m args meth c cc nL own ret E) {x : Int32} {off : Int} {tgt : Nat} {a b : Option β} (h : (if x ≤ 0 then a else b) = some fr) (hdg : decode cc pc = .ok (.ifCond .le off, 3)) (ht : (pc : Int) + off = (tgt : Int)) (kt : a = some fr → W p l e R s m args below meth c H locs cells slots Q (F0 m tgt ls rest)) (kf : b = some fr → W p l e R s m args below meth c H locs cells slots Q (F0 m (pc + 3) ls rest)) : W p l e R s m args below meth c H locs cells slots Q (F0 m pc ls (.int x :: rest)) :=
  lv_if_le C.1 C.2.1 hdg ht (fun q => kt (ite_t h q)) (fun q => kf (ite_f h q))
theorem r_if_gt (C : Cx p s m args meth c cc nL own ret E) {x : Int32} {off : Int} {tgt : Nat} {a b : Option β} (h : (if 0 < x then a else b) = some fr) (hdg : decode cc pc = .ok (.ifCond .gt off, 3)) (ht : (pc : Int) + off = (tgt : Int)) (kt : a = some fr → W p l e R s m args below meth c H locs cells slots Q (F0 m tgt ls rest)) (kf : b = some fr → W p l e R s m args below meth c H locs cells slots Q (F0 m (pc + 3) ls rest)) : W p l e R s m args below meth c H locs cells slots Q (F0 m pc ls (.int x :: rest)) :=
  lv_if_gt C.1 C.2.1 hdg ht (fun q => kt (ite_t h q)) (fun q => kf (ite_f h q))
theorem r_if_ge (C : Cx p s m args meth c cc nL own ret E) {x : Int32} {off : Int} {tgt : Nat} {a b : Option β} (h : (if 0 ≤ x then a else b) = some fr) (hdg : decode cc pc = .ok (.ifCond .ge off, 3)) (ht : (pc : Int) + off = (tgt : Int)) (kt : a = some fr → W p l e R s m args below meth c H locs cells slots Q (F0 m tgt ls rest)) (kf : b = some fr → W p l e R s m args below meth c H locs cells slots Q (F0 m (pc + 3) ls rest)) : W p l e R s m args below meth c H locs cells slots Q (F0 m pc ls (.int x :: rest)) :=
  lv_if_ge C.1 C.2.1 hdg ht (fun q => kt (ite_t h q)) (fun q => kf (ite_f h q))
theorem r_if_eq (C : Cx p s m args meth c cc nL own ret E) {x : Int32} {off : Int} {tgt : Nat} {a b : Option β} (h : (if x = 0 then a else b) = some fr) (hdg : decode cc pc = .ok (.ifCond .eq off, 3)) (ht : (pc : Int) + off = (tgt : Int)) (kt : a = some fr → W p l e R s m args below meth c H locs cells slots Q (F0 m tgt ls rest)) (kf : b = some fr → W p l e R s m args below meth c H locs cells slots Q (F0 m (pc + 3) ls rest)) : W p l e R s m args below meth c H locs cells slots Q (F0 m pc ls (.int x :: rest)) :=
  lv_if_eq C.1 C.2.1 hdg ht (fun q => kt (ite_t h q)) (fun q => kf (ite_f h q))
theorem r_if_ne (C : Cx p s m args meth c cc nL own ret E) {x : Int32} {off : Int} {tgt : Nat} {a b : Option β} (h : (if x = 0 then b else a) = some fr) (hdg : decode cc pc = .ok (.ifCond .ne off, 3)) (ht : (pc : Int) + off = (tgt : Int)) (kt : a = some fr → W p l e R s m args below meth c H locs cells slots Q (F0 m tgt ls rest)) (kf : b = some fr → W p l e R s m args below meth c H locs cells slots Q (F0 m (pc + 3) ls rest)) : W p l e R s m args below meth c H locs cells slots Q (F0 m pc ls (.int x :: rest)) :=
  lv_if_ne C.1 C.2.1 hdg ht (fun q => kt (ite_f h q)) (fun q => kf (ite_t h q))
/-! switches: case by case -/
theorem sw_c {x v : Int32} {a b : Option β} (h : (if x = v then a else b) = some fr) {P : Prop} (k1 : x = v → a = some fr → P) (k2 : x.toInt ≠ v.toInt → b = some fr → P) : P := by
  by_cases hq : x = v
  · rw [if_pos hq] at h; exact k1 hq h
  · rw [if_neg hq] at h; exact k2 (fun e => hq (Int32.toInt_inj.mp e)) h
theorem out_0 {z lo : Int} : z < lo ∨ lo ≤ z := by omega
theorem out_s {z lo k : Int} (h : z < lo ∨ k ≤ z) (hn : z ≠ k) : z < lo ∨ k + 1 ≤ z := by omega
theorem out_e {z lo hi k : Int} (h : z < lo ∨ k ≤ z) (hk : hi < k) : z < lo ∨ hi < z := by omega
/-! calls -/
theorem c_B {y : MethodName} {bytes : ByteArray} {maxL : Nat} {rt : Option FieldType} {rm : Room} {index n : Nat} (hts : ∀ w ∈ tb, w.before args s = true) (hcode : Cond.code y bytes maxL rt ∈ tb) (hini : Cond.initialized y.cls ∈ tb) (hl : Cond.methodLink own index y ∈ tb) (hd : y.cls ≠ "java/lang/invoke/MethodHandle" ∧ y.cls ≠ "java/lang/invoke/VarHandle" ∧ (parseMethodDescriptor y.desc).map (fun d => d.parameters.length) = some n) (hrc : rm.cells = 0) (hrs : rm.slots = 0) (hR : rm.frames + 1 ≤ R.frames ∧ 8 + (maxL + 11) + rm.locals ≤ R.locals) :
    CallB R s args own index y bytes maxL rt (Cond.code y bytes maxL rt :: tb) rm 0 0 n := callB_of n hts (tb_code hcode) rfl hrc hrs (hts _ hini) (hts _ hl) hd hR
theorem c_pre (C : Cx p s m args meth c cc nL own ret E) (hS : Hs E s.heap X H locs) {av : List Value} : PreS s H (PreC E av X) av := ⟨PreC.blind, fun U hU hW => ⟨rfl, C.2.2.2.2.2.2.2.warm hW (fun a h1 h2 => by rw [hU]; exact hS.2.2.1 a h1 h2), by rw [hU]; exact hS.1⟩⟩
theorem c_rec (C : Cx p s m args meth c cc nL own ret E) (hS : Hs E s.heap X H locs) {k ci : Nat} {fs : List Value} (hk : k < 80) (hc : cel E X k = .inr (ci, fs)) {q : vw_C} (hcl : cls[ci]? = some q) : ∃ cell : Cell, H[ad E k]? = some cell ∧ cell.vm.isStatics = false ∧ s.vm.findClass q.1 = some cell.cls :=
  va_recv C.2.2.2.2.2.2.2.1 hS.1 hcl (q0 := k) (by rw [wl_get hk, hc])
variable {y : MethodName} {bytes : ByteArray} {maxL n index : Nat} {rt : Option FieldType} {rm : Room} {As : List Value}
/-- a static call of the own class -/
theorem c_runS (C : Cx p s m args meth c cc nL own ret E) (hS : Hs E s.heap X H locs) {Qc : Array Value → State → Outcome → State → Prop} (hM : Met l y (Cond.code y bytes maxL rt :: tb) rm (PreC E As X) Qc 0 0 (Ad E)) (hcode : Cond.code y bytes maxL rt ∈ tb) (hini : Cond.initialized y.cls ∈ tb) (hst : Cond.static y ∈ tb) (hl : Cond.methodLink own index y ∈ tb) (hd : y.cls ≠ "java/lang/invoke/MethodHandle" ∧ y.cls ≠ "java/lang/invoke/VarHandle" ∧ (parseMethodDescriptor y.desc).map (fun d => d.parameters.length) = some n) (hn : As.length = n) (hrm : (rm.cells = 0 ∧ rm.slots = 0) ∧ rm.frames + 1 ≤ R.frames ∧ 8 + (maxL + 11) + rm.locals ≤ R.locals) (hz : cells ≤ R.cells ∧ slots ≤ R.slots) (hsz : ls.size = nL) {st0 : List Value} (hstk : st0 = As.reverse ++ rest) (hw : (rest.map fun v => v.category).sum ≤ 8) (hdg : decode cc pc = .ok (.invokestatic index, 3)) :
    va_Run p l e R s m args below meth c H locs cells slots 0 0 (F0 m pc ls st0) rest (Qc As.toArray) (Ad E) :=
  va_runS (Ts := tb) ⟨C.1, C.2.1, C.2.2.1, C.2.2.2.1, C.2.2.2.2.1⟩ hM ⟨c_B C.2.2.2.2.1 hcode hini hl hd hrm.1.1 hrm.1.2 hrm.2, C.2.2.2.2.1 _ hst⟩ (c_pre C hS) rfl hn hsz hstk (lv_room (m := m) (pc := pc) (ls := ls) (rest := rest) hw) hdg hz
theorem c_runV (C : Cx p s m args meth c cc nL own ret E) (hS : Hs E s.heap X H locs) {Qc : Array Value → State → Outcome → State → Prop} {k ci : Nat} {fs : List Value} (hk : k < 80) (hc : cel E X k = .inr (ci, fs)) {Cn : String} {T : u_T} {N : Nat} (hcl : cls[ci]? = some (Cn, T, N)) (hM : Met l y (Cond.code y bytes maxL rt :: tb) rm (PreC E (.ref (ad E k) :: As) X) Qc 0 0 (Ad E)) (hcode : Cond.code y bytes maxL rt ∈ tb) (hini : Cond.initialized y.cls ∈ tb) (hin : Cond.instanceMethod y ∈ tb) (hse : Cond.selects Cn y y ∈ tb) (hl : Cond.methodLink own index y ∈ tb) (hd : y.cls ≠ "java/lang/invoke/MethodHandle" ∧ y.cls ≠ "java/lang/invoke/VarHandle" ∧ (parseMethodDescriptor y.desc).map (fun d => d.parameters.length) = some n) (hn : As.length = n) (hrm : (rm.cells = 0 ∧ rm.slots = 0) ∧ rm.frames + 1 ≤ R.frames ∧ 8 + (maxL + 11) + rm.locals ≤ R.locals) (hz : cells ≤ R.cells ∧ slots ≤ R.slots) (hsz : ls.size = nL) {st0 : List Value} (hstk : st0 = As.reverse ++ .ref (ad E k) :: rest) (hw : (rest.map fun v => v.category).sum ≤ 8) (hdg : decode cc pc = .ok (.invokevirtual index, 3)) :
    va_Run p l e R s m args below meth c H locs cells slots 0 0 (F0 m pc ls st0) rest (Qc (Value.ref (ad E k) :: As).toArray) (Ad E) :=
  va_runV (Ts := tb) (C := Cn) (b := ad E k) ⟨C.1, C.2.1, C.2.2.1, C.2.2.2.1, C.2.2.2.2.1⟩ hM ⟨c_B C.2.2.2.2.1 hcode hini hl hd hrm.1.1 hrm.1.2 hrm.2, C.2.2.2.2.1 _ hin, C.2.2.2.2.1 _ hse⟩ ⟨PreC.blind, c_rec C hS hk hc hcl, (c_pre C hS).2⟩ rfl hn hsz hstk (lv_room (m := m) (pc := pc) (ls := ls) (rest := rest) hw) hdg hz
/-- a static call of a nest mate's -/
theorem c_runSN (C : Cx p s m args meth c cc nL own ret E) (hS : Hs E s.heap X H locs) {Qc : Array Value → State → Outcome → State → Prop} {host : String} (hM : Met l y (Cond.code y bytes maxL rt :: tb) rm (PreC E As X) Qc 0 0 (Ad E)) (hcode : Cond.code y bytes maxL rt ∈ tb) (hini : Cond.initialized y.cls ∈ tb) (hst : Cond.static y ∈ tb) (hl : Cond.methodLinkNest own index y host ∈ nst) (hd : y.cls ≠ "java/lang/invoke/MethodHandle" ∧ y.cls ≠ "java/lang/invoke/VarHandle" ∧ (parseMethodDescriptor y.desc).map (fun d => d.parameters.length) = some n) (hn : As.length = n) (hrm : (rm.cells = 0 ∧ rm.slots = 0) ∧ rm.frames + 1 ≤ R.frames ∧ 8 + (maxL + 11) + rm.locals ≤ R.locals) (hz : cells ≤ R.cells ∧ slots ≤ R.slots) (hsz : ls.size = nL) {st0 : List Value} (hstk : st0 = As.reverse ++ rest) (hw : (rest.map fun v => v.category).sum ≤ 8) (hdg : decode cc pc = .ok (.invokestatic index, 3)) :
    va_Run p l e R s m args below meth c H locs cells slots 0 0 (F0 m pc ls st0) rest (Qc As.toArray) (Ad E) :=
  va_runSN (Ts := tb) ⟨C.1, C.2.1, C.2.2.1, C.2.2.2.1, C.2.2.2.2.1⟩ hM ⟨va_cnB n C.2.2.2.2.1 (tb_code hcode) rfl hrm.1.1 hrm.1.2 (C.2.2.2.2.2.2.2.2.2.1 _ hl) (C.2.2.2.2.1 _ hini) hd hrm.2, C.2.2.2.2.1 _ hst, trivial⟩ (c_pre C hS) rfl hn hsz hstk (lv_room (m := m) (pc := pc) (ls := ls) (rest := rest) hw) hdg hz
variable {st0 : List Value} {a : Array Value}
theorem c_I {r : Int32} {Y : Mem} (hS : Hs E s.heap X H locs) (hr : va_Run p l e R s m args below meth c H locs cells slots 0 0 (F0 m pc ls st0) rest (PostI E r Y a) (Ad E)) (kk : ∀ (H1 : Heap) (locs1 : List Loc), Hs E s.heap Y H1 locs1 → W p l e R s m args below meth c H1 locs1 cells slots Q (F0 m (pc + 3) ls (.int r :: rest))) : W p l e R s m args below meth c H locs cells slots Q (F0 m pc ls st0) :=
  va_calli hr hS.2 (fun _ _ h => h) (fun _ h => h) (fun v _ t H1 locs1 ht _ hw hB _ _ hS1 => by subst hw; exact kk H1 locs1 ⟨by rw [← ht]; exact hB, hS1⟩)
theorem c_L {r : Int64} {Y : Mem} (hS : Hs E s.heap X H locs) (hr : va_Run p l e R s m args below meth c H locs cells slots 0 0 (F0 m pc ls st0) rest (PostL E r Y a) (Ad E)) (kk : ∀ (H1 : Heap) (locs1 : List Loc), Hs E s.heap Y H1 locs1 → W p l e R s m args below meth c H1 locs1 cells slots Q (F0 m (pc + 3) ls (.long r :: rest))) : W p l e R s m args below meth c H locs cells slots Q (F0 m pc ls st0) :=
  va_calll hr hS.2 (fun _ _ h => h) (fun _ h => h) (fun v _ t H1 locs1 ht _ hw hB _ _ hS1 => by subst hw; exact kk H1 locs1 ⟨by rw [← ht]; exact hB, hS1⟩)
theorem c_V {Y : Mem} (hS : Hs E s.heap X H locs) (hr : va_Run p l e R s m args below meth c H locs cells slots 0 0 (F0 m pc ls st0) rest (PostV E Y a) (Ad E)) (kk : ∀ (H1 : Heap) (locs1 : List Loc), Hs E s.heap Y H1 locs1 → W p l e R s m args below meth c H1 locs1 cells slots Q (F0 m (pc + 3) ls rest)) : W p l e R s m args below meth c H locs cells slots Q (F0 m pc ls st0) :=
  va_callv hr hS.2 (fun _ _ h => h) (fun _ h => h) (fun _ t H1 locs1 ht _ _ hB _ _ hS1 => kk H1 locs1 ⟨by rw [← ht]; exact hB, hS1⟩)
theorem c_R {r : Nat} {Y : Mem} (hS : Hs E s.heap X H locs) (hr : va_Run p l e R s m args below meth c H locs cells slots 0 0 (F0 m pc ls st0) rest (PostR E r Y a) (Ad E)) (kk : ∀ (H1 : Heap) (locs1 : List Loc), Hs E s.heap Y H1 locs1 → W p l e R s m args below meth c H1 locs1 cells slots Q (F0 m (pc + 3) ls (.ref (eK E r) :: rest))) : W p l e R s m args below meth c H locs cells slots Q (F0 m pc ls st0) :=
  va_callr hr hS.2 (fun _ _ h => h) (fun _ h => h) (fun _ q t H1 locs1 ht _ _ hB _ _ hS1 => by obtain ⟨e1, hB⟩ := hB; subst e1; exact kk H1 locs1 ⟨by rw [← ht]; exact hB, hS1⟩)
/-! arraycopy -/
theorem cI_row {X : Mem} {k0 k1 sp dp n : Nat} : (fun b => gI (cI X k0 k1 sp dp n) k1 b) = va_cpy (fun b => gI X k0 b) (fun b => gI X k1 b) sp dp n := by
  funext b
  show (if k1 = k1 then va_cpy (X.1 k0) (X.1 k1) sp dp n b else X.1 k1 b) = _
  rw [if_pos rfl]; rfl
theorem cL_row {X : Mem} {k0 k1 sp dp n : Nat} : (fun b => gL (cL X k0 k1 sp dp n) k1 b) = va_cpy (fun b => gL X k0 b) (fun b => gL X k1 b) sp dp n := by
  funext b
  show (if k1 = k1 then va_cpy (X.2 k0) (X.2 k1) sp dp n b else X.2 k1 b) = _
  rw [if_pos rfl]; rfl
theorem ckC_el {n0 n1 : Nat} {sp dp n : Int32} (h : ckC n0 n1 sp dp n = true) : ¬ sp < 0 ∧ ¬ dp < 0 ∧ ¬ n < 0 ∧ sp.toNatClampNeg + n.toNatClampNeg ≤ n0 ∧ dp.toNatClampNeg + n.toNatClampNeg ≤ n1 := by
  unfold ckC at h
  simp only [Bool.and_eq_true, decide_eq_true_eq] at h
  obtain ⟨⟨⟨⟨h1, h2⟩, h3⟩, h4⟩, h5⟩ := h
  have nn : ∀ z : Int32, 0 ≤ z.toInt → ¬ z < 0 := fun z hz q => by
    have := Int32.lt_iff_toInt_lt.mp q
    rw [Int32.toInt_zero] at this
    omega
  exact ⟨nn _ h1, nn _ h2, nn _ h3, h4, h5⟩
theorem r_acI (C : Cx p s m args meth c cc nL own ret E) (hS : Hs E s.heap X H locs) (hsz : ls.size = nL) {k0 n0 k1 n1 index : Nat} (hk0 : kd k0 = 1000 + n0) (hn0 : n0 < 1000) (hk1 : kd k1 = 1000 + n1) (hn1 : n1 < 1000) {sp dp n : Int32} {G : Mem → Option β} (h : acI X k0 n0 sp k1 n1 dp n G = some fr) (hl : Cond.methodLink own index arraycopyName ∈ tb) (hnat : Cond.native arraycopyName ∈ tb) (hst : Cond.static arraycopyName ∈ tb) (hini : Cond.initialized "java/lang/System" ∈ tb) (hfr : 1 ≤ R.frames) (hlo : (rest.map fun v => v.category).sum + (nativeFrameWords "java/lang/System" "arraycopy" 5 + 11) ≤ R.locals) (hdg : decode cc pc = .ok (.invokestatic index, 3))
    (kk : ∀ (Y : Mem) (H1 : Heap) (locs1 : List Loc), Hs E s.heap Y H1 locs1 → G Y = some fr → W p l e R s m args below meth c H1 locs1 cells slots Q (F0 m (pc + 3) ls rest)) : W p l e R s m args below meth c H locs cells slots Q (F0 m pc ls (.int n :: .int dp :: .ref (ad E k1) :: .int sp :: .ref (ad E k0) :: rest)) := by
  obtain ⟨hx, hb, hml, ho, hts, -, -, hK, hi, -⟩ := C
  obtain ⟨h1, h2⟩ := if_tr h
  obtain ⟨a1, a2, a3, a4, a5⟩ := ckC_el h1
  have hk8 := kd_lt hk0 (by omega)
  have hk9 := kd_lt hk1 (by omega)
  refine va_copyi (ty := .int) hx hb (hml.trans hsz.symm) ho (hts _ hl) (hts _ hnat) (hts _ hst) (hts _ hini) hK hS.1 (wl_D hi) hS.2 k0 k1 0 0 (by rw [wl_get hk8, cel_I hk0 hn0]) (by rw [wl_get hk9, cel_I hk1 hn1]) rfl rfl rfl a1 a2 a3 a4 a5 (fun _ _ => rfl) hfr hlo hdg (fun H1 locs1 hP1 _ hS1 => kk _ H1 locs1 ⟨?_, hS1⟩ h2)
  rw [← cI_row, ← cel_I (E := E) (X := cI X k0 k1 sp.toNatClampNeg dp.toNatClampNeg n.toNatClampNeg) hk1 hn1, wl_set (X := X) (Y := cI X k0 k1 sp.toNatClampNeg dp.toNatClampNeg n.toNatClampNeg) hk9 (fun a ha => ?_) (fun a _ => rfl)] at hP1
  · exact hP1
  · funext b
    show X.1 a b = if a = k1 then _ else X.1 a b
    rw [if_neg ha]
theorem r_acL (C : Cx p s m args meth c cc nL own ret E) (hS : Hs E s.heap X H locs) (hsz : ls.size = nL) {k0 n0 k1 n1 index : Nat} (hk0 : kd k0 = 3000 + n0) (hn0 : n0 < 1000) (hk1 : kd k1 = 3000 + n1) (hn1 : n1 < 1000) {sp dp n : Int32} {G : Mem → Option β} (h : acL X k0 n0 sp k1 n1 dp n G = some fr) (hl : Cond.methodLink own index arraycopyName ∈ tb) (hnat : Cond.native arraycopyName ∈ tb) (hst : Cond.static arraycopyName ∈ tb) (hini : Cond.initialized "java/lang/System" ∈ tb) (hfr : 1 ≤ R.frames) (hlo : (rest.map fun v => v.category).sum + (nativeFrameWords "java/lang/System" "arraycopy" 5 + 11) ≤ R.locals) (hdg : decode cc pc = .ok (.invokestatic index, 3))
    (kk : ∀ (Y : Mem) (H1 : Heap) (locs1 : List Loc), Hs E s.heap Y H1 locs1 → G Y = some fr → W p l e R s m args below meth c H1 locs1 cells slots Q (F0 m (pc + 3) ls rest)) : W p l e R s m args below meth c H locs cells slots Q (F0 m pc ls (.int n :: .int dp :: .ref (ad E k1) :: .int sp :: .ref (ad E k0) :: rest)) := by
  obtain ⟨hx, hb, hml, ho, hts, -, -, hK, hi, -⟩ := C
  obtain ⟨h1, h2⟩ := if_tr h
  obtain ⟨a1, a2, a3, a4, a5⟩ := ckC_el h1
  have hk8 := kd_lt hk0 (by omega)
  have hk9 := kd_lt hk1 (by omega)
  refine va_copyl (ty := .long) hx hb (hml.trans hsz.symm) ho (hts _ hl) (hts _ hnat) (hts _ hst) (hts _ hini) hK hS.1 (wl_D hi) hS.2 k0 k1 2 2 (by rw [wl_get hk8, cel_L hk0 hn0]) (by rw [wl_get hk9, cel_L hk1 hn1]) rfl rfl rfl a1 a2 a3 a4 a5 (fun _ _ => rfl) hfr hlo hdg (fun H1 locs1 hP1 _ hS1 => kk _ H1 locs1 ⟨?_, hS1⟩ h2)
  rw [← cL_row, ← cel_L (E := E) (X := cL X k0 k1 sp.toNatClampNeg dp.toNatClampNeg n.toNatClampNeg) hk1 hn1, wl_set (X := X) (Y := cL X k0 k1 sp.toNatClampNeg dp.toNatClampNeg n.toNatClampNeg) hk9 (fun a _ => rfl) (fun a ha => ?_)] at hP1
  · exact hP1
  · funext b
    show X.2 a b = if a = k1 then _ else X.2 a b
    rw [if_neg ha]
end RW
end
section
theorem tw_0 : Cond.selects "TideLoans" ⟨"TideLoans", "finding", "(I)I"⟩ ⟨"TideLoans", "finding", "(I)I"⟩ ∈ tb := tbm 0 (by decide +kernel) rfl
theorem tw_1 : Cond.selects "TideLoans" ⟨"TideLoans", "owedNow", "(LTideLoans$Thing;)I"⟩ ⟨"TideLoans", "owedNow", "(LTideLoans$Thing;)I"⟩ ∈ tb := tbm 1 (by decide +kernel) rfl
theorem tw_2 : Cond.selects "TideLoans" ⟨"TideLoans", "followAll", "(I)V"⟩ ⟨"TideLoans", "followAll", "(I)V"⟩ ∈ tb := tbm 2 (by decide +kernel) rfl
theorem tw_3 : Cond.selects "TideLoans" ⟨"TideLoans", "follow", "(II)V"⟩ ⟨"TideLoans", "follow", "(II)V"⟩ ∈ tb := tbm 3 (by decide +kernel) rfl
theorem tw_4 : Cond.selects "TideLoans$Way" ⟨"TideLoans$Way", "waitForTide", "(IIII)V"⟩ ⟨"TideLoans$Way", "waitForTide", "(IIII)V"⟩ ∈ tb := tbm 4 (by decide +kernel) rfl
theorem tw_5 : Cond.selects "TideLoans$Way" ⟨"TideLoans$Way", "waitForSpring", "(III)V"⟩ ⟨"TideLoans$Way", "waitForSpring", "(III)V"⟩ ∈ tb := tbm 5 (by decide +kernel) rfl
theorem tw_6 : Cond.selects "TideLoans" ⟨"TideLoans", "bring", "(LTideLoans$Thing;LTideLoans$Way;)V"⟩ ⟨"TideLoans", "bring", "(LTideLoans$Thing;LTideLoans$Way;)V"⟩ ∈ tb := tbm 6 (by decide +kernel) rfl
theorem tw_7 : Cond.selects "TideLoans" ⟨"TideLoans", "allOwedNow", "()I"⟩ ⟨"TideLoans", "allOwedNow", "()I"⟩ ∈ tb := tbm 7 (by decide +kernel) rfl
theorem tw_8 : Cond.selects "TideLoans" ⟨"TideLoans", "purseThen", "(III)I"⟩ ⟨"TideLoans", "purseThen", "(III)I"⟩ ∈ tb := tbm 8 (by decide +kernel) rfl
theorem tw_9 : Cond.selects "TideLoans" ⟨"TideLoans", "tryOn", "(II)I"⟩ ⟨"TideLoans", "tryOn", "(II)I"⟩ ∈ tb := tbm 9 (by decide +kernel) rfl
theorem tw_10 : Cond.selects "TideLoans" ⟨"TideLoans", "purseWithTrial", "(III)I"⟩ ⟨"TideLoans", "purseWithTrial", "(III)I"⟩ ∈ tb := tbm 10 (by decide +kernel) rfl
theorem tw_11 : Cond.selects "TideLoans" ⟨"TideLoans", "followTrial", "(II)V"⟩ ⟨"TideLoans", "followTrial", "(II)V"⟩ ∈ tb := tbm 11 (by decide +kernel) rfl
theorem tw_12 : Cond.selects "TideLoans" ⟨"TideLoans", "shareOut", "(I)I"⟩ ⟨"TideLoans", "shareOut", "(I)I"⟩ ∈ tb := tbm 12 (by decide +kernel) rfl
theorem tw_13 : Cond.selects "TideLoans" ⟨"TideLoans", "sureThen", "(I)I"⟩ ⟨"TideLoans", "sureThen", "(I)I"⟩ ∈ tb := tbm 13 (by decide +kernel) rfl
theorem tw_14 : Cond.selects "TideLoans" ⟨"TideLoans", "sharesOf", "(I)I"⟩ ⟨"TideLoans", "sharesOf", "(I)I"⟩ ∈ tb := tbm 14 (by decide +kernel) rfl
theorem tw_15 : Cond.selects "TideLoans" ⟨"TideLoans", "gainAt", "(I)J"⟩ ⟨"TideLoans", "gainAt", "(I)J"⟩ ∈ tb := tbm 15 (by decide +kernel) rfl
theorem tw_16 : Cond.selects "TideLoans" ⟨"TideLoans", "readText", "()I"⟩ ⟨"TideLoans", "readText", "()I"⟩ ∈ tb := tbm 16 (by decide +kernel) rfl
theorem tw_17 : Cond.selects "TideLoans" ⟨"TideLoans", "readItem", "()Z"⟩ ⟨"TideLoans", "readItem", "()Z"⟩ ∈ tb := tbm 17 (by decide +kernel) rfl
theorem tw_18 : Cond.selects "TideLoans" ⟨"TideLoans", "readThing", "(I)Z"⟩ ⟨"TideLoans", "readThing", "(I)Z"⟩ ∈ tb := tbm 18 (by decide +kernel) rfl
theorem tw_19 : Cond.selects "TideLoans" ⟨"TideLoans", "readWorth", "(LTideLoans$Thing;)Z"⟩ ⟨"TideLoans", "readWorth", "(LTideLoans$Thing;)Z"⟩ ∈ tb := tbm 19 (by decide +kernel) rfl
theorem tw_20 : Cond.selects "TideLoans" ⟨"TideLoans", "readPlace", "(LTideLoans$Thing;)Z"⟩ ⟨"TideLoans", "readPlace", "(LTideLoans$Thing;)Z"⟩ ∈ tb := tbm 20 (by decide +kernel) rfl
theorem tw_21 : Cond.selects "TideLoans" ⟨"TideLoans", "readHeight", "()Z"⟩ ⟨"TideLoans", "readHeight", "()Z"⟩ ∈ tb := tbm 21 (by decide +kernel) rfl
theorem tw_22 : Cond.selects "TideLoans" ⟨"TideLoans", "readInterest", "()Z"⟩ ⟨"TideLoans", "readInterest", "()Z"⟩ ∈ tb := tbm 22 (by decide +kernel) rfl
theorem tw_23 : Cond.selects "TideLoans" ⟨"TideLoans", "plotCourse", "(III)V"⟩ ⟨"TideLoans", "plotCourse", "(III)V"⟩ ∈ tb := tbm 23 (by decide +kernel) rfl
theorem tw_24 : Cond.selects "TideLoans" ⟨"TideLoans", "addToCourse", "(III)V"⟩ ⟨"TideLoans", "addToCourse", "(III)V"⟩ ∈ tb := tbm 24 (by decide +kernel) rfl
theorem tw_25 : Cond.selects "TideLoans" ⟨"TideLoans", "cellsThatFit", "(LTideLoans$Sheet;II)I"⟩ ⟨"TideLoans", "cellsThatFit", "(LTideLoans$Sheet;II)I"⟩ ∈ tb := tbm 25 (by decide +kernel) rfl
theorem tw_26 : Cond.selects "TideLoans" ⟨"TideLoans", "isCourseWith", "(LTideLoans$Sheet;II)Z"⟩ ⟨"TideLoans", "isCourseWith", "(LTideLoans$Sheet;II)Z"⟩ ∈ tb := tbm 26 (by decide +kernel) rfl
theorem tw_27 : Cond.selects "TideLoansModel" ⟨"TideLoansModel", "becomes", "(II)I"⟩ ⟨"TideLoansModel", "becomes", "(II)I"⟩ ∈ tb := tbm 27 (by decide +kernel) rfl
theorem tw_28 : Cond.selects "TideLoansModel" ⟨"TideLoansModel", "finds", "(I)I"⟩ ⟨"TideLoansModel", "finds", "(I)I"⟩ ∈ tb := tbm 28 (by decide +kernel) rfl
theorem tw_29 : Cond.selects "TideLoansModel" ⟨"TideLoansModel", "laidAt", "(I)I"⟩ ⟨"TideLoansModel", "laidAt", "(I)I"⟩ ∈ tb := tbm 29 (by decide +kernel) rfl
theorem tw_30 : Cond.selects "TideLoansModel" ⟨"TideLoansModel", "isIt", "(II)Z"⟩ ⟨"TideLoansModel", "isIt", "(II)Z"⟩ ∈ tb := tbm 30 (by decide +kernel) rfl
theorem tw_31 : Cond.selects "TideLoansModel" ⟨"TideLoansModel", "its", "(II)I"⟩ ⟨"TideLoansModel", "its", "(II)I"⟩ ∈ tb := tbm 31 (by decide +kernel) rfl
theorem tw_32 : Cond.selects "TideLoansModel" ⟨"TideLoansModel", "comes", "(II)V"⟩ ⟨"TideLoansModel", "comes", "(II)V"⟩ ∈ tb := tbm 32 (by decide +kernel) rfl
theorem tw_33 : Cond.selects "TideLoansModel" ⟨"TideLoansModel", "isThing", "(I)Z"⟩ ⟨"TideLoansModel", "isThing", "(I)Z"⟩ ∈ tb := tbm 33 (by decide +kernel) rfl
theorem tw_34 : Cond.selects "TideLoansModel" ⟨"TideLoansModel", "wouldRepay", "(I)I"⟩ ⟨"TideLoansModel", "wouldRepay", "(I)I"⟩ ∈ tb := tbm 34 (by decide +kernel) rfl
theorem tw_35 : Cond.selects "TideLoansModel" ⟨"TideLoansModel", "repays", "(II)I"⟩ ⟨"TideLoansModel", "repays", "(II)I"⟩ ∈ tb := tbm 35 (by decide +kernel) rfl
theorem tw_36 : Cond.selects "TideLoansModel" ⟨"TideLoansModel", "lies", "(II)V"⟩ ⟨"TideLoansModel", "lies", "(II)V"⟩ ∈ tb := tbm 36 (by decide +kernel) rfl
theorem tw_37 : Cond.selects "TideLoansModel" ⟨"TideLoansModel", "goes", "(I)V"⟩ ⟨"TideLoansModel", "goes", "(I)V"⟩ ∈ tb := tbm 37 (by decide +kernel) rfl
theorem tw_38 : Cond.selects "TideLoansModel" ⟨"TideLoansModel", "day", "()V"⟩ ⟨"TideLoansModel", "day", "()V"⟩ ∈ tb := tbm 38 (by decide +kernel) rfl
theorem tw_39 : Cond.selects "TideLoansModel" ⟨"TideLoansModel", "comesHome", "(II)V"⟩ ⟨"TideLoansModel", "comesHome", "(II)V"⟩ ∈ tb := tbm 39 (by decide +kernel) rfl
theorem tw_40 : Cond.selects "TideLoansModel" ⟨"TideLoansModel", "isTaken", "(I)Z"⟩ ⟨"TideLoansModel", "isTaken", "(I)Z"⟩ ∈ tb := tbm 40 (by decide +kernel) rfl
theorem tw_41 : Cond.selects "TideLoansModel" ⟨"TideLoansModel", "purses", "()J"⟩ ⟨"TideLoansModel", "purses", "()J"⟩ ∈ tb := tbm 41 (by decide +kernel) rfl
theorem tw_42 : Cond.selects "TideLoansModel" ⟨"TideLoansModel", "thoseThatAre", "(I)I"⟩ ⟨"TideLoansModel", "thoseThatAre", "(I)I"⟩ ∈ tb := tbm 42 (by decide +kernel) rfl
theorem tw_43 : Cond.selects "TideLoansModel" ⟨"TideLoansModel", "purseOn", "(II)I"⟩ ⟨"TideLoansModel", "purseOn", "(II)I"⟩ ∈ tb := tbm 43 (by decide +kernel) rfl
theorem tw_44 : Cond.selects "TideLoansModel" ⟨"TideLoansModel", "whenIt", "(II)I"⟩ ⟨"TideLoansModel", "whenIt", "(II)I"⟩ ∈ tb := tbm 44 (by decide +kernel) rfl
theorem tw_45 : Cond.selects "TideLoansModel" ⟨"TideLoansModel", "orNone", "(I)I"⟩ ⟨"TideLoansModel", "orNone", "(I)I"⟩ ∈ tb := tbm 45 (by decide +kernel) rfl
theorem tw_46 : Cond.selects "TideLoansModel" ⟨"TideLoansModel", "pursesOn", "(I)J"⟩ ⟨"TideLoansModel", "pursesOn", "(I)J"⟩ ∈ tb := tbm 46 (by decide +kernel) rfl
theorem tw_47 : Cond.selects "TideLoansModel" ⟨"TideLoansModel", "nextToken", "()V"⟩ ⟨"TideLoansModel", "nextToken", "()V"⟩ ∈ tb := tbm 47 (by decide +kernel) rfl
theorem tw_48 : Cond.selects "TideLoansModel" ⟨"TideLoansModel", "byteAt", "(I)I"⟩ ⟨"TideLoansModel", "byteAt", "(I)I"⟩ ∈ tb := tbm 48 (by decide +kernel) rfl
theorem tw_49 : Cond.selects "TideLoansModel" ⟨"TideLoansModel", "itemHere", "()Z"⟩ ⟨"TideLoansModel", "itemHere", "()Z"⟩ ∈ tb := tbm 49 (by decide +kernel) rfl
theorem tw_50 : Cond.selects "TideLoansModel" ⟨"TideLoansModel", "kindHere", "()I"⟩ ⟨"TideLoansModel", "kindHere", "()I"⟩ ∈ tb := tbm 50 (by decide +kernel) rfl
theorem tw_51 : Cond.selects "TideLoansModel" ⟨"TideLoansModel", "isFive", "(IIIII)Z"⟩ ⟨"TideLoansModel", "isFive", "(IIIII)Z"⟩ ∈ tb := tbm 51 (by decide +kernel) rfl
theorem tw_52 : Cond.selects "TideLoansModel" ⟨"TideLoansModel", "isWord", "(I)Z"⟩ ⟨"TideLoansModel", "isWord", "(I)Z"⟩ ∈ tb := tbm 52 (by decide +kernel) rfl
theorem tw_53 : Cond.selects "TideLoansModel" ⟨"TideLoansModel", "has3", "(IIII)Z"⟩ ⟨"TideLoansModel", "has3", "(IIII)Z"⟩ ∈ tb := tbm 53 (by decide +kernel) rfl
theorem tw_54 : Cond.selects "TideLoansModel" ⟨"TideLoansModel", "isSix", "(IIIIII)Z"⟩ ⟨"TideLoansModel", "isSix", "(IIIIII)Z"⟩ ∈ tb := tbm 54 (by decide +kernel) rfl
theorem tw_55 : Cond.selects "TideLoansModel" ⟨"TideLoansModel", "thingHere", "(I)Z"⟩ ⟨"TideLoansModel", "thingHere", "(I)Z"⟩ ∈ tb := tbm 55 (by decide +kernel) rfl
theorem tw_56 : Cond.selects "TideLoansModel" ⟨"TideLoansModel", "fails", "()Z"⟩ ⟨"TideLoansModel", "fails", "()Z"⟩ ∈ tb := tbm 56 (by decide +kernel) rfl
theorem tw_57 : Cond.selects "TideLoansModel" ⟨"TideLoansModel", "isTwo", "(II)Z"⟩ ⟨"TideLoansModel", "isTwo", "(II)Z"⟩ ∈ tb := tbm 57 (by decide +kernel) rfl
theorem tw_58 : Cond.selects "TideLoansModel" ⟨"TideLoansModel", "isNumber", "(II)Z"⟩ ⟨"TideLoansModel", "isNumber", "(II)Z"⟩ ∈ tb := tbm 58 (by decide +kernel) rfl
theorem tw_59 : Cond.selects "TideLoansModel" ⟨"TideLoansModel", "heightHere", "()Z"⟩ ⟨"TideLoansModel", "heightHere", "()Z"⟩ ∈ tb := tbm 59 (by decide +kernel) rfl
theorem tw_60 : Cond.selects "TideLoansModel" ⟨"TideLoansModel", "interestHere", "()Z"⟩ ⟨"TideLoansModel", "interestHere", "()Z"⟩ ∈ tb := tbm 60 (by decide +kernel) rfl
theorem tw_61 : Cond.selects "TideLoansModel" ⟨"TideLoansModel", "wants", "(I)I"⟩ ⟨"TideLoansModel", "wants", "(I)I"⟩ ∈ tb := tbm 61 (by decide +kernel) rfl
theorem tw_62 : Cond.selects "TideLoansModel" ⟨"TideLoansModel", "isTold", "(II)Z"⟩ ⟨"TideLoansModel", "isTold", "(II)Z"⟩ ∈ tb := tbm 62 (by decide +kernel) rfl
theorem tw_63 : (Jvm.Cond.initialized "TideLoansLaw") ∈ tb := tbm 63 (by decide +kernel) rfl
theorem tw_64 : (Jvm.Cond.initialized "TideLoans") ∈ tb := tbm 64 (by decide +kernel) rfl
theorem tw_65 : (Jvm.Cond.initialized "TideLoans$Shore") ∈ tb := tbm 65 (by decide +kernel) rfl
theorem tw_66 : (Jvm.Cond.initialized "TideLoans$Thing") ∈ tb := tbm 66 (by decide +kernel) rfl
theorem tw_67 : (Jvm.Cond.initialized "TideLoans$Tape") ∈ tb := tbm 67 (by decide +kernel) rfl
theorem tw_68 : (Jvm.Cond.initialized "TideLoans$Way") ∈ tb := tbm 68 (by decide +kernel) rfl
theorem tw_69 : (Jvm.Cond.initialized "TideLoans$Sheet") ∈ tb := tbm 69 (by decide +kernel) rfl
theorem tw_70 : (Jvm.Cond.initialized "TideLoansModel") ∈ tb := tbm 70 (by decide +kernel) rfl
theorem tw_71 : (Jvm.Cond.initialized "java/lang/Math") ∈ tb := tbm 71 (by decide +kernel) rfl
theorem tw_72 : (Jvm.Cond.initialized "java/lang/Integer") ∈ tb := tbm 72 (by decide +kernel) rfl
theorem tw_73 : (Jvm.Cond.initialized "java/lang/System") ∈ tb := tbm 73 (by decide +kernel) rfl
theorem tw_74 : (Jvm.Cond.initialized "java/lang/String") ∈ tb := tbm 74 (by decide +kernel) rfl
theorem tw_75 : (Jvm.Cond.initialized "java/lang/StringLatin1") ∈ tb := tbm 75 (by decide +kernel) rfl
theorem tw_76 : (Jvm.Cond.initialized "jdk/internal/util/Preconditions") ∈ tb := tbm 76 (by decide +kernel) rfl
theorem tw_77 : (Jvm.Cond.initialized "java/lang/StringUTF16") ∈ tb := tbm 77 (by decide +kernel) rfl
theorem tw_78 : (Jvm.Cond.classLink "TideLoansLaw" (7 : Nat) "TideLoans") ∈ tb := tbm 78 (by decide +kernel) rfl
theorem tw_79 : (Jvm.Cond.instantiable "TideLoans" (12 : Nat)) ∈ tb := tbm 79 (by decide +kernel) rfl
theorem tw_80 : (Jvm.Cond.methodLink "TideLoansLaw" (9 : Nat) ({ cls := "TideLoans", name := "<init>", desc := "()V" } : Jvm.MethodName)) ∈ tb := tbm 80 (by decide +kernel) rfl
theorem tw_81 : (Jvm.Cond.instanceMethod ({ cls := "TideLoans", name := "<init>", desc := "()V" } : Jvm.MethodName)) ∈ tb := tbm 81 (by decide +kernel) rfl
theorem tw_82 : (Jvm.Cond.code ({ cls := "TideLoans", name := "<init>", desc := "()V" } : Jvm.MethodName) prog_1_method_1_code (2 : Nat) (Option.none : Option Jvm.ClassFile.FieldType)) ∈ tb := tbm 82 (by decide +kernel) rfl
theorem tw_83 : (Jvm.Cond.methodLink "TideLoans" (1 : Nat) ({ cls := "java/lang/Object", name := "<init>", desc := "()V" } : Jvm.MethodName)) ∈ tb := tbm 83 (by decide +kernel) rfl
theorem tw_84 : (Jvm.Cond.instanceMethod ({ cls := "java/lang/Object", name := "<init>", desc := "()V" } : Jvm.MethodName)) ∈ tb := tbm 84 (by decide +kernel) rfl
theorem tw_85 : (Jvm.Cond.code ({ cls := "java/lang/Object", name := "<init>", desc := "()V" } : Jvm.MethodName) object_method_1_code (1 : Nat) (Option.none : Option Jvm.ClassFile.FieldType)) ∈ tb := tbm 85 (by decide +kernel) rfl
theorem tw_86 : (Jvm.Cond.classLink "TideLoans" (13 : Nat) "TideLoans$Shore") ∈ tb := tbm 86 (by decide +kernel) rfl
theorem tw_87 : (Jvm.Cond.instantiable "TideLoans$Shore" (6 : Nat)) ∈ tb := tbm 87 (by decide +kernel) rfl
theorem tw_88 : (Jvm.Cond.methodLink "TideLoans" (15 : Nat) ({ cls := "TideLoans$Shore", name := "<init>", desc := "()V" } : Jvm.MethodName)) ∈ tb := tbm 88 (by decide +kernel) rfl
theorem tw_89 : (Jvm.Cond.instanceMethod ({ cls := "TideLoans$Shore", name := "<init>", desc := "()V" } : Jvm.MethodName)) ∈ tb := tbm 89 (by decide +kernel) rfl
theorem tw_90 : (Jvm.Cond.code ({ cls := "TideLoans$Shore", name := "<init>", desc := "()V" } : Jvm.MethodName) prog_3_method_1_code (2 : Nat) (Option.none : Option Jvm.ClassFile.FieldType)) ∈ tb := tbm 90 (by decide +kernel) rfl
theorem tw_91 : (Jvm.Cond.methodLink "TideLoans$Shore" (3 : Nat) ({ cls := "java/lang/Object", name := "<init>", desc := "()V" } : Jvm.MethodName)) ∈ tb := tbm 91 (by decide +kernel) rfl
theorem tw_92 : (Jvm.Cond.classLink "TideLoans$Shore" (18 : Nat) "TideLoans$Thing") ∈ tb := tbm 92 (by decide +kernel) rfl
theorem tw_93 : (Jvm.Cond.arrayOver (Jvm.ClassFile.FieldType.object "TideLoans$Thing")) ∈ tb := tbm 93 (by decide +kernel) rfl
theorem tw_94 : (Jvm.Cond.instantiable "TideLoans$Thing" (6 : Nat)) ∈ tb := tbm 94 (by decide +kernel) rfl
theorem tw_95 : (Jvm.Cond.methodLinkNest "TideLoans$Shore" (28 : Nat) ({ cls := "TideLoans$Thing", name := "<init>", desc := "()V" } : Jvm.MethodName) "TideLoans") ∈ nst := nsm 95 (by decide +kernel) rfl
theorem tw_96 : (Jvm.Cond.instanceMethod ({ cls := "TideLoans$Thing", name := "<init>", desc := "()V" } : Jvm.MethodName)) ∈ tb := tbm 96 (by decide +kernel) rfl
theorem tw_97 : (Jvm.Cond.code ({ cls := "TideLoans$Thing", name := "<init>", desc := "()V" } : Jvm.MethodName) prog_5_method_1_code (1 : Nat) (Option.none : Option Jvm.ClassFile.FieldType)) ∈ tb := tbm 97 (by decide +kernel) rfl
theorem tw_98 : (Jvm.Cond.methodLink "TideLoans$Thing" (3 : Nat) ({ cls := "java/lang/Object", name := "<init>", desc := "()V" } : Jvm.MethodName)) ∈ tb := tbm 98 (by decide +kernel) rfl
theorem tw_99 : (Jvm.Cond.fieldLink "TideLoans$Thing" (9 : Nat) "TideLoans$Thing" "kind" "I") ∈ tb := tbm 99 (by decide +kernel) rfl
theorem tw_100 : (Jvm.Cond.fieldLink "TideLoans$Way" (31 : Nat) "TideLoans$Thing" "kind" "I") ∈ tb := tbm 100 (by decide +kernel) rfl
theorem tw_101 : (Jvm.Cond.fieldLink "TideLoans" (121 : Nat) "TideLoans$Thing" "kind" "I") ∈ tb := tbm 101 (by decide +kernel) rfl
theorem tw_102 : (Jvm.Cond.fieldLink "TideLoans$Thing" (15 : Nat) "TideLoans$Thing" "family" "I") ∈ tb := tbm 102 (by decide +kernel) rfl
theorem tw_103 : (Jvm.Cond.fieldLink "TideLoans" (124 : Nat) "TideLoans$Thing" "family" "I") ∈ tb := tbm 103 (by decide +kernel) rfl
theorem tw_104 : (Jvm.Cond.fieldLink "TideLoans$Thing" (18 : Nat) "TideLoans$Thing" "cell" "I") ∈ tb := tbm 104 (by decide +kernel) rfl
theorem tw_105 : (Jvm.Cond.fieldLink "TideLoans$Shore" (60 : Nat) "TideLoans$Thing" "cell" "I") ∈ tb := tbm 105 (by decide +kernel) rfl
theorem tw_106 : (Jvm.Cond.fieldLink "TideLoans" (127 : Nat) "TideLoans$Thing" "cell" "I") ∈ tb := tbm 106 (by decide +kernel) rfl
theorem tw_107 : (Jvm.Cond.fieldLink "TideLoans$Thing" (21 : Nat) "TideLoans$Thing" "worth" "I") ∈ tb := tbm 107 (by decide +kernel) rfl
theorem tw_108 : (Jvm.Cond.fieldLink "TideLoans$Shore" (63 : Nat) "TideLoans$Thing" "worth" "I") ∈ tb := tbm 108 (by decide +kernel) rfl
theorem tw_109 : (Jvm.Cond.fieldLink "TideLoans" (130 : Nat) "TideLoans$Thing" "worth" "I") ∈ tb := tbm 109 (by decide +kernel) rfl
theorem tw_110 : (Jvm.Cond.fieldLink "TideLoans$Way" (21 : Nat) "TideLoans$Thing" "state" "I") ∈ tb := tbm 110 (by decide +kernel) rfl
theorem tw_111 : (Jvm.Cond.fieldLink "TideLoans$Thing" (24 : Nat) "TideLoans$Thing" "state" "I") ∈ tb := tbm 111 (by decide +kernel) rfl
theorem tw_112 : (Jvm.Cond.fieldLink "TideLoans$Shore" (57 : Nat) "TideLoans$Thing" "state" "I") ∈ tb := tbm 112 (by decide +kernel) rfl
theorem tw_113 : (Jvm.Cond.fieldLink "TideLoans" (133 : Nat) "TideLoans$Thing" "state" "I") ∈ tb := tbm 113 (by decide +kernel) rfl
theorem tw_114 : (Jvm.Cond.fieldLink "TideLoans$Way" (27 : Nat) "TideLoans$Thing" "since" "I") ∈ tb := tbm 114 (by decide +kernel) rfl
theorem tw_115 : (Jvm.Cond.fieldLink "TideLoans$Thing" (27 : Nat) "TideLoans$Thing" "since" "I") ∈ tb := tbm 115 (by decide +kernel) rfl
theorem tw_116 : (Jvm.Cond.fieldLink "TideLoans" (136 : Nat) "TideLoans$Thing" "since" "I") ∈ tb := tbm 116 (by decide +kernel) rfl
theorem tw_117 : (Jvm.Cond.lays "TideLoans$Thing" "TideLoans$Thing" "kind" "I") ∈ tb := tbm 117 (by decide +kernel) rfl
theorem tw_119 : (Jvm.Cond.lays "TideLoans$Thing" "TideLoans$Thing" "family" "I") ∈ tb := tbm 119 (by decide +kernel) rfl
theorem tw_121 : (Jvm.Cond.lays "TideLoans$Thing" "TideLoans$Thing" "cell" "I") ∈ tb := tbm 121 (by decide +kernel) rfl
theorem tw_123 : (Jvm.Cond.lays "TideLoans$Thing" "TideLoans$Thing" "worth" "I") ∈ tb := tbm 123 (by decide +kernel) rfl
theorem tw_125 : (Jvm.Cond.lays "TideLoans$Thing" "TideLoans$Thing" "state" "I") ∈ tb := tbm 125 (by decide +kernel) rfl
theorem tw_127 : (Jvm.Cond.lays "TideLoans$Thing" "TideLoans$Thing" "since" "I") ∈ tb := tbm 127 (by decide +kernel) rfl
theorem tw_130 : (Jvm.Cond.arrayClass Jvm.ClassFile.FieldType.int) ∈ tb := tbm 130 (by decide +kernel) rfl
theorem tw_131 : (Jvm.Cond.fieldLink "TideLoans$Shore" (9 : Nat) "TideLoans$Shore" "heights" "[I") ∈ tb := tbm 131 (by decide +kernel) rfl
theorem tw_132 : (Jvm.Cond.fieldLink "TideLoans" (73 : Nat) "TideLoans$Shore" "heights" "[I") ∈ tb := tbm 132 (by decide +kernel) rfl
theorem tw_133 : (Jvm.Cond.fieldLink "TideLoans$Shore" (15 : Nat) "TideLoans$Shore" "purses" "[I") ∈ tb := tbm 133 (by decide +kernel) rfl
theorem tw_134 : (Jvm.Cond.fieldLink "TideLoans" (102 : Nat) "TideLoans$Shore" "purses" "[I") ∈ tb := tbm 134 (by decide +kernel) rfl
theorem tw_135 : (Jvm.Cond.fieldLink "TideLoans$Shore" (20 : Nat) "TideLoans$Shore" "things" "[LTideLoans$Thing;") ∈ tb := tbm 135 (by decide +kernel) rfl
theorem tw_136 : (Jvm.Cond.fieldLink "TideLoans" (117 : Nat) "TideLoans$Shore" "things" "[LTideLoans$Thing;") ∈ tb := tbm 136 (by decide +kernel) rfl
theorem tw_137 : (Jvm.Cond.fieldLink "TideLoans$Shore" (35 : Nat) "TideLoans$Shore" "size" "I") ∈ tb := tbm 137 (by decide +kernel) rfl
theorem tw_138 : (Jvm.Cond.fieldLink "TideLoans" (166 : Nat) "TideLoans$Shore" "size" "I") ∈ tb := tbm 138 (by decide +kernel) rfl
theorem tw_139 : (Jvm.Cond.fieldLink "TideLoans$Shore" (38 : Nat) "TideLoans$Shore" "day" "I") ∈ tb := tbm 139 (by decide +kernel) rfl
theorem tw_140 : (Jvm.Cond.fieldLink "TideLoans" (160 : Nat) "TideLoans$Shore" "day" "I") ∈ tb := tbm 140 (by decide +kernel) rfl
theorem tw_141 : (Jvm.Cond.fieldLink "TideLoans$Shore" (24 : Nat) "TideLoans$Shore" "interest" "I") ∈ tb := tbm 141 (by decide +kernel) rfl
theorem tw_142 : (Jvm.Cond.fieldLink "TideLoans" (83 : Nat) "TideLoans$Shore" "interest" "I") ∈ tb := tbm 142 (by decide +kernel) rfl
theorem tw_143 : (Jvm.Cond.laysFinal "TideLoans$Shore" "TideLoans$Shore" "heights" "[I") ∈ tb := tbm 143 (by decide +kernel) rfl
theorem tw_145 : (Jvm.Cond.laysFinal "TideLoans$Shore" "TideLoans$Shore" "purses" "[I") ∈ tb := tbm 145 (by decide +kernel) rfl
theorem tw_147 : (Jvm.Cond.laysFinal "TideLoans$Shore" "TideLoans$Shore" "things" "[LTideLoans$Thing;") ∈ tb := tbm 147 (by decide +kernel) rfl
theorem tw_149 : (Jvm.Cond.lays "TideLoans$Shore" "TideLoans$Shore" "size" "I") ∈ tb := tbm 149 (by decide +kernel) rfl
theorem tw_151 : (Jvm.Cond.lays "TideLoans$Shore" "TideLoans$Shore" "day" "I") ∈ tb := tbm 151 (by decide +kernel) rfl
theorem tw_153 : (Jvm.Cond.lays "TideLoans$Shore" "TideLoans$Shore" "interest" "I") ∈ tb := tbm 153 (by decide +kernel) rfl
theorem tw_156 : (Jvm.Cond.classLink "TideLoans" (26 : Nat) "TideLoans$Tape") ∈ tb := tbm 156 (by decide +kernel) rfl
theorem tw_157 : (Jvm.Cond.instantiable "TideLoans$Tape" (6 : Nat)) ∈ tb := tbm 157 (by decide +kernel) rfl
theorem tw_158 : (Jvm.Cond.methodLinkNest "TideLoans" (28 : Nat) ({ cls := "TideLoans$Tape", name := "<init>", desc := "()V" } : Jvm.MethodName) "TideLoans") ∈ nst := nsm 158 (by decide +kernel) rfl
theorem tw_159 : (Jvm.Cond.instanceMethod ({ cls := "TideLoans$Tape", name := "<init>", desc := "()V" } : Jvm.MethodName)) ∈ tb := tbm 159 (by decide +kernel) rfl
theorem tw_160 : (Jvm.Cond.code ({ cls := "TideLoans$Tape", name := "<init>", desc := "()V" } : Jvm.MethodName) prog_4_method_1_code (1 : Nat) (Option.none : Option Jvm.ClassFile.FieldType)) ∈ tb := tbm 160 (by decide +kernel) rfl
theorem tw_161 : (Jvm.Cond.methodLink "TideLoans$Tape" (3 : Nat) ({ cls := "java/lang/Object", name := "<init>", desc := "()V" } : Jvm.MethodName)) ∈ tb := tbm 161 (by decide +kernel) rfl
theorem tw_162 : (Jvm.Cond.fieldLink "TideLoans$Tape" (9 : Nat) "TideLoans$Tape" "bytes" "[B") ∈ tb := tbm 162 (by decide +kernel) rfl
theorem tw_163 : (Jvm.Cond.fieldLink "TideLoans$Tape" (15 : Nat) "TideLoans$Tape" "length" "I") ∈ tb := tbm 163 (by decide +kernel) rfl
theorem tw_164 : (Jvm.Cond.fieldLink "TideLoans" (234 : Nat) "TideLoans$Tape" "length" "I") ∈ tb := tbm 164 (by decide +kernel) rfl
theorem tw_165 : (Jvm.Cond.fieldLink "TideLoans$Tape" (32 : Nat) "TideLoans$Tape" "token" "I") ∈ tb := tbm 165 (by decide +kernel) rfl
theorem tw_166 : (Jvm.Cond.fieldLink "TideLoans" (352 : Nat) "TideLoans$Tape" "token" "I") ∈ tb := tbm 166 (by decide +kernel) rfl
theorem tw_167 : (Jvm.Cond.fieldLink "TideLoans$Tape" (25 : Nat) "TideLoans$Tape" "start" "I") ∈ tb := tbm 167 (by decide +kernel) rfl
theorem tw_168 : (Jvm.Cond.fieldLink "TideLoans" (349 : Nat) "TideLoans$Tape" "start" "I") ∈ tb := tbm 168 (by decide +kernel) rfl
theorem tw_169 : (Jvm.Cond.fieldLink "TideLoans$Tape" (19 : Nat) "TideLoans$Tape" "next" "I") ∈ tb := tbm 169 (by decide +kernel) rfl
theorem tw_170 : (Jvm.Cond.fieldLink "TideLoans$Tape" (35 : Nat) "TideLoans$Tape" "number" "I") ∈ tb := tbm 170 (by decide +kernel) rfl
theorem tw_171 : (Jvm.Cond.fieldLink "TideLoans" (382 : Nat) "TideLoans$Tape" "number" "I") ∈ tb := tbm 171 (by decide +kernel) rfl
theorem tw_172 : (Jvm.Cond.laysFinal "TideLoans$Tape" "TideLoans$Tape" "bytes" "[B") ∈ tb := tbm 172 (by decide +kernel) rfl
theorem tw_174 : (Jvm.Cond.lays "TideLoans$Tape" "TideLoans$Tape" "length" "I") ∈ tb := tbm 174 (by decide +kernel) rfl
theorem tw_176 : (Jvm.Cond.lays "TideLoans$Tape" "TideLoans$Tape" "token" "I") ∈ tb := tbm 176 (by decide +kernel) rfl
theorem tw_178 : (Jvm.Cond.lays "TideLoans$Tape" "TideLoans$Tape" "start" "I") ∈ tb := tbm 178 (by decide +kernel) rfl
theorem tw_180 : (Jvm.Cond.lays "TideLoans$Tape" "TideLoans$Tape" "next" "I") ∈ tb := tbm 180 (by decide +kernel) rfl
theorem tw_182 : (Jvm.Cond.lays "TideLoans$Tape" "TideLoans$Tape" "number" "I") ∈ tb := tbm 182 (by decide +kernel) rfl
theorem tw_185 : (Jvm.Cond.arrayClass Jvm.ClassFile.FieldType.byte) ∈ tb := tbm 185 (by decide +kernel) rfl
theorem tw_186 : (Jvm.Cond.classLink "TideLoans" (33 : Nat) "TideLoans$Sheet") ∈ tb := tbm 186 (by decide +kernel) rfl
theorem tw_187 : (Jvm.Cond.arrayOver (Jvm.ClassFile.FieldType.object "TideLoans$Sheet")) ∈ tb := tbm 187 (by decide +kernel) rfl
theorem tw_188 : (Jvm.Cond.classLink "TideLoans" (39 : Nat) "TideLoans$Way") ∈ tb := tbm 188 (by decide +kernel) rfl
theorem tw_189 : (Jvm.Cond.arrayOver (Jvm.ClassFile.FieldType.object "TideLoans$Way")) ∈ tb := tbm 189 (by decide +kernel) rfl
theorem tw_190 : (Jvm.Cond.classLink "TideLoans" (51 : Nat) "TideLoans$Thing") ∈ tb := tbm 190 (by decide +kernel) rfl
theorem tw_191 : (Jvm.Cond.methodLinkNest "TideLoans" (53 : Nat) ({ cls := "TideLoans$Thing", name := "<init>", desc := "()V" } : Jvm.MethodName) "TideLoans") ∈ nst := nsm 191 (by decide +kernel) rfl
theorem tw_192 : (Jvm.Cond.instantiable "TideLoans$Way" (5 : Nat)) ∈ tb := tbm 192 (by decide +kernel) rfl
theorem tw_193 : (Jvm.Cond.methodLinkNest "TideLoans" (58 : Nat) ({ cls := "TideLoans$Way", name := "<init>", desc := "()V" } : Jvm.MethodName) "TideLoans") ∈ nst := nsm 193 (by decide +kernel) rfl
theorem tw_194 : (Jvm.Cond.instanceMethod ({ cls := "TideLoans$Way", name := "<init>", desc := "()V" } : Jvm.MethodName)) ∈ tb := tbm 194 (by decide +kernel) rfl
theorem tw_195 : (Jvm.Cond.code ({ cls := "TideLoans$Way", name := "<init>", desc := "()V" } : Jvm.MethodName) prog_6_method_1_code (1 : Nat) (Option.none : Option Jvm.ClassFile.FieldType)) ∈ tb := tbm 195 (by decide +kernel) rfl
theorem tw_196 : (Jvm.Cond.methodLink "TideLoans$Way" (3 : Nat) ({ cls := "java/lang/Object", name := "<init>", desc := "()V" } : Jvm.MethodName)) ∈ tb := tbm 196 (by decide +kernel) rfl
theorem tw_197 : (Jvm.Cond.fieldLink "TideLoans$Way" (9 : Nat) "TideLoans$Way" "lentIn" "I") ∈ tb := tbm 197 (by decide +kernel) rfl
theorem tw_198 : (Jvm.Cond.fieldLink "TideLoans" (195 : Nat) "TideLoans$Way" "lentIn" "I") ∈ tb := tbm 198 (by decide +kernel) rfl
theorem tw_199 : (Jvm.Cond.fieldLink "TideLoans$Way" (15 : Nat) "TideLoans$Way" "homeIn" "I") ∈ tb := tbm 199 (by decide +kernel) rfl
theorem tw_200 : (Jvm.Cond.fieldLink "TideLoans" (199 : Nat) "TideLoans$Way" "homeIn" "I") ∈ tb := tbm 200 (by decide +kernel) rfl
theorem tw_201 : (Jvm.Cond.fieldLink "TideLoans$Way" (18 : Nat) "TideLoans$Way" "away" "I") ∈ tb := tbm 201 (by decide +kernel) rfl
theorem tw_202 : (Jvm.Cond.fieldLink "TideLoans$Way" (26 : Nat) "TideLoans$Way" "state" "I") ∈ tb := tbm 202 (by decide +kernel) rfl
theorem tw_203 : (Jvm.Cond.fieldLink "TideLoans" (334 : Nat) "TideLoans$Way" "state" "I") ∈ tb := tbm 203 (by decide +kernel) rfl
theorem tw_204 : (Jvm.Cond.fieldLink "TideLoans$Way" (30 : Nat) "TideLoans$Way" "since" "I") ∈ tb := tbm 204 (by decide +kernel) rfl
theorem tw_205 : (Jvm.Cond.fieldLink "TideLoans" (335 : Nat) "TideLoans$Way" "since" "I") ∈ tb := tbm 205 (by decide +kernel) rfl
theorem tw_206 : (Jvm.Cond.lays "TideLoans$Way" "TideLoans$Way" "lentIn" "I") ∈ tb := tbm 206 (by decide +kernel) rfl
theorem tw_208 : (Jvm.Cond.lays "TideLoans$Way" "TideLoans$Way" "homeIn" "I") ∈ tb := tbm 208 (by decide +kernel) rfl
theorem tw_210 : (Jvm.Cond.lays "TideLoans$Way" "TideLoans$Way" "away" "I") ∈ tb := tbm 210 (by decide +kernel) rfl
theorem tw_212 : (Jvm.Cond.lays "TideLoans$Way" "TideLoans$Way" "state" "I") ∈ tb := tbm 212 (by decide +kernel) rfl
theorem tw_214 : (Jvm.Cond.lays "TideLoans$Way" "TideLoans$Way" "since" "I") ∈ tb := tbm 214 (by decide +kernel) rfl
theorem tw_217 : (Jvm.Cond.instantiable "TideLoans$Sheet" (3 : Nat)) ∈ tb := tbm 217 (by decide +kernel) rfl
theorem tw_218 : (Jvm.Cond.methodLinkNest "TideLoans" (63 : Nat) ({ cls := "TideLoans$Sheet", name := "<init>", desc := "()V" } : Jvm.MethodName) "TideLoans") ∈ nst := nsm 218 (by decide +kernel) rfl
theorem tw_219 : (Jvm.Cond.instanceMethod ({ cls := "TideLoans$Sheet", name := "<init>", desc := "()V" } : Jvm.MethodName)) ∈ tb := tbm 219 (by decide +kernel) rfl
theorem tw_220 : (Jvm.Cond.code ({ cls := "TideLoans$Sheet", name := "<init>", desc := "()V" } : Jvm.MethodName) prog_2_method_1_code (1 : Nat) (Option.none : Option Jvm.ClassFile.FieldType)) ∈ tb := tbm 220 (by decide +kernel) rfl
theorem tw_221 : (Jvm.Cond.methodLink "TideLoans$Sheet" (3 : Nat) ({ cls := "java/lang/Object", name := "<init>", desc := "()V" } : Jvm.MethodName)) ∈ tb := tbm 221 (by decide +kernel) rfl
theorem tw_222 : (Jvm.Cond.fieldLink "TideLoans$Sheet" (9 : Nat) "TideLoans$Sheet" "numbers" "[J") ∈ tb := tbm 222 (by decide +kernel) rfl
theorem tw_223 : (Jvm.Cond.fieldLink "TideLoans" (260 : Nat) "TideLoans$Sheet" "numbers" "[J") ∈ tb := tbm 223 (by decide +kernel) rfl
theorem tw_224 : (Jvm.Cond.fieldLink "TideLoans$Sheet" (15 : Nat) "TideLoans$Sheet" "bits" "I") ∈ tb := tbm 224 (by decide +kernel) rfl
theorem tw_225 : (Jvm.Cond.fieldLink "TideLoans" (267 : Nat) "TideLoans$Sheet" "bits" "I") ∈ tb := tbm 225 (by decide +kernel) rfl
theorem tw_226 : (Jvm.Cond.fieldLink "TideLoans$Sheet" (19 : Nat) "TideLoans$Sheet" "size" "I") ∈ tb := tbm 226 (by decide +kernel) rfl
theorem tw_227 : (Jvm.Cond.fieldLink "TideLoans" (255 : Nat) "TideLoans$Sheet" "size" "I") ∈ tb := tbm 227 (by decide +kernel) rfl
theorem tw_228 : (Jvm.Cond.laysFinal "TideLoans$Sheet" "TideLoans$Sheet" "numbers" "[J") ∈ tb := tbm 228 (by decide +kernel) rfl
theorem tw_230 : (Jvm.Cond.lays "TideLoans$Sheet" "TideLoans$Sheet" "bits" "I") ∈ tb := tbm 230 (by decide +kernel) rfl
theorem tw_232 : (Jvm.Cond.lays "TideLoans$Sheet" "TideLoans$Sheet" "size" "I") ∈ tb := tbm 232 (by decide +kernel) rfl
theorem tw_235 : (Jvm.Cond.arrayClass Jvm.ClassFile.FieldType.long) ∈ tb := tbm 235 (by decide +kernel) rfl
theorem tw_236 : (Jvm.Cond.fieldLink "TideLoans" (9 : Nat) "TideLoans" "found" "[I") ∈ tb := tbm 236 (by decide +kernel) rfl
theorem tw_237 : (Jvm.Cond.fieldLink "TideLoans" (16 : Nat) "TideLoans" "live" "LTideLoans$Shore;") ∈ tb := tbm 237 (by decide +kernel) rfl
theorem tw_238 : (Jvm.Cond.fieldLink "TideLoans" (20 : Nat) "TideLoans" "kept" "LTideLoans$Shore;") ∈ tb := tbm 238 (by decide +kernel) rfl
theorem tw_239 : (Jvm.Cond.fieldLink "TideLoans" (23 : Nat) "TideLoans" "draft" "LTideLoans$Shore;") ∈ tb := tbm 239 (by decide +kernel) rfl
theorem tw_240 : (Jvm.Cond.fieldLink "TideLoans" (29 : Nat) "TideLoans" "tape" "LTideLoans$Tape;") ∈ tb := tbm 240 (by decide +kernel) rfl
theorem tw_241 : (Jvm.Cond.fieldLink "TideLoans" (35 : Nat) "TideLoans" "sheets" "[LTideLoans$Sheet;") ∈ tb := tbm 241 (by decide +kernel) rfl
theorem tw_242 : (Jvm.Cond.fieldLink "TideLoans" (41 : Nat) "TideLoans" "ways" "[LTideLoans$Way;") ∈ tb := tbm 242 (by decide +kernel) rfl
theorem tw_243 : (Jvm.Cond.fieldLink "TideLoans" (45 : Nat) "TideLoans" "shares" "[I") ∈ tb := tbm 243 (by decide +kernel) rfl
theorem tw_244 : (Jvm.Cond.fieldLink "TideLoans" (48 : Nat) "TideLoans" "course" "[I") ∈ tb := tbm 244 (by decide +kernel) rfl
theorem tw_245 : (Jvm.Cond.fieldLink "TideLoans" (54 : Nat) "TideLoans" "trial" "LTideLoans$Thing;") ∈ tb := tbm 245 (by decide +kernel) rfl
theorem tw_246 : (Jvm.Cond.fieldLink "TideLoans" (59 : Nat) "TideLoans" "trialWay" "LTideLoans$Way;") ∈ tb := tbm 246 (by decide +kernel) rfl
theorem tw_247 : (Jvm.Cond.fieldLink "TideLoans" (292 : Nat) "TideLoans" "isKept" "Z") ∈ tb := tbm 247 (by decide +kernel) rfl
theorem tw_248 : (Jvm.Cond.laysFinal "TideLoans" "TideLoans" "found" "[I") ∈ tb := tbm 248 (by decide +kernel) rfl
theorem tw_250 : (Jvm.Cond.laysFinal "TideLoans" "TideLoans" "live" "LTideLoans$Shore;") ∈ tb := tbm 250 (by decide +kernel) rfl
theorem tw_252 : (Jvm.Cond.laysFinal "TideLoans" "TideLoans" "kept" "LTideLoans$Shore;") ∈ tb := tbm 252 (by decide +kernel) rfl
theorem tw_254 : (Jvm.Cond.laysFinal "TideLoans" "TideLoans" "draft" "LTideLoans$Shore;") ∈ tb := tbm 254 (by decide +kernel) rfl
theorem tw_256 : (Jvm.Cond.laysFinal "TideLoans" "TideLoans" "tape" "LTideLoans$Tape;") ∈ tb := tbm 256 (by decide +kernel) rfl
theorem tw_258 : (Jvm.Cond.laysFinal "TideLoans" "TideLoans" "sheets" "[LTideLoans$Sheet;") ∈ tb := tbm 258 (by decide +kernel) rfl
theorem tw_260 : (Jvm.Cond.laysFinal "TideLoans" "TideLoans" "ways" "[LTideLoans$Way;") ∈ tb := tbm 260 (by decide +kernel) rfl
theorem tw_262 : (Jvm.Cond.laysFinal "TideLoans" "TideLoans" "shares" "[I") ∈ tb := tbm 262 (by decide +kernel) rfl
theorem tw_264 : (Jvm.Cond.laysFinal "TideLoans" "TideLoans" "course" "[I") ∈ tb := tbm 264 (by decide +kernel) rfl
theorem tw_266 : (Jvm.Cond.laysFinal "TideLoans" "TideLoans" "trial" "LTideLoans$Thing;") ∈ tb := tbm 266 (by decide +kernel) rfl
theorem tw_268 : (Jvm.Cond.laysFinal "TideLoans" "TideLoans" "trialWay" "LTideLoans$Way;") ∈ tb := tbm 268 (by decide +kernel) rfl
theorem tw_270 : (Jvm.Cond.lays "TideLoans" "TideLoans" "isKept" "Z") ∈ tb := tbm 270 (by decide +kernel) rfl
theorem tw_273 : (Jvm.Cond.methodLink "TideLoansLaw" (13 : Nat) ({ cls := "TideLoans", name := "height", desc := "(II)I" } : Jvm.MethodName)) ∈ tb := tbm 273 (by decide +kernel) rfl
theorem tw_274 : (Jvm.Cond.instanceMethod ({ cls := "TideLoans", name := "height", desc := "(II)I" } : Jvm.MethodName)) ∈ tb := tbm 274 (by decide +kernel) rfl
theorem tw_275 : (Jvm.Cond.selects "TideLoans" ({ cls := "TideLoans", name := "height", desc := "(II)I" } : Jvm.MethodName) ({ cls := "TideLoans", name := "height", desc := "(II)I" } : Jvm.MethodName)) ∈ tb := tbm 275 (by decide +kernel) rfl
theorem tw_276 : (Jvm.Cond.code ({ cls := "TideLoans", name := "height", desc := "(II)I" } : Jvm.MethodName) prog_1_method_2_code (4 : Nat) (Option.some Jvm.ClassFile.FieldType.int)) ∈ tb := tbm 276 (by decide +kernel) rfl
theorem tw_277 : (Jvm.Cond.methodLink "TideLoans" (64 : Nat) ({ cls := "TideLoans", name := "isBelow", desc := "(II)Z" } : Jvm.MethodName)) ∈ tb := tbm 277 (by decide +kernel) rfl
theorem tw_278 : (Jvm.Cond.static ({ cls := "TideLoans", name := "isBelow", desc := "(II)Z" } : Jvm.MethodName)) ∈ tb := tbm 278 (by decide +kernel) rfl
theorem tw_279 : (Jvm.Cond.code ({ cls := "TideLoans", name := "isBelow", desc := "(II)Z" } : Jvm.MethodName) prog_1_method_42_code (2 : Nat) (Option.some Jvm.ClassFile.FieldType.boolean)) ∈ tb := tbm 279 (by decide +kernel) rfl
theorem tw_280 : (Jvm.Cond.constant "TideLoans" (68 : Nat) (-1000000001 : Int32)) ∈ tb := tbm 280 (by decide +kernel) rfl
theorem tw_281 : (Jvm.Cond.methodLink "TideLoans" (69 : Nat) ({ cls := "TideLoans", name := "finding", desc := "(I)I" } : Jvm.MethodName)) ∈ tb := tbm 281 (by decide +kernel) rfl
theorem tw_283 : (Jvm.Cond.instanceMethod ({ cls := "TideLoans", name := "finding", desc := "(I)I" } : Jvm.MethodName)) ∈ tb := tbm 283 (by decide +kernel) rfl
theorem tw_284 : (Jvm.Cond.code ({ cls := "TideLoans", name := "finding", desc := "(I)I" } : Jvm.MethodName) prog_1_method_41_code (3 : Nat) (Option.some Jvm.ClassFile.FieldType.int)) ∈ tb := tbm 284 (by decide +kernel) rfl
theorem tw_285 : (Jvm.Cond.methodLink "TideLoansLaw" (18 : Nat) ({ cls := "TideLoans", name := "cell", desc := "(II)I" } : Jvm.MethodName)) ∈ tb := tbm 285 (by decide +kernel) rfl
theorem tw_286 : (Jvm.Cond.instanceMethod ({ cls := "TideLoans", name := "cell", desc := "(II)I" } : Jvm.MethodName)) ∈ tb := tbm 286 (by decide +kernel) rfl
theorem tw_287 : (Jvm.Cond.selects "TideLoans" ({ cls := "TideLoans", name := "cell", desc := "(II)I" } : Jvm.MethodName) ({ cls := "TideLoans", name := "cell", desc := "(II)I" } : Jvm.MethodName)) ∈ tb := tbm 287 (by decide +kernel) rfl
theorem tw_288 : (Jvm.Cond.code ({ cls := "TideLoans", name := "cell", desc := "(II)I" } : Jvm.MethodName) prog_1_method_3_code (3 : Nat) (Option.some Jvm.ClassFile.FieldType.int)) ∈ tb := tbm 288 (by decide +kernel) rfl
theorem tw_289 : (Jvm.Cond.methodLink "TideLoans" (76 : Nat) ({ cls := "TideLoans$Shore", name := "laidAt", desc := "(I)I" } : Jvm.MethodName)) ∈ tb := tbm 289 (by decide +kernel) rfl
theorem tw_290 : (Jvm.Cond.instanceMethod ({ cls := "TideLoans$Shore", name := "laidAt", desc := "(I)I" } : Jvm.MethodName)) ∈ tb := tbm 290 (by decide +kernel) rfl
theorem tw_291 : (Jvm.Cond.selects "TideLoans$Shore" ({ cls := "TideLoans$Shore", name := "laidAt", desc := "(I)I" } : Jvm.MethodName) ({ cls := "TideLoans$Shore", name := "laidAt", desc := "(I)I" } : Jvm.MethodName)) ∈ tb := tbm 291 (by decide +kernel) rfl
theorem tw_292 : (Jvm.Cond.code ({ cls := "TideLoans$Shore", name := "laidAt", desc := "(I)I" } : Jvm.MethodName) prog_3_method_6_code (4 : Nat) (Option.some Jvm.ClassFile.FieldType.int)) ∈ tb := tbm 292 (by decide +kernel) rfl
theorem tw_293 : (Jvm.Cond.methodLink "TideLoansLaw" (22 : Nat) ({ cls := "TideLoans", name := "interest", desc := "(I)I" } : Jvm.MethodName)) ∈ tb := tbm 293 (by decide +kernel) rfl
theorem tw_294 : (Jvm.Cond.instanceMethod ({ cls := "TideLoans", name := "interest", desc := "(I)I" } : Jvm.MethodName)) ∈ tb := tbm 294 (by decide +kernel) rfl
theorem tw_295 : (Jvm.Cond.selects "TideLoans" ({ cls := "TideLoans", name := "interest", desc := "(I)I" } : Jvm.MethodName) ({ cls := "TideLoans", name := "interest", desc := "(I)I" } : Jvm.MethodName)) ∈ tb := tbm 295 (by decide +kernel) rfl
theorem tw_296 : (Jvm.Cond.code ({ cls := "TideLoans", name := "interest", desc := "(I)I" } : Jvm.MethodName) prog_1_method_4_code (3 : Nat) (Option.some Jvm.ClassFile.FieldType.int)) ∈ tb := tbm 296 (by decide +kernel) rfl
theorem tw_297 : (Jvm.Cond.methodLink "TideLoans" (79 : Nat) ({ cls := "TideLoans", name := "isUpTo", desc := "(III)Z" } : Jvm.MethodName)) ∈ tb := tbm 297 (by decide +kernel) rfl
theorem tw_298 : (Jvm.Cond.static ({ cls := "TideLoans", name := "isUpTo", desc := "(III)Z" } : Jvm.MethodName)) ∈ tb := tbm 298 (by decide +kernel) rfl
theorem tw_299 : (Jvm.Cond.code ({ cls := "TideLoans", name := "isUpTo", desc := "(III)Z" } : Jvm.MethodName) prog_1_method_43_code (3 : Nat) (Option.some Jvm.ClassFile.FieldType.boolean)) ∈ tb := tbm 299 (by decide +kernel) rfl
theorem tw_300 : (Jvm.Cond.methodLink "TideLoansLaw" (27 : Nat) ({ cls := "TideLoans", name := "tide", desc := "(II)I" } : Jvm.MethodName)) ∈ tb := tbm 300 (by decide +kernel) rfl
theorem tw_301 : (Jvm.Cond.instanceMethod ({ cls := "TideLoans", name := "tide", desc := "(II)I" } : Jvm.MethodName)) ∈ tb := tbm 301 (by decide +kernel) rfl
theorem tw_302 : (Jvm.Cond.selects "TideLoans" ({ cls := "TideLoans", name := "tide", desc := "(II)I" } : Jvm.MethodName) ({ cls := "TideLoans", name := "tide", desc := "(II)I" } : Jvm.MethodName)) ∈ tb := tbm 302 (by decide +kernel) rfl
theorem tw_303 : (Jvm.Cond.code ({ cls := "TideLoans", name := "tide", desc := "(II)I" } : Jvm.MethodName) prog_1_method_5_code (3 : Nat) (Option.some Jvm.ClassFile.FieldType.int)) ∈ tb := tbm 303 (by decide +kernel) rfl
theorem tw_304 : (Jvm.Cond.constant "TideLoans" (87 : Nat) (99999 : Int32)) ∈ tb := tbm 304 (by decide +kernel) rfl
theorem tw_305 : (Jvm.Cond.methodLink "TideLoans" (88 : Nat) ({ cls := "TideLoans", name := "markOf", desc := "(I)I" } : Jvm.MethodName)) ∈ tb := tbm 305 (by decide +kernel) rfl
theorem tw_306 : (Jvm.Cond.static ({ cls := "TideLoans", name := "markOf", desc := "(I)I" } : Jvm.MethodName)) ∈ tb := tbm 306 (by decide +kernel) rfl
theorem tw_307 : (Jvm.Cond.code ({ cls := "TideLoans", name := "markOf", desc := "(I)I" } : Jvm.MethodName) prog_1_method_47_code (3 : Nat) (Option.some Jvm.ClassFile.FieldType.int)) ∈ tb := tbm 307 (by decide +kernel) rfl
theorem tw_308 : (Jvm.Cond.methodLink "TideLoans" (91 : Nat) ({ cls := "TideLoans", name := "moonOf", desc := "(I)I" } : Jvm.MethodName)) ∈ tb := tbm 308 (by decide +kernel) rfl
theorem tw_309 : (Jvm.Cond.static ({ cls := "TideLoans", name := "moonOf", desc := "(I)I" } : Jvm.MethodName)) ∈ tb := tbm 309 (by decide +kernel) rfl
theorem tw_310 : (Jvm.Cond.code ({ cls := "TideLoans", name := "moonOf", desc := "(I)I" } : Jvm.MethodName) prog_1_method_45_code (1 : Nat) (Option.some Jvm.ClassFile.FieldType.int)) ∈ tb := tbm 310 (by decide +kernel) rfl
theorem tw_311 : (Jvm.Cond.methodLink "TideLoans" (94 : Nat) ({ cls := "TideLoans", name := "isSpring", desc := "(I)Z" } : Jvm.MethodName)) ∈ tb := tbm 311 (by decide +kernel) rfl
theorem tw_312 : (Jvm.Cond.static ({ cls := "TideLoans", name := "isSpring", desc := "(I)Z" } : Jvm.MethodName)) ∈ tb := tbm 312 (by decide +kernel) rfl
theorem tw_313 : (Jvm.Cond.code ({ cls := "TideLoans", name := "isSpring", desc := "(I)Z" } : Jvm.MethodName) prog_1_method_46_code (1 : Nat) (Option.some Jvm.ClassFile.FieldType.boolean)) ∈ tb := tbm 313 (by decide +kernel) rfl
theorem tw_314 : (Jvm.Cond.methodLink "TideLoans" (98 : Nat) ({ cls := "TideLoans$Shore", name := "cellsBelow", desc := "(I)I" } : Jvm.MethodName)) ∈ tb := tbm 314 (by decide +kernel) rfl
theorem tw_315 : (Jvm.Cond.instanceMethod ({ cls := "TideLoans$Shore", name := "cellsBelow", desc := "(I)I" } : Jvm.MethodName)) ∈ tb := tbm 315 (by decide +kernel) rfl
theorem tw_316 : (Jvm.Cond.selects "TideLoans$Shore" ({ cls := "TideLoans$Shore", name := "cellsBelow", desc := "(I)I" } : Jvm.MethodName) ({ cls := "TideLoans$Shore", name := "cellsBelow", desc := "(I)I" } : Jvm.MethodName)) ∈ tb := tbm 316 (by decide +kernel) rfl
theorem tw_317 : (Jvm.Cond.code ({ cls := "TideLoans$Shore", name := "cellsBelow", desc := "(I)I" } : Jvm.MethodName) prog_3_method_10_code (4 : Nat) (Option.some Jvm.ClassFile.FieldType.int)) ∈ tb := tbm 317 (by decide +kernel) rfl
theorem tw_318 : (Jvm.Cond.methodLink "TideLoansLaw" (31 : Nat) ({ cls := "TideLoans", name := "purse", desc := "(II)I" } : Jvm.MethodName)) ∈ tb := tbm 318 (by decide +kernel) rfl
theorem tw_319 : (Jvm.Cond.instanceMethod ({ cls := "TideLoans", name := "purse", desc := "(II)I" } : Jvm.MethodName)) ∈ tb := tbm 319 (by decide +kernel) rfl
theorem tw_320 : (Jvm.Cond.selects "TideLoans" ({ cls := "TideLoans", name := "purse", desc := "(II)I" } : Jvm.MethodName) ({ cls := "TideLoans", name := "purse", desc := "(II)I" } : Jvm.MethodName)) ∈ tb := tbm 320 (by decide +kernel) rfl
theorem tw_321 : (Jvm.Cond.code ({ cls := "TideLoans", name := "purse", desc := "(II)I" } : Jvm.MethodName) prog_1_method_6_code (4 : Nat) (Option.some Jvm.ClassFile.FieldType.int)) ∈ tb := tbm 321 (by decide +kernel) rfl
theorem tw_322 : (Jvm.Cond.constant "TideLoans" (101 : Nat) (999999999 : Int32)) ∈ tb := tbm 322 (by decide +kernel) rfl
theorem tw_323 : (Jvm.Cond.methodLink "TideLoansLaw" (35 : Nat) ({ cls := "TideLoans", name := "thing", desc := "(II)I" } : Jvm.MethodName)) ∈ tb := tbm 323 (by decide +kernel) rfl
theorem tw_324 : (Jvm.Cond.instanceMethod ({ cls := "TideLoans", name := "thing", desc := "(II)I" } : Jvm.MethodName)) ∈ tb := tbm 324 (by decide +kernel) rfl
theorem tw_325 : (Jvm.Cond.selects "TideLoans" ({ cls := "TideLoans", name := "thing", desc := "(II)I" } : Jvm.MethodName) ({ cls := "TideLoans", name := "thing", desc := "(II)I" } : Jvm.MethodName)) ∈ tb := tbm 325 (by decide +kernel) rfl
theorem tw_326 : (Jvm.Cond.code ({ cls := "TideLoans", name := "thing", desc := "(II)I" } : Jvm.MethodName) prog_1_method_7_code (3 : Nat) (Option.some Jvm.ClassFile.FieldType.int)) ∈ tb := tbm 326 (by decide +kernel) rfl
theorem tw_327 : (Jvm.Cond.methodLink "TideLoans" (105 : Nat) ({ cls := "TideLoans$Shore", name := "isFull", desc := "()Z" } : Jvm.MethodName)) ∈ tb := tbm 327 (by decide +kernel) rfl
theorem tw_328 : (Jvm.Cond.instanceMethod ({ cls := "TideLoans$Shore", name := "isFull", desc := "()Z" } : Jvm.MethodName)) ∈ tb := tbm 328 (by decide +kernel) rfl
theorem tw_329 : (Jvm.Cond.selects "TideLoans$Shore" ({ cls := "TideLoans$Shore", name := "isFull", desc := "()Z" } : Jvm.MethodName) ({ cls := "TideLoans$Shore", name := "isFull", desc := "()Z" } : Jvm.MethodName)) ∈ tb := tbm 329 (by decide +kernel) rfl
theorem tw_330 : (Jvm.Cond.code ({ cls := "TideLoans$Shore", name := "isFull", desc := "()Z" } : Jvm.MethodName) prog_3_method_4_code (1 : Nat) (Option.some Jvm.ClassFile.FieldType.boolean)) ∈ tb := tbm 330 (by decide +kernel) rfl
theorem tw_331 : (Jvm.Cond.constant "TideLoans" (109 : Nat) (-1000000002 : Int32)) ∈ tb := tbm 331 (by decide +kernel) rfl
theorem tw_332 : (Jvm.Cond.methodLink "TideLoans" (110 : Nat) ({ cls := "TideLoans$Shore", name := "add", desc := "(II)I" } : Jvm.MethodName)) ∈ tb := tbm 332 (by decide +kernel) rfl
theorem tw_333 : (Jvm.Cond.instanceMethod ({ cls := "TideLoans$Shore", name := "add", desc := "(II)I" } : Jvm.MethodName)) ∈ tb := tbm 333 (by decide +kernel) rfl
theorem tw_334 : (Jvm.Cond.selects "TideLoans$Shore" ({ cls := "TideLoans$Shore", name := "add", desc := "(II)I" } : Jvm.MethodName) ({ cls := "TideLoans$Shore", name := "add", desc := "(II)I" } : Jvm.MethodName)) ∈ tb := tbm 334 (by decide +kernel) rfl
theorem tw_335 : (Jvm.Cond.code ({ cls := "TideLoans$Shore", name := "add", desc := "(II)I" } : Jvm.MethodName) prog_3_method_5_code (3 : Nat) (Option.some Jvm.ClassFile.FieldType.int)) ∈ tb := tbm 335 (by decide +kernel) rfl
theorem tw_336 : (Jvm.Cond.methodLink "TideLoans$Shore" (49 : Nat) ({ cls := "TideLoans$Shore", name := "isFull", desc := "()Z" } : Jvm.MethodName)) ∈ tb := tbm 336 (by decide +kernel) rfl
theorem tw_337 : (Jvm.Cond.methodLink "TideLoans$Shore" (53 : Nat) ({ cls := "TideLoans$Thing", name := "begin", desc := "(II)V" } : Jvm.MethodName)) ∈ tb := tbm 337 (by decide +kernel) rfl
theorem tw_338 : (Jvm.Cond.instanceMethod ({ cls := "TideLoans$Thing", name := "begin", desc := "(II)V" } : Jvm.MethodName)) ∈ tb := tbm 338 (by decide +kernel) rfl
theorem tw_339 : (Jvm.Cond.selects "TideLoans$Thing" ({ cls := "TideLoans$Thing", name := "begin", desc := "(II)V" } : Jvm.MethodName) ({ cls := "TideLoans$Thing", name := "begin", desc := "(II)V" } : Jvm.MethodName)) ∈ tb := tbm 339 (by decide +kernel) rfl
theorem tw_340 : (Jvm.Cond.code ({ cls := "TideLoans$Thing", name := "begin", desc := "(II)V" } : Jvm.MethodName) prog_5_method_2_code (3 : Nat) (Option.none : Option Jvm.ClassFile.FieldType)) ∈ tb := tbm 340 (by decide +kernel) rfl
theorem tw_341 : (Jvm.Cond.methodLink "TideLoansLaw" (39 : Nat) ({ cls := "TideLoans", name := "of", desc := "(II)I" } : Jvm.MethodName)) ∈ tb := tbm 341 (by decide +kernel) rfl
theorem tw_342 : (Jvm.Cond.instanceMethod ({ cls := "TideLoans", name := "of", desc := "(II)I" } : Jvm.MethodName)) ∈ tb := tbm 342 (by decide +kernel) rfl
theorem tw_343 : (Jvm.Cond.selects "TideLoans" ({ cls := "TideLoans", name := "of", desc := "(II)I" } : Jvm.MethodName) ({ cls := "TideLoans", name := "of", desc := "(II)I" } : Jvm.MethodName)) ∈ tb := tbm 343 (by decide +kernel) rfl
theorem tw_344 : (Jvm.Cond.code ({ cls := "TideLoans", name := "of", desc := "(II)I" } : Jvm.MethodName) prog_1_method_8_code (4 : Nat) (Option.some Jvm.ClassFile.FieldType.int)) ∈ tb := tbm 344 (by decide +kernel) rfl
theorem tw_345 : (Jvm.Cond.methodLink "TideLoans" (114 : Nat) ({ cls := "TideLoans$Shore", name := "has", desc := "(I)Z" } : Jvm.MethodName)) ∈ tb := tbm 345 (by decide +kernel) rfl
theorem tw_346 : (Jvm.Cond.instanceMethod ({ cls := "TideLoans$Shore", name := "has", desc := "(I)Z" } : Jvm.MethodName)) ∈ tb := tbm 346 (by decide +kernel) rfl
theorem tw_347 : (Jvm.Cond.selects "TideLoans$Shore" ({ cls := "TideLoans$Shore", name := "has", desc := "(I)Z" } : Jvm.MethodName) ({ cls := "TideLoans$Shore", name := "has", desc := "(I)Z" } : Jvm.MethodName)) ∈ tb := tbm 347 (by decide +kernel) rfl
theorem tw_348 : (Jvm.Cond.code ({ cls := "TideLoans$Shore", name := "has", desc := "(I)Z" } : Jvm.MethodName) prog_3_method_3_code (2 : Nat) (Option.some Jvm.ClassFile.FieldType.boolean)) ∈ tb := tbm 348 (by decide +kernel) rfl
theorem tw_349 : (Jvm.Cond.methodLinkNest "TideLoans$Shore" (45 : Nat) ({ cls := "TideLoans", name := "isBelow", desc := "(II)Z" } : Jvm.MethodName) "TideLoans") ∈ nst := nsm 349 (by decide +kernel) rfl
theorem tw_350 : (Jvm.Cond.methodLink "TideLoans" (139 : Nat) ({ cls := "TideLoans", name := "termOf", desc := "(I)I" } : Jvm.MethodName)) ∈ tb := tbm 350 (by decide +kernel) rfl
theorem tw_351 : (Jvm.Cond.static ({ cls := "TideLoans", name := "termOf", desc := "(I)I" } : Jvm.MethodName)) ∈ tb := tbm 351 (by decide +kernel) rfl
theorem tw_352 : (Jvm.Cond.code ({ cls := "TideLoans", name := "termOf", desc := "(I)I" } : Jvm.MethodName) prog_1_method_52_code (1 : Nat) (Option.some Jvm.ClassFile.FieldType.int)) ∈ tb := tbm 352 (by decide +kernel) rfl
theorem tw_353 : (Jvm.Cond.methodLink "TideLoans" (142 : Nat) ({ cls := "TideLoans", name := "owedNow", desc := "(LTideLoans$Thing;)I" } : Jvm.MethodName)) ∈ tb := tbm 353 (by decide +kernel) rfl
theorem tw_355 : (Jvm.Cond.instanceMethod ({ cls := "TideLoans", name := "owedNow", desc := "(LTideLoans$Thing;)I" } : Jvm.MethodName)) ∈ tb := tbm 355 (by decide +kernel) rfl
theorem tw_356 : (Jvm.Cond.code ({ cls := "TideLoans", name := "owedNow", desc := "(LTideLoans$Thing;)I" } : Jvm.MethodName) prog_1_method_55_code (2 : Nat) (Option.some Jvm.ClassFile.FieldType.int)) ∈ tb := tbm 356 (by decide +kernel) rfl
theorem tw_357 : (Jvm.Cond.methodLink "TideLoans" (325 : Nat) ({ cls := "TideLoans", name := "repaid", desc := "(LTideLoans$Thing;III)I" } : Jvm.MethodName)) ∈ tb := tbm 357 (by decide +kernel) rfl
theorem tw_358 : (Jvm.Cond.static ({ cls := "TideLoans", name := "repaid", desc := "(LTideLoans$Thing;III)I" } : Jvm.MethodName)) ∈ tb := tbm 358 (by decide +kernel) rfl
theorem tw_359 : (Jvm.Cond.code ({ cls := "TideLoans", name := "repaid", desc := "(LTideLoans$Thing;III)I" } : Jvm.MethodName) prog_1_method_54_code (6 : Nat) (Option.some Jvm.ClassFile.FieldType.int)) ∈ tb := tbm 359 (by decide +kernel) rfl
theorem tw_360 : (Jvm.Cond.constantLong "TideLoans" (315 : Nat) (100 : Int64)) ∈ tb := tbm 360 (by decide +kernel) rfl
theorem tw_361 : (Jvm.Cond.constantLong "TideLoans" (317 : Nat) (99999999 : Int64)) ∈ tb := tbm 361 (by decide +kernel) rfl
theorem tw_362 : (Jvm.Cond.methodLink "TideLoans" (305 : Nat) ({ cls := "TideLoans", name := "broughtAs", desc := "(IJI)J" } : Jvm.MethodName)) ∈ tb := tbm 362 (by decide +kernel) rfl
theorem tw_363 : (Jvm.Cond.static ({ cls := "TideLoans", name := "broughtAs", desc := "(IJI)J" } : Jvm.MethodName)) ∈ tb := tbm 363 (by decide +kernel) rfl
theorem tw_364 : (Jvm.Cond.code ({ cls := "TideLoans", name := "broughtAs", desc := "(IJI)J" } : Jvm.MethodName) prog_1_method_53_code (4 : Nat) (Option.some Jvm.ClassFile.FieldType.long)) ∈ tb := tbm 364 (by decide +kernel) rfl
theorem tw_365 : (Jvm.Cond.constantLong "TideLoans" (309 : Nat) (5 : Int64)) ∈ tb := tbm 365 (by decide +kernel) rfl
theorem tw_366 : (Jvm.Cond.constantLong "TideLoans" (311 : Nat) (2 : Int64)) ∈ tb := tbm 366 (by decide +kernel) rfl
theorem tw_367 : (Jvm.Cond.constantLong "TideLoans" (313 : Nat) (3 : Int64)) ∈ tb := tbm 367 (by decide +kernel) rfl
theorem tw_368 : (Jvm.Cond.methodLink "TideLoans" (319 : Nat) ({ cls := "java/lang/Math", name := "min", desc := "(JJ)J" } : Jvm.MethodName)) ∈ tb := tbm 368 (by decide +kernel) rfl
theorem tw_369 : (Jvm.Cond.static ({ cls := "java/lang/Math", name := "min", desc := "(JJ)J" } : Jvm.MethodName)) ∈ tb := tbm 369 (by decide +kernel) rfl
theorem tw_370 : (Jvm.Cond.code ({ cls := "java/lang/Math", name := "min", desc := "(JJ)J" } : Jvm.MethodName) prog_10_method_70_code (4 : Nat) (Option.some Jvm.ClassFile.FieldType.long)) ∈ tb := tbm 370 (by decide +kernel) rfl
theorem tw_371 : (Jvm.Cond.methodLink "TideLoansLaw" (43 : Nat) ({ cls := "TideLoans", name := "set", desc := "(III)I" } : Jvm.MethodName)) ∈ tb := tbm 371 (by decide +kernel) rfl
theorem tw_372 : (Jvm.Cond.instanceMethod ({ cls := "TideLoans", name := "set", desc := "(III)I" } : Jvm.MethodName)) ∈ tb := tbm 372 (by decide +kernel) rfl
theorem tw_373 : (Jvm.Cond.selects "TideLoans" ({ cls := "TideLoans", name := "set", desc := "(III)I" } : Jvm.MethodName) ({ cls := "TideLoans", name := "set", desc := "(III)I" } : Jvm.MethodName)) ∈ tb := tbm 373 (by decide +kernel) rfl
theorem tw_374 : (Jvm.Cond.code ({ cls := "TideLoans", name := "set", desc := "(III)I" } : Jvm.MethodName) prog_1_method_9_code (6 : Nat) (Option.some Jvm.ClassFile.FieldType.int)) ∈ tb := tbm 374 (by decide +kernel) rfl
theorem tw_375 : (Jvm.Cond.methodLink "TideLoansLaw" (48 : Nat) ({ cls := "TideLoans", name := "turn", desc := "(II)I" } : Jvm.MethodName)) ∈ tb := tbm 375 (by decide +kernel) rfl
theorem tw_376 : (Jvm.Cond.instanceMethod ({ cls := "TideLoans", name := "turn", desc := "(II)I" } : Jvm.MethodName)) ∈ tb := tbm 376 (by decide +kernel) rfl
theorem tw_377 : (Jvm.Cond.selects "TideLoans" ({ cls := "TideLoans", name := "turn", desc := "(II)I" } : Jvm.MethodName) ({ cls := "TideLoans", name := "turn", desc := "(II)I" } : Jvm.MethodName)) ∈ tb := tbm 377 (by decide +kernel) rfl
theorem tw_378 : (Jvm.Cond.code ({ cls := "TideLoans", name := "turn", desc := "(II)I" } : Jvm.MethodName) prog_1_method_10_code (5 : Nat) (Option.some Jvm.ClassFile.FieldType.int)) ∈ tb := tbm 378 (by decide +kernel) rfl
theorem tw_379 : (Jvm.Cond.methodLink "TideLoansLaw" (52 : Nat) ({ cls := "TideLoans", name := "as", desc := "(II)I" } : Jvm.MethodName)) ∈ tb := tbm 379 (by decide +kernel) rfl
theorem tw_380 : (Jvm.Cond.instanceMethod ({ cls := "TideLoans", name := "as", desc := "(II)I" } : Jvm.MethodName)) ∈ tb := tbm 380 (by decide +kernel) rfl
theorem tw_381 : (Jvm.Cond.selects "TideLoans" ({ cls := "TideLoans", name := "as", desc := "(II)I" } : Jvm.MethodName) ({ cls := "TideLoans", name := "as", desc := "(II)I" } : Jvm.MethodName)) ∈ tb := tbm 381 (by decide +kernel) rfl
theorem tw_382 : (Jvm.Cond.code ({ cls := "TideLoans", name := "as", desc := "(II)I" } : Jvm.MethodName) prog_1_method_11_code (4 : Nat) (Option.some Jvm.ClassFile.FieldType.int)) ∈ tb := tbm 382 (by decide +kernel) rfl
theorem tw_383 : (Jvm.Cond.methodLink "TideLoans" (146 : Nat) ({ cls := "TideLoans", name := "isUnder", desc := "(II)Z" } : Jvm.MethodName)) ∈ tb := tbm 383 (by decide +kernel) rfl
theorem tw_384 : (Jvm.Cond.static ({ cls := "TideLoans", name := "isUnder", desc := "(II)Z" } : Jvm.MethodName)) ∈ tb := tbm 384 (by decide +kernel) rfl
theorem tw_385 : (Jvm.Cond.code ({ cls := "TideLoans", name := "isUnder", desc := "(II)Z" } : Jvm.MethodName) prog_1_method_50_code (4 : Nat) (Option.some Jvm.ClassFile.FieldType.boolean)) ∈ tb := tbm 385 (by decide +kernel) rfl
theorem tw_386 : (Jvm.Cond.methodLink "TideLoans" (299 : Nat) ({ cls := "TideLoans", name := "kindAbove", desc := "(I)I" } : Jvm.MethodName)) ∈ tb := tbm 386 (by decide +kernel) rfl
theorem tw_387 : (Jvm.Cond.static ({ cls := "TideLoans", name := "kindAbove", desc := "(I)I" } : Jvm.MethodName)) ∈ tb := tbm 387 (by decide +kernel) rfl
theorem tw_388 : (Jvm.Cond.code ({ cls := "TideLoans", name := "kindAbove", desc := "(I)I" } : Jvm.MethodName) prog_1_method_49_code (1 : Nat) (Option.some Jvm.ClassFile.FieldType.int)) ∈ tb := tbm 388 (by decide +kernel) rfl
theorem tw_389 : (Jvm.Cond.constant "TideLoans" (149 : Nat) (-1000000003 : Int32)) ∈ tb := tbm 389 (by decide +kernel) rfl
theorem tw_390 : (Jvm.Cond.methodLink "TideLoansLaw" (56 : Nat) ({ cls := "TideLoans", name := "lay", desc := "(II)I" } : Jvm.MethodName)) ∈ tb := tbm 390 (by decide +kernel) rfl
theorem tw_391 : (Jvm.Cond.instanceMethod ({ cls := "TideLoans", name := "lay", desc := "(II)I" } : Jvm.MethodName)) ∈ tb := tbm 391 (by decide +kernel) rfl
theorem tw_392 : (Jvm.Cond.selects "TideLoans" ({ cls := "TideLoans", name := "lay", desc := "(II)I" } : Jvm.MethodName) ({ cls := "TideLoans", name := "lay", desc := "(II)I" } : Jvm.MethodName)) ∈ tb := tbm 392 (by decide +kernel) rfl
theorem tw_393 : (Jvm.Cond.code ({ cls := "TideLoans", name := "lay", desc := "(II)I" } : Jvm.MethodName) prog_1_method_12_code (4 : Nat) (Option.some Jvm.ClassFile.FieldType.int)) ∈ tb := tbm 393 (by decide +kernel) rfl
theorem tw_394 : (Jvm.Cond.constant "TideLoans" (150 : Nat) (-1000000005 : Int32)) ∈ tb := tbm 394 (by decide +kernel) rfl
theorem tw_395 : (Jvm.Cond.methodLink "TideLoans" (151 : Nat) ({ cls := "TideLoans$Thing", name := "layAt", desc := "(I)V" } : Jvm.MethodName)) ∈ tb := tbm 395 (by decide +kernel) rfl
theorem tw_396 : (Jvm.Cond.instanceMethod ({ cls := "TideLoans$Thing", name := "layAt", desc := "(I)V" } : Jvm.MethodName)) ∈ tb := tbm 396 (by decide +kernel) rfl
theorem tw_397 : (Jvm.Cond.selects "TideLoans$Thing" ({ cls := "TideLoans$Thing", name := "layAt", desc := "(I)V" } : Jvm.MethodName) ({ cls := "TideLoans$Thing", name := "layAt", desc := "(I)V" } : Jvm.MethodName)) ∈ tb := tbm 397 (by decide +kernel) rfl
theorem tw_398 : (Jvm.Cond.code ({ cls := "TideLoans$Thing", name := "layAt", desc := "(I)V" } : Jvm.MethodName) prog_5_method_3_code (2 : Nat) (Option.none : Option Jvm.ClassFile.FieldType)) ∈ tb := tbm 398 (by decide +kernel) rfl
theorem tw_399 : (Jvm.Cond.methodLink "TideLoans" (155 : Nat) ({ cls := "java/lang/Integer", name := "bitCount", desc := "(I)I" } : Jvm.MethodName)) ∈ tb := tbm 399 (by decide +kernel) rfl
theorem tw_400 : (Jvm.Cond.static ({ cls := "java/lang/Integer", name := "bitCount", desc := "(I)I" } : Jvm.MethodName)) ∈ tb := tbm 400 (by decide +kernel) rfl
theorem tw_401 : (Jvm.Cond.code ({ cls := "java/lang/Integer", name := "bitCount", desc := "(I)I" } : Jvm.MethodName) prog_9_method_49_code (1 : Nat) (Option.some Jvm.ClassFile.FieldType.int)) ∈ tb := tbm 401 (by decide +kernel) rfl
theorem tw_402 : (Jvm.Cond.constant "java/lang/Integer" (265 : Nat) (1431655765 : Int32)) ∈ tb := tbm 402 (by decide +kernel) rfl
theorem tw_403 : (Jvm.Cond.constant "java/lang/Integer" (266 : Nat) (858993459 : Int32)) ∈ tb := tbm 403 (by decide +kernel) rfl
theorem tw_404 : (Jvm.Cond.constant "java/lang/Integer" (267 : Nat) (252645135 : Int32)) ∈ tb := tbm 404 (by decide +kernel) rfl
theorem tw_405 : (Jvm.Cond.methodLink "TideLoansLaw" (60 : Nat) ({ cls := "TideLoans", name := "fetch", desc := "(I)I" } : Jvm.MethodName)) ∈ tb := tbm 405 (by decide +kernel) rfl
theorem tw_406 : (Jvm.Cond.instanceMethod ({ cls := "TideLoans", name := "fetch", desc := "(I)I" } : Jvm.MethodName)) ∈ tb := tbm 406 (by decide +kernel) rfl
theorem tw_407 : (Jvm.Cond.selects "TideLoans" ({ cls := "TideLoans", name := "fetch", desc := "(I)I" } : Jvm.MethodName) ({ cls := "TideLoans", name := "fetch", desc := "(I)I" } : Jvm.MethodName)) ∈ tb := tbm 407 (by decide +kernel) rfl
theorem tw_408 : (Jvm.Cond.code ({ cls := "TideLoans", name := "fetch", desc := "(I)I" } : Jvm.MethodName) prog_1_method_13_code (3 : Nat) (Option.some Jvm.ClassFile.FieldType.int)) ∈ tb := tbm 408 (by decide +kernel) rfl
theorem tw_409 : (Jvm.Cond.methodLink "TideLoansLaw" (64 : Nat) ({ cls := "TideLoans", name := "days", desc := "(I)J" } : Jvm.MethodName)) ∈ tb := tbm 409 (by decide +kernel) rfl
theorem tw_410 : (Jvm.Cond.instanceMethod ({ cls := "TideLoans", name := "days", desc := "(I)J" } : Jvm.MethodName)) ∈ tb := tbm 410 (by decide +kernel) rfl
theorem tw_411 : (Jvm.Cond.selects "TideLoans" ({ cls := "TideLoans", name := "days", desc := "(I)J" } : Jvm.MethodName) ({ cls := "TideLoans", name := "days", desc := "(I)J" } : Jvm.MethodName)) ∈ tb := tbm 411 (by decide +kernel) rfl
theorem tw_412 : (Jvm.Cond.code ({ cls := "TideLoans", name := "days", desc := "(I)J" } : Jvm.MethodName) prog_1_method_14_code (3 : Nat) (Option.some Jvm.ClassFile.FieldType.long)) ∈ tb := tbm 412 (by decide +kernel) rfl
theorem tw_413 : (Jvm.Cond.methodLink "TideLoans" (163 : Nat) ({ cls := "TideLoans", name := "followAll", desc := "(I)V" } : Jvm.MethodName)) ∈ tb := tbm 413 (by decide +kernel) rfl
theorem tw_415 : (Jvm.Cond.instanceMethod ({ cls := "TideLoans", name := "followAll", desc := "(I)V" } : Jvm.MethodName)) ∈ tb := tbm 415 (by decide +kernel) rfl
theorem tw_416 : (Jvm.Cond.code ({ cls := "TideLoans", name := "followAll", desc := "(I)V" } : Jvm.MethodName) prog_1_method_59_code (3 : Nat) (Option.none : Option Jvm.ClassFile.FieldType)) ∈ tb := tbm 416 (by decide +kernel) rfl
theorem tw_417 : (Jvm.Cond.methodLink "TideLoans" (191 : Nat) ({ cls := "TideLoans", name := "follow", desc := "(II)V" } : Jvm.MethodName)) ∈ tb := tbm 417 (by decide +kernel) rfl
theorem tw_419 : (Jvm.Cond.instanceMethod ({ cls := "TideLoans", name := "follow", desc := "(II)V" } : Jvm.MethodName)) ∈ tb := tbm 419 (by decide +kernel) rfl
theorem tw_420 : (Jvm.Cond.code ({ cls := "TideLoans", name := "follow", desc := "(II)V" } : Jvm.MethodName) prog_1_method_58_code (4 : Nat) (Option.none : Option Jvm.ClassFile.FieldType)) ∈ tb := tbm 420 (by decide +kernel) rfl
theorem tw_421 : (Jvm.Cond.methodLink "TideLoans" (331 : Nat) ({ cls := "TideLoans$Way", name := "follow", desc := "(LTideLoans$Thing;III)V" } : Jvm.MethodName)) ∈ tb := tbm 421 (by decide +kernel) rfl
theorem tw_422 : (Jvm.Cond.instanceMethod ({ cls := "TideLoans$Way", name := "follow", desc := "(LTideLoans$Thing;III)V" } : Jvm.MethodName)) ∈ tb := tbm 422 (by decide +kernel) rfl
theorem tw_423 : (Jvm.Cond.selects "TideLoans$Way" ({ cls := "TideLoans$Way", name := "follow", desc := "(LTideLoans$Thing;III)V" } : Jvm.MethodName) ({ cls := "TideLoans$Way", name := "follow", desc := "(LTideLoans$Thing;III)V" } : Jvm.MethodName)) ∈ tb := tbm 423 (by decide +kernel) rfl
theorem tw_424 : (Jvm.Cond.code ({ cls := "TideLoans$Way", name := "follow", desc := "(LTideLoans$Thing;III)V" } : Jvm.MethodName) prog_6_method_2_code (5 : Nat) (Option.none : Option Jvm.ClassFile.FieldType)) ∈ tb := tbm 424 (by decide +kernel) rfl
theorem tw_425 : (Jvm.Cond.methodLink "TideLoans$Way" (34 : Nat) ({ cls := "TideLoans$Way", name := "waitForTide", desc := "(IIII)V" } : Jvm.MethodName)) ∈ tb := tbm 425 (by decide +kernel) rfl
theorem tw_427 : (Jvm.Cond.instanceMethod ({ cls := "TideLoans$Way", name := "waitForTide", desc := "(IIII)V" } : Jvm.MethodName)) ∈ tb := tbm 427 (by decide +kernel) rfl
theorem tw_428 : (Jvm.Cond.code ({ cls := "TideLoans$Way", name := "waitForTide", desc := "(IIII)V" } : Jvm.MethodName) prog_6_method_3_code (6 : Nat) (Option.none : Option Jvm.ClassFile.FieldType)) ∈ tb := tbm 428 (by decide +kernel) rfl
theorem tw_429 : (Jvm.Cond.methodLinkNest "TideLoans$Way" (42 : Nat) ({ cls := "TideLoans", name := "isTaken", desc := "(III)Z" } : Jvm.MethodName) "TideLoans") ∈ nst := nsm 429 (by decide +kernel) rfl
theorem tw_430 : (Jvm.Cond.static ({ cls := "TideLoans", name := "isTaken", desc := "(III)Z" } : Jvm.MethodName)) ∈ tb := tbm 430 (by decide +kernel) rfl
theorem tw_431 : (Jvm.Cond.code ({ cls := "TideLoans", name := "isTaken", desc := "(III)Z" } : Jvm.MethodName) prog_1_method_51_code (3 : Nat) (Option.some Jvm.ClassFile.FieldType.boolean)) ∈ tb := tbm 431 (by decide +kernel) rfl
theorem tw_432 : (Jvm.Cond.methodLink "TideLoans" (302 : Nat) ({ cls := "TideLoans", name := "isTaken", desc := "(III)Z" } : Jvm.MethodName)) ∈ tb := tbm 432 (by decide +kernel) rfl
theorem tw_433 : (Jvm.Cond.methodLink "TideLoans$Way" (38 : Nat) ({ cls := "TideLoans$Way", name := "waitForSpring", desc := "(III)V" } : Jvm.MethodName)) ∈ tb := tbm 433 (by decide +kernel) rfl
theorem tw_435 : (Jvm.Cond.instanceMethod ({ cls := "TideLoans$Way", name := "waitForSpring", desc := "(III)V" } : Jvm.MethodName)) ∈ tb := tbm 435 (by decide +kernel) rfl
theorem tw_436 : (Jvm.Cond.code ({ cls := "TideLoans$Way", name := "waitForSpring", desc := "(III)V" } : Jvm.MethodName) prog_6_method_4_code (5 : Nat) (Option.none : Option Jvm.ClassFile.FieldType)) ∈ tb := tbm 436 (by decide +kernel) rfl
theorem tw_437 : (Jvm.Cond.methodLinkNest "TideLoans$Way" (46 : Nat) ({ cls := "TideLoans", name := "termOf", desc := "(I)I" } : Jvm.MethodName) "TideLoans") ∈ nst := nsm 437 (by decide +kernel) rfl
theorem tw_438 : (Jvm.Cond.methodLink "TideLoans$Way" (50 : Nat) ({ cls := "java/lang/Math", name := "max", desc := "(II)I" } : Jvm.MethodName)) ∈ tb := tbm 438 (by decide +kernel) rfl
theorem tw_439 : (Jvm.Cond.static ({ cls := "java/lang/Math", name := "max", desc := "(II)I" } : Jvm.MethodName)) ∈ tb := tbm 439 (by decide +kernel) rfl
theorem tw_440 : (Jvm.Cond.code ({ cls := "java/lang/Math", name := "max", desc := "(II)I" } : Jvm.MethodName) prog_10_method_65_code (2 : Nat) (Option.some Jvm.ClassFile.FieldType.int)) ∈ tb := tbm 440 (by decide +kernel) rfl
theorem tw_441 : (Jvm.Cond.methodLinkNest "TideLoans$Way" (56 : Nat) ({ cls := "TideLoans", name := "springFrom", desc := "(I)I" } : Jvm.MethodName) "TideLoans") ∈ nst := nsm 441 (by decide +kernel) rfl
theorem tw_442 : (Jvm.Cond.static ({ cls := "TideLoans", name := "springFrom", desc := "(I)I" } : Jvm.MethodName)) ∈ tb := tbm 442 (by decide +kernel) rfl
theorem tw_443 : (Jvm.Cond.code ({ cls := "TideLoans", name := "springFrom", desc := "(I)I" } : Jvm.MethodName) prog_1_method_48_code (1 : Nat) (Option.some Jvm.ClassFile.FieldType.int)) ∈ tb := tbm 443 (by decide +kernel) rfl
theorem tw_444 : (Jvm.Cond.methodLink "TideLoans" (169 : Nat) ({ cls := "TideLoans", name := "bring", desc := "(LTideLoans$Thing;LTideLoans$Way;)V" } : Jvm.MethodName)) ∈ tb := tbm 444 (by decide +kernel) rfl
theorem tw_446 : (Jvm.Cond.instanceMethod ({ cls := "TideLoans", name := "bring", desc := "(LTideLoans$Thing;LTideLoans$Way;)V" } : Jvm.MethodName)) ∈ tb := tbm 446 (by decide +kernel) rfl
theorem tw_447 : (Jvm.Cond.code ({ cls := "TideLoans", name := "bring", desc := "(LTideLoans$Thing;LTideLoans$Way;)V" } : Jvm.MethodName) prog_1_method_60_code (3 : Nat) (Option.none : Option Jvm.ClassFile.FieldType)) ∈ tb := tbm 447 (by decide +kernel) rfl
theorem tw_448 : (Jvm.Cond.methodLink "TideLoans" (214 : Nat) ({ cls := "TideLoans$Way", name := "brings", desc := "(LTideLoans$Thing;I)I" } : Jvm.MethodName)) ∈ tb := tbm 448 (by decide +kernel) rfl
theorem tw_449 : (Jvm.Cond.instanceMethod ({ cls := "TideLoans$Way", name := "brings", desc := "(LTideLoans$Thing;I)I" } : Jvm.MethodName)) ∈ tb := tbm 449 (by decide +kernel) rfl
theorem tw_450 : (Jvm.Cond.selects "TideLoans$Way" ({ cls := "TideLoans$Way", name := "brings", desc := "(LTideLoans$Thing;I)I" } : Jvm.MethodName) ({ cls := "TideLoans$Way", name := "brings", desc := "(LTideLoans$Thing;I)I" } : Jvm.MethodName)) ∈ tb := tbm 450 (by decide +kernel) rfl
theorem tw_451 : (Jvm.Cond.code ({ cls := "TideLoans$Way", name := "brings", desc := "(LTideLoans$Thing;I)I" } : Jvm.MethodName) prog_6_method_5_code (3 : Nat) (Option.some Jvm.ClassFile.FieldType.int)) ∈ tb := tbm 451 (by decide +kernel) rfl
theorem tw_452 : (Jvm.Cond.methodLinkNest "TideLoans$Way" (59 : Nat) ({ cls := "TideLoans", name := "repaid", desc := "(LTideLoans$Thing;III)I" } : Jvm.MethodName) "TideLoans") ∈ nst := nsm 452 (by decide +kernel) rfl
theorem tw_453 : (Jvm.Cond.methodLink "TideLoans" (218 : Nat) ({ cls := "TideLoans", name := "filled", desc := "(II)I" } : Jvm.MethodName)) ∈ tb := tbm 453 (by decide +kernel) rfl
theorem tw_454 : (Jvm.Cond.static ({ cls := "TideLoans", name := "filled", desc := "(II)I" } : Jvm.MethodName)) ∈ tb := tbm 454 (by decide +kernel) rfl
theorem tw_455 : (Jvm.Cond.code ({ cls := "TideLoans", name := "filled", desc := "(II)I" } : Jvm.MethodName) prog_1_method_57_code (2 : Nat) (Option.some Jvm.ClassFile.FieldType.int)) ∈ tb := tbm 455 (by decide +kernel) rfl
theorem tw_456 : (Jvm.Cond.methodLink "TideLoans" (329 : Nat) ({ cls := "java/lang/Math", name := "min", desc := "(II)I" } : Jvm.MethodName)) ∈ tb := tbm 456 (by decide +kernel) rfl
theorem tw_457 : (Jvm.Cond.static ({ cls := "java/lang/Math", name := "min", desc := "(II)I" } : Jvm.MethodName)) ∈ tb := tbm 457 (by decide +kernel) rfl
theorem tw_458 : (Jvm.Cond.code ({ cls := "java/lang/Math", name := "min", desc := "(II)I" } : Jvm.MethodName) prog_10_method_69_code (2 : Nat) (Option.some Jvm.ClassFile.FieldType.int)) ∈ tb := tbm 458 (by decide +kernel) rfl
theorem tw_459 : (Jvm.Cond.methodLink "TideLoans" (173 : Nat) ({ cls := "TideLoans$Shore", name := "allPurses", desc := "()J" } : Jvm.MethodName)) ∈ tb := tbm 459 (by decide +kernel) rfl
theorem tw_460 : (Jvm.Cond.instanceMethod ({ cls := "TideLoans$Shore", name := "allPurses", desc := "()J" } : Jvm.MethodName)) ∈ tb := tbm 460 (by decide +kernel) rfl
theorem tw_461 : (Jvm.Cond.selects "TideLoans$Shore" ({ cls := "TideLoans$Shore", name := "allPurses", desc := "()J" } : Jvm.MethodName) ({ cls := "TideLoans$Shore", name := "allPurses", desc := "()J" } : Jvm.MethodName)) ∈ tb := tbm 461 (by decide +kernel) rfl
theorem tw_462 : (Jvm.Cond.code ({ cls := "TideLoans$Shore", name := "allPurses", desc := "()J" } : Jvm.MethodName) prog_3_method_11_code (4 : Nat) (Option.some Jvm.ClassFile.FieldType.long)) ∈ tb := tbm 462 (by decide +kernel) rfl
theorem tw_463 : (Jvm.Cond.methodLink "TideLoansLaw" (69 : Nat) ({ cls := "TideLoans", name := "now", desc := "(I)I" } : Jvm.MethodName)) ∈ tb := tbm 463 (by decide +kernel) rfl
theorem tw_464 : (Jvm.Cond.instanceMethod ({ cls := "TideLoans", name := "now", desc := "(I)I" } : Jvm.MethodName)) ∈ tb := tbm 464 (by decide +kernel) rfl
theorem tw_465 : (Jvm.Cond.selects "TideLoans" ({ cls := "TideLoans", name := "now", desc := "(I)I" } : Jvm.MethodName) ({ cls := "TideLoans", name := "now", desc := "(I)I" } : Jvm.MethodName)) ∈ tb := tbm 465 (by decide +kernel) rfl
theorem tw_466 : (Jvm.Cond.code ({ cls := "TideLoans", name := "now", desc := "(I)I" } : Jvm.MethodName) prog_1_method_15_code (2 : Nat) (Option.some Jvm.ClassFile.FieldType.int)) ∈ tb := tbm 466 (by decide +kernel) rfl
theorem tw_467 : (Jvm.Cond.methodLink "TideLoans" (177 : Nat) ({ cls := "TideLoans$Shore", name := "allIn", desc := "(I)I" } : Jvm.MethodName)) ∈ tb := tbm 467 (by decide +kernel) rfl
theorem tw_468 : (Jvm.Cond.instanceMethod ({ cls := "TideLoans$Shore", name := "allIn", desc := "(I)I" } : Jvm.MethodName)) ∈ tb := tbm 468 (by decide +kernel) rfl
theorem tw_469 : (Jvm.Cond.selects "TideLoans$Shore" ({ cls := "TideLoans$Shore", name := "allIn", desc := "(I)I" } : Jvm.MethodName) ({ cls := "TideLoans$Shore", name := "allIn", desc := "(I)I" } : Jvm.MethodName)) ∈ tb := tbm 469 (by decide +kernel) rfl
theorem tw_470 : (Jvm.Cond.code ({ cls := "TideLoans$Shore", name := "allIn", desc := "(I)I" } : Jvm.MethodName) prog_3_method_7_code (4 : Nat) (Option.some Jvm.ClassFile.FieldType.int)) ∈ tb := tbm 470 (by decide +kernel) rfl
theorem tw_471 : (Jvm.Cond.methodLink "TideLoans" (180 : Nat) ({ cls := "TideLoans", name := "allOwedNow", desc := "()I" } : Jvm.MethodName)) ∈ tb := tbm 471 (by decide +kernel) rfl
theorem tw_473 : (Jvm.Cond.instanceMethod ({ cls := "TideLoans", name := "allOwedNow", desc := "()I" } : Jvm.MethodName)) ∈ tb := tbm 473 (by decide +kernel) rfl
theorem tw_474 : (Jvm.Cond.code ({ cls := "TideLoans", name := "allOwedNow", desc := "()I" } : Jvm.MethodName) prog_1_method_56_code (3 : Nat) (Option.some Jvm.ClassFile.FieldType.int)) ∈ tb := tbm 474 (by decide +kernel) rfl
theorem tw_475 : (Jvm.Cond.methodLink "TideLoans" (184 : Nat) ({ cls := "TideLoans$Shore", name := "allWorth", desc := "()I" } : Jvm.MethodName)) ∈ tb := tbm 475 (by decide +kernel) rfl
theorem tw_476 : (Jvm.Cond.instanceMethod ({ cls := "TideLoans$Shore", name := "allWorth", desc := "()I" } : Jvm.MethodName)) ∈ tb := tbm 476 (by decide +kernel) rfl
theorem tw_477 : (Jvm.Cond.selects "TideLoans$Shore" ({ cls := "TideLoans$Shore", name := "allWorth", desc := "()I" } : Jvm.MethodName) ({ cls := "TideLoans$Shore", name := "allWorth", desc := "()I" } : Jvm.MethodName)) ∈ tb := tbm 477 (by decide +kernel) rfl
theorem tw_478 : (Jvm.Cond.code ({ cls := "TideLoans$Shore", name := "allWorth", desc := "()I" } : Jvm.MethodName) prog_3_method_8_code (3 : Nat) (Option.some Jvm.ClassFile.FieldType.int)) ∈ tb := tbm 478 (by decide +kernel) rfl
theorem tw_479 : (Jvm.Cond.methodLink "TideLoansLaw" (73 : Nat) ({ cls := "TideLoans", name := "on", desc := "(II)I" } : Jvm.MethodName)) ∈ tb := tbm 479 (by decide +kernel) rfl
theorem tw_480 : (Jvm.Cond.instanceMethod ({ cls := "TideLoans", name := "on", desc := "(II)I" } : Jvm.MethodName)) ∈ tb := tbm 480 (by decide +kernel) rfl
theorem tw_481 : (Jvm.Cond.selects "TideLoans" ({ cls := "TideLoans", name := "on", desc := "(II)I" } : Jvm.MethodName) ({ cls := "TideLoans", name := "on", desc := "(II)I" } : Jvm.MethodName)) ∈ tb := tbm 481 (by decide +kernel) rfl
theorem tw_482 : (Jvm.Cond.code ({ cls := "TideLoans", name := "on", desc := "(II)I" } : Jvm.MethodName) prog_1_method_16_code (3 : Nat) (Option.some Jvm.ClassFile.FieldType.int)) ∈ tb := tbm 482 (by decide +kernel) rfl
theorem tw_483 : (Jvm.Cond.methodLink "TideLoans" (187 : Nat) ({ cls := "TideLoans", name := "purseThen", desc := "(III)I" } : Jvm.MethodName)) ∈ tb := tbm 483 (by decide +kernel) rfl
theorem tw_485 : (Jvm.Cond.instanceMethod ({ cls := "TideLoans", name := "purseThen", desc := "(III)I" } : Jvm.MethodName)) ∈ tb := tbm 485 (by decide +kernel) rfl
theorem tw_486 : (Jvm.Cond.code ({ cls := "TideLoans", name := "purseThen", desc := "(III)I" } : Jvm.MethodName) prog_1_method_61_code (7 : Nat) (Option.some Jvm.ClassFile.FieldType.int)) ∈ tb := tbm 486 (by decide +kernel) rfl
theorem tw_487 : (Jvm.Cond.methodLink "TideLoansLaw" (77 : Nat) ({ cls := "TideLoans", name := "taken", desc := "(I)I" } : Jvm.MethodName)) ∈ tb := tbm 487 (by decide +kernel) rfl
theorem tw_488 : (Jvm.Cond.instanceMethod ({ cls := "TideLoans", name := "taken", desc := "(I)I" } : Jvm.MethodName)) ∈ tb := tbm 488 (by decide +kernel) rfl
theorem tw_489 : (Jvm.Cond.selects "TideLoans" ({ cls := "TideLoans", name := "taken", desc := "(I)I" } : Jvm.MethodName) ({ cls := "TideLoans", name := "taken", desc := "(I)I" } : Jvm.MethodName)) ∈ tb := tbm 489 (by decide +kernel) rfl
theorem tw_490 : (Jvm.Cond.code ({ cls := "TideLoans", name := "taken", desc := "(I)I" } : Jvm.MethodName) prog_1_method_17_code (3 : Nat) (Option.some Jvm.ClassFile.FieldType.int)) ∈ tb := tbm 490 (by decide +kernel) rfl
theorem tw_491 : (Jvm.Cond.constant "TideLoans" (198 : Nat) (-1000000004 : Int32)) ∈ tb := tbm 491 (by decide +kernel) rfl
theorem tw_492 : (Jvm.Cond.methodLink "TideLoansLaw" (81 : Nat) ({ cls := "TideLoans", name := "home", desc := "(I)I" } : Jvm.MethodName)) ∈ tb := tbm 492 (by decide +kernel) rfl
theorem tw_493 : (Jvm.Cond.instanceMethod ({ cls := "TideLoans", name := "home", desc := "(I)I" } : Jvm.MethodName)) ∈ tb := tbm 493 (by decide +kernel) rfl
theorem tw_494 : (Jvm.Cond.selects "TideLoans" ({ cls := "TideLoans", name := "home", desc := "(I)I" } : Jvm.MethodName) ({ cls := "TideLoans", name := "home", desc := "(I)I" } : Jvm.MethodName)) ∈ tb := tbm 494 (by decide +kernel) rfl
theorem tw_495 : (Jvm.Cond.code ({ cls := "TideLoans", name := "home", desc := "(I)I" } : Jvm.MethodName) prog_1_method_18_code (3 : Nat) (Option.some Jvm.ClassFile.FieldType.int)) ∈ tb := tbm 495 (by decide +kernel) rfl
theorem tw_496 : (Jvm.Cond.methodLink "TideLoansLaw" (85 : Nat) ({ cls := "TideLoans", name := "due", desc := "()I" } : Jvm.MethodName)) ∈ tb := tbm 496 (by decide +kernel) rfl
theorem tw_497 : (Jvm.Cond.instanceMethod ({ cls := "TideLoans", name := "due", desc := "()I" } : Jvm.MethodName)) ∈ tb := tbm 497 (by decide +kernel) rfl
theorem tw_498 : (Jvm.Cond.selects "TideLoans" ({ cls := "TideLoans", name := "due", desc := "()I" } : Jvm.MethodName) ({ cls := "TideLoans", name := "due", desc := "()I" } : Jvm.MethodName)) ∈ tb := tbm 498 (by decide +kernel) rfl
theorem tw_499 : (Jvm.Cond.code ({ cls := "TideLoans", name := "due", desc := "()I" } : Jvm.MethodName) prog_1_method_19_code (3 : Nat) (Option.some Jvm.ClassFile.FieldType.int)) ∈ tb := tbm 499 (by decide +kernel) rfl
theorem tw_500 : (Jvm.Cond.methodLink "TideLoans" (202 : Nat) ({ cls := "TideLoans", name := "springFrom", desc := "(I)I" } : Jvm.MethodName)) ∈ tb := tbm 500 (by decide +kernel) rfl
theorem tw_501 : (Jvm.Cond.methodLink "TideLoansLaw" (90 : Nat) ({ cls := "TideLoans", name := "spot", desc := "(II)I" } : Jvm.MethodName)) ∈ tb := tbm 501 (by decide +kernel) rfl
theorem tw_502 : (Jvm.Cond.instanceMethod ({ cls := "TideLoans", name := "spot", desc := "(II)I" } : Jvm.MethodName)) ∈ tb := tbm 502 (by decide +kernel) rfl
theorem tw_503 : (Jvm.Cond.selects "TideLoans" ({ cls := "TideLoans", name := "spot", desc := "(II)I" } : Jvm.MethodName) ({ cls := "TideLoans", name := "spot", desc := "(II)I" } : Jvm.MethodName)) ∈ tb := tbm 503 (by decide +kernel) rfl
theorem tw_504 : (Jvm.Cond.code ({ cls := "TideLoans", name := "spot", desc := "(II)I" } : Jvm.MethodName) prog_1_method_20_code (8 : Nat) (Option.some Jvm.ClassFile.FieldType.int)) ∈ tb := tbm 504 (by decide +kernel) rfl
theorem tw_505 : (Jvm.Cond.methodLink "TideLoans" (205 : Nat) ({ cls := "TideLoans", name := "tryOn", desc := "(II)I" } : Jvm.MethodName)) ∈ tb := tbm 505 (by decide +kernel) rfl
theorem tw_507 : (Jvm.Cond.instanceMethod ({ cls := "TideLoans", name := "tryOn", desc := "(II)I" } : Jvm.MethodName)) ∈ tb := tbm 507 (by decide +kernel) rfl
theorem tw_508 : (Jvm.Cond.code ({ cls := "TideLoans", name := "tryOn", desc := "(II)I" } : Jvm.MethodName) prog_1_method_63_code (3 : Nat) (Option.some Jvm.ClassFile.FieldType.int)) ∈ tb := tbm 508 (by decide +kernel) rfl
theorem tw_509 : (Jvm.Cond.methodLink "TideLoans" (285 : Nat) ({ cls := "TideLoans$Thing", name := "become", desc := "(LTideLoans$Thing;)V" } : Jvm.MethodName)) ∈ tb := tbm 509 (by decide +kernel) rfl
theorem tw_510 : (Jvm.Cond.instanceMethod ({ cls := "TideLoans$Thing", name := "become", desc := "(LTideLoans$Thing;)V" } : Jvm.MethodName)) ∈ tb := tbm 510 (by decide +kernel) rfl
theorem tw_511 : (Jvm.Cond.selects "TideLoans$Thing" ({ cls := "TideLoans$Thing", name := "become", desc := "(LTideLoans$Thing;)V" } : Jvm.MethodName) ({ cls := "TideLoans$Thing", name := "become", desc := "(LTideLoans$Thing;)V" } : Jvm.MethodName)) ∈ tb := tbm 511 (by decide +kernel) rfl
theorem tw_512 : (Jvm.Cond.code ({ cls := "TideLoans$Thing", name := "become", desc := "(LTideLoans$Thing;)V" } : Jvm.MethodName) prog_5_method_4_code (2 : Nat) (Option.none : Option Jvm.ClassFile.FieldType)) ∈ tb := tbm 512 (by decide +kernel) rfl
theorem tw_513 : (Jvm.Cond.methodLink "TideLoans" (208 : Nat) ({ cls := "TideLoans", name := "purseWithTrial", desc := "(III)I" } : Jvm.MethodName)) ∈ tb := tbm 513 (by decide +kernel) rfl
theorem tw_515 : (Jvm.Cond.instanceMethod ({ cls := "TideLoans", name := "purseWithTrial", desc := "(III)I" } : Jvm.MethodName)) ∈ tb := tbm 515 (by decide +kernel) rfl
theorem tw_516 : (Jvm.Cond.code ({ cls := "TideLoans", name := "purseWithTrial", desc := "(III)I" } : Jvm.MethodName) prog_1_method_65_code (4 : Nat) (Option.some Jvm.ClassFile.FieldType.int)) ∈ tb := tbm 516 (by decide +kernel) rfl
theorem tw_517 : (Jvm.Cond.methodLink "TideLoans" (211 : Nat) ({ cls := "TideLoans", name := "followTrial", desc := "(II)V" } : Jvm.MethodName)) ∈ tb := tbm 517 (by decide +kernel) rfl
theorem tw_519 : (Jvm.Cond.instanceMethod ({ cls := "TideLoans", name := "followTrial", desc := "(II)V" } : Jvm.MethodName)) ∈ tb := tbm 519 (by decide +kernel) rfl
theorem tw_520 : (Jvm.Cond.code ({ cls := "TideLoans", name := "followTrial", desc := "(II)V" } : Jvm.MethodName) prog_1_method_64_code (3 : Nat) (Option.none : Option Jvm.ClassFile.FieldType)) ∈ tb := tbm 520 (by decide +kernel) rfl
theorem tw_521 : (Jvm.Cond.methodLink "TideLoansLaw" (94 : Nat) ({ cls := "TideLoans", name := "delay", desc := "(III)I" } : Jvm.MethodName)) ∈ tb := tbm 521 (by decide +kernel) rfl
theorem tw_522 : (Jvm.Cond.instanceMethod ({ cls := "TideLoans", name := "delay", desc := "(III)I" } : Jvm.MethodName)) ∈ tb := tbm 522 (by decide +kernel) rfl
theorem tw_523 : (Jvm.Cond.selects "TideLoans" ({ cls := "TideLoans", name := "delay", desc := "(III)I" } : Jvm.MethodName) ({ cls := "TideLoans", name := "delay", desc := "(III)I" } : Jvm.MethodName)) ∈ tb := tbm 523 (by decide +kernel) rfl
theorem tw_524 : (Jvm.Cond.code ({ cls := "TideLoans", name := "delay", desc := "(III)I" } : Jvm.MethodName) prog_1_method_21_code (9 : Nat) (Option.some Jvm.ClassFile.FieldType.int)) ∈ tb := tbm 524 (by decide +kernel) rfl
theorem tw_525 : (Jvm.Cond.methodLink "TideLoansLaw" (98 : Nat) ({ cls := "TideLoans", name := "kind", desc := "(II)I" } : Jvm.MethodName)) ∈ tb := tbm 525 (by decide +kernel) rfl
theorem tw_526 : (Jvm.Cond.instanceMethod ({ cls := "TideLoans", name := "kind", desc := "(II)I" } : Jvm.MethodName)) ∈ tb := tbm 526 (by decide +kernel) rfl
theorem tw_527 : (Jvm.Cond.selects "TideLoans" ({ cls := "TideLoans", name := "kind", desc := "(II)I" } : Jvm.MethodName) ({ cls := "TideLoans", name := "kind", desc := "(II)I" } : Jvm.MethodName)) ∈ tb := tbm 527 (by decide +kernel) rfl
theorem tw_528 : (Jvm.Cond.code ({ cls := "TideLoans", name := "kind", desc := "(II)I" } : Jvm.MethodName) prog_1_method_22_code (8 : Nat) (Option.some Jvm.ClassFile.FieldType.int)) ∈ tb := tbm 528 (by decide +kernel) rfl
theorem tw_529 : (Jvm.Cond.methodLink "TideLoansLaw" (102 : Nat) ({ cls := "TideLoans", name := "worth", desc := "(III)I" } : Jvm.MethodName)) ∈ tb := tbm 529 (by decide +kernel) rfl
theorem tw_530 : (Jvm.Cond.instanceMethod ({ cls := "TideLoans", name := "worth", desc := "(III)I" } : Jvm.MethodName)) ∈ tb := tbm 530 (by decide +kernel) rfl
theorem tw_531 : (Jvm.Cond.selects "TideLoans" ({ cls := "TideLoans", name := "worth", desc := "(III)I" } : Jvm.MethodName) ({ cls := "TideLoans", name := "worth", desc := "(III)I" } : Jvm.MethodName)) ∈ tb := tbm 531 (by decide +kernel) rfl
theorem tw_532 : (Jvm.Cond.code ({ cls := "TideLoans", name := "worth", desc := "(III)I" } : Jvm.MethodName) prog_1_method_23_code (6 : Nat) (Option.some Jvm.ClassFile.FieldType.int)) ∈ tb := tbm 532 (by decide +kernel) rfl
theorem tw_533 : (Jvm.Cond.methodLink "TideLoansLaw" (106 : Nat) ({ cls := "TideLoans", name := "richest", desc := "(I)I" } : Jvm.MethodName)) ∈ tb := tbm 533 (by decide +kernel) rfl
theorem tw_534 : (Jvm.Cond.instanceMethod ({ cls := "TideLoans", name := "richest", desc := "(I)I" } : Jvm.MethodName)) ∈ tb := tbm 534 (by decide +kernel) rfl
theorem tw_535 : (Jvm.Cond.selects "TideLoans" ({ cls := "TideLoans", name := "richest", desc := "(I)I" } : Jvm.MethodName) ({ cls := "TideLoans", name := "richest", desc := "(I)I" } : Jvm.MethodName)) ∈ tb := tbm 535 (by decide +kernel) rfl
theorem tw_536 : (Jvm.Cond.code ({ cls := "TideLoans", name := "richest", desc := "(I)I" } : Jvm.MethodName) prog_1_method_24_code (6 : Nat) (Option.some Jvm.ClassFile.FieldType.int)) ∈ tb := tbm 536 (by decide +kernel) rfl
theorem tw_537 : (Jvm.Cond.methodLink "TideLoansLaw" (110 : Nat) ({ cls := "TideLoans", name := "fewest", desc := "(III)I" } : Jvm.MethodName)) ∈ tb := tbm 537 (by decide +kernel) rfl
theorem tw_538 : (Jvm.Cond.instanceMethod ({ cls := "TideLoans", name := "fewest", desc := "(III)I" } : Jvm.MethodName)) ∈ tb := tbm 538 (by decide +kernel) rfl
theorem tw_539 : (Jvm.Cond.selects "TideLoans" ({ cls := "TideLoans", name := "fewest", desc := "(III)I" } : Jvm.MethodName) ({ cls := "TideLoans", name := "fewest", desc := "(III)I" } : Jvm.MethodName)) ∈ tb := tbm 539 (by decide +kernel) rfl
theorem tw_540 : (Jvm.Cond.code ({ cls := "TideLoans", name := "fewest", desc := "(III)I" } : Jvm.MethodName) prog_1_method_25_code (10 : Nat) (Option.some Jvm.ClassFile.FieldType.int)) ∈ tb := tbm 540 (by decide +kernel) rfl
theorem tw_541 : (Jvm.Cond.methodLink "TideLoans" (221 : Nat) ({ cls := "TideLoans", name := "shareOut", desc := "(I)I" } : Jvm.MethodName)) ∈ tb := tbm 541 (by decide +kernel) rfl
theorem tw_543 : (Jvm.Cond.instanceMethod ({ cls := "TideLoans", name := "shareOut", desc := "(I)I" } : Jvm.MethodName)) ∈ tb := tbm 543 (by decide +kernel) rfl
theorem tw_544 : (Jvm.Cond.code ({ cls := "TideLoans", name := "shareOut", desc := "(I)I" } : Jvm.MethodName) prog_1_method_66_code (6 : Nat) (Option.some Jvm.ClassFile.FieldType.int)) ∈ tb := tbm 544 (by decide +kernel) rfl
theorem tw_545 : (Jvm.Cond.methodLink "TideLoans" (224 : Nat) ({ cls := "TideLoans", name := "sureThen", desc := "(I)I" } : Jvm.MethodName)) ∈ tb := tbm 545 (by decide +kernel) rfl
theorem tw_547 : (Jvm.Cond.instanceMethod ({ cls := "TideLoans", name := "sureThen", desc := "(I)I" } : Jvm.MethodName)) ∈ tb := tbm 547 (by decide +kernel) rfl
theorem tw_548 : (Jvm.Cond.code ({ cls := "TideLoans", name := "sureThen", desc := "(I)I" } : Jvm.MethodName) prog_1_method_68_code (5 : Nat) (Option.some Jvm.ClassFile.FieldType.int)) ∈ tb := tbm 548 (by decide +kernel) rfl
theorem tw_549 : (Jvm.Cond.methodLink "TideLoans" (227 : Nat) ({ cls := "TideLoans", name := "sharesOf", desc := "(I)I" } : Jvm.MethodName)) ∈ tb := tbm 549 (by decide +kernel) rfl
theorem tw_551 : (Jvm.Cond.instanceMethod ({ cls := "TideLoans", name := "sharesOf", desc := "(I)I" } : Jvm.MethodName)) ∈ tb := tbm 551 (by decide +kernel) rfl
theorem tw_552 : (Jvm.Cond.code ({ cls := "TideLoans", name := "sharesOf", desc := "(I)I" } : Jvm.MethodName) prog_1_method_67_code (4 : Nat) (Option.some Jvm.ClassFile.FieldType.int)) ∈ tb := tbm 552 (by decide +kernel) rfl
theorem tw_553 : (Jvm.Cond.methodLink "TideLoansLaw" (114 : Nat) ({ cls := "TideLoans", name := "rate", desc := "(II)I" } : Jvm.MethodName)) ∈ tb := tbm 553 (by decide +kernel) rfl
theorem tw_554 : (Jvm.Cond.instanceMethod ({ cls := "TideLoans", name := "rate", desc := "(II)I" } : Jvm.MethodName)) ∈ tb := tbm 554 (by decide +kernel) rfl
theorem tw_555 : (Jvm.Cond.selects "TideLoans" ({ cls := "TideLoans", name := "rate", desc := "(II)I" } : Jvm.MethodName) ({ cls := "TideLoans", name := "rate", desc := "(II)I" } : Jvm.MethodName)) ∈ tb := tbm 555 (by decide +kernel) rfl
theorem tw_556 : (Jvm.Cond.code ({ cls := "TideLoans", name := "rate", desc := "(II)I" } : Jvm.MethodName) prog_1_method_26_code (4 : Nat) (Option.some Jvm.ClassFile.FieldType.int)) ∈ tb := tbm 556 (by decide +kernel) rfl
theorem tw_557 : (Jvm.Cond.methodLink "TideLoans" (230 : Nat) ({ cls := "TideLoans", name := "gainAt", desc := "(I)J" } : Jvm.MethodName)) ∈ tb := tbm 557 (by decide +kernel) rfl
theorem tw_559 : (Jvm.Cond.instanceMethod ({ cls := "TideLoans", name := "gainAt", desc := "(I)J" } : Jvm.MethodName)) ∈ tb := tbm 559 (by decide +kernel) rfl
theorem tw_560 : (Jvm.Cond.code ({ cls := "TideLoans", name := "gainAt", desc := "(I)J" } : Jvm.MethodName) prog_1_method_62_code (5 : Nat) (Option.some Jvm.ClassFile.FieldType.long)) ∈ tb := tbm 560 (by decide +kernel) rfl
theorem tw_561 : (Jvm.Cond.methodLink "TideLoansLaw" (118 : Nat) ({ cls := "TideLoans", name := "feed", desc := "(II)I" } : Jvm.MethodName)) ∈ tb := tbm 561 (by decide +kernel) rfl
theorem tw_562 : (Jvm.Cond.instanceMethod ({ cls := "TideLoans", name := "feed", desc := "(II)I" } : Jvm.MethodName)) ∈ tb := tbm 562 (by decide +kernel) rfl
theorem tw_563 : (Jvm.Cond.selects "TideLoans" ({ cls := "TideLoans", name := "feed", desc := "(II)I" } : Jvm.MethodName) ({ cls := "TideLoans", name := "feed", desc := "(II)I" } : Jvm.MethodName)) ∈ tb := tbm 563 (by decide +kernel) rfl
theorem tw_564 : (Jvm.Cond.code ({ cls := "TideLoans", name := "feed", desc := "(II)I" } : Jvm.MethodName) prog_1_method_27_code (4 : Nat) (Option.some Jvm.ClassFile.FieldType.int)) ∈ tb := tbm 564 (by decide +kernel) rfl
theorem tw_565 : (Jvm.Cond.methodLink "TideLoans" (237 : Nat) ({ cls := "TideLoans$Tape", name := "put", desc := "(B)V" } : Jvm.MethodName)) ∈ tb := tbm 565 (by decide +kernel) rfl
theorem tw_566 : (Jvm.Cond.instanceMethod ({ cls := "TideLoans$Tape", name := "put", desc := "(B)V" } : Jvm.MethodName)) ∈ tb := tbm 566 (by decide +kernel) rfl
theorem tw_567 : (Jvm.Cond.selects "TideLoans$Tape" ({ cls := "TideLoans$Tape", name := "put", desc := "(B)V" } : Jvm.MethodName) ({ cls := "TideLoans$Tape", name := "put", desc := "(B)V" } : Jvm.MethodName)) ∈ tb := tbm 567 (by decide +kernel) rfl
theorem tw_568 : (Jvm.Cond.code ({ cls := "TideLoans$Tape", name := "put", desc := "(B)V" } : Jvm.MethodName) prog_4_method_2_code (2 : Nat) (Option.none : Option Jvm.ClassFile.FieldType)) ∈ tb := tbm 568 (by decide +kernel) rfl
theorem tw_569 : (Jvm.Cond.methodLink "TideLoansLaw" (122 : Nat) ({ cls := "TideLoans", name := "wipe", desc := "()I" } : Jvm.MethodName)) ∈ tb := tbm 569 (by decide +kernel) rfl
theorem tw_570 : (Jvm.Cond.instanceMethod ({ cls := "TideLoans", name := "wipe", desc := "()I" } : Jvm.MethodName)) ∈ tb := tbm 570 (by decide +kernel) rfl
theorem tw_571 : (Jvm.Cond.selects "TideLoans" ({ cls := "TideLoans", name := "wipe", desc := "()I" } : Jvm.MethodName) ({ cls := "TideLoans", name := "wipe", desc := "()I" } : Jvm.MethodName)) ∈ tb := tbm 571 (by decide +kernel) rfl
theorem tw_572 : (Jvm.Cond.code ({ cls := "TideLoans", name := "wipe", desc := "()I" } : Jvm.MethodName) prog_1_method_28_code (2 : Nat) (Option.some Jvm.ClassFile.FieldType.int)) ∈ tb := tbm 572 (by decide +kernel) rfl
theorem tw_573 : (Jvm.Cond.methodLink "TideLoansLaw" (126 : Nat) ({ cls := "TideLoans", name := "shore", desc := "()I" } : Jvm.MethodName)) ∈ tb := tbm 573 (by decide +kernel) rfl
theorem tw_574 : (Jvm.Cond.instanceMethod ({ cls := "TideLoans", name := "shore", desc := "()I" } : Jvm.MethodName)) ∈ tb := tbm 574 (by decide +kernel) rfl
theorem tw_575 : (Jvm.Cond.selects "TideLoans" ({ cls := "TideLoans", name := "shore", desc := "()I" } : Jvm.MethodName) ({ cls := "TideLoans", name := "shore", desc := "()I" } : Jvm.MethodName)) ∈ tb := tbm 575 (by decide +kernel) rfl
theorem tw_576 : (Jvm.Cond.code ({ cls := "TideLoans", name := "shore", desc := "()I" } : Jvm.MethodName) prog_1_method_29_code (2 : Nat) (Option.some Jvm.ClassFile.FieldType.int)) ∈ tb := tbm 576 (by decide +kernel) rfl
theorem tw_577 : (Jvm.Cond.methodLink "TideLoans" (241 : Nat) ({ cls := "TideLoans$Shore", name := "become", desc := "(LTideLoans$Shore;)V" } : Jvm.MethodName)) ∈ tb := tbm 577 (by decide +kernel) rfl
theorem tw_578 : (Jvm.Cond.instanceMethod ({ cls := "TideLoans$Shore", name := "become", desc := "(LTideLoans$Shore;)V" } : Jvm.MethodName)) ∈ tb := tbm 578 (by decide +kernel) rfl
theorem tw_579 : (Jvm.Cond.selects "TideLoans$Shore" ({ cls := "TideLoans$Shore", name := "become", desc := "(LTideLoans$Shore;)V" } : Jvm.MethodName) ({ cls := "TideLoans$Shore", name := "become", desc := "(LTideLoans$Shore;)V" } : Jvm.MethodName)) ∈ tb := tbm 579 (by decide +kernel) rfl
theorem tw_580 : (Jvm.Cond.code ({ cls := "TideLoans$Shore", name := "become", desc := "(LTideLoans$Shore;)V" } : Jvm.MethodName) prog_3_method_2_code (3 : Nat) (Option.none : Option Jvm.ClassFile.FieldType)) ∈ tb := tbm 580 (by decide +kernel) rfl
theorem tw_581 : (Jvm.Cond.methodLink "TideLoans$Shore" (29 : Nat) ({ cls := "java/lang/System", name := "arraycopy", desc := "(Ljava/lang/Object;ILjava/lang/Object;II)V" } : Jvm.MethodName)) ∈ tb := tbm 581 (by decide +kernel) rfl
theorem tw_582 : (Jvm.Cond.static ({ cls := "java/lang/System", name := "arraycopy", desc := "(Ljava/lang/Object;ILjava/lang/Object;II)V" } : Jvm.MethodName)) ∈ tb := tbm 582 (by decide +kernel) rfl
theorem tw_583 : (Jvm.Cond.native ({ cls := "java/lang/System", name := "arraycopy", desc := "(Ljava/lang/Object;ILjava/lang/Object;II)V" } : Jvm.MethodName)) ∈ tb := tbm 583 (by decide +kernel) rfl
theorem tw_584 : (Jvm.Cond.methodLink "TideLoans$Shore" (41 : Nat) ({ cls := "TideLoans$Thing", name := "become", desc := "(LTideLoans$Thing;)V" } : Jvm.MethodName)) ∈ tb := tbm 584 (by decide +kernel) rfl
theorem tw_585 : (Jvm.Cond.methodLink "TideLoans" (245 : Nat) ({ cls := "TideLoans", name := "readText", desc := "()I" } : Jvm.MethodName)) ∈ tb := tbm 585 (by decide +kernel) rfl
theorem tw_587 : (Jvm.Cond.instanceMethod ({ cls := "TideLoans", name := "readText", desc := "()I" } : Jvm.MethodName)) ∈ tb := tbm 587 (by decide +kernel) rfl
theorem tw_588 : (Jvm.Cond.code ({ cls := "TideLoans", name := "readText", desc := "()I" } : Jvm.MethodName) prog_1_method_73_code (3 : Nat) (Option.some Jvm.ClassFile.FieldType.int)) ∈ tb := tbm 588 (by decide +kernel) rfl
theorem tw_589 : (Jvm.Cond.methodLink "TideLoans" (343 : Nat) ({ cls := "TideLoans$Tape", name := "rewind", desc := "()V" } : Jvm.MethodName)) ∈ tb := tbm 589 (by decide +kernel) rfl
theorem tw_590 : (Jvm.Cond.instanceMethod ({ cls := "TideLoans$Tape", name := "rewind", desc := "()V" } : Jvm.MethodName)) ∈ tb := tbm 590 (by decide +kernel) rfl
theorem tw_591 : (Jvm.Cond.selects "TideLoans$Tape" ({ cls := "TideLoans$Tape", name := "rewind", desc := "()V" } : Jvm.MethodName) ({ cls := "TideLoans$Tape", name := "rewind", desc := "()V" } : Jvm.MethodName)) ∈ tb := tbm 591 (by decide +kernel) rfl
theorem tw_592 : (Jvm.Cond.code ({ cls := "TideLoans$Tape", name := "rewind", desc := "()V" } : Jvm.MethodName) prog_4_method_3_code (1 : Nat) (Option.none : Option Jvm.ClassFile.FieldType)) ∈ tb := tbm 592 (by decide +kernel) rfl
theorem tw_593 : (Jvm.Cond.methodLink "TideLoans$Tape" (22 : Nat) ({ cls := "TideLoans$Tape", name := "step", desc := "()V" } : Jvm.MethodName)) ∈ tb := tbm 593 (by decide +kernel) rfl
theorem tw_594 : (Jvm.Cond.instanceMethod ({ cls := "TideLoans$Tape", name := "step", desc := "()V" } : Jvm.MethodName)) ∈ tb := tbm 594 (by decide +kernel) rfl
theorem tw_595 : (Jvm.Cond.selects "TideLoans$Tape" ({ cls := "TideLoans$Tape", name := "step", desc := "()V" } : Jvm.MethodName) ({ cls := "TideLoans$Tape", name := "step", desc := "()V" } : Jvm.MethodName)) ∈ tb := tbm 595 (by decide +kernel) rfl
theorem tw_596 : (Jvm.Cond.code ({ cls := "TideLoans$Tape", name := "step", desc := "()V" } : Jvm.MethodName) prog_4_method_4_code (1 : Nat) (Option.none : Option Jvm.ClassFile.FieldType)) ∈ tb := tbm 596 (by decide +kernel) rfl
theorem tw_597 : (Jvm.Cond.methodLink "TideLoans$Tape" (28 : Nat) ({ cls := "TideLoans$Tape", name := "tokenOf", desc := "(B)I" } : Jvm.MethodName)) ∈ tb := tbm 597 (by decide +kernel) rfl
theorem tw_598 : (Jvm.Cond.static ({ cls := "TideLoans$Tape", name := "tokenOf", desc := "(B)I" } : Jvm.MethodName)) ∈ tb := tbm 598 (by decide +kernel) rfl
theorem tw_599 : (Jvm.Cond.code ({ cls := "TideLoans$Tape", name := "tokenOf", desc := "(B)I" } : Jvm.MethodName) prog_4_method_5_code (1 : Nat) (Option.some Jvm.ClassFile.FieldType.int)) ∈ tb := tbm 599 (by decide +kernel) rfl
theorem tw_600 : (Jvm.Cond.methodLink "TideLoans" (346 : Nat) ({ cls := "TideLoans", name := "readItem", desc := "()Z" } : Jvm.MethodName)) ∈ tb := tbm 600 (by decide +kernel) rfl
theorem tw_602 : (Jvm.Cond.instanceMethod ({ cls := "TideLoans", name := "readItem", desc := "()Z" } : Jvm.MethodName)) ∈ tb := tbm 602 (by decide +kernel) rfl
theorem tw_603 : (Jvm.Cond.code ({ cls := "TideLoans", name := "readItem", desc := "()Z" } : Jvm.MethodName) prog_1_method_74_code (2 : Nat) (Option.some Jvm.ClassFile.FieldType.boolean)) ∈ tb := tbm 603 (by decide +kernel) rfl
theorem tw_604 : (Jvm.Cond.methodLink "TideLoans" (358 : Nat) ({ cls := "TideLoans$Tape", name := "kindNamed", desc := "()I" } : Jvm.MethodName)) ∈ tb := tbm 604 (by decide +kernel) rfl
theorem tw_605 : (Jvm.Cond.instanceMethod ({ cls := "TideLoans$Tape", name := "kindNamed", desc := "()I" } : Jvm.MethodName)) ∈ tb := tbm 605 (by decide +kernel) rfl
theorem tw_606 : (Jvm.Cond.selects "TideLoans$Tape" ({ cls := "TideLoans$Tape", name := "kindNamed", desc := "()I" } : Jvm.MethodName) ({ cls := "TideLoans$Tape", name := "kindNamed", desc := "()I" } : Jvm.MethodName)) ∈ tb := tbm 606 (by decide +kernel) rfl
theorem tw_607 : (Jvm.Cond.code ({ cls := "TideLoans$Tape", name := "kindNamed", desc := "()I" } : Jvm.MethodName) prog_4_method_8_code (2 : Nat) (Option.some Jvm.ClassFile.FieldType.int)) ∈ tb := tbm 607 (by decide +kernel) rfl
theorem tw_608 : (Jvm.Cond.methodLink "TideLoans$Tape" (53 : Nat) ({ cls := "TideLoans$Tape", name := "nameOf", desc := "(I)Ljava/lang/String;" } : Jvm.MethodName)) ∈ tb := tbm 608 (by decide +kernel) rfl
theorem tw_609 : (Jvm.Cond.static ({ cls := "TideLoans$Tape", name := "nameOf", desc := "(I)Ljava/lang/String;" } : Jvm.MethodName)) ∈ tb := tbm 609 (by decide +kernel) rfl
theorem tw_610 : (Jvm.Cond.code ({ cls := "TideLoans$Tape", name := "nameOf", desc := "(I)Ljava/lang/String;" } : Jvm.MethodName) prog_4_method_9_code (1 : Nat) (Option.some (Jvm.ClassFile.FieldType.object "java/lang/String"))) ∈ tb := tbm 610 (by decide +kernel) rfl
theorem tw_617 : (Jvm.Cond.methodLink "TideLoans$Tape" (57 : Nat) ({ cls := "TideLoans$Tape", name := "isWord", desc := "(Ljava/lang/String;)Z" } : Jvm.MethodName)) ∈ tb := tbm 617 (by decide +kernel) rfl
theorem tw_618 : (Jvm.Cond.instanceMethod ({ cls := "TideLoans$Tape", name := "isWord", desc := "(Ljava/lang/String;)Z" } : Jvm.MethodName)) ∈ tb := tbm 618 (by decide +kernel) rfl
theorem tw_619 : (Jvm.Cond.selects "TideLoans$Tape" ({ cls := "TideLoans$Tape", name := "isWord", desc := "(Ljava/lang/String;)Z" } : Jvm.MethodName) ({ cls := "TideLoans$Tape", name := "isWord", desc := "(Ljava/lang/String;)Z" } : Jvm.MethodName)) ∈ tb := tbm 619 (by decide +kernel) rfl
theorem tw_620 : (Jvm.Cond.code ({ cls := "TideLoans$Tape", name := "isWord", desc := "(Ljava/lang/String;)Z" } : Jvm.MethodName) prog_4_method_7_code (3 : Nat) (Option.some Jvm.ClassFile.FieldType.boolean)) ∈ tb := tbm 620 (by decide +kernel) rfl
theorem tw_621 : (Jvm.Cond.methodLink "TideLoans$Tape" (44 : Nat) ({ cls := "java/lang/String", name := "length", desc := "()I" } : Jvm.MethodName)) ∈ tb := tbm 621 (by decide +kernel) rfl
theorem tw_622 : (Jvm.Cond.instanceMethod ({ cls := "java/lang/String", name := "length", desc := "()I" } : Jvm.MethodName)) ∈ tb := tbm 622 (by decide +kernel) rfl
theorem tw_623 : (Jvm.Cond.selects "java/lang/String" ({ cls := "java/lang/String", name := "length", desc := "()I" } : Jvm.MethodName) ({ cls := "java/lang/String", name := "length", desc := "()I" } : Jvm.MethodName)) ∈ tb := tbm 623 (by decide +kernel) rfl
theorem tw_624 : (Jvm.Cond.code ({ cls := "java/lang/String", name := "length", desc := "()I" } : Jvm.MethodName) prog_11_method_54_code (1 : Nat) (Option.some Jvm.ClassFile.FieldType.int)) ∈ tb := tbm 624 (by decide +kernel) rfl
theorem tw_625 : (Jvm.Cond.methodLink "java/lang/String" (335 : Nat) ({ cls := "java/lang/String", name := "coder", desc := "()B" } : Jvm.MethodName)) ∈ tb := tbm 625 (by decide +kernel) rfl
theorem tw_626 : (Jvm.Cond.instanceMethod ({ cls := "java/lang/String", name := "coder", desc := "()B" } : Jvm.MethodName)) ∈ tb := tbm 626 (by decide +kernel) rfl
theorem tw_627 : (Jvm.Cond.selects "java/lang/String" ({ cls := "java/lang/String", name := "coder", desc := "()B" } : Jvm.MethodName) ({ cls := "java/lang/String", name := "coder", desc := "()B" } : Jvm.MethodName)) ∈ tb := tbm 627 (by decide +kernel) rfl
theorem tw_628 : (Jvm.Cond.code ({ cls := "java/lang/String", name := "coder", desc := "()B" } : Jvm.MethodName) prog_11_method_152_code (1 : Nat) (Option.some Jvm.ClassFile.FieldType.byte)) ∈ tb := tbm 628 (by decide +kernel) rfl
theorem tw_629 : (Jvm.Cond.fieldLink "java/lang/String" (38 : Nat) "java/lang/String" "COMPACT_STRINGS" "Z") ∈ tb := tbm 629 (by decide +kernel) rfl
theorem tw_631 : (Jvm.Cond.methodLink "TideLoans$Tape" (49 : Nat) ({ cls := "java/lang/String", name := "charAt", desc := "(I)C" } : Jvm.MethodName)) ∈ tb := tbm 631 (by decide +kernel) rfl
theorem tw_632 : (Jvm.Cond.instanceMethod ({ cls := "java/lang/String", name := "charAt", desc := "(I)C" } : Jvm.MethodName)) ∈ tb := tbm 632 (by decide +kernel) rfl
theorem tw_633 : (Jvm.Cond.selects "java/lang/String" ({ cls := "java/lang/String", name := "charAt", desc := "(I)C" } : Jvm.MethodName) ({ cls := "java/lang/String", name := "charAt", desc := "(I)C" } : Jvm.MethodName)) ∈ tb := tbm 633 (by decide +kernel) rfl
theorem tw_634 : (Jvm.Cond.code ({ cls := "java/lang/String", name := "charAt", desc := "(I)C" } : Jvm.MethodName) prog_11_method_56_code (2 : Nat) (Option.some Jvm.ClassFile.FieldType.char)) ∈ tb := tbm 634 (by decide +kernel) rfl
theorem tw_635 : (Jvm.Cond.methodLink "java/lang/String" (492 : Nat) ({ cls := "java/lang/String", name := "isLatin1", desc := "()Z" } : Jvm.MethodName)) ∈ tb := tbm 635 (by decide +kernel) rfl
theorem tw_636 : (Jvm.Cond.instanceMethod ({ cls := "java/lang/String", name := "isLatin1", desc := "()Z" } : Jvm.MethodName)) ∈ tb := tbm 636 (by decide +kernel) rfl
theorem tw_637 : (Jvm.Cond.selects "java/lang/String" ({ cls := "java/lang/String", name := "isLatin1", desc := "()Z" } : Jvm.MethodName) ({ cls := "java/lang/String", name := "isLatin1", desc := "()Z" } : Jvm.MethodName)) ∈ tb := tbm 637 (by decide +kernel) rfl
theorem tw_638 : (Jvm.Cond.code ({ cls := "java/lang/String", name := "isLatin1", desc := "()Z" } : Jvm.MethodName) prog_11_method_154_code (1 : Nat) (Option.some Jvm.ClassFile.FieldType.boolean)) ∈ tb := tbm 638 (by decide +kernel) rfl
theorem tw_639 : (Jvm.Cond.methodLink "java/lang/String" (495 : Nat) ({ cls := "java/lang/StringLatin1", name := "charAt", desc := "([BI)C" } : Jvm.MethodName)) ∈ tb := tbm 639 (by decide +kernel) rfl
theorem tw_640 : (Jvm.Cond.static ({ cls := "java/lang/StringLatin1", name := "charAt", desc := "([BI)C" } : Jvm.MethodName)) ∈ tb := tbm 640 (by decide +kernel) rfl
theorem tw_641 : (Jvm.Cond.code ({ cls := "java/lang/StringLatin1", name := "charAt", desc := "([BI)C" } : Jvm.MethodName) prog_12_method_2_code (2 : Nat) (Option.some Jvm.ClassFile.FieldType.char)) ∈ tb := tbm 641 (by decide +kernel) rfl
theorem tw_642 : (Jvm.Cond.methodLink "java/lang/StringLatin1" (9 : Nat) ({ cls := "java/lang/String", name := "checkIndex", desc := "(II)V" } : Jvm.MethodName)) ∈ tb := tbm 642 (by decide +kernel) rfl
theorem tw_643 : (Jvm.Cond.static ({ cls := "java/lang/String", name := "checkIndex", desc := "(II)V" } : Jvm.MethodName)) ∈ tb := tbm 643 (by decide +kernel) rfl
theorem tw_644 : (Jvm.Cond.code ({ cls := "java/lang/String", name := "checkIndex", desc := "(II)V" } : Jvm.MethodName) prog_11_method_155_code (2 : Nat) (Option.none : Option Jvm.ClassFile.FieldType)) ∈ tb := tbm 644 (by decide +kernel) rfl
theorem tw_645 : (Jvm.Cond.fieldLink "java/lang/String" (1053 : Nat) "jdk/internal/util/Preconditions" "SIOOBE_FORMATTER" "Ljava/util/function/BiFunction;") ∈ tb := tbm 645 (by decide +kernel) rfl
theorem tw_647 : (Jvm.Cond.methodLink "java/lang/String" (1059 : Nat) ({ cls := "jdk/internal/util/Preconditions", name := "checkIndex", desc := "(IILjava/util/function/BiFunction;)I" } : Jvm.MethodName)) ∈ tb := tbm 647 (by decide +kernel) rfl
theorem tw_648 : (Jvm.Cond.static ({ cls := "jdk/internal/util/Preconditions", name := "checkIndex", desc := "(IILjava/util/function/BiFunction;)I" } : Jvm.MethodName)) ∈ tb := tbm 648 (by decide +kernel) rfl
theorem tw_649 : (Jvm.Cond.code ({ cls := "jdk/internal/util/Preconditions", name := "checkIndex", desc := "(IILjava/util/function/BiFunction;)I" } : Jvm.MethodName) prog_15_method_11_code (3 : Nat) (Option.some Jvm.ClassFile.FieldType.int)) ∈ tb := tbm 649 (by decide +kernel) rfl
theorem tw_650 : (Jvm.Cond.methodLink "java/lang/String" (498 : Nat) ({ cls := "java/lang/StringUTF16", name := "charAt", desc := "([BI)C" } : Jvm.MethodName)) ∈ tb := tbm 650 (by decide +kernel) rfl
theorem tw_651 : (Jvm.Cond.static ({ cls := "java/lang/StringUTF16", name := "charAt", desc := "([BI)C" } : Jvm.MethodName)) ∈ tb := tbm 651 (by decide +kernel) rfl
theorem tw_652 : (Jvm.Cond.code ({ cls := "java/lang/StringUTF16", name := "charAt", desc := "([BI)C" } : Jvm.MethodName) prog_13_method_83_code (2 : Nat) (Option.some Jvm.ClassFile.FieldType.char)) ∈ tb := tbm 652 (by decide +kernel) rfl
theorem tw_653 : (Jvm.Cond.methodLink "java/lang/StringUTF16" (67 : Nat) ({ cls := "java/lang/StringUTF16", name := "checkIndex", desc := "(I[B)V" } : Jvm.MethodName)) ∈ tb := tbm 653 (by decide +kernel) rfl
theorem tw_654 : (Jvm.Cond.static ({ cls := "java/lang/StringUTF16", name := "checkIndex", desc := "(I[B)V" } : Jvm.MethodName)) ∈ tb := tbm 654 (by decide +kernel) rfl
theorem tw_655 : (Jvm.Cond.code ({ cls := "java/lang/StringUTF16", name := "checkIndex", desc := "(I[B)V" } : Jvm.MethodName) prog_13_method_91_code (2 : Nat) (Option.none : Option Jvm.ClassFile.FieldType)) ∈ tb := tbm 655 (by decide +kernel) rfl
theorem tw_656 : (Jvm.Cond.methodLink "java/lang/StringUTF16" (48 : Nat) ({ cls := "java/lang/StringUTF16", name := "length", desc := "([B)I" } : Jvm.MethodName)) ∈ tb := tbm 656 (by decide +kernel) rfl
theorem tw_657 : (Jvm.Cond.static ({ cls := "java/lang/StringUTF16", name := "length", desc := "([B)I" } : Jvm.MethodName)) ∈ tb := tbm 657 (by decide +kernel) rfl
theorem tw_658 : (Jvm.Cond.code ({ cls := "java/lang/StringUTF16", name := "length", desc := "([B)I" } : Jvm.MethodName) prog_13_method_6_code (1 : Nat) (Option.some Jvm.ClassFile.FieldType.int)) ∈ tb := tbm 658 (by decide +kernel) rfl
theorem tw_659 : (Jvm.Cond.methodLink "java/lang/StringUTF16" (414 : Nat) ({ cls := "java/lang/String", name := "checkIndex", desc := "(II)V" } : Jvm.MethodName)) ∈ tb := tbm 659 (by decide +kernel) rfl
theorem tw_660 : (Jvm.Cond.methodLink "java/lang/StringUTF16" (71 : Nat) ({ cls := "java/lang/StringUTF16", name := "getChar", desc := "([BI)C" } : Jvm.MethodName)) ∈ tb := tbm 660 (by decide +kernel) rfl
theorem tw_661 : (Jvm.Cond.static ({ cls := "java/lang/StringUTF16", name := "getChar", desc := "([BI)C" } : Jvm.MethodName)) ∈ tb := tbm 661 (by decide +kernel) rfl
theorem tw_662 : (Jvm.Cond.code ({ cls := "java/lang/StringUTF16", name := "getChar", desc := "([BI)C" } : Jvm.MethodName) prog_13_method_5_code (2 : Nat) (Option.some Jvm.ClassFile.FieldType.char)) ∈ tb := tbm 662 (by decide +kernel) rfl
theorem tw_663 : (Jvm.Cond.fieldLink "java/lang/StringUTF16" (44 : Nat) "java/lang/StringUTF16" "$assertionsDisabled" "Z") ∈ tb := tbm 663 (by decide +kernel) rfl
theorem tw_665 : (Jvm.Cond.fieldLink "java/lang/StringUTF16" (59 : Nat) "java/lang/StringUTF16" "HI_BYTE_SHIFT" "I") ∈ tb := tbm 665 (by decide +kernel) rfl
theorem tw_667 : (Jvm.Cond.fieldLink "java/lang/StringUTF16" (63 : Nat) "java/lang/StringUTF16" "LO_BYTE_SHIFT" "I") ∈ tb := tbm 667 (by decide +kernel) rfl
theorem tw_669 : (Jvm.Cond.methodLink "TideLoans" (361 : Nat) ({ cls := "TideLoans", name := "readThing", desc := "(I)Z" } : Jvm.MethodName)) ∈ tb := tbm 669 (by decide +kernel) rfl
theorem tw_671 : (Jvm.Cond.instanceMethod ({ cls := "TideLoans", name := "readThing", desc := "(I)Z" } : Jvm.MethodName)) ∈ tb := tbm 671 (by decide +kernel) rfl
theorem tw_672 : (Jvm.Cond.code ({ cls := "TideLoans", name := "readThing", desc := "(I)Z" } : Jvm.MethodName) prog_1_method_75_code (3 : Nat) (Option.some Jvm.ClassFile.FieldType.boolean)) ∈ tb := tbm 672 (by decide +kernel) rfl
theorem tw_673 : (Jvm.Cond.methodLink "TideLoans" (355 : Nat) ({ cls := "TideLoans$Tape", name := "step", desc := "()V" } : Jvm.MethodName)) ∈ tb := tbm 673 (by decide +kernel) rfl
theorem tw_675 : (Jvm.Cond.methodLink "TideLoans" (366 : Nat) ({ cls := "TideLoans$Tape", name := "isWord", desc := "(Ljava/lang/String;)Z" } : Jvm.MethodName)) ∈ tb := tbm 675 (by decide +kernel) rfl
theorem tw_676 : (Jvm.Cond.methodLink "TideLoans" (379 : Nat) ({ cls := "TideLoans$Tape", name := "isNumberTo", desc := "(I)Z" } : Jvm.MethodName)) ∈ tb := tbm 676 (by decide +kernel) rfl
theorem tw_677 : (Jvm.Cond.instanceMethod ({ cls := "TideLoans$Tape", name := "isNumberTo", desc := "(I)Z" } : Jvm.MethodName)) ∈ tb := tbm 677 (by decide +kernel) rfl
theorem tw_678 : (Jvm.Cond.selects "TideLoans$Tape" ({ cls := "TideLoans$Tape", name := "isNumberTo", desc := "(I)Z" } : Jvm.MethodName) ({ cls := "TideLoans$Tape", name := "isNumberTo", desc := "(I)Z" } : Jvm.MethodName)) ∈ tb := tbm 678 (by decide +kernel) rfl
theorem tw_679 : (Jvm.Cond.code ({ cls := "TideLoans$Tape", name := "isNumberTo", desc := "(I)Z" } : Jvm.MethodName) prog_4_method_6_code (3 : Nat) (Option.some Jvm.ClassFile.FieldType.boolean)) ∈ tb := tbm 679 (by decide +kernel) rfl
theorem tw_680 : (Jvm.Cond.methodLink "TideLoans$Tape" (38 : Nat) ({ cls := "java/lang/Math", name := "min", desc := "(II)I" } : Jvm.MethodName)) ∈ tb := tbm 680 (by decide +kernel) rfl
theorem tw_681 : (Jvm.Cond.methodLink "TideLoans" (385 : Nat) ({ cls := "TideLoans", name := "readWorth", desc := "(LTideLoans$Thing;)Z" } : Jvm.MethodName)) ∈ tb := tbm 681 (by decide +kernel) rfl
theorem tw_683 : (Jvm.Cond.instanceMethod ({ cls := "TideLoans", name := "readWorth", desc := "(LTideLoans$Thing;)Z" } : Jvm.MethodName)) ∈ tb := tbm 683 (by decide +kernel) rfl
theorem tw_684 : (Jvm.Cond.code ({ cls := "TideLoans", name := "readWorth", desc := "(LTideLoans$Thing;)Z" } : Jvm.MethodName) prog_1_method_76_code (2 : Nat) (Option.some Jvm.ClassFile.FieldType.boolean)) ∈ tb := tbm 684 (by decide +kernel) rfl
theorem tw_686 : (Jvm.Cond.methodLink "TideLoans" (389 : Nat) ({ cls := "TideLoans", name := "readPlace", desc := "(LTideLoans$Thing;)Z" } : Jvm.MethodName)) ∈ tb := tbm 686 (by decide +kernel) rfl
theorem tw_688 : (Jvm.Cond.instanceMethod ({ cls := "TideLoans", name := "readPlace", desc := "(LTideLoans$Thing;)Z" } : Jvm.MethodName)) ∈ tb := tbm 688 (by decide +kernel) rfl
theorem tw_689 : (Jvm.Cond.code ({ cls := "TideLoans", name := "readPlace", desc := "(LTideLoans$Thing;)Z" } : Jvm.MethodName) prog_1_method_77_code (2 : Nat) (Option.some Jvm.ClassFile.FieldType.boolean)) ∈ tb := tbm 689 (by decide +kernel) rfl
theorem tw_692 : (Jvm.Cond.methodLink "TideLoans" (370 : Nat) ({ cls := "TideLoans", name := "readHeight", desc := "()Z" } : Jvm.MethodName)) ∈ tb := tbm 692 (by decide +kernel) rfl
theorem tw_694 : (Jvm.Cond.instanceMethod ({ cls := "TideLoans", name := "readHeight", desc := "()Z" } : Jvm.MethodName)) ∈ tb := tbm 694 (by decide +kernel) rfl
theorem tw_695 : (Jvm.Cond.code ({ cls := "TideLoans", name := "readHeight", desc := "()Z" } : Jvm.MethodName) prog_1_method_78_code (2 : Nat) (Option.some Jvm.ClassFile.FieldType.boolean)) ∈ tb := tbm 695 (by decide +kernel) rfl
theorem tw_697 : (Jvm.Cond.methodLink "TideLoans" (374 : Nat) ({ cls := "TideLoans", name := "readInterest", desc := "()Z" } : Jvm.MethodName)) ∈ tb := tbm 697 (by decide +kernel) rfl
theorem tw_699 : (Jvm.Cond.instanceMethod ({ cls := "TideLoans", name := "readInterest", desc := "()Z" } : Jvm.MethodName)) ∈ tb := tbm 699 (by decide +kernel) rfl
theorem tw_700 : (Jvm.Cond.code ({ cls := "TideLoans", name := "readInterest", desc := "()Z" } : Jvm.MethodName) prog_1_method_79_code (1 : Nat) (Option.some Jvm.ClassFile.FieldType.boolean)) ∈ tb := tbm 700 (by decide +kernel) rfl
theorem tw_701 : (Jvm.Cond.methodLink "TideLoansLaw" (130 : Nat) ({ cls := "TideLoans", name := "sheet", desc := "(III)I" } : Jvm.MethodName)) ∈ tb := tbm 701 (by decide +kernel) rfl
theorem tw_702 : (Jvm.Cond.instanceMethod ({ cls := "TideLoans", name := "sheet", desc := "(III)I" } : Jvm.MethodName)) ∈ tb := tbm 702 (by decide +kernel) rfl
theorem tw_703 : (Jvm.Cond.selects "TideLoans" ({ cls := "TideLoans", name := "sheet", desc := "(III)I" } : Jvm.MethodName) ({ cls := "TideLoans", name := "sheet", desc := "(III)I" } : Jvm.MethodName)) ∈ tb := tbm 703 (by decide +kernel) rfl
theorem tw_704 : (Jvm.Cond.code ({ cls := "TideLoans", name := "sheet", desc := "(III)I" } : Jvm.MethodName) prog_1_method_30_code (4 : Nat) (Option.some Jvm.ClassFile.FieldType.int)) ∈ tb := tbm 704 (by decide +kernel) rfl
theorem tw_705 : (Jvm.Cond.methodLink "TideLoans" (248 : Nat) ({ cls := "TideLoans", name := "isWidth", desc := "(I)Z" } : Jvm.MethodName)) ∈ tb := tbm 705 (by decide +kernel) rfl
theorem tw_706 : (Jvm.Cond.static ({ cls := "TideLoans", name := "isWidth", desc := "(I)Z" } : Jvm.MethodName)) ∈ tb := tbm 706 (by decide +kernel) rfl
theorem tw_707 : (Jvm.Cond.code ({ cls := "TideLoans", name := "isWidth", desc := "(I)Z" } : Jvm.MethodName) prog_1_method_44_code (1 : Nat) (Option.some Jvm.ClassFile.FieldType.boolean)) ∈ tb := tbm 707 (by decide +kernel) rfl
theorem tw_708 : (Jvm.Cond.constant "TideLoans" (251 : Nat) (-1000000007 : Int32)) ∈ tb := tbm 708 (by decide +kernel) rfl
theorem tw_709 : (Jvm.Cond.methodLink "TideLoans" (252 : Nat) ({ cls := "TideLoans$Sheet", name := "renew", desc := "(II)V" } : Jvm.MethodName)) ∈ tb := tbm 709 (by decide +kernel) rfl
theorem tw_710 : (Jvm.Cond.instanceMethod ({ cls := "TideLoans$Sheet", name := "renew", desc := "(II)V" } : Jvm.MethodName)) ∈ tb := tbm 710 (by decide +kernel) rfl
theorem tw_711 : (Jvm.Cond.selects "TideLoans$Sheet" ({ cls := "TideLoans$Sheet", name := "renew", desc := "(II)V" } : Jvm.MethodName) ({ cls := "TideLoans$Sheet", name := "renew", desc := "(II)V" } : Jvm.MethodName)) ∈ tb := tbm 711 (by decide +kernel) rfl
theorem tw_712 : (Jvm.Cond.code ({ cls := "TideLoans$Sheet", name := "renew", desc := "(II)V" } : Jvm.MethodName) prog_2_method_3_code (4 : Nat) (Option.none : Option Jvm.ClassFile.FieldType)) ∈ tb := tbm 712 (by decide +kernel) rfl
theorem tw_713 : (Jvm.Cond.methodLink "TideLoansLaw" (136 : Nat) ({ cls := "TideLoans", name := "write", desc := "(IIJ)J" } : Jvm.MethodName)) ∈ tb := tbm 713 (by decide +kernel) rfl
theorem tw_714 : (Jvm.Cond.instanceMethod ({ cls := "TideLoans", name := "write", desc := "(IIJ)J" } : Jvm.MethodName)) ∈ tb := tbm 714 (by decide +kernel) rfl
theorem tw_715 : (Jvm.Cond.selects "TideLoans" ({ cls := "TideLoans", name := "write", desc := "(IIJ)J" } : Jvm.MethodName) ({ cls := "TideLoans", name := "write", desc := "(IIJ)J" } : Jvm.MethodName)) ∈ tb := tbm 715 (by decide +kernel) rfl
theorem tw_716 : (Jvm.Cond.code ({ cls := "TideLoans", name := "write", desc := "(IIJ)J" } : Jvm.MethodName) prog_1_method_31_code (8 : Nat) (Option.some Jvm.ClassFile.FieldType.long)) ∈ tb := tbm 716 (by decide +kernel) rfl
theorem tw_717 : (Jvm.Cond.methodLink "TideLoans" (256 : Nat) ({ cls := "TideLoans$Sheet", name := "isMissing", desc := "()Z" } : Jvm.MethodName)) ∈ tb := tbm 717 (by decide +kernel) rfl
theorem tw_718 : (Jvm.Cond.instanceMethod ({ cls := "TideLoans$Sheet", name := "isMissing", desc := "()Z" } : Jvm.MethodName)) ∈ tb := tbm 718 (by decide +kernel) rfl
theorem tw_719 : (Jvm.Cond.selects "TideLoans$Sheet" ({ cls := "TideLoans$Sheet", name := "isMissing", desc := "()Z" } : Jvm.MethodName) ({ cls := "TideLoans$Sheet", name := "isMissing", desc := "()Z" } : Jvm.MethodName)) ∈ tb := tbm 719 (by decide +kernel) rfl
theorem tw_720 : (Jvm.Cond.code ({ cls := "TideLoans$Sheet", name := "isMissing", desc := "()Z" } : Jvm.MethodName) prog_2_method_2_code (1 : Nat) (Option.some Jvm.ClassFile.FieldType.boolean)) ∈ tb := tbm 720 (by decide +kernel) rfl
theorem tw_721 : (Jvm.Cond.constant "TideLoans" (259 : Nat) (-1000000006 : Int32)) ∈ tb := tbm 721 (by decide +kernel) rfl
theorem tw_722 : (Jvm.Cond.methodLink "TideLoans" (264 : Nat) ({ cls := "TideLoans$Sheet", name := "put", desc := "(IJ)V" } : Jvm.MethodName)) ∈ tb := tbm 722 (by decide +kernel) rfl
theorem tw_723 : (Jvm.Cond.instanceMethod ({ cls := "TideLoans$Sheet", name := "put", desc := "(IJ)V" } : Jvm.MethodName)) ∈ tb := tbm 723 (by decide +kernel) rfl
theorem tw_724 : (Jvm.Cond.selects "TideLoans$Sheet" ({ cls := "TideLoans$Sheet", name := "put", desc := "(IJ)V" } : Jvm.MethodName) ({ cls := "TideLoans$Sheet", name := "put", desc := "(IJ)V" } : Jvm.MethodName)) ∈ tb := tbm 724 (by decide +kernel) rfl
theorem tw_725 : (Jvm.Cond.code ({ cls := "TideLoans$Sheet", name := "put", desc := "(IJ)V" } : Jvm.MethodName) prog_2_method_4_code (4 : Nat) (Option.none : Option Jvm.ClassFile.FieldType)) ∈ tb := tbm 725 (by decide +kernel) rfl
theorem tw_726 : (Jvm.Cond.methodLink "TideLoansLaw" (141 : Nat) ({ cls := "TideLoans", name := "copy", desc := "(IIIII)I" } : Jvm.MethodName)) ∈ tb := tbm 726 (by decide +kernel) rfl
theorem tw_727 : (Jvm.Cond.instanceMethod ({ cls := "TideLoans", name := "copy", desc := "(IIIII)I" } : Jvm.MethodName)) ∈ tb := tbm 727 (by decide +kernel) rfl
theorem tw_728 : (Jvm.Cond.selects "TideLoans" ({ cls := "TideLoans", name := "copy", desc := "(IIIII)I" } : Jvm.MethodName) ({ cls := "TideLoans", name := "copy", desc := "(IIIII)I" } : Jvm.MethodName)) ∈ tb := tbm 728 (by decide +kernel) rfl
theorem tw_729 : (Jvm.Cond.code ({ cls := "TideLoans", name := "copy", desc := "(IIIII)I" } : Jvm.MethodName) prog_1_method_32_code (8 : Nat) (Option.some Jvm.ClassFile.FieldType.int)) ∈ tb := tbm 729 (by decide +kernel) rfl
theorem tw_730 : (Jvm.Cond.methodLink "TideLoans" (270 : Nat) ({ cls := "TideLoans$Sheet", name := "hasRun", desc := "(II)Z" } : Jvm.MethodName)) ∈ tb := tbm 730 (by decide +kernel) rfl
theorem tw_731 : (Jvm.Cond.instanceMethod ({ cls := "TideLoans$Sheet", name := "hasRun", desc := "(II)Z" } : Jvm.MethodName)) ∈ tb := tbm 731 (by decide +kernel) rfl
theorem tw_732 : (Jvm.Cond.selects "TideLoans$Sheet" ({ cls := "TideLoans$Sheet", name := "hasRun", desc := "(II)Z" } : Jvm.MethodName) ({ cls := "TideLoans$Sheet", name := "hasRun", desc := "(II)Z" } : Jvm.MethodName)) ∈ tb := tbm 732 (by decide +kernel) rfl
theorem tw_733 : (Jvm.Cond.code ({ cls := "TideLoans$Sheet", name := "hasRun", desc := "(II)Z" } : Jvm.MethodName) prog_2_method_5_code (3 : Nat) (Option.some Jvm.ClassFile.FieldType.boolean)) ∈ tb := tbm 733 (by decide +kernel) rfl
theorem tw_734 : (Jvm.Cond.methodLink "TideLoans" (273 : Nat) ({ cls := "java/lang/System", name := "arraycopy", desc := "(Ljava/lang/Object;ILjava/lang/Object;II)V" } : Jvm.MethodName)) ∈ tb := tbm 734 (by decide +kernel) rfl
theorem tw_735 : (Jvm.Cond.methodLink "TideLoansLaw" (146 : Nat) ({ cls := "TideLoans", name := "lays", desc := "(I)I" } : Jvm.MethodName)) ∈ tb := tbm 735 (by decide +kernel) rfl
theorem tw_736 : (Jvm.Cond.instanceMethod ({ cls := "TideLoans", name := "lays", desc := "(I)I" } : Jvm.MethodName)) ∈ tb := tbm 736 (by decide +kernel) rfl
theorem tw_737 : (Jvm.Cond.selects "TideLoans" ({ cls := "TideLoans", name := "lays", desc := "(I)I" } : Jvm.MethodName) ({ cls := "TideLoans", name := "lays", desc := "(I)I" } : Jvm.MethodName)) ∈ tb := tbm 737 (by decide +kernel) rfl
theorem tw_738 : (Jvm.Cond.code ({ cls := "TideLoans", name := "lays", desc := "(I)I" } : Jvm.MethodName) prog_1_method_33_code (7 : Nat) (Option.some Jvm.ClassFile.FieldType.int)) ∈ tb := tbm 738 (by decide +kernel) rfl
theorem tw_739 : (Jvm.Cond.constantLong "TideLoans" (279 : Nat) (10 : Int64)) ∈ tb := tbm 739 (by decide +kernel) rfl
theorem tw_740 : (Jvm.Cond.methodLink "TideLoansLaw" (150 : Nat) ({ cls := "TideLoans", name := "book", desc := "(II)I" } : Jvm.MethodName)) ∈ tb := tbm 740 (by decide +kernel) rfl
theorem tw_741 : (Jvm.Cond.instanceMethod ({ cls := "TideLoans", name := "book", desc := "(II)I" } : Jvm.MethodName)) ∈ tb := tbm 741 (by decide +kernel) rfl
theorem tw_742 : (Jvm.Cond.selects "TideLoans" ({ cls := "TideLoans", name := "book", desc := "(II)I" } : Jvm.MethodName) ({ cls := "TideLoans", name := "book", desc := "(II)I" } : Jvm.MethodName)) ∈ tb := tbm 742 (by decide +kernel) rfl
theorem tw_743 : (Jvm.Cond.code ({ cls := "TideLoans", name := "book", desc := "(II)I" } : Jvm.MethodName) prog_1_method_34_code (5 : Nat) (Option.some Jvm.ClassFile.FieldType.int)) ∈ tb := tbm 743 (by decide +kernel) rfl
theorem tw_744 : (Jvm.Cond.methodLink "TideLoans" (281 : Nat) ({ cls := "TideLoans", name := "plotCourse", desc := "(III)V" } : Jvm.MethodName)) ∈ tb := tbm 744 (by decide +kernel) rfl
theorem tw_746 : (Jvm.Cond.instanceMethod ({ cls := "TideLoans", name := "plotCourse", desc := "(III)V" } : Jvm.MethodName)) ∈ tb := tbm 746 (by decide +kernel) rfl
theorem tw_747 : (Jvm.Cond.code ({ cls := "TideLoans", name := "plotCourse", desc := "(III)V" } : Jvm.MethodName) prog_1_method_69_code (5 : Nat) (Option.none : Option Jvm.ClassFile.FieldType)) ∈ tb := tbm 747 (by decide +kernel) rfl
theorem tw_748 : (Jvm.Cond.methodLink "TideLoans" (336 : Nat) ({ cls := "TideLoans", name := "addToCourse", desc := "(III)V" } : Jvm.MethodName)) ∈ tb := tbm 748 (by decide +kernel) rfl
theorem tw_750 : (Jvm.Cond.instanceMethod ({ cls := "TideLoans", name := "addToCourse", desc := "(III)V" } : Jvm.MethodName)) ∈ tb := tbm 750 (by decide +kernel) rfl
theorem tw_751 : (Jvm.Cond.code ({ cls := "TideLoans", name := "addToCourse", desc := "(III)V" } : Jvm.MethodName) prog_1_method_70_code (5 : Nat) (Option.none : Option Jvm.ClassFile.FieldType)) ∈ tb := tbm 751 (by decide +kernel) rfl
theorem tw_752 : (Jvm.Cond.methodLink "TideLoansLaw" (154 : Nat) ({ cls := "TideLoans", name := "read", desc := "(III)I" } : Jvm.MethodName)) ∈ tb := tbm 752 (by decide +kernel) rfl
theorem tw_753 : (Jvm.Cond.instanceMethod ({ cls := "TideLoans", name := "read", desc := "(III)I" } : Jvm.MethodName)) ∈ tb := tbm 753 (by decide +kernel) rfl
theorem tw_754 : (Jvm.Cond.selects "TideLoans" ({ cls := "TideLoans", name := "read", desc := "(III)I" } : Jvm.MethodName) ({ cls := "TideLoans", name := "read", desc := "(III)I" } : Jvm.MethodName)) ∈ tb := tbm 754 (by decide +kernel) rfl
theorem tw_755 : (Jvm.Cond.code ({ cls := "TideLoans", name := "read", desc := "(III)I" } : Jvm.MethodName) prog_1_method_35_code (7 : Nat) (Option.some Jvm.ClassFile.FieldType.int)) ∈ tb := tbm 755 (by decide +kernel) rfl
theorem tw_756 : (Jvm.Cond.methodLink "TideLoans" (288 : Nat) ({ cls := "TideLoans", name := "cellsThatFit", desc := "(LTideLoans$Sheet;II)I" } : Jvm.MethodName)) ∈ tb := tbm 756 (by decide +kernel) rfl
theorem tw_758 : (Jvm.Cond.instanceMethod ({ cls := "TideLoans", name := "cellsThatFit", desc := "(LTideLoans$Sheet;II)I" } : Jvm.MethodName)) ∈ tb := tbm 758 (by decide +kernel) rfl
theorem tw_759 : (Jvm.Cond.code ({ cls := "TideLoans", name := "cellsThatFit", desc := "(LTideLoans$Sheet;II)I" } : Jvm.MethodName) prog_1_method_71_code (7 : Nat) (Option.some Jvm.ClassFile.FieldType.int)) ∈ tb := tbm 759 (by decide +kernel) rfl
theorem tw_760 : (Jvm.Cond.methodLink "TideLoans" (339 : Nat) ({ cls := "TideLoans", name := "isCourseWith", desc := "(LTideLoans$Sheet;II)Z" } : Jvm.MethodName)) ∈ tb := tbm 760 (by decide +kernel) rfl
theorem tw_762 : (Jvm.Cond.instanceMethod ({ cls := "TideLoans", name := "isCourseWith", desc := "(LTideLoans$Sheet;II)Z" } : Jvm.MethodName)) ∈ tb := tbm 762 (by decide +kernel) rfl
theorem tw_763 : (Jvm.Cond.code ({ cls := "TideLoans", name := "isCourseWith", desc := "(LTideLoans$Sheet;II)Z" } : Jvm.MethodName) prog_1_method_72_code (6 : Nat) (Option.some Jvm.ClassFile.FieldType.boolean)) ∈ tb := tbm 763 (by decide +kernel) rfl
theorem tw_764 : (Jvm.Cond.methodLink "TideLoansLaw" (158 : Nat) ({ cls := "TideLoans", name := "image", desc := "()I" } : Jvm.MethodName)) ∈ tb := tbm 764 (by decide +kernel) rfl
theorem tw_765 : (Jvm.Cond.instanceMethod ({ cls := "TideLoans", name := "image", desc := "()I" } : Jvm.MethodName)) ∈ tb := tbm 765 (by decide +kernel) rfl
theorem tw_766 : (Jvm.Cond.selects "TideLoans" ({ cls := "TideLoans", name := "image", desc := "()I" } : Jvm.MethodName) ({ cls := "TideLoans", name := "image", desc := "()I" } : Jvm.MethodName)) ∈ tb := tbm 766 (by decide +kernel) rfl
theorem tw_767 : (Jvm.Cond.code ({ cls := "TideLoans", name := "image", desc := "()I" } : Jvm.MethodName) prog_1_method_36_code (1 : Nat) (Option.some Jvm.ClassFile.FieldType.int)) ∈ tb := tbm 767 (by decide +kernel) rfl
theorem tw_768 : (Jvm.Cond.methodLink "TideLoansLaw" (162 : Nat) ({ cls := "TideLoans", name := "undo", desc := "()I" } : Jvm.MethodName)) ∈ tb := tbm 768 (by decide +kernel) rfl
theorem tw_769 : (Jvm.Cond.instanceMethod ({ cls := "TideLoans", name := "undo", desc := "()I" } : Jvm.MethodName)) ∈ tb := tbm 769 (by decide +kernel) rfl
theorem tw_770 : (Jvm.Cond.selects "TideLoans" ({ cls := "TideLoans", name := "undo", desc := "()I" } : Jvm.MethodName) ({ cls := "TideLoans", name := "undo", desc := "()I" } : Jvm.MethodName)) ∈ tb := tbm 770 (by decide +kernel) rfl
theorem tw_771 : (Jvm.Cond.code ({ cls := "TideLoans", name := "undo", desc := "()I" } : Jvm.MethodName) prog_1_method_37_code (1 : Nat) (Option.some Jvm.ClassFile.FieldType.int)) ∈ tb := tbm 771 (by decide +kernel) rfl
theorem tw_772 : (Jvm.Cond.methodLink "TideLoansLaw" (166 : Nat) ({ cls := "TideLoans", name := "tear", desc := "()I" } : Jvm.MethodName)) ∈ tb := tbm 772 (by decide +kernel) rfl
theorem tw_773 : (Jvm.Cond.instanceMethod ({ cls := "TideLoans", name := "tear", desc := "()I" } : Jvm.MethodName)) ∈ tb := tbm 773 (by decide +kernel) rfl
theorem tw_774 : (Jvm.Cond.selects "TideLoans" ({ cls := "TideLoans", name := "tear", desc := "()I" } : Jvm.MethodName) ({ cls := "TideLoans", name := "tear", desc := "()I" } : Jvm.MethodName)) ∈ tb := tbm 774 (by decide +kernel) rfl
theorem tw_775 : (Jvm.Cond.code ({ cls := "TideLoans", name := "tear", desc := "()I" } : Jvm.MethodName) prog_1_method_38_code (2 : Nat) (Option.some Jvm.ClassFile.FieldType.int)) ∈ tb := tbm 775 (by decide +kernel) rfl
theorem tw_776 : (Jvm.Cond.methodLink "TideLoansLaw" (170 : Nat) ({ cls := "TideLoans", name := "count", desc := "(I)I" } : Jvm.MethodName)) ∈ tb := tbm 776 (by decide +kernel) rfl
theorem tw_777 : (Jvm.Cond.instanceMethod ({ cls := "TideLoans", name := "count", desc := "(I)I" } : Jvm.MethodName)) ∈ tb := tbm 777 (by decide +kernel) rfl
theorem tw_778 : (Jvm.Cond.selects "TideLoans" ({ cls := "TideLoans", name := "count", desc := "(I)I" } : Jvm.MethodName) ({ cls := "TideLoans", name := "count", desc := "(I)I" } : Jvm.MethodName)) ∈ tb := tbm 778 (by decide +kernel) rfl
theorem tw_779 : (Jvm.Cond.code ({ cls := "TideLoans", name := "count", desc := "(I)I" } : Jvm.MethodName) prog_1_method_39_code (2 : Nat) (Option.some Jvm.ClassFile.FieldType.int)) ∈ tb := tbm 779 (by decide +kernel) rfl
theorem tw_780 : (Jvm.Cond.methodLink "TideLoans" (296 : Nat) ({ cls := "TideLoans$Shore", name := "allHeights", desc := "()I" } : Jvm.MethodName)) ∈ tb := tbm 780 (by decide +kernel) rfl
theorem tw_781 : (Jvm.Cond.instanceMethod ({ cls := "TideLoans$Shore", name := "allHeights", desc := "()I" } : Jvm.MethodName)) ∈ tb := tbm 781 (by decide +kernel) rfl
theorem tw_782 : (Jvm.Cond.selects "TideLoans$Shore" ({ cls := "TideLoans$Shore", name := "allHeights", desc := "()I" } : Jvm.MethodName) ({ cls := "TideLoans$Shore", name := "allHeights", desc := "()I" } : Jvm.MethodName)) ∈ tb := tbm 782 (by decide +kernel) rfl
theorem tw_783 : (Jvm.Cond.code ({ cls := "TideLoans$Shore", name := "allHeights", desc := "()I" } : Jvm.MethodName) prog_3_method_9_code (3 : Nat) (Option.some Jvm.ClassFile.FieldType.int)) ∈ tb := tbm 783 (by decide +kernel) rfl
theorem tw_784 : (Jvm.Cond.methodLink "TideLoansLaw" (174 : Nat) ({ cls := "TideLoans", name := "status", desc := "(I)I" } : Jvm.MethodName)) ∈ tb := tbm 784 (by decide +kernel) rfl
theorem tw_785 : (Jvm.Cond.instanceMethod ({ cls := "TideLoans", name := "status", desc := "(I)I" } : Jvm.MethodName)) ∈ tb := tbm 785 (by decide +kernel) rfl
theorem tw_786 : (Jvm.Cond.selects "TideLoans" ({ cls := "TideLoans", name := "status", desc := "(I)I" } : Jvm.MethodName) ({ cls := "TideLoans", name := "status", desc := "(I)I" } : Jvm.MethodName)) ∈ tb := tbm 786 (by decide +kernel) rfl
theorem tw_787 : (Jvm.Cond.code ({ cls := "TideLoans", name := "status", desc := "(I)I" } : Jvm.MethodName) prog_1_method_40_code (4 : Nat) (Option.some Jvm.ClassFile.FieldType.int)) ∈ tb := tbm 787 (by decide +kernel) rfl
theorem tw_788 : (Jvm.Cond.classLink "TideLoansLaw" (10 : Nat) "TideLoansModel") ∈ tb := tbm 788 (by decide +kernel) rfl
theorem tw_789 : (Jvm.Cond.instantiable "TideLoansModel" (16 : Nat)) ∈ tb := tbm 789 (by decide +kernel) rfl
theorem tw_790 : (Jvm.Cond.methodLink "TideLoansLaw" (12 : Nat) ({ cls := "TideLoansModel", name := "<init>", desc := "()V" } : Jvm.MethodName)) ∈ tb := tbm 790 (by decide +kernel) rfl
theorem tw_791 : (Jvm.Cond.instanceMethod ({ cls := "TideLoansModel", name := "<init>", desc := "()V" } : Jvm.MethodName)) ∈ tb := tbm 791 (by decide +kernel) rfl
theorem tw_792 : (Jvm.Cond.code ({ cls := "TideLoansModel", name := "<init>", desc := "()V" } : Jvm.MethodName) prog_8_method_1_code (2 : Nat) (Option.none : Option Jvm.ClassFile.FieldType)) ∈ tb := tbm 792 (by decide +kernel) rfl
theorem tw_793 : (Jvm.Cond.methodLink "TideLoansModel" (1 : Nat) ({ cls := "java/lang/Object", name := "<init>", desc := "()V" } : Jvm.MethodName)) ∈ tb := tbm 793 (by decide +kernel) rfl
theorem tw_794 : (Jvm.Cond.fieldLink "TideLoansModel" (7 : Nat) "TideLoansModel" "s" "[I") ∈ tb := tbm 794 (by decide +kernel) rfl
theorem tw_795 : (Jvm.Cond.fieldLink "TideLoansModel" (13 : Nat) "TideLoansModel" "kept" "[I") ∈ tb := tbm 795 (by decide +kernel) rfl
theorem tw_796 : (Jvm.Cond.fieldLink "TideLoansModel" (16 : Nat) "TideLoansModel" "before" "[I") ∈ tb := tbm 796 (by decide +kernel) rfl
theorem tw_797 : (Jvm.Cond.fieldLink "TideLoansModel" (19 : Nat) "TideLoansModel" "aside" "[I") ∈ tb := tbm 797 (by decide +kernel) rfl
theorem tw_798 : (Jvm.Cond.fieldLink "TideLoansModel" (260 : Nat) "TideLoansModel" "isKept" "Z") ∈ tb := tbm 798 (by decide +kernel) rfl
theorem tw_799 : (Jvm.Cond.fieldLink "TideLoansModel" (22 : Nat) "TideLoansModel" "findings" "[I") ∈ tb := tbm 799 (by decide +kernel) rfl
theorem tw_800 : (Jvm.Cond.fieldLink "TideLoansModel" (25 : Nat) "TideLoansModel" "tape" "[I") ∈ tb := tbm 800 (by decide +kernel) rfl
theorem tw_801 : (Jvm.Cond.fieldLink "TideLoansModel" (173 : Nat) "TideLoansModel" "taped" "I") ∈ tb := tbm 801 (by decide +kernel) rfl
theorem tw_802 : (Jvm.Cond.fieldLink "TideLoansModel" (28 : Nat) "TideLoansModel" "bitsOf" "[I") ∈ tb := tbm 802 (by decide +kernel) rfl
theorem tw_803 : (Jvm.Cond.fieldLink "TideLoansModel" (31 : Nat) "TideLoansModel" "sizes" "[I") ∈ tb := tbm 803 (by decide +kernel) rfl
theorem tw_804 : (Jvm.Cond.fieldLink "TideLoansModel" (34 : Nat) "TideLoansModel" "numbers" "[J") ∈ tb := tbm 804 (by decide +kernel) rfl
theorem tw_805 : (Jvm.Cond.fieldLink "TideLoansModel" (192 : Nat) "TideLoansModel" "token" "I") ∈ tb := tbm 805 (by decide +kernel) rfl
theorem tw_806 : (Jvm.Cond.fieldLink "TideLoansModel" (180 : Nat) "TideLoansModel" "from" "I") ∈ tb := tbm 806 (by decide +kernel) rfl
theorem tw_807 : (Jvm.Cond.fieldLink "TideLoansModel" (177 : Nat) "TideLoansModel" "to" "I") ∈ tb := tbm 807 (by decide +kernel) rfl
theorem tw_808 : (Jvm.Cond.fieldLink "TideLoansModel" (195 : Nat) "TideLoansModel" "value" "I") ∈ tb := tbm 808 (by decide +kernel) rfl
theorem tw_809 : (Jvm.Cond.fieldLink "TideLoansModel" (198 : Nat) "TideLoansModel" "faultAt" "I") ∈ tb := tbm 809 (by decide +kernel) rfl
theorem tw_810 : (Jvm.Cond.laysFinal "TideLoansModel" "TideLoansModel" "s" "[I") ∈ tb := tbm 810 (by decide +kernel) rfl
theorem tw_812 : (Jvm.Cond.laysFinal "TideLoansModel" "TideLoansModel" "kept" "[I") ∈ tb := tbm 812 (by decide +kernel) rfl
theorem tw_814 : (Jvm.Cond.laysFinal "TideLoansModel" "TideLoansModel" "before" "[I") ∈ tb := tbm 814 (by decide +kernel) rfl
theorem tw_816 : (Jvm.Cond.laysFinal "TideLoansModel" "TideLoansModel" "aside" "[I") ∈ tb := tbm 816 (by decide +kernel) rfl
theorem tw_818 : (Jvm.Cond.lays "TideLoansModel" "TideLoansModel" "isKept" "Z") ∈ tb := tbm 818 (by decide +kernel) rfl
theorem tw_820 : (Jvm.Cond.laysFinal "TideLoansModel" "TideLoansModel" "findings" "[I") ∈ tb := tbm 820 (by decide +kernel) rfl
theorem tw_822 : (Jvm.Cond.laysFinal "TideLoansModel" "TideLoansModel" "tape" "[I") ∈ tb := tbm 822 (by decide +kernel) rfl
theorem tw_824 : (Jvm.Cond.lays "TideLoansModel" "TideLoansModel" "taped" "I") ∈ tb := tbm 824 (by decide +kernel) rfl
theorem tw_826 : (Jvm.Cond.laysFinal "TideLoansModel" "TideLoansModel" "bitsOf" "[I") ∈ tb := tbm 826 (by decide +kernel) rfl
theorem tw_828 : (Jvm.Cond.laysFinal "TideLoansModel" "TideLoansModel" "sizes" "[I") ∈ tb := tbm 828 (by decide +kernel) rfl
theorem tw_830 : (Jvm.Cond.laysFinal "TideLoansModel" "TideLoansModel" "numbers" "[J") ∈ tb := tbm 830 (by decide +kernel) rfl
theorem tw_832 : (Jvm.Cond.lays "TideLoansModel" "TideLoansModel" "token" "I") ∈ tb := tbm 832 (by decide +kernel) rfl
theorem tw_834 : (Jvm.Cond.lays "TideLoansModel" "TideLoansModel" "from" "I") ∈ tb := tbm 834 (by decide +kernel) rfl
theorem tw_836 : (Jvm.Cond.lays "TideLoansModel" "TideLoansModel" "to" "I") ∈ tb := tbm 836 (by decide +kernel) rfl
theorem tw_838 : (Jvm.Cond.lays "TideLoansModel" "TideLoansModel" "value" "I") ∈ tb := tbm 838 (by decide +kernel) rfl
theorem tw_840 : (Jvm.Cond.lays "TideLoansModel" "TideLoansModel" "faultAt" "I") ∈ tb := tbm 840 (by decide +kernel) rfl
theorem tw_843 : (Jvm.Cond.methodLink "TideLoansLaw" (17 : Nat) ({ cls := "TideLoansModel", name := "height", desc := "(II)I" } : Jvm.MethodName)) ∈ tb := tbm 843 (by decide +kernel) rfl
theorem tw_844 : (Jvm.Cond.instanceMethod ({ cls := "TideLoansModel", name := "height", desc := "(II)I" } : Jvm.MethodName)) ∈ tb := tbm 844 (by decide +kernel) rfl
theorem tw_845 : (Jvm.Cond.selects "TideLoansModel" ({ cls := "TideLoansModel", name := "height", desc := "(II)I" } : Jvm.MethodName) ({ cls := "TideLoansModel", name := "height", desc := "(II)I" } : Jvm.MethodName)) ∈ tb := tbm 845 (by decide +kernel) rfl
theorem tw_846 : (Jvm.Cond.code ({ cls := "TideLoansModel", name := "height", desc := "(II)I" } : Jvm.MethodName) prog_8_method_14_code (3 : Nat) (Option.some Jvm.ClassFile.FieldType.int)) ∈ tb := tbm 846 (by decide +kernel) rfl
theorem tw_847 : (Jvm.Cond.methodLink "TideLoansModel" (48 : Nat) ({ cls := "TideLoansModel", name := "isCell", desc := "(I)Z" } : Jvm.MethodName)) ∈ tb := tbm 847 (by decide +kernel) rfl
theorem tw_848 : (Jvm.Cond.static ({ cls := "TideLoansModel", name := "isCell", desc := "(I)Z" } : Jvm.MethodName)) ∈ tb := tbm 848 (by decide +kernel) rfl
theorem tw_849 : (Jvm.Cond.code ({ cls := "TideLoansModel", name := "isCell", desc := "(I)Z" } : Jvm.MethodName) prog_8_method_6_code (1 : Nat) (Option.some Jvm.ClassFile.FieldType.boolean)) ∈ tb := tbm 849 (by decide +kernel) rfl
theorem tw_850 : (Jvm.Cond.constantLong "TideLoansModel" (52 : Nat) (9 : Int64)) ∈ tb := tbm 850 (by decide +kernel) rfl
theorem tw_851 : (Jvm.Cond.methodLink "TideLoansModel" (54 : Nat) ({ cls := "TideLoansModel", name := "isIn", desc := "(JJJ)Z" } : Jvm.MethodName)) ∈ tb := tbm 851 (by decide +kernel) rfl
theorem tw_852 : (Jvm.Cond.static ({ cls := "TideLoansModel", name := "isIn", desc := "(JJJ)Z" } : Jvm.MethodName)) ∈ tb := tbm 852 (by decide +kernel) rfl
theorem tw_853 : (Jvm.Cond.code ({ cls := "TideLoansModel", name := "isIn", desc := "(JJJ)Z" } : Jvm.MethodName) prog_8_method_2_code (6 : Nat) (Option.some Jvm.ClassFile.FieldType.boolean)) ∈ tb := tbm 853 (by decide +kernel) rfl
theorem tw_854 : (Jvm.Cond.methodLink "TideLoansModel" (58 : Nat) ({ cls := "TideLoansModel", name := "becomes", desc := "(II)I" } : Jvm.MethodName)) ∈ tb := tbm 854 (by decide +kernel) rfl
theorem tw_856 : (Jvm.Cond.instanceMethod ({ cls := "TideLoansModel", name := "becomes", desc := "(II)I" } : Jvm.MethodName)) ∈ tb := tbm 856 (by decide +kernel) rfl
theorem tw_857 : (Jvm.Cond.code ({ cls := "TideLoansModel", name := "becomes", desc := "(II)I" } : Jvm.MethodName) prog_8_method_4_code (4 : Nat) (Option.some Jvm.ClassFile.FieldType.int)) ∈ tb := tbm 857 (by decide +kernel) rfl
theorem tw_858 : (Jvm.Cond.constant "TideLoansModel" (38 : Nat) (-1000000001 : Int32)) ∈ tb := tbm 858 (by decide +kernel) rfl
theorem tw_859 : (Jvm.Cond.methodLink "TideLoansModel" (44 : Nat) ({ cls := "TideLoansModel", name := "finds", desc := "(I)I" } : Jvm.MethodName)) ∈ tb := tbm 859 (by decide +kernel) rfl
theorem tw_861 : (Jvm.Cond.instanceMethod ({ cls := "TideLoansModel", name := "finds", desc := "(I)I" } : Jvm.MethodName)) ∈ tb := tbm 861 (by decide +kernel) rfl
theorem tw_862 : (Jvm.Cond.code ({ cls := "TideLoansModel", name := "finds", desc := "(I)I" } : Jvm.MethodName) prog_8_method_3_code (2 : Nat) (Option.some Jvm.ClassFile.FieldType.int)) ∈ tb := tbm 862 (by decide +kernel) rfl
theorem tw_863 : (Jvm.Cond.methodLink "TideLoansLaw" (21 : Nat) ({ cls := "TideLoansModel", name := "cell", desc := "(II)I" } : Jvm.MethodName)) ∈ tb := tbm 863 (by decide +kernel) rfl
theorem tw_864 : (Jvm.Cond.instanceMethod ({ cls := "TideLoansModel", name := "cell", desc := "(II)I" } : Jvm.MethodName)) ∈ tb := tbm 864 (by decide +kernel) rfl
theorem tw_865 : (Jvm.Cond.selects "TideLoansModel" ({ cls := "TideLoansModel", name := "cell", desc := "(II)I" } : Jvm.MethodName) ({ cls := "TideLoansModel", name := "cell", desc := "(II)I" } : Jvm.MethodName)) ∈ tb := tbm 865 (by decide +kernel) rfl
theorem tw_866 : (Jvm.Cond.code ({ cls := "TideLoansModel", name := "cell", desc := "(II)I" } : Jvm.MethodName) prog_8_method_16_code (3 : Nat) (Option.some Jvm.ClassFile.FieldType.int)) ∈ tb := tbm 866 (by decide +kernel) rfl
theorem tw_867 : (Jvm.Cond.methodLink "TideLoansModel" (65 : Nat) ({ cls := "TideLoansModel", name := "laidAt", desc := "(I)I" } : Jvm.MethodName)) ∈ tb := tbm 867 (by decide +kernel) rfl
theorem tw_869 : (Jvm.Cond.instanceMethod ({ cls := "TideLoansModel", name := "laidAt", desc := "(I)I" } : Jvm.MethodName)) ∈ tb := tbm 869 (by decide +kernel) rfl
theorem tw_870 : (Jvm.Cond.code ({ cls := "TideLoansModel", name := "laidAt", desc := "(I)I" } : Jvm.MethodName) prog_8_method_15_code (4 : Nat) (Option.some Jvm.ClassFile.FieldType.int)) ∈ tb := tbm 870 (by decide +kernel) rfl
theorem tw_871 : (Jvm.Cond.methodLink "TideLoansModel" (61 : Nat) ({ cls := "TideLoansModel", name := "isIt", desc := "(II)Z" } : Jvm.MethodName)) ∈ tb := tbm 871 (by decide +kernel) rfl
theorem tw_873 : (Jvm.Cond.instanceMethod ({ cls := "TideLoansModel", name := "isIt", desc := "(II)Z" } : Jvm.MethodName)) ∈ tb := tbm 873 (by decide +kernel) rfl
theorem tw_874 : (Jvm.Cond.code ({ cls := "TideLoansModel", name := "isIt", desc := "(II)Z" } : Jvm.MethodName) prog_8_method_11_code (3 : Nat) (Option.some Jvm.ClassFile.FieldType.boolean)) ∈ tb := tbm 874 (by decide +kernel) rfl
theorem tw_875 : (Jvm.Cond.methodLink "TideLoansModel" (39 : Nat) ({ cls := "TideLoansModel", name := "its", desc := "(II)I" } : Jvm.MethodName)) ∈ tb := tbm 875 (by decide +kernel) rfl
theorem tw_877 : (Jvm.Cond.instanceMethod ({ cls := "TideLoansModel", name := "its", desc := "(II)I" } : Jvm.MethodName)) ∈ tb := tbm 877 (by decide +kernel) rfl
theorem tw_878 : (Jvm.Cond.code ({ cls := "TideLoansModel", name := "its", desc := "(II)I" } : Jvm.MethodName) prog_8_method_10_code (3 : Nat) (Option.some Jvm.ClassFile.FieldType.int)) ∈ tb := tbm 878 (by decide +kernel) rfl
theorem tw_879 : (Jvm.Cond.methodLink "TideLoansLaw" (26 : Nat) ({ cls := "TideLoansModel", name := "interest", desc := "(I)I" } : Jvm.MethodName)) ∈ tb := tbm 879 (by decide +kernel) rfl
theorem tw_880 : (Jvm.Cond.instanceMethod ({ cls := "TideLoansModel", name := "interest", desc := "(I)I" } : Jvm.MethodName)) ∈ tb := tbm 880 (by decide +kernel) rfl
theorem tw_881 : (Jvm.Cond.selects "TideLoansModel" ({ cls := "TideLoansModel", name := "interest", desc := "(I)I" } : Jvm.MethodName) ({ cls := "TideLoansModel", name := "interest", desc := "(I)I" } : Jvm.MethodName)) ∈ tb := tbm 881 (by decide +kernel) rfl
theorem tw_882 : (Jvm.Cond.code ({ cls := "TideLoansModel", name := "interest", desc := "(I)I" } : Jvm.MethodName) prog_8_method_17_code (2 : Nat) (Option.some Jvm.ClassFile.FieldType.int)) ∈ tb := tbm 882 (by decide +kernel) rfl
theorem tw_883 : (Jvm.Cond.constantLong "TideLoansModel" (68 : Nat) (50 : Int64)) ∈ tb := tbm 883 (by decide +kernel) rfl
theorem tw_884 : (Jvm.Cond.methodLink "TideLoansLaw" (30 : Nat) ({ cls := "TideLoansModel", name := "tide", desc := "(II)I" } : Jvm.MethodName)) ∈ tb := tbm 884 (by decide +kernel) rfl
theorem tw_885 : (Jvm.Cond.instanceMethod ({ cls := "TideLoansModel", name := "tide", desc := "(II)I" } : Jvm.MethodName)) ∈ tb := tbm 885 (by decide +kernel) rfl
theorem tw_886 : (Jvm.Cond.selects "TideLoansModel" ({ cls := "TideLoansModel", name := "tide", desc := "(II)I" } : Jvm.MethodName) ({ cls := "TideLoansModel", name := "tide", desc := "(II)I" } : Jvm.MethodName)) ∈ tb := tbm 886 (by decide +kernel) rfl
theorem tw_887 : (Jvm.Cond.code ({ cls := "TideLoansModel", name := "tide", desc := "(II)I" } : Jvm.MethodName) prog_8_method_20_code (5 : Nat) (Option.some Jvm.ClassFile.FieldType.int)) ∈ tb := tbm 887 (by decide +kernel) rfl
theorem tw_888 : (Jvm.Cond.constantLong "TideLoansModel" (70 : Nat) (99999 : Int64)) ∈ tb := tbm 888 (by decide +kernel) rfl
theorem tw_889 : (Jvm.Cond.constantLong "TideLoansModel" (72 : Nat) (3 : Int64)) ∈ tb := tbm 889 (by decide +kernel) rfl
theorem tw_890 : (Jvm.Cond.methodLink "TideLoansModel" (74 : Nat) ({ cls := "TideLoansModel", name := "mark", desc := "(I)I" } : Jvm.MethodName)) ∈ tb := tbm 890 (by decide +kernel) rfl
theorem tw_891 : (Jvm.Cond.static ({ cls := "TideLoansModel", name := "mark", desc := "(I)I" } : Jvm.MethodName)) ∈ tb := tbm 891 (by decide +kernel) rfl
theorem tw_892 : (Jvm.Cond.code ({ cls := "TideLoansModel", name := "mark", desc := "(I)I" } : Jvm.MethodName) prog_8_method_19_code (2 : Nat) (Option.some Jvm.ClassFile.FieldType.int)) ∈ tb := tbm 892 (by decide +kernel) rfl
theorem tw_893 : (Jvm.Cond.methodLink "TideLoansModel" (77 : Nat) ({ cls := "TideLoansModel", name := "isSpring", desc := "(I)Z" } : Jvm.MethodName)) ∈ tb := tbm 893 (by decide +kernel) rfl
theorem tw_894 : (Jvm.Cond.static ({ cls := "TideLoansModel", name := "isSpring", desc := "(I)Z" } : Jvm.MethodName)) ∈ tb := tbm 894 (by decide +kernel) rfl
theorem tw_895 : (Jvm.Cond.code ({ cls := "TideLoansModel", name := "isSpring", desc := "(I)Z" } : Jvm.MethodName) prog_8_method_18_code (1 : Nat) (Option.some Jvm.ClassFile.FieldType.boolean)) ∈ tb := tbm 895 (by decide +kernel) rfl
theorem tw_896 : (Jvm.Cond.methodLink "TideLoansLaw" (34 : Nat) ({ cls := "TideLoansModel", name := "purse", desc := "(II)I" } : Jvm.MethodName)) ∈ tb := tbm 896 (by decide +kernel) rfl
theorem tw_897 : (Jvm.Cond.instanceMethod ({ cls := "TideLoansModel", name := "purse", desc := "(II)I" } : Jvm.MethodName)) ∈ tb := tbm 897 (by decide +kernel) rfl
theorem tw_898 : (Jvm.Cond.selects "TideLoansModel" ({ cls := "TideLoansModel", name := "purse", desc := "(II)I" } : Jvm.MethodName) ({ cls := "TideLoansModel", name := "purse", desc := "(II)I" } : Jvm.MethodName)) ∈ tb := tbm 898 (by decide +kernel) rfl
theorem tw_899 : (Jvm.Cond.code ({ cls := "TideLoansModel", name := "purse", desc := "(II)I" } : Jvm.MethodName) prog_8_method_21_code (3 : Nat) (Option.some Jvm.ClassFile.FieldType.int)) ∈ tb := tbm 899 (by decide +kernel) rfl
theorem tw_900 : (Jvm.Cond.methodLink "TideLoansModel" (80 : Nat) ({ cls := "TideLoansModel", name := "isFamily", desc := "(I)Z" } : Jvm.MethodName)) ∈ tb := tbm 900 (by decide +kernel) rfl
theorem tw_901 : (Jvm.Cond.static ({ cls := "TideLoansModel", name := "isFamily", desc := "(I)Z" } : Jvm.MethodName)) ∈ tb := tbm 901 (by decide +kernel) rfl
theorem tw_902 : (Jvm.Cond.code ({ cls := "TideLoansModel", name := "isFamily", desc := "(I)Z" } : Jvm.MethodName) prog_8_method_7_code (1 : Nat) (Option.some Jvm.ClassFile.FieldType.boolean)) ∈ tb := tbm 902 (by decide +kernel) rfl
theorem tw_903 : (Jvm.Cond.constantLong "TideLoansModel" (83 : Nat) (999999999 : Int64)) ∈ tb := tbm 903 (by decide +kernel) rfl
theorem tw_904 : (Jvm.Cond.methodLink "TideLoansLaw" (38 : Nat) ({ cls := "TideLoansModel", name := "thing", desc := "(II)I" } : Jvm.MethodName)) ∈ tb := tbm 904 (by decide +kernel) rfl
theorem tw_905 : (Jvm.Cond.instanceMethod ({ cls := "TideLoansModel", name := "thing", desc := "(II)I" } : Jvm.MethodName)) ∈ tb := tbm 905 (by decide +kernel) rfl
theorem tw_906 : (Jvm.Cond.selects "TideLoansModel" ({ cls := "TideLoansModel", name := "thing", desc := "(II)I" } : Jvm.MethodName) ({ cls := "TideLoansModel", name := "thing", desc := "(II)I" } : Jvm.MethodName)) ∈ tb := tbm 906 (by decide +kernel) rfl
theorem tw_907 : (Jvm.Cond.code ({ cls := "TideLoansModel", name := "thing", desc := "(II)I" } : Jvm.MethodName) prog_8_method_23_code (3 : Nat) (Option.some Jvm.ClassFile.FieldType.int)) ∈ tb := tbm 907 (by decide +kernel) rfl
theorem tw_908 : (Jvm.Cond.constantLong "TideLoansModel" (88 : Nat) (5 : Int64)) ∈ tb := tbm 908 (by decide +kernel) rfl
theorem tw_909 : (Jvm.Cond.constant "TideLoansModel" (90 : Nat) (-1000000002 : Int32)) ∈ tb := tbm 909 (by decide +kernel) rfl
theorem tw_910 : (Jvm.Cond.methodLink "TideLoansModel" (91 : Nat) ({ cls := "TideLoansModel", name := "comes", desc := "(II)V" } : Jvm.MethodName)) ∈ tb := tbm 910 (by decide +kernel) rfl
theorem tw_912 : (Jvm.Cond.instanceMethod ({ cls := "TideLoansModel", name := "comes", desc := "(II)V" } : Jvm.MethodName)) ∈ tb := tbm 912 (by decide +kernel) rfl
theorem tw_913 : (Jvm.Cond.code ({ cls := "TideLoansModel", name := "comes", desc := "(II)V" } : Jvm.MethodName) prog_8_method_22_code (4 : Nat) (Option.none : Option Jvm.ClassFile.FieldType)) ∈ tb := tbm 913 (by decide +kernel) rfl
theorem tw_914 : (Jvm.Cond.methodLink "TideLoansModel" (85 : Nat) ({ cls := "TideLoansModel", name := "at", desc := "(II)I" } : Jvm.MethodName)) ∈ tb := tbm 914 (by decide +kernel) rfl
theorem tw_915 : (Jvm.Cond.static ({ cls := "TideLoansModel", name := "at", desc := "(II)I" } : Jvm.MethodName)) ∈ tb := tbm 915 (by decide +kernel) rfl
theorem tw_916 : (Jvm.Cond.code ({ cls := "TideLoansModel", name := "at", desc := "(II)I" } : Jvm.MethodName) prog_8_method_9_code (2 : Nat) (Option.some Jvm.ClassFile.FieldType.int)) ∈ tb := tbm 916 (by decide +kernel) rfl
theorem tw_917 : (Jvm.Cond.methodLink "TideLoansLaw" (42 : Nat) ({ cls := "TideLoansModel", name := "of", desc := "(II)I" } : Jvm.MethodName)) ∈ tb := tbm 917 (by decide +kernel) rfl
theorem tw_918 : (Jvm.Cond.instanceMethod ({ cls := "TideLoansModel", name := "of", desc := "(II)I" } : Jvm.MethodName)) ∈ tb := tbm 918 (by decide +kernel) rfl
theorem tw_919 : (Jvm.Cond.selects "TideLoansModel" ({ cls := "TideLoansModel", name := "of", desc := "(II)I" } : Jvm.MethodName) ({ cls := "TideLoansModel", name := "of", desc := "(II)I" } : Jvm.MethodName)) ∈ tb := tbm 919 (by decide +kernel) rfl
theorem tw_920 : (Jvm.Cond.code ({ cls := "TideLoansModel", name := "of", desc := "(II)I" } : Jvm.MethodName) prog_8_method_27_code (3 : Nat) (Option.some Jvm.ClassFile.FieldType.int)) ∈ tb := tbm 920 (by decide +kernel) rfl
theorem tw_921 : (Jvm.Cond.methodLink "TideLoansModel" (104 : Nat) ({ cls := "TideLoansModel", name := "isThing", desc := "(I)Z" } : Jvm.MethodName)) ∈ tb := tbm 921 (by decide +kernel) rfl
theorem tw_923 : (Jvm.Cond.instanceMethod ({ cls := "TideLoansModel", name := "isThing", desc := "(I)Z" } : Jvm.MethodName)) ∈ tb := tbm 923 (by decide +kernel) rfl
theorem tw_924 : (Jvm.Cond.code ({ cls := "TideLoansModel", name := "isThing", desc := "(I)Z" } : Jvm.MethodName) prog_8_method_8_code (2 : Nat) (Option.some Jvm.ClassFile.FieldType.boolean)) ∈ tb := tbm 924 (by decide +kernel) rfl
theorem tw_925 : (Jvm.Cond.constantLong "TideLoansModel" (107 : Nat) (7 : Int64)) ∈ tb := tbm 925 (by decide +kernel) rfl
theorem tw_926 : (Jvm.Cond.methodLink "TideLoansModel" (109 : Nat) ({ cls := "TideLoansModel", name := "term", desc := "(I)I" } : Jvm.MethodName)) ∈ tb := tbm 926 (by decide +kernel) rfl
theorem tw_927 : (Jvm.Cond.static ({ cls := "TideLoansModel", name := "term", desc := "(I)I" } : Jvm.MethodName)) ∈ tb := tbm 927 (by decide +kernel) rfl
theorem tw_928 : (Jvm.Cond.code ({ cls := "TideLoansModel", name := "term", desc := "(I)I" } : Jvm.MethodName) prog_8_method_24_code (1 : Nat) (Option.some Jvm.ClassFile.FieldType.int)) ∈ tb := tbm 928 (by decide +kernel) rfl
theorem tw_929 : (Jvm.Cond.methodLink "TideLoansModel" (112 : Nat) ({ cls := "TideLoansModel", name := "wouldRepay", desc := "(I)I" } : Jvm.MethodName)) ∈ tb := tbm 929 (by decide +kernel) rfl
theorem tw_931 : (Jvm.Cond.instanceMethod ({ cls := "TideLoansModel", name := "wouldRepay", desc := "(I)I" } : Jvm.MethodName)) ∈ tb := tbm 931 (by decide +kernel) rfl
theorem tw_932 : (Jvm.Cond.code ({ cls := "TideLoansModel", name := "wouldRepay", desc := "(I)I" } : Jvm.MethodName) prog_8_method_26_code (2 : Nat) (Option.some Jvm.ClassFile.FieldType.int)) ∈ tb := tbm 932 (by decide +kernel) rfl
theorem tw_933 : (Jvm.Cond.methodLink "TideLoansModel" (101 : Nat) ({ cls := "TideLoansModel", name := "repays", desc := "(II)I" } : Jvm.MethodName)) ∈ tb := tbm 933 (by decide +kernel) rfl
theorem tw_935 : (Jvm.Cond.instanceMethod ({ cls := "TideLoansModel", name := "repays", desc := "(II)I" } : Jvm.MethodName)) ∈ tb := tbm 935 (by decide +kernel) rfl
theorem tw_936 : (Jvm.Cond.code ({ cls := "TideLoansModel", name := "repays", desc := "(II)I" } : Jvm.MethodName) prog_8_method_25_code (9 : Nat) (Option.some Jvm.ClassFile.FieldType.int)) ∈ tb := tbm 936 (by decide +kernel) rfl
theorem tw_937 : (Jvm.Cond.constantLong "TideLoansModel" (95 : Nat) (100 : Int64)) ∈ tb := tbm 937 (by decide +kernel) rfl
theorem tw_938 : (Jvm.Cond.constantLong "TideLoansModel" (97 : Nat) (2 : Int64)) ∈ tb := tbm 938 (by decide +kernel) rfl
theorem tw_939 : (Jvm.Cond.constantLong "TideLoansModel" (99 : Nat) (99999999 : Int64)) ∈ tb := tbm 939 (by decide +kernel) rfl
theorem tw_940 : (Jvm.Cond.methodLink "TideLoansLaw" (47 : Nat) ({ cls := "TideLoansModel", name := "set", desc := "(III)I" } : Jvm.MethodName)) ∈ tb := tbm 940 (by decide +kernel) rfl
theorem tw_941 : (Jvm.Cond.instanceMethod ({ cls := "TideLoansModel", name := "set", desc := "(III)I" } : Jvm.MethodName)) ∈ tb := tbm 941 (by decide +kernel) rfl
theorem tw_942 : (Jvm.Cond.selects "TideLoansModel" ({ cls := "TideLoansModel", name := "set", desc := "(III)I" } : Jvm.MethodName) ({ cls := "TideLoansModel", name := "set", desc := "(III)I" } : Jvm.MethodName)) ∈ tb := tbm 942 (by decide +kernel) rfl
theorem tw_943 : (Jvm.Cond.code ({ cls := "TideLoansModel", name := "set", desc := "(III)I" } : Jvm.MethodName) prog_8_method_28_code (5 : Nat) (Option.some Jvm.ClassFile.FieldType.int)) ∈ tb := tbm 943 (by decide +kernel) rfl
theorem tw_944 : (Jvm.Cond.constantLong "TideLoansModel" (115 : Nat) (9999 : Int64)) ∈ tb := tbm 944 (by decide +kernel) rfl
theorem tw_945 : (Jvm.Cond.methodLink "TideLoansLaw" (51 : Nat) ({ cls := "TideLoansModel", name := "turn", desc := "(II)I" } : Jvm.MethodName)) ∈ tb := tbm 945 (by decide +kernel) rfl
theorem tw_946 : (Jvm.Cond.instanceMethod ({ cls := "TideLoansModel", name := "turn", desc := "(II)I" } : Jvm.MethodName)) ∈ tb := tbm 946 (by decide +kernel) rfl
theorem tw_947 : (Jvm.Cond.selects "TideLoansModel" ({ cls := "TideLoansModel", name := "turn", desc := "(II)I" } : Jvm.MethodName) ({ cls := "TideLoansModel", name := "turn", desc := "(II)I" } : Jvm.MethodName)) ∈ tb := tbm 947 (by decide +kernel) rfl
theorem tw_948 : (Jvm.Cond.code ({ cls := "TideLoansModel", name := "turn", desc := "(II)I" } : Jvm.MethodName) prog_8_method_29_code (3 : Nat) (Option.some Jvm.ClassFile.FieldType.int)) ∈ tb := tbm 948 (by decide +kernel) rfl
theorem tw_949 : (Jvm.Cond.methodLink "TideLoansLaw" (55 : Nat) ({ cls := "TideLoansModel", name := "as", desc := "(II)I" } : Jvm.MethodName)) ∈ tb := tbm 949 (by decide +kernel) rfl
theorem tw_950 : (Jvm.Cond.instanceMethod ({ cls := "TideLoansModel", name := "as", desc := "(II)I" } : Jvm.MethodName)) ∈ tb := tbm 950 (by decide +kernel) rfl
theorem tw_951 : (Jvm.Cond.selects "TideLoansModel" ({ cls := "TideLoansModel", name := "as", desc := "(II)I" } : Jvm.MethodName) ({ cls := "TideLoansModel", name := "as", desc := "(II)I" } : Jvm.MethodName)) ∈ tb := tbm 951 (by decide +kernel) rfl
theorem tw_952 : (Jvm.Cond.code ({ cls := "TideLoansModel", name := "as", desc := "(II)I" } : Jvm.MethodName) prog_8_method_30_code (5 : Nat) (Option.some Jvm.ClassFile.FieldType.int)) ∈ tb := tbm 952 (by decide +kernel) rfl
theorem tw_953 : (Jvm.Cond.constant "TideLoansModel" (117 : Nat) (-1000000003 : Int32)) ∈ tb := tbm 953 (by decide +kernel) rfl
theorem tw_954 : (Jvm.Cond.methodLink "TideLoansLaw" (59 : Nat) ({ cls := "TideLoansModel", name := "lay", desc := "(II)I" } : Jvm.MethodName)) ∈ tb := tbm 954 (by decide +kernel) rfl
theorem tw_955 : (Jvm.Cond.instanceMethod ({ cls := "TideLoansModel", name := "lay", desc := "(II)I" } : Jvm.MethodName)) ∈ tb := tbm 955 (by decide +kernel) rfl
theorem tw_956 : (Jvm.Cond.selects "TideLoansModel" ({ cls := "TideLoansModel", name := "lay", desc := "(II)I" } : Jvm.MethodName) ({ cls := "TideLoansModel", name := "lay", desc := "(II)I" } : Jvm.MethodName)) ∈ tb := tbm 956 (by decide +kernel) rfl
theorem tw_957 : (Jvm.Cond.code ({ cls := "TideLoansModel", name := "lay", desc := "(II)I" } : Jvm.MethodName) prog_8_method_32_code (3 : Nat) (Option.some Jvm.ClassFile.FieldType.int)) ∈ tb := tbm 957 (by decide +kernel) rfl
theorem tw_958 : (Jvm.Cond.constant "TideLoansModel" (118 : Nat) (-1000000005 : Int32)) ∈ tb := tbm 958 (by decide +kernel) rfl
theorem tw_959 : (Jvm.Cond.methodLink "TideLoansModel" (119 : Nat) ({ cls := "TideLoansModel", name := "lies", desc := "(II)V" } : Jvm.MethodName)) ∈ tb := tbm 959 (by decide +kernel) rfl
theorem tw_961 : (Jvm.Cond.instanceMethod ({ cls := "TideLoansModel", name := "lies", desc := "(II)V" } : Jvm.MethodName)) ∈ tb := tbm 961 (by decide +kernel) rfl
theorem tw_962 : (Jvm.Cond.code ({ cls := "TideLoansModel", name := "lies", desc := "(II)V" } : Jvm.MethodName) prog_8_method_31_code (3 : Nat) (Option.none : Option Jvm.ClassFile.FieldType)) ∈ tb := tbm 962 (by decide +kernel) rfl
theorem tw_963 : (Jvm.Cond.methodLink "TideLoansModel" (122 : Nat) ({ cls := "TideLoansModel", name := "many", desc := "(I)I" } : Jvm.MethodName)) ∈ tb := tbm 963 (by decide +kernel) rfl
theorem tw_964 : (Jvm.Cond.static ({ cls := "TideLoansModel", name := "many", desc := "(I)I" } : Jvm.MethodName)) ∈ tb := tbm 964 (by decide +kernel) rfl
theorem tw_965 : (Jvm.Cond.code ({ cls := "TideLoansModel", name := "many", desc := "(I)I" } : Jvm.MethodName) prog_8_method_13_code (3 : Nat) (Option.some Jvm.ClassFile.FieldType.int)) ∈ tb := tbm 965 (by decide +kernel) rfl
theorem tw_966 : (Jvm.Cond.methodLink "TideLoansLaw" (63 : Nat) ({ cls := "TideLoansModel", name := "fetch", desc := "(I)I" } : Jvm.MethodName)) ∈ tb := tbm 966 (by decide +kernel) rfl
theorem tw_967 : (Jvm.Cond.instanceMethod ({ cls := "TideLoansModel", name := "fetch", desc := "(I)I" } : Jvm.MethodName)) ∈ tb := tbm 967 (by decide +kernel) rfl
theorem tw_968 : (Jvm.Cond.selects "TideLoansModel" ({ cls := "TideLoansModel", name := "fetch", desc := "(I)I" } : Jvm.MethodName) ({ cls := "TideLoansModel", name := "fetch", desc := "(I)I" } : Jvm.MethodName)) ∈ tb := tbm 968 (by decide +kernel) rfl
theorem tw_969 : (Jvm.Cond.code ({ cls := "TideLoansModel", name := "fetch", desc := "(I)I" } : Jvm.MethodName) prog_8_method_33_code (2 : Nat) (Option.some Jvm.ClassFile.FieldType.int)) ∈ tb := tbm 969 (by decide +kernel) rfl
theorem tw_970 : (Jvm.Cond.methodLink "TideLoansLaw" (68 : Nat) ({ cls := "TideLoansModel", name := "days", desc := "(I)J" } : Jvm.MethodName)) ∈ tb := tbm 970 (by decide +kernel) rfl
theorem tw_971 : (Jvm.Cond.instanceMethod ({ cls := "TideLoansModel", name := "days", desc := "(I)J" } : Jvm.MethodName)) ∈ tb := tbm 971 (by decide +kernel) rfl
theorem tw_972 : (Jvm.Cond.selects "TideLoansModel" ({ cls := "TideLoansModel", name := "days", desc := "(I)J" } : Jvm.MethodName) ({ cls := "TideLoansModel", name := "days", desc := "(I)J" } : Jvm.MethodName)) ∈ tb := tbm 972 (by decide +kernel) rfl
theorem tw_973 : (Jvm.Cond.code ({ cls := "TideLoansModel", name := "days", desc := "(I)J" } : Jvm.MethodName) prog_8_method_39_code (2 : Nat) (Option.some Jvm.ClassFile.FieldType.long)) ∈ tb := tbm 973 (by decide +kernel) rfl
theorem tw_974 : (Jvm.Cond.constantLong "TideLoansModel" (134 : Nat) (400 : Int64)) ∈ tb := tbm 974 (by decide +kernel) rfl
theorem tw_975 : (Jvm.Cond.constant "TideLoansModel" (136 : Nat) (99999 : Int32)) ∈ tb := tbm 975 (by decide +kernel) rfl
theorem tw_976 : (Jvm.Cond.methodLink "TideLoansModel" (137 : Nat) ({ cls := "TideLoansModel", name := "goes", desc := "(I)V" } : Jvm.MethodName)) ∈ tb := tbm 976 (by decide +kernel) rfl
theorem tw_978 : (Jvm.Cond.instanceMethod ({ cls := "TideLoansModel", name := "goes", desc := "(I)V" } : Jvm.MethodName)) ∈ tb := tbm 978 (by decide +kernel) rfl
theorem tw_979 : (Jvm.Cond.code ({ cls := "TideLoansModel", name := "goes", desc := "(I)V" } : Jvm.MethodName) prog_8_method_37_code (3 : Nat) (Option.none : Option Jvm.ClassFile.FieldType)) ∈ tb := tbm 979 (by decide +kernel) rfl
theorem tw_980 : (Jvm.Cond.methodLink "TideLoansModel" (131 : Nat) ({ cls := "TideLoansModel", name := "day", desc := "()V" } : Jvm.MethodName)) ∈ tb := tbm 980 (by decide +kernel) rfl
theorem tw_982 : (Jvm.Cond.instanceMethod ({ cls := "TideLoansModel", name := "day", desc := "()V" } : Jvm.MethodName)) ∈ tb := tbm 982 (by decide +kernel) rfl
theorem tw_983 : (Jvm.Cond.code ({ cls := "TideLoansModel", name := "day", desc := "()V" } : Jvm.MethodName) prog_8_method_36_code (3 : Nat) (Option.none : Option Jvm.ClassFile.FieldType)) ∈ tb := tbm 983 (by decide +kernel) rfl
theorem tw_984 : (Jvm.Cond.methodLink "TideLoansModel" (125 : Nat) ({ cls := "TideLoansModel", name := "comesHome", desc := "(II)V" } : Jvm.MethodName)) ∈ tb := tbm 984 (by decide +kernel) rfl
theorem tw_986 : (Jvm.Cond.instanceMethod ({ cls := "TideLoansModel", name := "comesHome", desc := "(II)V" } : Jvm.MethodName)) ∈ tb := tbm 986 (by decide +kernel) rfl
theorem tw_987 : (Jvm.Cond.code ({ cls := "TideLoansModel", name := "comesHome", desc := "(II)V" } : Jvm.MethodName) prog_8_method_35_code (5 : Nat) (Option.none : Option Jvm.ClassFile.FieldType)) ∈ tb := tbm 987 (by decide +kernel) rfl
theorem tw_988 : (Jvm.Cond.methodLink "TideLoansModel" (128 : Nat) ({ cls := "TideLoansModel", name := "isTaken", desc := "(I)Z" } : Jvm.MethodName)) ∈ tb := tbm 988 (by decide +kernel) rfl
theorem tw_990 : (Jvm.Cond.instanceMethod ({ cls := "TideLoansModel", name := "isTaken", desc := "(I)Z" } : Jvm.MethodName)) ∈ tb := tbm 990 (by decide +kernel) rfl
theorem tw_991 : (Jvm.Cond.code ({ cls := "TideLoansModel", name := "isTaken", desc := "(I)Z" } : Jvm.MethodName) prog_8_method_34_code (5 : Nat) (Option.some Jvm.ClassFile.FieldType.boolean)) ∈ tb := tbm 991 (by decide +kernel) rfl
theorem tw_992 : (Jvm.Cond.methodLink "TideLoansModel" (141 : Nat) ({ cls := "TideLoansModel", name := "purses", desc := "()J" } : Jvm.MethodName)) ∈ tb := tbm 992 (by decide +kernel) rfl
theorem tw_994 : (Jvm.Cond.instanceMethod ({ cls := "TideLoansModel", name := "purses", desc := "()J" } : Jvm.MethodName)) ∈ tb := tbm 994 (by decide +kernel) rfl
theorem tw_995 : (Jvm.Cond.code ({ cls := "TideLoansModel", name := "purses", desc := "()J" } : Jvm.MethodName) prog_8_method_38_code (1 : Nat) (Option.some Jvm.ClassFile.FieldType.long)) ∈ tb := tbm 995 (by decide +kernel) rfl
theorem tw_996 : (Jvm.Cond.methodLink "TideLoansLaw" (72 : Nat) ({ cls := "TideLoansModel", name := "now", desc := "(I)I" } : Jvm.MethodName)) ∈ tb := tbm 996 (by decide +kernel) rfl
theorem tw_997 : (Jvm.Cond.instanceMethod ({ cls := "TideLoansModel", name := "now", desc := "(I)I" } : Jvm.MethodName)) ∈ tb := tbm 997 (by decide +kernel) rfl
theorem tw_998 : (Jvm.Cond.selects "TideLoansModel" ({ cls := "TideLoansModel", name := "now", desc := "(I)I" } : Jvm.MethodName) ({ cls := "TideLoansModel", name := "now", desc := "(I)I" } : Jvm.MethodName)) ∈ tb := tbm 998 (by decide +kernel) rfl
theorem tw_999 : (Jvm.Cond.code ({ cls := "TideLoansModel", name := "now", desc := "(I)I" } : Jvm.MethodName) prog_8_method_41_code (4 : Nat) (Option.some Jvm.ClassFile.FieldType.int)) ∈ tb := tbm 999 (by decide +kernel) rfl
theorem tw_1000 : (Jvm.Cond.methodLink "TideLoansModel" (145 : Nat) ({ cls := "TideLoansModel", name := "thoseThatAre", desc := "(I)I" } : Jvm.MethodName)) ∈ tb := tbm 1000 (by decide +kernel) rfl
theorem tw_1002 : (Jvm.Cond.instanceMethod ({ cls := "TideLoansModel", name := "thoseThatAre", desc := "(I)I" } : Jvm.MethodName)) ∈ tb := tbm 1002 (by decide +kernel) rfl
theorem tw_1003 : (Jvm.Cond.code ({ cls := "TideLoansModel", name := "thoseThatAre", desc := "(I)I" } : Jvm.MethodName) prog_8_method_40_code (4 : Nat) (Option.some Jvm.ClassFile.FieldType.int)) ∈ tb := tbm 1003 (by decide +kernel) rfl
theorem tw_1004 : (Jvm.Cond.methodLink "TideLoansLaw" (76 : Nat) ({ cls := "TideLoansModel", name := "on", desc := "(II)I" } : Jvm.MethodName)) ∈ tb := tbm 1004 (by decide +kernel) rfl
theorem tw_1005 : (Jvm.Cond.instanceMethod ({ cls := "TideLoansModel", name := "on", desc := "(II)I" } : Jvm.MethodName)) ∈ tb := tbm 1005 (by decide +kernel) rfl
theorem tw_1006 : (Jvm.Cond.selects "TideLoansModel" ({ cls := "TideLoansModel", name := "on", desc := "(II)I" } : Jvm.MethodName) ({ cls := "TideLoansModel", name := "on", desc := "(II)I" } : Jvm.MethodName)) ∈ tb := tbm 1006 (by decide +kernel) rfl
theorem tw_1007 : (Jvm.Cond.code ({ cls := "TideLoansModel", name := "on", desc := "(II)I" } : Jvm.MethodName) prog_8_method_43_code (3 : Nat) (Option.some Jvm.ClassFile.FieldType.int)) ∈ tb := tbm 1007 (by decide +kernel) rfl
theorem tw_1008 : (Jvm.Cond.methodLink "TideLoansModel" (152 : Nat) ({ cls := "TideLoansModel", name := "purseOn", desc := "(II)I" } : Jvm.MethodName)) ∈ tb := tbm 1008 (by decide +kernel) rfl
theorem tw_1010 : (Jvm.Cond.instanceMethod ({ cls := "TideLoansModel", name := "purseOn", desc := "(II)I" } : Jvm.MethodName)) ∈ tb := tbm 1010 (by decide +kernel) rfl
theorem tw_1011 : (Jvm.Cond.code ({ cls := "TideLoansModel", name := "purseOn", desc := "(II)I" } : Jvm.MethodName) prog_8_method_42_code (4 : Nat) (Option.some Jvm.ClassFile.FieldType.int)) ∈ tb := tbm 1011 (by decide +kernel) rfl
theorem tw_1012 : (Jvm.Cond.methodLink "TideLoansModel" (148 : Nat) ({ cls := "TideLoansModel", name := "copyRow", desc := "([I[I)V" } : Jvm.MethodName)) ∈ tb := tbm 1012 (by decide +kernel) rfl
theorem tw_1013 : (Jvm.Cond.static ({ cls := "TideLoansModel", name := "copyRow", desc := "([I[I)V" } : Jvm.MethodName)) ∈ tb := tbm 1013 (by decide +kernel) rfl
theorem tw_1014 : (Jvm.Cond.code ({ cls := "TideLoansModel", name := "copyRow", desc := "([I[I)V" } : Jvm.MethodName) prog_8_method_5_code (3 : Nat) (Option.none : Option Jvm.ClassFile.FieldType)) ∈ tb := tbm 1014 (by decide +kernel) rfl
theorem tw_1015 : (Jvm.Cond.methodLink "TideLoansLaw" (80 : Nat) ({ cls := "TideLoansModel", name := "taken", desc := "(I)I" } : Jvm.MethodName)) ∈ tb := tbm 1015 (by decide +kernel) rfl
theorem tw_1016 : (Jvm.Cond.instanceMethod ({ cls := "TideLoansModel", name := "taken", desc := "(I)I" } : Jvm.MethodName)) ∈ tb := tbm 1016 (by decide +kernel) rfl
theorem tw_1017 : (Jvm.Cond.selects "TideLoansModel" ({ cls := "TideLoansModel", name := "taken", desc := "(I)I" } : Jvm.MethodName) ({ cls := "TideLoansModel", name := "taken", desc := "(I)I" } : Jvm.MethodName)) ∈ tb := tbm 1017 (by decide +kernel) rfl
theorem tw_1018 : (Jvm.Cond.code ({ cls := "TideLoansModel", name := "taken", desc := "(I)I" } : Jvm.MethodName) prog_8_method_45_code (2 : Nat) (Option.some Jvm.ClassFile.FieldType.int)) ∈ tb := tbm 1018 (by decide +kernel) rfl
theorem tw_1019 : (Jvm.Cond.methodLink "TideLoansModel" (155 : Nat) ({ cls := "TideLoansModel", name := "whenIt", desc := "(II)I" } : Jvm.MethodName)) ∈ tb := tbm 1019 (by decide +kernel) rfl
theorem tw_1021 : (Jvm.Cond.instanceMethod ({ cls := "TideLoansModel", name := "whenIt", desc := "(II)I" } : Jvm.MethodName)) ∈ tb := tbm 1021 (by decide +kernel) rfl
theorem tw_1022 : (Jvm.Cond.code ({ cls := "TideLoansModel", name := "whenIt", desc := "(II)I" } : Jvm.MethodName) prog_8_method_44_code (4 : Nat) (Option.some Jvm.ClassFile.FieldType.int)) ∈ tb := tbm 1022 (by decide +kernel) rfl
theorem tw_1023 : (Jvm.Cond.methodLink "TideLoansModel" (158 : Nat) ({ cls := "TideLoansModel", name := "orNone", desc := "(I)I" } : Jvm.MethodName)) ∈ tb := tbm 1023 (by decide +kernel) rfl
theorem tw_1025 : (Jvm.Cond.instanceMethod ({ cls := "TideLoansModel", name := "orNone", desc := "(I)I" } : Jvm.MethodName)) ∈ tb := tbm 1025 (by decide +kernel) rfl
theorem tw_1026 : (Jvm.Cond.code ({ cls := "TideLoansModel", name := "orNone", desc := "(I)I" } : Jvm.MethodName) prog_8_method_12_code (2 : Nat) (Option.some Jvm.ClassFile.FieldType.int)) ∈ tb := tbm 1026 (by decide +kernel) rfl
theorem tw_1027 : (Jvm.Cond.constant "TideLoansModel" (43 : Nat) (-1000000004 : Int32)) ∈ tb := tbm 1027 (by decide +kernel) rfl
theorem tw_1028 : (Jvm.Cond.methodLink "TideLoansLaw" (84 : Nat) ({ cls := "TideLoansModel", name := "home", desc := "(I)I" } : Jvm.MethodName)) ∈ tb := tbm 1028 (by decide +kernel) rfl
theorem tw_1029 : (Jvm.Cond.instanceMethod ({ cls := "TideLoansModel", name := "home", desc := "(I)I" } : Jvm.MethodName)) ∈ tb := tbm 1029 (by decide +kernel) rfl
theorem tw_1030 : (Jvm.Cond.selects "TideLoansModel" ({ cls := "TideLoansModel", name := "home", desc := "(I)I" } : Jvm.MethodName) ({ cls := "TideLoansModel", name := "home", desc := "(I)I" } : Jvm.MethodName)) ∈ tb := tbm 1030 (by decide +kernel) rfl
theorem tw_1031 : (Jvm.Cond.code ({ cls := "TideLoansModel", name := "home", desc := "(I)I" } : Jvm.MethodName) prog_8_method_46_code (2 : Nat) (Option.some Jvm.ClassFile.FieldType.int)) ∈ tb := tbm 1031 (by decide +kernel) rfl
theorem tw_1032 : (Jvm.Cond.methodLink "TideLoansLaw" (89 : Nat) ({ cls := "TideLoansModel", name := "due", desc := "()I" } : Jvm.MethodName)) ∈ tb := tbm 1032 (by decide +kernel) rfl
theorem tw_1033 : (Jvm.Cond.instanceMethod ({ cls := "TideLoansModel", name := "due", desc := "()I" } : Jvm.MethodName)) ∈ tb := tbm 1033 (by decide +kernel) rfl
theorem tw_1034 : (Jvm.Cond.selects "TideLoansModel" ({ cls := "TideLoansModel", name := "due", desc := "()I" } : Jvm.MethodName) ({ cls := "TideLoansModel", name := "due", desc := "()I" } : Jvm.MethodName)) ∈ tb := tbm 1034 (by decide +kernel) rfl
theorem tw_1035 : (Jvm.Cond.code ({ cls := "TideLoansModel", name := "due", desc := "()I" } : Jvm.MethodName) prog_8_method_47_code (3 : Nat) (Option.some Jvm.ClassFile.FieldType.int)) ∈ tb := tbm 1035 (by decide +kernel) rfl
theorem tw_1036 : (Jvm.Cond.methodLink "TideLoansLaw" (93 : Nat) ({ cls := "TideLoansModel", name := "spot", desc := "(II)I" } : Jvm.MethodName)) ∈ tb := tbm 1036 (by decide +kernel) rfl
theorem tw_1037 : (Jvm.Cond.instanceMethod ({ cls := "TideLoansModel", name := "spot", desc := "(II)I" } : Jvm.MethodName)) ∈ tb := tbm 1037 (by decide +kernel) rfl
theorem tw_1038 : (Jvm.Cond.selects "TideLoansModel" ({ cls := "TideLoansModel", name := "spot", desc := "(II)I" } : Jvm.MethodName) ({ cls := "TideLoansModel", name := "spot", desc := "(II)I" } : Jvm.MethodName)) ∈ tb := tbm 1038 (by decide +kernel) rfl
theorem tw_1039 : (Jvm.Cond.code ({ cls := "TideLoansModel", name := "spot", desc := "(II)I" } : Jvm.MethodName) prog_8_method_49_code (11 : Nat) (Option.some Jvm.ClassFile.FieldType.int)) ∈ tb := tbm 1039 (by decide +kernel) rfl
theorem tw_1040 : (Jvm.Cond.constantLong "TideLoansModel" (161 : Nat) (-1 : Int64)) ∈ tb := tbm 1040 (by decide +kernel) rfl
theorem tw_1041 : (Jvm.Cond.methodLink "TideLoansModel" (163 : Nat) ({ cls := "TideLoansModel", name := "pursesOn", desc := "(I)J" } : Jvm.MethodName)) ∈ tb := tbm 1041 (by decide +kernel) rfl
theorem tw_1043 : (Jvm.Cond.instanceMethod ({ cls := "TideLoansModel", name := "pursesOn", desc := "(I)J" } : Jvm.MethodName)) ∈ tb := tbm 1043 (by decide +kernel) rfl
theorem tw_1044 : (Jvm.Cond.code ({ cls := "TideLoansModel", name := "pursesOn", desc := "(I)J" } : Jvm.MethodName) prog_8_method_48_code (4 : Nat) (Option.some Jvm.ClassFile.FieldType.long)) ∈ tb := tbm 1044 (by decide +kernel) rfl
theorem tw_1045 : (Jvm.Cond.methodLink "TideLoansLaw" (97 : Nat) ({ cls := "TideLoansModel", name := "delay", desc := "(III)I" } : Jvm.MethodName)) ∈ tb := tbm 1045 (by decide +kernel) rfl
theorem tw_1046 : (Jvm.Cond.instanceMethod ({ cls := "TideLoansModel", name := "delay", desc := "(III)I" } : Jvm.MethodName)) ∈ tb := tbm 1046 (by decide +kernel) rfl
theorem tw_1047 : (Jvm.Cond.selects "TideLoansModel" ({ cls := "TideLoansModel", name := "delay", desc := "(III)I" } : Jvm.MethodName) ({ cls := "TideLoansModel", name := "delay", desc := "(III)I" } : Jvm.MethodName)) ∈ tb := tbm 1047 (by decide +kernel) rfl
theorem tw_1048 : (Jvm.Cond.code ({ cls := "TideLoansModel", name := "delay", desc := "(III)I" } : Jvm.MethodName) prog_8_method_50_code (10 : Nat) (Option.some Jvm.ClassFile.FieldType.int)) ∈ tb := tbm 1048 (by decide +kernel) rfl
theorem tw_1049 : (Jvm.Cond.constantLong "TideLoansModel" (167 : Nat) (60 : Int64)) ∈ tb := tbm 1049 (by decide +kernel) rfl
theorem tw_1050 : (Jvm.Cond.methodLink "TideLoansLaw" (101 : Nat) ({ cls := "TideLoansModel", name := "kind", desc := "(II)I" } : Jvm.MethodName)) ∈ tb := tbm 1050 (by decide +kernel) rfl
theorem tw_1051 : (Jvm.Cond.instanceMethod ({ cls := "TideLoansModel", name := "kind", desc := "(II)I" } : Jvm.MethodName)) ∈ tb := tbm 1051 (by decide +kernel) rfl
theorem tw_1052 : (Jvm.Cond.selects "TideLoansModel" ({ cls := "TideLoansModel", name := "kind", desc := "(II)I" } : Jvm.MethodName) ({ cls := "TideLoansModel", name := "kind", desc := "(II)I" } : Jvm.MethodName)) ∈ tb := tbm 1052 (by decide +kernel) rfl
theorem tw_1053 : (Jvm.Cond.code ({ cls := "TideLoansModel", name := "kind", desc := "(II)I" } : Jvm.MethodName) prog_8_method_51_code (10 : Nat) (Option.some Jvm.ClassFile.FieldType.int)) ∈ tb := tbm 1053 (by decide +kernel) rfl
theorem tw_1054 : (Jvm.Cond.methodLink "TideLoansLaw" (105 : Nat) ({ cls := "TideLoansModel", name := "worth", desc := "(III)I" } : Jvm.MethodName)) ∈ tb := tbm 1054 (by decide +kernel) rfl
theorem tw_1055 : (Jvm.Cond.instanceMethod ({ cls := "TideLoansModel", name := "worth", desc := "(III)I" } : Jvm.MethodName)) ∈ tb := tbm 1055 (by decide +kernel) rfl
theorem tw_1056 : (Jvm.Cond.selects "TideLoansModel" ({ cls := "TideLoansModel", name := "worth", desc := "(III)I" } : Jvm.MethodName) ({ cls := "TideLoansModel", name := "worth", desc := "(III)I" } : Jvm.MethodName)) ∈ tb := tbm 1056 (by decide +kernel) rfl
theorem tw_1057 : (Jvm.Cond.code ({ cls := "TideLoansModel", name := "worth", desc := "(III)I" } : Jvm.MethodName) prog_8_method_52_code (7 : Nat) (Option.some Jvm.ClassFile.FieldType.int)) ∈ tb := tbm 1057 (by decide +kernel) rfl
theorem tw_1058 : (Jvm.Cond.constantLong "TideLoansModel" (169 : Nat) (40 : Int64)) ∈ tb := tbm 1058 (by decide +kernel) rfl
theorem tw_1059 : (Jvm.Cond.methodLink "TideLoansLaw" (109 : Nat) ({ cls := "TideLoansModel", name := "richest", desc := "(I)I" } : Jvm.MethodName)) ∈ tb := tbm 1059 (by decide +kernel) rfl
theorem tw_1060 : (Jvm.Cond.instanceMethod ({ cls := "TideLoansModel", name := "richest", desc := "(I)I" } : Jvm.MethodName)) ∈ tb := tbm 1060 (by decide +kernel) rfl
theorem tw_1061 : (Jvm.Cond.selects "TideLoansModel" ({ cls := "TideLoansModel", name := "richest", desc := "(I)I" } : Jvm.MethodName) ({ cls := "TideLoansModel", name := "richest", desc := "(I)I" } : Jvm.MethodName)) ∈ tb := tbm 1061 (by decide +kernel) rfl
theorem tw_1062 : (Jvm.Cond.code ({ cls := "TideLoansModel", name := "richest", desc := "(I)I" } : Jvm.MethodName) prog_8_method_53_code (4 : Nat) (Option.some Jvm.ClassFile.FieldType.int)) ∈ tb := tbm 1062 (by decide +kernel) rfl
theorem tw_1063 : (Jvm.Cond.methodLink "TideLoansLaw" (113 : Nat) ({ cls := "TideLoansModel", name := "fewest", desc := "(III)I" } : Jvm.MethodName)) ∈ tb := tbm 1063 (by decide +kernel) rfl
theorem tw_1064 : (Jvm.Cond.instanceMethod ({ cls := "TideLoansModel", name := "fewest", desc := "(III)I" } : Jvm.MethodName)) ∈ tb := tbm 1064 (by decide +kernel) rfl
theorem tw_1065 : (Jvm.Cond.selects "TideLoansModel" ({ cls := "TideLoansModel", name := "fewest", desc := "(III)I" } : Jvm.MethodName) ({ cls := "TideLoansModel", name := "fewest", desc := "(III)I" } : Jvm.MethodName)) ∈ tb := tbm 1065 (by decide +kernel) rfl
theorem tw_1066 : (Jvm.Cond.code ({ cls := "TideLoansModel", name := "fewest", desc := "(III)I" } : Jvm.MethodName) prog_8_method_54_code (8 : Nat) (Option.some Jvm.ClassFile.FieldType.int)) ∈ tb := tbm 1066 (by decide +kernel) rfl
theorem tw_1067 : (Jvm.Cond.methodLink "TideLoansLaw" (117 : Nat) ({ cls := "TideLoansModel", name := "rate", desc := "(II)I" } : Jvm.MethodName)) ∈ tb := tbm 1067 (by decide +kernel) rfl
theorem tw_1068 : (Jvm.Cond.instanceMethod ({ cls := "TideLoansModel", name := "rate", desc := "(II)I" } : Jvm.MethodName)) ∈ tb := tbm 1068 (by decide +kernel) rfl
theorem tw_1069 : (Jvm.Cond.selects "TideLoansModel" ({ cls := "TideLoansModel", name := "rate", desc := "(II)I" } : Jvm.MethodName) ({ cls := "TideLoansModel", name := "rate", desc := "(II)I" } : Jvm.MethodName)) ∈ tb := tbm 1069 (by decide +kernel) rfl
theorem tw_1070 : (Jvm.Cond.code ({ cls := "TideLoansModel", name := "rate", desc := "(II)I" } : Jvm.MethodName) prog_8_method_55_code (6 : Nat) (Option.some Jvm.ClassFile.FieldType.int)) ∈ tb := tbm 1070 (by decide +kernel) rfl
theorem tw_1071 : (Jvm.Cond.methodLink "TideLoansLaw" (121 : Nat) ({ cls := "TideLoansModel", name := "feed", desc := "(II)I" } : Jvm.MethodName)) ∈ tb := tbm 1071 (by decide +kernel) rfl
theorem tw_1072 : (Jvm.Cond.instanceMethod ({ cls := "TideLoansModel", name := "feed", desc := "(II)I" } : Jvm.MethodName)) ∈ tb := tbm 1072 (by decide +kernel) rfl
theorem tw_1073 : (Jvm.Cond.selects "TideLoansModel" ({ cls := "TideLoansModel", name := "feed", desc := "(II)I" } : Jvm.MethodName) ({ cls := "TideLoansModel", name := "feed", desc := "(II)I" } : Jvm.MethodName)) ∈ tb := tbm 1073 (by decide +kernel) rfl
theorem tw_1074 : (Jvm.Cond.code ({ cls := "TideLoansModel", name := "feed", desc := "(II)I" } : Jvm.MethodName) prog_8_method_56_code (4 : Nat) (Option.some Jvm.ClassFile.FieldType.int)) ∈ tb := tbm 1074 (by decide +kernel) rfl
theorem tw_1075 : (Jvm.Cond.constantLong "TideLoansModel" (171 : Nat) (4 : Int64)) ∈ tb := tbm 1075 (by decide +kernel) rfl
theorem tw_1076 : (Jvm.Cond.methodLink "TideLoansLaw" (125 : Nat) ({ cls := "TideLoansModel", name := "wipe", desc := "()I" } : Jvm.MethodName)) ∈ tb := tbm 1076 (by decide +kernel) rfl
theorem tw_1077 : (Jvm.Cond.instanceMethod ({ cls := "TideLoansModel", name := "wipe", desc := "()I" } : Jvm.MethodName)) ∈ tb := tbm 1077 (by decide +kernel) rfl
theorem tw_1078 : (Jvm.Cond.selects "TideLoansModel" ({ cls := "TideLoansModel", name := "wipe", desc := "()I" } : Jvm.MethodName) ({ cls := "TideLoansModel", name := "wipe", desc := "()I" } : Jvm.MethodName)) ∈ tb := tbm 1078 (by decide +kernel) rfl
theorem tw_1079 : (Jvm.Cond.code ({ cls := "TideLoansModel", name := "wipe", desc := "()I" } : Jvm.MethodName) prog_8_method_57_code (2 : Nat) (Option.some Jvm.ClassFile.FieldType.int)) ∈ tb := tbm 1079 (by decide +kernel) rfl
theorem tw_1080 : (Jvm.Cond.methodLink "TideLoansLaw" (129 : Nat) ({ cls := "TideLoansModel", name := "shore", desc := "()I" } : Jvm.MethodName)) ∈ tb := tbm 1080 (by decide +kernel) rfl
theorem tw_1081 : (Jvm.Cond.instanceMethod ({ cls := "TideLoansModel", name := "shore", desc := "()I" } : Jvm.MethodName)) ∈ tb := tbm 1081 (by decide +kernel) rfl
theorem tw_1082 : (Jvm.Cond.selects "TideLoansModel" ({ cls := "TideLoansModel", name := "shore", desc := "()I" } : Jvm.MethodName) ({ cls := "TideLoansModel", name := "shore", desc := "()I" } : Jvm.MethodName)) ∈ tb := tbm 1082 (by decide +kernel) rfl
theorem tw_1083 : (Jvm.Cond.code ({ cls := "TideLoansModel", name := "shore", desc := "()I" } : Jvm.MethodName) prog_8_method_75_code (3 : Nat) (Option.some Jvm.ClassFile.FieldType.int)) ∈ tb := tbm 1083 (by decide +kernel) rfl
theorem tw_1084 : (Jvm.Cond.methodLink "TideLoansModel" (220 : Nat) ({ cls := "TideLoansModel", name := "nextToken", desc := "()V" } : Jvm.MethodName)) ∈ tb := tbm 1084 (by decide +kernel) rfl
theorem tw_1086 : (Jvm.Cond.instanceMethod ({ cls := "TideLoansModel", name := "nextToken", desc := "()V" } : Jvm.MethodName)) ∈ tb := tbm 1086 (by decide +kernel) rfl
theorem tw_1087 : (Jvm.Cond.code ({ cls := "TideLoansModel", name := "nextToken", desc := "()V" } : Jvm.MethodName) prog_8_method_61_code (2 : Nat) (Option.none : Option Jvm.ClassFile.FieldType)) ∈ tb := tbm 1087 (by decide +kernel) rfl
theorem tw_1088 : (Jvm.Cond.methodLink "TideLoansModel" (183 : Nat) ({ cls := "TideLoansModel", name := "byteAt", desc := "(I)I" } : Jvm.MethodName)) ∈ tb := tbm 1088 (by decide +kernel) rfl
theorem tw_1090 : (Jvm.Cond.instanceMethod ({ cls := "TideLoansModel", name := "byteAt", desc := "(I)I" } : Jvm.MethodName)) ∈ tb := tbm 1090 (by decide +kernel) rfl
theorem tw_1091 : (Jvm.Cond.code ({ cls := "TideLoansModel", name := "byteAt", desc := "(I)I" } : Jvm.MethodName) prog_8_method_60_code (2 : Nat) (Option.some Jvm.ClassFile.FieldType.int)) ∈ tb := tbm 1091 (by decide +kernel) rfl
theorem tw_1092 : (Jvm.Cond.methodLink "TideLoansModel" (186 : Nat) ({ cls := "TideLoansModel", name := "isLetter", desc := "(I)Z" } : Jvm.MethodName)) ∈ tb := tbm 1092 (by decide +kernel) rfl
theorem tw_1093 : (Jvm.Cond.static ({ cls := "TideLoansModel", name := "isLetter", desc := "(I)Z" } : Jvm.MethodName)) ∈ tb := tbm 1093 (by decide +kernel) rfl
theorem tw_1094 : (Jvm.Cond.code ({ cls := "TideLoansModel", name := "isLetter", desc := "(I)Z" } : Jvm.MethodName) prog_8_method_58_code (1 : Nat) (Option.some Jvm.ClassFile.FieldType.boolean)) ∈ tb := tbm 1094 (by decide +kernel) rfl
theorem tw_1095 : (Jvm.Cond.methodLink "TideLoansModel" (189 : Nat) ({ cls := "TideLoansModel", name := "isDigit", desc := "(I)Z" } : Jvm.MethodName)) ∈ tb := tbm 1095 (by decide +kernel) rfl
theorem tw_1096 : (Jvm.Cond.static ({ cls := "TideLoansModel", name := "isDigit", desc := "(I)Z" } : Jvm.MethodName)) ∈ tb := tbm 1096 (by decide +kernel) rfl
theorem tw_1097 : (Jvm.Cond.code ({ cls := "TideLoansModel", name := "isDigit", desc := "(I)Z" } : Jvm.MethodName) prog_8_method_59_code (1 : Nat) (Option.some Jvm.ClassFile.FieldType.boolean)) ∈ tb := tbm 1097 (by decide +kernel) rfl
theorem tw_1098 : (Jvm.Cond.methodLink "TideLoansModel" (242 : Nat) ({ cls := "TideLoansModel", name := "itemHere", desc := "()Z" } : Jvm.MethodName)) ∈ tb := tbm 1098 (by decide +kernel) rfl
theorem tw_1100 : (Jvm.Cond.instanceMethod ({ cls := "TideLoansModel", name := "itemHere", desc := "()Z" } : Jvm.MethodName)) ∈ tb := tbm 1100 (by decide +kernel) rfl
theorem tw_1101 : (Jvm.Cond.code ({ cls := "TideLoansModel", name := "itemHere", desc := "()Z" } : Jvm.MethodName) prog_8_method_74_code (2 : Nat) (Option.some Jvm.ClassFile.FieldType.boolean)) ∈ tb := tbm 1101 (by decide +kernel) rfl
theorem tw_1102 : (Jvm.Cond.methodLink "TideLoansModel" (229 : Nat) ({ cls := "TideLoansModel", name := "kindHere", desc := "()I" } : Jvm.MethodName)) ∈ tb := tbm 1102 (by decide +kernel) rfl
theorem tw_1104 : (Jvm.Cond.instanceMethod ({ cls := "TideLoansModel", name := "kindHere", desc := "()I" } : Jvm.MethodName)) ∈ tb := tbm 1104 (by decide +kernel) rfl
theorem tw_1105 : (Jvm.Cond.code ({ cls := "TideLoansModel", name := "kindHere", desc := "()I" } : Jvm.MethodName) prog_8_method_68_code (1 : Nat) (Option.some Jvm.ClassFile.FieldType.int)) ∈ tb := tbm 1105 (by decide +kernel) rfl
theorem tw_1106 : (Jvm.Cond.methodLink "TideLoansModel" (208 : Nat) ({ cls := "TideLoansModel", name := "isFive", desc := "(IIIII)Z" } : Jvm.MethodName)) ∈ tb := tbm 1106 (by decide +kernel) rfl
theorem tw_1108 : (Jvm.Cond.instanceMethod ({ cls := "TideLoansModel", name := "isFive", desc := "(IIIII)Z" } : Jvm.MethodName)) ∈ tb := tbm 1108 (by decide +kernel) rfl
theorem tw_1109 : (Jvm.Cond.code ({ cls := "TideLoansModel", name := "isFive", desc := "(IIIII)Z" } : Jvm.MethodName) prog_8_method_66_code (6 : Nat) (Option.some Jvm.ClassFile.FieldType.boolean)) ∈ tb := tbm 1109 (by decide +kernel) rfl
theorem tw_1110 : (Jvm.Cond.methodLink "TideLoansModel" (201 : Nat) ({ cls := "TideLoansModel", name := "isWord", desc := "(I)Z" } : Jvm.MethodName)) ∈ tb := tbm 1110 (by decide +kernel) rfl
theorem tw_1112 : (Jvm.Cond.instanceMethod ({ cls := "TideLoansModel", name := "isWord", desc := "(I)Z" } : Jvm.MethodName)) ∈ tb := tbm 1112 (by decide +kernel) rfl
theorem tw_1113 : (Jvm.Cond.code ({ cls := "TideLoansModel", name := "isWord", desc := "(I)Z" } : Jvm.MethodName) prog_8_method_63_code (2 : Nat) (Option.some Jvm.ClassFile.FieldType.boolean)) ∈ tb := tbm 1113 (by decide +kernel) rfl
theorem tw_1114 : (Jvm.Cond.methodLink "TideLoansModel" (204 : Nat) ({ cls := "TideLoansModel", name := "has3", desc := "(IIII)Z" } : Jvm.MethodName)) ∈ tb := tbm 1114 (by decide +kernel) rfl
theorem tw_1116 : (Jvm.Cond.instanceMethod ({ cls := "TideLoansModel", name := "has3", desc := "(IIII)Z" } : Jvm.MethodName)) ∈ tb := tbm 1116 (by decide +kernel) rfl
theorem tw_1117 : (Jvm.Cond.code ({ cls := "TideLoansModel", name := "has3", desc := "(IIII)Z" } : Jvm.MethodName) prog_8_method_62_code (5 : Nat) (Option.some Jvm.ClassFile.FieldType.boolean)) ∈ tb := tbm 1117 (by decide +kernel) rfl
theorem tw_1118 : (Jvm.Cond.methodLink "TideLoansModel" (212 : Nat) ({ cls := "TideLoansModel", name := "isSix", desc := "(IIIIII)Z" } : Jvm.MethodName)) ∈ tb := tbm 1118 (by decide +kernel) rfl
theorem tw_1120 : (Jvm.Cond.instanceMethod ({ cls := "TideLoansModel", name := "isSix", desc := "(IIIIII)Z" } : Jvm.MethodName)) ∈ tb := tbm 1120 (by decide +kernel) rfl
theorem tw_1121 : (Jvm.Cond.code ({ cls := "TideLoansModel", name := "isSix", desc := "(IIIIII)Z" } : Jvm.MethodName) prog_8_method_67_code (7 : Nat) (Option.some Jvm.ClassFile.FieldType.boolean)) ∈ tb := tbm 1121 (by decide +kernel) rfl
theorem tw_1122 : (Jvm.Cond.methodLink "TideLoansModel" (233 : Nat) ({ cls := "TideLoansModel", name := "thingHere", desc := "(I)Z" } : Jvm.MethodName)) ∈ tb := tbm 1122 (by decide +kernel) rfl
theorem tw_1124 : (Jvm.Cond.instanceMethod ({ cls := "TideLoansModel", name := "thingHere", desc := "(I)Z" } : Jvm.MethodName)) ∈ tb := tbm 1124 (by decide +kernel) rfl
theorem tw_1125 : (Jvm.Cond.code ({ cls := "TideLoansModel", name := "thingHere", desc := "(I)Z" } : Jvm.MethodName) prog_8_method_71_code (3 : Nat) (Option.some Jvm.ClassFile.FieldType.boolean)) ∈ tb := tbm 1125 (by decide +kernel) rfl
theorem tw_1126 : (Jvm.Cond.methodLink "TideLoansModel" (216 : Nat) ({ cls := "TideLoansModel", name := "fails", desc := "()Z" } : Jvm.MethodName)) ∈ tb := tbm 1126 (by decide +kernel) rfl
theorem tw_1128 : (Jvm.Cond.instanceMethod ({ cls := "TideLoansModel", name := "fails", desc := "()Z" } : Jvm.MethodName)) ∈ tb := tbm 1128 (by decide +kernel) rfl
theorem tw_1129 : (Jvm.Cond.code ({ cls := "TideLoansModel", name := "fails", desc := "()Z" } : Jvm.MethodName) prog_8_method_64_code (1 : Nat) (Option.some Jvm.ClassFile.FieldType.boolean)) ∈ tb := tbm 1129 (by decide +kernel) rfl
theorem tw_1130 : (Jvm.Cond.methodLink "TideLoansModel" (223 : Nat) ({ cls := "TideLoansModel", name := "isTwo", desc := "(II)Z" } : Jvm.MethodName)) ∈ tb := tbm 1130 (by decide +kernel) rfl
theorem tw_1132 : (Jvm.Cond.instanceMethod ({ cls := "TideLoansModel", name := "isTwo", desc := "(II)Z" } : Jvm.MethodName)) ∈ tb := tbm 1132 (by decide +kernel) rfl
theorem tw_1133 : (Jvm.Cond.code ({ cls := "TideLoansModel", name := "isTwo", desc := "(II)Z" } : Jvm.MethodName) prog_8_method_70_code (3 : Nat) (Option.some Jvm.ClassFile.FieldType.boolean)) ∈ tb := tbm 1133 (by decide +kernel) rfl
theorem tw_1134 : (Jvm.Cond.methodLink "TideLoansModel" (226 : Nat) ({ cls := "TideLoansModel", name := "isNumber", desc := "(II)Z" } : Jvm.MethodName)) ∈ tb := tbm 1134 (by decide +kernel) rfl
theorem tw_1136 : (Jvm.Cond.instanceMethod ({ cls := "TideLoansModel", name := "isNumber", desc := "(II)Z" } : Jvm.MethodName)) ∈ tb := tbm 1136 (by decide +kernel) rfl
theorem tw_1137 : (Jvm.Cond.code ({ cls := "TideLoansModel", name := "isNumber", desc := "(II)Z" } : Jvm.MethodName) prog_8_method_69_code (3 : Nat) (Option.some Jvm.ClassFile.FieldType.boolean)) ∈ tb := tbm 1137 (by decide +kernel) rfl
theorem tw_1138 : (Jvm.Cond.methodLink "TideLoansModel" (236 : Nat) ({ cls := "TideLoansModel", name := "heightHere", desc := "()Z" } : Jvm.MethodName)) ∈ tb := tbm 1138 (by decide +kernel) rfl
theorem tw_1140 : (Jvm.Cond.instanceMethod ({ cls := "TideLoansModel", name := "heightHere", desc := "()Z" } : Jvm.MethodName)) ∈ tb := tbm 1140 (by decide +kernel) rfl
theorem tw_1141 : (Jvm.Cond.code ({ cls := "TideLoansModel", name := "heightHere", desc := "()Z" } : Jvm.MethodName) prog_8_method_72_code (2 : Nat) (Option.some Jvm.ClassFile.FieldType.boolean)) ∈ tb := tbm 1141 (by decide +kernel) rfl
theorem tw_1142 : (Jvm.Cond.methodLink "TideLoansModel" (239 : Nat) ({ cls := "TideLoansModel", name := "interestHere", desc := "()Z" } : Jvm.MethodName)) ∈ tb := tbm 1142 (by decide +kernel) rfl
theorem tw_1144 : (Jvm.Cond.instanceMethod ({ cls := "TideLoansModel", name := "interestHere", desc := "()Z" } : Jvm.MethodName)) ∈ tb := tbm 1144 (by decide +kernel) rfl
theorem tw_1145 : (Jvm.Cond.code ({ cls := "TideLoansModel", name := "interestHere", desc := "()Z" } : Jvm.MethodName) prog_8_method_73_code (1 : Nat) (Option.some Jvm.ClassFile.FieldType.boolean)) ∈ tb := tbm 1145 (by decide +kernel) rfl
theorem tw_1146 : (Jvm.Cond.methodLink "TideLoansLaw" (133 : Nat) ({ cls := "TideLoansModel", name := "sheet", desc := "(III)I" } : Jvm.MethodName)) ∈ tb := tbm 1146 (by decide +kernel) rfl
theorem tw_1147 : (Jvm.Cond.instanceMethod ({ cls := "TideLoansModel", name := "sheet", desc := "(III)I" } : Jvm.MethodName)) ∈ tb := tbm 1147 (by decide +kernel) rfl
theorem tw_1148 : (Jvm.Cond.selects "TideLoansModel" ({ cls := "TideLoansModel", name := "sheet", desc := "(III)I" } : Jvm.MethodName) ({ cls := "TideLoansModel", name := "sheet", desc := "(III)I" } : Jvm.MethodName)) ∈ tb := tbm 1148 (by decide +kernel) rfl
theorem tw_1149 : (Jvm.Cond.code ({ cls := "TideLoansModel", name := "sheet", desc := "(III)I" } : Jvm.MethodName) prog_8_method_78_code (5 : Nat) (Option.some Jvm.ClassFile.FieldType.int)) ∈ tb := tbm 1149 (by decide +kernel) rfl
theorem tw_1150 : (Jvm.Cond.methodLink "TideLoansModel" (245 : Nat) ({ cls := "TideLoansModel", name := "isSheet", desc := "(I)Z" } : Jvm.MethodName)) ∈ tb := tbm 1150 (by decide +kernel) rfl
theorem tw_1151 : (Jvm.Cond.static ({ cls := "TideLoansModel", name := "isSheet", desc := "(I)Z" } : Jvm.MethodName)) ∈ tb := tbm 1151 (by decide +kernel) rfl
theorem tw_1152 : (Jvm.Cond.code ({ cls := "TideLoansModel", name := "isSheet", desc := "(I)Z" } : Jvm.MethodName) prog_8_method_76_code (1 : Nat) (Option.some Jvm.ClassFile.FieldType.boolean)) ∈ tb := tbm 1152 (by decide +kernel) rfl
theorem tw_1153 : (Jvm.Cond.constant "TideLoansModel" (248 : Nat) (-1000000007 : Int32)) ∈ tb := tbm 1153 (by decide +kernel) rfl
theorem tw_1154 : (Jvm.Cond.methodLink "TideLoansLaw" (140 : Nat) ({ cls := "TideLoansModel", name := "write", desc := "(IIJ)J" } : Jvm.MethodName)) ∈ tb := tbm 1154 (by decide +kernel) rfl
theorem tw_1155 : (Jvm.Cond.instanceMethod ({ cls := "TideLoansModel", name := "write", desc := "(IIJ)J" } : Jvm.MethodName)) ∈ tb := tbm 1155 (by decide +kernel) rfl
theorem tw_1156 : (Jvm.Cond.selects "TideLoansModel" ({ cls := "TideLoansModel", name := "write", desc := "(IIJ)J" } : Jvm.MethodName) ({ cls := "TideLoansModel", name := "write", desc := "(IIJ)J" } : Jvm.MethodName)) ∈ tb := tbm 1156 (by decide +kernel) rfl
theorem tw_1157 : (Jvm.Cond.code ({ cls := "TideLoansModel", name := "write", desc := "(IIJ)J" } : Jvm.MethodName) prog_8_method_79_code (7 : Nat) (Option.some Jvm.ClassFile.FieldType.long)) ∈ tb := tbm 1157 (by decide +kernel) rfl
theorem tw_1158 : (Jvm.Cond.constant "TideLoansModel" (249 : Nat) (-1000000006 : Int32)) ∈ tb := tbm 1158 (by decide +kernel) rfl
theorem tw_1159 : (Jvm.Cond.methodLink "TideLoansModel" (250 : Nat) ({ cls := "TideLoansModel", name := "narrow", desc := "(IJ)J" } : Jvm.MethodName)) ∈ tb := tbm 1159 (by decide +kernel) rfl
theorem tw_1160 : (Jvm.Cond.static ({ cls := "TideLoansModel", name := "narrow", desc := "(IJ)J" } : Jvm.MethodName)) ∈ tb := tbm 1160 (by decide +kernel) rfl
theorem tw_1161 : (Jvm.Cond.code ({ cls := "TideLoansModel", name := "narrow", desc := "(IJ)J" } : Jvm.MethodName) prog_8_method_77_code (3 : Nat) (Option.some Jvm.ClassFile.FieldType.long)) ∈ tb := tbm 1161 (by decide +kernel) rfl
theorem tw_1162 : (Jvm.Cond.methodLink "TideLoansLaw" (145 : Nat) ({ cls := "TideLoansModel", name := "copy", desc := "(IIIII)I" } : Jvm.MethodName)) ∈ tb := tbm 1162 (by decide +kernel) rfl
theorem tw_1163 : (Jvm.Cond.instanceMethod ({ cls := "TideLoansModel", name := "copy", desc := "(IIIII)I" } : Jvm.MethodName)) ∈ tb := tbm 1163 (by decide +kernel) rfl
theorem tw_1164 : (Jvm.Cond.selects "TideLoansModel" ({ cls := "TideLoansModel", name := "copy", desc := "(IIIII)I" } : Jvm.MethodName) ({ cls := "TideLoansModel", name := "copy", desc := "(IIIII)I" } : Jvm.MethodName)) ∈ tb := tbm 1164 (by decide +kernel) rfl
theorem tw_1165 : (Jvm.Cond.code ({ cls := "TideLoansModel", name := "copy", desc := "(IIIII)I" } : Jvm.MethodName) prog_8_method_80_code (10 : Nat) (Option.some Jvm.ClassFile.FieldType.int)) ∈ tb := tbm 1165 (by decide +kernel) rfl
theorem tw_1166 : (Jvm.Cond.methodLink "TideLoansLaw" (149 : Nat) ({ cls := "TideLoansModel", name := "lays", desc := "(I)I" } : Jvm.MethodName)) ∈ tb := tbm 1166 (by decide +kernel) rfl
theorem tw_1167 : (Jvm.Cond.instanceMethod ({ cls := "TideLoansModel", name := "lays", desc := "(I)I" } : Jvm.MethodName)) ∈ tb := tbm 1167 (by decide +kernel) rfl
theorem tw_1168 : (Jvm.Cond.selects "TideLoansModel" ({ cls := "TideLoansModel", name := "lays", desc := "(I)I" } : Jvm.MethodName) ({ cls := "TideLoansModel", name := "lays", desc := "(I)I" } : Jvm.MethodName)) ∈ tb := tbm 1168 (by decide +kernel) rfl
theorem tw_1169 : (Jvm.Cond.code ({ cls := "TideLoansModel", name := "lays", desc := "(I)I" } : Jvm.MethodName) prog_8_method_82_code (6 : Nat) (Option.some Jvm.ClassFile.FieldType.int)) ∈ tb := tbm 1169 (by decide +kernel) rfl
theorem tw_1170 : (Jvm.Cond.methodLink "TideLoansModel" (254 : Nat) ({ cls := "TideLoansModel", name := "wants", desc := "(I)I" } : Jvm.MethodName)) ∈ tb := tbm 1170 (by decide +kernel) rfl
theorem tw_1172 : (Jvm.Cond.instanceMethod ({ cls := "TideLoansModel", name := "wants", desc := "(I)I" } : Jvm.MethodName)) ∈ tb := tbm 1172 (by decide +kernel) rfl
theorem tw_1173 : (Jvm.Cond.code ({ cls := "TideLoansModel", name := "wants", desc := "(I)I" } : Jvm.MethodName) prog_8_method_81_code (2 : Nat) (Option.some Jvm.ClassFile.FieldType.int)) ∈ tb := tbm 1173 (by decide +kernel) rfl
theorem tw_1174 : (Jvm.Cond.methodLink "TideLoansLaw" (153 : Nat) ({ cls := "TideLoansModel", name := "book", desc := "(II)I" } : Jvm.MethodName)) ∈ tb := tbm 1174 (by decide +kernel) rfl
theorem tw_1175 : (Jvm.Cond.instanceMethod ({ cls := "TideLoansModel", name := "book", desc := "(II)I" } : Jvm.MethodName)) ∈ tb := tbm 1175 (by decide +kernel) rfl
theorem tw_1176 : (Jvm.Cond.selects "TideLoansModel" ({ cls := "TideLoansModel", name := "book", desc := "(II)I" } : Jvm.MethodName) ({ cls := "TideLoansModel", name := "book", desc := "(II)I" } : Jvm.MethodName)) ∈ tb := tbm 1176 (by decide +kernel) rfl
theorem tw_1177 : (Jvm.Cond.code ({ cls := "TideLoansModel", name := "book", desc := "(II)I" } : Jvm.MethodName) prog_8_method_83_code (5 : Nat) (Option.some Jvm.ClassFile.FieldType.int)) ∈ tb := tbm 1177 (by decide +kernel) rfl
theorem tw_1178 : (Jvm.Cond.methodLink "TideLoansLaw" (157 : Nat) ({ cls := "TideLoansModel", name := "read", desc := "(III)I" } : Jvm.MethodName)) ∈ tb := tbm 1178 (by decide +kernel) rfl
theorem tw_1179 : (Jvm.Cond.instanceMethod ({ cls := "TideLoansModel", name := "read", desc := "(III)I" } : Jvm.MethodName)) ∈ tb := tbm 1179 (by decide +kernel) rfl
theorem tw_1180 : (Jvm.Cond.selects "TideLoansModel" ({ cls := "TideLoansModel", name := "read", desc := "(III)I" } : Jvm.MethodName) ({ cls := "TideLoansModel", name := "read", desc := "(III)I" } : Jvm.MethodName)) ∈ tb := tbm 1180 (by decide +kernel) rfl
theorem tw_1181 : (Jvm.Cond.code ({ cls := "TideLoansModel", name := "read", desc := "(III)I" } : Jvm.MethodName) prog_8_method_85_code (11 : Nat) (Option.some Jvm.ClassFile.FieldType.int)) ∈ tb := tbm 1181 (by decide +kernel) rfl
theorem tw_1182 : (Jvm.Cond.methodLink "TideLoansModel" (257 : Nat) ({ cls := "TideLoansModel", name := "isTold", desc := "(II)Z" } : Jvm.MethodName)) ∈ tb := tbm 1182 (by decide +kernel) rfl
theorem tw_1184 : (Jvm.Cond.instanceMethod ({ cls := "TideLoansModel", name := "isTold", desc := "(II)Z" } : Jvm.MethodName)) ∈ tb := tbm 1184 (by decide +kernel) rfl
theorem tw_1185 : (Jvm.Cond.code ({ cls := "TideLoansModel", name := "isTold", desc := "(II)Z" } : Jvm.MethodName) prog_8_method_84_code (5 : Nat) (Option.some Jvm.ClassFile.FieldType.boolean)) ∈ tb := tbm 1185 (by decide +kernel) rfl
theorem tw_1186 : (Jvm.Cond.methodLink "TideLoansLaw" (161 : Nat) ({ cls := "TideLoansModel", name := "image", desc := "()I" } : Jvm.MethodName)) ∈ tb := tbm 1186 (by decide +kernel) rfl
theorem tw_1187 : (Jvm.Cond.instanceMethod ({ cls := "TideLoansModel", name := "image", desc := "()I" } : Jvm.MethodName)) ∈ tb := tbm 1187 (by decide +kernel) rfl
theorem tw_1188 : (Jvm.Cond.selects "TideLoansModel" ({ cls := "TideLoansModel", name := "image", desc := "()I" } : Jvm.MethodName) ({ cls := "TideLoansModel", name := "image", desc := "()I" } : Jvm.MethodName)) ∈ tb := tbm 1188 (by decide +kernel) rfl
theorem tw_1189 : (Jvm.Cond.code ({ cls := "TideLoansModel", name := "image", desc := "()I" } : Jvm.MethodName) prog_8_method_86_code (1 : Nat) (Option.some Jvm.ClassFile.FieldType.int)) ∈ tb := tbm 1189 (by decide +kernel) rfl
theorem tw_1190 : (Jvm.Cond.methodLink "TideLoansLaw" (165 : Nat) ({ cls := "TideLoansModel", name := "undo", desc := "()I" } : Jvm.MethodName)) ∈ tb := tbm 1190 (by decide +kernel) rfl
theorem tw_1191 : (Jvm.Cond.instanceMethod ({ cls := "TideLoansModel", name := "undo", desc := "()I" } : Jvm.MethodName)) ∈ tb := tbm 1191 (by decide +kernel) rfl
theorem tw_1192 : (Jvm.Cond.selects "TideLoansModel" ({ cls := "TideLoansModel", name := "undo", desc := "()I" } : Jvm.MethodName) ({ cls := "TideLoansModel", name := "undo", desc := "()I" } : Jvm.MethodName)) ∈ tb := tbm 1192 (by decide +kernel) rfl
theorem tw_1193 : (Jvm.Cond.code ({ cls := "TideLoansModel", name := "undo", desc := "()I" } : Jvm.MethodName) prog_8_method_87_code (1 : Nat) (Option.some Jvm.ClassFile.FieldType.int)) ∈ tb := tbm 1193 (by decide +kernel) rfl
theorem tw_1194 : (Jvm.Cond.methodLink "TideLoansLaw" (169 : Nat) ({ cls := "TideLoansModel", name := "tear", desc := "()I" } : Jvm.MethodName)) ∈ tb := tbm 1194 (by decide +kernel) rfl
theorem tw_1195 : (Jvm.Cond.instanceMethod ({ cls := "TideLoansModel", name := "tear", desc := "()I" } : Jvm.MethodName)) ∈ tb := tbm 1195 (by decide +kernel) rfl
theorem tw_1196 : (Jvm.Cond.selects "TideLoansModel" ({ cls := "TideLoansModel", name := "tear", desc := "()I" } : Jvm.MethodName) ({ cls := "TideLoansModel", name := "tear", desc := "()I" } : Jvm.MethodName)) ∈ tb := tbm 1196 (by decide +kernel) rfl
theorem tw_1197 : (Jvm.Cond.code ({ cls := "TideLoansModel", name := "tear", desc := "()I" } : Jvm.MethodName) prog_8_method_88_code (2 : Nat) (Option.some Jvm.ClassFile.FieldType.int)) ∈ tb := tbm 1197 (by decide +kernel) rfl
theorem tw_1198 : (Jvm.Cond.methodLink "TideLoansLaw" (173 : Nat) ({ cls := "TideLoansModel", name := "count", desc := "(I)I" } : Jvm.MethodName)) ∈ tb := tbm 1198 (by decide +kernel) rfl
theorem tw_1199 : (Jvm.Cond.instanceMethod ({ cls := "TideLoansModel", name := "count", desc := "(I)I" } : Jvm.MethodName)) ∈ tb := tbm 1199 (by decide +kernel) rfl
theorem tw_1200 : (Jvm.Cond.selects "TideLoansModel" ({ cls := "TideLoansModel", name := "count", desc := "(I)I" } : Jvm.MethodName) ({ cls := "TideLoansModel", name := "count", desc := "(I)I" } : Jvm.MethodName)) ∈ tb := tbm 1200 (by decide +kernel) rfl
theorem tw_1201 : (Jvm.Cond.code ({ cls := "TideLoansModel", name := "count", desc := "(I)I" } : Jvm.MethodName) prog_8_method_89_code (4 : Nat) (Option.some Jvm.ClassFile.FieldType.int)) ∈ tb := tbm 1201 (by decide +kernel) rfl
theorem tw_1202 : (Jvm.Cond.methodLink "TideLoansLaw" (177 : Nat) ({ cls := "TideLoansModel", name := "status", desc := "(I)I" } : Jvm.MethodName)) ∈ tb := tbm 1202 (by decide +kernel) rfl
theorem tw_1203 : (Jvm.Cond.instanceMethod ({ cls := "TideLoansModel", name := "status", desc := "(I)I" } : Jvm.MethodName)) ∈ tb := tbm 1203 (by decide +kernel) rfl
theorem tw_1204 : (Jvm.Cond.selects "TideLoansModel" ({ cls := "TideLoansModel", name := "status", desc := "(I)I" } : Jvm.MethodName) ({ cls := "TideLoansModel", name := "status", desc := "(I)I" } : Jvm.MethodName)) ∈ tb := tbm 1204 (by decide +kernel) rfl
theorem tw_1205 : (Jvm.Cond.code ({ cls := "TideLoansModel", name := "status", desc := "(I)I" } : Jvm.MethodName) prog_8_method_90_code (2 : Nat) (Option.some Jvm.ClassFile.FieldType.int)) ∈ tb := tbm 1205 (by decide +kernel) rfl
theorem tw_1206 : (Jvm.Cond.constantLong "TideLoansModel" (264 : Nat) (6 : Int64)) ∈ tb := tbm 1206 (by decide +kernel) rfl
theorem tw_1207 : (Jvm.Cond.constantLong "TideLoansLaw" (134 : Nat) (4294967295 : Int64)) ∈ tb := tbm 1207 (by decide +kernel) rfl
theorem tw_1208 : (Jvm.Cond.fieldLink "java/lang/String" (9 : Nat) "java/lang/String" "value" "[B") ∈ tb := tbm 1208 (by decide +kernel) rfl
theorem tw_1209 : (Jvm.Cond.fieldLink "java/lang/String" (15 : Nat) "java/lang/String" "coder" "B") ∈ tb := tbm 1209 (by decide +kernel) rfl
theorem in_Sheet : ∀ w ∈ u_ws R_Sheet T_Sheet 3, w ∈ tb := by decide +kernel
theorem in_Shore : ∀ w ∈ u_ws R_Shore T_Shore 6, w ∈ tb := by decide +kernel
theorem in_Tape : ∀ w ∈ u_ws R_Tape T_Tape 6, w ∈ tb := by decide +kernel
theorem in_Thing : ∀ w ∈ u_ws R_Thing T_Thing 6, w ∈ tb := by decide +kernel
theorem in_Way : ∀ w ∈ u_ws R_Way T_Way 5, w ∈ tb := by decide +kernel
theorem in_Tide : ∀ w ∈ u_ws R_Tide T_Tide 12, w ∈ tb := by decide +kernel
theorem in_Model : ∀ w ∈ u_ws R_Model T_Model 16, w ∈ tb := by decide +kernel
end
