theorem tw_0 : Cond.selects "TideLoans" ⟨"TideLoans", "finding", "(I)I"⟩ ⟨"TideLoans", "finding", "(I)I"⟩ ∈ tb := tbm 0 (by decide +kernel) rfl
theorem tw_1 : Cond.selects "TideLoans" ⟨"TideLoans", "owedNow", "(LTideLoans$Thing;)I"⟩ ⟨"TideLoans", "owedNow", "(LTideLoans$Thing;)I"⟩ ∈ tb := tbm 1 (by decide +kernel) rfl
theorem tw_2 : Cond.selects "TideLoans" ⟨"TideLoans", "followAll", "(I)V"⟩ ⟨"TideLoans", "followAll", "(I)V"⟩ ∈ tb := tbm 2 (by decide +kernel) rfl
theorem tw_3 : Cond.selects "TideLoans" ⟨"TideLoans", "follow", "(II)V"⟩ ⟨"TideLoans", "follow", "(II)V"⟩ ∈ tb := tbm 3 (by decide +kernel) rfl
theorem tw_4 : Cond.selects "TideLoans$Way" ⟨"TideLoans$Way", "waitForTide", "(IIII)V"⟩ ⟨"TideLoans$Way", "waitForTide", "(IIII)V"⟩ ∈ tb := tbm 4 (by decide +kernel) rfl
theorem tw_5 : Cond.selects "TideLoans$Way" ⟨"TideLoans$Way", "waitForSpring", "(III)V"⟩ ⟨"TideLoans$Way", "waitForSpring", "(III)V"⟩ ∈ tb := tbm 5 (by decide +kernel) rfl
theorem tw_6 : Cond.selects "TideLoans" ⟨"TideLoans", "bring", "(LTideLoans$Thing;LTideLoans$Way;)V"⟩ ⟨"TideLoans", "bring", "(LTideLoans$Thing;LTideLoans$Way;)V"⟩ ∈ tb := tbm 6 (by decide +kernel) rfl
theorem tw_7 : Cond.selects "TideLoans" ⟨"TideLoans", "allOwedNow", "()I"⟩ ⟨"TideLoans", "allOwedNow", "()I"⟩ ∈ tb := tbm 7 (by decide +kernel) rfl
theorem tw_8 : Cond.selects "TideLoans" ⟨"TideLoans", "purseThen", "(III)I"⟩ ⟨"TideLoans", "purseThen", "(III)I"⟩ ∈ tb := tbm 8 (by decide +kernel) rfl
theorem tw_9 : Cond.selects "TideLoans" ⟨"TideLoans", "tryOn", "(II)I"⟩ ⟨"TideLoans", "tryOn", "(II)I"⟩ ∈ tb := tbm 9 (by decide +kernel) rfl
theorem tw_10 : Cond.selects "TideLoans" ⟨"TideLoans", "purseWithTrial", "(III)I"⟩ ⟨"TideLoans", "purseWithTrial", "(III)I"⟩ ∈ tb := tbm 10 (by decide +kernel) rfl
theorem tw_11 : Cond.selects "TideLoans" ⟨"TideLoans", "followTrial", "(II)V"⟩ ⟨"TideLoans", "followTrial", "(II)V"⟩ ∈ tb := tbm 11 (by decide +kernel) rfl
theorem tw_12 : Cond.selects "TideLoans" ⟨"TideLoans", "shareOut", "(I)I"⟩ ⟨"TideLoans", "shareOut", "(I)I"⟩ ∈ tb := tbm 12 (by decide +kernel) rfl
theorem tw_13 : Cond.selects "TideLoans" ⟨"TideLoans", "sureThen", "(I)I"⟩ ⟨"TideLoans", "sureThen", "(I)I"⟩ ∈ tb := tbm 13 (by decide +kernel) rfl
theorem tw_14 : Cond.selects "TideLoans" ⟨"TideLoans", "sharesOf", "(I)I"⟩ ⟨"TideLoans", "sharesOf", "(I)I"⟩ ∈ tb := tbm 14 (by decide +kernel) rfl
theorem tw_15 : Cond.selects "TideLoans" ⟨"TideLoans", "gainAt", "(I)J"⟩ ⟨"TideLoans", "gainAt", "(I)J"⟩ ∈ tb := tbm 15 (by decide +kernel) rfl
theorem tw_16 : Cond.selects "TideLoans" ⟨"TideLoans", "readText", "()I"⟩ ⟨"TideLoans", "readText", "()I"⟩ ∈ tb := tbm 16 (by decide +kernel) rfl
theorem tw_17 : Cond.selects "TideLoans" ⟨"TideLoans", "readItem", "()Z"⟩ ⟨"TideLoans", "readItem", "()Z"⟩ ∈ tb := tbm 17 (by decide +kernel) rfl
theorem tw_18 : Cond.selects "TideLoans" ⟨"TideLoans", "readThing", "(I)Z"⟩ ⟨"TideLoans", "readThing", "(I)Z"⟩ ∈ tb := tbm 18 (by decide +kernel) rfl
theorem tw_19 : Cond.selects "TideLoans" ⟨"TideLoans", "readWorth", "(LTideLoans$Thing;)Z"⟩ ⟨"TideLoans", "readWorth", "(LTideLoans$Thing;)Z"⟩ ∈ tb := tbm 19 (by decide +kernel) rfl
theorem tw_20 : Cond.selects "TideLoans" ⟨"TideLoans", "readPlace", "(LTideLoans$Thing;)Z"⟩ ⟨"TideLoans", "readPlace", "(LTideLoans$Thing;)Z"⟩ ∈ tb := tbm 20 (by decide +kernel) rfl
theorem tw_21 : Cond.selects "TideLoans" ⟨"TideLoans", "readHeight", "()Z"⟩ ⟨"TideLoans", "readHeight", "()Z"⟩ ∈ tb := tbm 21 (by decide +kernel) rfl
theorem tw_22 : Cond.selects "TideLoans" ⟨"TideLoans", "readInterest", "()Z"⟩ ⟨"TideLoans", "readInterest", "()Z"⟩ ∈ tb := tbm 22 (by decide +kernel) rfl
theorem tw_23 : Cond.selects "TideLoans" ⟨"TideLoans", "plotCourse", "(III)V"⟩ ⟨"TideLoans", "plotCourse", "(III)V"⟩ ∈ tb := tbm 23 (by decide +kernel) rfl
theorem tw_24 : Cond.selects "TideLoans" ⟨"TideLoans", "addToCourse", "(III)V"⟩ ⟨"TideLoans", "addToCourse", "(III)V"⟩ ∈ tb := tbm 24 (by decide +kernel) rfl
theorem tw_25 : Cond.selects "TideLoans" ⟨"TideLoans", "cellsThatFit", "(LTideLoans$Sheet;II)I"⟩ ⟨"TideLoans", "cellsThatFit", "(LTideLoans$Sheet;II)I"⟩ ∈ tb := tbm 25 (by decide +kernel) rfl
theorem tw_26 : Cond.selects "TideLoans" ⟨"TideLoans", "isCourseWith", "(LTideLoans$Sheet;II)Z"⟩ ⟨"TideLoans", "isCourseWith", "(LTideLoans$Sheet;II)Z"⟩ ∈ tb := tbm 26 (by decide +kernel) rfl
theorem tw_27 : Cond.selects "TideLoansModel" ⟨"TideLoansModel", "becomes", "(II)I"⟩ ⟨"TideLoansModel", "becomes", "(II)I"⟩ ∈ tb := tbm 27 (by decide +kernel) rfl
theorem tw_28 : Cond.selects "TideLoansModel" ⟨"TideLoansModel", "finds", "(I)I"⟩ ⟨"TideLoansModel", "finds", "(I)I"⟩ ∈ tb := tbm 28 (by decide +kernel) rfl
theorem tw_29 : Cond.selects "TideLoansModel" ⟨"TideLoansModel", "laidAt", "(I)I"⟩ ⟨"TideLoansModel", "laidAt", "(I)I"⟩ ∈ tb := tbm 29 (by decide +kernel) rfl
theorem tw_30 : Cond.selects "TideLoansModel" ⟨"TideLoansModel", "isIt", "(II)Z"⟩ ⟨"TideLoansModel", "isIt", "(II)Z"⟩ ∈ tb := tbm 30 (by decide +kernel) rfl
theorem tw_31 : Cond.selects "TideLoansModel" ⟨"TideLoansModel", "its", "(II)I"⟩ ⟨"TideLoansModel", "its", "(II)I"⟩ ∈ tb := tbm 31 (by decide +kernel) rfl
theorem tw_32 : Cond.selects "TideLoansModel" ⟨"TideLoansModel", "comes", "(II)V"⟩ ⟨"TideLoansModel", "comes", "(II)V"⟩ ∈ tb := tbm 32 (by decide +kernel) rfl
theorem tw_33 : Cond.selects "TideLoansModel" ⟨"TideLoansModel", "isThing", "(I)Z"⟩ ⟨"TideLoansModel", "isThing", "(I)Z"⟩ ∈ tb := tbm 33 (by decide +kernel) rfl
theorem tw_34 : Cond.selects "TideLoansModel" ⟨"TideLoansModel", "wouldRepay", "(I)I"⟩ ⟨"TideLoansModel", "wouldRepay", "(I)I"⟩ ∈ tb := tbm 34 (by decide +kernel) rfl
theorem tw_35 : Cond.selects "TideLoansModel" ⟨"TideLoansModel", "repays", "(II)I"⟩ ⟨"TideLoansModel", "repays", "(II)I"⟩ ∈ tb := tbm 35 (by decide +kernel) rfl
theorem tw_36 : Cond.selects "TideLoansModel" ⟨"TideLoansModel", "lies", "(II)V"⟩ ⟨"TideLoansModel", "lies", "(II)V"⟩ ∈ tb := tbm 36 (by decide +kernel) rfl
theorem tw_37 : Cond.selects "TideLoansModel" ⟨"TideLoansModel", "goes", "(I)V"⟩ ⟨"TideLoansModel", "goes", "(I)V"⟩ ∈ tb := tbm 37 (by decide +kernel) rfl
theorem tw_38 : Cond.selects "TideLoansModel" ⟨"TideLoansModel", "day", "()V"⟩ ⟨"TideLoansModel", "day", "()V"⟩ ∈ tb := tbm 38 (by decide +kernel) rfl
theorem tw_39 : Cond.selects "TideLoansModel" ⟨"TideLoansModel", "comesHome", "(II)V"⟩ ⟨"TideLoansModel", "comesHome", "(II)V"⟩ ∈ tb := tbm 39 (by decide +kernel) rfl
theorem tw_40 : Cond.selects "TideLoansModel" ⟨"TideLoansModel", "isTaken", "(I)Z"⟩ ⟨"TideLoansModel", "isTaken", "(I)Z"⟩ ∈ tb := tbm 40 (by decide +kernel) rfl
theorem tw_41 : Cond.selects "TideLoansModel" ⟨"TideLoansModel", "purses", "()J"⟩ ⟨"TideLoansModel", "purses", "()J"⟩ ∈ tb := tbm 41 (by decide +kernel) rfl
theorem tw_42 : Cond.selects "TideLoansModel" ⟨"TideLoansModel", "thoseThatAre", "(I)I"⟩ ⟨"TideLoansModel", "thoseThatAre", "(I)I"⟩ ∈ tb := tbm 42 (by decide +kernel) rfl
theorem tw_43 : Cond.selects "TideLoansModel" ⟨"TideLoansModel", "purseOn", "(II)I"⟩ ⟨"TideLoansModel", "purseOn", "(II)I"⟩ ∈ tb := tbm 43 (by decide +kernel) rfl
theorem tw_44 : Cond.selects "TideLoansModel" ⟨"TideLoansModel", "whenIt", "(II)I"⟩ ⟨"TideLoansModel", "whenIt", "(II)I"⟩ ∈ tb := tbm 44 (by decide +kernel) rfl
theorem tw_45 : Cond.selects "TideLoansModel" ⟨"TideLoansModel", "orNone", "(I)I"⟩ ⟨"TideLoansModel", "orNone", "(I)I"⟩ ∈ tb := tbm 45 (by decide +kernel) rfl
theorem tw_46 : Cond.selects "TideLoansModel" ⟨"TideLoansModel", "pursesOn", "(I)J"⟩ ⟨"TideLoansModel", "pursesOn", "(I)J"⟩ ∈ tb := tbm 46 (by decide +kernel) rfl
theorem tw_47 : Cond.selects "TideLoansModel" ⟨"TideLoansModel", "nextToken", "()V"⟩ ⟨"TideLoansModel", "nextToken", "()V"⟩ ∈ tb := tbm 47 (by decide +kernel) rfl
theorem tw_48 : Cond.selects "TideLoansModel" ⟨"TideLoansModel", "byteAt", "(I)I"⟩ ⟨"TideLoansModel", "byteAt", "(I)I"⟩ ∈ tb := tbm 48 (by decide +kernel) rfl
theorem tw_49 : Cond.selects "TideLoansModel" ⟨"TideLoansModel", "itemHere", "()Z"⟩ ⟨"TideLoansModel", "itemHere", "()Z"⟩ ∈ tb := tbm 49 (by decide +kernel) rfl
theorem tw_50 : Cond.selects "TideLoansModel" ⟨"TideLoansModel", "kindHere", "()I"⟩ ⟨"TideLoansModel", "kindHere", "()I"⟩ ∈ tb := tbm 50 (by decide +kernel) rfl
theorem tw_51 : Cond.selects "TideLoansModel" ⟨"TideLoansModel", "isFive", "(IIIII)Z"⟩ ⟨"TideLoansModel", "isFive", "(IIIII)Z"⟩ ∈ tb := tbm 51 (by decide +kernel) rfl
theorem tw_52 : Cond.selects "TideLoansModel" ⟨"TideLoansModel", "isWord", "(I)Z"⟩ ⟨"TideLoansModel", "isWord", "(I)Z"⟩ ∈ tb := tbm 52 (by decide +kernel) rfl
theorem tw_53 : Cond.selects "TideLoansModel" ⟨"TideLoansModel", "has3", "(IIII)Z"⟩ ⟨"TideLoansModel", "has3", "(IIII)Z"⟩ ∈ tb := tbm 53 (by decide +kernel) rfl
theorem tw_54 : Cond.selects "TideLoansModel" ⟨"TideLoansModel", "isSix", "(IIIIII)Z"⟩ ⟨"TideLoansModel", "isSix", "(IIIIII)Z"⟩ ∈ tb := tbm 54 (by decide +kernel) rfl
theorem tw_55 : Cond.selects "TideLoansModel" ⟨"TideLoansModel", "thingHere", "(I)Z"⟩ ⟨"TideLoansModel", "thingHere", "(I)Z"⟩ ∈ tb := tbm 55 (by decide +kernel) rfl
theorem tw_56 : Cond.selects "TideLoansModel" ⟨"TideLoansModel", "fails", "()Z"⟩ ⟨"TideLoansModel", "fails", "()Z"⟩ ∈ tb := tbm 56 (by decide +kernel) rfl
theorem tw_57 : Cond.selects "TideLoansModel" ⟨"TideLoansModel", "isTwo", "(II)Z"⟩ ⟨"TideLoansModel", "isTwo", "(II)Z"⟩ ∈ tb := tbm 57 (by decide +kernel) rfl
theorem tw_58 : Cond.selects "TideLoansModel" ⟨"TideLoansModel", "isNumber", "(II)Z"⟩ ⟨"TideLoansModel", "isNumber", "(II)Z"⟩ ∈ tb := tbm 58 (by decide +kernel) rfl
theorem tw_59 : Cond.selects "TideLoansModel" ⟨"TideLoansModel", "heightHere", "()Z"⟩ ⟨"TideLoansModel", "heightHere", "()Z"⟩ ∈ tb := tbm 59 (by decide +kernel) rfl
theorem tw_60 : Cond.selects "TideLoansModel" ⟨"TideLoansModel", "interestHere", "()Z"⟩ ⟨"TideLoansModel", "interestHere", "()Z"⟩ ∈ tb := tbm 60 (by decide +kernel) rfl
theorem tw_61 : Cond.selects "TideLoansModel" ⟨"TideLoansModel", "wants", "(I)I"⟩ ⟨"TideLoansModel", "wants", "(I)I"⟩ ∈ tb := tbm 61 (by decide +kernel) rfl
theorem tw_62 : Cond.selects "TideLoansModel" ⟨"TideLoansModel", "isTold", "(II)Z"⟩ ⟨"TideLoansModel", "isTold", "(II)Z"⟩ ∈ tb := tbm 62 (by decide +kernel) rfl
theorem tw_63 : (Jvm.Cond.initialized "TideLoansLaw") ∈ tb := tbm1 0 (by decide +kernel) rfl
theorem tw_64 : (Jvm.Cond.initialized "TideLoans") ∈ tb := tbm1 1 (by decide +kernel) rfl
theorem tw_65 : (Jvm.Cond.initialized "TideLoans$Shore") ∈ tb := tbm1 2 (by decide +kernel) rfl
theorem tw_66 : (Jvm.Cond.initialized "TideLoans$Thing") ∈ tb := tbm1 3 (by decide +kernel) rfl
theorem tw_67 : (Jvm.Cond.initialized "TideLoans$Tape") ∈ tb := tbm1 4 (by decide +kernel) rfl
theorem tw_68 : (Jvm.Cond.initialized "TideLoans$Way") ∈ tb := tbm1 5 (by decide +kernel) rfl
theorem tw_69 : (Jvm.Cond.initialized "TideLoans$Sheet") ∈ tb := tbm1 6 (by decide +kernel) rfl
theorem tw_70 : (Jvm.Cond.initialized "TideLoansModel") ∈ tb := tbm1 7 (by decide +kernel) rfl
theorem tw_71 : (Jvm.Cond.initialized "java/lang/Math") ∈ tb := tbm1 8 (by decide +kernel) rfl
theorem tw_72 : (Jvm.Cond.initialized "java/lang/Integer") ∈ tb := tbm1 9 (by decide +kernel) rfl
theorem tw_73 : (Jvm.Cond.initialized "java/lang/System") ∈ tb := tbm1 10 (by decide +kernel) rfl
theorem tw_74 : (Jvm.Cond.initialized "java/lang/String") ∈ tb := tbm1 11 (by decide +kernel) rfl
theorem tw_75 : (Jvm.Cond.initialized "java/lang/StringLatin1") ∈ tb := tbm1 12 (by decide +kernel) rfl
theorem tw_76 : (Jvm.Cond.initialized "jdk/internal/util/Preconditions") ∈ tb := tbm1 13 (by decide +kernel) rfl
theorem tw_77 : (Jvm.Cond.initialized "java/lang/StringUTF16") ∈ tb := tbm1 14 (by decide +kernel) rfl
theorem tw_78 : (Jvm.Cond.classLink "TideLoansLaw" (7 : Nat) "TideLoans") ∈ tb := tbm1 15 (by decide +kernel) rfl
theorem tw_79 : (Jvm.Cond.instantiable "TideLoans" (12 : Nat)) ∈ tb := tbm1 16 (by decide +kernel) rfl
theorem tw_80 : (Jvm.Cond.methodLink "TideLoansLaw" (9 : Nat) ({ cls := "TideLoans", name := "<init>", desc := "()V" } : Jvm.MethodName)) ∈ tb := tbm1 17 (by decide +kernel) rfl
theorem tw_81 : (Jvm.Cond.instanceMethod ({ cls := "TideLoans", name := "<init>", desc := "()V" } : Jvm.MethodName)) ∈ tb := tbm1 18 (by decide +kernel) rfl
theorem tw_82 : (Jvm.Cond.code ({ cls := "TideLoans", name := "<init>", desc := "()V" } : Jvm.MethodName) prog_1_method_1_code (2 : Nat) (Option.none : Option Jvm.ClassFile.FieldType)) ∈ tb := tbm1 19 (by decide +kernel) rfl
theorem tw_83 : (Jvm.Cond.methodLink "TideLoans" (1 : Nat) ({ cls := "java/lang/Object", name := "<init>", desc := "()V" } : Jvm.MethodName)) ∈ tb := tbm1 20 (by decide +kernel) rfl
theorem tw_84 : (Jvm.Cond.instanceMethod ({ cls := "java/lang/Object", name := "<init>", desc := "()V" } : Jvm.MethodName)) ∈ tb := tbm1 21 (by decide +kernel) rfl
theorem tw_85 : (Jvm.Cond.code ({ cls := "java/lang/Object", name := "<init>", desc := "()V" } : Jvm.MethodName) object_method_1_code (1 : Nat) (Option.none : Option Jvm.ClassFile.FieldType)) ∈ tb := tbm1 22 (by decide +kernel) rfl
theorem tw_86 : (Jvm.Cond.classLink "TideLoans" (13 : Nat) "TideLoans$Shore") ∈ tb := tbm1 23 (by decide +kernel) rfl
theorem tw_87 : (Jvm.Cond.instantiable "TideLoans$Shore" (6 : Nat)) ∈ tb := tbm1 24 (by decide +kernel) rfl
theorem tw_88 : (Jvm.Cond.methodLink "TideLoans" (15 : Nat) ({ cls := "TideLoans$Shore", name := "<init>", desc := "()V" } : Jvm.MethodName)) ∈ tb := tbm1 25 (by decide +kernel) rfl
theorem tw_89 : (Jvm.Cond.instanceMethod ({ cls := "TideLoans$Shore", name := "<init>", desc := "()V" } : Jvm.MethodName)) ∈ tb := tbm1 26 (by decide +kernel) rfl
theorem tw_90 : (Jvm.Cond.code ({ cls := "TideLoans$Shore", name := "<init>", desc := "()V" } : Jvm.MethodName) prog_3_method_1_code (2 : Nat) (Option.none : Option Jvm.ClassFile.FieldType)) ∈ tb := tbm1 27 (by decide +kernel) rfl
theorem tw_91 : (Jvm.Cond.methodLink "TideLoans$Shore" (3 : Nat) ({ cls := "java/lang/Object", name := "<init>", desc := "()V" } : Jvm.MethodName)) ∈ tb := tbm1 28 (by decide +kernel) rfl
theorem tw_92 : (Jvm.Cond.classLink "TideLoans$Shore" (18 : Nat) "TideLoans$Thing") ∈ tb := tbm1 29 (by decide +kernel) rfl
theorem tw_94 : (Jvm.Cond.instantiable "TideLoans$Thing" (6 : Nat)) ∈ tb := tbm1 31 (by decide +kernel) rfl
theorem tw_95 : (Jvm.Cond.methodLinkNest "TideLoans$Shore" (28 : Nat) ({ cls := "TideLoans$Thing", name := "<init>", desc := "()V" } : Jvm.MethodName) "TideLoans") ∈ nst := nsm1 32 (by decide +kernel) rfl
theorem tw_96 : (Jvm.Cond.instanceMethod ({ cls := "TideLoans$Thing", name := "<init>", desc := "()V" } : Jvm.MethodName)) ∈ tb := tbm1 33 (by decide +kernel) rfl
theorem tw_97 : (Jvm.Cond.code ({ cls := "TideLoans$Thing", name := "<init>", desc := "()V" } : Jvm.MethodName) prog_5_method_1_code (1 : Nat) (Option.none : Option Jvm.ClassFile.FieldType)) ∈ tb := tbm1 34 (by decide +kernel) rfl
theorem tw_98 : (Jvm.Cond.methodLink "TideLoans$Thing" (3 : Nat) ({ cls := "java/lang/Object", name := "<init>", desc := "()V" } : Jvm.MethodName)) ∈ tb := tbm1 35 (by decide +kernel) rfl
theorem tw_99 : (Jvm.Cond.fieldLink "TideLoans$Thing" (9 : Nat) "TideLoans$Thing" "kind" "I") ∈ tb := tbm1 36 (by decide +kernel) rfl
theorem tw_100 : (Jvm.Cond.fieldLink "TideLoans$Way" (31 : Nat) "TideLoans$Thing" "kind" "I") ∈ tb := tbm1 37 (by decide +kernel) rfl
theorem tw_101 : (Jvm.Cond.fieldLink "TideLoans" (121 : Nat) "TideLoans$Thing" "kind" "I") ∈ tb := tbm1 38 (by decide +kernel) rfl
theorem tw_102 : (Jvm.Cond.fieldLink "TideLoans$Thing" (15 : Nat) "TideLoans$Thing" "family" "I") ∈ tb := tbm1 39 (by decide +kernel) rfl
theorem tw_103 : (Jvm.Cond.fieldLink "TideLoans" (124 : Nat) "TideLoans$Thing" "family" "I") ∈ tb := tbm1 40 (by decide +kernel) rfl
theorem tw_104 : (Jvm.Cond.fieldLink "TideLoans$Thing" (18 : Nat) "TideLoans$Thing" "cell" "I") ∈ tb := tbm1 41 (by decide +kernel) rfl
theorem tw_105 : (Jvm.Cond.fieldLink "TideLoans$Shore" (60 : Nat) "TideLoans$Thing" "cell" "I") ∈ tb := tbm1 42 (by decide +kernel) rfl
theorem tw_106 : (Jvm.Cond.fieldLink "TideLoans" (127 : Nat) "TideLoans$Thing" "cell" "I") ∈ tb := tbm1 43 (by decide +kernel) rfl
theorem tw_107 : (Jvm.Cond.fieldLink "TideLoans$Thing" (21 : Nat) "TideLoans$Thing" "worth" "I") ∈ tb := tbm1 44 (by decide +kernel) rfl
theorem tw_108 : (Jvm.Cond.fieldLink "TideLoans$Shore" (63 : Nat) "TideLoans$Thing" "worth" "I") ∈ tb := tbm1 45 (by decide +kernel) rfl
theorem tw_109 : (Jvm.Cond.fieldLink "TideLoans" (130 : Nat) "TideLoans$Thing" "worth" "I") ∈ tb := tbm1 46 (by decide +kernel) rfl
theorem tw_110 : (Jvm.Cond.fieldLink "TideLoans$Way" (21 : Nat) "TideLoans$Thing" "state" "I") ∈ tb := tbm1 47 (by decide +kernel) rfl
theorem tw_111 : (Jvm.Cond.fieldLink "TideLoans$Thing" (24 : Nat) "TideLoans$Thing" "state" "I") ∈ tb := tbm1 48 (by decide +kernel) rfl
theorem tw_112 : (Jvm.Cond.fieldLink "TideLoans$Shore" (57 : Nat) "TideLoans$Thing" "state" "I") ∈ tb := tbm1 49 (by decide +kernel) rfl
theorem tw_113 : (Jvm.Cond.fieldLink "TideLoans" (133 : Nat) "TideLoans$Thing" "state" "I") ∈ tb := tbm1 50 (by decide +kernel) rfl
theorem tw_114 : (Jvm.Cond.fieldLink "TideLoans$Way" (27 : Nat) "TideLoans$Thing" "since" "I") ∈ tb := tbm1 51 (by decide +kernel) rfl
theorem tw_115 : (Jvm.Cond.fieldLink "TideLoans$Thing" (27 : Nat) "TideLoans$Thing" "since" "I") ∈ tb := tbm1 52 (by decide +kernel) rfl
theorem tw_116 : (Jvm.Cond.fieldLink "TideLoans" (136 : Nat) "TideLoans$Thing" "since" "I") ∈ tb := tbm1 53 (by decide +kernel) rfl
theorem tw_117 : (Jvm.Cond.lays "TideLoans$Thing" "TideLoans$Thing" "kind" "I") ∈ tb := tbm1 54 (by decide +kernel) rfl
theorem tw_119 : (Jvm.Cond.lays "TideLoans$Thing" "TideLoans$Thing" "family" "I") ∈ tb := tbm1 56 (by decide +kernel) rfl
theorem tw_121 : (Jvm.Cond.lays "TideLoans$Thing" "TideLoans$Thing" "cell" "I") ∈ tb := tbm1 58 (by decide +kernel) rfl
theorem tw_123 : (Jvm.Cond.lays "TideLoans$Thing" "TideLoans$Thing" "worth" "I") ∈ tb := tbm1 60 (by decide +kernel) rfl
theorem tw_125 : (Jvm.Cond.lays "TideLoans$Thing" "TideLoans$Thing" "state" "I") ∈ tb := tbm1 62 (by decide +kernel) rfl
theorem tw_127 : (Jvm.Cond.lays "TideLoans$Thing" "TideLoans$Thing" "since" "I") ∈ tb := tbm1 64 (by decide +kernel) rfl
theorem tw_130 : (Jvm.Cond.arrayClass Jvm.ClassFile.FieldType.int) ∈ tb := tbm1 67 (by decide +kernel) rfl
theorem tw_131 : (Jvm.Cond.fieldLink "TideLoans$Shore" (9 : Nat) "TideLoans$Shore" "heights" "[I") ∈ tb := tbm1 68 (by decide +kernel) rfl
theorem tw_132 : (Jvm.Cond.fieldLink "TideLoans" (73 : Nat) "TideLoans$Shore" "heights" "[I") ∈ tb := tbm1 69 (by decide +kernel) rfl
theorem tw_133 : (Jvm.Cond.fieldLink "TideLoans$Shore" (15 : Nat) "TideLoans$Shore" "purses" "[I") ∈ tb := tbm1 70 (by decide +kernel) rfl
theorem tw_134 : (Jvm.Cond.fieldLink "TideLoans" (102 : Nat) "TideLoans$Shore" "purses" "[I") ∈ tb := tbm1 71 (by decide +kernel) rfl
theorem tw_135 : (Jvm.Cond.fieldLink "TideLoans$Shore" (20 : Nat) "TideLoans$Shore" "things" "[LTideLoans$Thing;") ∈ tb := tbm1 72 (by decide +kernel) rfl
theorem tw_136 : (Jvm.Cond.fieldLink "TideLoans" (117 : Nat) "TideLoans$Shore" "things" "[LTideLoans$Thing;") ∈ tb := tbm1 73 (by decide +kernel) rfl
theorem tw_137 : (Jvm.Cond.fieldLink "TideLoans$Shore" (35 : Nat) "TideLoans$Shore" "size" "I") ∈ tb := tbm1 74 (by decide +kernel) rfl
theorem tw_138 : (Jvm.Cond.fieldLink "TideLoans" (166 : Nat) "TideLoans$Shore" "size" "I") ∈ tb := tbm1 75 (by decide +kernel) rfl
theorem tw_139 : (Jvm.Cond.fieldLink "TideLoans$Shore" (38 : Nat) "TideLoans$Shore" "day" "I") ∈ tb := tbm1 76 (by decide +kernel) rfl
theorem tw_140 : (Jvm.Cond.fieldLink "TideLoans" (160 : Nat) "TideLoans$Shore" "day" "I") ∈ tb := tbm1 77 (by decide +kernel) rfl
theorem tw_141 : (Jvm.Cond.fieldLink "TideLoans$Shore" (24 : Nat) "TideLoans$Shore" "interest" "I") ∈ tb := tbm1 78 (by decide +kernel) rfl
theorem tw_142 : (Jvm.Cond.fieldLink "TideLoans" (83 : Nat) "TideLoans$Shore" "interest" "I") ∈ tb := tbm1 79 (by decide +kernel) rfl
theorem tw_143 : (Jvm.Cond.laysFinal "TideLoans$Shore" "TideLoans$Shore" "heights" "[I") ∈ tb := tbm1 80 (by decide +kernel) rfl
theorem tw_145 : (Jvm.Cond.laysFinal "TideLoans$Shore" "TideLoans$Shore" "purses" "[I") ∈ tb := tbm1 82 (by decide +kernel) rfl
theorem tw_147 : (Jvm.Cond.laysFinal "TideLoans$Shore" "TideLoans$Shore" "things" "[LTideLoans$Thing;") ∈ tb := tbm1 84 (by decide +kernel) rfl
theorem tw_149 : (Jvm.Cond.lays "TideLoans$Shore" "TideLoans$Shore" "size" "I") ∈ tb := tbm1 86 (by decide +kernel) rfl
theorem tw_151 : (Jvm.Cond.lays "TideLoans$Shore" "TideLoans$Shore" "day" "I") ∈ tb := tbm1 88 (by decide +kernel) rfl
theorem tw_153 : (Jvm.Cond.lays "TideLoans$Shore" "TideLoans$Shore" "interest" "I") ∈ tb := tbm1 90 (by decide +kernel) rfl
theorem tw_156 : (Jvm.Cond.classLink "TideLoans" (26 : Nat) "TideLoans$Tape") ∈ tb := tbm1 93 (by decide +kernel) rfl
theorem tw_157 : (Jvm.Cond.instantiable "TideLoans$Tape" (6 : Nat)) ∈ tb := tbm1 94 (by decide +kernel) rfl
theorem tw_158 : (Jvm.Cond.methodLinkNest "TideLoans" (28 : Nat) ({ cls := "TideLoans$Tape", name := "<init>", desc := "()V" } : Jvm.MethodName) "TideLoans") ∈ nst := nsm1 95 (by decide +kernel) rfl
theorem tw_159 : (Jvm.Cond.instanceMethod ({ cls := "TideLoans$Tape", name := "<init>", desc := "()V" } : Jvm.MethodName)) ∈ tb := tbm1 96 (by decide +kernel) rfl
theorem tw_160 : (Jvm.Cond.code ({ cls := "TideLoans$Tape", name := "<init>", desc := "()V" } : Jvm.MethodName) prog_4_method_1_code (1 : Nat) (Option.none : Option Jvm.ClassFile.FieldType)) ∈ tb := tbm1 97 (by decide +kernel) rfl
theorem tw_161 : (Jvm.Cond.methodLink "TideLoans$Tape" (3 : Nat) ({ cls := "java/lang/Object", name := "<init>", desc := "()V" } : Jvm.MethodName)) ∈ tb := tbm1 98 (by decide +kernel) rfl
theorem tw_162 : (Jvm.Cond.fieldLink "TideLoans$Tape" (9 : Nat) "TideLoans$Tape" "bytes" "[B") ∈ tb := tbm1 99 (by decide +kernel) rfl
theorem tw_163 : (Jvm.Cond.fieldLink "TideLoans$Tape" (15 : Nat) "TideLoans$Tape" "length" "I") ∈ tb := tbm1 100 (by decide +kernel) rfl
theorem tw_164 : (Jvm.Cond.fieldLink "TideLoans" (234 : Nat) "TideLoans$Tape" "length" "I") ∈ tb := tbm1 101 (by decide +kernel) rfl
theorem tw_165 : (Jvm.Cond.fieldLink "TideLoans$Tape" (32 : Nat) "TideLoans$Tape" "token" "I") ∈ tb := tbm1 102 (by decide +kernel) rfl
theorem tw_166 : (Jvm.Cond.fieldLink "TideLoans" (352 : Nat) "TideLoans$Tape" "token" "I") ∈ tb := tbm1 103 (by decide +kernel) rfl
theorem tw_167 : (Jvm.Cond.fieldLink "TideLoans$Tape" (25 : Nat) "TideLoans$Tape" "start" "I") ∈ tb := tbm1 104 (by decide +kernel) rfl
theorem tw_168 : (Jvm.Cond.fieldLink "TideLoans" (349 : Nat) "TideLoans$Tape" "start" "I") ∈ tb := tbm1 105 (by decide +kernel) rfl
theorem tw_169 : (Jvm.Cond.fieldLink "TideLoans$Tape" (19 : Nat) "TideLoans$Tape" "next" "I") ∈ tb := tbm1 106 (by decide +kernel) rfl
theorem tw_170 : (Jvm.Cond.fieldLink "TideLoans$Tape" (35 : Nat) "TideLoans$Tape" "number" "I") ∈ tb := tbm1 107 (by decide +kernel) rfl
theorem tw_171 : (Jvm.Cond.fieldLink "TideLoans" (382 : Nat) "TideLoans$Tape" "number" "I") ∈ tb := tbm1 108 (by decide +kernel) rfl
theorem tw_172 : (Jvm.Cond.laysFinal "TideLoans$Tape" "TideLoans$Tape" "bytes" "[B") ∈ tb := tbm1 109 (by decide +kernel) rfl
theorem tw_174 : (Jvm.Cond.lays "TideLoans$Tape" "TideLoans$Tape" "length" "I") ∈ tb := tbm1 111 (by decide +kernel) rfl
theorem tw_176 : (Jvm.Cond.lays "TideLoans$Tape" "TideLoans$Tape" "token" "I") ∈ tb := tbm1 113 (by decide +kernel) rfl
theorem tw_178 : (Jvm.Cond.lays "TideLoans$Tape" "TideLoans$Tape" "start" "I") ∈ tb := tbm1 115 (by decide +kernel) rfl
theorem tw_180 : (Jvm.Cond.lays "TideLoans$Tape" "TideLoans$Tape" "next" "I") ∈ tb := tbm1 117 (by decide +kernel) rfl
theorem tw_182 : (Jvm.Cond.lays "TideLoans$Tape" "TideLoans$Tape" "number" "I") ∈ tb := tbm1 119 (by decide +kernel) rfl
theorem tw_185 : (Jvm.Cond.arrayClass Jvm.ClassFile.FieldType.byte) ∈ tb := tbm1 122 (by decide +kernel) rfl
theorem tw_186 : (Jvm.Cond.classLink "TideLoans" (33 : Nat) "TideLoans$Sheet") ∈ tb := tbm1 123 (by decide +kernel) rfl
theorem tw_188 : (Jvm.Cond.classLink "TideLoans" (39 : Nat) "TideLoans$Way") ∈ tb := tbm1 125 (by decide +kernel) rfl
theorem tw_190 : (Jvm.Cond.classLink "TideLoans" (51 : Nat) "TideLoans$Thing") ∈ tb := tbm1 127 (by decide +kernel) rfl
theorem tw_191 : (Jvm.Cond.methodLinkNest "TideLoans" (53 : Nat) ({ cls := "TideLoans$Thing", name := "<init>", desc := "()V" } : Jvm.MethodName) "TideLoans") ∈ nst := nsm1 128 (by decide +kernel) rfl
theorem tw_192 : (Jvm.Cond.instantiable "TideLoans$Way" (5 : Nat)) ∈ tb := tbm1 129 (by decide +kernel) rfl
theorem tw_193 : (Jvm.Cond.methodLinkNest "TideLoans" (58 : Nat) ({ cls := "TideLoans$Way", name := "<init>", desc := "()V" } : Jvm.MethodName) "TideLoans") ∈ nst := nsm1 130 (by decide +kernel) rfl
theorem tw_194 : (Jvm.Cond.instanceMethod ({ cls := "TideLoans$Way", name := "<init>", desc := "()V" } : Jvm.MethodName)) ∈ tb := tbm1 131 (by decide +kernel) rfl
theorem tw_195 : (Jvm.Cond.code ({ cls := "TideLoans$Way", name := "<init>", desc := "()V" } : Jvm.MethodName) prog_6_method_1_code (1 : Nat) (Option.none : Option Jvm.ClassFile.FieldType)) ∈ tb := tbm1 132 (by decide +kernel) rfl
theorem tw_196 : (Jvm.Cond.methodLink "TideLoans$Way" (3 : Nat) ({ cls := "java/lang/Object", name := "<init>", desc := "()V" } : Jvm.MethodName)) ∈ tb := tbm1 133 (by decide +kernel) rfl
theorem tw_197 : (Jvm.Cond.fieldLink "TideLoans$Way" (9 : Nat) "TideLoans$Way" "lentIn" "I") ∈ tb := tbm1 134 (by decide +kernel) rfl
theorem tw_198 : (Jvm.Cond.fieldLink "TideLoans" (195 : Nat) "TideLoans$Way" "lentIn" "I") ∈ tb := tbm1 135 (by decide +kernel) rfl
theorem tw_199 : (Jvm.Cond.fieldLink "TideLoans$Way" (15 : Nat) "TideLoans$Way" "homeIn" "I") ∈ tb := tbm1 136 (by decide +kernel) rfl
theorem tw_200 : (Jvm.Cond.fieldLink "TideLoans" (199 : Nat) "TideLoans$Way" "homeIn" "I") ∈ tb := tbm1 137 (by decide +kernel) rfl
theorem tw_201 : (Jvm.Cond.fieldLink "TideLoans$Way" (18 : Nat) "TideLoans$Way" "away" "I") ∈ tb := tbm1 138 (by decide +kernel) rfl
theorem tw_202 : (Jvm.Cond.fieldLink "TideLoans$Way" (26 : Nat) "TideLoans$Way" "state" "I") ∈ tb := tbm1 139 (by decide +kernel) rfl
theorem tw_203 : (Jvm.Cond.fieldLink "TideLoans" (334 : Nat) "TideLoans$Way" "state" "I") ∈ tb := tbm1 140 (by decide +kernel) rfl
theorem tw_204 : (Jvm.Cond.fieldLink "TideLoans$Way" (30 : Nat) "TideLoans$Way" "since" "I") ∈ tb := tbm1 141 (by decide +kernel) rfl
theorem tw_205 : (Jvm.Cond.fieldLink "TideLoans" (335 : Nat) "TideLoans$Way" "since" "I") ∈ tb := tbm1 142 (by decide +kernel) rfl
theorem tw_206 : (Jvm.Cond.lays "TideLoans$Way" "TideLoans$Way" "lentIn" "I") ∈ tb := tbm1 143 (by decide +kernel) rfl
theorem tw_208 : (Jvm.Cond.lays "TideLoans$Way" "TideLoans$Way" "homeIn" "I") ∈ tb := tbm1 145 (by decide +kernel) rfl
theorem tw_210 : (Jvm.Cond.lays "TideLoans$Way" "TideLoans$Way" "away" "I") ∈ tb := tbm1 147 (by decide +kernel) rfl
theorem tw_212 : (Jvm.Cond.lays "TideLoans$Way" "TideLoans$Way" "state" "I") ∈ tb := tbm1 149 (by decide +kernel) rfl
theorem tw_214 : (Jvm.Cond.lays "TideLoans$Way" "TideLoans$Way" "since" "I") ∈ tb := tbm1 151 (by decide +kernel) rfl
theorem tw_217 : (Jvm.Cond.instantiable "TideLoans$Sheet" (3 : Nat)) ∈ tb := tbm1 154 (by decide +kernel) rfl
theorem tw_218 : (Jvm.Cond.methodLinkNest "TideLoans" (63 : Nat) ({ cls := "TideLoans$Sheet", name := "<init>", desc := "()V" } : Jvm.MethodName) "TideLoans") ∈ nst := nsm1 155 (by decide +kernel) rfl
theorem tw_219 : (Jvm.Cond.instanceMethod ({ cls := "TideLoans$Sheet", name := "<init>", desc := "()V" } : Jvm.MethodName)) ∈ tb := tbm1 156 (by decide +kernel) rfl
theorem tw_220 : (Jvm.Cond.code ({ cls := "TideLoans$Sheet", name := "<init>", desc := "()V" } : Jvm.MethodName) prog_2_method_1_code (1 : Nat) (Option.none : Option Jvm.ClassFile.FieldType)) ∈ tb := tbm1 157 (by decide +kernel) rfl
theorem tw_221 : (Jvm.Cond.methodLink "TideLoans$Sheet" (3 : Nat) ({ cls := "java/lang/Object", name := "<init>", desc := "()V" } : Jvm.MethodName)) ∈ tb := tbm1 158 (by decide +kernel) rfl
theorem tw_222 : (Jvm.Cond.fieldLink "TideLoans$Sheet" (9 : Nat) "TideLoans$Sheet" "numbers" "[J") ∈ tb := tbm1 159 (by decide +kernel) rfl
theorem tw_223 : (Jvm.Cond.fieldLink "TideLoans" (260 : Nat) "TideLoans$Sheet" "numbers" "[J") ∈ tb := tbm1 160 (by decide +kernel) rfl
theorem tw_224 : (Jvm.Cond.fieldLink "TideLoans$Sheet" (15 : Nat) "TideLoans$Sheet" "bits" "I") ∈ tb := tbm1 161 (by decide +kernel) rfl
theorem tw_225 : (Jvm.Cond.fieldLink "TideLoans" (267 : Nat) "TideLoans$Sheet" "bits" "I") ∈ tb := tbm1 162 (by decide +kernel) rfl
theorem tw_226 : (Jvm.Cond.fieldLink "TideLoans$Sheet" (19 : Nat) "TideLoans$Sheet" "size" "I") ∈ tb := tbm1 163 (by decide +kernel) rfl
theorem tw_227 : (Jvm.Cond.fieldLink "TideLoans" (255 : Nat) "TideLoans$Sheet" "size" "I") ∈ tb := tbm1 164 (by decide +kernel) rfl
theorem tw_228 : (Jvm.Cond.laysFinal "TideLoans$Sheet" "TideLoans$Sheet" "numbers" "[J") ∈ tb := tbm1 165 (by decide +kernel) rfl
theorem tw_230 : (Jvm.Cond.lays "TideLoans$Sheet" "TideLoans$Sheet" "bits" "I") ∈ tb := tbm1 167 (by decide +kernel) rfl
theorem tw_232 : (Jvm.Cond.lays "TideLoans$Sheet" "TideLoans$Sheet" "size" "I") ∈ tb := tbm1 169 (by decide +kernel) rfl
theorem tw_235 : (Jvm.Cond.arrayClass Jvm.ClassFile.FieldType.long) ∈ tb := tbm1 172 (by decide +kernel) rfl
theorem tw_236 : (Jvm.Cond.fieldLink "TideLoans" (9 : Nat) "TideLoans" "found" "[I") ∈ tb := tbm1 173 (by decide +kernel) rfl
theorem tw_237 : (Jvm.Cond.fieldLink "TideLoans" (16 : Nat) "TideLoans" "live" "LTideLoans$Shore;") ∈ tb := tbm1 174 (by decide +kernel) rfl
theorem tw_238 : (Jvm.Cond.fieldLink "TideLoans" (20 : Nat) "TideLoans" "kept" "LTideLoans$Shore;") ∈ tb := tbm1 175 (by decide +kernel) rfl
theorem tw_239 : (Jvm.Cond.fieldLink "TideLoans" (23 : Nat) "TideLoans" "draft" "LTideLoans$Shore;") ∈ tb := tbm1 176 (by decide +kernel) rfl
theorem tw_240 : (Jvm.Cond.fieldLink "TideLoans" (29 : Nat) "TideLoans" "tape" "LTideLoans$Tape;") ∈ tb := tbm1 177 (by decide +kernel) rfl
theorem tw_241 : (Jvm.Cond.fieldLink "TideLoans" (35 : Nat) "TideLoans" "sheets" "[LTideLoans$Sheet;") ∈ tb := tbm1 178 (by decide +kernel) rfl
theorem tw_242 : (Jvm.Cond.fieldLink "TideLoans" (41 : Nat) "TideLoans" "ways" "[LTideLoans$Way;") ∈ tb := tbm1 179 (by decide +kernel) rfl
theorem tw_243 : (Jvm.Cond.fieldLink "TideLoans" (45 : Nat) "TideLoans" "shares" "[I") ∈ tb := tbm1 180 (by decide +kernel) rfl
theorem tw_244 : (Jvm.Cond.fieldLink "TideLoans" (48 : Nat) "TideLoans" "course" "[I") ∈ tb := tbm1 181 (by decide +kernel) rfl
theorem tw_245 : (Jvm.Cond.fieldLink "TideLoans" (54 : Nat) "TideLoans" "trial" "LTideLoans$Thing;") ∈ tb := tbm1 182 (by decide +kernel) rfl
theorem tw_246 : (Jvm.Cond.fieldLink "TideLoans" (59 : Nat) "TideLoans" "trialWay" "LTideLoans$Way;") ∈ tb := tbm1 183 (by decide +kernel) rfl
theorem tw_247 : (Jvm.Cond.fieldLink "TideLoans" (292 : Nat) "TideLoans" "isKept" "Z") ∈ tb := tbm1 184 (by decide +kernel) rfl
theorem tw_248 : (Jvm.Cond.laysFinal "TideLoans" "TideLoans" "found" "[I") ∈ tb := tbm1 185 (by decide +kernel) rfl
theorem tw_250 : (Jvm.Cond.laysFinal "TideLoans" "TideLoans" "live" "LTideLoans$Shore;") ∈ tb := tbm1 187 (by decide +kernel) rfl
theorem tw_252 : (Jvm.Cond.laysFinal "TideLoans" "TideLoans" "kept" "LTideLoans$Shore;") ∈ tb := tbm1 189 (by decide +kernel) rfl
theorem tw_254 : (Jvm.Cond.laysFinal "TideLoans" "TideLoans" "draft" "LTideLoans$Shore;") ∈ tb := tbm1 191 (by decide +kernel) rfl
theorem tw_256 : (Jvm.Cond.laysFinal "TideLoans" "TideLoans" "tape" "LTideLoans$Tape;") ∈ tb := tbm1 193 (by decide +kernel) rfl
theorem tw_258 : (Jvm.Cond.laysFinal "TideLoans" "TideLoans" "sheets" "[LTideLoans$Sheet;") ∈ tb := tbm1 195 (by decide +kernel) rfl
theorem tw_260 : (Jvm.Cond.laysFinal "TideLoans" "TideLoans" "ways" "[LTideLoans$Way;") ∈ tb := tbm1 197 (by decide +kernel) rfl
theorem tw_262 : (Jvm.Cond.laysFinal "TideLoans" "TideLoans" "shares" "[I") ∈ tb := tbm1 199 (by decide +kernel) rfl
theorem tw_264 : (Jvm.Cond.laysFinal "TideLoans" "TideLoans" "course" "[I") ∈ tb := tbm1 201 (by decide +kernel) rfl
theorem tw_266 : (Jvm.Cond.laysFinal "TideLoans" "TideLoans" "trial" "LTideLoans$Thing;") ∈ tb := tbm1 203 (by decide +kernel) rfl
theorem tw_268 : (Jvm.Cond.laysFinal "TideLoans" "TideLoans" "trialWay" "LTideLoans$Way;") ∈ tb := tbm1 205 (by decide +kernel) rfl
theorem tw_270 : (Jvm.Cond.lays "TideLoans" "TideLoans" "isKept" "Z") ∈ tb := tbm1 207 (by decide +kernel) rfl
theorem tw_273 : (Jvm.Cond.methodLink "TideLoansLaw" (13 : Nat) ({ cls := "TideLoans", name := "height", desc := "(II)I" } : Jvm.MethodName)) ∈ tb := tbm1 210 (by decide +kernel) rfl
theorem tw_274 : (Jvm.Cond.instanceMethod ({ cls := "TideLoans", name := "height", desc := "(II)I" } : Jvm.MethodName)) ∈ tb := tbm1 211 (by decide +kernel) rfl
theorem tw_275 : (Jvm.Cond.selects "TideLoans" ({ cls := "TideLoans", name := "height", desc := "(II)I" } : Jvm.MethodName) ({ cls := "TideLoans", name := "height", desc := "(II)I" } : Jvm.MethodName)) ∈ tb := tbm1 212 (by decide +kernel) rfl
theorem tw_276 : (Jvm.Cond.code ({ cls := "TideLoans", name := "height", desc := "(II)I" } : Jvm.MethodName) prog_1_method_2_code (4 : Nat) (Option.some Jvm.ClassFile.FieldType.int)) ∈ tb := tbm1 213 (by decide +kernel) rfl
theorem tw_277 : (Jvm.Cond.methodLink "TideLoans" (64 : Nat) ({ cls := "TideLoans", name := "isBelow", desc := "(II)Z" } : Jvm.MethodName)) ∈ tb := tbm1 214 (by decide +kernel) rfl
theorem tw_278 : (Jvm.Cond.static ({ cls := "TideLoans", name := "isBelow", desc := "(II)Z" } : Jvm.MethodName)) ∈ tb := tbm1 215 (by decide +kernel) rfl
theorem tw_279 : (Jvm.Cond.code ({ cls := "TideLoans", name := "isBelow", desc := "(II)Z" } : Jvm.MethodName) prog_1_method_42_code (2 : Nat) (Option.some Jvm.ClassFile.FieldType.boolean)) ∈ tb := tbm1 216 (by decide +kernel) rfl
theorem tw_280 : (Jvm.Cond.constant "TideLoans" (68 : Nat) (-1000000001 : Int32)) ∈ tb := tbm1 217 (by decide +kernel) rfl
theorem tw_281 : (Jvm.Cond.methodLink "TideLoans" (69 : Nat) ({ cls := "TideLoans", name := "finding", desc := "(I)I" } : Jvm.MethodName)) ∈ tb := tbm1 218 (by decide +kernel) rfl
theorem tw_283 : (Jvm.Cond.instanceMethod ({ cls := "TideLoans", name := "finding", desc := "(I)I" } : Jvm.MethodName)) ∈ tb := tbm1 220 (by decide +kernel) rfl
theorem tw_284 : (Jvm.Cond.code ({ cls := "TideLoans", name := "finding", desc := "(I)I" } : Jvm.MethodName) prog_1_method_41_code (3 : Nat) (Option.some Jvm.ClassFile.FieldType.int)) ∈ tb := tbm1 221 (by decide +kernel) rfl
theorem tw_285 : (Jvm.Cond.methodLink "TideLoansLaw" (18 : Nat) ({ cls := "TideLoans", name := "cell", desc := "(II)I" } : Jvm.MethodName)) ∈ tb := tbm1 222 (by decide +kernel) rfl
theorem tw_286 : (Jvm.Cond.instanceMethod ({ cls := "TideLoans", name := "cell", desc := "(II)I" } : Jvm.MethodName)) ∈ tb := tbm1 223 (by decide +kernel) rfl
theorem tw_287 : (Jvm.Cond.selects "TideLoans" ({ cls := "TideLoans", name := "cell", desc := "(II)I" } : Jvm.MethodName) ({ cls := "TideLoans", name := "cell", desc := "(II)I" } : Jvm.MethodName)) ∈ tb := tbm1 224 (by decide +kernel) rfl
theorem tw_288 : (Jvm.Cond.code ({ cls := "TideLoans", name := "cell", desc := "(II)I" } : Jvm.MethodName) prog_1_method_3_code (3 : Nat) (Option.some Jvm.ClassFile.FieldType.int)) ∈ tb := tbm1 225 (by decide +kernel) rfl
theorem tw_289 : (Jvm.Cond.methodLink "TideLoans" (76 : Nat) ({ cls := "TideLoans$Shore", name := "laidAt", desc := "(I)I" } : Jvm.MethodName)) ∈ tb := tbm1 226 (by decide +kernel) rfl
theorem tw_290 : (Jvm.Cond.instanceMethod ({ cls := "TideLoans$Shore", name := "laidAt", desc := "(I)I" } : Jvm.MethodName)) ∈ tb := tbm1 227 (by decide +kernel) rfl
theorem tw_291 : (Jvm.Cond.selects "TideLoans$Shore" ({ cls := "TideLoans$Shore", name := "laidAt", desc := "(I)I" } : Jvm.MethodName) ({ cls := "TideLoans$Shore", name := "laidAt", desc := "(I)I" } : Jvm.MethodName)) ∈ tb := tbm1 228 (by decide +kernel) rfl
theorem tw_292 : (Jvm.Cond.code ({ cls := "TideLoans$Shore", name := "laidAt", desc := "(I)I" } : Jvm.MethodName) prog_3_method_6_code (4 : Nat) (Option.some Jvm.ClassFile.FieldType.int)) ∈ tb := tbm1 229 (by decide +kernel) rfl
theorem tw_293 : (Jvm.Cond.methodLink "TideLoansLaw" (22 : Nat) ({ cls := "TideLoans", name := "interest", desc := "(I)I" } : Jvm.MethodName)) ∈ tb := tbm1 230 (by decide +kernel) rfl
theorem tw_294 : (Jvm.Cond.instanceMethod ({ cls := "TideLoans", name := "interest", desc := "(I)I" } : Jvm.MethodName)) ∈ tb := tbm1 231 (by decide +kernel) rfl
theorem tw_295 : (Jvm.Cond.selects "TideLoans" ({ cls := "TideLoans", name := "interest", desc := "(I)I" } : Jvm.MethodName) ({ cls := "TideLoans", name := "interest", desc := "(I)I" } : Jvm.MethodName)) ∈ tb := tbm1 232 (by decide +kernel) rfl
theorem tw_296 : (Jvm.Cond.code ({ cls := "TideLoans", name := "interest", desc := "(I)I" } : Jvm.MethodName) prog_1_method_4_code (3 : Nat) (Option.some Jvm.ClassFile.FieldType.int)) ∈ tb := tbm1 233 (by decide +kernel) rfl
theorem tw_297 : (Jvm.Cond.methodLink "TideLoans" (79 : Nat) ({ cls := "TideLoans", name := "isUpTo", desc := "(III)Z" } : Jvm.MethodName)) ∈ tb := tbm1 234 (by decide +kernel) rfl
theorem tw_298 : (Jvm.Cond.static ({ cls := "TideLoans", name := "isUpTo", desc := "(III)Z" } : Jvm.MethodName)) ∈ tb := tbm1 235 (by decide +kernel) rfl
theorem tw_299 : (Jvm.Cond.code ({ cls := "TideLoans", name := "isUpTo", desc := "(III)Z" } : Jvm.MethodName) prog_1_method_43_code (3 : Nat) (Option.some Jvm.ClassFile.FieldType.boolean)) ∈ tb := tbm1 236 (by decide +kernel) rfl
theorem tw_300 : (Jvm.Cond.methodLink "TideLoansLaw" (27 : Nat) ({ cls := "TideLoans", name := "tide", desc := "(II)I" } : Jvm.MethodName)) ∈ tb := tbm1 237 (by decide +kernel) rfl
theorem tw_301 : (Jvm.Cond.instanceMethod ({ cls := "TideLoans", name := "tide", desc := "(II)I" } : Jvm.MethodName)) ∈ tb := tbm1 238 (by decide +kernel) rfl
theorem tw_302 : (Jvm.Cond.selects "TideLoans" ({ cls := "TideLoans", name := "tide", desc := "(II)I" } : Jvm.MethodName) ({ cls := "TideLoans", name := "tide", desc := "(II)I" } : Jvm.MethodName)) ∈ tb := tbm1 239 (by decide +kernel) rfl
theorem tw_303 : (Jvm.Cond.code ({ cls := "TideLoans", name := "tide", desc := "(II)I" } : Jvm.MethodName) prog_1_method_5_code (3 : Nat) (Option.some Jvm.ClassFile.FieldType.int)) ∈ tb := tbm2 0 (by decide +kernel) rfl
theorem tw_304 : (Jvm.Cond.constant "TideLoans" (87 : Nat) (99999 : Int32)) ∈ tb := tbm2 1 (by decide +kernel) rfl
theorem tw_305 : (Jvm.Cond.methodLink "TideLoans" (88 : Nat) ({ cls := "TideLoans", name := "markOf", desc := "(I)I" } : Jvm.MethodName)) ∈ tb := tbm2 2 (by decide +kernel) rfl
theorem tw_306 : (Jvm.Cond.static ({ cls := "TideLoans", name := "markOf", desc := "(I)I" } : Jvm.MethodName)) ∈ tb := tbm2 3 (by decide +kernel) rfl
theorem tw_307 : (Jvm.Cond.code ({ cls := "TideLoans", name := "markOf", desc := "(I)I" } : Jvm.MethodName) prog_1_method_47_code (3 : Nat) (Option.some Jvm.ClassFile.FieldType.int)) ∈ tb := tbm2 4 (by decide +kernel) rfl
theorem tw_308 : (Jvm.Cond.methodLink "TideLoans" (91 : Nat) ({ cls := "TideLoans", name := "moonOf", desc := "(I)I" } : Jvm.MethodName)) ∈ tb := tbm2 5 (by decide +kernel) rfl
theorem tw_309 : (Jvm.Cond.static ({ cls := "TideLoans", name := "moonOf", desc := "(I)I" } : Jvm.MethodName)) ∈ tb := tbm2 6 (by decide +kernel) rfl
theorem tw_310 : (Jvm.Cond.code ({ cls := "TideLoans", name := "moonOf", desc := "(I)I" } : Jvm.MethodName) prog_1_method_45_code (1 : Nat) (Option.some Jvm.ClassFile.FieldType.int)) ∈ tb := tbm2 7 (by decide +kernel) rfl
theorem tw_311 : (Jvm.Cond.methodLink "TideLoans" (94 : Nat) ({ cls := "TideLoans", name := "isSpring", desc := "(I)Z" } : Jvm.MethodName)) ∈ tb := tbm2 8 (by decide +kernel) rfl
theorem tw_312 : (Jvm.Cond.static ({ cls := "TideLoans", name := "isSpring", desc := "(I)Z" } : Jvm.MethodName)) ∈ tb := tbm2 9 (by decide +kernel) rfl
theorem tw_313 : (Jvm.Cond.code ({ cls := "TideLoans", name := "isSpring", desc := "(I)Z" } : Jvm.MethodName) prog_1_method_46_code (1 : Nat) (Option.some Jvm.ClassFile.FieldType.boolean)) ∈ tb := tbm2 10 (by decide +kernel) rfl
theorem tw_314 : (Jvm.Cond.methodLink "TideLoans" (98 : Nat) ({ cls := "TideLoans$Shore", name := "cellsBelow", desc := "(I)I" } : Jvm.MethodName)) ∈ tb := tbm2 11 (by decide +kernel) rfl
theorem tw_315 : (Jvm.Cond.instanceMethod ({ cls := "TideLoans$Shore", name := "cellsBelow", desc := "(I)I" } : Jvm.MethodName)) ∈ tb := tbm2 12 (by decide +kernel) rfl
theorem tw_316 : (Jvm.Cond.selects "TideLoans$Shore" ({ cls := "TideLoans$Shore", name := "cellsBelow", desc := "(I)I" } : Jvm.MethodName) ({ cls := "TideLoans$Shore", name := "cellsBelow", desc := "(I)I" } : Jvm.MethodName)) ∈ tb := tbm2 13 (by decide +kernel) rfl
theorem tw_317 : (Jvm.Cond.code ({ cls := "TideLoans$Shore", name := "cellsBelow", desc := "(I)I" } : Jvm.MethodName) prog_3_method_10_code (4 : Nat) (Option.some Jvm.ClassFile.FieldType.int)) ∈ tb := tbm2 14 (by decide +kernel) rfl
theorem tw_318 : (Jvm.Cond.methodLink "TideLoansLaw" (31 : Nat) ({ cls := "TideLoans", name := "purse", desc := "(II)I" } : Jvm.MethodName)) ∈ tb := tbm2 15 (by decide +kernel) rfl
theorem tw_319 : (Jvm.Cond.instanceMethod ({ cls := "TideLoans", name := "purse", desc := "(II)I" } : Jvm.MethodName)) ∈ tb := tbm2 16 (by decide +kernel) rfl
theorem tw_320 : (Jvm.Cond.selects "TideLoans" ({ cls := "TideLoans", name := "purse", desc := "(II)I" } : Jvm.MethodName) ({ cls := "TideLoans", name := "purse", desc := "(II)I" } : Jvm.MethodName)) ∈ tb := tbm2 17 (by decide +kernel) rfl
theorem tw_321 : (Jvm.Cond.code ({ cls := "TideLoans", name := "purse", desc := "(II)I" } : Jvm.MethodName) prog_1_method_6_code (4 : Nat) (Option.some Jvm.ClassFile.FieldType.int)) ∈ tb := tbm2 18 (by decide +kernel) rfl
theorem tw_322 : (Jvm.Cond.constant "TideLoans" (101 : Nat) (999999999 : Int32)) ∈ tb := tbm2 19 (by decide +kernel) rfl
theorem tw_323 : (Jvm.Cond.methodLink "TideLoansLaw" (35 : Nat) ({ cls := "TideLoans", name := "thing", desc := "(II)I" } : Jvm.MethodName)) ∈ tb := tbm2 20 (by decide +kernel) rfl
theorem tw_324 : (Jvm.Cond.instanceMethod ({ cls := "TideLoans", name := "thing", desc := "(II)I" } : Jvm.MethodName)) ∈ tb := tbm2 21 (by decide +kernel) rfl
theorem tw_325 : (Jvm.Cond.selects "TideLoans" ({ cls := "TideLoans", name := "thing", desc := "(II)I" } : Jvm.MethodName) ({ cls := "TideLoans", name := "thing", desc := "(II)I" } : Jvm.MethodName)) ∈ tb := tbm2 22 (by decide +kernel) rfl
theorem tw_326 : (Jvm.Cond.code ({ cls := "TideLoans", name := "thing", desc := "(II)I" } : Jvm.MethodName) prog_1_method_7_code (3 : Nat) (Option.some Jvm.ClassFile.FieldType.int)) ∈ tb := tbm2 23 (by decide +kernel) rfl
theorem tw_327 : (Jvm.Cond.methodLink "TideLoans" (105 : Nat) ({ cls := "TideLoans$Shore", name := "isFull", desc := "()Z" } : Jvm.MethodName)) ∈ tb := tbm2 24 (by decide +kernel) rfl
theorem tw_328 : (Jvm.Cond.instanceMethod ({ cls := "TideLoans$Shore", name := "isFull", desc := "()Z" } : Jvm.MethodName)) ∈ tb := tbm2 25 (by decide +kernel) rfl
theorem tw_329 : (Jvm.Cond.selects "TideLoans$Shore" ({ cls := "TideLoans$Shore", name := "isFull", desc := "()Z" } : Jvm.MethodName) ({ cls := "TideLoans$Shore", name := "isFull", desc := "()Z" } : Jvm.MethodName)) ∈ tb := tbm2 26 (by decide +kernel) rfl
theorem tw_330 : (Jvm.Cond.code ({ cls := "TideLoans$Shore", name := "isFull", desc := "()Z" } : Jvm.MethodName) prog_3_method_4_code (1 : Nat) (Option.some Jvm.ClassFile.FieldType.boolean)) ∈ tb := tbm2 27 (by decide +kernel) rfl
theorem tw_331 : (Jvm.Cond.constant "TideLoans" (109 : Nat) (-1000000002 : Int32)) ∈ tb := tbm2 28 (by decide +kernel) rfl
theorem tw_332 : (Jvm.Cond.methodLink "TideLoans" (110 : Nat) ({ cls := "TideLoans$Shore", name := "add", desc := "(II)I" } : Jvm.MethodName)) ∈ tb := tbm2 29 (by decide +kernel) rfl
theorem tw_333 : (Jvm.Cond.instanceMethod ({ cls := "TideLoans$Shore", name := "add", desc := "(II)I" } : Jvm.MethodName)) ∈ tb := tbm2 30 (by decide +kernel) rfl
theorem tw_334 : (Jvm.Cond.selects "TideLoans$Shore" ({ cls := "TideLoans$Shore", name := "add", desc := "(II)I" } : Jvm.MethodName) ({ cls := "TideLoans$Shore", name := "add", desc := "(II)I" } : Jvm.MethodName)) ∈ tb := tbm2 31 (by decide +kernel) rfl
theorem tw_335 : (Jvm.Cond.code ({ cls := "TideLoans$Shore", name := "add", desc := "(II)I" } : Jvm.MethodName) prog_3_method_5_code (3 : Nat) (Option.some Jvm.ClassFile.FieldType.int)) ∈ tb := tbm2 32 (by decide +kernel) rfl
theorem tw_336 : (Jvm.Cond.methodLink "TideLoans$Shore" (49 : Nat) ({ cls := "TideLoans$Shore", name := "isFull", desc := "()Z" } : Jvm.MethodName)) ∈ tb := tbm2 33 (by decide +kernel) rfl
theorem tw_337 : (Jvm.Cond.methodLink "TideLoans$Shore" (53 : Nat) ({ cls := "TideLoans$Thing", name := "begin", desc := "(II)V" } : Jvm.MethodName)) ∈ tb := tbm2 34 (by decide +kernel) rfl
theorem tw_338 : (Jvm.Cond.instanceMethod ({ cls := "TideLoans$Thing", name := "begin", desc := "(II)V" } : Jvm.MethodName)) ∈ tb := tbm2 35 (by decide +kernel) rfl
theorem tw_339 : (Jvm.Cond.selects "TideLoans$Thing" ({ cls := "TideLoans$Thing", name := "begin", desc := "(II)V" } : Jvm.MethodName) ({ cls := "TideLoans$Thing", name := "begin", desc := "(II)V" } : Jvm.MethodName)) ∈ tb := tbm2 36 (by decide +kernel) rfl
theorem tw_340 : (Jvm.Cond.code ({ cls := "TideLoans$Thing", name := "begin", desc := "(II)V" } : Jvm.MethodName) prog_5_method_2_code (3 : Nat) (Option.none : Option Jvm.ClassFile.FieldType)) ∈ tb := tbm2 37 (by decide +kernel) rfl
theorem tw_341 : (Jvm.Cond.methodLink "TideLoansLaw" (39 : Nat) ({ cls := "TideLoans", name := "of", desc := "(II)I" } : Jvm.MethodName)) ∈ tb := tbm2 38 (by decide +kernel) rfl
theorem tw_342 : (Jvm.Cond.instanceMethod ({ cls := "TideLoans", name := "of", desc := "(II)I" } : Jvm.MethodName)) ∈ tb := tbm2 39 (by decide +kernel) rfl
theorem tw_343 : (Jvm.Cond.selects "TideLoans" ({ cls := "TideLoans", name := "of", desc := "(II)I" } : Jvm.MethodName) ({ cls := "TideLoans", name := "of", desc := "(II)I" } : Jvm.MethodName)) ∈ tb := tbm2 40 (by decide +kernel) rfl
theorem tw_344 : (Jvm.Cond.code ({ cls := "TideLoans", name := "of", desc := "(II)I" } : Jvm.MethodName) prog_1_method_8_code (4 : Nat) (Option.some Jvm.ClassFile.FieldType.int)) ∈ tb := tbm2 41 (by decide +kernel) rfl
theorem tw_345 : (Jvm.Cond.methodLink "TideLoans" (114 : Nat) ({ cls := "TideLoans$Shore", name := "has", desc := "(I)Z" } : Jvm.MethodName)) ∈ tb := tbm2 42 (by decide +kernel) rfl
theorem tw_346 : (Jvm.Cond.instanceMethod ({ cls := "TideLoans$Shore", name := "has", desc := "(I)Z" } : Jvm.MethodName)) ∈ tb := tbm2 43 (by decide +kernel) rfl
theorem tw_347 : (Jvm.Cond.selects "TideLoans$Shore" ({ cls := "TideLoans$Shore", name := "has", desc := "(I)Z" } : Jvm.MethodName) ({ cls := "TideLoans$Shore", name := "has", desc := "(I)Z" } : Jvm.MethodName)) ∈ tb := tbm2 44 (by decide +kernel) rfl
theorem tw_348 : (Jvm.Cond.code ({ cls := "TideLoans$Shore", name := "has", desc := "(I)Z" } : Jvm.MethodName) prog_3_method_3_code (2 : Nat) (Option.some Jvm.ClassFile.FieldType.boolean)) ∈ tb := tbm2 45 (by decide +kernel) rfl
theorem tw_349 : (Jvm.Cond.methodLinkNest "TideLoans$Shore" (45 : Nat) ({ cls := "TideLoans", name := "isBelow", desc := "(II)Z" } : Jvm.MethodName) "TideLoans") ∈ nst := nsm2 46 (by decide +kernel) rfl
theorem tw_350 : (Jvm.Cond.methodLink "TideLoans" (139 : Nat) ({ cls := "TideLoans", name := "termOf", desc := "(I)I" } : Jvm.MethodName)) ∈ tb := tbm2 47 (by decide +kernel) rfl
theorem tw_351 : (Jvm.Cond.static ({ cls := "TideLoans", name := "termOf", desc := "(I)I" } : Jvm.MethodName)) ∈ tb := tbm2 48 (by decide +kernel) rfl
theorem tw_352 : (Jvm.Cond.code ({ cls := "TideLoans", name := "termOf", desc := "(I)I" } : Jvm.MethodName) prog_1_method_52_code (1 : Nat) (Option.some Jvm.ClassFile.FieldType.int)) ∈ tb := tbm2 49 (by decide +kernel) rfl
theorem tw_353 : (Jvm.Cond.methodLink "TideLoans" (142 : Nat) ({ cls := "TideLoans", name := "owedNow", desc := "(LTideLoans$Thing;)I" } : Jvm.MethodName)) ∈ tb := tbm2 50 (by decide +kernel) rfl
theorem tw_355 : (Jvm.Cond.instanceMethod ({ cls := "TideLoans", name := "owedNow", desc := "(LTideLoans$Thing;)I" } : Jvm.MethodName)) ∈ tb := tbm2 52 (by decide +kernel) rfl
theorem tw_356 : (Jvm.Cond.code ({ cls := "TideLoans", name := "owedNow", desc := "(LTideLoans$Thing;)I" } : Jvm.MethodName) prog_1_method_55_code (2 : Nat) (Option.some Jvm.ClassFile.FieldType.int)) ∈ tb := tbm2 53 (by decide +kernel) rfl
theorem tw_357 : (Jvm.Cond.methodLink "TideLoans" (325 : Nat) ({ cls := "TideLoans", name := "repaid", desc := "(LTideLoans$Thing;III)I" } : Jvm.MethodName)) ∈ tb := tbm2 54 (by decide +kernel) rfl
theorem tw_358 : (Jvm.Cond.static ({ cls := "TideLoans", name := "repaid", desc := "(LTideLoans$Thing;III)I" } : Jvm.MethodName)) ∈ tb := tbm2 55 (by decide +kernel) rfl
theorem tw_359 : (Jvm.Cond.code ({ cls := "TideLoans", name := "repaid", desc := "(LTideLoans$Thing;III)I" } : Jvm.MethodName) prog_1_method_54_code (6 : Nat) (Option.some Jvm.ClassFile.FieldType.int)) ∈ tb := tbm2 56 (by decide +kernel) rfl
theorem tw_360 : (Jvm.Cond.constantLong "TideLoans" (315 : Nat) (100 : Int64)) ∈ tb := tbm2 57 (by decide +kernel) rfl
theorem tw_361 : (Jvm.Cond.constantLong "TideLoans" (317 : Nat) (99999999 : Int64)) ∈ tb := tbm2 58 (by decide +kernel) rfl
theorem tw_362 : (Jvm.Cond.methodLink "TideLoans" (305 : Nat) ({ cls := "TideLoans", name := "broughtAs", desc := "(IJI)J" } : Jvm.MethodName)) ∈ tb := tbm2 59 (by decide +kernel) rfl
theorem tw_363 : (Jvm.Cond.static ({ cls := "TideLoans", name := "broughtAs", desc := "(IJI)J" } : Jvm.MethodName)) ∈ tb := tbm2 60 (by decide +kernel) rfl
theorem tw_364 : (Jvm.Cond.code ({ cls := "TideLoans", name := "broughtAs", desc := "(IJI)J" } : Jvm.MethodName) prog_1_method_53_code (4 : Nat) (Option.some Jvm.ClassFile.FieldType.long)) ∈ tb := tbm2 61 (by decide +kernel) rfl
theorem tw_365 : (Jvm.Cond.constantLong "TideLoans" (309 : Nat) (5 : Int64)) ∈ tb := tbm2 62 (by decide +kernel) rfl
theorem tw_366 : (Jvm.Cond.constantLong "TideLoans" (311 : Nat) (2 : Int64)) ∈ tb := tbm2 63 (by decide +kernel) rfl
theorem tw_367 : (Jvm.Cond.constantLong "TideLoans" (313 : Nat) (3 : Int64)) ∈ tb := tbm2 64 (by decide +kernel) rfl
theorem tw_368 : (Jvm.Cond.methodLink "TideLoans" (319 : Nat) ({ cls := "java/lang/Math", name := "min", desc := "(JJ)J" } : Jvm.MethodName)) ∈ tb := tbm2 65 (by decide +kernel) rfl
theorem tw_369 : (Jvm.Cond.static ({ cls := "java/lang/Math", name := "min", desc := "(JJ)J" } : Jvm.MethodName)) ∈ tb := tbm2 66 (by decide +kernel) rfl
theorem tw_370 : (Jvm.Cond.code ({ cls := "java/lang/Math", name := "min", desc := "(JJ)J" } : Jvm.MethodName) prog_10_method_70_code (4 : Nat) (Option.some Jvm.ClassFile.FieldType.long)) ∈ tb := tbm2 67 (by decide +kernel) rfl
theorem tw_371 : (Jvm.Cond.methodLink "TideLoansLaw" (43 : Nat) ({ cls := "TideLoans", name := "set", desc := "(III)I" } : Jvm.MethodName)) ∈ tb := tbm2 68 (by decide +kernel) rfl
theorem tw_372 : (Jvm.Cond.instanceMethod ({ cls := "TideLoans", name := "set", desc := "(III)I" } : Jvm.MethodName)) ∈ tb := tbm2 69 (by decide +kernel) rfl
theorem tw_373 : (Jvm.Cond.selects "TideLoans" ({ cls := "TideLoans", name := "set", desc := "(III)I" } : Jvm.MethodName) ({ cls := "TideLoans", name := "set", desc := "(III)I" } : Jvm.MethodName)) ∈ tb := tbm2 70 (by decide +kernel) rfl
theorem tw_374 : (Jvm.Cond.code ({ cls := "TideLoans", name := "set", desc := "(III)I" } : Jvm.MethodName) prog_1_method_9_code (6 : Nat) (Option.some Jvm.ClassFile.FieldType.int)) ∈ tb := tbm2 71 (by decide +kernel) rfl
theorem tw_375 : (Jvm.Cond.methodLink "TideLoansLaw" (48 : Nat) ({ cls := "TideLoans", name := "turn", desc := "(II)I" } : Jvm.MethodName)) ∈ tb := tbm2 72 (by decide +kernel) rfl
theorem tw_376 : (Jvm.Cond.instanceMethod ({ cls := "TideLoans", name := "turn", desc := "(II)I" } : Jvm.MethodName)) ∈ tb := tbm2 73 (by decide +kernel) rfl
theorem tw_377 : (Jvm.Cond.selects "TideLoans" ({ cls := "TideLoans", name := "turn", desc := "(II)I" } : Jvm.MethodName) ({ cls := "TideLoans", name := "turn", desc := "(II)I" } : Jvm.MethodName)) ∈ tb := tbm2 74 (by decide +kernel) rfl
theorem tw_378 : (Jvm.Cond.code ({ cls := "TideLoans", name := "turn", desc := "(II)I" } : Jvm.MethodName) prog_1_method_10_code (5 : Nat) (Option.some Jvm.ClassFile.FieldType.int)) ∈ tb := tbm2 75 (by decide +kernel) rfl
theorem tw_379 : (Jvm.Cond.methodLink "TideLoansLaw" (52 : Nat) ({ cls := "TideLoans", name := "as", desc := "(II)I" } : Jvm.MethodName)) ∈ tb := tbm2 76 (by decide +kernel) rfl
theorem tw_380 : (Jvm.Cond.instanceMethod ({ cls := "TideLoans", name := "as", desc := "(II)I" } : Jvm.MethodName)) ∈ tb := tbm2 77 (by decide +kernel) rfl
theorem tw_381 : (Jvm.Cond.selects "TideLoans" ({ cls := "TideLoans", name := "as", desc := "(II)I" } : Jvm.MethodName) ({ cls := "TideLoans", name := "as", desc := "(II)I" } : Jvm.MethodName)) ∈ tb := tbm2 78 (by decide +kernel) rfl
theorem tw_382 : (Jvm.Cond.code ({ cls := "TideLoans", name := "as", desc := "(II)I" } : Jvm.MethodName) prog_1_method_11_code (4 : Nat) (Option.some Jvm.ClassFile.FieldType.int)) ∈ tb := tbm2 79 (by decide +kernel) rfl
theorem tw_383 : (Jvm.Cond.methodLink "TideLoans" (146 : Nat) ({ cls := "TideLoans", name := "isUnder", desc := "(II)Z" } : Jvm.MethodName)) ∈ tb := tbm2 80 (by decide +kernel) rfl
theorem tw_384 : (Jvm.Cond.static ({ cls := "TideLoans", name := "isUnder", desc := "(II)Z" } : Jvm.MethodName)) ∈ tb := tbm2 81 (by decide +kernel) rfl
theorem tw_385 : (Jvm.Cond.code ({ cls := "TideLoans", name := "isUnder", desc := "(II)Z" } : Jvm.MethodName) prog_1_method_50_code (4 : Nat) (Option.some Jvm.ClassFile.FieldType.boolean)) ∈ tb := tbm2 82 (by decide +kernel) rfl
theorem tw_386 : (Jvm.Cond.methodLink "TideLoans" (299 : Nat) ({ cls := "TideLoans", name := "kindAbove", desc := "(I)I" } : Jvm.MethodName)) ∈ tb := tbm2 83 (by decide +kernel) rfl
theorem tw_387 : (Jvm.Cond.static ({ cls := "TideLoans", name := "kindAbove", desc := "(I)I" } : Jvm.MethodName)) ∈ tb := tbm2 84 (by decide +kernel) rfl
theorem tw_388 : (Jvm.Cond.code ({ cls := "TideLoans", name := "kindAbove", desc := "(I)I" } : Jvm.MethodName) prog_1_method_49_code (1 : Nat) (Option.some Jvm.ClassFile.FieldType.int)) ∈ tb := tbm2 85 (by decide +kernel) rfl
theorem tw_389 : (Jvm.Cond.constant "TideLoans" (149 : Nat) (-1000000003 : Int32)) ∈ tb := tbm2 86 (by decide +kernel) rfl
theorem tw_390 : (Jvm.Cond.methodLink "TideLoansLaw" (56 : Nat) ({ cls := "TideLoans", name := "lay", desc := "(II)I" } : Jvm.MethodName)) ∈ tb := tbm2 87 (by decide +kernel) rfl
theorem tw_391 : (Jvm.Cond.instanceMethod ({ cls := "TideLoans", name := "lay", desc := "(II)I" } : Jvm.MethodName)) ∈ tb := tbm2 88 (by decide +kernel) rfl
theorem tw_392 : (Jvm.Cond.selects "TideLoans" ({ cls := "TideLoans", name := "lay", desc := "(II)I" } : Jvm.MethodName) ({ cls := "TideLoans", name := "lay", desc := "(II)I" } : Jvm.MethodName)) ∈ tb := tbm2 89 (by decide +kernel) rfl
theorem tw_393 : (Jvm.Cond.code ({ cls := "TideLoans", name := "lay", desc := "(II)I" } : Jvm.MethodName) prog_1_method_12_code (4 : Nat) (Option.some Jvm.ClassFile.FieldType.int)) ∈ tb := tbm2 90 (by decide +kernel) rfl
theorem tw_394 : (Jvm.Cond.constant "TideLoans" (150 : Nat) (-1000000005 : Int32)) ∈ tb := tbm2 91 (by decide +kernel) rfl
theorem tw_395 : (Jvm.Cond.methodLink "TideLoans" (151 : Nat) ({ cls := "TideLoans$Thing", name := "layAt", desc := "(I)V" } : Jvm.MethodName)) ∈ tb := tbm2 92 (by decide +kernel) rfl
theorem tw_396 : (Jvm.Cond.instanceMethod ({ cls := "TideLoans$Thing", name := "layAt", desc := "(I)V" } : Jvm.MethodName)) ∈ tb := tbm2 93 (by decide +kernel) rfl
theorem tw_397 : (Jvm.Cond.selects "TideLoans$Thing" ({ cls := "TideLoans$Thing", name := "layAt", desc := "(I)V" } : Jvm.MethodName) ({ cls := "TideLoans$Thing", name := "layAt", desc := "(I)V" } : Jvm.MethodName)) ∈ tb := tbm2 94 (by decide +kernel) rfl
theorem tw_398 : (Jvm.Cond.code ({ cls := "TideLoans$Thing", name := "layAt", desc := "(I)V" } : Jvm.MethodName) prog_5_method_3_code (2 : Nat) (Option.none : Option Jvm.ClassFile.FieldType)) ∈ tb := tbm2 95 (by decide +kernel) rfl
theorem tw_399 : (Jvm.Cond.methodLink "TideLoans" (155 : Nat) ({ cls := "java/lang/Integer", name := "bitCount", desc := "(I)I" } : Jvm.MethodName)) ∈ tb := tbm2 96 (by decide +kernel) rfl
theorem tw_400 : (Jvm.Cond.static ({ cls := "java/lang/Integer", name := "bitCount", desc := "(I)I" } : Jvm.MethodName)) ∈ tb := tbm2 97 (by decide +kernel) rfl
theorem tw_401 : (Jvm.Cond.code ({ cls := "java/lang/Integer", name := "bitCount", desc := "(I)I" } : Jvm.MethodName) prog_9_method_49_code (1 : Nat) (Option.some Jvm.ClassFile.FieldType.int)) ∈ tb := tbm2 98 (by decide +kernel) rfl
theorem tw_402 : (Jvm.Cond.constant "java/lang/Integer" (265 : Nat) (1431655765 : Int32)) ∈ tb := tbm2 99 (by decide +kernel) rfl
theorem tw_403 : (Jvm.Cond.constant "java/lang/Integer" (266 : Nat) (858993459 : Int32)) ∈ tb := tbm2 100 (by decide +kernel) rfl
theorem tw_404 : (Jvm.Cond.constant "java/lang/Integer" (267 : Nat) (252645135 : Int32)) ∈ tb := tbm2 101 (by decide +kernel) rfl
theorem tw_405 : (Jvm.Cond.methodLink "TideLoansLaw" (60 : Nat) ({ cls := "TideLoans", name := "fetch", desc := "(I)I" } : Jvm.MethodName)) ∈ tb := tbm2 102 (by decide +kernel) rfl
theorem tw_406 : (Jvm.Cond.instanceMethod ({ cls := "TideLoans", name := "fetch", desc := "(I)I" } : Jvm.MethodName)) ∈ tb := tbm2 103 (by decide +kernel) rfl
theorem tw_407 : (Jvm.Cond.selects "TideLoans" ({ cls := "TideLoans", name := "fetch", desc := "(I)I" } : Jvm.MethodName) ({ cls := "TideLoans", name := "fetch", desc := "(I)I" } : Jvm.MethodName)) ∈ tb := tbm2 104 (by decide +kernel) rfl
theorem tw_408 : (Jvm.Cond.code ({ cls := "TideLoans", name := "fetch", desc := "(I)I" } : Jvm.MethodName) prog_1_method_13_code (3 : Nat) (Option.some Jvm.ClassFile.FieldType.int)) ∈ tb := tbm2 105 (by decide +kernel) rfl
theorem tw_409 : (Jvm.Cond.methodLink "TideLoansLaw" (64 : Nat) ({ cls := "TideLoans", name := "days", desc := "(I)J" } : Jvm.MethodName)) ∈ tb := tbm2 106 (by decide +kernel) rfl
theorem tw_410 : (Jvm.Cond.instanceMethod ({ cls := "TideLoans", name := "days", desc := "(I)J" } : Jvm.MethodName)) ∈ tb := tbm2 107 (by decide +kernel) rfl
theorem tw_411 : (Jvm.Cond.selects "TideLoans" ({ cls := "TideLoans", name := "days", desc := "(I)J" } : Jvm.MethodName) ({ cls := "TideLoans", name := "days", desc := "(I)J" } : Jvm.MethodName)) ∈ tb := tbm2 108 (by decide +kernel) rfl
theorem tw_412 : (Jvm.Cond.code ({ cls := "TideLoans", name := "days", desc := "(I)J" } : Jvm.MethodName) prog_1_method_14_code (3 : Nat) (Option.some Jvm.ClassFile.FieldType.long)) ∈ tb := tbm2 109 (by decide +kernel) rfl
theorem tw_413 : (Jvm.Cond.methodLink "TideLoans" (163 : Nat) ({ cls := "TideLoans", name := "followAll", desc := "(I)V" } : Jvm.MethodName)) ∈ tb := tbm2 110 (by decide +kernel) rfl
theorem tw_415 : (Jvm.Cond.instanceMethod ({ cls := "TideLoans", name := "followAll", desc := "(I)V" } : Jvm.MethodName)) ∈ tb := tbm2 112 (by decide +kernel) rfl
theorem tw_416 : (Jvm.Cond.code ({ cls := "TideLoans", name := "followAll", desc := "(I)V" } : Jvm.MethodName) prog_1_method_59_code (3 : Nat) (Option.none : Option Jvm.ClassFile.FieldType)) ∈ tb := tbm2 113 (by decide +kernel) rfl
theorem tw_417 : (Jvm.Cond.methodLink "TideLoans" (191 : Nat) ({ cls := "TideLoans", name := "follow", desc := "(II)V" } : Jvm.MethodName)) ∈ tb := tbm2 114 (by decide +kernel) rfl
theorem tw_419 : (Jvm.Cond.instanceMethod ({ cls := "TideLoans", name := "follow", desc := "(II)V" } : Jvm.MethodName)) ∈ tb := tbm2 116 (by decide +kernel) rfl
theorem tw_420 : (Jvm.Cond.code ({ cls := "TideLoans", name := "follow", desc := "(II)V" } : Jvm.MethodName) prog_1_method_58_code (4 : Nat) (Option.none : Option Jvm.ClassFile.FieldType)) ∈ tb := tbm2 117 (by decide +kernel) rfl
theorem tw_421 : (Jvm.Cond.methodLink "TideLoans" (331 : Nat) ({ cls := "TideLoans$Way", name := "follow", desc := "(LTideLoans$Thing;III)V" } : Jvm.MethodName)) ∈ tb := tbm2 118 (by decide +kernel) rfl
theorem tw_422 : (Jvm.Cond.instanceMethod ({ cls := "TideLoans$Way", name := "follow", desc := "(LTideLoans$Thing;III)V" } : Jvm.MethodName)) ∈ tb := tbm2 119 (by decide +kernel) rfl
theorem tw_423 : (Jvm.Cond.selects "TideLoans$Way" ({ cls := "TideLoans$Way", name := "follow", desc := "(LTideLoans$Thing;III)V" } : Jvm.MethodName) ({ cls := "TideLoans$Way", name := "follow", desc := "(LTideLoans$Thing;III)V" } : Jvm.MethodName)) ∈ tb := tbm2 120 (by decide +kernel) rfl
theorem tw_424 : (Jvm.Cond.code ({ cls := "TideLoans$Way", name := "follow", desc := "(LTideLoans$Thing;III)V" } : Jvm.MethodName) prog_6_method_2_code (5 : Nat) (Option.none : Option Jvm.ClassFile.FieldType)) ∈ tb := tbm2 121 (by decide +kernel) rfl
theorem tw_425 : (Jvm.Cond.methodLink "TideLoans$Way" (34 : Nat) ({ cls := "TideLoans$Way", name := "waitForTide", desc := "(IIII)V" } : Jvm.MethodName)) ∈ tb := tbm2 122 (by decide +kernel) rfl
theorem tw_427 : (Jvm.Cond.instanceMethod ({ cls := "TideLoans$Way", name := "waitForTide", desc := "(IIII)V" } : Jvm.MethodName)) ∈ tb := tbm2 124 (by decide +kernel) rfl
theorem tw_428 : (Jvm.Cond.code ({ cls := "TideLoans$Way", name := "waitForTide", desc := "(IIII)V" } : Jvm.MethodName) prog_6_method_3_code (6 : Nat) (Option.none : Option Jvm.ClassFile.FieldType)) ∈ tb := tbm2 125 (by decide +kernel) rfl
theorem tw_429 : (Jvm.Cond.methodLinkNest "TideLoans$Way" (42 : Nat) ({ cls := "TideLoans", name := "isTaken", desc := "(III)Z" } : Jvm.MethodName) "TideLoans") ∈ nst := nsm2 126 (by decide +kernel) rfl
theorem tw_430 : (Jvm.Cond.static ({ cls := "TideLoans", name := "isTaken", desc := "(III)Z" } : Jvm.MethodName)) ∈ tb := tbm2 127 (by decide +kernel) rfl
theorem tw_431 : (Jvm.Cond.code ({ cls := "TideLoans", name := "isTaken", desc := "(III)Z" } : Jvm.MethodName) prog_1_method_51_code (3 : Nat) (Option.some Jvm.ClassFile.FieldType.boolean)) ∈ tb := tbm2 128 (by decide +kernel) rfl
theorem tw_432 : (Jvm.Cond.methodLink "TideLoans" (302 : Nat) ({ cls := "TideLoans", name := "isTaken", desc := "(III)Z" } : Jvm.MethodName)) ∈ tb := tbm2 129 (by decide +kernel) rfl
theorem tw_433 : (Jvm.Cond.methodLink "TideLoans$Way" (38 : Nat) ({ cls := "TideLoans$Way", name := "waitForSpring", desc := "(III)V" } : Jvm.MethodName)) ∈ tb := tbm2 130 (by decide +kernel) rfl
theorem tw_435 : (Jvm.Cond.instanceMethod ({ cls := "TideLoans$Way", name := "waitForSpring", desc := "(III)V" } : Jvm.MethodName)) ∈ tb := tbm2 132 (by decide +kernel) rfl
theorem tw_436 : (Jvm.Cond.code ({ cls := "TideLoans$Way", name := "waitForSpring", desc := "(III)V" } : Jvm.MethodName) prog_6_method_4_code (5 : Nat) (Option.none : Option Jvm.ClassFile.FieldType)) ∈ tb := tbm2 133 (by decide +kernel) rfl
theorem tw_437 : (Jvm.Cond.methodLinkNest "TideLoans$Way" (46 : Nat) ({ cls := "TideLoans", name := "termOf", desc := "(I)I" } : Jvm.MethodName) "TideLoans") ∈ nst := nsm2 134 (by decide +kernel) rfl
theorem tw_438 : (Jvm.Cond.methodLink "TideLoans$Way" (50 : Nat) ({ cls := "java/lang/Math", name := "max", desc := "(II)I" } : Jvm.MethodName)) ∈ tb := tbm2 135 (by decide +kernel) rfl
theorem tw_439 : (Jvm.Cond.static ({ cls := "java/lang/Math", name := "max", desc := "(II)I" } : Jvm.MethodName)) ∈ tb := tbm2 136 (by decide +kernel) rfl
theorem tw_440 : (Jvm.Cond.code ({ cls := "java/lang/Math", name := "max", desc := "(II)I" } : Jvm.MethodName) prog_10_method_65_code (2 : Nat) (Option.some Jvm.ClassFile.FieldType.int)) ∈ tb := tbm2 137 (by decide +kernel) rfl
theorem tw_441 : (Jvm.Cond.methodLinkNest "TideLoans$Way" (56 : Nat) ({ cls := "TideLoans", name := "springFrom", desc := "(I)I" } : Jvm.MethodName) "TideLoans") ∈ nst := nsm2 138 (by decide +kernel) rfl
theorem tw_442 : (Jvm.Cond.static ({ cls := "TideLoans", name := "springFrom", desc := "(I)I" } : Jvm.MethodName)) ∈ tb := tbm2 139 (by decide +kernel) rfl
theorem tw_443 : (Jvm.Cond.code ({ cls := "TideLoans", name := "springFrom", desc := "(I)I" } : Jvm.MethodName) prog_1_method_48_code (1 : Nat) (Option.some Jvm.ClassFile.FieldType.int)) ∈ tb := tbm2 140 (by decide +kernel) rfl
theorem tw_444 : (Jvm.Cond.methodLink "TideLoans" (169 : Nat) ({ cls := "TideLoans", name := "bring", desc := "(LTideLoans$Thing;LTideLoans$Way;)V" } : Jvm.MethodName)) ∈ tb := tbm2 141 (by decide +kernel) rfl
theorem tw_446 : (Jvm.Cond.instanceMethod ({ cls := "TideLoans", name := "bring", desc := "(LTideLoans$Thing;LTideLoans$Way;)V" } : Jvm.MethodName)) ∈ tb := tbm2 143 (by decide +kernel) rfl
theorem tw_447 : (Jvm.Cond.code ({ cls := "TideLoans", name := "bring", desc := "(LTideLoans$Thing;LTideLoans$Way;)V" } : Jvm.MethodName) prog_1_method_60_code (3 : Nat) (Option.none : Option Jvm.ClassFile.FieldType)) ∈ tb := tbm2 144 (by decide +kernel) rfl
theorem tw_448 : (Jvm.Cond.methodLink "TideLoans" (214 : Nat) ({ cls := "TideLoans$Way", name := "brings", desc := "(LTideLoans$Thing;I)I" } : Jvm.MethodName)) ∈ tb := tbm2 145 (by decide +kernel) rfl
theorem tw_449 : (Jvm.Cond.instanceMethod ({ cls := "TideLoans$Way", name := "brings", desc := "(LTideLoans$Thing;I)I" } : Jvm.MethodName)) ∈ tb := tbm2 146 (by decide +kernel) rfl
theorem tw_450 : (Jvm.Cond.selects "TideLoans$Way" ({ cls := "TideLoans$Way", name := "brings", desc := "(LTideLoans$Thing;I)I" } : Jvm.MethodName) ({ cls := "TideLoans$Way", name := "brings", desc := "(LTideLoans$Thing;I)I" } : Jvm.MethodName)) ∈ tb := tbm2 147 (by decide +kernel) rfl
theorem tw_451 : (Jvm.Cond.code ({ cls := "TideLoans$Way", name := "brings", desc := "(LTideLoans$Thing;I)I" } : Jvm.MethodName) prog_6_method_5_code (3 : Nat) (Option.some Jvm.ClassFile.FieldType.int)) ∈ tb := tbm2 148 (by decide +kernel) rfl
theorem tw_452 : (Jvm.Cond.methodLinkNest "TideLoans$Way" (59 : Nat) ({ cls := "TideLoans", name := "repaid", desc := "(LTideLoans$Thing;III)I" } : Jvm.MethodName) "TideLoans") ∈ nst := nsm2 149 (by decide +kernel) rfl
theorem tw_453 : (Jvm.Cond.methodLink "TideLoans" (218 : Nat) ({ cls := "TideLoans", name := "filled", desc := "(II)I" } : Jvm.MethodName)) ∈ tb := tbm2 150 (by decide +kernel) rfl
theorem tw_454 : (Jvm.Cond.static ({ cls := "TideLoans", name := "filled", desc := "(II)I" } : Jvm.MethodName)) ∈ tb := tbm2 151 (by decide +kernel) rfl
theorem tw_455 : (Jvm.Cond.code ({ cls := "TideLoans", name := "filled", desc := "(II)I" } : Jvm.MethodName) prog_1_method_57_code (2 : Nat) (Option.some Jvm.ClassFile.FieldType.int)) ∈ tb := tbm2 152 (by decide +kernel) rfl
theorem tw_456 : (Jvm.Cond.methodLink "TideLoans" (329 : Nat) ({ cls := "java/lang/Math", name := "min", desc := "(II)I" } : Jvm.MethodName)) ∈ tb := tbm2 153 (by decide +kernel) rfl
theorem tw_457 : (Jvm.Cond.static ({ cls := "java/lang/Math", name := "min", desc := "(II)I" } : Jvm.MethodName)) ∈ tb := tbm2 154 (by decide +kernel) rfl
theorem tw_458 : (Jvm.Cond.code ({ cls := "java/lang/Math", name := "min", desc := "(II)I" } : Jvm.MethodName) prog_10_method_69_code (2 : Nat) (Option.some Jvm.ClassFile.FieldType.int)) ∈ tb := tbm2 155 (by decide +kernel) rfl
theorem tw_459 : (Jvm.Cond.methodLink "TideLoans" (173 : Nat) ({ cls := "TideLoans$Shore", name := "allPurses", desc := "()J" } : Jvm.MethodName)) ∈ tb := tbm2 156 (by decide +kernel) rfl
theorem tw_460 : (Jvm.Cond.instanceMethod ({ cls := "TideLoans$Shore", name := "allPurses", desc := "()J" } : Jvm.MethodName)) ∈ tb := tbm2 157 (by decide +kernel) rfl
theorem tw_461 : (Jvm.Cond.selects "TideLoans$Shore" ({ cls := "TideLoans$Shore", name := "allPurses", desc := "()J" } : Jvm.MethodName) ({ cls := "TideLoans$Shore", name := "allPurses", desc := "()J" } : Jvm.MethodName)) ∈ tb := tbm2 158 (by decide +kernel) rfl
theorem tw_462 : (Jvm.Cond.code ({ cls := "TideLoans$Shore", name := "allPurses", desc := "()J" } : Jvm.MethodName) prog_3_method_11_code (4 : Nat) (Option.some Jvm.ClassFile.FieldType.long)) ∈ tb := tbm2 159 (by decide +kernel) rfl
theorem tw_463 : (Jvm.Cond.methodLink "TideLoansLaw" (69 : Nat) ({ cls := "TideLoans", name := "now", desc := "(I)I" } : Jvm.MethodName)) ∈ tb := tbm2 160 (by decide +kernel) rfl
theorem tw_464 : (Jvm.Cond.instanceMethod ({ cls := "TideLoans", name := "now", desc := "(I)I" } : Jvm.MethodName)) ∈ tb := tbm2 161 (by decide +kernel) rfl
theorem tw_465 : (Jvm.Cond.selects "TideLoans" ({ cls := "TideLoans", name := "now", desc := "(I)I" } : Jvm.MethodName) ({ cls := "TideLoans", name := "now", desc := "(I)I" } : Jvm.MethodName)) ∈ tb := tbm2 162 (by decide +kernel) rfl
theorem tw_466 : (Jvm.Cond.code ({ cls := "TideLoans", name := "now", desc := "(I)I" } : Jvm.MethodName) prog_1_method_15_code (2 : Nat) (Option.some Jvm.ClassFile.FieldType.int)) ∈ tb := tbm2 163 (by decide +kernel) rfl
theorem tw_467 : (Jvm.Cond.methodLink "TideLoans" (177 : Nat) ({ cls := "TideLoans$Shore", name := "allIn", desc := "(I)I" } : Jvm.MethodName)) ∈ tb := tbm2 164 (by decide +kernel) rfl
theorem tw_468 : (Jvm.Cond.instanceMethod ({ cls := "TideLoans$Shore", name := "allIn", desc := "(I)I" } : Jvm.MethodName)) ∈ tb := tbm2 165 (by decide +kernel) rfl
theorem tw_469 : (Jvm.Cond.selects "TideLoans$Shore" ({ cls := "TideLoans$Shore", name := "allIn", desc := "(I)I" } : Jvm.MethodName) ({ cls := "TideLoans$Shore", name := "allIn", desc := "(I)I" } : Jvm.MethodName)) ∈ tb := tbm2 166 (by decide +kernel) rfl
theorem tw_470 : (Jvm.Cond.code ({ cls := "TideLoans$Shore", name := "allIn", desc := "(I)I" } : Jvm.MethodName) prog_3_method_7_code (4 : Nat) (Option.some Jvm.ClassFile.FieldType.int)) ∈ tb := tbm2 167 (by decide +kernel) rfl
theorem tw_471 : (Jvm.Cond.methodLink "TideLoans" (180 : Nat) ({ cls := "TideLoans", name := "allOwedNow", desc := "()I" } : Jvm.MethodName)) ∈ tb := tbm2 168 (by decide +kernel) rfl
theorem tw_473 : (Jvm.Cond.instanceMethod ({ cls := "TideLoans", name := "allOwedNow", desc := "()I" } : Jvm.MethodName)) ∈ tb := tbm2 170 (by decide +kernel) rfl
theorem tw_474 : (Jvm.Cond.code ({ cls := "TideLoans", name := "allOwedNow", desc := "()I" } : Jvm.MethodName) prog_1_method_56_code (3 : Nat) (Option.some Jvm.ClassFile.FieldType.int)) ∈ tb := tbm2 171 (by decide +kernel) rfl
theorem tw_475 : (Jvm.Cond.methodLink "TideLoans" (184 : Nat) ({ cls := "TideLoans$Shore", name := "allWorth", desc := "()I" } : Jvm.MethodName)) ∈ tb := tbm2 172 (by decide +kernel) rfl
theorem tw_476 : (Jvm.Cond.instanceMethod ({ cls := "TideLoans$Shore", name := "allWorth", desc := "()I" } : Jvm.MethodName)) ∈ tb := tbm2 173 (by decide +kernel) rfl
theorem tw_477 : (Jvm.Cond.selects "TideLoans$Shore" ({ cls := "TideLoans$Shore", name := "allWorth", desc := "()I" } : Jvm.MethodName) ({ cls := "TideLoans$Shore", name := "allWorth", desc := "()I" } : Jvm.MethodName)) ∈ tb := tbm2 174 (by decide +kernel) rfl
theorem tw_478 : (Jvm.Cond.code ({ cls := "TideLoans$Shore", name := "allWorth", desc := "()I" } : Jvm.MethodName) prog_3_method_8_code (3 : Nat) (Option.some Jvm.ClassFile.FieldType.int)) ∈ tb := tbm2 175 (by decide +kernel) rfl
theorem tw_479 : (Jvm.Cond.methodLink "TideLoansLaw" (73 : Nat) ({ cls := "TideLoans", name := "on", desc := "(II)I" } : Jvm.MethodName)) ∈ tb := tbm2 176 (by decide +kernel) rfl
theorem tw_480 : (Jvm.Cond.instanceMethod ({ cls := "TideLoans", name := "on", desc := "(II)I" } : Jvm.MethodName)) ∈ tb := tbm2 177 (by decide +kernel) rfl
theorem tw_481 : (Jvm.Cond.selects "TideLoans" ({ cls := "TideLoans", name := "on", desc := "(II)I" } : Jvm.MethodName) ({ cls := "TideLoans", name := "on", desc := "(II)I" } : Jvm.MethodName)) ∈ tb := tbm2 178 (by decide +kernel) rfl
theorem tw_482 : (Jvm.Cond.code ({ cls := "TideLoans", name := "on", desc := "(II)I" } : Jvm.MethodName) prog_1_method_16_code (3 : Nat) (Option.some Jvm.ClassFile.FieldType.int)) ∈ tb := tbm2 179 (by decide +kernel) rfl
theorem tw_483 : (Jvm.Cond.methodLink "TideLoans" (187 : Nat) ({ cls := "TideLoans", name := "purseThen", desc := "(III)I" } : Jvm.MethodName)) ∈ tb := tbm2 180 (by decide +kernel) rfl
theorem tw_485 : (Jvm.Cond.instanceMethod ({ cls := "TideLoans", name := "purseThen", desc := "(III)I" } : Jvm.MethodName)) ∈ tb := tbm2 182 (by decide +kernel) rfl
theorem tw_486 : (Jvm.Cond.code ({ cls := "TideLoans", name := "purseThen", desc := "(III)I" } : Jvm.MethodName) prog_1_method_61_code (7 : Nat) (Option.some Jvm.ClassFile.FieldType.int)) ∈ tb := tbm2 183 (by decide +kernel) rfl
theorem tw_487 : (Jvm.Cond.methodLink "TideLoansLaw" (77 : Nat) ({ cls := "TideLoans", name := "taken", desc := "(I)I" } : Jvm.MethodName)) ∈ tb := tbm2 184 (by decide +kernel) rfl
theorem tw_488 : (Jvm.Cond.instanceMethod ({ cls := "TideLoans", name := "taken", desc := "(I)I" } : Jvm.MethodName)) ∈ tb := tbm2 185 (by decide +kernel) rfl
theorem tw_489 : (Jvm.Cond.selects "TideLoans" ({ cls := "TideLoans", name := "taken", desc := "(I)I" } : Jvm.MethodName) ({ cls := "TideLoans", name := "taken", desc := "(I)I" } : Jvm.MethodName)) ∈ tb := tbm2 186 (by decide +kernel) rfl
theorem tw_490 : (Jvm.Cond.code ({ cls := "TideLoans", name := "taken", desc := "(I)I" } : Jvm.MethodName) prog_1_method_17_code (3 : Nat) (Option.some Jvm.ClassFile.FieldType.int)) ∈ tb := tbm2 187 (by decide +kernel) rfl
theorem tw_491 : (Jvm.Cond.constant "TideLoans" (198 : Nat) (-1000000004 : Int32)) ∈ tb := tbm2 188 (by decide +kernel) rfl
theorem tw_492 : (Jvm.Cond.methodLink "TideLoansLaw" (81 : Nat) ({ cls := "TideLoans", name := "home", desc := "(I)I" } : Jvm.MethodName)) ∈ tb := tbm2 189 (by decide +kernel) rfl
theorem tw_493 : (Jvm.Cond.instanceMethod ({ cls := "TideLoans", name := "home", desc := "(I)I" } : Jvm.MethodName)) ∈ tb := tbm2 190 (by decide +kernel) rfl
theorem tw_494 : (Jvm.Cond.selects "TideLoans" ({ cls := "TideLoans", name := "home", desc := "(I)I" } : Jvm.MethodName) ({ cls := "TideLoans", name := "home", desc := "(I)I" } : Jvm.MethodName)) ∈ tb := tbm2 191 (by decide +kernel) rfl
theorem tw_495 : (Jvm.Cond.code ({ cls := "TideLoans", name := "home", desc := "(I)I" } : Jvm.MethodName) prog_1_method_18_code (3 : Nat) (Option.some Jvm.ClassFile.FieldType.int)) ∈ tb := tbm2 192 (by decide +kernel) rfl
theorem tw_496 : (Jvm.Cond.methodLink "TideLoansLaw" (85 : Nat) ({ cls := "TideLoans", name := "due", desc := "()I" } : Jvm.MethodName)) ∈ tb := tbm2 193 (by decide +kernel) rfl
theorem tw_497 : (Jvm.Cond.instanceMethod ({ cls := "TideLoans", name := "due", desc := "()I" } : Jvm.MethodName)) ∈ tb := tbm2 194 (by decide +kernel) rfl
theorem tw_498 : (Jvm.Cond.selects "TideLoans" ({ cls := "TideLoans", name := "due", desc := "()I" } : Jvm.MethodName) ({ cls := "TideLoans", name := "due", desc := "()I" } : Jvm.MethodName)) ∈ tb := tbm2 195 (by decide +kernel) rfl
theorem tw_499 : (Jvm.Cond.code ({ cls := "TideLoans", name := "due", desc := "()I" } : Jvm.MethodName) prog_1_method_19_code (3 : Nat) (Option.some Jvm.ClassFile.FieldType.int)) ∈ tb := tbm2 196 (by decide +kernel) rfl
theorem tw_500 : (Jvm.Cond.methodLink "TideLoans" (202 : Nat) ({ cls := "TideLoans", name := "springFrom", desc := "(I)I" } : Jvm.MethodName)) ∈ tb := tbm2 197 (by decide +kernel) rfl
theorem tw_501 : (Jvm.Cond.methodLink "TideLoansLaw" (90 : Nat) ({ cls := "TideLoans", name := "spot", desc := "(II)I" } : Jvm.MethodName)) ∈ tb := tbm2 198 (by decide +kernel) rfl
theorem tw_502 : (Jvm.Cond.instanceMethod ({ cls := "TideLoans", name := "spot", desc := "(II)I" } : Jvm.MethodName)) ∈ tb := tbm2 199 (by decide +kernel) rfl
theorem tw_503 : (Jvm.Cond.selects "TideLoans" ({ cls := "TideLoans", name := "spot", desc := "(II)I" } : Jvm.MethodName) ({ cls := "TideLoans", name := "spot", desc := "(II)I" } : Jvm.MethodName)) ∈ tb := tbm2 200 (by decide +kernel) rfl
theorem tw_504 : (Jvm.Cond.code ({ cls := "TideLoans", name := "spot", desc := "(II)I" } : Jvm.MethodName) prog_1_method_20_code (8 : Nat) (Option.some Jvm.ClassFile.FieldType.int)) ∈ tb := tbm2 201 (by decide +kernel) rfl
theorem tw_505 : (Jvm.Cond.methodLink "TideLoans" (205 : Nat) ({ cls := "TideLoans", name := "tryOn", desc := "(II)I" } : Jvm.MethodName)) ∈ tb := tbm2 202 (by decide +kernel) rfl
theorem tw_507 : (Jvm.Cond.instanceMethod ({ cls := "TideLoans", name := "tryOn", desc := "(II)I" } : Jvm.MethodName)) ∈ tb := tbm2 204 (by decide +kernel) rfl
theorem tw_508 : (Jvm.Cond.code ({ cls := "TideLoans", name := "tryOn", desc := "(II)I" } : Jvm.MethodName) prog_1_method_63_code (3 : Nat) (Option.some Jvm.ClassFile.FieldType.int)) ∈ tb := tbm2 205 (by decide +kernel) rfl
theorem tw_509 : (Jvm.Cond.methodLink "TideLoans" (285 : Nat) ({ cls := "TideLoans$Thing", name := "become", desc := "(LTideLoans$Thing;)V" } : Jvm.MethodName)) ∈ tb := tbm2 206 (by decide +kernel) rfl
theorem tw_510 : (Jvm.Cond.instanceMethod ({ cls := "TideLoans$Thing", name := "become", desc := "(LTideLoans$Thing;)V" } : Jvm.MethodName)) ∈ tb := tbm2 207 (by decide +kernel) rfl
theorem tw_511 : (Jvm.Cond.selects "TideLoans$Thing" ({ cls := "TideLoans$Thing", name := "become", desc := "(LTideLoans$Thing;)V" } : Jvm.MethodName) ({ cls := "TideLoans$Thing", name := "become", desc := "(LTideLoans$Thing;)V" } : Jvm.MethodName)) ∈ tb := tbm2 208 (by decide +kernel) rfl
theorem tw_512 : (Jvm.Cond.code ({ cls := "TideLoans$Thing", name := "become", desc := "(LTideLoans$Thing;)V" } : Jvm.MethodName) prog_5_method_4_code (2 : Nat) (Option.none : Option Jvm.ClassFile.FieldType)) ∈ tb := tbm2 209 (by decide +kernel) rfl
theorem tw_513 : (Jvm.Cond.methodLink "TideLoans" (208 : Nat) ({ cls := "TideLoans", name := "purseWithTrial", desc := "(III)I" } : Jvm.MethodName)) ∈ tb := tbm2 210 (by decide +kernel) rfl
theorem tw_515 : (Jvm.Cond.instanceMethod ({ cls := "TideLoans", name := "purseWithTrial", desc := "(III)I" } : Jvm.MethodName)) ∈ tb := tbm2 212 (by decide +kernel) rfl
theorem tw_516 : (Jvm.Cond.code ({ cls := "TideLoans", name := "purseWithTrial", desc := "(III)I" } : Jvm.MethodName) prog_1_method_65_code (4 : Nat) (Option.some Jvm.ClassFile.FieldType.int)) ∈ tb := tbm2 213 (by decide +kernel) rfl
theorem tw_517 : (Jvm.Cond.methodLink "TideLoans" (211 : Nat) ({ cls := "TideLoans", name := "followTrial", desc := "(II)V" } : Jvm.MethodName)) ∈ tb := tbm2 214 (by decide +kernel) rfl
theorem tw_519 : (Jvm.Cond.instanceMethod ({ cls := "TideLoans", name := "followTrial", desc := "(II)V" } : Jvm.MethodName)) ∈ tb := tbm2 216 (by decide +kernel) rfl
theorem tw_520 : (Jvm.Cond.code ({ cls := "TideLoans", name := "followTrial", desc := "(II)V" } : Jvm.MethodName) prog_1_method_64_code (3 : Nat) (Option.none : Option Jvm.ClassFile.FieldType)) ∈ tb := tbm2 217 (by decide +kernel) rfl
theorem tw_521 : (Jvm.Cond.methodLink "TideLoansLaw" (94 : Nat) ({ cls := "TideLoans", name := "delay", desc := "(III)I" } : Jvm.MethodName)) ∈ tb := tbm2 218 (by decide +kernel) rfl
theorem tw_522 : (Jvm.Cond.instanceMethod ({ cls := "TideLoans", name := "delay", desc := "(III)I" } : Jvm.MethodName)) ∈ tb := tbm2 219 (by decide +kernel) rfl
theorem tw_523 : (Jvm.Cond.selects "TideLoans" ({ cls := "TideLoans", name := "delay", desc := "(III)I" } : Jvm.MethodName) ({ cls := "TideLoans", name := "delay", desc := "(III)I" } : Jvm.MethodName)) ∈ tb := tbm2 220 (by decide +kernel) rfl
theorem tw_524 : (Jvm.Cond.code ({ cls := "TideLoans", name := "delay", desc := "(III)I" } : Jvm.MethodName) prog_1_method_21_code (9 : Nat) (Option.some Jvm.ClassFile.FieldType.int)) ∈ tb := tbm2 221 (by decide +kernel) rfl
theorem tw_525 : (Jvm.Cond.methodLink "TideLoansLaw" (98 : Nat) ({ cls := "TideLoans", name := "kind", desc := "(II)I" } : Jvm.MethodName)) ∈ tb := tbm2 222 (by decide +kernel) rfl
theorem tw_526 : (Jvm.Cond.instanceMethod ({ cls := "TideLoans", name := "kind", desc := "(II)I" } : Jvm.MethodName)) ∈ tb := tbm2 223 (by decide +kernel) rfl
theorem tw_527 : (Jvm.Cond.selects "TideLoans" ({ cls := "TideLoans", name := "kind", desc := "(II)I" } : Jvm.MethodName) ({ cls := "TideLoans", name := "kind", desc := "(II)I" } : Jvm.MethodName)) ∈ tb := tbm2 224 (by decide +kernel) rfl
theorem tw_528 : (Jvm.Cond.code ({ cls := "TideLoans", name := "kind", desc := "(II)I" } : Jvm.MethodName) prog_1_method_22_code (8 : Nat) (Option.some Jvm.ClassFile.FieldType.int)) ∈ tb := tbm2 225 (by decide +kernel) rfl
theorem tw_529 : (Jvm.Cond.methodLink "TideLoansLaw" (102 : Nat) ({ cls := "TideLoans", name := "worth", desc := "(III)I" } : Jvm.MethodName)) ∈ tb := tbm2 226 (by decide +kernel) rfl
theorem tw_530 : (Jvm.Cond.instanceMethod ({ cls := "TideLoans", name := "worth", desc := "(III)I" } : Jvm.MethodName)) ∈ tb := tbm2 227 (by decide +kernel) rfl
theorem tw_531 : (Jvm.Cond.selects "TideLoans" ({ cls := "TideLoans", name := "worth", desc := "(III)I" } : Jvm.MethodName) ({ cls := "TideLoans", name := "worth", desc := "(III)I" } : Jvm.MethodName)) ∈ tb := tbm2 228 (by decide +kernel) rfl
theorem tw_532 : (Jvm.Cond.code ({ cls := "TideLoans", name := "worth", desc := "(III)I" } : Jvm.MethodName) prog_1_method_23_code (6 : Nat) (Option.some Jvm.ClassFile.FieldType.int)) ∈ tb := tbm2 229 (by decide +kernel) rfl
theorem tw_533 : (Jvm.Cond.methodLink "TideLoansLaw" (106 : Nat) ({ cls := "TideLoans", name := "richest", desc := "(I)I" } : Jvm.MethodName)) ∈ tb := tbm2 230 (by decide +kernel) rfl
theorem tw_534 : (Jvm.Cond.instanceMethod ({ cls := "TideLoans", name := "richest", desc := "(I)I" } : Jvm.MethodName)) ∈ tb := tbm2 231 (by decide +kernel) rfl
theorem tw_535 : (Jvm.Cond.selects "TideLoans" ({ cls := "TideLoans", name := "richest", desc := "(I)I" } : Jvm.MethodName) ({ cls := "TideLoans", name := "richest", desc := "(I)I" } : Jvm.MethodName)) ∈ tb := tbm2 232 (by decide +kernel) rfl
theorem tw_536 : (Jvm.Cond.code ({ cls := "TideLoans", name := "richest", desc := "(I)I" } : Jvm.MethodName) prog_1_method_24_code (6 : Nat) (Option.some Jvm.ClassFile.FieldType.int)) ∈ tb := tbm2 233 (by decide +kernel) rfl
theorem tw_537 : (Jvm.Cond.methodLink "TideLoansLaw" (110 : Nat) ({ cls := "TideLoans", name := "fewest", desc := "(III)I" } : Jvm.MethodName)) ∈ tb := tbm2 234 (by decide +kernel) rfl
theorem tw_538 : (Jvm.Cond.instanceMethod ({ cls := "TideLoans", name := "fewest", desc := "(III)I" } : Jvm.MethodName)) ∈ tb := tbm2 235 (by decide +kernel) rfl
theorem tw_539 : (Jvm.Cond.selects "TideLoans" ({ cls := "TideLoans", name := "fewest", desc := "(III)I" } : Jvm.MethodName) ({ cls := "TideLoans", name := "fewest", desc := "(III)I" } : Jvm.MethodName)) ∈ tb := tbm2 236 (by decide +kernel) rfl
theorem tw_540 : (Jvm.Cond.code ({ cls := "TideLoans", name := "fewest", desc := "(III)I" } : Jvm.MethodName) prog_1_method_25_code (10 : Nat) (Option.some Jvm.ClassFile.FieldType.int)) ∈ tb := tbm2 237 (by decide +kernel) rfl
theorem tw_541 : (Jvm.Cond.methodLink "TideLoans" (221 : Nat) ({ cls := "TideLoans", name := "shareOut", desc := "(I)I" } : Jvm.MethodName)) ∈ tb := tbm2 238 (by decide +kernel) rfl
theorem tw_543 : (Jvm.Cond.instanceMethod ({ cls := "TideLoans", name := "shareOut", desc := "(I)I" } : Jvm.MethodName)) ∈ tb := tbm3 0 (by decide +kernel) rfl
theorem tw_544 : (Jvm.Cond.code ({ cls := "TideLoans", name := "shareOut", desc := "(I)I" } : Jvm.MethodName) prog_1_method_66_code (6 : Nat) (Option.some Jvm.ClassFile.FieldType.int)) ∈ tb := tbm3 1 (by decide +kernel) rfl
theorem tw_545 : (Jvm.Cond.methodLink "TideLoans" (224 : Nat) ({ cls := "TideLoans", name := "sureThen", desc := "(I)I" } : Jvm.MethodName)) ∈ tb := tbm3 2 (by decide +kernel) rfl
theorem tw_547 : (Jvm.Cond.instanceMethod ({ cls := "TideLoans", name := "sureThen", desc := "(I)I" } : Jvm.MethodName)) ∈ tb := tbm3 4 (by decide +kernel) rfl
theorem tw_548 : (Jvm.Cond.code ({ cls := "TideLoans", name := "sureThen", desc := "(I)I" } : Jvm.MethodName) prog_1_method_68_code (5 : Nat) (Option.some Jvm.ClassFile.FieldType.int)) ∈ tb := tbm3 5 (by decide +kernel) rfl
theorem tw_549 : (Jvm.Cond.methodLink "TideLoans" (227 : Nat) ({ cls := "TideLoans", name := "sharesOf", desc := "(I)I" } : Jvm.MethodName)) ∈ tb := tbm3 6 (by decide +kernel) rfl
theorem tw_551 : (Jvm.Cond.instanceMethod ({ cls := "TideLoans", name := "sharesOf", desc := "(I)I" } : Jvm.MethodName)) ∈ tb := tbm3 8 (by decide +kernel) rfl
theorem tw_552 : (Jvm.Cond.code ({ cls := "TideLoans", name := "sharesOf", desc := "(I)I" } : Jvm.MethodName) prog_1_method_67_code (4 : Nat) (Option.some Jvm.ClassFile.FieldType.int)) ∈ tb := tbm3 9 (by decide +kernel) rfl
theorem tw_553 : (Jvm.Cond.methodLink "TideLoansLaw" (114 : Nat) ({ cls := "TideLoans", name := "rate", desc := "(II)I" } : Jvm.MethodName)) ∈ tb := tbm3 10 (by decide +kernel) rfl
theorem tw_554 : (Jvm.Cond.instanceMethod ({ cls := "TideLoans", name := "rate", desc := "(II)I" } : Jvm.MethodName)) ∈ tb := tbm3 11 (by decide +kernel) rfl
theorem tw_555 : (Jvm.Cond.selects "TideLoans" ({ cls := "TideLoans", name := "rate", desc := "(II)I" } : Jvm.MethodName) ({ cls := "TideLoans", name := "rate", desc := "(II)I" } : Jvm.MethodName)) ∈ tb := tbm3 12 (by decide +kernel) rfl
theorem tw_556 : (Jvm.Cond.code ({ cls := "TideLoans", name := "rate", desc := "(II)I" } : Jvm.MethodName) prog_1_method_26_code (4 : Nat) (Option.some Jvm.ClassFile.FieldType.int)) ∈ tb := tbm3 13 (by decide +kernel) rfl
theorem tw_557 : (Jvm.Cond.methodLink "TideLoans" (230 : Nat) ({ cls := "TideLoans", name := "gainAt", desc := "(I)J" } : Jvm.MethodName)) ∈ tb := tbm3 14 (by decide +kernel) rfl
theorem tw_559 : (Jvm.Cond.instanceMethod ({ cls := "TideLoans", name := "gainAt", desc := "(I)J" } : Jvm.MethodName)) ∈ tb := tbm3 16 (by decide +kernel) rfl
theorem tw_560 : (Jvm.Cond.code ({ cls := "TideLoans", name := "gainAt", desc := "(I)J" } : Jvm.MethodName) prog_1_method_62_code (5 : Nat) (Option.some Jvm.ClassFile.FieldType.long)) ∈ tb := tbm3 17 (by decide +kernel) rfl
theorem tw_561 : (Jvm.Cond.methodLink "TideLoansLaw" (118 : Nat) ({ cls := "TideLoans", name := "feed", desc := "(II)I" } : Jvm.MethodName)) ∈ tb := tbm3 18 (by decide +kernel) rfl
theorem tw_562 : (Jvm.Cond.instanceMethod ({ cls := "TideLoans", name := "feed", desc := "(II)I" } : Jvm.MethodName)) ∈ tb := tbm3 19 (by decide +kernel) rfl
theorem tw_563 : (Jvm.Cond.selects "TideLoans" ({ cls := "TideLoans", name := "feed", desc := "(II)I" } : Jvm.MethodName) ({ cls := "TideLoans", name := "feed", desc := "(II)I" } : Jvm.MethodName)) ∈ tb := tbm3 20 (by decide +kernel) rfl
theorem tw_564 : (Jvm.Cond.code ({ cls := "TideLoans", name := "feed", desc := "(II)I" } : Jvm.MethodName) prog_1_method_27_code (4 : Nat) (Option.some Jvm.ClassFile.FieldType.int)) ∈ tb := tbm3 21 (by decide +kernel) rfl
theorem tw_565 : (Jvm.Cond.methodLink "TideLoans" (237 : Nat) ({ cls := "TideLoans$Tape", name := "put", desc := "(B)V" } : Jvm.MethodName)) ∈ tb := tbm3 22 (by decide +kernel) rfl
theorem tw_566 : (Jvm.Cond.instanceMethod ({ cls := "TideLoans$Tape", name := "put", desc := "(B)V" } : Jvm.MethodName)) ∈ tb := tbm3 23 (by decide +kernel) rfl
theorem tw_567 : (Jvm.Cond.selects "TideLoans$Tape" ({ cls := "TideLoans$Tape", name := "put", desc := "(B)V" } : Jvm.MethodName) ({ cls := "TideLoans$Tape", name := "put", desc := "(B)V" } : Jvm.MethodName)) ∈ tb := tbm3 24 (by decide +kernel) rfl
theorem tw_568 : (Jvm.Cond.code ({ cls := "TideLoans$Tape", name := "put", desc := "(B)V" } : Jvm.MethodName) prog_4_method_2_code (2 : Nat) (Option.none : Option Jvm.ClassFile.FieldType)) ∈ tb := tbm3 25 (by decide +kernel) rfl
theorem tw_569 : (Jvm.Cond.methodLink "TideLoansLaw" (122 : Nat) ({ cls := "TideLoans", name := "wipe", desc := "()I" } : Jvm.MethodName)) ∈ tb := tbm3 26 (by decide +kernel) rfl
theorem tw_570 : (Jvm.Cond.instanceMethod ({ cls := "TideLoans", name := "wipe", desc := "()I" } : Jvm.MethodName)) ∈ tb := tbm3 27 (by decide +kernel) rfl
theorem tw_571 : (Jvm.Cond.selects "TideLoans" ({ cls := "TideLoans", name := "wipe", desc := "()I" } : Jvm.MethodName) ({ cls := "TideLoans", name := "wipe", desc := "()I" } : Jvm.MethodName)) ∈ tb := tbm3 28 (by decide +kernel) rfl
theorem tw_572 : (Jvm.Cond.code ({ cls := "TideLoans", name := "wipe", desc := "()I" } : Jvm.MethodName) prog_1_method_28_code (2 : Nat) (Option.some Jvm.ClassFile.FieldType.int)) ∈ tb := tbm3 29 (by decide +kernel) rfl
theorem tw_573 : (Jvm.Cond.methodLink "TideLoansLaw" (126 : Nat) ({ cls := "TideLoans", name := "shore", desc := "()I" } : Jvm.MethodName)) ∈ tb := tbm3 30 (by decide +kernel) rfl
theorem tw_574 : (Jvm.Cond.instanceMethod ({ cls := "TideLoans", name := "shore", desc := "()I" } : Jvm.MethodName)) ∈ tb := tbm3 31 (by decide +kernel) rfl
theorem tw_575 : (Jvm.Cond.selects "TideLoans" ({ cls := "TideLoans", name := "shore", desc := "()I" } : Jvm.MethodName) ({ cls := "TideLoans", name := "shore", desc := "()I" } : Jvm.MethodName)) ∈ tb := tbm3 32 (by decide +kernel) rfl
theorem tw_576 : (Jvm.Cond.code ({ cls := "TideLoans", name := "shore", desc := "()I" } : Jvm.MethodName) prog_1_method_29_code (2 : Nat) (Option.some Jvm.ClassFile.FieldType.int)) ∈ tb := tbm3 33 (by decide +kernel) rfl
theorem tw_577 : (Jvm.Cond.methodLink "TideLoans" (241 : Nat) ({ cls := "TideLoans$Shore", name := "become", desc := "(LTideLoans$Shore;)V" } : Jvm.MethodName)) ∈ tb := tbm3 34 (by decide +kernel) rfl
theorem tw_578 : (Jvm.Cond.instanceMethod ({ cls := "TideLoans$Shore", name := "become", desc := "(LTideLoans$Shore;)V" } : Jvm.MethodName)) ∈ tb := tbm3 35 (by decide +kernel) rfl
theorem tw_579 : (Jvm.Cond.selects "TideLoans$Shore" ({ cls := "TideLoans$Shore", name := "become", desc := "(LTideLoans$Shore;)V" } : Jvm.MethodName) ({ cls := "TideLoans$Shore", name := "become", desc := "(LTideLoans$Shore;)V" } : Jvm.MethodName)) ∈ tb := tbm3 36 (by decide +kernel) rfl
theorem tw_580 : (Jvm.Cond.code ({ cls := "TideLoans$Shore", name := "become", desc := "(LTideLoans$Shore;)V" } : Jvm.MethodName) prog_3_method_2_code (3 : Nat) (Option.none : Option Jvm.ClassFile.FieldType)) ∈ tb := tbm3 37 (by decide +kernel) rfl
theorem tw_581 : (Jvm.Cond.methodLink "TideLoans$Shore" (29 : Nat) ({ cls := "java/lang/System", name := "arraycopy", desc := "(Ljava/lang/Object;ILjava/lang/Object;II)V" } : Jvm.MethodName)) ∈ tb := tbm3 38 (by decide +kernel) rfl
theorem tw_582 : (Jvm.Cond.static ({ cls := "java/lang/System", name := "arraycopy", desc := "(Ljava/lang/Object;ILjava/lang/Object;II)V" } : Jvm.MethodName)) ∈ tb := tbm3 39 (by decide +kernel) rfl
theorem tw_583 : (Jvm.Cond.native ({ cls := "java/lang/System", name := "arraycopy", desc := "(Ljava/lang/Object;ILjava/lang/Object;II)V" } : Jvm.MethodName)) ∈ tb := tbm3 40 (by decide +kernel) rfl
theorem tw_584 : (Jvm.Cond.methodLink "TideLoans$Shore" (41 : Nat) ({ cls := "TideLoans$Thing", name := "become", desc := "(LTideLoans$Thing;)V" } : Jvm.MethodName)) ∈ tb := tbm3 41 (by decide +kernel) rfl
theorem tw_585 : (Jvm.Cond.methodLink "TideLoans" (245 : Nat) ({ cls := "TideLoans", name := "readText", desc := "()I" } : Jvm.MethodName)) ∈ tb := tbm3 42 (by decide +kernel) rfl
theorem tw_587 : (Jvm.Cond.instanceMethod ({ cls := "TideLoans", name := "readText", desc := "()I" } : Jvm.MethodName)) ∈ tb := tbm3 44 (by decide +kernel) rfl
theorem tw_588 : (Jvm.Cond.code ({ cls := "TideLoans", name := "readText", desc := "()I" } : Jvm.MethodName) prog_1_method_73_code (3 : Nat) (Option.some Jvm.ClassFile.FieldType.int)) ∈ tb := tbm3 45 (by decide +kernel) rfl
theorem tw_589 : (Jvm.Cond.methodLink "TideLoans" (343 : Nat) ({ cls := "TideLoans$Tape", name := "rewind", desc := "()V" } : Jvm.MethodName)) ∈ tb := tbm3 46 (by decide +kernel) rfl
theorem tw_590 : (Jvm.Cond.instanceMethod ({ cls := "TideLoans$Tape", name := "rewind", desc := "()V" } : Jvm.MethodName)) ∈ tb := tbm3 47 (by decide +kernel) rfl
theorem tw_591 : (Jvm.Cond.selects "TideLoans$Tape" ({ cls := "TideLoans$Tape", name := "rewind", desc := "()V" } : Jvm.MethodName) ({ cls := "TideLoans$Tape", name := "rewind", desc := "()V" } : Jvm.MethodName)) ∈ tb := tbm3 48 (by decide +kernel) rfl
theorem tw_592 : (Jvm.Cond.code ({ cls := "TideLoans$Tape", name := "rewind", desc := "()V" } : Jvm.MethodName) prog_4_method_3_code (1 : Nat) (Option.none : Option Jvm.ClassFile.FieldType)) ∈ tb := tbm3 49 (by decide +kernel) rfl
theorem tw_593 : (Jvm.Cond.methodLink "TideLoans$Tape" (22 : Nat) ({ cls := "TideLoans$Tape", name := "step", desc := "()V" } : Jvm.MethodName)) ∈ tb := tbm3 50 (by decide +kernel) rfl
theorem tw_594 : (Jvm.Cond.instanceMethod ({ cls := "TideLoans$Tape", name := "step", desc := "()V" } : Jvm.MethodName)) ∈ tb := tbm3 51 (by decide +kernel) rfl
theorem tw_595 : (Jvm.Cond.selects "TideLoans$Tape" ({ cls := "TideLoans$Tape", name := "step", desc := "()V" } : Jvm.MethodName) ({ cls := "TideLoans$Tape", name := "step", desc := "()V" } : Jvm.MethodName)) ∈ tb := tbm3 52 (by decide +kernel) rfl
theorem tw_596 : (Jvm.Cond.code ({ cls := "TideLoans$Tape", name := "step", desc := "()V" } : Jvm.MethodName) prog_4_method_4_code (1 : Nat) (Option.none : Option Jvm.ClassFile.FieldType)) ∈ tb := tbm3 53 (by decide +kernel) rfl
theorem tw_597 : (Jvm.Cond.methodLink "TideLoans$Tape" (28 : Nat) ({ cls := "TideLoans$Tape", name := "tokenOf", desc := "(B)I" } : Jvm.MethodName)) ∈ tb := tbm3 54 (by decide +kernel) rfl
theorem tw_598 : (Jvm.Cond.static ({ cls := "TideLoans$Tape", name := "tokenOf", desc := "(B)I" } : Jvm.MethodName)) ∈ tb := tbm3 55 (by decide +kernel) rfl
theorem tw_599 : (Jvm.Cond.code ({ cls := "TideLoans$Tape", name := "tokenOf", desc := "(B)I" } : Jvm.MethodName) prog_4_method_5_code (1 : Nat) (Option.some Jvm.ClassFile.FieldType.int)) ∈ tb := tbm3 56 (by decide +kernel) rfl
theorem tw_600 : (Jvm.Cond.methodLink "TideLoans" (346 : Nat) ({ cls := "TideLoans", name := "readItem", desc := "()Z" } : Jvm.MethodName)) ∈ tb := tbm3 57 (by decide +kernel) rfl
theorem tw_602 : (Jvm.Cond.instanceMethod ({ cls := "TideLoans", name := "readItem", desc := "()Z" } : Jvm.MethodName)) ∈ tb := tbm3 59 (by decide +kernel) rfl
theorem tw_603 : (Jvm.Cond.code ({ cls := "TideLoans", name := "readItem", desc := "()Z" } : Jvm.MethodName) prog_1_method_74_code (2 : Nat) (Option.some Jvm.ClassFile.FieldType.boolean)) ∈ tb := tbm3 60 (by decide +kernel) rfl
theorem tw_604 : (Jvm.Cond.methodLink "TideLoans" (358 : Nat) ({ cls := "TideLoans$Tape", name := "kindNamed", desc := "()I" } : Jvm.MethodName)) ∈ tb := tbm3 61 (by decide +kernel) rfl
theorem tw_605 : (Jvm.Cond.instanceMethod ({ cls := "TideLoans$Tape", name := "kindNamed", desc := "()I" } : Jvm.MethodName)) ∈ tb := tbm3 62 (by decide +kernel) rfl
theorem tw_606 : (Jvm.Cond.selects "TideLoans$Tape" ({ cls := "TideLoans$Tape", name := "kindNamed", desc := "()I" } : Jvm.MethodName) ({ cls := "TideLoans$Tape", name := "kindNamed", desc := "()I" } : Jvm.MethodName)) ∈ tb := tbm3 63 (by decide +kernel) rfl
theorem tw_607 : (Jvm.Cond.code ({ cls := "TideLoans$Tape", name := "kindNamed", desc := "()I" } : Jvm.MethodName) prog_4_method_8_code (2 : Nat) (Option.some Jvm.ClassFile.FieldType.int)) ∈ tb := tbm3 64 (by decide +kernel) rfl
theorem tw_608 : (Jvm.Cond.methodLink "TideLoans$Tape" (53 : Nat) ({ cls := "TideLoans$Tape", name := "nameOf", desc := "(I)Ljava/lang/String;" } : Jvm.MethodName)) ∈ tb := tbm3 65 (by decide +kernel) rfl
theorem tw_609 : (Jvm.Cond.static ({ cls := "TideLoans$Tape", name := "nameOf", desc := "(I)Ljava/lang/String;" } : Jvm.MethodName)) ∈ tb := tbm3 66 (by decide +kernel) rfl
theorem tw_610 : (Jvm.Cond.code ({ cls := "TideLoans$Tape", name := "nameOf", desc := "(I)Ljava/lang/String;" } : Jvm.MethodName) prog_4_method_9_code (1 : Nat) (Option.some (Jvm.ClassFile.FieldType.object "java/lang/String"))) ∈ tb := tbm3 67 (by decide +kernel) rfl
theorem tw_617 : (Jvm.Cond.methodLink "TideLoans$Tape" (57 : Nat) ({ cls := "TideLoans$Tape", name := "isWord", desc := "(Ljava/lang/String;)Z" } : Jvm.MethodName)) ∈ tb := tbm3 74 (by decide +kernel) rfl
theorem tw_618 : (Jvm.Cond.instanceMethod ({ cls := "TideLoans$Tape", name := "isWord", desc := "(Ljava/lang/String;)Z" } : Jvm.MethodName)) ∈ tb := tbm3 75 (by decide +kernel) rfl
theorem tw_619 : (Jvm.Cond.selects "TideLoans$Tape" ({ cls := "TideLoans$Tape", name := "isWord", desc := "(Ljava/lang/String;)Z" } : Jvm.MethodName) ({ cls := "TideLoans$Tape", name := "isWord", desc := "(Ljava/lang/String;)Z" } : Jvm.MethodName)) ∈ tb := tbm3 76 (by decide +kernel) rfl
theorem tw_620 : (Jvm.Cond.code ({ cls := "TideLoans$Tape", name := "isWord", desc := "(Ljava/lang/String;)Z" } : Jvm.MethodName) prog_4_method_7_code (3 : Nat) (Option.some Jvm.ClassFile.FieldType.boolean)) ∈ tb := tbm3 77 (by decide +kernel) rfl
theorem tw_621 : (Jvm.Cond.methodLink "TideLoans$Tape" (44 : Nat) ({ cls := "java/lang/String", name := "length", desc := "()I" } : Jvm.MethodName)) ∈ tb := tbm3 78 (by decide +kernel) rfl
theorem tw_622 : (Jvm.Cond.instanceMethod ({ cls := "java/lang/String", name := "length", desc := "()I" } : Jvm.MethodName)) ∈ tb := tbm3 79 (by decide +kernel) rfl
theorem tw_623 : (Jvm.Cond.selects "java/lang/String" ({ cls := "java/lang/String", name := "length", desc := "()I" } : Jvm.MethodName) ({ cls := "java/lang/String", name := "length", desc := "()I" } : Jvm.MethodName)) ∈ tb := tbm3 80 (by decide +kernel) rfl
theorem tw_624 : (Jvm.Cond.code ({ cls := "java/lang/String", name := "length", desc := "()I" } : Jvm.MethodName) prog_11_method_54_code (1 : Nat) (Option.some Jvm.ClassFile.FieldType.int)) ∈ tb := tbm3 81 (by decide +kernel) rfl
theorem tw_625 : (Jvm.Cond.methodLink "java/lang/String" (335 : Nat) ({ cls := "java/lang/String", name := "coder", desc := "()B" } : Jvm.MethodName)) ∈ tb := tbm3 82 (by decide +kernel) rfl
theorem tw_626 : (Jvm.Cond.instanceMethod ({ cls := "java/lang/String", name := "coder", desc := "()B" } : Jvm.MethodName)) ∈ tb := tbm3 83 (by decide +kernel) rfl
theorem tw_627 : (Jvm.Cond.selects "java/lang/String" ({ cls := "java/lang/String", name := "coder", desc := "()B" } : Jvm.MethodName) ({ cls := "java/lang/String", name := "coder", desc := "()B" } : Jvm.MethodName)) ∈ tb := tbm3 84 (by decide +kernel) rfl
theorem tw_628 : (Jvm.Cond.code ({ cls := "java/lang/String", name := "coder", desc := "()B" } : Jvm.MethodName) prog_11_method_152_code (1 : Nat) (Option.some Jvm.ClassFile.FieldType.byte)) ∈ tb := tbm3 85 (by decide +kernel) rfl
theorem tw_629 : (Jvm.Cond.fieldLink "java/lang/String" (38 : Nat) "java/lang/String" "COMPACT_STRINGS" "Z") ∈ tb := tbm3 86 (by decide +kernel) rfl
theorem tw_631 : (Jvm.Cond.methodLink "TideLoans$Tape" (49 : Nat) ({ cls := "java/lang/String", name := "charAt", desc := "(I)C" } : Jvm.MethodName)) ∈ tb := tbm3 88 (by decide +kernel) rfl
theorem tw_632 : (Jvm.Cond.instanceMethod ({ cls := "java/lang/String", name := "charAt", desc := "(I)C" } : Jvm.MethodName)) ∈ tb := tbm3 89 (by decide +kernel) rfl
theorem tw_633 : (Jvm.Cond.selects "java/lang/String" ({ cls := "java/lang/String", name := "charAt", desc := "(I)C" } : Jvm.MethodName) ({ cls := "java/lang/String", name := "charAt", desc := "(I)C" } : Jvm.MethodName)) ∈ tb := tbm3 90 (by decide +kernel) rfl
theorem tw_634 : (Jvm.Cond.code ({ cls := "java/lang/String", name := "charAt", desc := "(I)C" } : Jvm.MethodName) prog_11_method_56_code (2 : Nat) (Option.some Jvm.ClassFile.FieldType.char)) ∈ tb := tbm3 91 (by decide +kernel) rfl
theorem tw_635 : (Jvm.Cond.methodLink "java/lang/String" (492 : Nat) ({ cls := "java/lang/String", name := "isLatin1", desc := "()Z" } : Jvm.MethodName)) ∈ tb := tbm3 92 (by decide +kernel) rfl
theorem tw_636 : (Jvm.Cond.instanceMethod ({ cls := "java/lang/String", name := "isLatin1", desc := "()Z" } : Jvm.MethodName)) ∈ tb := tbm3 93 (by decide +kernel) rfl
theorem tw_637 : (Jvm.Cond.selects "java/lang/String" ({ cls := "java/lang/String", name := "isLatin1", desc := "()Z" } : Jvm.MethodName) ({ cls := "java/lang/String", name := "isLatin1", desc := "()Z" } : Jvm.MethodName)) ∈ tb := tbm3 94 (by decide +kernel) rfl
theorem tw_638 : (Jvm.Cond.code ({ cls := "java/lang/String", name := "isLatin1", desc := "()Z" } : Jvm.MethodName) prog_11_method_154_code (1 : Nat) (Option.some Jvm.ClassFile.FieldType.boolean)) ∈ tb := tbm3 95 (by decide +kernel) rfl
theorem tw_639 : (Jvm.Cond.methodLink "java/lang/String" (495 : Nat) ({ cls := "java/lang/StringLatin1", name := "charAt", desc := "([BI)C" } : Jvm.MethodName)) ∈ tb := tbm3 96 (by decide +kernel) rfl
theorem tw_640 : (Jvm.Cond.static ({ cls := "java/lang/StringLatin1", name := "charAt", desc := "([BI)C" } : Jvm.MethodName)) ∈ tb := tbm3 97 (by decide +kernel) rfl
theorem tw_641 : (Jvm.Cond.code ({ cls := "java/lang/StringLatin1", name := "charAt", desc := "([BI)C" } : Jvm.MethodName) prog_12_method_2_code (2 : Nat) (Option.some Jvm.ClassFile.FieldType.char)) ∈ tb := tbm3 98 (by decide +kernel) rfl
theorem tw_642 : (Jvm.Cond.methodLink "java/lang/StringLatin1" (9 : Nat) ({ cls := "java/lang/String", name := "checkIndex", desc := "(II)V" } : Jvm.MethodName)) ∈ tb := tbm3 99 (by decide +kernel) rfl
theorem tw_643 : (Jvm.Cond.static ({ cls := "java/lang/String", name := "checkIndex", desc := "(II)V" } : Jvm.MethodName)) ∈ tb := tbm3 100 (by decide +kernel) rfl
theorem tw_644 : (Jvm.Cond.code ({ cls := "java/lang/String", name := "checkIndex", desc := "(II)V" } : Jvm.MethodName) prog_11_method_155_code (2 : Nat) (Option.none : Option Jvm.ClassFile.FieldType)) ∈ tb := tbm3 101 (by decide +kernel) rfl
theorem tw_645 : (Jvm.Cond.fieldLink "java/lang/String" (1053 : Nat) "jdk/internal/util/Preconditions" "SIOOBE_FORMATTER" "Ljava/util/function/BiFunction;") ∈ tb := tbm3 102 (by decide +kernel) rfl
theorem tw_647 : (Jvm.Cond.methodLink "java/lang/String" (1059 : Nat) ({ cls := "jdk/internal/util/Preconditions", name := "checkIndex", desc := "(IILjava/util/function/BiFunction;)I" } : Jvm.MethodName)) ∈ tb := tbm3 104 (by decide +kernel) rfl
theorem tw_648 : (Jvm.Cond.static ({ cls := "jdk/internal/util/Preconditions", name := "checkIndex", desc := "(IILjava/util/function/BiFunction;)I" } : Jvm.MethodName)) ∈ tb := tbm3 105 (by decide +kernel) rfl
theorem tw_649 : (Jvm.Cond.code ({ cls := "jdk/internal/util/Preconditions", name := "checkIndex", desc := "(IILjava/util/function/BiFunction;)I" } : Jvm.MethodName) prog_15_method_11_code (3 : Nat) (Option.some Jvm.ClassFile.FieldType.int)) ∈ tb := tbm3 106 (by decide +kernel) rfl
theorem tw_650 : (Jvm.Cond.methodLink "java/lang/String" (498 : Nat) ({ cls := "java/lang/StringUTF16", name := "charAt", desc := "([BI)C" } : Jvm.MethodName)) ∈ tb := tbm3 107 (by decide +kernel) rfl
theorem tw_651 : (Jvm.Cond.static ({ cls := "java/lang/StringUTF16", name := "charAt", desc := "([BI)C" } : Jvm.MethodName)) ∈ tb := tbm3 108 (by decide +kernel) rfl
theorem tw_652 : (Jvm.Cond.code ({ cls := "java/lang/StringUTF16", name := "charAt", desc := "([BI)C" } : Jvm.MethodName) prog_13_method_83_code (2 : Nat) (Option.some Jvm.ClassFile.FieldType.char)) ∈ tb := tbm3 109 (by decide +kernel) rfl
theorem tw_653 : (Jvm.Cond.methodLink "java/lang/StringUTF16" (67 : Nat) ({ cls := "java/lang/StringUTF16", name := "checkIndex", desc := "(I[B)V" } : Jvm.MethodName)) ∈ tb := tbm3 110 (by decide +kernel) rfl
theorem tw_654 : (Jvm.Cond.static ({ cls := "java/lang/StringUTF16", name := "checkIndex", desc := "(I[B)V" } : Jvm.MethodName)) ∈ tb := tbm3 111 (by decide +kernel) rfl
theorem tw_655 : (Jvm.Cond.code ({ cls := "java/lang/StringUTF16", name := "checkIndex", desc := "(I[B)V" } : Jvm.MethodName) prog_13_method_91_code (2 : Nat) (Option.none : Option Jvm.ClassFile.FieldType)) ∈ tb := tbm3 112 (by decide +kernel) rfl
theorem tw_656 : (Jvm.Cond.methodLink "java/lang/StringUTF16" (48 : Nat) ({ cls := "java/lang/StringUTF16", name := "length", desc := "([B)I" } : Jvm.MethodName)) ∈ tb := tbm3 113 (by decide +kernel) rfl
theorem tw_657 : (Jvm.Cond.static ({ cls := "java/lang/StringUTF16", name := "length", desc := "([B)I" } : Jvm.MethodName)) ∈ tb := tbm3 114 (by decide +kernel) rfl
theorem tw_658 : (Jvm.Cond.code ({ cls := "java/lang/StringUTF16", name := "length", desc := "([B)I" } : Jvm.MethodName) prog_13_method_6_code (1 : Nat) (Option.some Jvm.ClassFile.FieldType.int)) ∈ tb := tbm3 115 (by decide +kernel) rfl
theorem tw_659 : (Jvm.Cond.methodLink "java/lang/StringUTF16" (414 : Nat) ({ cls := "java/lang/String", name := "checkIndex", desc := "(II)V" } : Jvm.MethodName)) ∈ tb := tbm3 116 (by decide +kernel) rfl
theorem tw_660 : (Jvm.Cond.methodLink "java/lang/StringUTF16" (71 : Nat) ({ cls := "java/lang/StringUTF16", name := "getChar", desc := "([BI)C" } : Jvm.MethodName)) ∈ tb := tbm3 117 (by decide +kernel) rfl
theorem tw_661 : (Jvm.Cond.static ({ cls := "java/lang/StringUTF16", name := "getChar", desc := "([BI)C" } : Jvm.MethodName)) ∈ tb := tbm3 118 (by decide +kernel) rfl
theorem tw_662 : (Jvm.Cond.code ({ cls := "java/lang/StringUTF16", name := "getChar", desc := "([BI)C" } : Jvm.MethodName) prog_13_method_5_code (2 : Nat) (Option.some Jvm.ClassFile.FieldType.char)) ∈ tb := tbm3 119 (by decide +kernel) rfl
theorem tw_663 : (Jvm.Cond.fieldLink "java/lang/StringUTF16" (44 : Nat) "java/lang/StringUTF16" "$assertionsDisabled" "Z") ∈ tb := tbm3 120 (by decide +kernel) rfl
theorem tw_665 : (Jvm.Cond.fieldLink "java/lang/StringUTF16" (59 : Nat) "java/lang/StringUTF16" "HI_BYTE_SHIFT" "I") ∈ tb := tbm3 122 (by decide +kernel) rfl
theorem tw_667 : (Jvm.Cond.fieldLink "java/lang/StringUTF16" (63 : Nat) "java/lang/StringUTF16" "LO_BYTE_SHIFT" "I") ∈ tb := tbm3 124 (by decide +kernel) rfl
theorem tw_669 : (Jvm.Cond.methodLink "TideLoans" (361 : Nat) ({ cls := "TideLoans", name := "readThing", desc := "(I)Z" } : Jvm.MethodName)) ∈ tb := tbm3 126 (by decide +kernel) rfl
theorem tw_671 : (Jvm.Cond.instanceMethod ({ cls := "TideLoans", name := "readThing", desc := "(I)Z" } : Jvm.MethodName)) ∈ tb := tbm3 128 (by decide +kernel) rfl
theorem tw_672 : (Jvm.Cond.code ({ cls := "TideLoans", name := "readThing", desc := "(I)Z" } : Jvm.MethodName) prog_1_method_75_code (3 : Nat) (Option.some Jvm.ClassFile.FieldType.boolean)) ∈ tb := tbm3 129 (by decide +kernel) rfl
theorem tw_673 : (Jvm.Cond.methodLink "TideLoans" (355 : Nat) ({ cls := "TideLoans$Tape", name := "step", desc := "()V" } : Jvm.MethodName)) ∈ tb := tbm3 130 (by decide +kernel) rfl
theorem tw_675 : (Jvm.Cond.methodLink "TideLoans" (366 : Nat) ({ cls := "TideLoans$Tape", name := "isWord", desc := "(Ljava/lang/String;)Z" } : Jvm.MethodName)) ∈ tb := tbm3 132 (by decide +kernel) rfl
theorem tw_676 : (Jvm.Cond.methodLink "TideLoans" (379 : Nat) ({ cls := "TideLoans$Tape", name := "isNumberTo", desc := "(I)Z" } : Jvm.MethodName)) ∈ tb := tbm3 133 (by decide +kernel) rfl
theorem tw_677 : (Jvm.Cond.instanceMethod ({ cls := "TideLoans$Tape", name := "isNumberTo", desc := "(I)Z" } : Jvm.MethodName)) ∈ tb := tbm3 134 (by decide +kernel) rfl
theorem tw_678 : (Jvm.Cond.selects "TideLoans$Tape" ({ cls := "TideLoans$Tape", name := "isNumberTo", desc := "(I)Z" } : Jvm.MethodName) ({ cls := "TideLoans$Tape", name := "isNumberTo", desc := "(I)Z" } : Jvm.MethodName)) ∈ tb := tbm3 135 (by decide +kernel) rfl
theorem tw_679 : (Jvm.Cond.code ({ cls := "TideLoans$Tape", name := "isNumberTo", desc := "(I)Z" } : Jvm.MethodName) prog_4_method_6_code (3 : Nat) (Option.some Jvm.ClassFile.FieldType.boolean)) ∈ tb := tbm3 136 (by decide +kernel) rfl
theorem tw_680 : (Jvm.Cond.methodLink "TideLoans$Tape" (38 : Nat) ({ cls := "java/lang/Math", name := "min", desc := "(II)I" } : Jvm.MethodName)) ∈ tb := tbm3 137 (by decide +kernel) rfl
theorem tw_681 : (Jvm.Cond.methodLink "TideLoans" (385 : Nat) ({ cls := "TideLoans", name := "readWorth", desc := "(LTideLoans$Thing;)Z" } : Jvm.MethodName)) ∈ tb := tbm3 138 (by decide +kernel) rfl
theorem tw_683 : (Jvm.Cond.instanceMethod ({ cls := "TideLoans", name := "readWorth", desc := "(LTideLoans$Thing;)Z" } : Jvm.MethodName)) ∈ tb := tbm3 140 (by decide +kernel) rfl
theorem tw_684 : (Jvm.Cond.code ({ cls := "TideLoans", name := "readWorth", desc := "(LTideLoans$Thing;)Z" } : Jvm.MethodName) prog_1_method_76_code (2 : Nat) (Option.some Jvm.ClassFile.FieldType.boolean)) ∈ tb := tbm3 141 (by decide +kernel) rfl
theorem tw_686 : (Jvm.Cond.methodLink "TideLoans" (389 : Nat) ({ cls := "TideLoans", name := "readPlace", desc := "(LTideLoans$Thing;)Z" } : Jvm.MethodName)) ∈ tb := tbm3 143 (by decide +kernel) rfl
theorem tw_688 : (Jvm.Cond.instanceMethod ({ cls := "TideLoans", name := "readPlace", desc := "(LTideLoans$Thing;)Z" } : Jvm.MethodName)) ∈ tb := tbm3 145 (by decide +kernel) rfl
theorem tw_689 : (Jvm.Cond.code ({ cls := "TideLoans", name := "readPlace", desc := "(LTideLoans$Thing;)Z" } : Jvm.MethodName) prog_1_method_77_code (2 : Nat) (Option.some Jvm.ClassFile.FieldType.boolean)) ∈ tb := tbm3 146 (by decide +kernel) rfl
theorem tw_692 : (Jvm.Cond.methodLink "TideLoans" (370 : Nat) ({ cls := "TideLoans", name := "readHeight", desc := "()Z" } : Jvm.MethodName)) ∈ tb := tbm3 149 (by decide +kernel) rfl
theorem tw_694 : (Jvm.Cond.instanceMethod ({ cls := "TideLoans", name := "readHeight", desc := "()Z" } : Jvm.MethodName)) ∈ tb := tbm3 151 (by decide +kernel) rfl
theorem tw_695 : (Jvm.Cond.code ({ cls := "TideLoans", name := "readHeight", desc := "()Z" } : Jvm.MethodName) prog_1_method_78_code (2 : Nat) (Option.some Jvm.ClassFile.FieldType.boolean)) ∈ tb := tbm3 152 (by decide +kernel) rfl
theorem tw_697 : (Jvm.Cond.methodLink "TideLoans" (374 : Nat) ({ cls := "TideLoans", name := "readInterest", desc := "()Z" } : Jvm.MethodName)) ∈ tb := tbm3 154 (by decide +kernel) rfl
theorem tw_699 : (Jvm.Cond.instanceMethod ({ cls := "TideLoans", name := "readInterest", desc := "()Z" } : Jvm.MethodName)) ∈ tb := tbm3 156 (by decide +kernel) rfl
theorem tw_700 : (Jvm.Cond.code ({ cls := "TideLoans", name := "readInterest", desc := "()Z" } : Jvm.MethodName) prog_1_method_79_code (1 : Nat) (Option.some Jvm.ClassFile.FieldType.boolean)) ∈ tb := tbm3 157 (by decide +kernel) rfl
theorem tw_701 : (Jvm.Cond.methodLink "TideLoansLaw" (130 : Nat) ({ cls := "TideLoans", name := "sheet", desc := "(III)I" } : Jvm.MethodName)) ∈ tb := tbm3 158 (by decide +kernel) rfl
theorem tw_702 : (Jvm.Cond.instanceMethod ({ cls := "TideLoans", name := "sheet", desc := "(III)I" } : Jvm.MethodName)) ∈ tb := tbm3 159 (by decide +kernel) rfl
theorem tw_703 : (Jvm.Cond.selects "TideLoans" ({ cls := "TideLoans", name := "sheet", desc := "(III)I" } : Jvm.MethodName) ({ cls := "TideLoans", name := "sheet", desc := "(III)I" } : Jvm.MethodName)) ∈ tb := tbm3 160 (by decide +kernel) rfl
theorem tw_704 : (Jvm.Cond.code ({ cls := "TideLoans", name := "sheet", desc := "(III)I" } : Jvm.MethodName) prog_1_method_30_code (4 : Nat) (Option.some Jvm.ClassFile.FieldType.int)) ∈ tb := tbm3 161 (by decide +kernel) rfl
theorem tw_705 : (Jvm.Cond.methodLink "TideLoans" (248 : Nat) ({ cls := "TideLoans", name := "isWidth", desc := "(I)Z" } : Jvm.MethodName)) ∈ tb := tbm3 162 (by decide +kernel) rfl
theorem tw_706 : (Jvm.Cond.static ({ cls := "TideLoans", name := "isWidth", desc := "(I)Z" } : Jvm.MethodName)) ∈ tb := tbm3 163 (by decide +kernel) rfl
theorem tw_707 : (Jvm.Cond.code ({ cls := "TideLoans", name := "isWidth", desc := "(I)Z" } : Jvm.MethodName) prog_1_method_44_code (1 : Nat) (Option.some Jvm.ClassFile.FieldType.boolean)) ∈ tb := tbm3 164 (by decide +kernel) rfl
theorem tw_708 : (Jvm.Cond.constant "TideLoans" (251 : Nat) (-1000000007 : Int32)) ∈ tb := tbm3 165 (by decide +kernel) rfl
theorem tw_709 : (Jvm.Cond.methodLink "TideLoans" (252 : Nat) ({ cls := "TideLoans$Sheet", name := "renew", desc := "(II)V" } : Jvm.MethodName)) ∈ tb := tbm3 166 (by decide +kernel) rfl
theorem tw_710 : (Jvm.Cond.instanceMethod ({ cls := "TideLoans$Sheet", name := "renew", desc := "(II)V" } : Jvm.MethodName)) ∈ tb := tbm3 167 (by decide +kernel) rfl
theorem tw_711 : (Jvm.Cond.selects "TideLoans$Sheet" ({ cls := "TideLoans$Sheet", name := "renew", desc := "(II)V" } : Jvm.MethodName) ({ cls := "TideLoans$Sheet", name := "renew", desc := "(II)V" } : Jvm.MethodName)) ∈ tb := tbm3 168 (by decide +kernel) rfl
theorem tw_712 : (Jvm.Cond.code ({ cls := "TideLoans$Sheet", name := "renew", desc := "(II)V" } : Jvm.MethodName) prog_2_method_3_code (4 : Nat) (Option.none : Option Jvm.ClassFile.FieldType)) ∈ tb := tbm3 169 (by decide +kernel) rfl
theorem tw_713 : (Jvm.Cond.methodLink "TideLoansLaw" (136 : Nat) ({ cls := "TideLoans", name := "write", desc := "(IIJ)J" } : Jvm.MethodName)) ∈ tb := tbm3 170 (by decide +kernel) rfl
theorem tw_714 : (Jvm.Cond.instanceMethod ({ cls := "TideLoans", name := "write", desc := "(IIJ)J" } : Jvm.MethodName)) ∈ tb := tbm3 171 (by decide +kernel) rfl
theorem tw_715 : (Jvm.Cond.selects "TideLoans" ({ cls := "TideLoans", name := "write", desc := "(IIJ)J" } : Jvm.MethodName) ({ cls := "TideLoans", name := "write", desc := "(IIJ)J" } : Jvm.MethodName)) ∈ tb := tbm3 172 (by decide +kernel) rfl
theorem tw_716 : (Jvm.Cond.code ({ cls := "TideLoans", name := "write", desc := "(IIJ)J" } : Jvm.MethodName) prog_1_method_31_code (8 : Nat) (Option.some Jvm.ClassFile.FieldType.long)) ∈ tb := tbm3 173 (by decide +kernel) rfl
theorem tw_717 : (Jvm.Cond.methodLink "TideLoans" (256 : Nat) ({ cls := "TideLoans$Sheet", name := "isMissing", desc := "()Z" } : Jvm.MethodName)) ∈ tb := tbm3 174 (by decide +kernel) rfl
theorem tw_718 : (Jvm.Cond.instanceMethod ({ cls := "TideLoans$Sheet", name := "isMissing", desc := "()Z" } : Jvm.MethodName)) ∈ tb := tbm3 175 (by decide +kernel) rfl
theorem tw_719 : (Jvm.Cond.selects "TideLoans$Sheet" ({ cls := "TideLoans$Sheet", name := "isMissing", desc := "()Z" } : Jvm.MethodName) ({ cls := "TideLoans$Sheet", name := "isMissing", desc := "()Z" } : Jvm.MethodName)) ∈ tb := tbm3 176 (by decide +kernel) rfl
theorem tw_720 : (Jvm.Cond.code ({ cls := "TideLoans$Sheet", name := "isMissing", desc := "()Z" } : Jvm.MethodName) prog_2_method_2_code (1 : Nat) (Option.some Jvm.ClassFile.FieldType.boolean)) ∈ tb := tbm3 177 (by decide +kernel) rfl
theorem tw_721 : (Jvm.Cond.constant "TideLoans" (259 : Nat) (-1000000006 : Int32)) ∈ tb := tbm3 178 (by decide +kernel) rfl
theorem tw_722 : (Jvm.Cond.methodLink "TideLoans" (264 : Nat) ({ cls := "TideLoans$Sheet", name := "put", desc := "(IJ)V" } : Jvm.MethodName)) ∈ tb := tbm3 179 (by decide +kernel) rfl
theorem tw_723 : (Jvm.Cond.instanceMethod ({ cls := "TideLoans$Sheet", name := "put", desc := "(IJ)V" } : Jvm.MethodName)) ∈ tb := tbm3 180 (by decide +kernel) rfl
theorem tw_724 : (Jvm.Cond.selects "TideLoans$Sheet" ({ cls := "TideLoans$Sheet", name := "put", desc := "(IJ)V" } : Jvm.MethodName) ({ cls := "TideLoans$Sheet", name := "put", desc := "(IJ)V" } : Jvm.MethodName)) ∈ tb := tbm3 181 (by decide +kernel) rfl
theorem tw_725 : (Jvm.Cond.code ({ cls := "TideLoans$Sheet", name := "put", desc := "(IJ)V" } : Jvm.MethodName) prog_2_method_4_code (4 : Nat) (Option.none : Option Jvm.ClassFile.FieldType)) ∈ tb := tbm3 182 (by decide +kernel) rfl
theorem tw_726 : (Jvm.Cond.methodLink "TideLoansLaw" (141 : Nat) ({ cls := "TideLoans", name := "copy", desc := "(IIIII)I" } : Jvm.MethodName)) ∈ tb := tbm3 183 (by decide +kernel) rfl
theorem tw_727 : (Jvm.Cond.instanceMethod ({ cls := "TideLoans", name := "copy", desc := "(IIIII)I" } : Jvm.MethodName)) ∈ tb := tbm3 184 (by decide +kernel) rfl
theorem tw_728 : (Jvm.Cond.selects "TideLoans" ({ cls := "TideLoans", name := "copy", desc := "(IIIII)I" } : Jvm.MethodName) ({ cls := "TideLoans", name := "copy", desc := "(IIIII)I" } : Jvm.MethodName)) ∈ tb := tbm3 185 (by decide +kernel) rfl
theorem tw_729 : (Jvm.Cond.code ({ cls := "TideLoans", name := "copy", desc := "(IIIII)I" } : Jvm.MethodName) prog_1_method_32_code (8 : Nat) (Option.some Jvm.ClassFile.FieldType.int)) ∈ tb := tbm3 186 (by decide +kernel) rfl
theorem tw_730 : (Jvm.Cond.methodLink "TideLoans" (270 : Nat) ({ cls := "TideLoans$Sheet", name := "hasRun", desc := "(II)Z" } : Jvm.MethodName)) ∈ tb := tbm3 187 (by decide +kernel) rfl
theorem tw_731 : (Jvm.Cond.instanceMethod ({ cls := "TideLoans$Sheet", name := "hasRun", desc := "(II)Z" } : Jvm.MethodName)) ∈ tb := tbm3 188 (by decide +kernel) rfl
theorem tw_732 : (Jvm.Cond.selects "TideLoans$Sheet" ({ cls := "TideLoans$Sheet", name := "hasRun", desc := "(II)Z" } : Jvm.MethodName) ({ cls := "TideLoans$Sheet", name := "hasRun", desc := "(II)Z" } : Jvm.MethodName)) ∈ tb := tbm3 189 (by decide +kernel) rfl
theorem tw_733 : (Jvm.Cond.code ({ cls := "TideLoans$Sheet", name := "hasRun", desc := "(II)Z" } : Jvm.MethodName) prog_2_method_5_code (3 : Nat) (Option.some Jvm.ClassFile.FieldType.boolean)) ∈ tb := tbm3 190 (by decide +kernel) rfl
theorem tw_734 : (Jvm.Cond.methodLink "TideLoans" (273 : Nat) ({ cls := "java/lang/System", name := "arraycopy", desc := "(Ljava/lang/Object;ILjava/lang/Object;II)V" } : Jvm.MethodName)) ∈ tb := tbm3 191 (by decide +kernel) rfl
theorem tw_735 : (Jvm.Cond.methodLink "TideLoansLaw" (146 : Nat) ({ cls := "TideLoans", name := "lays", desc := "(I)I" } : Jvm.MethodName)) ∈ tb := tbm3 192 (by decide +kernel) rfl
theorem tw_736 : (Jvm.Cond.instanceMethod ({ cls := "TideLoans", name := "lays", desc := "(I)I" } : Jvm.MethodName)) ∈ tb := tbm3 193 (by decide +kernel) rfl
theorem tw_737 : (Jvm.Cond.selects "TideLoans" ({ cls := "TideLoans", name := "lays", desc := "(I)I" } : Jvm.MethodName) ({ cls := "TideLoans", name := "lays", desc := "(I)I" } : Jvm.MethodName)) ∈ tb := tbm3 194 (by decide +kernel) rfl
theorem tw_738 : (Jvm.Cond.code ({ cls := "TideLoans", name := "lays", desc := "(I)I" } : Jvm.MethodName) prog_1_method_33_code (7 : Nat) (Option.some Jvm.ClassFile.FieldType.int)) ∈ tb := tbm3 195 (by decide +kernel) rfl
theorem tw_739 : (Jvm.Cond.constantLong "TideLoans" (279 : Nat) (10 : Int64)) ∈ tb := tbm3 196 (by decide +kernel) rfl
theorem tw_740 : (Jvm.Cond.methodLink "TideLoansLaw" (150 : Nat) ({ cls := "TideLoans", name := "book", desc := "(II)I" } : Jvm.MethodName)) ∈ tb := tbm3 197 (by decide +kernel) rfl
theorem tw_741 : (Jvm.Cond.instanceMethod ({ cls := "TideLoans", name := "book", desc := "(II)I" } : Jvm.MethodName)) ∈ tb := tbm3 198 (by decide +kernel) rfl
theorem tw_742 : (Jvm.Cond.selects "TideLoans" ({ cls := "TideLoans", name := "book", desc := "(II)I" } : Jvm.MethodName) ({ cls := "TideLoans", name := "book", desc := "(II)I" } : Jvm.MethodName)) ∈ tb := tbm3 199 (by decide +kernel) rfl
theorem tw_743 : (Jvm.Cond.code ({ cls := "TideLoans", name := "book", desc := "(II)I" } : Jvm.MethodName) prog_1_method_34_code (5 : Nat) (Option.some Jvm.ClassFile.FieldType.int)) ∈ tb := tbm3 200 (by decide +kernel) rfl
theorem tw_744 : (Jvm.Cond.methodLink "TideLoans" (281 : Nat) ({ cls := "TideLoans", name := "plotCourse", desc := "(III)V" } : Jvm.MethodName)) ∈ tb := tbm3 201 (by decide +kernel) rfl
theorem tw_746 : (Jvm.Cond.instanceMethod ({ cls := "TideLoans", name := "plotCourse", desc := "(III)V" } : Jvm.MethodName)) ∈ tb := tbm3 203 (by decide +kernel) rfl
theorem tw_747 : (Jvm.Cond.code ({ cls := "TideLoans", name := "plotCourse", desc := "(III)V" } : Jvm.MethodName) prog_1_method_69_code (5 : Nat) (Option.none : Option Jvm.ClassFile.FieldType)) ∈ tb := tbm3 204 (by decide +kernel) rfl
theorem tw_748 : (Jvm.Cond.methodLink "TideLoans" (336 : Nat) ({ cls := "TideLoans", name := "addToCourse", desc := "(III)V" } : Jvm.MethodName)) ∈ tb := tbm3 205 (by decide +kernel) rfl
theorem tw_750 : (Jvm.Cond.instanceMethod ({ cls := "TideLoans", name := "addToCourse", desc := "(III)V" } : Jvm.MethodName)) ∈ tb := tbm3 207 (by decide +kernel) rfl
theorem tw_751 : (Jvm.Cond.code ({ cls := "TideLoans", name := "addToCourse", desc := "(III)V" } : Jvm.MethodName) prog_1_method_70_code (5 : Nat) (Option.none : Option Jvm.ClassFile.FieldType)) ∈ tb := tbm3 208 (by decide +kernel) rfl
theorem tw_752 : (Jvm.Cond.methodLink "TideLoansLaw" (154 : Nat) ({ cls := "TideLoans", name := "read", desc := "(III)I" } : Jvm.MethodName)) ∈ tb := tbm3 209 (by decide +kernel) rfl
theorem tw_753 : (Jvm.Cond.instanceMethod ({ cls := "TideLoans", name := "read", desc := "(III)I" } : Jvm.MethodName)) ∈ tb := tbm3 210 (by decide +kernel) rfl
theorem tw_754 : (Jvm.Cond.selects "TideLoans" ({ cls := "TideLoans", name := "read", desc := "(III)I" } : Jvm.MethodName) ({ cls := "TideLoans", name := "read", desc := "(III)I" } : Jvm.MethodName)) ∈ tb := tbm3 211 (by decide +kernel) rfl
theorem tw_755 : (Jvm.Cond.code ({ cls := "TideLoans", name := "read", desc := "(III)I" } : Jvm.MethodName) prog_1_method_35_code (7 : Nat) (Option.some Jvm.ClassFile.FieldType.int)) ∈ tb := tbm3 212 (by decide +kernel) rfl
theorem tw_756 : (Jvm.Cond.methodLink "TideLoans" (288 : Nat) ({ cls := "TideLoans", name := "cellsThatFit", desc := "(LTideLoans$Sheet;II)I" } : Jvm.MethodName)) ∈ tb := tbm3 213 (by decide +kernel) rfl
theorem tw_758 : (Jvm.Cond.instanceMethod ({ cls := "TideLoans", name := "cellsThatFit", desc := "(LTideLoans$Sheet;II)I" } : Jvm.MethodName)) ∈ tb := tbm3 215 (by decide +kernel) rfl
theorem tw_759 : (Jvm.Cond.code ({ cls := "TideLoans", name := "cellsThatFit", desc := "(LTideLoans$Sheet;II)I" } : Jvm.MethodName) prog_1_method_71_code (7 : Nat) (Option.some Jvm.ClassFile.FieldType.int)) ∈ tb := tbm3 216 (by decide +kernel) rfl
theorem tw_760 : (Jvm.Cond.methodLink "TideLoans" (339 : Nat) ({ cls := "TideLoans", name := "isCourseWith", desc := "(LTideLoans$Sheet;II)Z" } : Jvm.MethodName)) ∈ tb := tbm3 217 (by decide +kernel) rfl
theorem tw_762 : (Jvm.Cond.instanceMethod ({ cls := "TideLoans", name := "isCourseWith", desc := "(LTideLoans$Sheet;II)Z" } : Jvm.MethodName)) ∈ tb := tbm3 219 (by decide +kernel) rfl
theorem tw_763 : (Jvm.Cond.code ({ cls := "TideLoans", name := "isCourseWith", desc := "(LTideLoans$Sheet;II)Z" } : Jvm.MethodName) prog_1_method_72_code (6 : Nat) (Option.some Jvm.ClassFile.FieldType.boolean)) ∈ tb := tbm3 220 (by decide +kernel) rfl
theorem tw_764 : (Jvm.Cond.methodLink "TideLoansLaw" (158 : Nat) ({ cls := "TideLoans", name := "image", desc := "()I" } : Jvm.MethodName)) ∈ tb := tbm3 221 (by decide +kernel) rfl
theorem tw_765 : (Jvm.Cond.instanceMethod ({ cls := "TideLoans", name := "image", desc := "()I" } : Jvm.MethodName)) ∈ tb := tbm3 222 (by decide +kernel) rfl
theorem tw_766 : (Jvm.Cond.selects "TideLoans" ({ cls := "TideLoans", name := "image", desc := "()I" } : Jvm.MethodName) ({ cls := "TideLoans", name := "image", desc := "()I" } : Jvm.MethodName)) ∈ tb := tbm3 223 (by decide +kernel) rfl
theorem tw_767 : (Jvm.Cond.code ({ cls := "TideLoans", name := "image", desc := "()I" } : Jvm.MethodName) prog_1_method_36_code (1 : Nat) (Option.some Jvm.ClassFile.FieldType.int)) ∈ tb := tbm3 224 (by decide +kernel) rfl
theorem tw_768 : (Jvm.Cond.methodLink "TideLoansLaw" (162 : Nat) ({ cls := "TideLoans", name := "undo", desc := "()I" } : Jvm.MethodName)) ∈ tb := tbm3 225 (by decide +kernel) rfl
theorem tw_769 : (Jvm.Cond.instanceMethod ({ cls := "TideLoans", name := "undo", desc := "()I" } : Jvm.MethodName)) ∈ tb := tbm3 226 (by decide +kernel) rfl
theorem tw_770 : (Jvm.Cond.selects "TideLoans" ({ cls := "TideLoans", name := "undo", desc := "()I" } : Jvm.MethodName) ({ cls := "TideLoans", name := "undo", desc := "()I" } : Jvm.MethodName)) ∈ tb := tbm3 227 (by decide +kernel) rfl
theorem tw_771 : (Jvm.Cond.code ({ cls := "TideLoans", name := "undo", desc := "()I" } : Jvm.MethodName) prog_1_method_37_code (1 : Nat) (Option.some Jvm.ClassFile.FieldType.int)) ∈ tb := tbm3 228 (by decide +kernel) rfl
theorem tw_772 : (Jvm.Cond.methodLink "TideLoansLaw" (166 : Nat) ({ cls := "TideLoans", name := "tear", desc := "()I" } : Jvm.MethodName)) ∈ tb := tbm3 229 (by decide +kernel) rfl
theorem tw_773 : (Jvm.Cond.instanceMethod ({ cls := "TideLoans", name := "tear", desc := "()I" } : Jvm.MethodName)) ∈ tb := tbm3 230 (by decide +kernel) rfl
theorem tw_774 : (Jvm.Cond.selects "TideLoans" ({ cls := "TideLoans", name := "tear", desc := "()I" } : Jvm.MethodName) ({ cls := "TideLoans", name := "tear", desc := "()I" } : Jvm.MethodName)) ∈ tb := tbm3 231 (by decide +kernel) rfl
theorem tw_775 : (Jvm.Cond.code ({ cls := "TideLoans", name := "tear", desc := "()I" } : Jvm.MethodName) prog_1_method_38_code (2 : Nat) (Option.some Jvm.ClassFile.FieldType.int)) ∈ tb := tbm3 232 (by decide +kernel) rfl
theorem tw_776 : (Jvm.Cond.methodLink "TideLoansLaw" (170 : Nat) ({ cls := "TideLoans", name := "count", desc := "(I)I" } : Jvm.MethodName)) ∈ tb := tbm3 233 (by decide +kernel) rfl
theorem tw_777 : (Jvm.Cond.instanceMethod ({ cls := "TideLoans", name := "count", desc := "(I)I" } : Jvm.MethodName)) ∈ tb := tbm3 234 (by decide +kernel) rfl
theorem tw_778 : (Jvm.Cond.selects "TideLoans" ({ cls := "TideLoans", name := "count", desc := "(I)I" } : Jvm.MethodName) ({ cls := "TideLoans", name := "count", desc := "(I)I" } : Jvm.MethodName)) ∈ tb := tbm3 235 (by decide +kernel) rfl
theorem tw_779 : (Jvm.Cond.code ({ cls := "TideLoans", name := "count", desc := "(I)I" } : Jvm.MethodName) prog_1_method_39_code (2 : Nat) (Option.some Jvm.ClassFile.FieldType.int)) ∈ tb := tbm3 236 (by decide +kernel) rfl
theorem tw_780 : (Jvm.Cond.methodLink "TideLoans" (296 : Nat) ({ cls := "TideLoans$Shore", name := "allHeights", desc := "()I" } : Jvm.MethodName)) ∈ tb := tbm3 237 (by decide +kernel) rfl
theorem tw_781 : (Jvm.Cond.instanceMethod ({ cls := "TideLoans$Shore", name := "allHeights", desc := "()I" } : Jvm.MethodName)) ∈ tb := tbm3 238 (by decide +kernel) rfl
theorem tw_782 : (Jvm.Cond.selects "TideLoans$Shore" ({ cls := "TideLoans$Shore", name := "allHeights", desc := "()I" } : Jvm.MethodName) ({ cls := "TideLoans$Shore", name := "allHeights", desc := "()I" } : Jvm.MethodName)) ∈ tb := tbm3 239 (by decide +kernel) rfl
theorem tw_783 : (Jvm.Cond.code ({ cls := "TideLoans$Shore", name := "allHeights", desc := "()I" } : Jvm.MethodName) prog_3_method_9_code (3 : Nat) (Option.some Jvm.ClassFile.FieldType.int)) ∈ tb := tbm4 0 (by decide +kernel) rfl
theorem tw_784 : (Jvm.Cond.methodLink "TideLoansLaw" (174 : Nat) ({ cls := "TideLoans", name := "status", desc := "(I)I" } : Jvm.MethodName)) ∈ tb := tbm4 1 (by decide +kernel) rfl
theorem tw_785 : (Jvm.Cond.instanceMethod ({ cls := "TideLoans", name := "status", desc := "(I)I" } : Jvm.MethodName)) ∈ tb := tbm4 2 (by decide +kernel) rfl
theorem tw_786 : (Jvm.Cond.selects "TideLoans" ({ cls := "TideLoans", name := "status", desc := "(I)I" } : Jvm.MethodName) ({ cls := "TideLoans", name := "status", desc := "(I)I" } : Jvm.MethodName)) ∈ tb := tbm4 3 (by decide +kernel) rfl
theorem tw_787 : (Jvm.Cond.code ({ cls := "TideLoans", name := "status", desc := "(I)I" } : Jvm.MethodName) prog_1_method_40_code (4 : Nat) (Option.some Jvm.ClassFile.FieldType.int)) ∈ tb := tbm4 4 (by decide +kernel) rfl
theorem tw_788 : (Jvm.Cond.classLink "TideLoansLaw" (10 : Nat) "TideLoansModel") ∈ tb := tbm4 5 (by decide +kernel) rfl
theorem tw_789 : (Jvm.Cond.instantiable "TideLoansModel" (16 : Nat)) ∈ tb := tbm4 6 (by decide +kernel) rfl
theorem tw_790 : (Jvm.Cond.methodLink "TideLoansLaw" (12 : Nat) ({ cls := "TideLoansModel", name := "<init>", desc := "()V" } : Jvm.MethodName)) ∈ tb := tbm4 7 (by decide +kernel) rfl
theorem tw_791 : (Jvm.Cond.instanceMethod ({ cls := "TideLoansModel", name := "<init>", desc := "()V" } : Jvm.MethodName)) ∈ tb := tbm4 8 (by decide +kernel) rfl
theorem tw_792 : (Jvm.Cond.code ({ cls := "TideLoansModel", name := "<init>", desc := "()V" } : Jvm.MethodName) prog_8_method_1_code (2 : Nat) (Option.none : Option Jvm.ClassFile.FieldType)) ∈ tb := tbm4 9 (by decide +kernel) rfl
theorem tw_793 : (Jvm.Cond.methodLink "TideLoansModel" (1 : Nat) ({ cls := "java/lang/Object", name := "<init>", desc := "()V" } : Jvm.MethodName)) ∈ tb := tbm4 10 (by decide +kernel) rfl
theorem tw_794 : (Jvm.Cond.fieldLink "TideLoansModel" (7 : Nat) "TideLoansModel" "s" "[I") ∈ tb := tbm4 11 (by decide +kernel) rfl
theorem tw_795 : (Jvm.Cond.fieldLink "TideLoansModel" (13 : Nat) "TideLoansModel" "kept" "[I") ∈ tb := tbm4 12 (by decide +kernel) rfl
theorem tw_796 : (Jvm.Cond.fieldLink "TideLoansModel" (16 : Nat) "TideLoansModel" "before" "[I") ∈ tb := tbm4 13 (by decide +kernel) rfl
theorem tw_797 : (Jvm.Cond.fieldLink "TideLoansModel" (19 : Nat) "TideLoansModel" "aside" "[I") ∈ tb := tbm4 14 (by decide +kernel) rfl
theorem tw_798 : (Jvm.Cond.fieldLink "TideLoansModel" (260 : Nat) "TideLoansModel" "isKept" "Z") ∈ tb := tbm4 15 (by decide +kernel) rfl
theorem tw_799 : (Jvm.Cond.fieldLink "TideLoansModel" (22 : Nat) "TideLoansModel" "findings" "[I") ∈ tb := tbm4 16 (by decide +kernel) rfl
theorem tw_800 : (Jvm.Cond.fieldLink "TideLoansModel" (25 : Nat) "TideLoansModel" "tape" "[I") ∈ tb := tbm4 17 (by decide +kernel) rfl
theorem tw_801 : (Jvm.Cond.fieldLink "TideLoansModel" (173 : Nat) "TideLoansModel" "taped" "I") ∈ tb := tbm4 18 (by decide +kernel) rfl
theorem tw_802 : (Jvm.Cond.fieldLink "TideLoansModel" (28 : Nat) "TideLoansModel" "bitsOf" "[I") ∈ tb := tbm4 19 (by decide +kernel) rfl
theorem tw_803 : (Jvm.Cond.fieldLink "TideLoansModel" (31 : Nat) "TideLoansModel" "sizes" "[I") ∈ tb := tbm4 20 (by decide +kernel) rfl
theorem tw_804 : (Jvm.Cond.fieldLink "TideLoansModel" (34 : Nat) "TideLoansModel" "numbers" "[J") ∈ tb := tbm4 21 (by decide +kernel) rfl
theorem tw_805 : (Jvm.Cond.fieldLink "TideLoansModel" (192 : Nat) "TideLoansModel" "token" "I") ∈ tb := tbm4 22 (by decide +kernel) rfl
theorem tw_806 : (Jvm.Cond.fieldLink "TideLoansModel" (180 : Nat) "TideLoansModel" "from" "I") ∈ tb := tbm4 23 (by decide +kernel) rfl
theorem tw_807 : (Jvm.Cond.fieldLink "TideLoansModel" (177 : Nat) "TideLoansModel" "to" "I") ∈ tb := tbm4 24 (by decide +kernel) rfl
theorem tw_808 : (Jvm.Cond.fieldLink "TideLoansModel" (195 : Nat) "TideLoansModel" "value" "I") ∈ tb := tbm4 25 (by decide +kernel) rfl
theorem tw_809 : (Jvm.Cond.fieldLink "TideLoansModel" (198 : Nat) "TideLoansModel" "faultAt" "I") ∈ tb := tbm4 26 (by decide +kernel) rfl
theorem tw_810 : (Jvm.Cond.laysFinal "TideLoansModel" "TideLoansModel" "s" "[I") ∈ tb := tbm4 27 (by decide +kernel) rfl
theorem tw_812 : (Jvm.Cond.laysFinal "TideLoansModel" "TideLoansModel" "kept" "[I") ∈ tb := tbm4 29 (by decide +kernel) rfl
theorem tw_814 : (Jvm.Cond.laysFinal "TideLoansModel" "TideLoansModel" "before" "[I") ∈ tb := tbm4 31 (by decide +kernel) rfl
theorem tw_816 : (Jvm.Cond.laysFinal "TideLoansModel" "TideLoansModel" "aside" "[I") ∈ tb := tbm4 33 (by decide +kernel) rfl
theorem tw_818 : (Jvm.Cond.lays "TideLoansModel" "TideLoansModel" "isKept" "Z") ∈ tb := tbm4 35 (by decide +kernel) rfl
theorem tw_820 : (Jvm.Cond.laysFinal "TideLoansModel" "TideLoansModel" "findings" "[I") ∈ tb := tbm4 37 (by decide +kernel) rfl
theorem tw_822 : (Jvm.Cond.laysFinal "TideLoansModel" "TideLoansModel" "tape" "[I") ∈ tb := tbm4 39 (by decide +kernel) rfl
theorem tw_824 : (Jvm.Cond.lays "TideLoansModel" "TideLoansModel" "taped" "I") ∈ tb := tbm4 41 (by decide +kernel) rfl
theorem tw_826 : (Jvm.Cond.laysFinal "TideLoansModel" "TideLoansModel" "bitsOf" "[I") ∈ tb := tbm4 43 (by decide +kernel) rfl
theorem tw_828 : (Jvm.Cond.laysFinal "TideLoansModel" "TideLoansModel" "sizes" "[I") ∈ tb := tbm4 45 (by decide +kernel) rfl
theorem tw_830 : (Jvm.Cond.laysFinal "TideLoansModel" "TideLoansModel" "numbers" "[J") ∈ tb := tbm4 47 (by decide +kernel) rfl
theorem tw_832 : (Jvm.Cond.lays "TideLoansModel" "TideLoansModel" "token" "I") ∈ tb := tbm4 49 (by decide +kernel) rfl
theorem tw_834 : (Jvm.Cond.lays "TideLoansModel" "TideLoansModel" "from" "I") ∈ tb := tbm4 51 (by decide +kernel) rfl
theorem tw_836 : (Jvm.Cond.lays "TideLoansModel" "TideLoansModel" "to" "I") ∈ tb := tbm4 53 (by decide +kernel) rfl
theorem tw_838 : (Jvm.Cond.lays "TideLoansModel" "TideLoansModel" "value" "I") ∈ tb := tbm4 55 (by decide +kernel) rfl
theorem tw_840 : (Jvm.Cond.lays "TideLoansModel" "TideLoansModel" "faultAt" "I") ∈ tb := tbm4 57 (by decide +kernel) rfl
theorem tw_843 : (Jvm.Cond.methodLink "TideLoansLaw" (17 : Nat) ({ cls := "TideLoansModel", name := "height", desc := "(II)I" } : Jvm.MethodName)) ∈ tb := tbm4 60 (by decide +kernel) rfl
theorem tw_844 : (Jvm.Cond.instanceMethod ({ cls := "TideLoansModel", name := "height", desc := "(II)I" } : Jvm.MethodName)) ∈ tb := tbm4 61 (by decide +kernel) rfl
theorem tw_845 : (Jvm.Cond.selects "TideLoansModel" ({ cls := "TideLoansModel", name := "height", desc := "(II)I" } : Jvm.MethodName) ({ cls := "TideLoansModel", name := "height", desc := "(II)I" } : Jvm.MethodName)) ∈ tb := tbm4 62 (by decide +kernel) rfl
theorem tw_846 : (Jvm.Cond.code ({ cls := "TideLoansModel", name := "height", desc := "(II)I" } : Jvm.MethodName) prog_8_method_14_code (3 : Nat) (Option.some Jvm.ClassFile.FieldType.int)) ∈ tb := tbm4 63 (by decide +kernel) rfl
theorem tw_847 : (Jvm.Cond.methodLink "TideLoansModel" (48 : Nat) ({ cls := "TideLoansModel", name := "isCell", desc := "(I)Z" } : Jvm.MethodName)) ∈ tb := tbm4 64 (by decide +kernel) rfl
theorem tw_848 : (Jvm.Cond.static ({ cls := "TideLoansModel", name := "isCell", desc := "(I)Z" } : Jvm.MethodName)) ∈ tb := tbm4 65 (by decide +kernel) rfl
theorem tw_849 : (Jvm.Cond.code ({ cls := "TideLoansModel", name := "isCell", desc := "(I)Z" } : Jvm.MethodName) prog_8_method_6_code (1 : Nat) (Option.some Jvm.ClassFile.FieldType.boolean)) ∈ tb := tbm4 66 (by decide +kernel) rfl
theorem tw_850 : (Jvm.Cond.constantLong "TideLoansModel" (52 : Nat) (9 : Int64)) ∈ tb := tbm4 67 (by decide +kernel) rfl
theorem tw_851 : (Jvm.Cond.methodLink "TideLoansModel" (54 : Nat) ({ cls := "TideLoansModel", name := "isIn", desc := "(JJJ)Z" } : Jvm.MethodName)) ∈ tb := tbm4 68 (by decide +kernel) rfl
theorem tw_852 : (Jvm.Cond.static ({ cls := "TideLoansModel", name := "isIn", desc := "(JJJ)Z" } : Jvm.MethodName)) ∈ tb := tbm4 69 (by decide +kernel) rfl
theorem tw_853 : (Jvm.Cond.code ({ cls := "TideLoansModel", name := "isIn", desc := "(JJJ)Z" } : Jvm.MethodName) prog_8_method_2_code (6 : Nat) (Option.some Jvm.ClassFile.FieldType.boolean)) ∈ tb := tbm4 70 (by decide +kernel) rfl
theorem tw_854 : (Jvm.Cond.methodLink "TideLoansModel" (58 : Nat) ({ cls := "TideLoansModel", name := "becomes", desc := "(II)I" } : Jvm.MethodName)) ∈ tb := tbm4 71 (by decide +kernel) rfl
theorem tw_856 : (Jvm.Cond.instanceMethod ({ cls := "TideLoansModel", name := "becomes", desc := "(II)I" } : Jvm.MethodName)) ∈ tb := tbm4 73 (by decide +kernel) rfl
theorem tw_857 : (Jvm.Cond.code ({ cls := "TideLoansModel", name := "becomes", desc := "(II)I" } : Jvm.MethodName) prog_8_method_4_code (4 : Nat) (Option.some Jvm.ClassFile.FieldType.int)) ∈ tb := tbm4 74 (by decide +kernel) rfl
theorem tw_858 : (Jvm.Cond.constant "TideLoansModel" (38 : Nat) (-1000000001 : Int32)) ∈ tb := tbm4 75 (by decide +kernel) rfl
theorem tw_859 : (Jvm.Cond.methodLink "TideLoansModel" (44 : Nat) ({ cls := "TideLoansModel", name := "finds", desc := "(I)I" } : Jvm.MethodName)) ∈ tb := tbm4 76 (by decide +kernel) rfl
theorem tw_861 : (Jvm.Cond.instanceMethod ({ cls := "TideLoansModel", name := "finds", desc := "(I)I" } : Jvm.MethodName)) ∈ tb := tbm4 78 (by decide +kernel) rfl
theorem tw_862 : (Jvm.Cond.code ({ cls := "TideLoansModel", name := "finds", desc := "(I)I" } : Jvm.MethodName) prog_8_method_3_code (2 : Nat) (Option.some Jvm.ClassFile.FieldType.int)) ∈ tb := tbm4 79 (by decide +kernel) rfl
theorem tw_863 : (Jvm.Cond.methodLink "TideLoansLaw" (21 : Nat) ({ cls := "TideLoansModel", name := "cell", desc := "(II)I" } : Jvm.MethodName)) ∈ tb := tbm4 80 (by decide +kernel) rfl
theorem tw_864 : (Jvm.Cond.instanceMethod ({ cls := "TideLoansModel", name := "cell", desc := "(II)I" } : Jvm.MethodName)) ∈ tb := tbm4 81 (by decide +kernel) rfl
theorem tw_865 : (Jvm.Cond.selects "TideLoansModel" ({ cls := "TideLoansModel", name := "cell", desc := "(II)I" } : Jvm.MethodName) ({ cls := "TideLoansModel", name := "cell", desc := "(II)I" } : Jvm.MethodName)) ∈ tb := tbm4 82 (by decide +kernel) rfl
theorem tw_866 : (Jvm.Cond.code ({ cls := "TideLoansModel", name := "cell", desc := "(II)I" } : Jvm.MethodName) prog_8_method_16_code (3 : Nat) (Option.some Jvm.ClassFile.FieldType.int)) ∈ tb := tbm4 83 (by decide +kernel) rfl
theorem tw_867 : (Jvm.Cond.methodLink "TideLoansModel" (65 : Nat) ({ cls := "TideLoansModel", name := "laidAt", desc := "(I)I" } : Jvm.MethodName)) ∈ tb := tbm4 84 (by decide +kernel) rfl
theorem tw_869 : (Jvm.Cond.instanceMethod ({ cls := "TideLoansModel", name := "laidAt", desc := "(I)I" } : Jvm.MethodName)) ∈ tb := tbm4 86 (by decide +kernel) rfl
theorem tw_870 : (Jvm.Cond.code ({ cls := "TideLoansModel", name := "laidAt", desc := "(I)I" } : Jvm.MethodName) prog_8_method_15_code (4 : Nat) (Option.some Jvm.ClassFile.FieldType.int)) ∈ tb := tbm4 87 (by decide +kernel) rfl
theorem tw_871 : (Jvm.Cond.methodLink "TideLoansModel" (61 : Nat) ({ cls := "TideLoansModel", name := "isIt", desc := "(II)Z" } : Jvm.MethodName)) ∈ tb := tbm4 88 (by decide +kernel) rfl
theorem tw_873 : (Jvm.Cond.instanceMethod ({ cls := "TideLoansModel", name := "isIt", desc := "(II)Z" } : Jvm.MethodName)) ∈ tb := tbm4 90 (by decide +kernel) rfl
theorem tw_874 : (Jvm.Cond.code ({ cls := "TideLoansModel", name := "isIt", desc := "(II)Z" } : Jvm.MethodName) prog_8_method_11_code (3 : Nat) (Option.some Jvm.ClassFile.FieldType.boolean)) ∈ tb := tbm4 91 (by decide +kernel) rfl
theorem tw_875 : (Jvm.Cond.methodLink "TideLoansModel" (39 : Nat) ({ cls := "TideLoansModel", name := "its", desc := "(II)I" } : Jvm.MethodName)) ∈ tb := tbm4 92 (by decide +kernel) rfl
theorem tw_877 : (Jvm.Cond.instanceMethod ({ cls := "TideLoansModel", name := "its", desc := "(II)I" } : Jvm.MethodName)) ∈ tb := tbm4 94 (by decide +kernel) rfl
theorem tw_878 : (Jvm.Cond.code ({ cls := "TideLoansModel", name := "its", desc := "(II)I" } : Jvm.MethodName) prog_8_method_10_code (3 : Nat) (Option.some Jvm.ClassFile.FieldType.int)) ∈ tb := tbm4 95 (by decide +kernel) rfl
theorem tw_879 : (Jvm.Cond.methodLink "TideLoansLaw" (26 : Nat) ({ cls := "TideLoansModel", name := "interest", desc := "(I)I" } : Jvm.MethodName)) ∈ tb := tbm4 96 (by decide +kernel) rfl
theorem tw_880 : (Jvm.Cond.instanceMethod ({ cls := "TideLoansModel", name := "interest", desc := "(I)I" } : Jvm.MethodName)) ∈ tb := tbm4 97 (by decide +kernel) rfl
theorem tw_881 : (Jvm.Cond.selects "TideLoansModel" ({ cls := "TideLoansModel", name := "interest", desc := "(I)I" } : Jvm.MethodName) ({ cls := "TideLoansModel", name := "interest", desc := "(I)I" } : Jvm.MethodName)) ∈ tb := tbm4 98 (by decide +kernel) rfl
theorem tw_882 : (Jvm.Cond.code ({ cls := "TideLoansModel", name := "interest", desc := "(I)I" } : Jvm.MethodName) prog_8_method_17_code (2 : Nat) (Option.some Jvm.ClassFile.FieldType.int)) ∈ tb := tbm4 99 (by decide +kernel) rfl
theorem tw_883 : (Jvm.Cond.constantLong "TideLoansModel" (68 : Nat) (50 : Int64)) ∈ tb := tbm4 100 (by decide +kernel) rfl
theorem tw_884 : (Jvm.Cond.methodLink "TideLoansLaw" (30 : Nat) ({ cls := "TideLoansModel", name := "tide", desc := "(II)I" } : Jvm.MethodName)) ∈ tb := tbm4 101 (by decide +kernel) rfl
theorem tw_885 : (Jvm.Cond.instanceMethod ({ cls := "TideLoansModel", name := "tide", desc := "(II)I" } : Jvm.MethodName)) ∈ tb := tbm4 102 (by decide +kernel) rfl
theorem tw_886 : (Jvm.Cond.selects "TideLoansModel" ({ cls := "TideLoansModel", name := "tide", desc := "(II)I" } : Jvm.MethodName) ({ cls := "TideLoansModel", name := "tide", desc := "(II)I" } : Jvm.MethodName)) ∈ tb := tbm4 103 (by decide +kernel) rfl
theorem tw_887 : (Jvm.Cond.code ({ cls := "TideLoansModel", name := "tide", desc := "(II)I" } : Jvm.MethodName) prog_8_method_20_code (5 : Nat) (Option.some Jvm.ClassFile.FieldType.int)) ∈ tb := tbm4 104 (by decide +kernel) rfl
theorem tw_888 : (Jvm.Cond.constantLong "TideLoansModel" (70 : Nat) (99999 : Int64)) ∈ tb := tbm4 105 (by decide +kernel) rfl
theorem tw_889 : (Jvm.Cond.constantLong "TideLoansModel" (72 : Nat) (3 : Int64)) ∈ tb := tbm4 106 (by decide +kernel) rfl
theorem tw_890 : (Jvm.Cond.methodLink "TideLoansModel" (74 : Nat) ({ cls := "TideLoansModel", name := "mark", desc := "(I)I" } : Jvm.MethodName)) ∈ tb := tbm4 107 (by decide +kernel) rfl
theorem tw_891 : (Jvm.Cond.static ({ cls := "TideLoansModel", name := "mark", desc := "(I)I" } : Jvm.MethodName)) ∈ tb := tbm4 108 (by decide +kernel) rfl
theorem tw_892 : (Jvm.Cond.code ({ cls := "TideLoansModel", name := "mark", desc := "(I)I" } : Jvm.MethodName) prog_8_method_19_code (2 : Nat) (Option.some Jvm.ClassFile.FieldType.int)) ∈ tb := tbm4 109 (by decide +kernel) rfl
theorem tw_893 : (Jvm.Cond.methodLink "TideLoansModel" (77 : Nat) ({ cls := "TideLoansModel", name := "isSpring", desc := "(I)Z" } : Jvm.MethodName)) ∈ tb := tbm4 110 (by decide +kernel) rfl
theorem tw_894 : (Jvm.Cond.static ({ cls := "TideLoansModel", name := "isSpring", desc := "(I)Z" } : Jvm.MethodName)) ∈ tb := tbm4 111 (by decide +kernel) rfl
theorem tw_895 : (Jvm.Cond.code ({ cls := "TideLoansModel", name := "isSpring", desc := "(I)Z" } : Jvm.MethodName) prog_8_method_18_code (1 : Nat) (Option.some Jvm.ClassFile.FieldType.boolean)) ∈ tb := tbm4 112 (by decide +kernel) rfl
theorem tw_896 : (Jvm.Cond.methodLink "TideLoansLaw" (34 : Nat) ({ cls := "TideLoansModel", name := "purse", desc := "(II)I" } : Jvm.MethodName)) ∈ tb := tbm4 113 (by decide +kernel) rfl
theorem tw_897 : (Jvm.Cond.instanceMethod ({ cls := "TideLoansModel", name := "purse", desc := "(II)I" } : Jvm.MethodName)) ∈ tb := tbm4 114 (by decide +kernel) rfl
theorem tw_898 : (Jvm.Cond.selects "TideLoansModel" ({ cls := "TideLoansModel", name := "purse", desc := "(II)I" } : Jvm.MethodName) ({ cls := "TideLoansModel", name := "purse", desc := "(II)I" } : Jvm.MethodName)) ∈ tb := tbm4 115 (by decide +kernel) rfl
theorem tw_899 : (Jvm.Cond.code ({ cls := "TideLoansModel", name := "purse", desc := "(II)I" } : Jvm.MethodName) prog_8_method_21_code (3 : Nat) (Option.some Jvm.ClassFile.FieldType.int)) ∈ tb := tbm4 116 (by decide +kernel) rfl
theorem tw_900 : (Jvm.Cond.methodLink "TideLoansModel" (80 : Nat) ({ cls := "TideLoansModel", name := "isFamily", desc := "(I)Z" } : Jvm.MethodName)) ∈ tb := tbm4 117 (by decide +kernel) rfl
theorem tw_901 : (Jvm.Cond.static ({ cls := "TideLoansModel", name := "isFamily", desc := "(I)Z" } : Jvm.MethodName)) ∈ tb := tbm4 118 (by decide +kernel) rfl
theorem tw_902 : (Jvm.Cond.code ({ cls := "TideLoansModel", name := "isFamily", desc := "(I)Z" } : Jvm.MethodName) prog_8_method_7_code (1 : Nat) (Option.some Jvm.ClassFile.FieldType.boolean)) ∈ tb := tbm4 119 (by decide +kernel) rfl
theorem tw_903 : (Jvm.Cond.constantLong "TideLoansModel" (83 : Nat) (999999999 : Int64)) ∈ tb := tbm4 120 (by decide +kernel) rfl
theorem tw_904 : (Jvm.Cond.methodLink "TideLoansLaw" (38 : Nat) ({ cls := "TideLoansModel", name := "thing", desc := "(II)I" } : Jvm.MethodName)) ∈ tb := tbm4 121 (by decide +kernel) rfl
theorem tw_905 : (Jvm.Cond.instanceMethod ({ cls := "TideLoansModel", name := "thing", desc := "(II)I" } : Jvm.MethodName)) ∈ tb := tbm4 122 (by decide +kernel) rfl
theorem tw_906 : (Jvm.Cond.selects "TideLoansModel" ({ cls := "TideLoansModel", name := "thing", desc := "(II)I" } : Jvm.MethodName) ({ cls := "TideLoansModel", name := "thing", desc := "(II)I" } : Jvm.MethodName)) ∈ tb := tbm4 123 (by decide +kernel) rfl
theorem tw_907 : (Jvm.Cond.code ({ cls := "TideLoansModel", name := "thing", desc := "(II)I" } : Jvm.MethodName) prog_8_method_23_code (3 : Nat) (Option.some Jvm.ClassFile.FieldType.int)) ∈ tb := tbm4 124 (by decide +kernel) rfl
theorem tw_908 : (Jvm.Cond.constantLong "TideLoansModel" (88 : Nat) (5 : Int64)) ∈ tb := tbm4 125 (by decide +kernel) rfl
theorem tw_909 : (Jvm.Cond.constant "TideLoansModel" (90 : Nat) (-1000000002 : Int32)) ∈ tb := tbm4 126 (by decide +kernel) rfl
theorem tw_910 : (Jvm.Cond.methodLink "TideLoansModel" (91 : Nat) ({ cls := "TideLoansModel", name := "comes", desc := "(II)V" } : Jvm.MethodName)) ∈ tb := tbm4 127 (by decide +kernel) rfl
theorem tw_912 : (Jvm.Cond.instanceMethod ({ cls := "TideLoansModel", name := "comes", desc := "(II)V" } : Jvm.MethodName)) ∈ tb := tbm4 129 (by decide +kernel) rfl
theorem tw_913 : (Jvm.Cond.code ({ cls := "TideLoansModel", name := "comes", desc := "(II)V" } : Jvm.MethodName) prog_8_method_22_code (4 : Nat) (Option.none : Option Jvm.ClassFile.FieldType)) ∈ tb := tbm4 130 (by decide +kernel) rfl
theorem tw_914 : (Jvm.Cond.methodLink "TideLoansModel" (85 : Nat) ({ cls := "TideLoansModel", name := "at", desc := "(II)I" } : Jvm.MethodName)) ∈ tb := tbm4 131 (by decide +kernel) rfl
theorem tw_915 : (Jvm.Cond.static ({ cls := "TideLoansModel", name := "at", desc := "(II)I" } : Jvm.MethodName)) ∈ tb := tbm4 132 (by decide +kernel) rfl
theorem tw_916 : (Jvm.Cond.code ({ cls := "TideLoansModel", name := "at", desc := "(II)I" } : Jvm.MethodName) prog_8_method_9_code (2 : Nat) (Option.some Jvm.ClassFile.FieldType.int)) ∈ tb := tbm4 133 (by decide +kernel) rfl
theorem tw_917 : (Jvm.Cond.methodLink "TideLoansLaw" (42 : Nat) ({ cls := "TideLoansModel", name := "of", desc := "(II)I" } : Jvm.MethodName)) ∈ tb := tbm4 134 (by decide +kernel) rfl
theorem tw_918 : (Jvm.Cond.instanceMethod ({ cls := "TideLoansModel", name := "of", desc := "(II)I" } : Jvm.MethodName)) ∈ tb := tbm4 135 (by decide +kernel) rfl
theorem tw_919 : (Jvm.Cond.selects "TideLoansModel" ({ cls := "TideLoansModel", name := "of", desc := "(II)I" } : Jvm.MethodName) ({ cls := "TideLoansModel", name := "of", desc := "(II)I" } : Jvm.MethodName)) ∈ tb := tbm4 136 (by decide +kernel) rfl
theorem tw_920 : (Jvm.Cond.code ({ cls := "TideLoansModel", name := "of", desc := "(II)I" } : Jvm.MethodName) prog_8_method_27_code (3 : Nat) (Option.some Jvm.ClassFile.FieldType.int)) ∈ tb := tbm4 137 (by decide +kernel) rfl
theorem tw_921 : (Jvm.Cond.methodLink "TideLoansModel" (104 : Nat) ({ cls := "TideLoansModel", name := "isThing", desc := "(I)Z" } : Jvm.MethodName)) ∈ tb := tbm4 138 (by decide +kernel) rfl
theorem tw_923 : (Jvm.Cond.instanceMethod ({ cls := "TideLoansModel", name := "isThing", desc := "(I)Z" } : Jvm.MethodName)) ∈ tb := tbm4 140 (by decide +kernel) rfl
theorem tw_924 : (Jvm.Cond.code ({ cls := "TideLoansModel", name := "isThing", desc := "(I)Z" } : Jvm.MethodName) prog_8_method_8_code (2 : Nat) (Option.some Jvm.ClassFile.FieldType.boolean)) ∈ tb := tbm4 141 (by decide +kernel) rfl
theorem tw_925 : (Jvm.Cond.constantLong "TideLoansModel" (107 : Nat) (7 : Int64)) ∈ tb := tbm4 142 (by decide +kernel) rfl
theorem tw_926 : (Jvm.Cond.methodLink "TideLoansModel" (109 : Nat) ({ cls := "TideLoansModel", name := "term", desc := "(I)I" } : Jvm.MethodName)) ∈ tb := tbm4 143 (by decide +kernel) rfl
theorem tw_927 : (Jvm.Cond.static ({ cls := "TideLoansModel", name := "term", desc := "(I)I" } : Jvm.MethodName)) ∈ tb := tbm4 144 (by decide +kernel) rfl
theorem tw_928 : (Jvm.Cond.code ({ cls := "TideLoansModel", name := "term", desc := "(I)I" } : Jvm.MethodName) prog_8_method_24_code (1 : Nat) (Option.some Jvm.ClassFile.FieldType.int)) ∈ tb := tbm4 145 (by decide +kernel) rfl
theorem tw_929 : (Jvm.Cond.methodLink "TideLoansModel" (112 : Nat) ({ cls := "TideLoansModel", name := "wouldRepay", desc := "(I)I" } : Jvm.MethodName)) ∈ tb := tbm4 146 (by decide +kernel) rfl
theorem tw_931 : (Jvm.Cond.instanceMethod ({ cls := "TideLoansModel", name := "wouldRepay", desc := "(I)I" } : Jvm.MethodName)) ∈ tb := tbm4 148 (by decide +kernel) rfl
theorem tw_932 : (Jvm.Cond.code ({ cls := "TideLoansModel", name := "wouldRepay", desc := "(I)I" } : Jvm.MethodName) prog_8_method_26_code (2 : Nat) (Option.some Jvm.ClassFile.FieldType.int)) ∈ tb := tbm4 149 (by decide +kernel) rfl
theorem tw_933 : (Jvm.Cond.methodLink "TideLoansModel" (101 : Nat) ({ cls := "TideLoansModel", name := "repays", desc := "(II)I" } : Jvm.MethodName)) ∈ tb := tbm4 150 (by decide +kernel) rfl
theorem tw_935 : (Jvm.Cond.instanceMethod ({ cls := "TideLoansModel", name := "repays", desc := "(II)I" } : Jvm.MethodName)) ∈ tb := tbm4 152 (by decide +kernel) rfl
theorem tw_936 : (Jvm.Cond.code ({ cls := "TideLoansModel", name := "repays", desc := "(II)I" } : Jvm.MethodName) prog_8_method_25_code (9 : Nat) (Option.some Jvm.ClassFile.FieldType.int)) ∈ tb := tbm4 153 (by decide +kernel) rfl
theorem tw_937 : (Jvm.Cond.constantLong "TideLoansModel" (95 : Nat) (100 : Int64)) ∈ tb := tbm4 154 (by decide +kernel) rfl
theorem tw_938 : (Jvm.Cond.constantLong "TideLoansModel" (97 : Nat) (2 : Int64)) ∈ tb := tbm4 155 (by decide +kernel) rfl
theorem tw_939 : (Jvm.Cond.constantLong "TideLoansModel" (99 : Nat) (99999999 : Int64)) ∈ tb := tbm4 156 (by decide +kernel) rfl
theorem tw_940 : (Jvm.Cond.methodLink "TideLoansLaw" (47 : Nat) ({ cls := "TideLoansModel", name := "set", desc := "(III)I" } : Jvm.MethodName)) ∈ tb := tbm4 157 (by decide +kernel) rfl
theorem tw_941 : (Jvm.Cond.instanceMethod ({ cls := "TideLoansModel", name := "set", desc := "(III)I" } : Jvm.MethodName)) ∈ tb := tbm4 158 (by decide +kernel) rfl
theorem tw_942 : (Jvm.Cond.selects "TideLoansModel" ({ cls := "TideLoansModel", name := "set", desc := "(III)I" } : Jvm.MethodName) ({ cls := "TideLoansModel", name := "set", desc := "(III)I" } : Jvm.MethodName)) ∈ tb := tbm4 159 (by decide +kernel) rfl
theorem tw_943 : (Jvm.Cond.code ({ cls := "TideLoansModel", name := "set", desc := "(III)I" } : Jvm.MethodName) prog_8_method_28_code (5 : Nat) (Option.some Jvm.ClassFile.FieldType.int)) ∈ tb := tbm4 160 (by decide +kernel) rfl
theorem tw_944 : (Jvm.Cond.constantLong "TideLoansModel" (115 : Nat) (9999 : Int64)) ∈ tb := tbm4 161 (by decide +kernel) rfl
theorem tw_945 : (Jvm.Cond.methodLink "TideLoansLaw" (51 : Nat) ({ cls := "TideLoansModel", name := "turn", desc := "(II)I" } : Jvm.MethodName)) ∈ tb := tbm4 162 (by decide +kernel) rfl
theorem tw_946 : (Jvm.Cond.instanceMethod ({ cls := "TideLoansModel", name := "turn", desc := "(II)I" } : Jvm.MethodName)) ∈ tb := tbm4 163 (by decide +kernel) rfl
theorem tw_947 : (Jvm.Cond.selects "TideLoansModel" ({ cls := "TideLoansModel", name := "turn", desc := "(II)I" } : Jvm.MethodName) ({ cls := "TideLoansModel", name := "turn", desc := "(II)I" } : Jvm.MethodName)) ∈ tb := tbm4 164 (by decide +kernel) rfl
theorem tw_948 : (Jvm.Cond.code ({ cls := "TideLoansModel", name := "turn", desc := "(II)I" } : Jvm.MethodName) prog_8_method_29_code (3 : Nat) (Option.some Jvm.ClassFile.FieldType.int)) ∈ tb := tbm4 165 (by decide +kernel) rfl
theorem tw_949 : (Jvm.Cond.methodLink "TideLoansLaw" (55 : Nat) ({ cls := "TideLoansModel", name := "as", desc := "(II)I" } : Jvm.MethodName)) ∈ tb := tbm4 166 (by decide +kernel) rfl
theorem tw_950 : (Jvm.Cond.instanceMethod ({ cls := "TideLoansModel", name := "as", desc := "(II)I" } : Jvm.MethodName)) ∈ tb := tbm4 167 (by decide +kernel) rfl
theorem tw_951 : (Jvm.Cond.selects "TideLoansModel" ({ cls := "TideLoansModel", name := "as", desc := "(II)I" } : Jvm.MethodName) ({ cls := "TideLoansModel", name := "as", desc := "(II)I" } : Jvm.MethodName)) ∈ tb := tbm4 168 (by decide +kernel) rfl
theorem tw_952 : (Jvm.Cond.code ({ cls := "TideLoansModel", name := "as", desc := "(II)I" } : Jvm.MethodName) prog_8_method_30_code (5 : Nat) (Option.some Jvm.ClassFile.FieldType.int)) ∈ tb := tbm4 169 (by decide +kernel) rfl
theorem tw_953 : (Jvm.Cond.constant "TideLoansModel" (117 : Nat) (-1000000003 : Int32)) ∈ tb := tbm4 170 (by decide +kernel) rfl
theorem tw_954 : (Jvm.Cond.methodLink "TideLoansLaw" (59 : Nat) ({ cls := "TideLoansModel", name := "lay", desc := "(II)I" } : Jvm.MethodName)) ∈ tb := tbm4 171 (by decide +kernel) rfl
theorem tw_955 : (Jvm.Cond.instanceMethod ({ cls := "TideLoansModel", name := "lay", desc := "(II)I" } : Jvm.MethodName)) ∈ tb := tbm4 172 (by decide +kernel) rfl
theorem tw_956 : (Jvm.Cond.selects "TideLoansModel" ({ cls := "TideLoansModel", name := "lay", desc := "(II)I" } : Jvm.MethodName) ({ cls := "TideLoansModel", name := "lay", desc := "(II)I" } : Jvm.MethodName)) ∈ tb := tbm4 173 (by decide +kernel) rfl
theorem tw_957 : (Jvm.Cond.code ({ cls := "TideLoansModel", name := "lay", desc := "(II)I" } : Jvm.MethodName) prog_8_method_32_code (3 : Nat) (Option.some Jvm.ClassFile.FieldType.int)) ∈ tb := tbm4 174 (by decide +kernel) rfl
theorem tw_958 : (Jvm.Cond.constant "TideLoansModel" (118 : Nat) (-1000000005 : Int32)) ∈ tb := tbm4 175 (by decide +kernel) rfl
theorem tw_959 : (Jvm.Cond.methodLink "TideLoansModel" (119 : Nat) ({ cls := "TideLoansModel", name := "lies", desc := "(II)V" } : Jvm.MethodName)) ∈ tb := tbm4 176 (by decide +kernel) rfl
theorem tw_961 : (Jvm.Cond.instanceMethod ({ cls := "TideLoansModel", name := "lies", desc := "(II)V" } : Jvm.MethodName)) ∈ tb := tbm4 178 (by decide +kernel) rfl
theorem tw_962 : (Jvm.Cond.code ({ cls := "TideLoansModel", name := "lies", desc := "(II)V" } : Jvm.MethodName) prog_8_method_31_code (3 : Nat) (Option.none : Option Jvm.ClassFile.FieldType)) ∈ tb := tbm4 179 (by decide +kernel) rfl
theorem tw_963 : (Jvm.Cond.methodLink "TideLoansModel" (122 : Nat) ({ cls := "TideLoansModel", name := "many", desc := "(I)I" } : Jvm.MethodName)) ∈ tb := tbm4 180 (by decide +kernel) rfl
theorem tw_964 : (Jvm.Cond.static ({ cls := "TideLoansModel", name := "many", desc := "(I)I" } : Jvm.MethodName)) ∈ tb := tbm4 181 (by decide +kernel) rfl
theorem tw_965 : (Jvm.Cond.code ({ cls := "TideLoansModel", name := "many", desc := "(I)I" } : Jvm.MethodName) prog_8_method_13_code (3 : Nat) (Option.some Jvm.ClassFile.FieldType.int)) ∈ tb := tbm4 182 (by decide +kernel) rfl
theorem tw_966 : (Jvm.Cond.methodLink "TideLoansLaw" (63 : Nat) ({ cls := "TideLoansModel", name := "fetch", desc := "(I)I" } : Jvm.MethodName)) ∈ tb := tbm4 183 (by decide +kernel) rfl
theorem tw_967 : (Jvm.Cond.instanceMethod ({ cls := "TideLoansModel", name := "fetch", desc := "(I)I" } : Jvm.MethodName)) ∈ tb := tbm4 184 (by decide +kernel) rfl
theorem tw_968 : (Jvm.Cond.selects "TideLoansModel" ({ cls := "TideLoansModel", name := "fetch", desc := "(I)I" } : Jvm.MethodName) ({ cls := "TideLoansModel", name := "fetch", desc := "(I)I" } : Jvm.MethodName)) ∈ tb := tbm4 185 (by decide +kernel) rfl
theorem tw_969 : (Jvm.Cond.code ({ cls := "TideLoansModel", name := "fetch", desc := "(I)I" } : Jvm.MethodName) prog_8_method_33_code (2 : Nat) (Option.some Jvm.ClassFile.FieldType.int)) ∈ tb := tbm4 186 (by decide +kernel) rfl
theorem tw_970 : (Jvm.Cond.methodLink "TideLoansLaw" (68 : Nat) ({ cls := "TideLoansModel", name := "days", desc := "(I)J" } : Jvm.MethodName)) ∈ tb := tbm4 187 (by decide +kernel) rfl
theorem tw_971 : (Jvm.Cond.instanceMethod ({ cls := "TideLoansModel", name := "days", desc := "(I)J" } : Jvm.MethodName)) ∈ tb := tbm4 188 (by decide +kernel) rfl
theorem tw_972 : (Jvm.Cond.selects "TideLoansModel" ({ cls := "TideLoansModel", name := "days", desc := "(I)J" } : Jvm.MethodName) ({ cls := "TideLoansModel", name := "days", desc := "(I)J" } : Jvm.MethodName)) ∈ tb := tbm4 189 (by decide +kernel) rfl
theorem tw_973 : (Jvm.Cond.code ({ cls := "TideLoansModel", name := "days", desc := "(I)J" } : Jvm.MethodName) prog_8_method_39_code (2 : Nat) (Option.some Jvm.ClassFile.FieldType.long)) ∈ tb := tbm4 190 (by decide +kernel) rfl
theorem tw_974 : (Jvm.Cond.constantLong "TideLoansModel" (134 : Nat) (400 : Int64)) ∈ tb := tbm4 191 (by decide +kernel) rfl
theorem tw_975 : (Jvm.Cond.constant "TideLoansModel" (136 : Nat) (99999 : Int32)) ∈ tb := tbm4 192 (by decide +kernel) rfl
theorem tw_976 : (Jvm.Cond.methodLink "TideLoansModel" (137 : Nat) ({ cls := "TideLoansModel", name := "goes", desc := "(I)V" } : Jvm.MethodName)) ∈ tb := tbm4 193 (by decide +kernel) rfl
theorem tw_978 : (Jvm.Cond.instanceMethod ({ cls := "TideLoansModel", name := "goes", desc := "(I)V" } : Jvm.MethodName)) ∈ tb := tbm4 195 (by decide +kernel) rfl
theorem tw_979 : (Jvm.Cond.code ({ cls := "TideLoansModel", name := "goes", desc := "(I)V" } : Jvm.MethodName) prog_8_method_37_code (3 : Nat) (Option.none : Option Jvm.ClassFile.FieldType)) ∈ tb := tbm4 196 (by decide +kernel) rfl
theorem tw_980 : (Jvm.Cond.methodLink "TideLoansModel" (131 : Nat) ({ cls := "TideLoansModel", name := "day", desc := "()V" } : Jvm.MethodName)) ∈ tb := tbm4 197 (by decide +kernel) rfl
theorem tw_982 : (Jvm.Cond.instanceMethod ({ cls := "TideLoansModel", name := "day", desc := "()V" } : Jvm.MethodName)) ∈ tb := tbm4 199 (by decide +kernel) rfl
theorem tw_983 : (Jvm.Cond.code ({ cls := "TideLoansModel", name := "day", desc := "()V" } : Jvm.MethodName) prog_8_method_36_code (3 : Nat) (Option.none : Option Jvm.ClassFile.FieldType)) ∈ tb := tbm4 200 (by decide +kernel) rfl
theorem tw_984 : (Jvm.Cond.methodLink "TideLoansModel" (125 : Nat) ({ cls := "TideLoansModel", name := "comesHome", desc := "(II)V" } : Jvm.MethodName)) ∈ tb := tbm4 201 (by decide +kernel) rfl
theorem tw_986 : (Jvm.Cond.instanceMethod ({ cls := "TideLoansModel", name := "comesHome", desc := "(II)V" } : Jvm.MethodName)) ∈ tb := tbm4 203 (by decide +kernel) rfl
theorem tw_987 : (Jvm.Cond.code ({ cls := "TideLoansModel", name := "comesHome", desc := "(II)V" } : Jvm.MethodName) prog_8_method_35_code (5 : Nat) (Option.none : Option Jvm.ClassFile.FieldType)) ∈ tb := tbm4 204 (by decide +kernel) rfl
theorem tw_988 : (Jvm.Cond.methodLink "TideLoansModel" (128 : Nat) ({ cls := "TideLoansModel", name := "isTaken", desc := "(I)Z" } : Jvm.MethodName)) ∈ tb := tbm4 205 (by decide +kernel) rfl
theorem tw_990 : (Jvm.Cond.instanceMethod ({ cls := "TideLoansModel", name := "isTaken", desc := "(I)Z" } : Jvm.MethodName)) ∈ tb := tbm4 207 (by decide +kernel) rfl
theorem tw_991 : (Jvm.Cond.code ({ cls := "TideLoansModel", name := "isTaken", desc := "(I)Z" } : Jvm.MethodName) prog_8_method_34_code (5 : Nat) (Option.some Jvm.ClassFile.FieldType.boolean)) ∈ tb := tbm4 208 (by decide +kernel) rfl
theorem tw_992 : (Jvm.Cond.methodLink "TideLoansModel" (141 : Nat) ({ cls := "TideLoansModel", name := "purses", desc := "()J" } : Jvm.MethodName)) ∈ tb := tbm4 209 (by decide +kernel) rfl
theorem tw_994 : (Jvm.Cond.instanceMethod ({ cls := "TideLoansModel", name := "purses", desc := "()J" } : Jvm.MethodName)) ∈ tb := tbm4 211 (by decide +kernel) rfl
theorem tw_995 : (Jvm.Cond.code ({ cls := "TideLoansModel", name := "purses", desc := "()J" } : Jvm.MethodName) prog_8_method_38_code (1 : Nat) (Option.some Jvm.ClassFile.FieldType.long)) ∈ tb := tbm4 212 (by decide +kernel) rfl
theorem tw_996 : (Jvm.Cond.methodLink "TideLoansLaw" (72 : Nat) ({ cls := "TideLoansModel", name := "now", desc := "(I)I" } : Jvm.MethodName)) ∈ tb := tbm4 213 (by decide +kernel) rfl
theorem tw_997 : (Jvm.Cond.instanceMethod ({ cls := "TideLoansModel", name := "now", desc := "(I)I" } : Jvm.MethodName)) ∈ tb := tbm4 214 (by decide +kernel) rfl
theorem tw_998 : (Jvm.Cond.selects "TideLoansModel" ({ cls := "TideLoansModel", name := "now", desc := "(I)I" } : Jvm.MethodName) ({ cls := "TideLoansModel", name := "now", desc := "(I)I" } : Jvm.MethodName)) ∈ tb := tbm4 215 (by decide +kernel) rfl
theorem tw_999 : (Jvm.Cond.code ({ cls := "TideLoansModel", name := "now", desc := "(I)I" } : Jvm.MethodName) prog_8_method_41_code (4 : Nat) (Option.some Jvm.ClassFile.FieldType.int)) ∈ tb := tbm4 216 (by decide +kernel) rfl
theorem tw_1000 : (Jvm.Cond.methodLink "TideLoansModel" (145 : Nat) ({ cls := "TideLoansModel", name := "thoseThatAre", desc := "(I)I" } : Jvm.MethodName)) ∈ tb := tbm4 217 (by decide +kernel) rfl
theorem tw_1002 : (Jvm.Cond.instanceMethod ({ cls := "TideLoansModel", name := "thoseThatAre", desc := "(I)I" } : Jvm.MethodName)) ∈ tb := tbm4 219 (by decide +kernel) rfl
theorem tw_1003 : (Jvm.Cond.code ({ cls := "TideLoansModel", name := "thoseThatAre", desc := "(I)I" } : Jvm.MethodName) prog_8_method_40_code (4 : Nat) (Option.some Jvm.ClassFile.FieldType.int)) ∈ tb := tbm4 220 (by decide +kernel) rfl
theorem tw_1004 : (Jvm.Cond.methodLink "TideLoansLaw" (76 : Nat) ({ cls := "TideLoansModel", name := "on", desc := "(II)I" } : Jvm.MethodName)) ∈ tb := tbm4 221 (by decide +kernel) rfl
theorem tw_1005 : (Jvm.Cond.instanceMethod ({ cls := "TideLoansModel", name := "on", desc := "(II)I" } : Jvm.MethodName)) ∈ tb := tbm4 222 (by decide +kernel) rfl
theorem tw_1006 : (Jvm.Cond.selects "TideLoansModel" ({ cls := "TideLoansModel", name := "on", desc := "(II)I" } : Jvm.MethodName) ({ cls := "TideLoansModel", name := "on", desc := "(II)I" } : Jvm.MethodName)) ∈ tb := tbm4 223 (by decide +kernel) rfl
theorem tw_1007 : (Jvm.Cond.code ({ cls := "TideLoansModel", name := "on", desc := "(II)I" } : Jvm.MethodName) prog_8_method_43_code (3 : Nat) (Option.some Jvm.ClassFile.FieldType.int)) ∈ tb := tbm4 224 (by decide +kernel) rfl
theorem tw_1008 : (Jvm.Cond.methodLink "TideLoansModel" (152 : Nat) ({ cls := "TideLoansModel", name := "purseOn", desc := "(II)I" } : Jvm.MethodName)) ∈ tb := tbm4 225 (by decide +kernel) rfl
theorem tw_1010 : (Jvm.Cond.instanceMethod ({ cls := "TideLoansModel", name := "purseOn", desc := "(II)I" } : Jvm.MethodName)) ∈ tb := tbm4 227 (by decide +kernel) rfl
theorem tw_1011 : (Jvm.Cond.code ({ cls := "TideLoansModel", name := "purseOn", desc := "(II)I" } : Jvm.MethodName) prog_8_method_42_code (4 : Nat) (Option.some Jvm.ClassFile.FieldType.int)) ∈ tb := tbm4 228 (by decide +kernel) rfl
theorem tw_1012 : (Jvm.Cond.methodLink "TideLoansModel" (148 : Nat) ({ cls := "TideLoansModel", name := "copyRow", desc := "([I[I)V" } : Jvm.MethodName)) ∈ tb := tbm4 229 (by decide +kernel) rfl
theorem tw_1013 : (Jvm.Cond.static ({ cls := "TideLoansModel", name := "copyRow", desc := "([I[I)V" } : Jvm.MethodName)) ∈ tb := tbm4 230 (by decide +kernel) rfl
theorem tw_1014 : (Jvm.Cond.code ({ cls := "TideLoansModel", name := "copyRow", desc := "([I[I)V" } : Jvm.MethodName) prog_8_method_5_code (3 : Nat) (Option.none : Option Jvm.ClassFile.FieldType)) ∈ tb := tbm4 231 (by decide +kernel) rfl
theorem tw_1015 : (Jvm.Cond.methodLink "TideLoansLaw" (80 : Nat) ({ cls := "TideLoansModel", name := "taken", desc := "(I)I" } : Jvm.MethodName)) ∈ tb := tbm4 232 (by decide +kernel) rfl
theorem tw_1016 : (Jvm.Cond.instanceMethod ({ cls := "TideLoansModel", name := "taken", desc := "(I)I" } : Jvm.MethodName)) ∈ tb := tbm4 233 (by decide +kernel) rfl
theorem tw_1017 : (Jvm.Cond.selects "TideLoansModel" ({ cls := "TideLoansModel", name := "taken", desc := "(I)I" } : Jvm.MethodName) ({ cls := "TideLoansModel", name := "taken", desc := "(I)I" } : Jvm.MethodName)) ∈ tb := tbm4 234 (by decide +kernel) rfl
theorem tw_1018 : (Jvm.Cond.code ({ cls := "TideLoansModel", name := "taken", desc := "(I)I" } : Jvm.MethodName) prog_8_method_45_code (2 : Nat) (Option.some Jvm.ClassFile.FieldType.int)) ∈ tb := tbm4 235 (by decide +kernel) rfl
theorem tw_1019 : (Jvm.Cond.methodLink "TideLoansModel" (155 : Nat) ({ cls := "TideLoansModel", name := "whenIt", desc := "(II)I" } : Jvm.MethodName)) ∈ tb := tbm4 236 (by decide +kernel) rfl
theorem tw_1021 : (Jvm.Cond.instanceMethod ({ cls := "TideLoansModel", name := "whenIt", desc := "(II)I" } : Jvm.MethodName)) ∈ tb := tbm4 238 (by decide +kernel) rfl
theorem tw_1022 : (Jvm.Cond.code ({ cls := "TideLoansModel", name := "whenIt", desc := "(II)I" } : Jvm.MethodName) prog_8_method_44_code (4 : Nat) (Option.some Jvm.ClassFile.FieldType.int)) ∈ tb := tbm4 239 (by decide +kernel) rfl
theorem tw_1023 : (Jvm.Cond.methodLink "TideLoansModel" (158 : Nat) ({ cls := "TideLoansModel", name := "orNone", desc := "(I)I" } : Jvm.MethodName)) ∈ tb := tbm5 0 (by decide +kernel) rfl
theorem tw_1025 : (Jvm.Cond.instanceMethod ({ cls := "TideLoansModel", name := "orNone", desc := "(I)I" } : Jvm.MethodName)) ∈ tb := tbm5 2 (by decide +kernel) rfl
theorem tw_1026 : (Jvm.Cond.code ({ cls := "TideLoansModel", name := "orNone", desc := "(I)I" } : Jvm.MethodName) prog_8_method_12_code (2 : Nat) (Option.some Jvm.ClassFile.FieldType.int)) ∈ tb := tbm5 3 (by decide +kernel) rfl
theorem tw_1027 : (Jvm.Cond.constant "TideLoansModel" (43 : Nat) (-1000000004 : Int32)) ∈ tb := tbm5 4 (by decide +kernel) rfl
theorem tw_1028 : (Jvm.Cond.methodLink "TideLoansLaw" (84 : Nat) ({ cls := "TideLoansModel", name := "home", desc := "(I)I" } : Jvm.MethodName)) ∈ tb := tbm5 5 (by decide +kernel) rfl
theorem tw_1029 : (Jvm.Cond.instanceMethod ({ cls := "TideLoansModel", name := "home", desc := "(I)I" } : Jvm.MethodName)) ∈ tb := tbm5 6 (by decide +kernel) rfl
theorem tw_1030 : (Jvm.Cond.selects "TideLoansModel" ({ cls := "TideLoansModel", name := "home", desc := "(I)I" } : Jvm.MethodName) ({ cls := "TideLoansModel", name := "home", desc := "(I)I" } : Jvm.MethodName)) ∈ tb := tbm5 7 (by decide +kernel) rfl
theorem tw_1031 : (Jvm.Cond.code ({ cls := "TideLoansModel", name := "home", desc := "(I)I" } : Jvm.MethodName) prog_8_method_46_code (2 : Nat) (Option.some Jvm.ClassFile.FieldType.int)) ∈ tb := tbm5 8 (by decide +kernel) rfl
theorem tw_1032 : (Jvm.Cond.methodLink "TideLoansLaw" (89 : Nat) ({ cls := "TideLoansModel", name := "due", desc := "()I" } : Jvm.MethodName)) ∈ tb := tbm5 9 (by decide +kernel) rfl
theorem tw_1033 : (Jvm.Cond.instanceMethod ({ cls := "TideLoansModel", name := "due", desc := "()I" } : Jvm.MethodName)) ∈ tb := tbm5 10 (by decide +kernel) rfl
theorem tw_1034 : (Jvm.Cond.selects "TideLoansModel" ({ cls := "TideLoansModel", name := "due", desc := "()I" } : Jvm.MethodName) ({ cls := "TideLoansModel", name := "due", desc := "()I" } : Jvm.MethodName)) ∈ tb := tbm5 11 (by decide +kernel) rfl
theorem tw_1035 : (Jvm.Cond.code ({ cls := "TideLoansModel", name := "due", desc := "()I" } : Jvm.MethodName) prog_8_method_47_code (3 : Nat) (Option.some Jvm.ClassFile.FieldType.int)) ∈ tb := tbm5 12 (by decide +kernel) rfl
theorem tw_1036 : (Jvm.Cond.methodLink "TideLoansLaw" (93 : Nat) ({ cls := "TideLoansModel", name := "spot", desc := "(II)I" } : Jvm.MethodName)) ∈ tb := tbm5 13 (by decide +kernel) rfl
theorem tw_1037 : (Jvm.Cond.instanceMethod ({ cls := "TideLoansModel", name := "spot", desc := "(II)I" } : Jvm.MethodName)) ∈ tb := tbm5 14 (by decide +kernel) rfl
theorem tw_1038 : (Jvm.Cond.selects "TideLoansModel" ({ cls := "TideLoansModel", name := "spot", desc := "(II)I" } : Jvm.MethodName) ({ cls := "TideLoansModel", name := "spot", desc := "(II)I" } : Jvm.MethodName)) ∈ tb := tbm5 15 (by decide +kernel) rfl
theorem tw_1039 : (Jvm.Cond.code ({ cls := "TideLoansModel", name := "spot", desc := "(II)I" } : Jvm.MethodName) prog_8_method_49_code (11 : Nat) (Option.some Jvm.ClassFile.FieldType.int)) ∈ tb := tbm5 16 (by decide +kernel) rfl
theorem tw_1040 : (Jvm.Cond.constantLong "TideLoansModel" (161 : Nat) (-1 : Int64)) ∈ tb := tbm5 17 (by decide +kernel) rfl
theorem tw_1041 : (Jvm.Cond.methodLink "TideLoansModel" (163 : Nat) ({ cls := "TideLoansModel", name := "pursesOn", desc := "(I)J" } : Jvm.MethodName)) ∈ tb := tbm5 18 (by decide +kernel) rfl
theorem tw_1043 : (Jvm.Cond.instanceMethod ({ cls := "TideLoansModel", name := "pursesOn", desc := "(I)J" } : Jvm.MethodName)) ∈ tb := tbm5 20 (by decide +kernel) rfl
theorem tw_1044 : (Jvm.Cond.code ({ cls := "TideLoansModel", name := "pursesOn", desc := "(I)J" } : Jvm.MethodName) prog_8_method_48_code (4 : Nat) (Option.some Jvm.ClassFile.FieldType.long)) ∈ tb := tbm5 21 (by decide +kernel) rfl
theorem tw_1045 : (Jvm.Cond.methodLink "TideLoansLaw" (97 : Nat) ({ cls := "TideLoansModel", name := "delay", desc := "(III)I" } : Jvm.MethodName)) ∈ tb := tbm5 22 (by decide +kernel) rfl
theorem tw_1046 : (Jvm.Cond.instanceMethod ({ cls := "TideLoansModel", name := "delay", desc := "(III)I" } : Jvm.MethodName)) ∈ tb := tbm5 23 (by decide +kernel) rfl
theorem tw_1047 : (Jvm.Cond.selects "TideLoansModel" ({ cls := "TideLoansModel", name := "delay", desc := "(III)I" } : Jvm.MethodName) ({ cls := "TideLoansModel", name := "delay", desc := "(III)I" } : Jvm.MethodName)) ∈ tb := tbm5 24 (by decide +kernel) rfl
theorem tw_1048 : (Jvm.Cond.code ({ cls := "TideLoansModel", name := "delay", desc := "(III)I" } : Jvm.MethodName) prog_8_method_50_code (10 : Nat) (Option.some Jvm.ClassFile.FieldType.int)) ∈ tb := tbm5 25 (by decide +kernel) rfl
theorem tw_1049 : (Jvm.Cond.constantLong "TideLoansModel" (167 : Nat) (60 : Int64)) ∈ tb := tbm5 26 (by decide +kernel) rfl
theorem tw_1050 : (Jvm.Cond.methodLink "TideLoansLaw" (101 : Nat) ({ cls := "TideLoansModel", name := "kind", desc := "(II)I" } : Jvm.MethodName)) ∈ tb := tbm5 27 (by decide +kernel) rfl
theorem tw_1051 : (Jvm.Cond.instanceMethod ({ cls := "TideLoansModel", name := "kind", desc := "(II)I" } : Jvm.MethodName)) ∈ tb := tbm5 28 (by decide +kernel) rfl
theorem tw_1052 : (Jvm.Cond.selects "TideLoansModel" ({ cls := "TideLoansModel", name := "kind", desc := "(II)I" } : Jvm.MethodName) ({ cls := "TideLoansModel", name := "kind", desc := "(II)I" } : Jvm.MethodName)) ∈ tb := tbm5 29 (by decide +kernel) rfl
theorem tw_1053 : (Jvm.Cond.code ({ cls := "TideLoansModel", name := "kind", desc := "(II)I" } : Jvm.MethodName) prog_8_method_51_code (10 : Nat) (Option.some Jvm.ClassFile.FieldType.int)) ∈ tb := tbm5 30 (by decide +kernel) rfl
theorem tw_1054 : (Jvm.Cond.methodLink "TideLoansLaw" (105 : Nat) ({ cls := "TideLoansModel", name := "worth", desc := "(III)I" } : Jvm.MethodName)) ∈ tb := tbm5 31 (by decide +kernel) rfl
theorem tw_1055 : (Jvm.Cond.instanceMethod ({ cls := "TideLoansModel", name := "worth", desc := "(III)I" } : Jvm.MethodName)) ∈ tb := tbm5 32 (by decide +kernel) rfl
theorem tw_1056 : (Jvm.Cond.selects "TideLoansModel" ({ cls := "TideLoansModel", name := "worth", desc := "(III)I" } : Jvm.MethodName) ({ cls := "TideLoansModel", name := "worth", desc := "(III)I" } : Jvm.MethodName)) ∈ tb := tbm5 33 (by decide +kernel) rfl
theorem tw_1057 : (Jvm.Cond.code ({ cls := "TideLoansModel", name := "worth", desc := "(III)I" } : Jvm.MethodName) prog_8_method_52_code (7 : Nat) (Option.some Jvm.ClassFile.FieldType.int)) ∈ tb := tbm5 34 (by decide +kernel) rfl
theorem tw_1058 : (Jvm.Cond.constantLong "TideLoansModel" (169 : Nat) (40 : Int64)) ∈ tb := tbm5 35 (by decide +kernel) rfl
theorem tw_1059 : (Jvm.Cond.methodLink "TideLoansLaw" (109 : Nat) ({ cls := "TideLoansModel", name := "richest", desc := "(I)I" } : Jvm.MethodName)) ∈ tb := tbm5 36 (by decide +kernel) rfl
theorem tw_1060 : (Jvm.Cond.instanceMethod ({ cls := "TideLoansModel", name := "richest", desc := "(I)I" } : Jvm.MethodName)) ∈ tb := tbm5 37 (by decide +kernel) rfl
theorem tw_1061 : (Jvm.Cond.selects "TideLoansModel" ({ cls := "TideLoansModel", name := "richest", desc := "(I)I" } : Jvm.MethodName) ({ cls := "TideLoansModel", name := "richest", desc := "(I)I" } : Jvm.MethodName)) ∈ tb := tbm5 38 (by decide +kernel) rfl
theorem tw_1062 : (Jvm.Cond.code ({ cls := "TideLoansModel", name := "richest", desc := "(I)I" } : Jvm.MethodName) prog_8_method_53_code (4 : Nat) (Option.some Jvm.ClassFile.FieldType.int)) ∈ tb := tbm5 39 (by decide +kernel) rfl
theorem tw_1063 : (Jvm.Cond.methodLink "TideLoansLaw" (113 : Nat) ({ cls := "TideLoansModel", name := "fewest", desc := "(III)I" } : Jvm.MethodName)) ∈ tb := tbm5 40 (by decide +kernel) rfl
theorem tw_1064 : (Jvm.Cond.instanceMethod ({ cls := "TideLoansModel", name := "fewest", desc := "(III)I" } : Jvm.MethodName)) ∈ tb := tbm5 41 (by decide +kernel) rfl
theorem tw_1065 : (Jvm.Cond.selects "TideLoansModel" ({ cls := "TideLoansModel", name := "fewest", desc := "(III)I" } : Jvm.MethodName) ({ cls := "TideLoansModel", name := "fewest", desc := "(III)I" } : Jvm.MethodName)) ∈ tb := tbm5 42 (by decide +kernel) rfl
theorem tw_1066 : (Jvm.Cond.code ({ cls := "TideLoansModel", name := "fewest", desc := "(III)I" } : Jvm.MethodName) prog_8_method_54_code (8 : Nat) (Option.some Jvm.ClassFile.FieldType.int)) ∈ tb := tbm5 43 (by decide +kernel) rfl
theorem tw_1067 : (Jvm.Cond.methodLink "TideLoansLaw" (117 : Nat) ({ cls := "TideLoansModel", name := "rate", desc := "(II)I" } : Jvm.MethodName)) ∈ tb := tbm5 44 (by decide +kernel) rfl
theorem tw_1068 : (Jvm.Cond.instanceMethod ({ cls := "TideLoansModel", name := "rate", desc := "(II)I" } : Jvm.MethodName)) ∈ tb := tbm5 45 (by decide +kernel) rfl
theorem tw_1069 : (Jvm.Cond.selects "TideLoansModel" ({ cls := "TideLoansModel", name := "rate", desc := "(II)I" } : Jvm.MethodName) ({ cls := "TideLoansModel", name := "rate", desc := "(II)I" } : Jvm.MethodName)) ∈ tb := tbm5 46 (by decide +kernel) rfl
theorem tw_1070 : (Jvm.Cond.code ({ cls := "TideLoansModel", name := "rate", desc := "(II)I" } : Jvm.MethodName) prog_8_method_55_code (6 : Nat) (Option.some Jvm.ClassFile.FieldType.int)) ∈ tb := tbm5 47 (by decide +kernel) rfl
theorem tw_1071 : (Jvm.Cond.methodLink "TideLoansLaw" (121 : Nat) ({ cls := "TideLoansModel", name := "feed", desc := "(II)I" } : Jvm.MethodName)) ∈ tb := tbm5 48 (by decide +kernel) rfl
theorem tw_1072 : (Jvm.Cond.instanceMethod ({ cls := "TideLoansModel", name := "feed", desc := "(II)I" } : Jvm.MethodName)) ∈ tb := tbm5 49 (by decide +kernel) rfl
theorem tw_1073 : (Jvm.Cond.selects "TideLoansModel" ({ cls := "TideLoansModel", name := "feed", desc := "(II)I" } : Jvm.MethodName) ({ cls := "TideLoansModel", name := "feed", desc := "(II)I" } : Jvm.MethodName)) ∈ tb := tbm5 50 (by decide +kernel) rfl
theorem tw_1074 : (Jvm.Cond.code ({ cls := "TideLoansModel", name := "feed", desc := "(II)I" } : Jvm.MethodName) prog_8_method_56_code (4 : Nat) (Option.some Jvm.ClassFile.FieldType.int)) ∈ tb := tbm5 51 (by decide +kernel) rfl
theorem tw_1075 : (Jvm.Cond.constantLong "TideLoansModel" (171 : Nat) (4 : Int64)) ∈ tb := tbm5 52 (by decide +kernel) rfl
theorem tw_1076 : (Jvm.Cond.methodLink "TideLoansLaw" (125 : Nat) ({ cls := "TideLoansModel", name := "wipe", desc := "()I" } : Jvm.MethodName)) ∈ tb := tbm5 53 (by decide +kernel) rfl
theorem tw_1077 : (Jvm.Cond.instanceMethod ({ cls := "TideLoansModel", name := "wipe", desc := "()I" } : Jvm.MethodName)) ∈ tb := tbm5 54 (by decide +kernel) rfl
theorem tw_1078 : (Jvm.Cond.selects "TideLoansModel" ({ cls := "TideLoansModel", name := "wipe", desc := "()I" } : Jvm.MethodName) ({ cls := "TideLoansModel", name := "wipe", desc := "()I" } : Jvm.MethodName)) ∈ tb := tbm5 55 (by decide +kernel) rfl
theorem tw_1079 : (Jvm.Cond.code ({ cls := "TideLoansModel", name := "wipe", desc := "()I" } : Jvm.MethodName) prog_8_method_57_code (2 : Nat) (Option.some Jvm.ClassFile.FieldType.int)) ∈ tb := tbm5 56 (by decide +kernel) rfl
theorem tw_1080 : (Jvm.Cond.methodLink "TideLoansLaw" (129 : Nat) ({ cls := "TideLoansModel", name := "shore", desc := "()I" } : Jvm.MethodName)) ∈ tb := tbm5 57 (by decide +kernel) rfl
theorem tw_1081 : (Jvm.Cond.instanceMethod ({ cls := "TideLoansModel", name := "shore", desc := "()I" } : Jvm.MethodName)) ∈ tb := tbm5 58 (by decide +kernel) rfl
theorem tw_1082 : (Jvm.Cond.selects "TideLoansModel" ({ cls := "TideLoansModel", name := "shore", desc := "()I" } : Jvm.MethodName) ({ cls := "TideLoansModel", name := "shore", desc := "()I" } : Jvm.MethodName)) ∈ tb := tbm5 59 (by decide +kernel) rfl
theorem tw_1083 : (Jvm.Cond.code ({ cls := "TideLoansModel", name := "shore", desc := "()I" } : Jvm.MethodName) prog_8_method_75_code (3 : Nat) (Option.some Jvm.ClassFile.FieldType.int)) ∈ tb := tbm5 60 (by decide +kernel) rfl
theorem tw_1084 : (Jvm.Cond.methodLink "TideLoansModel" (220 : Nat) ({ cls := "TideLoansModel", name := "nextToken", desc := "()V" } : Jvm.MethodName)) ∈ tb := tbm5 61 (by decide +kernel) rfl
theorem tw_1086 : (Jvm.Cond.instanceMethod ({ cls := "TideLoansModel", name := "nextToken", desc := "()V" } : Jvm.MethodName)) ∈ tb := tbm5 63 (by decide +kernel) rfl
theorem tw_1087 : (Jvm.Cond.code ({ cls := "TideLoansModel", name := "nextToken", desc := "()V" } : Jvm.MethodName) prog_8_method_61_code (2 : Nat) (Option.none : Option Jvm.ClassFile.FieldType)) ∈ tb := tbm5 64 (by decide +kernel) rfl
theorem tw_1088 : (Jvm.Cond.methodLink "TideLoansModel" (183 : Nat) ({ cls := "TideLoansModel", name := "byteAt", desc := "(I)I" } : Jvm.MethodName)) ∈ tb := tbm5 65 (by decide +kernel) rfl
theorem tw_1090 : (Jvm.Cond.instanceMethod ({ cls := "TideLoansModel", name := "byteAt", desc := "(I)I" } : Jvm.MethodName)) ∈ tb := tbm5 67 (by decide +kernel) rfl
theorem tw_1091 : (Jvm.Cond.code ({ cls := "TideLoansModel", name := "byteAt", desc := "(I)I" } : Jvm.MethodName) prog_8_method_60_code (2 : Nat) (Option.some Jvm.ClassFile.FieldType.int)) ∈ tb := tbm5 68 (by decide +kernel) rfl
theorem tw_1092 : (Jvm.Cond.methodLink "TideLoansModel" (186 : Nat) ({ cls := "TideLoansModel", name := "isLetter", desc := "(I)Z" } : Jvm.MethodName)) ∈ tb := tbm5 69 (by decide +kernel) rfl
theorem tw_1093 : (Jvm.Cond.static ({ cls := "TideLoansModel", name := "isLetter", desc := "(I)Z" } : Jvm.MethodName)) ∈ tb := tbm5 70 (by decide +kernel) rfl
theorem tw_1094 : (Jvm.Cond.code ({ cls := "TideLoansModel", name := "isLetter", desc := "(I)Z" } : Jvm.MethodName) prog_8_method_58_code (1 : Nat) (Option.some Jvm.ClassFile.FieldType.boolean)) ∈ tb := tbm5 71 (by decide +kernel) rfl
theorem tw_1095 : (Jvm.Cond.methodLink "TideLoansModel" (189 : Nat) ({ cls := "TideLoansModel", name := "isDigit", desc := "(I)Z" } : Jvm.MethodName)) ∈ tb := tbm5 72 (by decide +kernel) rfl
theorem tw_1096 : (Jvm.Cond.static ({ cls := "TideLoansModel", name := "isDigit", desc := "(I)Z" } : Jvm.MethodName)) ∈ tb := tbm5 73 (by decide +kernel) rfl
theorem tw_1097 : (Jvm.Cond.code ({ cls := "TideLoansModel", name := "isDigit", desc := "(I)Z" } : Jvm.MethodName) prog_8_method_59_code (1 : Nat) (Option.some Jvm.ClassFile.FieldType.boolean)) ∈ tb := tbm5 74 (by decide +kernel) rfl
theorem tw_1098 : (Jvm.Cond.methodLink "TideLoansModel" (242 : Nat) ({ cls := "TideLoansModel", name := "itemHere", desc := "()Z" } : Jvm.MethodName)) ∈ tb := tbm5 75 (by decide +kernel) rfl
theorem tw_1100 : (Jvm.Cond.instanceMethod ({ cls := "TideLoansModel", name := "itemHere", desc := "()Z" } : Jvm.MethodName)) ∈ tb := tbm5 77 (by decide +kernel) rfl
theorem tw_1101 : (Jvm.Cond.code ({ cls := "TideLoansModel", name := "itemHere", desc := "()Z" } : Jvm.MethodName) prog_8_method_74_code (2 : Nat) (Option.some Jvm.ClassFile.FieldType.boolean)) ∈ tb := tbm5 78 (by decide +kernel) rfl
theorem tw_1102 : (Jvm.Cond.methodLink "TideLoansModel" (229 : Nat) ({ cls := "TideLoansModel", name := "kindHere", desc := "()I" } : Jvm.MethodName)) ∈ tb := tbm5 79 (by decide +kernel) rfl
theorem tw_1104 : (Jvm.Cond.instanceMethod ({ cls := "TideLoansModel", name := "kindHere", desc := "()I" } : Jvm.MethodName)) ∈ tb := tbm5 81 (by decide +kernel) rfl
theorem tw_1105 : (Jvm.Cond.code ({ cls := "TideLoansModel", name := "kindHere", desc := "()I" } : Jvm.MethodName) prog_8_method_68_code (1 : Nat) (Option.some Jvm.ClassFile.FieldType.int)) ∈ tb := tbm5 82 (by decide +kernel) rfl
theorem tw_1106 : (Jvm.Cond.methodLink "TideLoansModel" (208 : Nat) ({ cls := "TideLoansModel", name := "isFive", desc := "(IIIII)Z" } : Jvm.MethodName)) ∈ tb := tbm5 83 (by decide +kernel) rfl
theorem tw_1108 : (Jvm.Cond.instanceMethod ({ cls := "TideLoansModel", name := "isFive", desc := "(IIIII)Z" } : Jvm.MethodName)) ∈ tb := tbm5 85 (by decide +kernel) rfl
theorem tw_1109 : (Jvm.Cond.code ({ cls := "TideLoansModel", name := "isFive", desc := "(IIIII)Z" } : Jvm.MethodName) prog_8_method_66_code (6 : Nat) (Option.some Jvm.ClassFile.FieldType.boolean)) ∈ tb := tbm5 86 (by decide +kernel) rfl
theorem tw_1110 : (Jvm.Cond.methodLink "TideLoansModel" (201 : Nat) ({ cls := "TideLoansModel", name := "isWord", desc := "(I)Z" } : Jvm.MethodName)) ∈ tb := tbm5 87 (by decide +kernel) rfl
theorem tw_1112 : (Jvm.Cond.instanceMethod ({ cls := "TideLoansModel", name := "isWord", desc := "(I)Z" } : Jvm.MethodName)) ∈ tb := tbm5 89 (by decide +kernel) rfl
theorem tw_1113 : (Jvm.Cond.code ({ cls := "TideLoansModel", name := "isWord", desc := "(I)Z" } : Jvm.MethodName) prog_8_method_63_code (2 : Nat) (Option.some Jvm.ClassFile.FieldType.boolean)) ∈ tb := tbm5 90 (by decide +kernel) rfl
theorem tw_1114 : (Jvm.Cond.methodLink "TideLoansModel" (204 : Nat) ({ cls := "TideLoansModel", name := "has3", desc := "(IIII)Z" } : Jvm.MethodName)) ∈ tb := tbm5 91 (by decide +kernel) rfl
theorem tw_1116 : (Jvm.Cond.instanceMethod ({ cls := "TideLoansModel", name := "has3", desc := "(IIII)Z" } : Jvm.MethodName)) ∈ tb := tbm5 93 (by decide +kernel) rfl
theorem tw_1117 : (Jvm.Cond.code ({ cls := "TideLoansModel", name := "has3", desc := "(IIII)Z" } : Jvm.MethodName) prog_8_method_62_code (5 : Nat) (Option.some Jvm.ClassFile.FieldType.boolean)) ∈ tb := tbm5 94 (by decide +kernel) rfl
theorem tw_1118 : (Jvm.Cond.methodLink "TideLoansModel" (212 : Nat) ({ cls := "TideLoansModel", name := "isSix", desc := "(IIIIII)Z" } : Jvm.MethodName)) ∈ tb := tbm5 95 (by decide +kernel) rfl
theorem tw_1120 : (Jvm.Cond.instanceMethod ({ cls := "TideLoansModel", name := "isSix", desc := "(IIIIII)Z" } : Jvm.MethodName)) ∈ tb := tbm5 97 (by decide +kernel) rfl
theorem tw_1121 : (Jvm.Cond.code ({ cls := "TideLoansModel", name := "isSix", desc := "(IIIIII)Z" } : Jvm.MethodName) prog_8_method_67_code (7 : Nat) (Option.some Jvm.ClassFile.FieldType.boolean)) ∈ tb := tbm5 98 (by decide +kernel) rfl
theorem tw_1122 : (Jvm.Cond.methodLink "TideLoansModel" (233 : Nat) ({ cls := "TideLoansModel", name := "thingHere", desc := "(I)Z" } : Jvm.MethodName)) ∈ tb := tbm5 99 (by decide +kernel) rfl
theorem tw_1124 : (Jvm.Cond.instanceMethod ({ cls := "TideLoansModel", name := "thingHere", desc := "(I)Z" } : Jvm.MethodName)) ∈ tb := tbm5 101 (by decide +kernel) rfl
theorem tw_1125 : (Jvm.Cond.code ({ cls := "TideLoansModel", name := "thingHere", desc := "(I)Z" } : Jvm.MethodName) prog_8_method_71_code (3 : Nat) (Option.some Jvm.ClassFile.FieldType.boolean)) ∈ tb := tbm5 102 (by decide +kernel) rfl
theorem tw_1126 : (Jvm.Cond.methodLink "TideLoansModel" (216 : Nat) ({ cls := "TideLoansModel", name := "fails", desc := "()Z" } : Jvm.MethodName)) ∈ tb := tbm5 103 (by decide +kernel) rfl
theorem tw_1128 : (Jvm.Cond.instanceMethod ({ cls := "TideLoansModel", name := "fails", desc := "()Z" } : Jvm.MethodName)) ∈ tb := tbm5 105 (by decide +kernel) rfl
theorem tw_1129 : (Jvm.Cond.code ({ cls := "TideLoansModel", name := "fails", desc := "()Z" } : Jvm.MethodName) prog_8_method_64_code (1 : Nat) (Option.some Jvm.ClassFile.FieldType.boolean)) ∈ tb := tbm5 106 (by decide +kernel) rfl
theorem tw_1130 : (Jvm.Cond.methodLink "TideLoansModel" (223 : Nat) ({ cls := "TideLoansModel", name := "isTwo", desc := "(II)Z" } : Jvm.MethodName)) ∈ tb := tbm5 107 (by decide +kernel) rfl
theorem tw_1132 : (Jvm.Cond.instanceMethod ({ cls := "TideLoansModel", name := "isTwo", desc := "(II)Z" } : Jvm.MethodName)) ∈ tb := tbm5 109 (by decide +kernel) rfl
theorem tw_1133 : (Jvm.Cond.code ({ cls := "TideLoansModel", name := "isTwo", desc := "(II)Z" } : Jvm.MethodName) prog_8_method_70_code (3 : Nat) (Option.some Jvm.ClassFile.FieldType.boolean)) ∈ tb := tbm5 110 (by decide +kernel) rfl
theorem tw_1134 : (Jvm.Cond.methodLink "TideLoansModel" (226 : Nat) ({ cls := "TideLoansModel", name := "isNumber", desc := "(II)Z" } : Jvm.MethodName)) ∈ tb := tbm5 111 (by decide +kernel) rfl
theorem tw_1136 : (Jvm.Cond.instanceMethod ({ cls := "TideLoansModel", name := "isNumber", desc := "(II)Z" } : Jvm.MethodName)) ∈ tb := tbm5 113 (by decide +kernel) rfl
theorem tw_1137 : (Jvm.Cond.code ({ cls := "TideLoansModel", name := "isNumber", desc := "(II)Z" } : Jvm.MethodName) prog_8_method_69_code (3 : Nat) (Option.some Jvm.ClassFile.FieldType.boolean)) ∈ tb := tbm5 114 (by decide +kernel) rfl
theorem tw_1138 : (Jvm.Cond.methodLink "TideLoansModel" (236 : Nat) ({ cls := "TideLoansModel", name := "heightHere", desc := "()Z" } : Jvm.MethodName)) ∈ tb := tbm5 115 (by decide +kernel) rfl
theorem tw_1140 : (Jvm.Cond.instanceMethod ({ cls := "TideLoansModel", name := "heightHere", desc := "()Z" } : Jvm.MethodName)) ∈ tb := tbm5 117 (by decide +kernel) rfl
theorem tw_1141 : (Jvm.Cond.code ({ cls := "TideLoansModel", name := "heightHere", desc := "()Z" } : Jvm.MethodName) prog_8_method_72_code (2 : Nat) (Option.some Jvm.ClassFile.FieldType.boolean)) ∈ tb := tbm5 118 (by decide +kernel) rfl
theorem tw_1142 : (Jvm.Cond.methodLink "TideLoansModel" (239 : Nat) ({ cls := "TideLoansModel", name := "interestHere", desc := "()Z" } : Jvm.MethodName)) ∈ tb := tbm5 119 (by decide +kernel) rfl
theorem tw_1144 : (Jvm.Cond.instanceMethod ({ cls := "TideLoansModel", name := "interestHere", desc := "()Z" } : Jvm.MethodName)) ∈ tb := tbm5 121 (by decide +kernel) rfl
theorem tw_1145 : (Jvm.Cond.code ({ cls := "TideLoansModel", name := "interestHere", desc := "()Z" } : Jvm.MethodName) prog_8_method_73_code (1 : Nat) (Option.some Jvm.ClassFile.FieldType.boolean)) ∈ tb := tbm5 122 (by decide +kernel) rfl
theorem tw_1146 : (Jvm.Cond.methodLink "TideLoansLaw" (133 : Nat) ({ cls := "TideLoansModel", name := "sheet", desc := "(III)I" } : Jvm.MethodName)) ∈ tb := tbm5 123 (by decide +kernel) rfl
theorem tw_1147 : (Jvm.Cond.instanceMethod ({ cls := "TideLoansModel", name := "sheet", desc := "(III)I" } : Jvm.MethodName)) ∈ tb := tbm5 124 (by decide +kernel) rfl
theorem tw_1148 : (Jvm.Cond.selects "TideLoansModel" ({ cls := "TideLoansModel", name := "sheet", desc := "(III)I" } : Jvm.MethodName) ({ cls := "TideLoansModel", name := "sheet", desc := "(III)I" } : Jvm.MethodName)) ∈ tb := tbm5 125 (by decide +kernel) rfl
theorem tw_1149 : (Jvm.Cond.code ({ cls := "TideLoansModel", name := "sheet", desc := "(III)I" } : Jvm.MethodName) prog_8_method_78_code (5 : Nat) (Option.some Jvm.ClassFile.FieldType.int)) ∈ tb := tbm5 126 (by decide +kernel) rfl
theorem tw_1150 : (Jvm.Cond.methodLink "TideLoansModel" (245 : Nat) ({ cls := "TideLoansModel", name := "isSheet", desc := "(I)Z" } : Jvm.MethodName)) ∈ tb := tbm5 127 (by decide +kernel) rfl
theorem tw_1151 : (Jvm.Cond.static ({ cls := "TideLoansModel", name := "isSheet", desc := "(I)Z" } : Jvm.MethodName)) ∈ tb := tbm5 128 (by decide +kernel) rfl
theorem tw_1152 : (Jvm.Cond.code ({ cls := "TideLoansModel", name := "isSheet", desc := "(I)Z" } : Jvm.MethodName) prog_8_method_76_code (1 : Nat) (Option.some Jvm.ClassFile.FieldType.boolean)) ∈ tb := tbm5 129 (by decide +kernel) rfl
theorem tw_1153 : (Jvm.Cond.constant "TideLoansModel" (248 : Nat) (-1000000007 : Int32)) ∈ tb := tbm5 130 (by decide +kernel) rfl
theorem tw_1154 : (Jvm.Cond.methodLink "TideLoansLaw" (140 : Nat) ({ cls := "TideLoansModel", name := "write", desc := "(IIJ)J" } : Jvm.MethodName)) ∈ tb := tbm5 131 (by decide +kernel) rfl
theorem tw_1155 : (Jvm.Cond.instanceMethod ({ cls := "TideLoansModel", name := "write", desc := "(IIJ)J" } : Jvm.MethodName)) ∈ tb := tbm5 132 (by decide +kernel) rfl
theorem tw_1156 : (Jvm.Cond.selects "TideLoansModel" ({ cls := "TideLoansModel", name := "write", desc := "(IIJ)J" } : Jvm.MethodName) ({ cls := "TideLoansModel", name := "write", desc := "(IIJ)J" } : Jvm.MethodName)) ∈ tb := tbm5 133 (by decide +kernel) rfl
theorem tw_1157 : (Jvm.Cond.code ({ cls := "TideLoansModel", name := "write", desc := "(IIJ)J" } : Jvm.MethodName) prog_8_method_79_code (7 : Nat) (Option.some Jvm.ClassFile.FieldType.long)) ∈ tb := tbm5 134 (by decide +kernel) rfl
theorem tw_1158 : (Jvm.Cond.constant "TideLoansModel" (249 : Nat) (-1000000006 : Int32)) ∈ tb := tbm5 135 (by decide +kernel) rfl
theorem tw_1159 : (Jvm.Cond.methodLink "TideLoansModel" (250 : Nat) ({ cls := "TideLoansModel", name := "narrow", desc := "(IJ)J" } : Jvm.MethodName)) ∈ tb := tbm5 136 (by decide +kernel) rfl
theorem tw_1160 : (Jvm.Cond.static ({ cls := "TideLoansModel", name := "narrow", desc := "(IJ)J" } : Jvm.MethodName)) ∈ tb := tbm5 137 (by decide +kernel) rfl
theorem tw_1161 : (Jvm.Cond.code ({ cls := "TideLoansModel", name := "narrow", desc := "(IJ)J" } : Jvm.MethodName) prog_8_method_77_code (3 : Nat) (Option.some Jvm.ClassFile.FieldType.long)) ∈ tb := tbm5 138 (by decide +kernel) rfl
theorem tw_1162 : (Jvm.Cond.methodLink "TideLoansLaw" (145 : Nat) ({ cls := "TideLoansModel", name := "copy", desc := "(IIIII)I" } : Jvm.MethodName)) ∈ tb := tbm5 139 (by decide +kernel) rfl
theorem tw_1163 : (Jvm.Cond.instanceMethod ({ cls := "TideLoansModel", name := "copy", desc := "(IIIII)I" } : Jvm.MethodName)) ∈ tb := tbm5 140 (by decide +kernel) rfl
theorem tw_1164 : (Jvm.Cond.selects "TideLoansModel" ({ cls := "TideLoansModel", name := "copy", desc := "(IIIII)I" } : Jvm.MethodName) ({ cls := "TideLoansModel", name := "copy", desc := "(IIIII)I" } : Jvm.MethodName)) ∈ tb := tbm5 141 (by decide +kernel) rfl
theorem tw_1165 : (Jvm.Cond.code ({ cls := "TideLoansModel", name := "copy", desc := "(IIIII)I" } : Jvm.MethodName) prog_8_method_80_code (10 : Nat) (Option.some Jvm.ClassFile.FieldType.int)) ∈ tb := tbm5 142 (by decide +kernel) rfl
theorem tw_1166 : (Jvm.Cond.methodLink "TideLoansLaw" (149 : Nat) ({ cls := "TideLoansModel", name := "lays", desc := "(I)I" } : Jvm.MethodName)) ∈ tb := tbm5 143 (by decide +kernel) rfl
theorem tw_1167 : (Jvm.Cond.instanceMethod ({ cls := "TideLoansModel", name := "lays", desc := "(I)I" } : Jvm.MethodName)) ∈ tb := tbm5 144 (by decide +kernel) rfl
theorem tw_1168 : (Jvm.Cond.selects "TideLoansModel" ({ cls := "TideLoansModel", name := "lays", desc := "(I)I" } : Jvm.MethodName) ({ cls := "TideLoansModel", name := "lays", desc := "(I)I" } : Jvm.MethodName)) ∈ tb := tbm5 145 (by decide +kernel) rfl
theorem tw_1169 : (Jvm.Cond.code ({ cls := "TideLoansModel", name := "lays", desc := "(I)I" } : Jvm.MethodName) prog_8_method_82_code (6 : Nat) (Option.some Jvm.ClassFile.FieldType.int)) ∈ tb := tbm5 146 (by decide +kernel) rfl
theorem tw_1170 : (Jvm.Cond.methodLink "TideLoansModel" (254 : Nat) ({ cls := "TideLoansModel", name := "wants", desc := "(I)I" } : Jvm.MethodName)) ∈ tb := tbm5 147 (by decide +kernel) rfl
theorem tw_1172 : (Jvm.Cond.instanceMethod ({ cls := "TideLoansModel", name := "wants", desc := "(I)I" } : Jvm.MethodName)) ∈ tb := tbm5 149 (by decide +kernel) rfl
theorem tw_1173 : (Jvm.Cond.code ({ cls := "TideLoansModel", name := "wants", desc := "(I)I" } : Jvm.MethodName) prog_8_method_81_code (2 : Nat) (Option.some Jvm.ClassFile.FieldType.int)) ∈ tb := tbm5 150 (by decide +kernel) rfl
theorem tw_1174 : (Jvm.Cond.methodLink "TideLoansLaw" (153 : Nat) ({ cls := "TideLoansModel", name := "book", desc := "(II)I" } : Jvm.MethodName)) ∈ tb := tbm5 151 (by decide +kernel) rfl
theorem tw_1175 : (Jvm.Cond.instanceMethod ({ cls := "TideLoansModel", name := "book", desc := "(II)I" } : Jvm.MethodName)) ∈ tb := tbm5 152 (by decide +kernel) rfl
theorem tw_1176 : (Jvm.Cond.selects "TideLoansModel" ({ cls := "TideLoansModel", name := "book", desc := "(II)I" } : Jvm.MethodName) ({ cls := "TideLoansModel", name := "book", desc := "(II)I" } : Jvm.MethodName)) ∈ tb := tbm5 153 (by decide +kernel) rfl
theorem tw_1177 : (Jvm.Cond.code ({ cls := "TideLoansModel", name := "book", desc := "(II)I" } : Jvm.MethodName) prog_8_method_83_code (5 : Nat) (Option.some Jvm.ClassFile.FieldType.int)) ∈ tb := tbm5 154 (by decide +kernel) rfl
theorem tw_1178 : (Jvm.Cond.methodLink "TideLoansLaw" (157 : Nat) ({ cls := "TideLoansModel", name := "read", desc := "(III)I" } : Jvm.MethodName)) ∈ tb := tbm5 155 (by decide +kernel) rfl
theorem tw_1179 : (Jvm.Cond.instanceMethod ({ cls := "TideLoansModel", name := "read", desc := "(III)I" } : Jvm.MethodName)) ∈ tb := tbm5 156 (by decide +kernel) rfl
theorem tw_1180 : (Jvm.Cond.selects "TideLoansModel" ({ cls := "TideLoansModel", name := "read", desc := "(III)I" } : Jvm.MethodName) ({ cls := "TideLoansModel", name := "read", desc := "(III)I" } : Jvm.MethodName)) ∈ tb := tbm5 157 (by decide +kernel) rfl
theorem tw_1181 : (Jvm.Cond.code ({ cls := "TideLoansModel", name := "read", desc := "(III)I" } : Jvm.MethodName) prog_8_method_85_code (11 : Nat) (Option.some Jvm.ClassFile.FieldType.int)) ∈ tb := tbm5 158 (by decide +kernel) rfl
theorem tw_1182 : (Jvm.Cond.methodLink "TideLoansModel" (257 : Nat) ({ cls := "TideLoansModel", name := "isTold", desc := "(II)Z" } : Jvm.MethodName)) ∈ tb := tbm5 159 (by decide +kernel) rfl
theorem tw_1184 : (Jvm.Cond.instanceMethod ({ cls := "TideLoansModel", name := "isTold", desc := "(II)Z" } : Jvm.MethodName)) ∈ tb := tbm5 161 (by decide +kernel) rfl
theorem tw_1185 : (Jvm.Cond.code ({ cls := "TideLoansModel", name := "isTold", desc := "(II)Z" } : Jvm.MethodName) prog_8_method_84_code (5 : Nat) (Option.some Jvm.ClassFile.FieldType.boolean)) ∈ tb := tbm5 162 (by decide +kernel) rfl
theorem tw_1186 : (Jvm.Cond.methodLink "TideLoansLaw" (161 : Nat) ({ cls := "TideLoansModel", name := "image", desc := "()I" } : Jvm.MethodName)) ∈ tb := tbm5 163 (by decide +kernel) rfl
theorem tw_1187 : (Jvm.Cond.instanceMethod ({ cls := "TideLoansModel", name := "image", desc := "()I" } : Jvm.MethodName)) ∈ tb := tbm5 164 (by decide +kernel) rfl
theorem tw_1188 : (Jvm.Cond.selects "TideLoansModel" ({ cls := "TideLoansModel", name := "image", desc := "()I" } : Jvm.MethodName) ({ cls := "TideLoansModel", name := "image", desc := "()I" } : Jvm.MethodName)) ∈ tb := tbm5 165 (by decide +kernel) rfl
theorem tw_1189 : (Jvm.Cond.code ({ cls := "TideLoansModel", name := "image", desc := "()I" } : Jvm.MethodName) prog_8_method_86_code (1 : Nat) (Option.some Jvm.ClassFile.FieldType.int)) ∈ tb := tbm5 166 (by decide +kernel) rfl
theorem tw_1190 : (Jvm.Cond.methodLink "TideLoansLaw" (165 : Nat) ({ cls := "TideLoansModel", name := "undo", desc := "()I" } : Jvm.MethodName)) ∈ tb := tbm5 167 (by decide +kernel) rfl
theorem tw_1191 : (Jvm.Cond.instanceMethod ({ cls := "TideLoansModel", name := "undo", desc := "()I" } : Jvm.MethodName)) ∈ tb := tbm5 168 (by decide +kernel) rfl
theorem tw_1192 : (Jvm.Cond.selects "TideLoansModel" ({ cls := "TideLoansModel", name := "undo", desc := "()I" } : Jvm.MethodName) ({ cls := "TideLoansModel", name := "undo", desc := "()I" } : Jvm.MethodName)) ∈ tb := tbm5 169 (by decide +kernel) rfl
theorem tw_1193 : (Jvm.Cond.code ({ cls := "TideLoansModel", name := "undo", desc := "()I" } : Jvm.MethodName) prog_8_method_87_code (1 : Nat) (Option.some Jvm.ClassFile.FieldType.int)) ∈ tb := tbm5 170 (by decide +kernel) rfl
theorem tw_1194 : (Jvm.Cond.methodLink "TideLoansLaw" (169 : Nat) ({ cls := "TideLoansModel", name := "tear", desc := "()I" } : Jvm.MethodName)) ∈ tb := tbm5 171 (by decide +kernel) rfl
theorem tw_1195 : (Jvm.Cond.instanceMethod ({ cls := "TideLoansModel", name := "tear", desc := "()I" } : Jvm.MethodName)) ∈ tb := tbm5 172 (by decide +kernel) rfl
theorem tw_1196 : (Jvm.Cond.selects "TideLoansModel" ({ cls := "TideLoansModel", name := "tear", desc := "()I" } : Jvm.MethodName) ({ cls := "TideLoansModel", name := "tear", desc := "()I" } : Jvm.MethodName)) ∈ tb := tbm5 173 (by decide +kernel) rfl
theorem tw_1197 : (Jvm.Cond.code ({ cls := "TideLoansModel", name := "tear", desc := "()I" } : Jvm.MethodName) prog_8_method_88_code (2 : Nat) (Option.some Jvm.ClassFile.FieldType.int)) ∈ tb := tbm5 174 (by decide +kernel) rfl
theorem tw_1198 : (Jvm.Cond.methodLink "TideLoansLaw" (173 : Nat) ({ cls := "TideLoansModel", name := "count", desc := "(I)I" } : Jvm.MethodName)) ∈ tb := tbm5 175 (by decide +kernel) rfl
theorem tw_1199 : (Jvm.Cond.instanceMethod ({ cls := "TideLoansModel", name := "count", desc := "(I)I" } : Jvm.MethodName)) ∈ tb := tbm5 176 (by decide +kernel) rfl
theorem tw_1200 : (Jvm.Cond.selects "TideLoansModel" ({ cls := "TideLoansModel", name := "count", desc := "(I)I" } : Jvm.MethodName) ({ cls := "TideLoansModel", name := "count", desc := "(I)I" } : Jvm.MethodName)) ∈ tb := tbm5 177 (by decide +kernel) rfl
theorem tw_1201 : (Jvm.Cond.code ({ cls := "TideLoansModel", name := "count", desc := "(I)I" } : Jvm.MethodName) prog_8_method_89_code (4 : Nat) (Option.some Jvm.ClassFile.FieldType.int)) ∈ tb := tbm5 178 (by decide +kernel) rfl
theorem tw_1202 : (Jvm.Cond.methodLink "TideLoansLaw" (177 : Nat) ({ cls := "TideLoansModel", name := "status", desc := "(I)I" } : Jvm.MethodName)) ∈ tb := tbm5 179 (by decide +kernel) rfl
theorem tw_1203 : (Jvm.Cond.instanceMethod ({ cls := "TideLoansModel", name := "status", desc := "(I)I" } : Jvm.MethodName)) ∈ tb := tbm5 180 (by decide +kernel) rfl
theorem tw_1204 : (Jvm.Cond.selects "TideLoansModel" ({ cls := "TideLoansModel", name := "status", desc := "(I)I" } : Jvm.MethodName) ({ cls := "TideLoansModel", name := "status", desc := "(I)I" } : Jvm.MethodName)) ∈ tb := tbm5 181 (by decide +kernel) rfl
theorem tw_1205 : (Jvm.Cond.code ({ cls := "TideLoansModel", name := "status", desc := "(I)I" } : Jvm.MethodName) prog_8_method_90_code (2 : Nat) (Option.some Jvm.ClassFile.FieldType.int)) ∈ tb := tbm5 182 (by decide +kernel) rfl
theorem tw_1206 : (Jvm.Cond.constantLong "TideLoansModel" (264 : Nat) (6 : Int64)) ∈ tb := tbm5 183 (by decide +kernel) rfl
theorem tw_1207 : (Jvm.Cond.constantLong "TideLoansLaw" (134 : Nat) (4294967295 : Int64)) ∈ tb := tbm5 184 (by decide +kernel) rfl
theorem tw_1208 : (Jvm.Cond.fieldLink "java/lang/String" (9 : Nat) "java/lang/String" "value" "[B") ∈ tb := tbm5 185 (by decide +kernel) rfl
theorem tw_1209 : (Jvm.Cond.fieldLink "java/lang/String" (15 : Nat) "java/lang/String" "coder" "B") ∈ tb := tbm5 186 (by decide +kernel) rfl
theorem in_Sheet : ∀ w ∈ u_ws R_Sheet T_Sheet 3, w ∈ tb := by decide +kernel
theorem in_Shore : ∀ w ∈ u_ws R_Shore T_Shore 6, w ∈ tb := by decide +kernel
theorem in_Tape : ∀ w ∈ u_ws R_Tape T_Tape 6, w ∈ tb := by decide +kernel
theorem in_Thing : ∀ w ∈ u_ws R_Thing T_Thing 6, w ∈ tb := by decide +kernel
theorem in_Way : ∀ w ∈ u_ws R_Way T_Way 5, w ∈ tb := by decide +kernel
theorem in_Tide : ∀ w ∈ u_ws R_Tide T_Tide 12, w ∈ tb := by decide +kernel
theorem in_Model : ∀ w ∈ u_ws R_Model T_Model 16, w ∈ tb := by decide +kernel
theorem set_Sheet_1 {E : En} {X : Mem} {v : Int32} {k : Nat} (hk : kd k = 4) : cel E (sI X k 1 v) k = .inr (0, [.ref (ad E (k + 1)), .int v, .int (gI X k 2)]) := by rw [cel_Sheet hk, gs_same, gs_slot (b := 2) (by decide)]
theorem set_Sheet_2 {E : En} {X : Mem} {v : Int32} {k : Nat} (hk : kd k = 4) : cel E (sI X k 2 v) k = .inr (0, [.ref (ad E (k + 1)), .int (gI X k 1), .int v]) := by rw [cel_Sheet hk, gs_slot (b := 1) (by decide), gs_same]
theorem set_Shore_3 {E : En} {X : Mem} {v : Int32} {k : Nat} (hk : kd k = 1) : cel E (sI X k 3 v) k = .inr (1, [.ref (ad E (k + 1)), .ref (ad E (k + 2)), .ref (ad E (k + 3)), .int v, .int (gI X k 4), .int (gI X k 5)]) := by rw [cel_Shore hk, gs_same, gs_slot (b := 4) (by decide), gs_slot (b := 5) (by decide)]
theorem set_Shore_4 {E : En} {X : Mem} {v : Int32} {k : Nat} (hk : kd k = 1) : cel E (sI X k 4 v) k = .inr (1, [.ref (ad E (k + 1)), .ref (ad E (k + 2)), .ref (ad E (k + 3)), .int (gI X k 3), .int v, .int (gI X k 5)]) := by rw [cel_Shore hk, gs_slot (b := 3) (by decide), gs_same, gs_slot (b := 5) (by decide)]
theorem set_Shore_5 {E : En} {X : Mem} {v : Int32} {k : Nat} (hk : kd k = 1) : cel E (sI X k 5 v) k = .inr (1, [.ref (ad E (k + 1)), .ref (ad E (k + 2)), .ref (ad E (k + 3)), .int (gI X k 3), .int (gI X k 4), .int v]) := by rw [cel_Shore hk, gs_slot (b := 3) (by decide), gs_slot (b := 4) (by decide), gs_same]
theorem set_Tape_1 {E : En} {X : Mem} {v : Int32} : cel E (sI X 44 1 v) 44 = .inr (2, [.ref (ad E 45), .int v, .int (gI X 44 2), .int (gI X 44 3), .int (gI X 44 4), .int (gI X 44 5)]) := by rw [cel_Tape, gs_same, gs_slot (b := 2) (by decide), gs_slot (b := 3) (by decide), gs_slot (b := 4) (by decide), gs_slot (b := 5) (by decide)]
theorem set_Tape_2 {E : En} {X : Mem} {v : Int32} : cel E (sI X 44 2 v) 44 = .inr (2, [.ref (ad E 45), .int (gI X 44 1), .int v, .int (gI X 44 3), .int (gI X 44 4), .int (gI X 44 5)]) := by rw [cel_Tape, gs_slot (b := 1) (by decide), gs_same, gs_slot (b := 3) (by decide), gs_slot (b := 4) (by decide), gs_slot (b := 5) (by decide)]
theorem set_Tape_3 {E : En} {X : Mem} {v : Int32} : cel E (sI X 44 3 v) 44 = .inr (2, [.ref (ad E 45), .int (gI X 44 1), .int (gI X 44 2), .int v, .int (gI X 44 4), .int (gI X 44 5)]) := by rw [cel_Tape, gs_slot (b := 1) (by decide), gs_slot (b := 2) (by decide), gs_same, gs_slot (b := 4) (by decide), gs_slot (b := 5) (by decide)]
theorem set_Tape_4 {E : En} {X : Mem} {v : Int32} : cel E (sI X 44 4 v) 44 = .inr (2, [.ref (ad E 45), .int (gI X 44 1), .int (gI X 44 2), .int (gI X 44 3), .int v, .int (gI X 44 5)]) := by rw [cel_Tape, gs_slot (b := 1) (by decide), gs_slot (b := 2) (by decide), gs_slot (b := 3) (by decide), gs_same, gs_slot (b := 5) (by decide)]
theorem set_Tape_5 {E : En} {X : Mem} {v : Int32} : cel E (sI X 44 5 v) 44 = .inr (2, [.ref (ad E 45), .int (gI X 44 1), .int (gI X 44 2), .int (gI X 44 3), .int (gI X 44 4), .int v]) := by rw [cel_Tape, gs_slot (b := 1) (by decide), gs_slot (b := 2) (by decide), gs_slot (b := 3) (by decide), gs_slot (b := 4) (by decide), gs_same]
theorem set_Thing_0 {E : En} {X : Mem} {v : Int32} {k : Nat} (hk : kd k = 2) : cel E (sI X k 0 v) k = .inr (3, [.int v, .int (gI X k 1), .int (gI X k 2), .int (gI X k 3), .int (gI X k 4), .int (gI X k 5)]) := by rw [cel_Thing hk, gs_same, gs_slot (b := 1) (by decide), gs_slot (b := 2) (by decide), gs_slot (b := 3) (by decide), gs_slot (b := 4) (by decide), gs_slot (b := 5) (by decide)]
theorem set_Thing_1 {E : En} {X : Mem} {v : Int32} {k : Nat} (hk : kd k = 2) : cel E (sI X k 1 v) k = .inr (3, [.int (gI X k 0), .int v, .int (gI X k 2), .int (gI X k 3), .int (gI X k 4), .int (gI X k 5)]) := by rw [cel_Thing hk, gs_slot (b := 0) (by decide), gs_same, gs_slot (b := 2) (by decide), gs_slot (b := 3) (by decide), gs_slot (b := 4) (by decide), gs_slot (b := 5) (by decide)]
theorem set_Thing_2 {E : En} {X : Mem} {v : Int32} {k : Nat} (hk : kd k = 2) : cel E (sI X k 2 v) k = .inr (3, [.int (gI X k 0), .int (gI X k 1), .int v, .int (gI X k 3), .int (gI X k 4), .int (gI X k 5)]) := by rw [cel_Thing hk, gs_slot (b := 0) (by decide), gs_slot (b := 1) (by decide), gs_same, gs_slot (b := 3) (by decide), gs_slot (b := 4) (by decide), gs_slot (b := 5) (by decide)]
theorem set_Thing_3 {E : En} {X : Mem} {v : Int32} {k : Nat} (hk : kd k = 2) : cel E (sI X k 3 v) k = .inr (3, [.int (gI X k 0), .int (gI X k 1), .int (gI X k 2), .int v, .int (gI X k 4), .int (gI X k 5)]) := by rw [cel_Thing hk, gs_slot (b := 0) (by decide), gs_slot (b := 1) (by decide), gs_slot (b := 2) (by decide), gs_same, gs_slot (b := 4) (by decide), gs_slot (b := 5) (by decide)]
theorem set_Thing_4 {E : En} {X : Mem} {v : Int32} {k : Nat} (hk : kd k = 2) : cel E (sI X k 4 v) k = .inr (3, [.int (gI X k 0), .int (gI X k 1), .int (gI X k 2), .int (gI X k 3), .int v, .int (gI X k 5)]) := by rw [cel_Thing hk, gs_slot (b := 0) (by decide), gs_slot (b := 1) (by decide), gs_slot (b := 2) (by decide), gs_slot (b := 3) (by decide), gs_same, gs_slot (b := 5) (by decide)]
theorem set_Thing_5 {E : En} {X : Mem} {v : Int32} {k : Nat} (hk : kd k = 2) : cel E (sI X k 5 v) k = .inr (3, [.int (gI X k 0), .int (gI X k 1), .int (gI X k 2), .int (gI X k 3), .int (gI X k 4), .int v]) := by rw [cel_Thing hk, gs_slot (b := 0) (by decide), gs_slot (b := 1) (by decide), gs_slot (b := 2) (by decide), gs_slot (b := 3) (by decide), gs_slot (b := 4) (by decide), gs_same]
theorem set_Way_0 {E : En} {X : Mem} {v : Int32} {k : Nat} (hk : kd k = 3) : cel E (sI X k 0 v) k = .inr (4, [.int v, .int (gI X k 1), .int (gI X k 2), .int (gI X k 3), .int (gI X k 4)]) := by rw [cel_Way hk, gs_same, gs_slot (b := 1) (by decide), gs_slot (b := 2) (by decide), gs_slot (b := 3) (by decide), gs_slot (b := 4) (by decide)]
theorem set_Way_1 {E : En} {X : Mem} {v : Int32} {k : Nat} (hk : kd k = 3) : cel E (sI X k 1 v) k = .inr (4, [.int (gI X k 0), .int v, .int (gI X k 2), .int (gI X k 3), .int (gI X k 4)]) := by rw [cel_Way hk, gs_slot (b := 0) (by decide), gs_same, gs_slot (b := 2) (by decide), gs_slot (b := 3) (by decide), gs_slot (b := 4) (by decide)]
theorem set_Way_2 {E : En} {X : Mem} {v : Int32} {k : Nat} (hk : kd k = 3) : cel E (sI X k 2 v) k = .inr (4, [.int (gI X k 0), .int (gI X k 1), .int v, .int (gI X k 3), .int (gI X k 4)]) := by rw [cel_Way hk, gs_slot (b := 0) (by decide), gs_slot (b := 1) (by decide), gs_same, gs_slot (b := 3) (by decide), gs_slot (b := 4) (by decide)]
theorem set_Way_3 {E : En} {X : Mem} {v : Int32} {k : Nat} (hk : kd k = 3) : cel E (sI X k 3 v) k = .inr (4, [.int (gI X k 0), .int (gI X k 1), .int (gI X k 2), .int v, .int (gI X k 4)]) := by rw [cel_Way hk, gs_slot (b := 0) (by decide), gs_slot (b := 1) (by decide), gs_slot (b := 2) (by decide), gs_same, gs_slot (b := 4) (by decide)]
theorem set_Way_4 {E : En} {X : Mem} {v : Int32} {k : Nat} (hk : kd k = 3) : cel E (sI X k 4 v) k = .inr (4, [.int (gI X k 0), .int (gI X k 1), .int (gI X k 2), .int (gI X k 3), .int v]) := by rw [cel_Way hk, gs_slot (b := 0) (by decide), gs_slot (b := 1) (by decide), gs_slot (b := 2) (by decide), gs_slot (b := 3) (by decide), gs_same]
theorem set_Tide_11 {E : En} {X : Mem} {v : Int32} : cel E (sI X 0 11 v) 0 = .inr (5, [.ref (ad E 1), .ref (ad E 2), .ref (ad E 16), .ref (ad E 30), .ref (ad E 44), .ref (ad E 46), .ref (ad E 47), .ref (ad E 48), .ref (ad E 49), .ref (ad E 50), .ref (ad E 51), .int v]) := by rw [cel_Tide, gs_same]
theorem set_Model_4 {E : En} {X : Mem} {v : Int32} : cel E (sI X 70 4 v) 70 = .inr (6, [.ref (ad E 71), .ref (ad E 72), .ref (ad E 73), .ref (ad E 74), .int v, .ref (ad E 75), .ref (ad E 76), .int (gI X 70 7), .ref (ad E 77), .ref (ad E 78), .ref (ad E 79), .int (gI X 70 11), .int (gI X 70 12), .int (gI X 70 13), .int (gI X 70 14), .int (gI X 70 15)]) := by rw [cel_Model, gs_same, gs_slot (b := 7) (by decide), gs_slot (b := 11) (by decide), gs_slot (b := 12) (by decide), gs_slot (b := 13) (by decide), gs_slot (b := 14) (by decide), gs_slot (b := 15) (by decide)]
theorem set_Model_7 {E : En} {X : Mem} {v : Int32} : cel E (sI X 70 7 v) 70 = .inr (6, [.ref (ad E 71), .ref (ad E 72), .ref (ad E 73), .ref (ad E 74), .int (gI X 70 4), .ref (ad E 75), .ref (ad E 76), .int v, .ref (ad E 77), .ref (ad E 78), .ref (ad E 79), .int (gI X 70 11), .int (gI X 70 12), .int (gI X 70 13), .int (gI X 70 14), .int (gI X 70 15)]) := by rw [cel_Model, gs_slot (b := 4) (by decide), gs_same, gs_slot (b := 11) (by decide), gs_slot (b := 12) (by decide), gs_slot (b := 13) (by decide), gs_slot (b := 14) (by decide), gs_slot (b := 15) (by decide)]
theorem set_Model_11 {E : En} {X : Mem} {v : Int32} : cel E (sI X 70 11 v) 70 = .inr (6, [.ref (ad E 71), .ref (ad E 72), .ref (ad E 73), .ref (ad E 74), .int (gI X 70 4), .ref (ad E 75), .ref (ad E 76), .int (gI X 70 7), .ref (ad E 77), .ref (ad E 78), .ref (ad E 79), .int v, .int (gI X 70 12), .int (gI X 70 13), .int (gI X 70 14), .int (gI X 70 15)]) := by rw [cel_Model, gs_slot (b := 4) (by decide), gs_slot (b := 7) (by decide), gs_same, gs_slot (b := 12) (by decide), gs_slot (b := 13) (by decide), gs_slot (b := 14) (by decide), gs_slot (b := 15) (by decide)]
theorem set_Model_12 {E : En} {X : Mem} {v : Int32} : cel E (sI X 70 12 v) 70 = .inr (6, [.ref (ad E 71), .ref (ad E 72), .ref (ad E 73), .ref (ad E 74), .int (gI X 70 4), .ref (ad E 75), .ref (ad E 76), .int (gI X 70 7), .ref (ad E 77), .ref (ad E 78), .ref (ad E 79), .int (gI X 70 11), .int v, .int (gI X 70 13), .int (gI X 70 14), .int (gI X 70 15)]) := by rw [cel_Model, gs_slot (b := 4) (by decide), gs_slot (b := 7) (by decide), gs_slot (b := 11) (by decide), gs_same, gs_slot (b := 13) (by decide), gs_slot (b := 14) (by decide), gs_slot (b := 15) (by decide)]
theorem set_Model_13 {E : En} {X : Mem} {v : Int32} : cel E (sI X 70 13 v) 70 = .inr (6, [.ref (ad E 71), .ref (ad E 72), .ref (ad E 73), .ref (ad E 74), .int (gI X 70 4), .ref (ad E 75), .ref (ad E 76), .int (gI X 70 7), .ref (ad E 77), .ref (ad E 78), .ref (ad E 79), .int (gI X 70 11), .int (gI X 70 12), .int v, .int (gI X 70 14), .int (gI X 70 15)]) := by rw [cel_Model, gs_slot (b := 4) (by decide), gs_slot (b := 7) (by decide), gs_slot (b := 11) (by decide), gs_slot (b := 12) (by decide), gs_same, gs_slot (b := 14) (by decide), gs_slot (b := 15) (by decide)]
theorem set_Model_14 {E : En} {X : Mem} {v : Int32} : cel E (sI X 70 14 v) 70 = .inr (6, [.ref (ad E 71), .ref (ad E 72), .ref (ad E 73), .ref (ad E 74), .int (gI X 70 4), .ref (ad E 75), .ref (ad E 76), .int (gI X 70 7), .ref (ad E 77), .ref (ad E 78), .ref (ad E 79), .int (gI X 70 11), .int (gI X 70 12), .int (gI X 70 13), .int v, .int (gI X 70 15)]) := by rw [cel_Model, gs_slot (b := 4) (by decide), gs_slot (b := 7) (by decide), gs_slot (b := 11) (by decide), gs_slot (b := 12) (by decide), gs_slot (b := 13) (by decide), gs_same, gs_slot (b := 15) (by decide)]
theorem set_Model_15 {E : En} {X : Mem} {v : Int32} : cel E (sI X 70 15 v) 70 = .inr (6, [.ref (ad E 71), .ref (ad E 72), .ref (ad E 73), .ref (ad E 74), .int (gI X 70 4), .ref (ad E 75), .ref (ad E 76), .int (gI X 70 7), .ref (ad E 77), .ref (ad E 78), .ref (ad E 79), .int (gI X 70 11), .int (gI X 70 12), .int (gI X 70 13), .int (gI X 70 14), .int v]) := by rw [cel_Model, gs_slot (b := 4) (by decide), gs_slot (b := 7) (by decide), gs_slot (b := 11) (by decide), gs_slot (b := 12) (by decide), gs_slot (b := 13) (by decide), gs_slot (b := 14) (by decide), gs_same]
theorem cw_Sheet_init : Cond.code y_Sheet_init c_Sheet_init 1 none ∈ tb := tw_220
theorem ini_Sheet_init : Cond.initialized y_Sheet_init.cls ∈ tb := tw_69
theorem hd_Sheet_init : y_Sheet_init.cls ≠ "java/lang/invoke/MethodHandle" ∧ y_Sheet_init.cls ≠ "java/lang/invoke/VarHandle" ∧ (parseMethodDescriptor y_Sheet_init.desc).map (fun d => d.parameters.length) = some 0 := by decide +kernel
theorem ins_Sheet_init : Cond.instanceMethod y_Sheet_init ∈ tb := tw_219
theorem cw_Sheet_isMissing : Cond.code y_Sheet_isMissing c_Sheet_isMissing 1 (some .boolean) ∈ tb := tw_720
theorem ini_Sheet_isMissing : Cond.initialized y_Sheet_isMissing.cls ∈ tb := tw_69
theorem hd_Sheet_isMissing : y_Sheet_isMissing.cls ≠ "java/lang/invoke/MethodHandle" ∧ y_Sheet_isMissing.cls ≠ "java/lang/invoke/VarHandle" ∧ (parseMethodDescriptor y_Sheet_isMissing.desc).map (fun d => d.parameters.length) = some 0 := by decide +kernel
theorem ins_Sheet_isMissing : Cond.instanceMethod y_Sheet_isMissing ∈ tb := tw_718
theorem sel_Sheet_isMissing : Cond.selects R_Sheet y_Sheet_isMissing y_Sheet_isMissing ∈ tb := tw_719
theorem cw_Sheet_renew : Cond.code y_Sheet_renew c_Sheet_renew 4 none ∈ tb := tw_712
theorem ini_Sheet_renew : Cond.initialized y_Sheet_renew.cls ∈ tb := tw_69
theorem hd_Sheet_renew : y_Sheet_renew.cls ≠ "java/lang/invoke/MethodHandle" ∧ y_Sheet_renew.cls ≠ "java/lang/invoke/VarHandle" ∧ (parseMethodDescriptor y_Sheet_renew.desc).map (fun d => d.parameters.length) = some 2 := by decide +kernel
theorem ins_Sheet_renew : Cond.instanceMethod y_Sheet_renew ∈ tb := tw_710
theorem sel_Sheet_renew : Cond.selects R_Sheet y_Sheet_renew y_Sheet_renew ∈ tb := tw_711
theorem cw_Sheet_put : Cond.code y_Sheet_put c_Sheet_put 4 none ∈ tb := tw_725
theorem ini_Sheet_put : Cond.initialized y_Sheet_put.cls ∈ tb := tw_69
theorem hd_Sheet_put : y_Sheet_put.cls ≠ "java/lang/invoke/MethodHandle" ∧ y_Sheet_put.cls ≠ "java/lang/invoke/VarHandle" ∧ (parseMethodDescriptor y_Sheet_put.desc).map (fun d => d.parameters.length) = some 2 := by decide +kernel
theorem ins_Sheet_put : Cond.instanceMethod y_Sheet_put ∈ tb := tw_723
theorem sel_Sheet_put : Cond.selects R_Sheet y_Sheet_put y_Sheet_put ∈ tb := tw_724
theorem cw_Sheet_hasRun : Cond.code y_Sheet_hasRun c_Sheet_hasRun 3 (some .boolean) ∈ tb := tw_733
theorem ini_Sheet_hasRun : Cond.initialized y_Sheet_hasRun.cls ∈ tb := tw_69
theorem hd_Sheet_hasRun : y_Sheet_hasRun.cls ≠ "java/lang/invoke/MethodHandle" ∧ y_Sheet_hasRun.cls ≠ "java/lang/invoke/VarHandle" ∧ (parseMethodDescriptor y_Sheet_hasRun.desc).map (fun d => d.parameters.length) = some 2 := by decide +kernel
theorem ins_Sheet_hasRun : Cond.instanceMethod y_Sheet_hasRun ∈ tb := tw_731
theorem sel_Sheet_hasRun : Cond.selects R_Sheet y_Sheet_hasRun y_Sheet_hasRun ∈ tb := tw_732
theorem cw_Shore_init : Cond.code y_Shore_init c_Shore_init 2 none ∈ tb := tw_90
theorem ini_Shore_init : Cond.initialized y_Shore_init.cls ∈ tb := tw_65
theorem hd_Shore_init : y_Shore_init.cls ≠ "java/lang/invoke/MethodHandle" ∧ y_Shore_init.cls ≠ "java/lang/invoke/VarHandle" ∧ (parseMethodDescriptor y_Shore_init.desc).map (fun d => d.parameters.length) = some 0 := by decide +kernel
theorem ins_Shore_init : Cond.instanceMethod y_Shore_init ∈ tb := tw_89
theorem cw_Shore_become : Cond.code y_Shore_become c_Shore_become 3 none ∈ tb := tw_580
theorem ini_Shore_become : Cond.initialized y_Shore_become.cls ∈ tb := tw_65
theorem hd_Shore_become : y_Shore_become.cls ≠ "java/lang/invoke/MethodHandle" ∧ y_Shore_become.cls ≠ "java/lang/invoke/VarHandle" ∧ (parseMethodDescriptor y_Shore_become.desc).map (fun d => d.parameters.length) = some 1 := by decide +kernel
theorem ins_Shore_become : Cond.instanceMethod y_Shore_become ∈ tb := tw_578
theorem sel_Shore_become : Cond.selects R_Shore y_Shore_become y_Shore_become ∈ tb := tw_579
theorem cw_Shore_has : Cond.code y_Shore_has c_Shore_has 2 (some .boolean) ∈ tb := tw_348
theorem ini_Shore_has : Cond.initialized y_Shore_has.cls ∈ tb := tw_65
theorem hd_Shore_has : y_Shore_has.cls ≠ "java/lang/invoke/MethodHandle" ∧ y_Shore_has.cls ≠ "java/lang/invoke/VarHandle" ∧ (parseMethodDescriptor y_Shore_has.desc).map (fun d => d.parameters.length) = some 1 := by decide +kernel
theorem ins_Shore_has : Cond.instanceMethod y_Shore_has ∈ tb := tw_346
theorem sel_Shore_has : Cond.selects R_Shore y_Shore_has y_Shore_has ∈ tb := tw_347
theorem cw_Shore_isFull : Cond.code y_Shore_isFull c_Shore_isFull 1 (some .boolean) ∈ tb := tw_330
theorem ini_Shore_isFull : Cond.initialized y_Shore_isFull.cls ∈ tb := tw_65
theorem hd_Shore_isFull : y_Shore_isFull.cls ≠ "java/lang/invoke/MethodHandle" ∧ y_Shore_isFull.cls ≠ "java/lang/invoke/VarHandle" ∧ (parseMethodDescriptor y_Shore_isFull.desc).map (fun d => d.parameters.length) = some 0 := by decide +kernel
theorem ins_Shore_isFull : Cond.instanceMethod y_Shore_isFull ∈ tb := tw_328
theorem sel_Shore_isFull : Cond.selects R_Shore y_Shore_isFull y_Shore_isFull ∈ tb := tw_329
theorem cw_Shore_add : Cond.code y_Shore_add c_Shore_add 3 (some .int) ∈ tb := tw_335
theorem ini_Shore_add : Cond.initialized y_Shore_add.cls ∈ tb := tw_65
theorem hd_Shore_add : y_Shore_add.cls ≠ "java/lang/invoke/MethodHandle" ∧ y_Shore_add.cls ≠ "java/lang/invoke/VarHandle" ∧ (parseMethodDescriptor y_Shore_add.desc).map (fun d => d.parameters.length) = some 2 := by decide +kernel
theorem ins_Shore_add : Cond.instanceMethod y_Shore_add ∈ tb := tw_333
theorem sel_Shore_add : Cond.selects R_Shore y_Shore_add y_Shore_add ∈ tb := tw_334
theorem cw_Shore_laidAt : Cond.code y_Shore_laidAt c_Shore_laidAt 4 (some .int) ∈ tb := tw_292
theorem ini_Shore_laidAt : Cond.initialized y_Shore_laidAt.cls ∈ tb := tw_65
theorem hd_Shore_laidAt : y_Shore_laidAt.cls ≠ "java/lang/invoke/MethodHandle" ∧ y_Shore_laidAt.cls ≠ "java/lang/invoke/VarHandle" ∧ (parseMethodDescriptor y_Shore_laidAt.desc).map (fun d => d.parameters.length) = some 1 := by decide +kernel
theorem ins_Shore_laidAt : Cond.instanceMethod y_Shore_laidAt ∈ tb := tw_290
theorem sel_Shore_laidAt : Cond.selects R_Shore y_Shore_laidAt y_Shore_laidAt ∈ tb := tw_291
theorem cw_Shore_allIn : Cond.code y_Shore_allIn c_Shore_allIn 4 (some .int) ∈ tb := tw_470
theorem ini_Shore_allIn : Cond.initialized y_Shore_allIn.cls ∈ tb := tw_65
theorem hd_Shore_allIn : y_Shore_allIn.cls ≠ "java/lang/invoke/MethodHandle" ∧ y_Shore_allIn.cls ≠ "java/lang/invoke/VarHandle" ∧ (parseMethodDescriptor y_Shore_allIn.desc).map (fun d => d.parameters.length) = some 1 := by decide +kernel
theorem ins_Shore_allIn : Cond.instanceMethod y_Shore_allIn ∈ tb := tw_468
theorem sel_Shore_allIn : Cond.selects R_Shore y_Shore_allIn y_Shore_allIn ∈ tb := tw_469
theorem cw_Shore_allWorth : Cond.code y_Shore_allWorth c_Shore_allWorth 3 (some .int) ∈ tb := tw_478
theorem ini_Shore_allWorth : Cond.initialized y_Shore_allWorth.cls ∈ tb := tw_65
theorem hd_Shore_allWorth : y_Shore_allWorth.cls ≠ "java/lang/invoke/MethodHandle" ∧ y_Shore_allWorth.cls ≠ "java/lang/invoke/VarHandle" ∧ (parseMethodDescriptor y_Shore_allWorth.desc).map (fun d => d.parameters.length) = some 0 := by decide +kernel
theorem ins_Shore_allWorth : Cond.instanceMethod y_Shore_allWorth ∈ tb := tw_476
theorem sel_Shore_allWorth : Cond.selects R_Shore y_Shore_allWorth y_Shore_allWorth ∈ tb := tw_477
theorem cw_Shore_allHeights : Cond.code y_Shore_allHeights c_Shore_allHeights 3 (some .int) ∈ tb := tw_783
theorem ini_Shore_allHeights : Cond.initialized y_Shore_allHeights.cls ∈ tb := tw_65
theorem hd_Shore_allHeights : y_Shore_allHeights.cls ≠ "java/lang/invoke/MethodHandle" ∧ y_Shore_allHeights.cls ≠ "java/lang/invoke/VarHandle" ∧ (parseMethodDescriptor y_Shore_allHeights.desc).map (fun d => d.parameters.length) = some 0 := by decide +kernel
theorem ins_Shore_allHeights : Cond.instanceMethod y_Shore_allHeights ∈ tb := tw_781
theorem sel_Shore_allHeights : Cond.selects R_Shore y_Shore_allHeights y_Shore_allHeights ∈ tb := tw_782
theorem cw_Shore_cellsBelow : Cond.code y_Shore_cellsBelow c_Shore_cellsBelow 4 (some .int) ∈ tb := tw_317
theorem ini_Shore_cellsBelow : Cond.initialized y_Shore_cellsBelow.cls ∈ tb := tw_65
theorem hd_Shore_cellsBelow : y_Shore_cellsBelow.cls ≠ "java/lang/invoke/MethodHandle" ∧ y_Shore_cellsBelow.cls ≠ "java/lang/invoke/VarHandle" ∧ (parseMethodDescriptor y_Shore_cellsBelow.desc).map (fun d => d.parameters.length) = some 1 := by decide +kernel
theorem ins_Shore_cellsBelow : Cond.instanceMethod y_Shore_cellsBelow ∈ tb := tw_315
theorem sel_Shore_cellsBelow : Cond.selects R_Shore y_Shore_cellsBelow y_Shore_cellsBelow ∈ tb := tw_316
theorem cw_Shore_allPurses : Cond.code y_Shore_allPurses c_Shore_allPurses 4 (some .long) ∈ tb := tw_462
theorem ini_Shore_allPurses : Cond.initialized y_Shore_allPurses.cls ∈ tb := tw_65
theorem hd_Shore_allPurses : y_Shore_allPurses.cls ≠ "java/lang/invoke/MethodHandle" ∧ y_Shore_allPurses.cls ≠ "java/lang/invoke/VarHandle" ∧ (parseMethodDescriptor y_Shore_allPurses.desc).map (fun d => d.parameters.length) = some 0 := by decide +kernel
theorem ins_Shore_allPurses : Cond.instanceMethod y_Shore_allPurses ∈ tb := tw_460
theorem sel_Shore_allPurses : Cond.selects R_Shore y_Shore_allPurses y_Shore_allPurses ∈ tb := tw_461
theorem cw_Tape_init : Cond.code y_Tape_init c_Tape_init 1 none ∈ tb := tw_160
theorem ini_Tape_init : Cond.initialized y_Tape_init.cls ∈ tb := tw_67
theorem hd_Tape_init : y_Tape_init.cls ≠ "java/lang/invoke/MethodHandle" ∧ y_Tape_init.cls ≠ "java/lang/invoke/VarHandle" ∧ (parseMethodDescriptor y_Tape_init.desc).map (fun d => d.parameters.length) = some 0 := by decide +kernel
theorem ins_Tape_init : Cond.instanceMethod y_Tape_init ∈ tb := tw_159
theorem cw_Tape_put : Cond.code y_Tape_put c_Tape_put 2 none ∈ tb := tw_568
theorem ini_Tape_put : Cond.initialized y_Tape_put.cls ∈ tb := tw_67
theorem hd_Tape_put : y_Tape_put.cls ≠ "java/lang/invoke/MethodHandle" ∧ y_Tape_put.cls ≠ "java/lang/invoke/VarHandle" ∧ (parseMethodDescriptor y_Tape_put.desc).map (fun d => d.parameters.length) = some 1 := by decide +kernel
theorem ins_Tape_put : Cond.instanceMethod y_Tape_put ∈ tb := tw_566
theorem sel_Tape_put : Cond.selects R_Tape y_Tape_put y_Tape_put ∈ tb := tw_567
theorem cw_Tape_rewind : Cond.code y_Tape_rewind c_Tape_rewind 1 none ∈ tb := tw_592
theorem ini_Tape_rewind : Cond.initialized y_Tape_rewind.cls ∈ tb := tw_67
theorem hd_Tape_rewind : y_Tape_rewind.cls ≠ "java/lang/invoke/MethodHandle" ∧ y_Tape_rewind.cls ≠ "java/lang/invoke/VarHandle" ∧ (parseMethodDescriptor y_Tape_rewind.desc).map (fun d => d.parameters.length) = some 0 := by decide +kernel
theorem ins_Tape_rewind : Cond.instanceMethod y_Tape_rewind ∈ tb := tw_590
theorem sel_Tape_rewind : Cond.selects R_Tape y_Tape_rewind y_Tape_rewind ∈ tb := tw_591
theorem cw_Tape_step : Cond.code y_Tape_step c_Tape_step 1 none ∈ tb := tw_596
theorem ini_Tape_step : Cond.initialized y_Tape_step.cls ∈ tb := tw_67
theorem hd_Tape_step : y_Tape_step.cls ≠ "java/lang/invoke/MethodHandle" ∧ y_Tape_step.cls ≠ "java/lang/invoke/VarHandle" ∧ (parseMethodDescriptor y_Tape_step.desc).map (fun d => d.parameters.length) = some 0 := by decide +kernel
theorem ins_Tape_step : Cond.instanceMethod y_Tape_step ∈ tb := tw_594
theorem sel_Tape_step : Cond.selects R_Tape y_Tape_step y_Tape_step ∈ tb := tw_595
theorem cw_Tape_tokenOf : Cond.code y_Tape_tokenOf c_Tape_tokenOf 1 (some .int) ∈ tb := tw_599
theorem ini_Tape_tokenOf : Cond.initialized y_Tape_tokenOf.cls ∈ tb := tw_67
theorem hd_Tape_tokenOf : y_Tape_tokenOf.cls ≠ "java/lang/invoke/MethodHandle" ∧ y_Tape_tokenOf.cls ≠ "java/lang/invoke/VarHandle" ∧ (parseMethodDescriptor y_Tape_tokenOf.desc).map (fun d => d.parameters.length) = some 1 := by decide +kernel
theorem sta_Tape_tokenOf : Cond.static y_Tape_tokenOf ∈ tb := tw_598
theorem cw_Tape_isNumberTo : Cond.code y_Tape_isNumberTo c_Tape_isNumberTo 3 (some .boolean) ∈ tb := tw_679
theorem ini_Tape_isNumberTo : Cond.initialized y_Tape_isNumberTo.cls ∈ tb := tw_67
theorem hd_Tape_isNumberTo : y_Tape_isNumberTo.cls ≠ "java/lang/invoke/MethodHandle" ∧ y_Tape_isNumberTo.cls ≠ "java/lang/invoke/VarHandle" ∧ (parseMethodDescriptor y_Tape_isNumberTo.desc).map (fun d => d.parameters.length) = some 1 := by decide +kernel
theorem ins_Tape_isNumberTo : Cond.instanceMethod y_Tape_isNumberTo ∈ tb := tw_677
theorem sel_Tape_isNumberTo : Cond.selects R_Tape y_Tape_isNumberTo y_Tape_isNumberTo ∈ tb := tw_678
theorem cw_Tape_isWord : Cond.code y_Tape_isWord c_Tape_isWord 3 (some .boolean) ∈ tb := tw_620
theorem ini_Tape_isWord : Cond.initialized y_Tape_isWord.cls ∈ tb := tw_67
theorem hd_Tape_isWord : y_Tape_isWord.cls ≠ "java/lang/invoke/MethodHandle" ∧ y_Tape_isWord.cls ≠ "java/lang/invoke/VarHandle" ∧ (parseMethodDescriptor y_Tape_isWord.desc).map (fun d => d.parameters.length) = some 1 := by decide +kernel
theorem ins_Tape_isWord : Cond.instanceMethod y_Tape_isWord ∈ tb := tw_618
theorem sel_Tape_isWord : Cond.selects R_Tape y_Tape_isWord y_Tape_isWord ∈ tb := tw_619
theorem cw_Tape_kindNamed : Cond.code y_Tape_kindNamed c_Tape_kindNamed 2 (some .int) ∈ tb := tw_607
theorem ini_Tape_kindNamed : Cond.initialized y_Tape_kindNamed.cls ∈ tb := tw_67
theorem hd_Tape_kindNamed : y_Tape_kindNamed.cls ≠ "java/lang/invoke/MethodHandle" ∧ y_Tape_kindNamed.cls ≠ "java/lang/invoke/VarHandle" ∧ (parseMethodDescriptor y_Tape_kindNamed.desc).map (fun d => d.parameters.length) = some 0 := by decide +kernel
theorem ins_Tape_kindNamed : Cond.instanceMethod y_Tape_kindNamed ∈ tb := tw_605
theorem sel_Tape_kindNamed : Cond.selects R_Tape y_Tape_kindNamed y_Tape_kindNamed ∈ tb := tw_606
theorem cw_Tape_nameOf : Cond.code y_Tape_nameOf c_Tape_nameOf 1 (some (.object "java/lang/String")) ∈ tb := tw_610
theorem ini_Tape_nameOf : Cond.initialized y_Tape_nameOf.cls ∈ tb := tw_67
theorem hd_Tape_nameOf : y_Tape_nameOf.cls ≠ "java/lang/invoke/MethodHandle" ∧ y_Tape_nameOf.cls ≠ "java/lang/invoke/VarHandle" ∧ (parseMethodDescriptor y_Tape_nameOf.desc).map (fun d => d.parameters.length) = some 1 := by decide +kernel
theorem sta_Tape_nameOf : Cond.static y_Tape_nameOf ∈ tb := tw_609
theorem cw_Thing_init : Cond.code y_Thing_init c_Thing_init 1 none ∈ tb := tw_97
theorem ini_Thing_init : Cond.initialized y_Thing_init.cls ∈ tb := tw_66
theorem hd_Thing_init : y_Thing_init.cls ≠ "java/lang/invoke/MethodHandle" ∧ y_Thing_init.cls ≠ "java/lang/invoke/VarHandle" ∧ (parseMethodDescriptor y_Thing_init.desc).map (fun d => d.parameters.length) = some 0 := by decide +kernel
theorem ins_Thing_init : Cond.instanceMethod y_Thing_init ∈ tb := tw_96
theorem cw_Thing_begin : Cond.code y_Thing_begin c_Thing_begin 3 none ∈ tb := tw_340
theorem ini_Thing_begin : Cond.initialized y_Thing_begin.cls ∈ tb := tw_66
theorem hd_Thing_begin : y_Thing_begin.cls ≠ "java/lang/invoke/MethodHandle" ∧ y_Thing_begin.cls ≠ "java/lang/invoke/VarHandle" ∧ (parseMethodDescriptor y_Thing_begin.desc).map (fun d => d.parameters.length) = some 2 := by decide +kernel
theorem ins_Thing_begin : Cond.instanceMethod y_Thing_begin ∈ tb := tw_338
theorem sel_Thing_begin : Cond.selects R_Thing y_Thing_begin y_Thing_begin ∈ tb := tw_339
theorem cw_Thing_layAt : Cond.code y_Thing_layAt c_Thing_layAt 2 none ∈ tb := tw_398
theorem ini_Thing_layAt : Cond.initialized y_Thing_layAt.cls ∈ tb := tw_66
theorem hd_Thing_layAt : y_Thing_layAt.cls ≠ "java/lang/invoke/MethodHandle" ∧ y_Thing_layAt.cls ≠ "java/lang/invoke/VarHandle" ∧ (parseMethodDescriptor y_Thing_layAt.desc).map (fun d => d.parameters.length) = some 1 := by decide +kernel
theorem ins_Thing_layAt : Cond.instanceMethod y_Thing_layAt ∈ tb := tw_396
theorem sel_Thing_layAt : Cond.selects R_Thing y_Thing_layAt y_Thing_layAt ∈ tb := tw_397
theorem cw_Thing_become : Cond.code y_Thing_become c_Thing_become 2 none ∈ tb := tw_512
theorem ini_Thing_become : Cond.initialized y_Thing_become.cls ∈ tb := tw_66
theorem hd_Thing_become : y_Thing_become.cls ≠ "java/lang/invoke/MethodHandle" ∧ y_Thing_become.cls ≠ "java/lang/invoke/VarHandle" ∧ (parseMethodDescriptor y_Thing_become.desc).map (fun d => d.parameters.length) = some 1 := by decide +kernel
theorem ins_Thing_become : Cond.instanceMethod y_Thing_become ∈ tb := tw_510
theorem sel_Thing_become : Cond.selects R_Thing y_Thing_become y_Thing_become ∈ tb := tw_511
theorem cw_Way_init : Cond.code y_Way_init c_Way_init 1 none ∈ tb := tw_195
theorem ini_Way_init : Cond.initialized y_Way_init.cls ∈ tb := tw_68
theorem hd_Way_init : y_Way_init.cls ≠ "java/lang/invoke/MethodHandle" ∧ y_Way_init.cls ≠ "java/lang/invoke/VarHandle" ∧ (parseMethodDescriptor y_Way_init.desc).map (fun d => d.parameters.length) = some 0 := by decide +kernel
theorem ins_Way_init : Cond.instanceMethod y_Way_init ∈ tb := tw_194
theorem cw_Way_follow : Cond.code y_Way_follow c_Way_follow 5 none ∈ tb := tw_424
theorem ini_Way_follow : Cond.initialized y_Way_follow.cls ∈ tb := tw_68
theorem hd_Way_follow : y_Way_follow.cls ≠ "java/lang/invoke/MethodHandle" ∧ y_Way_follow.cls ≠ "java/lang/invoke/VarHandle" ∧ (parseMethodDescriptor y_Way_follow.desc).map (fun d => d.parameters.length) = some 4 := by decide +kernel
theorem ins_Way_follow : Cond.instanceMethod y_Way_follow ∈ tb := tw_422
theorem sel_Way_follow : Cond.selects R_Way y_Way_follow y_Way_follow ∈ tb := tw_423
theorem cw_Way_waitForTide : Cond.code y_Way_waitForTide c_Way_waitForTide 6 none ∈ tb := tw_428
theorem ini_Way_waitForTide : Cond.initialized y_Way_waitForTide.cls ∈ tb := tw_68
theorem hd_Way_waitForTide : y_Way_waitForTide.cls ≠ "java/lang/invoke/MethodHandle" ∧ y_Way_waitForTide.cls ≠ "java/lang/invoke/VarHandle" ∧ (parseMethodDescriptor y_Way_waitForTide.desc).map (fun d => d.parameters.length) = some 4 := by decide +kernel
theorem ins_Way_waitForTide : Cond.instanceMethod y_Way_waitForTide ∈ tb := tw_427
theorem sel_Way_waitForTide : Cond.selects R_Way y_Way_waitForTide y_Way_waitForTide ∈ tb := tw_4
theorem cw_Way_waitForSpring : Cond.code y_Way_waitForSpring c_Way_waitForSpring 5 none ∈ tb := tw_436
theorem ini_Way_waitForSpring : Cond.initialized y_Way_waitForSpring.cls ∈ tb := tw_68
theorem hd_Way_waitForSpring : y_Way_waitForSpring.cls ≠ "java/lang/invoke/MethodHandle" ∧ y_Way_waitForSpring.cls ≠ "java/lang/invoke/VarHandle" ∧ (parseMethodDescriptor y_Way_waitForSpring.desc).map (fun d => d.parameters.length) = some 3 := by decide +kernel
theorem ins_Way_waitForSpring : Cond.instanceMethod y_Way_waitForSpring ∈ tb := tw_435
theorem sel_Way_waitForSpring : Cond.selects R_Way y_Way_waitForSpring y_Way_waitForSpring ∈ tb := tw_5
theorem cw_Way_brings : Cond.code y_Way_brings c_Way_brings 3 (some .int) ∈ tb := tw_451
theorem ini_Way_brings : Cond.initialized y_Way_brings.cls ∈ tb := tw_68
theorem hd_Way_brings : y_Way_brings.cls ≠ "java/lang/invoke/MethodHandle" ∧ y_Way_brings.cls ≠ "java/lang/invoke/VarHandle" ∧ (parseMethodDescriptor y_Way_brings.desc).map (fun d => d.parameters.length) = some 2 := by decide +kernel
theorem ins_Way_brings : Cond.instanceMethod y_Way_brings ∈ tb := tw_449
theorem sel_Way_brings : Cond.selects R_Way y_Way_brings y_Way_brings ∈ tb := tw_450
theorem cw_Tide_init : Cond.code y_Tide_init c_Tide_init 2 none ∈ tb := tw_82
theorem ini_Tide_init : Cond.initialized y_Tide_init.cls ∈ tb := tw_64
theorem hd_Tide_init : y_Tide_init.cls ≠ "java/lang/invoke/MethodHandle" ∧ y_Tide_init.cls ≠ "java/lang/invoke/VarHandle" ∧ (parseMethodDescriptor y_Tide_init.desc).map (fun d => d.parameters.length) = some 0 := by decide +kernel
theorem ins_Tide_init : Cond.instanceMethod y_Tide_init ∈ tb := tw_81
theorem cw_Tide_height : Cond.code y_Tide_height c_Tide_height 4 (some .int) ∈ tb := tw_276
theorem ini_Tide_height : Cond.initialized y_Tide_height.cls ∈ tb := tw_64
theorem hd_Tide_height : y_Tide_height.cls ≠ "java/lang/invoke/MethodHandle" ∧ y_Tide_height.cls ≠ "java/lang/invoke/VarHandle" ∧ (parseMethodDescriptor y_Tide_height.desc).map (fun d => d.parameters.length) = some 2 := by decide +kernel
theorem ins_Tide_height : Cond.instanceMethod y_Tide_height ∈ tb := tw_274
theorem sel_Tide_height : Cond.selects R_Tide y_Tide_height y_Tide_height ∈ tb := tw_275
theorem cw_Tide_cell : Cond.code y_Tide_cell c_Tide_cell 3 (some .int) ∈ tb := tw_288
theorem ini_Tide_cell : Cond.initialized y_Tide_cell.cls ∈ tb := tw_64
theorem hd_Tide_cell : y_Tide_cell.cls ≠ "java/lang/invoke/MethodHandle" ∧ y_Tide_cell.cls ≠ "java/lang/invoke/VarHandle" ∧ (parseMethodDescriptor y_Tide_cell.desc).map (fun d => d.parameters.length) = some 2 := by decide +kernel
theorem ins_Tide_cell : Cond.instanceMethod y_Tide_cell ∈ tb := tw_286
theorem sel_Tide_cell : Cond.selects R_Tide y_Tide_cell y_Tide_cell ∈ tb := tw_287
theorem cw_Tide_interest : Cond.code y_Tide_interest c_Tide_interest 3 (some .int) ∈ tb := tw_296
theorem ini_Tide_interest : Cond.initialized y_Tide_interest.cls ∈ tb := tw_64
theorem hd_Tide_interest : y_Tide_interest.cls ≠ "java/lang/invoke/MethodHandle" ∧ y_Tide_interest.cls ≠ "java/lang/invoke/VarHandle" ∧ (parseMethodDescriptor y_Tide_interest.desc).map (fun d => d.parameters.length) = some 1 := by decide +kernel
theorem ins_Tide_interest : Cond.instanceMethod y_Tide_interest ∈ tb := tw_294
theorem sel_Tide_interest : Cond.selects R_Tide y_Tide_interest y_Tide_interest ∈ tb := tw_295
theorem cw_Tide_tide : Cond.code y_Tide_tide c_Tide_tide 3 (some .int) ∈ tb := tw_303
theorem ini_Tide_tide : Cond.initialized y_Tide_tide.cls ∈ tb := tw_64
theorem hd_Tide_tide : y_Tide_tide.cls ≠ "java/lang/invoke/MethodHandle" ∧ y_Tide_tide.cls ≠ "java/lang/invoke/VarHandle" ∧ (parseMethodDescriptor y_Tide_tide.desc).map (fun d => d.parameters.length) = some 2 := by decide +kernel
theorem ins_Tide_tide : Cond.instanceMethod y_Tide_tide ∈ tb := tw_301
theorem sel_Tide_tide : Cond.selects R_Tide y_Tide_tide y_Tide_tide ∈ tb := tw_302
theorem cw_Tide_purse : Cond.code y_Tide_purse c_Tide_purse 4 (some .int) ∈ tb := tw_321
theorem ini_Tide_purse : Cond.initialized y_Tide_purse.cls ∈ tb := tw_64
theorem hd_Tide_purse : y_Tide_purse.cls ≠ "java/lang/invoke/MethodHandle" ∧ y_Tide_purse.cls ≠ "java/lang/invoke/VarHandle" ∧ (parseMethodDescriptor y_Tide_purse.desc).map (fun d => d.parameters.length) = some 2 := by decide +kernel
theorem ins_Tide_purse : Cond.instanceMethod y_Tide_purse ∈ tb := tw_319
theorem sel_Tide_purse : Cond.selects R_Tide y_Tide_purse y_Tide_purse ∈ tb := tw_320
theorem cw_Tide_thing : Cond.code y_Tide_thing c_Tide_thing 3 (some .int) ∈ tb := tw_326
theorem ini_Tide_thing : Cond.initialized y_Tide_thing.cls ∈ tb := tw_64
theorem hd_Tide_thing : y_Tide_thing.cls ≠ "java/lang/invoke/MethodHandle" ∧ y_Tide_thing.cls ≠ "java/lang/invoke/VarHandle" ∧ (parseMethodDescriptor y_Tide_thing.desc).map (fun d => d.parameters.length) = some 2 := by decide +kernel
theorem ins_Tide_thing : Cond.instanceMethod y_Tide_thing ∈ tb := tw_324
theorem sel_Tide_thing : Cond.selects R_Tide y_Tide_thing y_Tide_thing ∈ tb := tw_325
theorem cw_Tide_of : Cond.code y_Tide_of c_Tide_of 4 (some .int) ∈ tb := tw_344
theorem ini_Tide_of : Cond.initialized y_Tide_of.cls ∈ tb := tw_64
theorem hd_Tide_of : y_Tide_of.cls ≠ "java/lang/invoke/MethodHandle" ∧ y_Tide_of.cls ≠ "java/lang/invoke/VarHandle" ∧ (parseMethodDescriptor y_Tide_of.desc).map (fun d => d.parameters.length) = some 2 := by decide +kernel
theorem ins_Tide_of : Cond.instanceMethod y_Tide_of ∈ tb := tw_342
theorem sel_Tide_of : Cond.selects R_Tide y_Tide_of y_Tide_of ∈ tb := tw_343
theorem cw_Tide_set : Cond.code y_Tide_set c_Tide_set 6 (some .int) ∈ tb := tw_374
theorem ini_Tide_set : Cond.initialized y_Tide_set.cls ∈ tb := tw_64
theorem hd_Tide_set : y_Tide_set.cls ≠ "java/lang/invoke/MethodHandle" ∧ y_Tide_set.cls ≠ "java/lang/invoke/VarHandle" ∧ (parseMethodDescriptor y_Tide_set.desc).map (fun d => d.parameters.length) = some 3 := by decide +kernel
theorem ins_Tide_set : Cond.instanceMethod y_Tide_set ∈ tb := tw_372
theorem sel_Tide_set : Cond.selects R_Tide y_Tide_set y_Tide_set ∈ tb := tw_373
theorem cw_Tide_turn : Cond.code y_Tide_turn c_Tide_turn 5 (some .int) ∈ tb := tw_378
theorem ini_Tide_turn : Cond.initialized y_Tide_turn.cls ∈ tb := tw_64
theorem hd_Tide_turn : y_Tide_turn.cls ≠ "java/lang/invoke/MethodHandle" ∧ y_Tide_turn.cls ≠ "java/lang/invoke/VarHandle" ∧ (parseMethodDescriptor y_Tide_turn.desc).map (fun d => d.parameters.length) = some 2 := by decide +kernel
theorem ins_Tide_turn : Cond.instanceMethod y_Tide_turn ∈ tb := tw_376
theorem sel_Tide_turn : Cond.selects R_Tide y_Tide_turn y_Tide_turn ∈ tb := tw_377
theorem cw_Tide_as : Cond.code y_Tide_as c_Tide_as 4 (some .int) ∈ tb := tw_382
theorem ini_Tide_as : Cond.initialized y_Tide_as.cls ∈ tb := tw_64
theorem hd_Tide_as : y_Tide_as.cls ≠ "java/lang/invoke/MethodHandle" ∧ y_Tide_as.cls ≠ "java/lang/invoke/VarHandle" ∧ (parseMethodDescriptor y_Tide_as.desc).map (fun d => d.parameters.length) = some 2 := by decide +kernel
theorem ins_Tide_as : Cond.instanceMethod y_Tide_as ∈ tb := tw_380
theorem sel_Tide_as : Cond.selects R_Tide y_Tide_as y_Tide_as ∈ tb := tw_381
theorem cw_Tide_lay : Cond.code y_Tide_lay c_Tide_lay 4 (some .int) ∈ tb := tw_393
theorem ini_Tide_lay : Cond.initialized y_Tide_lay.cls ∈ tb := tw_64
theorem hd_Tide_lay : y_Tide_lay.cls ≠ "java/lang/invoke/MethodHandle" ∧ y_Tide_lay.cls ≠ "java/lang/invoke/VarHandle" ∧ (parseMethodDescriptor y_Tide_lay.desc).map (fun d => d.parameters.length) = some 2 := by decide +kernel
theorem ins_Tide_lay : Cond.instanceMethod y_Tide_lay ∈ tb := tw_391
theorem sel_Tide_lay : Cond.selects R_Tide y_Tide_lay y_Tide_lay ∈ tb := tw_392
theorem cw_Tide_fetch : Cond.code y_Tide_fetch c_Tide_fetch 3 (some .int) ∈ tb := tw_408
theorem ini_Tide_fetch : Cond.initialized y_Tide_fetch.cls ∈ tb := tw_64
theorem hd_Tide_fetch : y_Tide_fetch.cls ≠ "java/lang/invoke/MethodHandle" ∧ y_Tide_fetch.cls ≠ "java/lang/invoke/VarHandle" ∧ (parseMethodDescriptor y_Tide_fetch.desc).map (fun d => d.parameters.length) = some 1 := by decide +kernel
theorem ins_Tide_fetch : Cond.instanceMethod y_Tide_fetch ∈ tb := tw_406
theorem sel_Tide_fetch : Cond.selects R_Tide y_Tide_fetch y_Tide_fetch ∈ tb := tw_407
theorem cw_Tide_days : Cond.code y_Tide_days c_Tide_days 3 (some .long) ∈ tb := tw_412
theorem ini_Tide_days : Cond.initialized y_Tide_days.cls ∈ tb := tw_64
theorem hd_Tide_days : y_Tide_days.cls ≠ "java/lang/invoke/MethodHandle" ∧ y_Tide_days.cls ≠ "java/lang/invoke/VarHandle" ∧ (parseMethodDescriptor y_Tide_days.desc).map (fun d => d.parameters.length) = some 1 := by decide +kernel
theorem ins_Tide_days : Cond.instanceMethod y_Tide_days ∈ tb := tw_410
theorem sel_Tide_days : Cond.selects R_Tide y_Tide_days y_Tide_days ∈ tb := tw_411
theorem cw_Tide_now : Cond.code y_Tide_now c_Tide_now 2 (some .int) ∈ tb := tw_466
theorem ini_Tide_now : Cond.initialized y_Tide_now.cls ∈ tb := tw_64
theorem hd_Tide_now : y_Tide_now.cls ≠ "java/lang/invoke/MethodHandle" ∧ y_Tide_now.cls ≠ "java/lang/invoke/VarHandle" ∧ (parseMethodDescriptor y_Tide_now.desc).map (fun d => d.parameters.length) = some 1 := by decide +kernel
theorem ins_Tide_now : Cond.instanceMethod y_Tide_now ∈ tb := tw_464
theorem sel_Tide_now : Cond.selects R_Tide y_Tide_now y_Tide_now ∈ tb := tw_465
theorem cw_Tide_on : Cond.code y_Tide_on c_Tide_on 3 (some .int) ∈ tb := tw_482
theorem ini_Tide_on : Cond.initialized y_Tide_on.cls ∈ tb := tw_64
theorem hd_Tide_on : y_Tide_on.cls ≠ "java/lang/invoke/MethodHandle" ∧ y_Tide_on.cls ≠ "java/lang/invoke/VarHandle" ∧ (parseMethodDescriptor y_Tide_on.desc).map (fun d => d.parameters.length) = some 2 := by decide +kernel
theorem ins_Tide_on : Cond.instanceMethod y_Tide_on ∈ tb := tw_480
theorem sel_Tide_on : Cond.selects R_Tide y_Tide_on y_Tide_on ∈ tb := tw_481
theorem cw_Tide_taken : Cond.code y_Tide_taken c_Tide_taken 3 (some .int) ∈ tb := tw_490
theorem ini_Tide_taken : Cond.initialized y_Tide_taken.cls ∈ tb := tw_64
theorem hd_Tide_taken : y_Tide_taken.cls ≠ "java/lang/invoke/MethodHandle" ∧ y_Tide_taken.cls ≠ "java/lang/invoke/VarHandle" ∧ (parseMethodDescriptor y_Tide_taken.desc).map (fun d => d.parameters.length) = some 1 := by decide +kernel
theorem ins_Tide_taken : Cond.instanceMethod y_Tide_taken ∈ tb := tw_488
theorem sel_Tide_taken : Cond.selects R_Tide y_Tide_taken y_Tide_taken ∈ tb := tw_489
theorem cw_Tide_home : Cond.code y_Tide_home c_Tide_home 3 (some .int) ∈ tb := tw_495
theorem ini_Tide_home : Cond.initialized y_Tide_home.cls ∈ tb := tw_64
theorem hd_Tide_home : y_Tide_home.cls ≠ "java/lang/invoke/MethodHandle" ∧ y_Tide_home.cls ≠ "java/lang/invoke/VarHandle" ∧ (parseMethodDescriptor y_Tide_home.desc).map (fun d => d.parameters.length) = some 1 := by decide +kernel
theorem ins_Tide_home : Cond.instanceMethod y_Tide_home ∈ tb := tw_493
theorem sel_Tide_home : Cond.selects R_Tide y_Tide_home y_Tide_home ∈ tb := tw_494
theorem cw_Tide_due : Cond.code y_Tide_due c_Tide_due 3 (some .int) ∈ tb := tw_499
theorem ini_Tide_due : Cond.initialized y_Tide_due.cls ∈ tb := tw_64
theorem hd_Tide_due : y_Tide_due.cls ≠ "java/lang/invoke/MethodHandle" ∧ y_Tide_due.cls ≠ "java/lang/invoke/VarHandle" ∧ (parseMethodDescriptor y_Tide_due.desc).map (fun d => d.parameters.length) = some 0 := by decide +kernel
theorem ins_Tide_due : Cond.instanceMethod y_Tide_due ∈ tb := tw_497
theorem sel_Tide_due : Cond.selects R_Tide y_Tide_due y_Tide_due ∈ tb := tw_498
theorem cw_Tide_spot : Cond.code y_Tide_spot c_Tide_spot 8 (some .int) ∈ tb := tw_504
theorem ini_Tide_spot : Cond.initialized y_Tide_spot.cls ∈ tb := tw_64
theorem hd_Tide_spot : y_Tide_spot.cls ≠ "java/lang/invoke/MethodHandle" ∧ y_Tide_spot.cls ≠ "java/lang/invoke/VarHandle" ∧ (parseMethodDescriptor y_Tide_spot.desc).map (fun d => d.parameters.length) = some 2 := by decide +kernel
theorem ins_Tide_spot : Cond.instanceMethod y_Tide_spot ∈ tb := tw_502
theorem sel_Tide_spot : Cond.selects R_Tide y_Tide_spot y_Tide_spot ∈ tb := tw_503
theorem cw_Tide_delay : Cond.code y_Tide_delay c_Tide_delay 9 (some .int) ∈ tb := tw_524
theorem ini_Tide_delay : Cond.initialized y_Tide_delay.cls ∈ tb := tw_64
theorem hd_Tide_delay : y_Tide_delay.cls ≠ "java/lang/invoke/MethodHandle" ∧ y_Tide_delay.cls ≠ "java/lang/invoke/VarHandle" ∧ (parseMethodDescriptor y_Tide_delay.desc).map (fun d => d.parameters.length) = some 3 := by decide +kernel
theorem ins_Tide_delay : Cond.instanceMethod y_Tide_delay ∈ tb := tw_522
theorem sel_Tide_delay : Cond.selects R_Tide y_Tide_delay y_Tide_delay ∈ tb := tw_523
theorem cw_Tide_kind : Cond.code y_Tide_kind c_Tide_kind 8 (some .int) ∈ tb := tw_528
theorem ini_Tide_kind : Cond.initialized y_Tide_kind.cls ∈ tb := tw_64
theorem hd_Tide_kind : y_Tide_kind.cls ≠ "java/lang/invoke/MethodHandle" ∧ y_Tide_kind.cls ≠ "java/lang/invoke/VarHandle" ∧ (parseMethodDescriptor y_Tide_kind.desc).map (fun d => d.parameters.length) = some 2 := by decide +kernel
theorem ins_Tide_kind : Cond.instanceMethod y_Tide_kind ∈ tb := tw_526
theorem sel_Tide_kind : Cond.selects R_Tide y_Tide_kind y_Tide_kind ∈ tb := tw_527
theorem cw_Tide_worth : Cond.code y_Tide_worth c_Tide_worth 6 (some .int) ∈ tb := tw_532
theorem ini_Tide_worth : Cond.initialized y_Tide_worth.cls ∈ tb := tw_64
theorem hd_Tide_worth : y_Tide_worth.cls ≠ "java/lang/invoke/MethodHandle" ∧ y_Tide_worth.cls ≠ "java/lang/invoke/VarHandle" ∧ (parseMethodDescriptor y_Tide_worth.desc).map (fun d => d.parameters.length) = some 3 := by decide +kernel
theorem ins_Tide_worth : Cond.instanceMethod y_Tide_worth ∈ tb := tw_530
theorem sel_Tide_worth : Cond.selects R_Tide y_Tide_worth y_Tide_worth ∈ tb := tw_531
theorem cw_Tide_richest : Cond.code y_Tide_richest c_Tide_richest 6 (some .int) ∈ tb := tw_536
theorem ini_Tide_richest : Cond.initialized y_Tide_richest.cls ∈ tb := tw_64
theorem hd_Tide_richest : y_Tide_richest.cls ≠ "java/lang/invoke/MethodHandle" ∧ y_Tide_richest.cls ≠ "java/lang/invoke/VarHandle" ∧ (parseMethodDescriptor y_Tide_richest.desc).map (fun d => d.parameters.length) = some 1 := by decide +kernel
theorem ins_Tide_richest : Cond.instanceMethod y_Tide_richest ∈ tb := tw_534
theorem sel_Tide_richest : Cond.selects R_Tide y_Tide_richest y_Tide_richest ∈ tb := tw_535
theorem cw_Tide_fewest : Cond.code y_Tide_fewest c_Tide_fewest 10 (some .int) ∈ tb := tw_540
theorem ini_Tide_fewest : Cond.initialized y_Tide_fewest.cls ∈ tb := tw_64
theorem hd_Tide_fewest : y_Tide_fewest.cls ≠ "java/lang/invoke/MethodHandle" ∧ y_Tide_fewest.cls ≠ "java/lang/invoke/VarHandle" ∧ (parseMethodDescriptor y_Tide_fewest.desc).map (fun d => d.parameters.length) = some 3 := by decide +kernel
theorem ins_Tide_fewest : Cond.instanceMethod y_Tide_fewest ∈ tb := tw_538
theorem sel_Tide_fewest : Cond.selects R_Tide y_Tide_fewest y_Tide_fewest ∈ tb := tw_539
theorem cw_Tide_rate : Cond.code y_Tide_rate c_Tide_rate 4 (some .int) ∈ tb := tw_556
theorem ini_Tide_rate : Cond.initialized y_Tide_rate.cls ∈ tb := tw_64
theorem hd_Tide_rate : y_Tide_rate.cls ≠ "java/lang/invoke/MethodHandle" ∧ y_Tide_rate.cls ≠ "java/lang/invoke/VarHandle" ∧ (parseMethodDescriptor y_Tide_rate.desc).map (fun d => d.parameters.length) = some 2 := by decide +kernel
theorem ins_Tide_rate : Cond.instanceMethod y_Tide_rate ∈ tb := tw_554
theorem sel_Tide_rate : Cond.selects R_Tide y_Tide_rate y_Tide_rate ∈ tb := tw_555
theorem cw_Tide_feed : Cond.code y_Tide_feed c_Tide_feed 4 (some .int) ∈ tb := tw_564
theorem ini_Tide_feed : Cond.initialized y_Tide_feed.cls ∈ tb := tw_64
theorem hd_Tide_feed : y_Tide_feed.cls ≠ "java/lang/invoke/MethodHandle" ∧ y_Tide_feed.cls ≠ "java/lang/invoke/VarHandle" ∧ (parseMethodDescriptor y_Tide_feed.desc).map (fun d => d.parameters.length) = some 2 := by decide +kernel
theorem ins_Tide_feed : Cond.instanceMethod y_Tide_feed ∈ tb := tw_562
theorem sel_Tide_feed : Cond.selects R_Tide y_Tide_feed y_Tide_feed ∈ tb := tw_563
theorem cw_Tide_wipe : Cond.code y_Tide_wipe c_Tide_wipe 2 (some .int) ∈ tb := tw_572
theorem ini_Tide_wipe : Cond.initialized y_Tide_wipe.cls ∈ tb := tw_64
theorem hd_Tide_wipe : y_Tide_wipe.cls ≠ "java/lang/invoke/MethodHandle" ∧ y_Tide_wipe.cls ≠ "java/lang/invoke/VarHandle" ∧ (parseMethodDescriptor y_Tide_wipe.desc).map (fun d => d.parameters.length) = some 0 := by decide +kernel
theorem ins_Tide_wipe : Cond.instanceMethod y_Tide_wipe ∈ tb := tw_570
theorem sel_Tide_wipe : Cond.selects R_Tide y_Tide_wipe y_Tide_wipe ∈ tb := tw_571
theorem cw_Tide_shore : Cond.code y_Tide_shore c_Tide_shore 2 (some .int) ∈ tb := tw_576
theorem ini_Tide_shore : Cond.initialized y_Tide_shore.cls ∈ tb := tw_64
theorem hd_Tide_shore : y_Tide_shore.cls ≠ "java/lang/invoke/MethodHandle" ∧ y_Tide_shore.cls ≠ "java/lang/invoke/VarHandle" ∧ (parseMethodDescriptor y_Tide_shore.desc).map (fun d => d.parameters.length) = some 0 := by decide +kernel
theorem ins_Tide_shore : Cond.instanceMethod y_Tide_shore ∈ tb := tw_574
theorem sel_Tide_shore : Cond.selects R_Tide y_Tide_shore y_Tide_shore ∈ tb := tw_575
theorem cw_Tide_sheet : Cond.code y_Tide_sheet c_Tide_sheet 4 (some .int) ∈ tb := tw_704
theorem ini_Tide_sheet : Cond.initialized y_Tide_sheet.cls ∈ tb := tw_64
theorem hd_Tide_sheet : y_Tide_sheet.cls ≠ "java/lang/invoke/MethodHandle" ∧ y_Tide_sheet.cls ≠ "java/lang/invoke/VarHandle" ∧ (parseMethodDescriptor y_Tide_sheet.desc).map (fun d => d.parameters.length) = some 3 := by decide +kernel
theorem ins_Tide_sheet : Cond.instanceMethod y_Tide_sheet ∈ tb := tw_702
theorem sel_Tide_sheet : Cond.selects R_Tide y_Tide_sheet y_Tide_sheet ∈ tb := tw_703
theorem cw_Tide_write : Cond.code y_Tide_write c_Tide_write 8 (some .long) ∈ tb := tw_716
theorem ini_Tide_write : Cond.initialized y_Tide_write.cls ∈ tb := tw_64
theorem hd_Tide_write : y_Tide_write.cls ≠ "java/lang/invoke/MethodHandle" ∧ y_Tide_write.cls ≠ "java/lang/invoke/VarHandle" ∧ (parseMethodDescriptor y_Tide_write.desc).map (fun d => d.parameters.length) = some 3 := by decide +kernel
theorem ins_Tide_write : Cond.instanceMethod y_Tide_write ∈ tb := tw_714
theorem sel_Tide_write : Cond.selects R_Tide y_Tide_write y_Tide_write ∈ tb := tw_715
theorem cw_Tide_copy : Cond.code y_Tide_copy c_Tide_copy 8 (some .int) ∈ tb := tw_729
theorem ini_Tide_copy : Cond.initialized y_Tide_copy.cls ∈ tb := tw_64
theorem hd_Tide_copy : y_Tide_copy.cls ≠ "java/lang/invoke/MethodHandle" ∧ y_Tide_copy.cls ≠ "java/lang/invoke/VarHandle" ∧ (parseMethodDescriptor y_Tide_copy.desc).map (fun d => d.parameters.length) = some 5 := by decide +kernel
theorem ins_Tide_copy : Cond.instanceMethod y_Tide_copy ∈ tb := tw_727
theorem sel_Tide_copy : Cond.selects R_Tide y_Tide_copy y_Tide_copy ∈ tb := tw_728
theorem cw_Tide_lays : Cond.code y_Tide_lays c_Tide_lays 7 (some .int) ∈ tb := tw_738
theorem ini_Tide_lays : Cond.initialized y_Tide_lays.cls ∈ tb := tw_64
theorem hd_Tide_lays : y_Tide_lays.cls ≠ "java/lang/invoke/MethodHandle" ∧ y_Tide_lays.cls ≠ "java/lang/invoke/VarHandle" ∧ (parseMethodDescriptor y_Tide_lays.desc).map (fun d => d.parameters.length) = some 1 := by decide +kernel
theorem ins_Tide_lays : Cond.instanceMethod y_Tide_lays ∈ tb := tw_736
theorem sel_Tide_lays : Cond.selects R_Tide y_Tide_lays y_Tide_lays ∈ tb := tw_737
theorem cw_Tide_book : Cond.code y_Tide_book c_Tide_book 5 (some .int) ∈ tb := tw_743
theorem ini_Tide_book : Cond.initialized y_Tide_book.cls ∈ tb := tw_64
theorem hd_Tide_book : y_Tide_book.cls ≠ "java/lang/invoke/MethodHandle" ∧ y_Tide_book.cls ≠ "java/lang/invoke/VarHandle" ∧ (parseMethodDescriptor y_Tide_book.desc).map (fun d => d.parameters.length) = some 2 := by decide +kernel
theorem ins_Tide_book : Cond.instanceMethod y_Tide_book ∈ tb := tw_741
theorem sel_Tide_book : Cond.selects R_Tide y_Tide_book y_Tide_book ∈ tb := tw_742
theorem cw_Tide_read : Cond.code y_Tide_read c_Tide_read 7 (some .int) ∈ tb := tw_755
theorem ini_Tide_read : Cond.initialized y_Tide_read.cls ∈ tb := tw_64
theorem hd_Tide_read : y_Tide_read.cls ≠ "java/lang/invoke/MethodHandle" ∧ y_Tide_read.cls ≠ "java/lang/invoke/VarHandle" ∧ (parseMethodDescriptor y_Tide_read.desc).map (fun d => d.parameters.length) = some 3 := by decide +kernel
theorem ins_Tide_read : Cond.instanceMethod y_Tide_read ∈ tb := tw_753
theorem sel_Tide_read : Cond.selects R_Tide y_Tide_read y_Tide_read ∈ tb := tw_754
theorem cw_Tide_image : Cond.code y_Tide_image c_Tide_image 1 (some .int) ∈ tb := tw_767
theorem ini_Tide_image : Cond.initialized y_Tide_image.cls ∈ tb := tw_64
theorem hd_Tide_image : y_Tide_image.cls ≠ "java/lang/invoke/MethodHandle" ∧ y_Tide_image.cls ≠ "java/lang/invoke/VarHandle" ∧ (parseMethodDescriptor y_Tide_image.desc).map (fun d => d.parameters.length) = some 0 := by decide +kernel
theorem ins_Tide_image : Cond.instanceMethod y_Tide_image ∈ tb := tw_765
theorem sel_Tide_image : Cond.selects R_Tide y_Tide_image y_Tide_image ∈ tb := tw_766
theorem cw_Tide_undo : Cond.code y_Tide_undo c_Tide_undo 1 (some .int) ∈ tb := tw_771
theorem ini_Tide_undo : Cond.initialized y_Tide_undo.cls ∈ tb := tw_64
theorem hd_Tide_undo : y_Tide_undo.cls ≠ "java/lang/invoke/MethodHandle" ∧ y_Tide_undo.cls ≠ "java/lang/invoke/VarHandle" ∧ (parseMethodDescriptor y_Tide_undo.desc).map (fun d => d.parameters.length) = some 0 := by decide +kernel
theorem ins_Tide_undo : Cond.instanceMethod y_Tide_undo ∈ tb := tw_769
theorem sel_Tide_undo : Cond.selects R_Tide y_Tide_undo y_Tide_undo ∈ tb := tw_770
theorem cw_Tide_tear : Cond.code y_Tide_tear c_Tide_tear 2 (some .int) ∈ tb := tw_775
theorem ini_Tide_tear : Cond.initialized y_Tide_tear.cls ∈ tb := tw_64
theorem hd_Tide_tear : y_Tide_tear.cls ≠ "java/lang/invoke/MethodHandle" ∧ y_Tide_tear.cls ≠ "java/lang/invoke/VarHandle" ∧ (parseMethodDescriptor y_Tide_tear.desc).map (fun d => d.parameters.length) = some 0 := by decide +kernel
theorem ins_Tide_tear : Cond.instanceMethod y_Tide_tear ∈ tb := tw_773
theorem sel_Tide_tear : Cond.selects R_Tide y_Tide_tear y_Tide_tear ∈ tb := tw_774
theorem cw_Tide_count : Cond.code y_Tide_count c_Tide_count 2 (some .int) ∈ tb := tw_779
theorem ini_Tide_count : Cond.initialized y_Tide_count.cls ∈ tb := tw_64
theorem hd_Tide_count : y_Tide_count.cls ≠ "java/lang/invoke/MethodHandle" ∧ y_Tide_count.cls ≠ "java/lang/invoke/VarHandle" ∧ (parseMethodDescriptor y_Tide_count.desc).map (fun d => d.parameters.length) = some 1 := by decide +kernel
theorem ins_Tide_count : Cond.instanceMethod y_Tide_count ∈ tb := tw_777
theorem sel_Tide_count : Cond.selects R_Tide y_Tide_count y_Tide_count ∈ tb := tw_778
theorem cw_Tide_status : Cond.code y_Tide_status c_Tide_status 4 (some .int) ∈ tb := tw_787
theorem ini_Tide_status : Cond.initialized y_Tide_status.cls ∈ tb := tw_64
theorem hd_Tide_status : y_Tide_status.cls ≠ "java/lang/invoke/MethodHandle" ∧ y_Tide_status.cls ≠ "java/lang/invoke/VarHandle" ∧ (parseMethodDescriptor y_Tide_status.desc).map (fun d => d.parameters.length) = some 1 := by decide +kernel
theorem ins_Tide_status : Cond.instanceMethod y_Tide_status ∈ tb := tw_785
theorem sel_Tide_status : Cond.selects R_Tide y_Tide_status y_Tide_status ∈ tb := tw_786
theorem cw_Tide_finding : Cond.code y_Tide_finding c_Tide_finding 3 (some .int) ∈ tb := tw_284
theorem ini_Tide_finding : Cond.initialized y_Tide_finding.cls ∈ tb := tw_64
theorem hd_Tide_finding : y_Tide_finding.cls ≠ "java/lang/invoke/MethodHandle" ∧ y_Tide_finding.cls ≠ "java/lang/invoke/VarHandle" ∧ (parseMethodDescriptor y_Tide_finding.desc).map (fun d => d.parameters.length) = some 1 := by decide +kernel
theorem ins_Tide_finding : Cond.instanceMethod y_Tide_finding ∈ tb := tw_283
theorem sel_Tide_finding : Cond.selects R_Tide y_Tide_finding y_Tide_finding ∈ tb := tw_0
theorem cw_Tide_isBelow : Cond.code y_Tide_isBelow c_Tide_isBelow 2 (some .boolean) ∈ tb := tw_279
theorem ini_Tide_isBelow : Cond.initialized y_Tide_isBelow.cls ∈ tb := tw_64
theorem hd_Tide_isBelow : y_Tide_isBelow.cls ≠ "java/lang/invoke/MethodHandle" ∧ y_Tide_isBelow.cls ≠ "java/lang/invoke/VarHandle" ∧ (parseMethodDescriptor y_Tide_isBelow.desc).map (fun d => d.parameters.length) = some 2 := by decide +kernel
theorem sta_Tide_isBelow : Cond.static y_Tide_isBelow ∈ tb := tw_278
theorem cw_Tide_isUpTo : Cond.code y_Tide_isUpTo c_Tide_isUpTo 3 (some .boolean) ∈ tb := tw_299
theorem ini_Tide_isUpTo : Cond.initialized y_Tide_isUpTo.cls ∈ tb := tw_64
theorem hd_Tide_isUpTo : y_Tide_isUpTo.cls ≠ "java/lang/invoke/MethodHandle" ∧ y_Tide_isUpTo.cls ≠ "java/lang/invoke/VarHandle" ∧ (parseMethodDescriptor y_Tide_isUpTo.desc).map (fun d => d.parameters.length) = some 3 := by decide +kernel
theorem sta_Tide_isUpTo : Cond.static y_Tide_isUpTo ∈ tb := tw_298
theorem cw_Tide_isWidth : Cond.code y_Tide_isWidth c_Tide_isWidth 1 (some .boolean) ∈ tb := tw_707
theorem ini_Tide_isWidth : Cond.initialized y_Tide_isWidth.cls ∈ tb := tw_64
theorem hd_Tide_isWidth : y_Tide_isWidth.cls ≠ "java/lang/invoke/MethodHandle" ∧ y_Tide_isWidth.cls ≠ "java/lang/invoke/VarHandle" ∧ (parseMethodDescriptor y_Tide_isWidth.desc).map (fun d => d.parameters.length) = some 1 := by decide +kernel
theorem sta_Tide_isWidth : Cond.static y_Tide_isWidth ∈ tb := tw_706
theorem cw_Tide_moonOf : Cond.code y_Tide_moonOf c_Tide_moonOf 1 (some .int) ∈ tb := tw_310
theorem ini_Tide_moonOf : Cond.initialized y_Tide_moonOf.cls ∈ tb := tw_64
theorem hd_Tide_moonOf : y_Tide_moonOf.cls ≠ "java/lang/invoke/MethodHandle" ∧ y_Tide_moonOf.cls ≠ "java/lang/invoke/VarHandle" ∧ (parseMethodDescriptor y_Tide_moonOf.desc).map (fun d => d.parameters.length) = some 1 := by decide +kernel
theorem sta_Tide_moonOf : Cond.static y_Tide_moonOf ∈ tb := tw_309
theorem cw_Tide_isSpring : Cond.code y_Tide_isSpring c_Tide_isSpring 1 (some .boolean) ∈ tb := tw_313
theorem ini_Tide_isSpring : Cond.initialized y_Tide_isSpring.cls ∈ tb := tw_64
theorem hd_Tide_isSpring : y_Tide_isSpring.cls ≠ "java/lang/invoke/MethodHandle" ∧ y_Tide_isSpring.cls ≠ "java/lang/invoke/VarHandle" ∧ (parseMethodDescriptor y_Tide_isSpring.desc).map (fun d => d.parameters.length) = some 1 := by decide +kernel
theorem sta_Tide_isSpring : Cond.static y_Tide_isSpring ∈ tb := tw_312
theorem cw_Tide_markOf : Cond.code y_Tide_markOf c_Tide_markOf 3 (some .int) ∈ tb := tw_307
theorem ini_Tide_markOf : Cond.initialized y_Tide_markOf.cls ∈ tb := tw_64
theorem hd_Tide_markOf : y_Tide_markOf.cls ≠ "java/lang/invoke/MethodHandle" ∧ y_Tide_markOf.cls ≠ "java/lang/invoke/VarHandle" ∧ (parseMethodDescriptor y_Tide_markOf.desc).map (fun d => d.parameters.length) = some 1 := by decide +kernel
theorem sta_Tide_markOf : Cond.static y_Tide_markOf ∈ tb := tw_306
theorem cw_Tide_springFrom : Cond.code y_Tide_springFrom c_Tide_springFrom 1 (some .int) ∈ tb := tw_443
theorem ini_Tide_springFrom : Cond.initialized y_Tide_springFrom.cls ∈ tb := tw_64
theorem hd_Tide_springFrom : y_Tide_springFrom.cls ≠ "java/lang/invoke/MethodHandle" ∧ y_Tide_springFrom.cls ≠ "java/lang/invoke/VarHandle" ∧ (parseMethodDescriptor y_Tide_springFrom.desc).map (fun d => d.parameters.length) = some 1 := by decide +kernel
theorem sta_Tide_springFrom : Cond.static y_Tide_springFrom ∈ tb := tw_442
theorem cw_Tide_kindAbove : Cond.code y_Tide_kindAbove c_Tide_kindAbove 1 (some .int) ∈ tb := tw_388
theorem ini_Tide_kindAbove : Cond.initialized y_Tide_kindAbove.cls ∈ tb := tw_64
theorem hd_Tide_kindAbove : y_Tide_kindAbove.cls ≠ "java/lang/invoke/MethodHandle" ∧ y_Tide_kindAbove.cls ≠ "java/lang/invoke/VarHandle" ∧ (parseMethodDescriptor y_Tide_kindAbove.desc).map (fun d => d.parameters.length) = some 1 := by decide +kernel
theorem sta_Tide_kindAbove : Cond.static y_Tide_kindAbove ∈ tb := tw_387
theorem cw_Tide_isUnder : Cond.code y_Tide_isUnder c_Tide_isUnder 4 (some .boolean) ∈ tb := tw_385
theorem ini_Tide_isUnder : Cond.initialized y_Tide_isUnder.cls ∈ tb := tw_64
theorem hd_Tide_isUnder : y_Tide_isUnder.cls ≠ "java/lang/invoke/MethodHandle" ∧ y_Tide_isUnder.cls ≠ "java/lang/invoke/VarHandle" ∧ (parseMethodDescriptor y_Tide_isUnder.desc).map (fun d => d.parameters.length) = some 2 := by decide +kernel
theorem sta_Tide_isUnder : Cond.static y_Tide_isUnder ∈ tb := tw_384
theorem cw_Tide_isTaken : Cond.code y_Tide_isTaken c_Tide_isTaken 3 (some .boolean) ∈ tb := tw_431
theorem ini_Tide_isTaken : Cond.initialized y_Tide_isTaken.cls ∈ tb := tw_64
theorem hd_Tide_isTaken : y_Tide_isTaken.cls ≠ "java/lang/invoke/MethodHandle" ∧ y_Tide_isTaken.cls ≠ "java/lang/invoke/VarHandle" ∧ (parseMethodDescriptor y_Tide_isTaken.desc).map (fun d => d.parameters.length) = some 3 := by decide +kernel
theorem sta_Tide_isTaken : Cond.static y_Tide_isTaken ∈ tb := tw_430
theorem cw_Tide_termOf : Cond.code y_Tide_termOf c_Tide_termOf 1 (some .int) ∈ tb := tw_352
theorem ini_Tide_termOf : Cond.initialized y_Tide_termOf.cls ∈ tb := tw_64
theorem hd_Tide_termOf : y_Tide_termOf.cls ≠ "java/lang/invoke/MethodHandle" ∧ y_Tide_termOf.cls ≠ "java/lang/invoke/VarHandle" ∧ (parseMethodDescriptor y_Tide_termOf.desc).map (fun d => d.parameters.length) = some 1 := by decide +kernel
theorem sta_Tide_termOf : Cond.static y_Tide_termOf ∈ tb := tw_351
theorem cw_Tide_broughtAs : Cond.code y_Tide_broughtAs c_Tide_broughtAs 4 (some .long) ∈ tb := tw_364
theorem ini_Tide_broughtAs : Cond.initialized y_Tide_broughtAs.cls ∈ tb := tw_64
theorem hd_Tide_broughtAs : y_Tide_broughtAs.cls ≠ "java/lang/invoke/MethodHandle" ∧ y_Tide_broughtAs.cls ≠ "java/lang/invoke/VarHandle" ∧ (parseMethodDescriptor y_Tide_broughtAs.desc).map (fun d => d.parameters.length) = some 3 := by decide +kernel
theorem sta_Tide_broughtAs : Cond.static y_Tide_broughtAs ∈ tb := tw_363
theorem cw_Tide_repaid : Cond.code y_Tide_repaid c_Tide_repaid 6 (some .int) ∈ tb := tw_359
theorem ini_Tide_repaid : Cond.initialized y_Tide_repaid.cls ∈ tb := tw_64
theorem hd_Tide_repaid : y_Tide_repaid.cls ≠ "java/lang/invoke/MethodHandle" ∧ y_Tide_repaid.cls ≠ "java/lang/invoke/VarHandle" ∧ (parseMethodDescriptor y_Tide_repaid.desc).map (fun d => d.parameters.length) = some 4 := by decide +kernel
theorem sta_Tide_repaid : Cond.static y_Tide_repaid ∈ tb := tw_358
theorem cw_Tide_owedNow : Cond.code y_Tide_owedNow c_Tide_owedNow 2 (some .int) ∈ tb := tw_356
theorem ini_Tide_owedNow : Cond.initialized y_Tide_owedNow.cls ∈ tb := tw_64
theorem hd_Tide_owedNow : y_Tide_owedNow.cls ≠ "java/lang/invoke/MethodHandle" ∧ y_Tide_owedNow.cls ≠ "java/lang/invoke/VarHandle" ∧ (parseMethodDescriptor y_Tide_owedNow.desc).map (fun d => d.parameters.length) = some 1 := by decide +kernel
theorem ins_Tide_owedNow : Cond.instanceMethod y_Tide_owedNow ∈ tb := tw_355
theorem sel_Tide_owedNow : Cond.selects R_Tide y_Tide_owedNow y_Tide_owedNow ∈ tb := tw_1
theorem cw_Tide_allOwedNow : Cond.code y_Tide_allOwedNow c_Tide_allOwedNow 3 (some .int) ∈ tb := tw_474
theorem ini_Tide_allOwedNow : Cond.initialized y_Tide_allOwedNow.cls ∈ tb := tw_64
theorem hd_Tide_allOwedNow : y_Tide_allOwedNow.cls ≠ "java/lang/invoke/MethodHandle" ∧ y_Tide_allOwedNow.cls ≠ "java/lang/invoke/VarHandle" ∧ (parseMethodDescriptor y_Tide_allOwedNow.desc).map (fun d => d.parameters.length) = some 0 := by decide +kernel
theorem ins_Tide_allOwedNow : Cond.instanceMethod y_Tide_allOwedNow ∈ tb := tw_473
theorem sel_Tide_allOwedNow : Cond.selects R_Tide y_Tide_allOwedNow y_Tide_allOwedNow ∈ tb := tw_7
theorem cw_Tide_filled : Cond.code y_Tide_filled c_Tide_filled 2 (some .int) ∈ tb := tw_455
theorem ini_Tide_filled : Cond.initialized y_Tide_filled.cls ∈ tb := tw_64
theorem hd_Tide_filled : y_Tide_filled.cls ≠ "java/lang/invoke/MethodHandle" ∧ y_Tide_filled.cls ≠ "java/lang/invoke/VarHandle" ∧ (parseMethodDescriptor y_Tide_filled.desc).map (fun d => d.parameters.length) = some 2 := by decide +kernel
theorem sta_Tide_filled : Cond.static y_Tide_filled ∈ tb := tw_454
theorem cw_Tide_follow : Cond.code y_Tide_follow c_Tide_follow 4 none ∈ tb := tw_420
theorem ini_Tide_follow : Cond.initialized y_Tide_follow.cls ∈ tb := tw_64
theorem hd_Tide_follow : y_Tide_follow.cls ≠ "java/lang/invoke/MethodHandle" ∧ y_Tide_follow.cls ≠ "java/lang/invoke/VarHandle" ∧ (parseMethodDescriptor y_Tide_follow.desc).map (fun d => d.parameters.length) = some 2 := by decide +kernel
theorem ins_Tide_follow : Cond.instanceMethod y_Tide_follow ∈ tb := tw_419
theorem sel_Tide_follow : Cond.selects R_Tide y_Tide_follow y_Tide_follow ∈ tb := tw_3
theorem cw_Tide_followAll : Cond.code y_Tide_followAll c_Tide_followAll 3 none ∈ tb := tw_416
theorem ini_Tide_followAll : Cond.initialized y_Tide_followAll.cls ∈ tb := tw_64
theorem hd_Tide_followAll : y_Tide_followAll.cls ≠ "java/lang/invoke/MethodHandle" ∧ y_Tide_followAll.cls ≠ "java/lang/invoke/VarHandle" ∧ (parseMethodDescriptor y_Tide_followAll.desc).map (fun d => d.parameters.length) = some 1 := by decide +kernel
theorem ins_Tide_followAll : Cond.instanceMethod y_Tide_followAll ∈ tb := tw_415
theorem sel_Tide_followAll : Cond.selects R_Tide y_Tide_followAll y_Tide_followAll ∈ tb := tw_2
theorem cw_Tide_bring : Cond.code y_Tide_bring c_Tide_bring 3 none ∈ tb := tw_447
theorem ini_Tide_bring : Cond.initialized y_Tide_bring.cls ∈ tb := tw_64
theorem hd_Tide_bring : y_Tide_bring.cls ≠ "java/lang/invoke/MethodHandle" ∧ y_Tide_bring.cls ≠ "java/lang/invoke/VarHandle" ∧ (parseMethodDescriptor y_Tide_bring.desc).map (fun d => d.parameters.length) = some 2 := by decide +kernel
theorem ins_Tide_bring : Cond.instanceMethod y_Tide_bring ∈ tb := tw_446
theorem sel_Tide_bring : Cond.selects R_Tide y_Tide_bring y_Tide_bring ∈ tb := tw_6
theorem cw_Tide_purseThen : Cond.code y_Tide_purseThen c_Tide_purseThen 7 (some .int) ∈ tb := tw_486
theorem ini_Tide_purseThen : Cond.initialized y_Tide_purseThen.cls ∈ tb := tw_64
theorem hd_Tide_purseThen : y_Tide_purseThen.cls ≠ "java/lang/invoke/MethodHandle" ∧ y_Tide_purseThen.cls ≠ "java/lang/invoke/VarHandle" ∧ (parseMethodDescriptor y_Tide_purseThen.desc).map (fun d => d.parameters.length) = some 3 := by decide +kernel
theorem ins_Tide_purseThen : Cond.instanceMethod y_Tide_purseThen ∈ tb := tw_485
theorem sel_Tide_purseThen : Cond.selects R_Tide y_Tide_purseThen y_Tide_purseThen ∈ tb := tw_8
theorem cw_Tide_gainAt : Cond.code y_Tide_gainAt c_Tide_gainAt 5 (some .long) ∈ tb := tw_560
theorem ini_Tide_gainAt : Cond.initialized y_Tide_gainAt.cls ∈ tb := tw_64
theorem hd_Tide_gainAt : y_Tide_gainAt.cls ≠ "java/lang/invoke/MethodHandle" ∧ y_Tide_gainAt.cls ≠ "java/lang/invoke/VarHandle" ∧ (parseMethodDescriptor y_Tide_gainAt.desc).map (fun d => d.parameters.length) = some 1 := by decide +kernel
theorem ins_Tide_gainAt : Cond.instanceMethod y_Tide_gainAt ∈ tb := tw_559
theorem sel_Tide_gainAt : Cond.selects R_Tide y_Tide_gainAt y_Tide_gainAt ∈ tb := tw_15
theorem cw_Tide_tryOn : Cond.code y_Tide_tryOn c_Tide_tryOn 3 (some .int) ∈ tb := tw_508
theorem ini_Tide_tryOn : Cond.initialized y_Tide_tryOn.cls ∈ tb := tw_64
theorem hd_Tide_tryOn : y_Tide_tryOn.cls ≠ "java/lang/invoke/MethodHandle" ∧ y_Tide_tryOn.cls ≠ "java/lang/invoke/VarHandle" ∧ (parseMethodDescriptor y_Tide_tryOn.desc).map (fun d => d.parameters.length) = some 2 := by decide +kernel
theorem ins_Tide_tryOn : Cond.instanceMethod y_Tide_tryOn ∈ tb := tw_507
theorem sel_Tide_tryOn : Cond.selects R_Tide y_Tide_tryOn y_Tide_tryOn ∈ tb := tw_9
theorem cw_Tide_followTrial : Cond.code y_Tide_followTrial c_Tide_followTrial 3 none ∈ tb := tw_520
theorem ini_Tide_followTrial : Cond.initialized y_Tide_followTrial.cls ∈ tb := tw_64
theorem hd_Tide_followTrial : y_Tide_followTrial.cls ≠ "java/lang/invoke/MethodHandle" ∧ y_Tide_followTrial.cls ≠ "java/lang/invoke/VarHandle" ∧ (parseMethodDescriptor y_Tide_followTrial.desc).map (fun d => d.parameters.length) = some 2 := by decide +kernel
theorem ins_Tide_followTrial : Cond.instanceMethod y_Tide_followTrial ∈ tb := tw_519
theorem sel_Tide_followTrial : Cond.selects R_Tide y_Tide_followTrial y_Tide_followTrial ∈ tb := tw_11
theorem cw_Tide_purseWithTrial : Cond.code y_Tide_purseWithTrial c_Tide_purseWithTrial 4 (some .int) ∈ tb := tw_516
theorem ini_Tide_purseWithTrial : Cond.initialized y_Tide_purseWithTrial.cls ∈ tb := tw_64
theorem hd_Tide_purseWithTrial : y_Tide_purseWithTrial.cls ≠ "java/lang/invoke/MethodHandle" ∧ y_Tide_purseWithTrial.cls ≠ "java/lang/invoke/VarHandle" ∧ (parseMethodDescriptor y_Tide_purseWithTrial.desc).map (fun d => d.parameters.length) = some 3 := by decide +kernel
theorem ins_Tide_purseWithTrial : Cond.instanceMethod y_Tide_purseWithTrial ∈ tb := tw_515
theorem sel_Tide_purseWithTrial : Cond.selects R_Tide y_Tide_purseWithTrial y_Tide_purseWithTrial ∈ tb := tw_10
theorem cw_Tide_shareOut : Cond.code y_Tide_shareOut c_Tide_shareOut 6 (some .int) ∈ tb := tw_544
theorem ini_Tide_shareOut : Cond.initialized y_Tide_shareOut.cls ∈ tb := tw_64
theorem hd_Tide_shareOut : y_Tide_shareOut.cls ≠ "java/lang/invoke/MethodHandle" ∧ y_Tide_shareOut.cls ≠ "java/lang/invoke/VarHandle" ∧ (parseMethodDescriptor y_Tide_shareOut.desc).map (fun d => d.parameters.length) = some 1 := by decide +kernel
theorem ins_Tide_shareOut : Cond.instanceMethod y_Tide_shareOut ∈ tb := tw_543
theorem sel_Tide_shareOut : Cond.selects R_Tide y_Tide_shareOut y_Tide_shareOut ∈ tb := tw_12
theorem cw_Tide_sharesOf : Cond.code y_Tide_sharesOf c_Tide_sharesOf 4 (some .int) ∈ tb := tw_552
theorem ini_Tide_sharesOf : Cond.initialized y_Tide_sharesOf.cls ∈ tb := tw_64
theorem hd_Tide_sharesOf : y_Tide_sharesOf.cls ≠ "java/lang/invoke/MethodHandle" ∧ y_Tide_sharesOf.cls ≠ "java/lang/invoke/VarHandle" ∧ (parseMethodDescriptor y_Tide_sharesOf.desc).map (fun d => d.parameters.length) = some 1 := by decide +kernel
theorem ins_Tide_sharesOf : Cond.instanceMethod y_Tide_sharesOf ∈ tb := tw_551
theorem sel_Tide_sharesOf : Cond.selects R_Tide y_Tide_sharesOf y_Tide_sharesOf ∈ tb := tw_14
theorem cw_Tide_sureThen : Cond.code y_Tide_sureThen c_Tide_sureThen 5 (some .int) ∈ tb := tw_548
theorem ini_Tide_sureThen : Cond.initialized y_Tide_sureThen.cls ∈ tb := tw_64
theorem hd_Tide_sureThen : y_Tide_sureThen.cls ≠ "java/lang/invoke/MethodHandle" ∧ y_Tide_sureThen.cls ≠ "java/lang/invoke/VarHandle" ∧ (parseMethodDescriptor y_Tide_sureThen.desc).map (fun d => d.parameters.length) = some 1 := by decide +kernel
theorem ins_Tide_sureThen : Cond.instanceMethod y_Tide_sureThen ∈ tb := tw_547
theorem sel_Tide_sureThen : Cond.selects R_Tide y_Tide_sureThen y_Tide_sureThen ∈ tb := tw_13
theorem cw_Tide_plotCourse : Cond.code y_Tide_plotCourse c_Tide_plotCourse 5 none ∈ tb := tw_747
theorem ini_Tide_plotCourse : Cond.initialized y_Tide_plotCourse.cls ∈ tb := tw_64
theorem hd_Tide_plotCourse : y_Tide_plotCourse.cls ≠ "java/lang/invoke/MethodHandle" ∧ y_Tide_plotCourse.cls ≠ "java/lang/invoke/VarHandle" ∧ (parseMethodDescriptor y_Tide_plotCourse.desc).map (fun d => d.parameters.length) = some 3 := by decide +kernel
theorem ins_Tide_plotCourse : Cond.instanceMethod y_Tide_plotCourse ∈ tb := tw_746
theorem sel_Tide_plotCourse : Cond.selects R_Tide y_Tide_plotCourse y_Tide_plotCourse ∈ tb := tw_23
theorem cw_Tide_addToCourse : Cond.code y_Tide_addToCourse c_Tide_addToCourse 5 none ∈ tb := tw_751
theorem ini_Tide_addToCourse : Cond.initialized y_Tide_addToCourse.cls ∈ tb := tw_64
theorem hd_Tide_addToCourse : y_Tide_addToCourse.cls ≠ "java/lang/invoke/MethodHandle" ∧ y_Tide_addToCourse.cls ≠ "java/lang/invoke/VarHandle" ∧ (parseMethodDescriptor y_Tide_addToCourse.desc).map (fun d => d.parameters.length) = some 3 := by decide +kernel
theorem ins_Tide_addToCourse : Cond.instanceMethod y_Tide_addToCourse ∈ tb := tw_750
theorem sel_Tide_addToCourse : Cond.selects R_Tide y_Tide_addToCourse y_Tide_addToCourse ∈ tb := tw_24
theorem cw_Tide_cellsThatFit : Cond.code y_Tide_cellsThatFit c_Tide_cellsThatFit 7 (some .int) ∈ tb := tw_759
theorem ini_Tide_cellsThatFit : Cond.initialized y_Tide_cellsThatFit.cls ∈ tb := tw_64
theorem hd_Tide_cellsThatFit : y_Tide_cellsThatFit.cls ≠ "java/lang/invoke/MethodHandle" ∧ y_Tide_cellsThatFit.cls ≠ "java/lang/invoke/VarHandle" ∧ (parseMethodDescriptor y_Tide_cellsThatFit.desc).map (fun d => d.parameters.length) = some 3 := by decide +kernel
theorem ins_Tide_cellsThatFit : Cond.instanceMethod y_Tide_cellsThatFit ∈ tb := tw_758
theorem sel_Tide_cellsThatFit : Cond.selects R_Tide y_Tide_cellsThatFit y_Tide_cellsThatFit ∈ tb := tw_25
theorem cw_Tide_isCourseWith : Cond.code y_Tide_isCourseWith c_Tide_isCourseWith 6 (some .boolean) ∈ tb := tw_763
theorem ini_Tide_isCourseWith : Cond.initialized y_Tide_isCourseWith.cls ∈ tb := tw_64
theorem hd_Tide_isCourseWith : y_Tide_isCourseWith.cls ≠ "java/lang/invoke/MethodHandle" ∧ y_Tide_isCourseWith.cls ≠ "java/lang/invoke/VarHandle" ∧ (parseMethodDescriptor y_Tide_isCourseWith.desc).map (fun d => d.parameters.length) = some 3 := by decide +kernel
theorem ins_Tide_isCourseWith : Cond.instanceMethod y_Tide_isCourseWith ∈ tb := tw_762
theorem sel_Tide_isCourseWith : Cond.selects R_Tide y_Tide_isCourseWith y_Tide_isCourseWith ∈ tb := tw_26
theorem cw_Tide_readText : Cond.code y_Tide_readText c_Tide_readText 3 (some .int) ∈ tb := tw_588
theorem ini_Tide_readText : Cond.initialized y_Tide_readText.cls ∈ tb := tw_64
theorem hd_Tide_readText : y_Tide_readText.cls ≠ "java/lang/invoke/MethodHandle" ∧ y_Tide_readText.cls ≠ "java/lang/invoke/VarHandle" ∧ (parseMethodDescriptor y_Tide_readText.desc).map (fun d => d.parameters.length) = some 0 := by decide +kernel
theorem ins_Tide_readText : Cond.instanceMethod y_Tide_readText ∈ tb := tw_587
theorem sel_Tide_readText : Cond.selects R_Tide y_Tide_readText y_Tide_readText ∈ tb := tw_16
theorem cw_Tide_readItem : Cond.code y_Tide_readItem c_Tide_readItem 2 (some .boolean) ∈ tb := tw_603
theorem ini_Tide_readItem : Cond.initialized y_Tide_readItem.cls ∈ tb := tw_64
theorem hd_Tide_readItem : y_Tide_readItem.cls ≠ "java/lang/invoke/MethodHandle" ∧ y_Tide_readItem.cls ≠ "java/lang/invoke/VarHandle" ∧ (parseMethodDescriptor y_Tide_readItem.desc).map (fun d => d.parameters.length) = some 0 := by decide +kernel
theorem ins_Tide_readItem : Cond.instanceMethod y_Tide_readItem ∈ tb := tw_602
theorem sel_Tide_readItem : Cond.selects R_Tide y_Tide_readItem y_Tide_readItem ∈ tb := tw_17
theorem cw_Tide_readThing : Cond.code y_Tide_readThing c_Tide_readThing 3 (some .boolean) ∈ tb := tw_672
theorem ini_Tide_readThing : Cond.initialized y_Tide_readThing.cls ∈ tb := tw_64
theorem hd_Tide_readThing : y_Tide_readThing.cls ≠ "java/lang/invoke/MethodHandle" ∧ y_Tide_readThing.cls ≠ "java/lang/invoke/VarHandle" ∧ (parseMethodDescriptor y_Tide_readThing.desc).map (fun d => d.parameters.length) = some 1 := by decide +kernel
theorem ins_Tide_readThing : Cond.instanceMethod y_Tide_readThing ∈ tb := tw_671
theorem sel_Tide_readThing : Cond.selects R_Tide y_Tide_readThing y_Tide_readThing ∈ tb := tw_18
theorem cw_Tide_readWorth : Cond.code y_Tide_readWorth c_Tide_readWorth 2 (some .boolean) ∈ tb := tw_684
theorem ini_Tide_readWorth : Cond.initialized y_Tide_readWorth.cls ∈ tb := tw_64
theorem hd_Tide_readWorth : y_Tide_readWorth.cls ≠ "java/lang/invoke/MethodHandle" ∧ y_Tide_readWorth.cls ≠ "java/lang/invoke/VarHandle" ∧ (parseMethodDescriptor y_Tide_readWorth.desc).map (fun d => d.parameters.length) = some 1 := by decide +kernel
theorem ins_Tide_readWorth : Cond.instanceMethod y_Tide_readWorth ∈ tb := tw_683
theorem sel_Tide_readWorth : Cond.selects R_Tide y_Tide_readWorth y_Tide_readWorth ∈ tb := tw_19
theorem cw_Tide_readPlace : Cond.code y_Tide_readPlace c_Tide_readPlace 2 (some .boolean) ∈ tb := tw_689
theorem ini_Tide_readPlace : Cond.initialized y_Tide_readPlace.cls ∈ tb := tw_64
theorem hd_Tide_readPlace : y_Tide_readPlace.cls ≠ "java/lang/invoke/MethodHandle" ∧ y_Tide_readPlace.cls ≠ "java/lang/invoke/VarHandle" ∧ (parseMethodDescriptor y_Tide_readPlace.desc).map (fun d => d.parameters.length) = some 1 := by decide +kernel
theorem ins_Tide_readPlace : Cond.instanceMethod y_Tide_readPlace ∈ tb := tw_688
theorem sel_Tide_readPlace : Cond.selects R_Tide y_Tide_readPlace y_Tide_readPlace ∈ tb := tw_20
theorem cw_Tide_readHeight : Cond.code y_Tide_readHeight c_Tide_readHeight 2 (some .boolean) ∈ tb := tw_695
theorem ini_Tide_readHeight : Cond.initialized y_Tide_readHeight.cls ∈ tb := tw_64
theorem hd_Tide_readHeight : y_Tide_readHeight.cls ≠ "java/lang/invoke/MethodHandle" ∧ y_Tide_readHeight.cls ≠ "java/lang/invoke/VarHandle" ∧ (parseMethodDescriptor y_Tide_readHeight.desc).map (fun d => d.parameters.length) = some 0 := by decide +kernel
theorem ins_Tide_readHeight : Cond.instanceMethod y_Tide_readHeight ∈ tb := tw_694
theorem sel_Tide_readHeight : Cond.selects R_Tide y_Tide_readHeight y_Tide_readHeight ∈ tb := tw_21
theorem cw_Tide_readInterest : Cond.code y_Tide_readInterest c_Tide_readInterest 1 (some .boolean) ∈ tb := tw_700
theorem ini_Tide_readInterest : Cond.initialized y_Tide_readInterest.cls ∈ tb := tw_64
theorem hd_Tide_readInterest : y_Tide_readInterest.cls ≠ "java/lang/invoke/MethodHandle" ∧ y_Tide_readInterest.cls ≠ "java/lang/invoke/VarHandle" ∧ (parseMethodDescriptor y_Tide_readInterest.desc).map (fun d => d.parameters.length) = some 0 := by decide +kernel
theorem ins_Tide_readInterest : Cond.instanceMethod y_Tide_readInterest ∈ tb := tw_699
theorem sel_Tide_readInterest : Cond.selects R_Tide y_Tide_readInterest y_Tide_readInterest ∈ tb := tw_22
theorem cw_Model_init : Cond.code y_Model_init c_Model_init 2 none ∈ tb := tw_792
theorem ini_Model_init : Cond.initialized y_Model_init.cls ∈ tb := tw_70
theorem hd_Model_init : y_Model_init.cls ≠ "java/lang/invoke/MethodHandle" ∧ y_Model_init.cls ≠ "java/lang/invoke/VarHandle" ∧ (parseMethodDescriptor y_Model_init.desc).map (fun d => d.parameters.length) = some 0 := by decide +kernel
theorem ins_Model_init : Cond.instanceMethod y_Model_init ∈ tb := tw_791
theorem cw_Model_isIn : Cond.code y_Model_isIn c_Model_isIn 6 (some .boolean) ∈ tb := tw_853
theorem ini_Model_isIn : Cond.initialized y_Model_isIn.cls ∈ tb := tw_70
theorem hd_Model_isIn : y_Model_isIn.cls ≠ "java/lang/invoke/MethodHandle" ∧ y_Model_isIn.cls ≠ "java/lang/invoke/VarHandle" ∧ (parseMethodDescriptor y_Model_isIn.desc).map (fun d => d.parameters.length) = some 3 := by decide +kernel
theorem sta_Model_isIn : Cond.static y_Model_isIn ∈ tb := tw_852
theorem cw_Model_finds : Cond.code y_Model_finds c_Model_finds 2 (some .int) ∈ tb := tw_862
theorem ini_Model_finds : Cond.initialized y_Model_finds.cls ∈ tb := tw_70
theorem hd_Model_finds : y_Model_finds.cls ≠ "java/lang/invoke/MethodHandle" ∧ y_Model_finds.cls ≠ "java/lang/invoke/VarHandle" ∧ (parseMethodDescriptor y_Model_finds.desc).map (fun d => d.parameters.length) = some 1 := by decide +kernel
theorem ins_Model_finds : Cond.instanceMethod y_Model_finds ∈ tb := tw_861
theorem sel_Model_finds : Cond.selects R_Model y_Model_finds y_Model_finds ∈ tb := tw_28
theorem cw_Model_becomes : Cond.code y_Model_becomes c_Model_becomes 4 (some .int) ∈ tb := tw_857
theorem ini_Model_becomes : Cond.initialized y_Model_becomes.cls ∈ tb := tw_70
theorem hd_Model_becomes : y_Model_becomes.cls ≠ "java/lang/invoke/MethodHandle" ∧ y_Model_becomes.cls ≠ "java/lang/invoke/VarHandle" ∧ (parseMethodDescriptor y_Model_becomes.desc).map (fun d => d.parameters.length) = some 2 := by decide +kernel
theorem ins_Model_becomes : Cond.instanceMethod y_Model_becomes ∈ tb := tw_856
theorem sel_Model_becomes : Cond.selects R_Model y_Model_becomes y_Model_becomes ∈ tb := tw_27
theorem cw_Model_copyRow : Cond.code y_Model_copyRow c_Model_copyRow 3 none ∈ tb := tw_1014
theorem ini_Model_copyRow : Cond.initialized y_Model_copyRow.cls ∈ tb := tw_70
theorem hd_Model_copyRow : y_Model_copyRow.cls ≠ "java/lang/invoke/MethodHandle" ∧ y_Model_copyRow.cls ≠ "java/lang/invoke/VarHandle" ∧ (parseMethodDescriptor y_Model_copyRow.desc).map (fun d => d.parameters.length) = some 2 := by decide +kernel
theorem sta_Model_copyRow : Cond.static y_Model_copyRow ∈ tb := tw_1013
theorem cw_Model_isCell : Cond.code y_Model_isCell c_Model_isCell 1 (some .boolean) ∈ tb := tw_849
theorem ini_Model_isCell : Cond.initialized y_Model_isCell.cls ∈ tb := tw_70
theorem hd_Model_isCell : y_Model_isCell.cls ≠ "java/lang/invoke/MethodHandle" ∧ y_Model_isCell.cls ≠ "java/lang/invoke/VarHandle" ∧ (parseMethodDescriptor y_Model_isCell.desc).map (fun d => d.parameters.length) = some 1 := by decide +kernel
theorem sta_Model_isCell : Cond.static y_Model_isCell ∈ tb := tw_848
theorem cw_Model_isFamily : Cond.code y_Model_isFamily c_Model_isFamily 1 (some .boolean) ∈ tb := tw_902
theorem ini_Model_isFamily : Cond.initialized y_Model_isFamily.cls ∈ tb := tw_70
theorem hd_Model_isFamily : y_Model_isFamily.cls ≠ "java/lang/invoke/MethodHandle" ∧ y_Model_isFamily.cls ≠ "java/lang/invoke/VarHandle" ∧ (parseMethodDescriptor y_Model_isFamily.desc).map (fun d => d.parameters.length) = some 1 := by decide +kernel
theorem sta_Model_isFamily : Cond.static y_Model_isFamily ∈ tb := tw_901
theorem cw_Model_isThing : Cond.code y_Model_isThing c_Model_isThing 2 (some .boolean) ∈ tb := tw_924
theorem ini_Model_isThing : Cond.initialized y_Model_isThing.cls ∈ tb := tw_70
theorem hd_Model_isThing : y_Model_isThing.cls ≠ "java/lang/invoke/MethodHandle" ∧ y_Model_isThing.cls ≠ "java/lang/invoke/VarHandle" ∧ (parseMethodDescriptor y_Model_isThing.desc).map (fun d => d.parameters.length) = some 1 := by decide +kernel
theorem ins_Model_isThing : Cond.instanceMethod y_Model_isThing ∈ tb := tw_923
theorem sel_Model_isThing : Cond.selects R_Model y_Model_isThing y_Model_isThing ∈ tb := tw_33
theorem cw_Model_at : Cond.code y_Model_at c_Model_at 2 (some .int) ∈ tb := tw_916
theorem ini_Model_at : Cond.initialized y_Model_at.cls ∈ tb := tw_70
theorem hd_Model_at : y_Model_at.cls ≠ "java/lang/invoke/MethodHandle" ∧ y_Model_at.cls ≠ "java/lang/invoke/VarHandle" ∧ (parseMethodDescriptor y_Model_at.desc).map (fun d => d.parameters.length) = some 2 := by decide +kernel
theorem sta_Model_at : Cond.static y_Model_at ∈ tb := tw_915
theorem cw_Model_its : Cond.code y_Model_its c_Model_its 3 (some .int) ∈ tb := tw_878
theorem ini_Model_its : Cond.initialized y_Model_its.cls ∈ tb := tw_70
theorem hd_Model_its : y_Model_its.cls ≠ "java/lang/invoke/MethodHandle" ∧ y_Model_its.cls ≠ "java/lang/invoke/VarHandle" ∧ (parseMethodDescriptor y_Model_its.desc).map (fun d => d.parameters.length) = some 2 := by decide +kernel
theorem ins_Model_its : Cond.instanceMethod y_Model_its ∈ tb := tw_877
theorem sel_Model_its : Cond.selects R_Model y_Model_its y_Model_its ∈ tb := tw_31
theorem cw_Model_isIt : Cond.code y_Model_isIt c_Model_isIt 3 (some .boolean) ∈ tb := tw_874
theorem ini_Model_isIt : Cond.initialized y_Model_isIt.cls ∈ tb := tw_70
theorem hd_Model_isIt : y_Model_isIt.cls ≠ "java/lang/invoke/MethodHandle" ∧ y_Model_isIt.cls ≠ "java/lang/invoke/VarHandle" ∧ (parseMethodDescriptor y_Model_isIt.desc).map (fun d => d.parameters.length) = some 2 := by decide +kernel
theorem ins_Model_isIt : Cond.instanceMethod y_Model_isIt ∈ tb := tw_873
theorem sel_Model_isIt : Cond.selects R_Model y_Model_isIt y_Model_isIt ∈ tb := tw_30
theorem cw_Model_orNone : Cond.code y_Model_orNone c_Model_orNone 2 (some .int) ∈ tb := tw_1026
theorem ini_Model_orNone : Cond.initialized y_Model_orNone.cls ∈ tb := tw_70
theorem hd_Model_orNone : y_Model_orNone.cls ≠ "java/lang/invoke/MethodHandle" ∧ y_Model_orNone.cls ≠ "java/lang/invoke/VarHandle" ∧ (parseMethodDescriptor y_Model_orNone.desc).map (fun d => d.parameters.length) = some 1 := by decide +kernel
theorem ins_Model_orNone : Cond.instanceMethod y_Model_orNone ∈ tb := tw_1025
theorem sel_Model_orNone : Cond.selects R_Model y_Model_orNone y_Model_orNone ∈ tb := tw_45
theorem cw_Model_many : Cond.code y_Model_many c_Model_many 3 (some .int) ∈ tb := tw_965
theorem ini_Model_many : Cond.initialized y_Model_many.cls ∈ tb := tw_70
theorem hd_Model_many : y_Model_many.cls ≠ "java/lang/invoke/MethodHandle" ∧ y_Model_many.cls ≠ "java/lang/invoke/VarHandle" ∧ (parseMethodDescriptor y_Model_many.desc).map (fun d => d.parameters.length) = some 1 := by decide +kernel
theorem sta_Model_many : Cond.static y_Model_many ∈ tb := tw_964
theorem cw_Model_height : Cond.code y_Model_height c_Model_height 3 (some .int) ∈ tb := tw_846
theorem ini_Model_height : Cond.initialized y_Model_height.cls ∈ tb := tw_70
theorem hd_Model_height : y_Model_height.cls ≠ "java/lang/invoke/MethodHandle" ∧ y_Model_height.cls ≠ "java/lang/invoke/VarHandle" ∧ (parseMethodDescriptor y_Model_height.desc).map (fun d => d.parameters.length) = some 2 := by decide +kernel
theorem ins_Model_height : Cond.instanceMethod y_Model_height ∈ tb := tw_844
theorem sel_Model_height : Cond.selects R_Model y_Model_height y_Model_height ∈ tb := tw_845
theorem cw_Model_laidAt : Cond.code y_Model_laidAt c_Model_laidAt 4 (some .int) ∈ tb := tw_870
theorem ini_Model_laidAt : Cond.initialized y_Model_laidAt.cls ∈ tb := tw_70
theorem hd_Model_laidAt : y_Model_laidAt.cls ≠ "java/lang/invoke/MethodHandle" ∧ y_Model_laidAt.cls ≠ "java/lang/invoke/VarHandle" ∧ (parseMethodDescriptor y_Model_laidAt.desc).map (fun d => d.parameters.length) = some 1 := by decide +kernel
theorem ins_Model_laidAt : Cond.instanceMethod y_Model_laidAt ∈ tb := tw_869
theorem sel_Model_laidAt : Cond.selects R_Model y_Model_laidAt y_Model_laidAt ∈ tb := tw_29
theorem cw_Model_cell : Cond.code y_Model_cell c_Model_cell 3 (some .int) ∈ tb := tw_866
theorem ini_Model_cell : Cond.initialized y_Model_cell.cls ∈ tb := tw_70
theorem hd_Model_cell : y_Model_cell.cls ≠ "java/lang/invoke/MethodHandle" ∧ y_Model_cell.cls ≠ "java/lang/invoke/VarHandle" ∧ (parseMethodDescriptor y_Model_cell.desc).map (fun d => d.parameters.length) = some 2 := by decide +kernel
theorem ins_Model_cell : Cond.instanceMethod y_Model_cell ∈ tb := tw_864
theorem sel_Model_cell : Cond.selects R_Model y_Model_cell y_Model_cell ∈ tb := tw_865
theorem cw_Model_interest : Cond.code y_Model_interest c_Model_interest 2 (some .int) ∈ tb := tw_882
theorem ini_Model_interest : Cond.initialized y_Model_interest.cls ∈ tb := tw_70
theorem hd_Model_interest : y_Model_interest.cls ≠ "java/lang/invoke/MethodHandle" ∧ y_Model_interest.cls ≠ "java/lang/invoke/VarHandle" ∧ (parseMethodDescriptor y_Model_interest.desc).map (fun d => d.parameters.length) = some 1 := by decide +kernel
theorem ins_Model_interest : Cond.instanceMethod y_Model_interest ∈ tb := tw_880
theorem sel_Model_interest : Cond.selects R_Model y_Model_interest y_Model_interest ∈ tb := tw_881
theorem cw_Model_isSpring : Cond.code y_Model_isSpring c_Model_isSpring 1 (some .boolean) ∈ tb := tw_895
theorem ini_Model_isSpring : Cond.initialized y_Model_isSpring.cls ∈ tb := tw_70
theorem hd_Model_isSpring : y_Model_isSpring.cls ≠ "java/lang/invoke/MethodHandle" ∧ y_Model_isSpring.cls ≠ "java/lang/invoke/VarHandle" ∧ (parseMethodDescriptor y_Model_isSpring.desc).map (fun d => d.parameters.length) = some 1 := by decide +kernel
theorem sta_Model_isSpring : Cond.static y_Model_isSpring ∈ tb := tw_894
theorem cw_Model_mark : Cond.code y_Model_mark c_Model_mark 2 (some .int) ∈ tb := tw_892
theorem ini_Model_mark : Cond.initialized y_Model_mark.cls ∈ tb := tw_70
theorem hd_Model_mark : y_Model_mark.cls ≠ "java/lang/invoke/MethodHandle" ∧ y_Model_mark.cls ≠ "java/lang/invoke/VarHandle" ∧ (parseMethodDescriptor y_Model_mark.desc).map (fun d => d.parameters.length) = some 1 := by decide +kernel
theorem sta_Model_mark : Cond.static y_Model_mark ∈ tb := tw_891
theorem cw_Model_tide : Cond.code y_Model_tide c_Model_tide 5 (some .int) ∈ tb := tw_887
theorem ini_Model_tide : Cond.initialized y_Model_tide.cls ∈ tb := tw_70
theorem hd_Model_tide : y_Model_tide.cls ≠ "java/lang/invoke/MethodHandle" ∧ y_Model_tide.cls ≠ "java/lang/invoke/VarHandle" ∧ (parseMethodDescriptor y_Model_tide.desc).map (fun d => d.parameters.length) = some 2 := by decide +kernel
theorem ins_Model_tide : Cond.instanceMethod y_Model_tide ∈ tb := tw_885
theorem sel_Model_tide : Cond.selects R_Model y_Model_tide y_Model_tide ∈ tb := tw_886
theorem cw_Model_purse : Cond.code y_Model_purse c_Model_purse 3 (some .int) ∈ tb := tw_899
theorem ini_Model_purse : Cond.initialized y_Model_purse.cls ∈ tb := tw_70
theorem hd_Model_purse : y_Model_purse.cls ≠ "java/lang/invoke/MethodHandle" ∧ y_Model_purse.cls ≠ "java/lang/invoke/VarHandle" ∧ (parseMethodDescriptor y_Model_purse.desc).map (fun d => d.parameters.length) = some 2 := by decide +kernel
theorem ins_Model_purse : Cond.instanceMethod y_Model_purse ∈ tb := tw_897
theorem sel_Model_purse : Cond.selects R_Model y_Model_purse y_Model_purse ∈ tb := tw_898
theorem cw_Model_comes : Cond.code y_Model_comes c_Model_comes 4 none ∈ tb := tw_913
theorem ini_Model_comes : Cond.initialized y_Model_comes.cls ∈ tb := tw_70
theorem hd_Model_comes : y_Model_comes.cls ≠ "java/lang/invoke/MethodHandle" ∧ y_Model_comes.cls ≠ "java/lang/invoke/VarHandle" ∧ (parseMethodDescriptor y_Model_comes.desc).map (fun d => d.parameters.length) = some 2 := by decide +kernel
theorem ins_Model_comes : Cond.instanceMethod y_Model_comes ∈ tb := tw_912
theorem sel_Model_comes : Cond.selects R_Model y_Model_comes y_Model_comes ∈ tb := tw_32
theorem cw_Model_thing : Cond.code y_Model_thing c_Model_thing 3 (some .int) ∈ tb := tw_907
theorem ini_Model_thing : Cond.initialized y_Model_thing.cls ∈ tb := tw_70
theorem hd_Model_thing : y_Model_thing.cls ≠ "java/lang/invoke/MethodHandle" ∧ y_Model_thing.cls ≠ "java/lang/invoke/VarHandle" ∧ (parseMethodDescriptor y_Model_thing.desc).map (fun d => d.parameters.length) = some 2 := by decide +kernel
theorem ins_Model_thing : Cond.instanceMethod y_Model_thing ∈ tb := tw_905
theorem sel_Model_thing : Cond.selects R_Model y_Model_thing y_Model_thing ∈ tb := tw_906
theorem cw_Model_term : Cond.code y_Model_term c_Model_term 1 (some .int) ∈ tb := tw_928
theorem ini_Model_term : Cond.initialized y_Model_term.cls ∈ tb := tw_70
theorem hd_Model_term : y_Model_term.cls ≠ "java/lang/invoke/MethodHandle" ∧ y_Model_term.cls ≠ "java/lang/invoke/VarHandle" ∧ (parseMethodDescriptor y_Model_term.desc).map (fun d => d.parameters.length) = some 1 := by decide +kernel
theorem sta_Model_term : Cond.static y_Model_term ∈ tb := tw_927
theorem cw_Model_repays : Cond.code y_Model_repays c_Model_repays 9 (some .int) ∈ tb := tw_936
theorem ini_Model_repays : Cond.initialized y_Model_repays.cls ∈ tb := tw_70
theorem hd_Model_repays : y_Model_repays.cls ≠ "java/lang/invoke/MethodHandle" ∧ y_Model_repays.cls ≠ "java/lang/invoke/VarHandle" ∧ (parseMethodDescriptor y_Model_repays.desc).map (fun d => d.parameters.length) = some 2 := by decide +kernel
theorem ins_Model_repays : Cond.instanceMethod y_Model_repays ∈ tb := tw_935
theorem sel_Model_repays : Cond.selects R_Model y_Model_repays y_Model_repays ∈ tb := tw_35
theorem cw_Model_wouldRepay : Cond.code y_Model_wouldRepay c_Model_wouldRepay 2 (some .int) ∈ tb := tw_932
theorem ini_Model_wouldRepay : Cond.initialized y_Model_wouldRepay.cls ∈ tb := tw_70
theorem hd_Model_wouldRepay : y_Model_wouldRepay.cls ≠ "java/lang/invoke/MethodHandle" ∧ y_Model_wouldRepay.cls ≠ "java/lang/invoke/VarHandle" ∧ (parseMethodDescriptor y_Model_wouldRepay.desc).map (fun d => d.parameters.length) = some 1 := by decide +kernel
theorem ins_Model_wouldRepay : Cond.instanceMethod y_Model_wouldRepay ∈ tb := tw_931
theorem sel_Model_wouldRepay : Cond.selects R_Model y_Model_wouldRepay y_Model_wouldRepay ∈ tb := tw_34
theorem cw_Model_of : Cond.code y_Model_of c_Model_of 3 (some .int) ∈ tb := tw_920
theorem ini_Model_of : Cond.initialized y_Model_of.cls ∈ tb := tw_70
theorem hd_Model_of : y_Model_of.cls ≠ "java/lang/invoke/MethodHandle" ∧ y_Model_of.cls ≠ "java/lang/invoke/VarHandle" ∧ (parseMethodDescriptor y_Model_of.desc).map (fun d => d.parameters.length) = some 2 := by decide +kernel
theorem ins_Model_of : Cond.instanceMethod y_Model_of ∈ tb := tw_918
theorem sel_Model_of : Cond.selects R_Model y_Model_of y_Model_of ∈ tb := tw_919
theorem cw_Model_set : Cond.code y_Model_set c_Model_set 5 (some .int) ∈ tb := tw_943
theorem ini_Model_set : Cond.initialized y_Model_set.cls ∈ tb := tw_70
theorem hd_Model_set : y_Model_set.cls ≠ "java/lang/invoke/MethodHandle" ∧ y_Model_set.cls ≠ "java/lang/invoke/VarHandle" ∧ (parseMethodDescriptor y_Model_set.desc).map (fun d => d.parameters.length) = some 3 := by decide +kernel
theorem ins_Model_set : Cond.instanceMethod y_Model_set ∈ tb := tw_941
theorem sel_Model_set : Cond.selects R_Model y_Model_set y_Model_set ∈ tb := tw_942
theorem cw_Model_turn : Cond.code y_Model_turn c_Model_turn 3 (some .int) ∈ tb := tw_948
theorem ini_Model_turn : Cond.initialized y_Model_turn.cls ∈ tb := tw_70
theorem hd_Model_turn : y_Model_turn.cls ≠ "java/lang/invoke/MethodHandle" ∧ y_Model_turn.cls ≠ "java/lang/invoke/VarHandle" ∧ (parseMethodDescriptor y_Model_turn.desc).map (fun d => d.parameters.length) = some 2 := by decide +kernel
theorem ins_Model_turn : Cond.instanceMethod y_Model_turn ∈ tb := tw_946
theorem sel_Model_turn : Cond.selects R_Model y_Model_turn y_Model_turn ∈ tb := tw_947
theorem cw_Model_as : Cond.code y_Model_as c_Model_as 5 (some .int) ∈ tb := tw_952
theorem ini_Model_as : Cond.initialized y_Model_as.cls ∈ tb := tw_70
theorem hd_Model_as : y_Model_as.cls ≠ "java/lang/invoke/MethodHandle" ∧ y_Model_as.cls ≠ "java/lang/invoke/VarHandle" ∧ (parseMethodDescriptor y_Model_as.desc).map (fun d => d.parameters.length) = some 2 := by decide +kernel
theorem ins_Model_as : Cond.instanceMethod y_Model_as ∈ tb := tw_950
theorem sel_Model_as : Cond.selects R_Model y_Model_as y_Model_as ∈ tb := tw_951
theorem cw_Model_lies : Cond.code y_Model_lies c_Model_lies 3 none ∈ tb := tw_962
theorem ini_Model_lies : Cond.initialized y_Model_lies.cls ∈ tb := tw_70
theorem hd_Model_lies : y_Model_lies.cls ≠ "java/lang/invoke/MethodHandle" ∧ y_Model_lies.cls ≠ "java/lang/invoke/VarHandle" ∧ (parseMethodDescriptor y_Model_lies.desc).map (fun d => d.parameters.length) = some 2 := by decide +kernel
theorem ins_Model_lies : Cond.instanceMethod y_Model_lies ∈ tb := tw_961
theorem sel_Model_lies : Cond.selects R_Model y_Model_lies y_Model_lies ∈ tb := tw_36
theorem cw_Model_lay : Cond.code y_Model_lay c_Model_lay 3 (some .int) ∈ tb := tw_957
theorem ini_Model_lay : Cond.initialized y_Model_lay.cls ∈ tb := tw_70
theorem hd_Model_lay : y_Model_lay.cls ≠ "java/lang/invoke/MethodHandle" ∧ y_Model_lay.cls ≠ "java/lang/invoke/VarHandle" ∧ (parseMethodDescriptor y_Model_lay.desc).map (fun d => d.parameters.length) = some 2 := by decide +kernel
theorem ins_Model_lay : Cond.instanceMethod y_Model_lay ∈ tb := tw_955
theorem sel_Model_lay : Cond.selects R_Model y_Model_lay y_Model_lay ∈ tb := tw_956
theorem cw_Model_fetch : Cond.code y_Model_fetch c_Model_fetch 2 (some .int) ∈ tb := tw_969
theorem ini_Model_fetch : Cond.initialized y_Model_fetch.cls ∈ tb := tw_70
theorem hd_Model_fetch : y_Model_fetch.cls ≠ "java/lang/invoke/MethodHandle" ∧ y_Model_fetch.cls ≠ "java/lang/invoke/VarHandle" ∧ (parseMethodDescriptor y_Model_fetch.desc).map (fun d => d.parameters.length) = some 1 := by decide +kernel
theorem ins_Model_fetch : Cond.instanceMethod y_Model_fetch ∈ tb := tw_967
theorem sel_Model_fetch : Cond.selects R_Model y_Model_fetch y_Model_fetch ∈ tb := tw_968
theorem cw_Model_isTaken : Cond.code y_Model_isTaken c_Model_isTaken 5 (some .boolean) ∈ tb := tw_991
theorem ini_Model_isTaken : Cond.initialized y_Model_isTaken.cls ∈ tb := tw_70
theorem hd_Model_isTaken : y_Model_isTaken.cls ≠ "java/lang/invoke/MethodHandle" ∧ y_Model_isTaken.cls ≠ "java/lang/invoke/VarHandle" ∧ (parseMethodDescriptor y_Model_isTaken.desc).map (fun d => d.parameters.length) = some 1 := by decide +kernel
theorem ins_Model_isTaken : Cond.instanceMethod y_Model_isTaken ∈ tb := tw_990
theorem sel_Model_isTaken : Cond.selects R_Model y_Model_isTaken y_Model_isTaken ∈ tb := tw_40
theorem cw_Model_comesHome : Cond.code y_Model_comesHome c_Model_comesHome 5 none ∈ tb := tw_987
theorem ini_Model_comesHome : Cond.initialized y_Model_comesHome.cls ∈ tb := tw_70
theorem hd_Model_comesHome : y_Model_comesHome.cls ≠ "java/lang/invoke/MethodHandle" ∧ y_Model_comesHome.cls ≠ "java/lang/invoke/VarHandle" ∧ (parseMethodDescriptor y_Model_comesHome.desc).map (fun d => d.parameters.length) = some 2 := by decide +kernel
theorem ins_Model_comesHome : Cond.instanceMethod y_Model_comesHome ∈ tb := tw_986
theorem sel_Model_comesHome : Cond.selects R_Model y_Model_comesHome y_Model_comesHome ∈ tb := tw_39
theorem cw_Model_day : Cond.code y_Model_day c_Model_day 3 none ∈ tb := tw_983
theorem ini_Model_day : Cond.initialized y_Model_day.cls ∈ tb := tw_70
theorem hd_Model_day : y_Model_day.cls ≠ "java/lang/invoke/MethodHandle" ∧ y_Model_day.cls ≠ "java/lang/invoke/VarHandle" ∧ (parseMethodDescriptor y_Model_day.desc).map (fun d => d.parameters.length) = some 0 := by decide +kernel
theorem ins_Model_day : Cond.instanceMethod y_Model_day ∈ tb := tw_982
theorem sel_Model_day : Cond.selects R_Model y_Model_day y_Model_day ∈ tb := tw_38
theorem cw_Model_goes : Cond.code y_Model_goes c_Model_goes 3 none ∈ tb := tw_979
theorem ini_Model_goes : Cond.initialized y_Model_goes.cls ∈ tb := tw_70
theorem hd_Model_goes : y_Model_goes.cls ≠ "java/lang/invoke/MethodHandle" ∧ y_Model_goes.cls ≠ "java/lang/invoke/VarHandle" ∧ (parseMethodDescriptor y_Model_goes.desc).map (fun d => d.parameters.length) = some 1 := by decide +kernel
theorem ins_Model_goes : Cond.instanceMethod y_Model_goes ∈ tb := tw_978
theorem sel_Model_goes : Cond.selects R_Model y_Model_goes y_Model_goes ∈ tb := tw_37
theorem cw_Model_purses : Cond.code y_Model_purses c_Model_purses 1 (some .long) ∈ tb := tw_995
theorem ini_Model_purses : Cond.initialized y_Model_purses.cls ∈ tb := tw_70
theorem hd_Model_purses : y_Model_purses.cls ≠ "java/lang/invoke/MethodHandle" ∧ y_Model_purses.cls ≠ "java/lang/invoke/VarHandle" ∧ (parseMethodDescriptor y_Model_purses.desc).map (fun d => d.parameters.length) = some 0 := by decide +kernel
theorem ins_Model_purses : Cond.instanceMethod y_Model_purses ∈ tb := tw_994
theorem sel_Model_purses : Cond.selects R_Model y_Model_purses y_Model_purses ∈ tb := tw_41
theorem cw_Model_days : Cond.code y_Model_days c_Model_days 2 (some .long) ∈ tb := tw_973
theorem ini_Model_days : Cond.initialized y_Model_days.cls ∈ tb := tw_70
theorem hd_Model_days : y_Model_days.cls ≠ "java/lang/invoke/MethodHandle" ∧ y_Model_days.cls ≠ "java/lang/invoke/VarHandle" ∧ (parseMethodDescriptor y_Model_days.desc).map (fun d => d.parameters.length) = some 1 := by decide +kernel
theorem ins_Model_days : Cond.instanceMethod y_Model_days ∈ tb := tw_971
theorem sel_Model_days : Cond.selects R_Model y_Model_days y_Model_days ∈ tb := tw_972
theorem cw_Model_thoseThatAre : Cond.code y_Model_thoseThatAre c_Model_thoseThatAre 4 (some .int) ∈ tb := tw_1003
theorem ini_Model_thoseThatAre : Cond.initialized y_Model_thoseThatAre.cls ∈ tb := tw_70
theorem hd_Model_thoseThatAre : y_Model_thoseThatAre.cls ≠ "java/lang/invoke/MethodHandle" ∧ y_Model_thoseThatAre.cls ≠ "java/lang/invoke/VarHandle" ∧ (parseMethodDescriptor y_Model_thoseThatAre.desc).map (fun d => d.parameters.length) = some 1 := by decide +kernel
theorem ins_Model_thoseThatAre : Cond.instanceMethod y_Model_thoseThatAre ∈ tb := tw_1002
theorem sel_Model_thoseThatAre : Cond.selects R_Model y_Model_thoseThatAre y_Model_thoseThatAre ∈ tb := tw_42
theorem cw_Model_now : Cond.code y_Model_now c_Model_now 4 (some .int) ∈ tb := tw_999
theorem ini_Model_now : Cond.initialized y_Model_now.cls ∈ tb := tw_70
theorem hd_Model_now : y_Model_now.cls ≠ "java/lang/invoke/MethodHandle" ∧ y_Model_now.cls ≠ "java/lang/invoke/VarHandle" ∧ (parseMethodDescriptor y_Model_now.desc).map (fun d => d.parameters.length) = some 1 := by decide +kernel
theorem ins_Model_now : Cond.instanceMethod y_Model_now ∈ tb := tw_997
theorem sel_Model_now : Cond.selects R_Model y_Model_now y_Model_now ∈ tb := tw_998
theorem cw_Model_purseOn : Cond.code y_Model_purseOn c_Model_purseOn 4 (some .int) ∈ tb := tw_1011
theorem ini_Model_purseOn : Cond.initialized y_Model_purseOn.cls ∈ tb := tw_70
theorem hd_Model_purseOn : y_Model_purseOn.cls ≠ "java/lang/invoke/MethodHandle" ∧ y_Model_purseOn.cls ≠ "java/lang/invoke/VarHandle" ∧ (parseMethodDescriptor y_Model_purseOn.desc).map (fun d => d.parameters.length) = some 2 := by decide +kernel
theorem ins_Model_purseOn : Cond.instanceMethod y_Model_purseOn ∈ tb := tw_1010
theorem sel_Model_purseOn : Cond.selects R_Model y_Model_purseOn y_Model_purseOn ∈ tb := tw_43
theorem cw_Model_on : Cond.code y_Model_on c_Model_on 3 (some .int) ∈ tb := tw_1007
theorem ini_Model_on : Cond.initialized y_Model_on.cls ∈ tb := tw_70
theorem hd_Model_on : y_Model_on.cls ≠ "java/lang/invoke/MethodHandle" ∧ y_Model_on.cls ≠ "java/lang/invoke/VarHandle" ∧ (parseMethodDescriptor y_Model_on.desc).map (fun d => d.parameters.length) = some 2 := by decide +kernel
theorem ins_Model_on : Cond.instanceMethod y_Model_on ∈ tb := tw_1005
theorem sel_Model_on : Cond.selects R_Model y_Model_on y_Model_on ∈ tb := tw_1006
theorem cw_Model_whenIt : Cond.code y_Model_whenIt c_Model_whenIt 4 (some .int) ∈ tb := tw_1022
theorem ini_Model_whenIt : Cond.initialized y_Model_whenIt.cls ∈ tb := tw_70
theorem hd_Model_whenIt : y_Model_whenIt.cls ≠ "java/lang/invoke/MethodHandle" ∧ y_Model_whenIt.cls ≠ "java/lang/invoke/VarHandle" ∧ (parseMethodDescriptor y_Model_whenIt.desc).map (fun d => d.parameters.length) = some 2 := by decide +kernel
theorem ins_Model_whenIt : Cond.instanceMethod y_Model_whenIt ∈ tb := tw_1021
theorem sel_Model_whenIt : Cond.selects R_Model y_Model_whenIt y_Model_whenIt ∈ tb := tw_44
theorem cw_Model_taken : Cond.code y_Model_taken c_Model_taken 2 (some .int) ∈ tb := tw_1018
theorem ini_Model_taken : Cond.initialized y_Model_taken.cls ∈ tb := tw_70
theorem hd_Model_taken : y_Model_taken.cls ≠ "java/lang/invoke/MethodHandle" ∧ y_Model_taken.cls ≠ "java/lang/invoke/VarHandle" ∧ (parseMethodDescriptor y_Model_taken.desc).map (fun d => d.parameters.length) = some 1 := by decide +kernel
theorem ins_Model_taken : Cond.instanceMethod y_Model_taken ∈ tb := tw_1016
theorem sel_Model_taken : Cond.selects R_Model y_Model_taken y_Model_taken ∈ tb := tw_1017
theorem cw_Model_home : Cond.code y_Model_home c_Model_home 2 (some .int) ∈ tb := tw_1031
theorem ini_Model_home : Cond.initialized y_Model_home.cls ∈ tb := tw_70
theorem hd_Model_home : y_Model_home.cls ≠ "java/lang/invoke/MethodHandle" ∧ y_Model_home.cls ≠ "java/lang/invoke/VarHandle" ∧ (parseMethodDescriptor y_Model_home.desc).map (fun d => d.parameters.length) = some 1 := by decide +kernel
theorem ins_Model_home : Cond.instanceMethod y_Model_home ∈ tb := tw_1029
theorem sel_Model_home : Cond.selects R_Model y_Model_home y_Model_home ∈ tb := tw_1030
theorem cw_Model_due : Cond.code y_Model_due c_Model_due 3 (some .int) ∈ tb := tw_1035
theorem ini_Model_due : Cond.initialized y_Model_due.cls ∈ tb := tw_70
theorem hd_Model_due : y_Model_due.cls ≠ "java/lang/invoke/MethodHandle" ∧ y_Model_due.cls ≠ "java/lang/invoke/VarHandle" ∧ (parseMethodDescriptor y_Model_due.desc).map (fun d => d.parameters.length) = some 0 := by decide +kernel
theorem ins_Model_due : Cond.instanceMethod y_Model_due ∈ tb := tw_1033
theorem sel_Model_due : Cond.selects R_Model y_Model_due y_Model_due ∈ tb := tw_1034
theorem cw_Model_pursesOn : Cond.code y_Model_pursesOn c_Model_pursesOn 4 (some .long) ∈ tb := tw_1044
theorem ini_Model_pursesOn : Cond.initialized y_Model_pursesOn.cls ∈ tb := tw_70
theorem hd_Model_pursesOn : y_Model_pursesOn.cls ≠ "java/lang/invoke/MethodHandle" ∧ y_Model_pursesOn.cls ≠ "java/lang/invoke/VarHandle" ∧ (parseMethodDescriptor y_Model_pursesOn.desc).map (fun d => d.parameters.length) = some 1 := by decide +kernel
theorem ins_Model_pursesOn : Cond.instanceMethod y_Model_pursesOn ∈ tb := tw_1043
theorem sel_Model_pursesOn : Cond.selects R_Model y_Model_pursesOn y_Model_pursesOn ∈ tb := tw_46
theorem cw_Model_spot : Cond.code y_Model_spot c_Model_spot 11 (some .int) ∈ tb := tw_1039
theorem ini_Model_spot : Cond.initialized y_Model_spot.cls ∈ tb := tw_70
theorem hd_Model_spot : y_Model_spot.cls ≠ "java/lang/invoke/MethodHandle" ∧ y_Model_spot.cls ≠ "java/lang/invoke/VarHandle" ∧ (parseMethodDescriptor y_Model_spot.desc).map (fun d => d.parameters.length) = some 2 := by decide +kernel
theorem ins_Model_spot : Cond.instanceMethod y_Model_spot ∈ tb := tw_1037
theorem sel_Model_spot : Cond.selects R_Model y_Model_spot y_Model_spot ∈ tb := tw_1038
theorem cw_Model_delay : Cond.code y_Model_delay c_Model_delay 10 (some .int) ∈ tb := tw_1048
theorem ini_Model_delay : Cond.initialized y_Model_delay.cls ∈ tb := tw_70
theorem hd_Model_delay : y_Model_delay.cls ≠ "java/lang/invoke/MethodHandle" ∧ y_Model_delay.cls ≠ "java/lang/invoke/VarHandle" ∧ (parseMethodDescriptor y_Model_delay.desc).map (fun d => d.parameters.length) = some 3 := by decide +kernel
theorem ins_Model_delay : Cond.instanceMethod y_Model_delay ∈ tb := tw_1046
theorem sel_Model_delay : Cond.selects R_Model y_Model_delay y_Model_delay ∈ tb := tw_1047
theorem cw_Model_kind : Cond.code y_Model_kind c_Model_kind 10 (some .int) ∈ tb := tw_1053
theorem ini_Model_kind : Cond.initialized y_Model_kind.cls ∈ tb := tw_70
theorem hd_Model_kind : y_Model_kind.cls ≠ "java/lang/invoke/MethodHandle" ∧ y_Model_kind.cls ≠ "java/lang/invoke/VarHandle" ∧ (parseMethodDescriptor y_Model_kind.desc).map (fun d => d.parameters.length) = some 2 := by decide +kernel
theorem ins_Model_kind : Cond.instanceMethod y_Model_kind ∈ tb := tw_1051
theorem sel_Model_kind : Cond.selects R_Model y_Model_kind y_Model_kind ∈ tb := tw_1052
theorem cw_Model_worth : Cond.code y_Model_worth c_Model_worth 7 (some .int) ∈ tb := tw_1057
theorem ini_Model_worth : Cond.initialized y_Model_worth.cls ∈ tb := tw_70
theorem hd_Model_worth : y_Model_worth.cls ≠ "java/lang/invoke/MethodHandle" ∧ y_Model_worth.cls ≠ "java/lang/invoke/VarHandle" ∧ (parseMethodDescriptor y_Model_worth.desc).map (fun d => d.parameters.length) = some 3 := by decide +kernel
theorem ins_Model_worth : Cond.instanceMethod y_Model_worth ∈ tb := tw_1055
theorem sel_Model_worth : Cond.selects R_Model y_Model_worth y_Model_worth ∈ tb := tw_1056
theorem cw_Model_richest : Cond.code y_Model_richest c_Model_richest 4 (some .int) ∈ tb := tw_1062
theorem ini_Model_richest : Cond.initialized y_Model_richest.cls ∈ tb := tw_70
theorem hd_Model_richest : y_Model_richest.cls ≠ "java/lang/invoke/MethodHandle" ∧ y_Model_richest.cls ≠ "java/lang/invoke/VarHandle" ∧ (parseMethodDescriptor y_Model_richest.desc).map (fun d => d.parameters.length) = some 1 := by decide +kernel
theorem ins_Model_richest : Cond.instanceMethod y_Model_richest ∈ tb := tw_1060
theorem sel_Model_richest : Cond.selects R_Model y_Model_richest y_Model_richest ∈ tb := tw_1061
theorem cw_Model_fewest : Cond.code y_Model_fewest c_Model_fewest 8 (some .int) ∈ tb := tw_1066
theorem ini_Model_fewest : Cond.initialized y_Model_fewest.cls ∈ tb := tw_70
theorem hd_Model_fewest : y_Model_fewest.cls ≠ "java/lang/invoke/MethodHandle" ∧ y_Model_fewest.cls ≠ "java/lang/invoke/VarHandle" ∧ (parseMethodDescriptor y_Model_fewest.desc).map (fun d => d.parameters.length) = some 3 := by decide +kernel
theorem ins_Model_fewest : Cond.instanceMethod y_Model_fewest ∈ tb := tw_1064
theorem sel_Model_fewest : Cond.selects R_Model y_Model_fewest y_Model_fewest ∈ tb := tw_1065
theorem cw_Model_rate : Cond.code y_Model_rate c_Model_rate 6 (some .int) ∈ tb := tw_1070
theorem ini_Model_rate : Cond.initialized y_Model_rate.cls ∈ tb := tw_70
theorem hd_Model_rate : y_Model_rate.cls ≠ "java/lang/invoke/MethodHandle" ∧ y_Model_rate.cls ≠ "java/lang/invoke/VarHandle" ∧ (parseMethodDescriptor y_Model_rate.desc).map (fun d => d.parameters.length) = some 2 := by decide +kernel
theorem ins_Model_rate : Cond.instanceMethod y_Model_rate ∈ tb := tw_1068
theorem sel_Model_rate : Cond.selects R_Model y_Model_rate y_Model_rate ∈ tb := tw_1069
theorem cw_Model_feed : Cond.code y_Model_feed c_Model_feed 4 (some .int) ∈ tb := tw_1074
theorem ini_Model_feed : Cond.initialized y_Model_feed.cls ∈ tb := tw_70
theorem hd_Model_feed : y_Model_feed.cls ≠ "java/lang/invoke/MethodHandle" ∧ y_Model_feed.cls ≠ "java/lang/invoke/VarHandle" ∧ (parseMethodDescriptor y_Model_feed.desc).map (fun d => d.parameters.length) = some 2 := by decide +kernel
theorem ins_Model_feed : Cond.instanceMethod y_Model_feed ∈ tb := tw_1072
theorem sel_Model_feed : Cond.selects R_Model y_Model_feed y_Model_feed ∈ tb := tw_1073
theorem cw_Model_wipe : Cond.code y_Model_wipe c_Model_wipe 2 (some .int) ∈ tb := tw_1079
theorem ini_Model_wipe : Cond.initialized y_Model_wipe.cls ∈ tb := tw_70
theorem hd_Model_wipe : y_Model_wipe.cls ≠ "java/lang/invoke/MethodHandle" ∧ y_Model_wipe.cls ≠ "java/lang/invoke/VarHandle" ∧ (parseMethodDescriptor y_Model_wipe.desc).map (fun d => d.parameters.length) = some 0 := by decide +kernel
theorem ins_Model_wipe : Cond.instanceMethod y_Model_wipe ∈ tb := tw_1077
theorem sel_Model_wipe : Cond.selects R_Model y_Model_wipe y_Model_wipe ∈ tb := tw_1078
theorem cw_Model_isLetter : Cond.code y_Model_isLetter c_Model_isLetter 1 (some .boolean) ∈ tb := tw_1094
theorem ini_Model_isLetter : Cond.initialized y_Model_isLetter.cls ∈ tb := tw_70
theorem hd_Model_isLetter : y_Model_isLetter.cls ≠ "java/lang/invoke/MethodHandle" ∧ y_Model_isLetter.cls ≠ "java/lang/invoke/VarHandle" ∧ (parseMethodDescriptor y_Model_isLetter.desc).map (fun d => d.parameters.length) = some 1 := by decide +kernel
theorem sta_Model_isLetter : Cond.static y_Model_isLetter ∈ tb := tw_1093
theorem cw_Model_isDigit : Cond.code y_Model_isDigit c_Model_isDigit 1 (some .boolean) ∈ tb := tw_1097
theorem ini_Model_isDigit : Cond.initialized y_Model_isDigit.cls ∈ tb := tw_70
theorem hd_Model_isDigit : y_Model_isDigit.cls ≠ "java/lang/invoke/MethodHandle" ∧ y_Model_isDigit.cls ≠ "java/lang/invoke/VarHandle" ∧ (parseMethodDescriptor y_Model_isDigit.desc).map (fun d => d.parameters.length) = some 1 := by decide +kernel
theorem sta_Model_isDigit : Cond.static y_Model_isDigit ∈ tb := tw_1096
theorem cw_Model_byteAt : Cond.code y_Model_byteAt c_Model_byteAt 2 (some .int) ∈ tb := tw_1091
theorem ini_Model_byteAt : Cond.initialized y_Model_byteAt.cls ∈ tb := tw_70
theorem hd_Model_byteAt : y_Model_byteAt.cls ≠ "java/lang/invoke/MethodHandle" ∧ y_Model_byteAt.cls ≠ "java/lang/invoke/VarHandle" ∧ (parseMethodDescriptor y_Model_byteAt.desc).map (fun d => d.parameters.length) = some 1 := by decide +kernel
theorem ins_Model_byteAt : Cond.instanceMethod y_Model_byteAt ∈ tb := tw_1090
theorem sel_Model_byteAt : Cond.selects R_Model y_Model_byteAt y_Model_byteAt ∈ tb := tw_48
theorem cw_Model_nextToken : Cond.code y_Model_nextToken c_Model_nextToken 2 none ∈ tb := tw_1087
theorem ini_Model_nextToken : Cond.initialized y_Model_nextToken.cls ∈ tb := tw_70
theorem hd_Model_nextToken : y_Model_nextToken.cls ≠ "java/lang/invoke/MethodHandle" ∧ y_Model_nextToken.cls ≠ "java/lang/invoke/VarHandle" ∧ (parseMethodDescriptor y_Model_nextToken.desc).map (fun d => d.parameters.length) = some 0 := by decide +kernel
theorem ins_Model_nextToken : Cond.instanceMethod y_Model_nextToken ∈ tb := tw_1086
theorem sel_Model_nextToken : Cond.selects R_Model y_Model_nextToken y_Model_nextToken ∈ tb := tw_47
theorem cw_Model_has3 : Cond.code y_Model_has3 c_Model_has3 5 (some .boolean) ∈ tb := tw_1117
theorem ini_Model_has3 : Cond.initialized y_Model_has3.cls ∈ tb := tw_70
theorem hd_Model_has3 : y_Model_has3.cls ≠ "java/lang/invoke/MethodHandle" ∧ y_Model_has3.cls ≠ "java/lang/invoke/VarHandle" ∧ (parseMethodDescriptor y_Model_has3.desc).map (fun d => d.parameters.length) = some 4 := by decide +kernel
theorem ins_Model_has3 : Cond.instanceMethod y_Model_has3 ∈ tb := tw_1116
theorem sel_Model_has3 : Cond.selects R_Model y_Model_has3 y_Model_has3 ∈ tb := tw_53
theorem cw_Model_isWord : Cond.code y_Model_isWord c_Model_isWord 2 (some .boolean) ∈ tb := tw_1113
theorem ini_Model_isWord : Cond.initialized y_Model_isWord.cls ∈ tb := tw_70
theorem hd_Model_isWord : y_Model_isWord.cls ≠ "java/lang/invoke/MethodHandle" ∧ y_Model_isWord.cls ≠ "java/lang/invoke/VarHandle" ∧ (parseMethodDescriptor y_Model_isWord.desc).map (fun d => d.parameters.length) = some 1 := by decide +kernel
theorem ins_Model_isWord : Cond.instanceMethod y_Model_isWord ∈ tb := tw_1112
theorem sel_Model_isWord : Cond.selects R_Model y_Model_isWord y_Model_isWord ∈ tb := tw_52
theorem cw_Model_fails : Cond.code y_Model_fails c_Model_fails 1 (some .boolean) ∈ tb := tw_1129
theorem ini_Model_fails : Cond.initialized y_Model_fails.cls ∈ tb := tw_70
theorem hd_Model_fails : y_Model_fails.cls ≠ "java/lang/invoke/MethodHandle" ∧ y_Model_fails.cls ≠ "java/lang/invoke/VarHandle" ∧ (parseMethodDescriptor y_Model_fails.desc).map (fun d => d.parameters.length) = some 0 := by decide +kernel
theorem ins_Model_fails : Cond.instanceMethod y_Model_fails ∈ tb := tw_1128
theorem sel_Model_fails : Cond.selects R_Model y_Model_fails y_Model_fails ∈ tb := tw_56
theorem cw_Model_isFive : Cond.code y_Model_isFive c_Model_isFive 6 (some .boolean) ∈ tb := tw_1109
theorem ini_Model_isFive : Cond.initialized y_Model_isFive.cls ∈ tb := tw_70
theorem hd_Model_isFive : y_Model_isFive.cls ≠ "java/lang/invoke/MethodHandle" ∧ y_Model_isFive.cls ≠ "java/lang/invoke/VarHandle" ∧ (parseMethodDescriptor y_Model_isFive.desc).map (fun d => d.parameters.length) = some 5 := by decide +kernel
theorem ins_Model_isFive : Cond.instanceMethod y_Model_isFive ∈ tb := tw_1108
theorem sel_Model_isFive : Cond.selects R_Model y_Model_isFive y_Model_isFive ∈ tb := tw_51
theorem cw_Model_isSix : Cond.code y_Model_isSix c_Model_isSix 7 (some .boolean) ∈ tb := tw_1121
theorem ini_Model_isSix : Cond.initialized y_Model_isSix.cls ∈ tb := tw_70
theorem hd_Model_isSix : y_Model_isSix.cls ≠ "java/lang/invoke/MethodHandle" ∧ y_Model_isSix.cls ≠ "java/lang/invoke/VarHandle" ∧ (parseMethodDescriptor y_Model_isSix.desc).map (fun d => d.parameters.length) = some 6 := by decide +kernel
theorem ins_Model_isSix : Cond.instanceMethod y_Model_isSix ∈ tb := tw_1120
theorem sel_Model_isSix : Cond.selects R_Model y_Model_isSix y_Model_isSix ∈ tb := tw_54
theorem cw_Model_kindHere : Cond.code y_Model_kindHere c_Model_kindHere 1 (some .int) ∈ tb := tw_1105
theorem ini_Model_kindHere : Cond.initialized y_Model_kindHere.cls ∈ tb := tw_70
theorem hd_Model_kindHere : y_Model_kindHere.cls ≠ "java/lang/invoke/MethodHandle" ∧ y_Model_kindHere.cls ≠ "java/lang/invoke/VarHandle" ∧ (parseMethodDescriptor y_Model_kindHere.desc).map (fun d => d.parameters.length) = some 0 := by decide +kernel
theorem ins_Model_kindHere : Cond.instanceMethod y_Model_kindHere ∈ tb := tw_1104
theorem sel_Model_kindHere : Cond.selects R_Model y_Model_kindHere y_Model_kindHere ∈ tb := tw_50
theorem cw_Model_isNumber : Cond.code y_Model_isNumber c_Model_isNumber 3 (some .boolean) ∈ tb := tw_1137
theorem ini_Model_isNumber : Cond.initialized y_Model_isNumber.cls ∈ tb := tw_70
theorem hd_Model_isNumber : y_Model_isNumber.cls ≠ "java/lang/invoke/MethodHandle" ∧ y_Model_isNumber.cls ≠ "java/lang/invoke/VarHandle" ∧ (parseMethodDescriptor y_Model_isNumber.desc).map (fun d => d.parameters.length) = some 2 := by decide +kernel
theorem ins_Model_isNumber : Cond.instanceMethod y_Model_isNumber ∈ tb := tw_1136
theorem sel_Model_isNumber : Cond.selects R_Model y_Model_isNumber y_Model_isNumber ∈ tb := tw_58
theorem cw_Model_isTwo : Cond.code y_Model_isTwo c_Model_isTwo 3 (some .boolean) ∈ tb := tw_1133
theorem ini_Model_isTwo : Cond.initialized y_Model_isTwo.cls ∈ tb := tw_70
theorem hd_Model_isTwo : y_Model_isTwo.cls ≠ "java/lang/invoke/MethodHandle" ∧ y_Model_isTwo.cls ≠ "java/lang/invoke/VarHandle" ∧ (parseMethodDescriptor y_Model_isTwo.desc).map (fun d => d.parameters.length) = some 2 := by decide +kernel
theorem ins_Model_isTwo : Cond.instanceMethod y_Model_isTwo ∈ tb := tw_1132
theorem sel_Model_isTwo : Cond.selects R_Model y_Model_isTwo y_Model_isTwo ∈ tb := tw_57
theorem cw_Model_thingHere : Cond.code y_Model_thingHere c_Model_thingHere 3 (some .boolean) ∈ tb := tw_1125
theorem ini_Model_thingHere : Cond.initialized y_Model_thingHere.cls ∈ tb := tw_70
theorem hd_Model_thingHere : y_Model_thingHere.cls ≠ "java/lang/invoke/MethodHandle" ∧ y_Model_thingHere.cls ≠ "java/lang/invoke/VarHandle" ∧ (parseMethodDescriptor y_Model_thingHere.desc).map (fun d => d.parameters.length) = some 1 := by decide +kernel
theorem ins_Model_thingHere : Cond.instanceMethod y_Model_thingHere ∈ tb := tw_1124
theorem sel_Model_thingHere : Cond.selects R_Model y_Model_thingHere y_Model_thingHere ∈ tb := tw_55
theorem cw_Model_heightHere : Cond.code y_Model_heightHere c_Model_heightHere 2 (some .boolean) ∈ tb := tw_1141
theorem ini_Model_heightHere : Cond.initialized y_Model_heightHere.cls ∈ tb := tw_70
theorem hd_Model_heightHere : y_Model_heightHere.cls ≠ "java/lang/invoke/MethodHandle" ∧ y_Model_heightHere.cls ≠ "java/lang/invoke/VarHandle" ∧ (parseMethodDescriptor y_Model_heightHere.desc).map (fun d => d.parameters.length) = some 0 := by decide +kernel
theorem ins_Model_heightHere : Cond.instanceMethod y_Model_heightHere ∈ tb := tw_1140
theorem sel_Model_heightHere : Cond.selects R_Model y_Model_heightHere y_Model_heightHere ∈ tb := tw_59
theorem cw_Model_interestHere : Cond.code y_Model_interestHere c_Model_interestHere 1 (some .boolean) ∈ tb := tw_1145
theorem ini_Model_interestHere : Cond.initialized y_Model_interestHere.cls ∈ tb := tw_70
theorem hd_Model_interestHere : y_Model_interestHere.cls ≠ "java/lang/invoke/MethodHandle" ∧ y_Model_interestHere.cls ≠ "java/lang/invoke/VarHandle" ∧ (parseMethodDescriptor y_Model_interestHere.desc).map (fun d => d.parameters.length) = some 0 := by decide +kernel
theorem ins_Model_interestHere : Cond.instanceMethod y_Model_interestHere ∈ tb := tw_1144
theorem sel_Model_interestHere : Cond.selects R_Model y_Model_interestHere y_Model_interestHere ∈ tb := tw_60
theorem cw_Model_itemHere : Cond.code y_Model_itemHere c_Model_itemHere 2 (some .boolean) ∈ tb := tw_1101
theorem ini_Model_itemHere : Cond.initialized y_Model_itemHere.cls ∈ tb := tw_70
theorem hd_Model_itemHere : y_Model_itemHere.cls ≠ "java/lang/invoke/MethodHandle" ∧ y_Model_itemHere.cls ≠ "java/lang/invoke/VarHandle" ∧ (parseMethodDescriptor y_Model_itemHere.desc).map (fun d => d.parameters.length) = some 0 := by decide +kernel
theorem ins_Model_itemHere : Cond.instanceMethod y_Model_itemHere ∈ tb := tw_1100
theorem sel_Model_itemHere : Cond.selects R_Model y_Model_itemHere y_Model_itemHere ∈ tb := tw_49
theorem cw_Model_shore : Cond.code y_Model_shore c_Model_shore 3 (some .int) ∈ tb := tw_1083
theorem ini_Model_shore : Cond.initialized y_Model_shore.cls ∈ tb := tw_70
theorem hd_Model_shore : y_Model_shore.cls ≠ "java/lang/invoke/MethodHandle" ∧ y_Model_shore.cls ≠ "java/lang/invoke/VarHandle" ∧ (parseMethodDescriptor y_Model_shore.desc).map (fun d => d.parameters.length) = some 0 := by decide +kernel
theorem ins_Model_shore : Cond.instanceMethod y_Model_shore ∈ tb := tw_1081
theorem sel_Model_shore : Cond.selects R_Model y_Model_shore y_Model_shore ∈ tb := tw_1082
theorem cw_Model_isSheet : Cond.code y_Model_isSheet c_Model_isSheet 1 (some .boolean) ∈ tb := tw_1152
theorem ini_Model_isSheet : Cond.initialized y_Model_isSheet.cls ∈ tb := tw_70
theorem hd_Model_isSheet : y_Model_isSheet.cls ≠ "java/lang/invoke/MethodHandle" ∧ y_Model_isSheet.cls ≠ "java/lang/invoke/VarHandle" ∧ (parseMethodDescriptor y_Model_isSheet.desc).map (fun d => d.parameters.length) = some 1 := by decide +kernel
theorem sta_Model_isSheet : Cond.static y_Model_isSheet ∈ tb := tw_1151
theorem cw_Model_narrow : Cond.code y_Model_narrow c_Model_narrow 3 (some .long) ∈ tb := tw_1161
theorem ini_Model_narrow : Cond.initialized y_Model_narrow.cls ∈ tb := tw_70
theorem hd_Model_narrow : y_Model_narrow.cls ≠ "java/lang/invoke/MethodHandle" ∧ y_Model_narrow.cls ≠ "java/lang/invoke/VarHandle" ∧ (parseMethodDescriptor y_Model_narrow.desc).map (fun d => d.parameters.length) = some 2 := by decide +kernel
theorem sta_Model_narrow : Cond.static y_Model_narrow ∈ tb := tw_1160
theorem cw_Model_sheet : Cond.code y_Model_sheet c_Model_sheet 5 (some .int) ∈ tb := tw_1149
theorem ini_Model_sheet : Cond.initialized y_Model_sheet.cls ∈ tb := tw_70
theorem hd_Model_sheet : y_Model_sheet.cls ≠ "java/lang/invoke/MethodHandle" ∧ y_Model_sheet.cls ≠ "java/lang/invoke/VarHandle" ∧ (parseMethodDescriptor y_Model_sheet.desc).map (fun d => d.parameters.length) = some 3 := by decide +kernel
theorem ins_Model_sheet : Cond.instanceMethod y_Model_sheet ∈ tb := tw_1147
theorem sel_Model_sheet : Cond.selects R_Model y_Model_sheet y_Model_sheet ∈ tb := tw_1148
theorem cw_Model_write : Cond.code y_Model_write c_Model_write 7 (some .long) ∈ tb := tw_1157
theorem ini_Model_write : Cond.initialized y_Model_write.cls ∈ tb := tw_70
theorem hd_Model_write : y_Model_write.cls ≠ "java/lang/invoke/MethodHandle" ∧ y_Model_write.cls ≠ "java/lang/invoke/VarHandle" ∧ (parseMethodDescriptor y_Model_write.desc).map (fun d => d.parameters.length) = some 3 := by decide +kernel
theorem ins_Model_write : Cond.instanceMethod y_Model_write ∈ tb := tw_1155
theorem sel_Model_write : Cond.selects R_Model y_Model_write y_Model_write ∈ tb := tw_1156
theorem cw_Model_copy : Cond.code y_Model_copy c_Model_copy 10 (some .int) ∈ tb := tw_1165
theorem ini_Model_copy : Cond.initialized y_Model_copy.cls ∈ tb := tw_70
theorem hd_Model_copy : y_Model_copy.cls ≠ "java/lang/invoke/MethodHandle" ∧ y_Model_copy.cls ≠ "java/lang/invoke/VarHandle" ∧ (parseMethodDescriptor y_Model_copy.desc).map (fun d => d.parameters.length) = some 5 := by decide +kernel
theorem ins_Model_copy : Cond.instanceMethod y_Model_copy ∈ tb := tw_1163
theorem sel_Model_copy : Cond.selects R_Model y_Model_copy y_Model_copy ∈ tb := tw_1164
theorem cw_Model_wants : Cond.code y_Model_wants c_Model_wants 2 (some .int) ∈ tb := tw_1173
theorem ini_Model_wants : Cond.initialized y_Model_wants.cls ∈ tb := tw_70
theorem hd_Model_wants : y_Model_wants.cls ≠ "java/lang/invoke/MethodHandle" ∧ y_Model_wants.cls ≠ "java/lang/invoke/VarHandle" ∧ (parseMethodDescriptor y_Model_wants.desc).map (fun d => d.parameters.length) = some 1 := by decide +kernel
theorem ins_Model_wants : Cond.instanceMethod y_Model_wants ∈ tb := tw_1172
theorem sel_Model_wants : Cond.selects R_Model y_Model_wants y_Model_wants ∈ tb := tw_61
theorem cw_Model_lays : Cond.code y_Model_lays c_Model_lays 6 (some .int) ∈ tb := tw_1169
theorem ini_Model_lays : Cond.initialized y_Model_lays.cls ∈ tb := tw_70
theorem hd_Model_lays : y_Model_lays.cls ≠ "java/lang/invoke/MethodHandle" ∧ y_Model_lays.cls ≠ "java/lang/invoke/VarHandle" ∧ (parseMethodDescriptor y_Model_lays.desc).map (fun d => d.parameters.length) = some 1 := by decide +kernel
theorem ins_Model_lays : Cond.instanceMethod y_Model_lays ∈ tb := tw_1167
theorem sel_Model_lays : Cond.selects R_Model y_Model_lays y_Model_lays ∈ tb := tw_1168
theorem cw_Model_book : Cond.code y_Model_book c_Model_book 5 (some .int) ∈ tb := tw_1177
theorem ini_Model_book : Cond.initialized y_Model_book.cls ∈ tb := tw_70
theorem hd_Model_book : y_Model_book.cls ≠ "java/lang/invoke/MethodHandle" ∧ y_Model_book.cls ≠ "java/lang/invoke/VarHandle" ∧ (parseMethodDescriptor y_Model_book.desc).map (fun d => d.parameters.length) = some 2 := by decide +kernel
theorem ins_Model_book : Cond.instanceMethod y_Model_book ∈ tb := tw_1175
theorem sel_Model_book : Cond.selects R_Model y_Model_book y_Model_book ∈ tb := tw_1176
theorem cw_Model_isTold : Cond.code y_Model_isTold c_Model_isTold 5 (some .boolean) ∈ tb := tw_1185
theorem ini_Model_isTold : Cond.initialized y_Model_isTold.cls ∈ tb := tw_70
theorem hd_Model_isTold : y_Model_isTold.cls ≠ "java/lang/invoke/MethodHandle" ∧ y_Model_isTold.cls ≠ "java/lang/invoke/VarHandle" ∧ (parseMethodDescriptor y_Model_isTold.desc).map (fun d => d.parameters.length) = some 2 := by decide +kernel
theorem ins_Model_isTold : Cond.instanceMethod y_Model_isTold ∈ tb := tw_1184
theorem sel_Model_isTold : Cond.selects R_Model y_Model_isTold y_Model_isTold ∈ tb := tw_62
theorem cw_Model_read : Cond.code y_Model_read c_Model_read 11 (some .int) ∈ tb := tw_1181
theorem ini_Model_read : Cond.initialized y_Model_read.cls ∈ tb := tw_70
theorem hd_Model_read : y_Model_read.cls ≠ "java/lang/invoke/MethodHandle" ∧ y_Model_read.cls ≠ "java/lang/invoke/VarHandle" ∧ (parseMethodDescriptor y_Model_read.desc).map (fun d => d.parameters.length) = some 3 := by decide +kernel
theorem ins_Model_read : Cond.instanceMethod y_Model_read ∈ tb := tw_1179
theorem sel_Model_read : Cond.selects R_Model y_Model_read y_Model_read ∈ tb := tw_1180
theorem cw_Model_image : Cond.code y_Model_image c_Model_image 1 (some .int) ∈ tb := tw_1189
theorem ini_Model_image : Cond.initialized y_Model_image.cls ∈ tb := tw_70
theorem hd_Model_image : y_Model_image.cls ≠ "java/lang/invoke/MethodHandle" ∧ y_Model_image.cls ≠ "java/lang/invoke/VarHandle" ∧ (parseMethodDescriptor y_Model_image.desc).map (fun d => d.parameters.length) = some 0 := by decide +kernel
theorem ins_Model_image : Cond.instanceMethod y_Model_image ∈ tb := tw_1187
theorem sel_Model_image : Cond.selects R_Model y_Model_image y_Model_image ∈ tb := tw_1188
theorem cw_Model_undo : Cond.code y_Model_undo c_Model_undo 1 (some .int) ∈ tb := tw_1193
theorem ini_Model_undo : Cond.initialized y_Model_undo.cls ∈ tb := tw_70
theorem hd_Model_undo : y_Model_undo.cls ≠ "java/lang/invoke/MethodHandle" ∧ y_Model_undo.cls ≠ "java/lang/invoke/VarHandle" ∧ (parseMethodDescriptor y_Model_undo.desc).map (fun d => d.parameters.length) = some 0 := by decide +kernel
theorem ins_Model_undo : Cond.instanceMethod y_Model_undo ∈ tb := tw_1191
theorem sel_Model_undo : Cond.selects R_Model y_Model_undo y_Model_undo ∈ tb := tw_1192
theorem cw_Model_tear : Cond.code y_Model_tear c_Model_tear 2 (some .int) ∈ tb := tw_1197
theorem ini_Model_tear : Cond.initialized y_Model_tear.cls ∈ tb := tw_70
theorem hd_Model_tear : y_Model_tear.cls ≠ "java/lang/invoke/MethodHandle" ∧ y_Model_tear.cls ≠ "java/lang/invoke/VarHandle" ∧ (parseMethodDescriptor y_Model_tear.desc).map (fun d => d.parameters.length) = some 0 := by decide +kernel
theorem ins_Model_tear : Cond.instanceMethod y_Model_tear ∈ tb := tw_1195
theorem sel_Model_tear : Cond.selects R_Model y_Model_tear y_Model_tear ∈ tb := tw_1196
theorem cw_Model_count : Cond.code y_Model_count c_Model_count 4 (some .int) ∈ tb := tw_1201
theorem ini_Model_count : Cond.initialized y_Model_count.cls ∈ tb := tw_70
theorem hd_Model_count : y_Model_count.cls ≠ "java/lang/invoke/MethodHandle" ∧ y_Model_count.cls ≠ "java/lang/invoke/VarHandle" ∧ (parseMethodDescriptor y_Model_count.desc).map (fun d => d.parameters.length) = some 1 := by decide +kernel
theorem ins_Model_count : Cond.instanceMethod y_Model_count ∈ tb := tw_1199
theorem sel_Model_count : Cond.selects R_Model y_Model_count y_Model_count ∈ tb := tw_1200
theorem cw_Model_status : Cond.code y_Model_status c_Model_status 2 (some .int) ∈ tb := tw_1205
theorem ini_Model_status : Cond.initialized y_Model_status.cls ∈ tb := tw_70
theorem hd_Model_status : y_Model_status.cls ≠ "java/lang/invoke/MethodHandle" ∧ y_Model_status.cls ≠ "java/lang/invoke/VarHandle" ∧ (parseMethodDescriptor y_Model_status.desc).map (fun d => d.parameters.length) = some 1 := by decide +kernel
theorem ins_Model_status : Cond.instanceMethod y_Model_status ∈ tb := tw_1203
theorem sel_Model_status : Cond.selects R_Model y_Model_status y_Model_status ∈ tb := tw_1204
theorem cw_Integer_bitCount : Cond.code y_Integer_bitCount c_Integer_bitCount 1 (some .int) ∈ tb := tw_401
theorem ini_Integer_bitCount : Cond.initialized y_Integer_bitCount.cls ∈ tb := tw_72
theorem hd_Integer_bitCount : y_Integer_bitCount.cls ≠ "java/lang/invoke/MethodHandle" ∧ y_Integer_bitCount.cls ≠ "java/lang/invoke/VarHandle" ∧ (parseMethodDescriptor y_Integer_bitCount.desc).map (fun d => d.parameters.length) = some 1 := by decide +kernel
theorem sta_Integer_bitCount : Cond.static y_Integer_bitCount ∈ tb := tw_400
theorem cw_Math_max : Cond.code y_Math_max c_Math_max 2 (some .int) ∈ tb := tw_440
theorem ini_Math_max : Cond.initialized y_Math_max.cls ∈ tb := tw_71
theorem hd_Math_max : y_Math_max.cls ≠ "java/lang/invoke/MethodHandle" ∧ y_Math_max.cls ≠ "java/lang/invoke/VarHandle" ∧ (parseMethodDescriptor y_Math_max.desc).map (fun d => d.parameters.length) = some 2 := by decide +kernel
theorem sta_Math_max : Cond.static y_Math_max ∈ tb := tw_439
theorem cw_Math_min : Cond.code y_Math_min c_Math_min 2 (some .int) ∈ tb := tw_458
theorem ini_Math_min : Cond.initialized y_Math_min.cls ∈ tb := tw_71
theorem hd_Math_min : y_Math_min.cls ≠ "java/lang/invoke/MethodHandle" ∧ y_Math_min.cls ≠ "java/lang/invoke/VarHandle" ∧ (parseMethodDescriptor y_Math_min.desc).map (fun d => d.parameters.length) = some 2 := by decide +kernel
theorem sta_Math_min : Cond.static y_Math_min ∈ tb := tw_457
theorem cw_Math_minL : Cond.code y_Math_minL c_Math_minL 4 (some .long) ∈ tb := tw_370
theorem ini_Math_minL : Cond.initialized y_Math_minL.cls ∈ tb := tw_71
theorem hd_Math_minL : y_Math_minL.cls ≠ "java/lang/invoke/MethodHandle" ∧ y_Math_minL.cls ≠ "java/lang/invoke/VarHandle" ∧ (parseMethodDescriptor y_Math_minL.desc).map (fun d => d.parameters.length) = some 2 := by decide +kernel
theorem sta_Math_minL : Cond.static y_Math_minL ∈ tb := tw_369
theorem cw_String_length : Cond.code y_String_length c_String_length 1 (some .int) ∈ tb := tw_624
theorem ini_String_length : Cond.initialized y_String_length.cls ∈ tb := tw_74
theorem hd_String_length : y_String_length.cls ≠ "java/lang/invoke/MethodHandle" ∧ y_String_length.cls ≠ "java/lang/invoke/VarHandle" ∧ (parseMethodDescriptor y_String_length.desc).map (fun d => d.parameters.length) = some 0 := by decide +kernel
theorem ins_String_length : Cond.instanceMethod y_String_length ∈ tb := tw_622
theorem sel_String_length : Cond.selects R_String y_String_length y_String_length ∈ tb := tw_623
theorem cw_String_charAt : Cond.code y_String_charAt c_String_charAt 2 (some .char) ∈ tb := tw_634
theorem ini_String_charAt : Cond.initialized y_String_charAt.cls ∈ tb := tw_74
theorem hd_String_charAt : y_String_charAt.cls ≠ "java/lang/invoke/MethodHandle" ∧ y_String_charAt.cls ≠ "java/lang/invoke/VarHandle" ∧ (parseMethodDescriptor y_String_charAt.desc).map (fun d => d.parameters.length) = some 1 := by decide +kernel
theorem ins_String_charAt : Cond.instanceMethod y_String_charAt ∈ tb := tw_632
theorem sel_String_charAt : Cond.selects R_String y_String_charAt y_String_charAt ∈ tb := tw_633
