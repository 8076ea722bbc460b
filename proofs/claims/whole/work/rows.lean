section
-- ===== PART A: goes FIRST, ahead of the names: the tables' words, and 'selects' of the private methods out of them =====
/-- a private method of a class that the tables say can be made, by its rows of tables_1 -/
def lw_okq (q : MethodName × Nat) : Prop := (q.1.cls ≠ "java/lang/invoke/MethodHandle" ∧ q.1.cls ≠ "java/lang/invoke/VarHandle") ∧ Cond.instantiable q.1.cls q.2 ∈ tables_1 ∧ Cond.privateMethod q.1 ∈ tables_1 ∧ Cond.instanceMethod q.1 ∈ tables_1
theorem lw_p0 : lw_okq (⟨"java/lang/Throwable", "fillInStackTrace", "(I)Ljava/lang/Throwable;"⟩, 6) := ⟨⟨by decide +kernel, by decide +kernel⟩, List.mem_of_getElem? (i := 387) (by decide +kernel), List.mem_of_getElem? (i := 385) (by decide +kernel), List.mem_of_getElem? (i := 386) (by decide +kernel)⟩
theorem lw_p1 : lw_okq (⟨"LanguageAtoms", "checkState", "(II)V"⟩, 13) := ⟨⟨by decide +kernel, by decide +kernel⟩, List.mem_of_getElem? (i := 27) (by decide +kernel), List.mem_of_getElem? (i := 487) (by decide +kernel), List.mem_of_getElem? (i := 488) (by decide +kernel)⟩
theorem lw_p2 : lw_okq (⟨"LanguageAtoms$Concatenation", "enter", "(II)I"⟩, 3) := ⟨⟨by decide +kernel, by decide +kernel⟩, List.mem_of_getElem? (i := 103) (by decide +kernel), List.mem_of_getElem? (i := 665) (by decide +kernel), List.mem_of_getElem? (i := 666) (by decide +kernel)⟩
theorem lw_p3 : lw_okq (⟨"LanguageAtoms$Minimizer", "numberOf", "(II)I"⟩, 10) := ⟨⟨by decide +kernel, by decide +kernel⟩, List.mem_of_getElem? (i := 198) (by decide +kernel), List.mem_of_getElem? (i := 676) (by decide +kernel), List.mem_of_getElem? (i := 677) (by decide +kernel)⟩
theorem lw_p4 : lw_okq (⟨"LanguageAtoms$Minimizer", "splitByAcceptance", "()V"⟩, 10) := ⟨⟨by decide +kernel, by decide +kernel⟩, List.mem_of_getElem? (i := 198) (by decide +kernel), List.mem_of_getElem? (i := 721) (by decide +kernel), List.mem_of_getElem? (i := 722) (by decide +kernel)⟩
theorem lw_p5 : lw_okq (⟨"LanguageAtoms$Minimizer", "splitByTargets", "()Z"⟩, 10) := ⟨⟨by decide +kernel, by decide +kernel⟩, List.mem_of_getElem? (i := 198) (by decide +kernel), List.mem_of_getElem? (i := 725) (by decide +kernel), List.mem_of_getElem? (i := 726) (by decide +kernel)⟩
theorem lw_p6 : lw_okq (⟨"LanguageAtoms$KeyTable", "insert", "(IJ)I"⟩, 4) := ⟨⟨by decide +kernel, by decide +kernel⟩, List.mem_of_getElem? (i := 176) (by decide +kernel), List.mem_of_getElem? (i := 739) (by decide +kernel), List.mem_of_getElem? (i := 740) (by decide +kernel)⟩
theorem lw_p7 : lw_okq (⟨"LanguageAtoms", "findAtoms", "(I)V"⟩, 13) := ⟨⟨by decide +kernel, by decide +kernel⟩, List.mem_of_getElem? (i := 27) (by decide +kernel), List.mem_of_getElem? (i := 771) (by decide +kernel), List.mem_of_getElem? (i := 772) (by decide +kernel)⟩
theorem lw_p8 : lw_okq (⟨"LanguageAtoms$SetMap", "joinSingles", "(II)V"⟩, 1) := ⟨⟨by decide +kernel, by decide +kernel⟩, List.mem_of_getElem? (i := 111) (by decide +kernel), List.mem_of_getElem? (i := 784) (by decide +kernel), List.mem_of_getElem? (i := 785) (by decide +kernel)⟩
theorem lw_p9 : lw_okq (⟨"LanguageAtoms$Atoms", "addAtom", "(III)V"⟩, 14) := ⟨⟨by decide +kernel, by decide +kernel⟩, List.mem_of_getElem? (i := 236) (by decide +kernel), List.mem_of_getElem? (i := 790) (by decide +kernel), List.mem_of_getElem? (i := 791) (by decide +kernel)⟩
theorem lw_p10 : lw_okq (⟨"LanguageAtoms$Atoms", "fillLanguages", "()V"⟩, 14) := ⟨⟨by decide +kernel, by decide +kernel⟩, List.mem_of_getElem? (i := 236) (by decide +kernel), List.mem_of_getElem? (i := 894) (by decide +kernel), List.mem_of_getElem? (i := 895) (by decide +kernel)⟩
theorem lw_p11 : lw_okq (⟨"LanguageAtoms$Atoms", "atomsWith", "(I)J"⟩, 14) := ⟨⟨by decide +kernel, by decide +kernel⟩, List.mem_of_getElem? (i := 236) (by decide +kernel), List.mem_of_getElem? (i := 898) (by decide +kernel), List.mem_of_getElem? (i := 899) (by decide +kernel)⟩
theorem lw_p12 : lw_okq (⟨"LanguageAtoms$Atoms", "addPair", "(II)V"⟩, 14) := ⟨⟨by decide +kernel, by decide +kernel⟩, List.mem_of_getElem? (i := 236) (by decide +kernel), List.mem_of_getElem? (i := 904) (by decide +kernel), List.mem_of_getElem? (i := 905) (by decide +kernel)⟩
theorem lw_p13 : lw_okq (⟨"LanguageAtoms", "operate", "(III)I"⟩, 13) := ⟨⟨by decide +kernel, by decide +kernel⟩, List.mem_of_getElem? (i := 27) (by decide +kernel), List.mem_of_getElem? (i := 920) (by decide +kernel), List.mem_of_getElem? (i := 921) (by decide +kernel)⟩
theorem lw_p14 : lw_okq (⟨"LanguageAtoms", "checkAtoms", "(J)V"⟩, 13) := ⟨⟨by decide +kernel, by decide +kernel⟩, List.mem_of_getElem? (i := 27) (by decide +kernel), List.mem_of_getElem? (i := 977) (by decide +kernel), List.mem_of_getElem? (i := 978) (by decide +kernel)⟩
theorem lw_p15 : lw_okq (⟨"LanguageAtoms$Atoms", "languageOf", "(J)J"⟩, 14) := ⟨⟨by decide +kernel, by decide +kernel⟩, List.mem_of_getElem? (i := 236) (by decide +kernel), List.mem_of_getElem? (i := 986) (by decide +kernel), List.mem_of_getElem? (i := 987) (by decide +kernel)⟩
def lw_privs_1 : List (MethodName × Nat) := [(⟨"java/lang/Throwable", "fillInStackTrace", "(I)Ljava/lang/Throwable;"⟩, 6), (⟨"LanguageAtoms", "checkState", "(II)V"⟩, 13), (⟨"LanguageAtoms$Concatenation", "enter", "(II)I"⟩, 3), (⟨"LanguageAtoms$Minimizer", "numberOf", "(II)I"⟩, 10), (⟨"LanguageAtoms$Minimizer", "splitByAcceptance", "()V"⟩, 10), (⟨"LanguageAtoms$Minimizer", "splitByTargets", "()Z"⟩, 10), (⟨"LanguageAtoms$KeyTable", "insert", "(IJ)I"⟩, 4), (⟨"LanguageAtoms", "findAtoms", "(I)V"⟩, 13), (⟨"LanguageAtoms$SetMap", "joinSingles", "(II)V"⟩, 1), (⟨"LanguageAtoms$Atoms", "addAtom", "(III)V"⟩, 14), (⟨"LanguageAtoms$Atoms", "fillLanguages", "()V"⟩, 14), (⟨"LanguageAtoms$Atoms", "atomsWith", "(I)J"⟩, 14), (⟨"LanguageAtoms$Atoms", "addPair", "(II)V"⟩, 14), (⟨"LanguageAtoms", "operate", "(III)I"⟩, 13), (⟨"LanguageAtoms", "checkAtoms", "(J)V"⟩, 13), (⟨"LanguageAtoms$Atoms", "languageOf", "(J)J"⟩, 14)]
theorem lw_r1 : ∀ q ∈ lw_privs_1, lw_okq q := List.forall_mem_cons.mpr ⟨lw_p0, List.forall_mem_cons.mpr ⟨lw_p1, List.forall_mem_cons.mpr ⟨lw_p2, List.forall_mem_cons.mpr ⟨lw_p3, List.forall_mem_cons.mpr ⟨lw_p4, List.forall_mem_cons.mpr ⟨lw_p5, List.forall_mem_cons.mpr ⟨lw_p6, List.forall_mem_cons.mpr ⟨lw_p7, List.forall_mem_cons.mpr ⟨lw_p8, List.forall_mem_cons.mpr ⟨lw_p9, List.forall_mem_cons.mpr ⟨lw_p10, List.forall_mem_cons.mpr ⟨lw_p11, List.forall_mem_cons.mpr ⟨lw_p12, List.forall_mem_cons.mpr ⟨lw_p13, List.forall_mem_cons.mpr ⟨lw_p14, List.forall_mem_cons.mpr ⟨lw_p15, fun _ h => absurd h List.not_mem_nil⟩⟩⟩⟩⟩⟩⟩⟩⟩⟩⟩⟩⟩⟩⟩⟩
theorem lw_p16 : lw_okq (⟨"LanguageAtoms$Atoms", "quotient", "(JI)J"⟩, 14) := ⟨⟨by decide +kernel, by decide +kernel⟩, List.mem_of_getElem? (i := 236) (by decide +kernel), List.mem_of_getElem? (i := 992) (by decide +kernel), List.mem_of_getElem? (i := 993) (by decide +kernel)⟩
theorem lw_p17 : lw_okq (⟨"LanguageAtoms$Row", "add", "(D)V"⟩, 6) := ⟨⟨by decide +kernel, by decide +kernel⟩, List.mem_of_getElem? (i := 146) (by decide +kernel), List.mem_of_getElem? (i := 1062) (by decide +kernel), List.mem_of_getElem? (i := 1063) (by decide +kernel)⟩
theorem lw_p18 : lw_okq (⟨"LanguageAtoms$Row", "lengthen", "(LLanguageAtoms$Automaton;)V"⟩, 6) := ⟨⟨by decide +kernel, by decide +kernel⟩, List.mem_of_getElem? (i := 146) (by decide +kernel), List.mem_of_getElem? (i := 1066) (by decide +kernel), List.mem_of_getElem? (i := 1067) (by decide +kernel)⟩
theorem lw_p19 : lw_okq (⟨"LanguageAtomsModel", "clears", "(II)V"⟩, 43) := ⟨⟨by decide +kernel, by decide +kernel⟩, List.mem_of_getElem? (i := 1127) (by decide +kernel), List.mem_of_getElem? (i := 1277) (by decide +kernel), List.mem_of_getElem? (i := 1278) (by decide +kernel)⟩
theorem lw_p20 : lw_okq (⟨"LanguageAtomsModel", "isState", "(II)Z"⟩, 43) := ⟨⟨by decide +kernel, by decide +kernel⟩, List.mem_of_getElem? (i := 1127) (by decide +kernel), List.mem_of_getElem? (i := 1288) (by decide +kernel), List.mem_of_getElem? (i := 1289) (by decide +kernel)⟩
theorem lw_p21 : lw_okq (⟨"LanguageAtomsModel", "not", "(I)Z"⟩, 43) := ⟨⟨by decide +kernel, by decide +kernel⟩, List.mem_of_getElem? (i := 1127) (by decide +kernel), List.mem_of_getElem? (i := 1299) (by decide +kernel), List.mem_of_getElem? (i := 1300) (by decide +kernel)⟩
theorem lw_p22 : lw_okq (⟨"LanguageAtomsModel", "so", "(Z)Z"⟩, 43) := ⟨⟨by decide +kernel, by decide +kernel⟩, List.mem_of_getElem? (i := 1127) (by decide +kernel), List.mem_of_getElem? (i := 1303) (by decide +kernel), List.mem_of_getElem? (i := 1304) (by decide +kernel)⟩
theorem lw_p23 : lw_okq (⟨"LanguageAtomsModel", "done", "(I)I"⟩, 43) := ⟨⟨by decide +kernel, by decide +kernel⟩, List.mem_of_getElem? (i := 1127) (by decide +kernel), List.mem_of_getElem? (i := 1311) (by decide +kernel), List.mem_of_getElem? (i := 1312) (by decide +kernel)⟩
theorem lw_p24 : lw_okq (⟨"LanguageAtomsModel", "fails", "(I)I"⟩, 43) := ⟨⟨by decide +kernel, by decide +kernel⟩, List.mem_of_getElem? (i := 1127) (by decide +kernel), List.mem_of_getElem? (i := 1315) (by decide +kernel), List.mem_of_getElem? (i := 1316) (by decide +kernel)⟩
theorem lw_p25 : lw_okq (⟨"LanguageAtomsModel", "draw", "(I)I"⟩, 43) := ⟨⟨by decide +kernel, by decide +kernel⟩, List.mem_of_getElem? (i := 1127) (by decide +kernel), List.mem_of_getElem? (i := 1331) (by decide +kernel), List.mem_of_getElem? (i := 1332) (by decide +kernel)⟩
theorem lw_p26 : lw_okq (⟨"LanguageAtomsModel", "stateBy", "(II)I"⟩, 43) := ⟨⟨by decide +kernel, by decide +kernel⟩, List.mem_of_getElem? (i := 1127) (by decide +kernel), List.mem_of_getElem? (i := 1356) (by decide +kernel), List.mem_of_getElem? (i := 1357) (by decide +kernel)⟩
theorem lw_p27 : lw_okq (⟨"LanguageAtomsModel", "makes", "(III)V"⟩, 43) := ⟨⟨by decide +kernel, by decide +kernel⟩, List.mem_of_getElem? (i := 1127) (by decide +kernel), List.mem_of_getElem? (i := 1364) (by decide +kernel), List.mem_of_getElem? (i := 1365) (by decide +kernel)⟩
theorem lw_p28 : lw_okq (⟨"LanguageAtomsModel", "firstKey", "()J"⟩, 43) := ⟨⟨by decide +kernel, by decide +kernel⟩, List.mem_of_getElem? (i := 1127) (by decide +kernel), List.mem_of_getElem? (i := 1368) (by decide +kernel), List.mem_of_getElem? (i := 1369) (by decide +kernel)⟩
theorem lw_p29 : lw_okq (⟨"LanguageAtomsModel", "concatenated", "(IJ)J"⟩, 43) := ⟨⟨by decide +kernel, by decide +kernel⟩, List.mem_of_getElem? (i := 1127) (by decide +kernel), List.mem_of_getElem? (i := 1372) (by decide +kernel), List.mem_of_getElem? (i := 1373) (by decide +kernel)⟩
theorem lw_p30 : lw_okq (⟨"LanguageAtomsModel", "finalStates", "()J"⟩, 43) := ⟨⟨by decide +kernel, by decide +kernel⟩, List.mem_of_getElem? (i := 1127) (by decide +kernel), List.mem_of_getElem? (i := 1377) (by decide +kernel), List.mem_of_getElem? (i := 1378) (by decide +kernel)⟩
theorem lw_p31 : lw_okq (⟨"LanguageAtomsModel", "nodeOf", "(J)I"⟩, 43) := ⟨⟨by decide +kernel, by decide +kernel⟩, List.mem_of_getElem? (i := 1127) (by decide +kernel), List.mem_of_getElem? (i := 1381) (by decide +kernel), List.mem_of_getElem? (i := 1382) (by decide +kernel)⟩
def lw_privs_2 : List (MethodName × Nat) := [(⟨"LanguageAtoms$Atoms", "quotient", "(JI)J"⟩, 14), (⟨"LanguageAtoms$Row", "add", "(D)V"⟩, 6), (⟨"LanguageAtoms$Row", "lengthen", "(LLanguageAtoms$Automaton;)V"⟩, 6), (⟨"LanguageAtomsModel", "clears", "(II)V"⟩, 43), (⟨"LanguageAtomsModel", "isState", "(II)Z"⟩, 43), (⟨"LanguageAtomsModel", "not", "(I)Z"⟩, 43), (⟨"LanguageAtomsModel", "so", "(Z)Z"⟩, 43), (⟨"LanguageAtomsModel", "done", "(I)I"⟩, 43), (⟨"LanguageAtomsModel", "fails", "(I)I"⟩, 43), (⟨"LanguageAtomsModel", "draw", "(I)I"⟩, 43), (⟨"LanguageAtomsModel", "stateBy", "(II)I"⟩, 43), (⟨"LanguageAtomsModel", "makes", "(III)V"⟩, 43), (⟨"LanguageAtomsModel", "firstKey", "()J"⟩, 43), (⟨"LanguageAtomsModel", "concatenated", "(IJ)J"⟩, 43), (⟨"LanguageAtomsModel", "finalStates", "()J"⟩, 43), (⟨"LanguageAtomsModel", "nodeOf", "(J)I"⟩, 43)]
theorem lw_r2 : ∀ q ∈ lw_privs_2, lw_okq q := List.forall_mem_cons.mpr ⟨lw_p16, List.forall_mem_cons.mpr ⟨lw_p17, List.forall_mem_cons.mpr ⟨lw_p18, List.forall_mem_cons.mpr ⟨lw_p19, List.forall_mem_cons.mpr ⟨lw_p20, List.forall_mem_cons.mpr ⟨lw_p21, List.forall_mem_cons.mpr ⟨lw_p22, List.forall_mem_cons.mpr ⟨lw_p23, List.forall_mem_cons.mpr ⟨lw_p24, List.forall_mem_cons.mpr ⟨lw_p25, List.forall_mem_cons.mpr ⟨lw_p26, List.forall_mem_cons.mpr ⟨lw_p27, List.forall_mem_cons.mpr ⟨lw_p28, List.forall_mem_cons.mpr ⟨lw_p29, List.forall_mem_cons.mpr ⟨lw_p30, List.forall_mem_cons.mpr ⟨lw_p31, fun _ h => absurd h List.not_mem_nil⟩⟩⟩⟩⟩⟩⟩⟩⟩⟩⟩⟩⟩⟩⟩⟩
theorem lw_p32 : lw_okq (⟨"LanguageAtomsModel", "keyAfter", "(JI)J"⟩, 43) := ⟨⟨by decide +kernel, by decide +kernel⟩, List.mem_of_getElem? (i := 1127) (by decide +kernel), List.mem_of_getElem? (i := 1385) (by decide +kernel), List.mem_of_getElem? (i := 1386) (by decide +kernel)⟩
theorem lw_p33 : lw_okq (⟨"LanguageAtomsModel", "starAfter", "(JI)J"⟩, 43) := ⟨⟨by decide +kernel, by decide +kernel⟩, List.mem_of_getElem? (i := 1127) (by decide +kernel), List.mem_of_getElem? (i := 1393) (by decide +kernel), List.mem_of_getElem? (i := 1394) (by decide +kernel)⟩
theorem lw_p34 : lw_okq (⟨"LanguageAtomsModel", "ledBack", "(JI)J"⟩, 43) := ⟨⟨by decide +kernel, by decide +kernel⟩, List.mem_of_getElem? (i := 1127) (by decide +kernel), List.mem_of_getElem? (i := 1397) (by decide +kernel), List.mem_of_getElem? (i := 1398) (by decide +kernel)⟩
theorem lw_p35 : lw_okq (⟨"LanguageAtomsModel", "atomsAfter", "(JI)J"⟩, 43) := ⟨⟨by decide +kernel, by decide +kernel⟩, List.mem_of_getElem? (i := 1127) (by decide +kernel), List.mem_of_getElem? (i := 1401) (by decide +kernel), List.mem_of_getElem? (i := 1402) (by decide +kernel)⟩
theorem lw_p36 : lw_okq (⟨"LanguageAtomsModel", "isEnd", "(J)Z"⟩, 43) := ⟨⟨by decide +kernel, by decide +kernel⟩, List.mem_of_getElem? (i := 1127) (by decide +kernel), List.mem_of_getElem? (i := 1405) (by decide +kernel), List.mem_of_getElem? (i := 1406) (by decide +kernel)⟩
theorem lw_p37 : lw_okq (⟨"LanguageAtomsModel", "hasFinal", "(IJ)Z"⟩, 43) := ⟨⟨by decide +kernel, by decide +kernel⟩, List.mem_of_getElem? (i := 1127) (by decide +kernel), List.mem_of_getElem? (i := 1409) (by decide +kernel), List.mem_of_getElem? (i := 1410) (by decide +kernel)⟩
theorem lw_p38 : lw_okq (⟨"LanguageAtomsModel", "parts", "()V"⟩, 43) := ⟨⟨by decide +kernel, by decide +kernel⟩, List.mem_of_getElem? (i := 1127) (by decide +kernel), List.mem_of_getElem? (i := 1413) (by decide +kernel), List.mem_of_getElem? (i := 1414) (by decide +kernel)⟩
theorem lw_p39 : lw_okq (⟨"LanguageAtomsModel", "isAlike", "(II)Z"⟩, 43) := ⟨⟨by decide +kernel, by decide +kernel⟩, List.mem_of_getElem? (i := 1127) (by decide +kernel), List.mem_of_getElem? (i := 1417) (by decide +kernel), List.mem_of_getElem? (i := 1418) (by decide +kernel)⟩
theorem lw_p40 : lw_okq (⟨"LanguageAtomsModel", "stores", "(I)I"⟩, 43) := ⟨⟨by decide +kernel, by decide +kernel⟩, List.mem_of_getElem? (i := 1127) (by decide +kernel), List.mem_of_getElem? (i := 1425) (by decide +kernel), List.mem_of_getElem? (i := 1426) (by decide +kernel)⟩
theorem lw_p41 : lw_okq (⟨"LanguageAtomsModel", "nodeOfClass", "(I)I"⟩, 43) := ⟨⟨by decide +kernel, by decide +kernel⟩, List.mem_of_getElem? (i := 1127) (by decide +kernel), List.mem_of_getElem? (i := 1429) (by decide +kernel), List.mem_of_getElem? (i := 1430) (by decide +kernel)⟩
theorem lw_p42 : lw_okq (⟨"LanguageAtomsModel", "tellAtoms", "(I)V"⟩, 43) := ⟨⟨by decide +kernel, by decide +kernel⟩, List.mem_of_getElem? (i := 1127) (by decide +kernel), List.mem_of_getElem? (i := 1441) (by decide +kernel), List.mem_of_getElem? (i := 1442) (by decide +kernel)⟩
theorem lw_p43 : lw_okq (⟨"LanguageAtomsModel", "ofStates", "(J)I"⟩, 43) := ⟨⟨by decide +kernel, by decide +kernel⟩, List.mem_of_getElem? (i := 1127) (by decide +kernel), List.mem_of_getElem? (i := 1445) (by decide +kernel), List.mem_of_getElem? (i := 1446) (by decide +kernel)⟩
theorem lw_p44 : lw_okq (⟨"LanguageAtomsModel", "isAtom", "(I)Z"⟩, 43) := ⟨⟨by decide +kernel, by decide +kernel⟩, List.mem_of_getElem? (i := 1127) (by decide +kernel), List.mem_of_getElem? (i := 1453) (by decide +kernel), List.mem_of_getElem? (i := 1454) (by decide +kernel)⟩
theorem lw_p45 : lw_okq (⟨"LanguageAtomsModel", "numberOf", "(I)I"⟩, 43) := ⟨⟨by decide +kernel, by decide +kernel⟩, List.mem_of_getElem? (i := 1127) (by decide +kernel), List.mem_of_getElem? (i := 1461) (by decide +kernel), List.mem_of_getElem? (i := 1462) (by decide +kernel)⟩
theorem lw_p46 : lw_okq (⟨"LanguageAtomsModel", "tellAtomMachine", "(I)V"⟩, 43) := ⟨⟨by decide +kernel, by decide +kernel⟩, List.mem_of_getElem? (i := 1127) (by decide +kernel), List.mem_of_getElem? (i := 1469) (by decide +kernel), List.mem_of_getElem? (i := 1470) (by decide +kernel)⟩
theorem lw_p47 : lw_okq (⟨"LanguageAtomsModel", "setAhead", "(III)I"⟩, 43) := ⟨⟨by decide +kernel, by decide +kernel⟩, List.mem_of_getElem? (i := 1127) (by decide +kernel), List.mem_of_getElem? (i := 1473) (by decide +kernel), List.mem_of_getElem? (i := 1474) (by decide +kernel)⟩
def lw_privs_3 : List (MethodName × Nat) := [(⟨"LanguageAtomsModel", "keyAfter", "(JI)J"⟩, 43), (⟨"LanguageAtomsModel", "starAfter", "(JI)J"⟩, 43), (⟨"LanguageAtomsModel", "ledBack", "(JI)J"⟩, 43), (⟨"LanguageAtomsModel", "atomsAfter", "(JI)J"⟩, 43), (⟨"LanguageAtomsModel", "isEnd", "(J)Z"⟩, 43), (⟨"LanguageAtomsModel", "hasFinal", "(IJ)Z"⟩, 43), (⟨"LanguageAtomsModel", "parts", "()V"⟩, 43), (⟨"LanguageAtomsModel", "isAlike", "(II)Z"⟩, 43), (⟨"LanguageAtomsModel", "stores", "(I)I"⟩, 43), (⟨"LanguageAtomsModel", "nodeOfClass", "(I)I"⟩, 43), (⟨"LanguageAtomsModel", "tellAtoms", "(I)V"⟩, 43), (⟨"LanguageAtomsModel", "ofStates", "(J)I"⟩, 43), (⟨"LanguageAtomsModel", "isAtom", "(I)Z"⟩, 43), (⟨"LanguageAtomsModel", "numberOf", "(I)I"⟩, 43), (⟨"LanguageAtomsModel", "tellAtomMachine", "(I)V"⟩, 43), (⟨"LanguageAtomsModel", "setAhead", "(III)I"⟩, 43)]
theorem lw_r3 : ∀ q ∈ lw_privs_3, lw_okq q := List.forall_mem_cons.mpr ⟨lw_p32, List.forall_mem_cons.mpr ⟨lw_p33, List.forall_mem_cons.mpr ⟨lw_p34, List.forall_mem_cons.mpr ⟨lw_p35, List.forall_mem_cons.mpr ⟨lw_p36, List.forall_mem_cons.mpr ⟨lw_p37, List.forall_mem_cons.mpr ⟨lw_p38, List.forall_mem_cons.mpr ⟨lw_p39, List.forall_mem_cons.mpr ⟨lw_p40, List.forall_mem_cons.mpr ⟨lw_p41, List.forall_mem_cons.mpr ⟨lw_p42, List.forall_mem_cons.mpr ⟨lw_p43, List.forall_mem_cons.mpr ⟨lw_p44, List.forall_mem_cons.mpr ⟨lw_p45, List.forall_mem_cons.mpr ⟨lw_p46, List.forall_mem_cons.mpr ⟨lw_p47, fun _ h => absurd h List.not_mem_nil⟩⟩⟩⟩⟩⟩⟩⟩⟩⟩⟩⟩⟩⟩⟩⟩
theorem lw_p48 : lw_okq (⟨"LanguageAtomsModel", "firstWord", "()I"⟩, 43) := ⟨⟨by decide +kernel, by decide +kernel⟩, List.mem_of_getElem? (i := 1127) (by decide +kernel), List.mem_of_getElem? (i := 1489) (by decide +kernel), List.mem_of_getElem? (i := 1490) (by decide +kernel)⟩
theorem lw_p49 : lw_okq (⟨"LanguageAtomsModel", "isSmall", "()Z"⟩, 43) := ⟨⟨by decide +kernel, by decide +kernel⟩, List.mem_of_getElem? (i := 1127) (by decide +kernel), List.mem_of_getElem? (i := 1521) (by decide +kernel), List.mem_of_getElem? (i := 1522) (by decide +kernel)⟩
theorem lw_p50 : lw_okq (⟨"LanguageAtomsModel", "finalsOf", "(I)I"⟩, 43) := ⟨⟨by decide +kernel, by decide +kernel⟩, List.mem_of_getElem? (i := 1127) (by decide +kernel), List.mem_of_getElem? (i := 1529) (by decide +kernel), List.mem_of_getElem? (i := 1530) (by decide +kernel)⟩
theorem lw_p51 : lw_okq (⟨"LanguageAtomsModel", "meets", "(II)V"⟩, 43) := ⟨⟨by decide +kernel, by decide +kernel⟩, List.mem_of_getElem? (i := 1127) (by decide +kernel), List.mem_of_getElem? (i := 1533) (by decide +kernel), List.mem_of_getElem? (i := 1534) (by decide +kernel)⟩
theorem lw_p52 : lw_okq (⟨"LanguageAtomsModel", "backFrom", "(III)I"⟩, 43) := ⟨⟨by decide +kernel, by decide +kernel⟩, List.mem_of_getElem? (i := 1127) (by decide +kernel), List.mem_of_getElem? (i := 1537) (by decide +kernel), List.mem_of_getElem? (i := 1538) (by decide +kernel)⟩
theorem lw_p53 : lw_okq (⟨"LanguageAtomsModel", "shareOf", "(II)D"⟩, 43) := ⟨⟨by decide +kernel, by decide +kernel⟩, List.mem_of_getElem? (i := 1127) (by decide +kernel), List.mem_of_getElem? (i := 1549) (by decide +kernel), List.mem_of_getElem? (i := 1550) (by decide +kernel)⟩
def lw_privs_4 : List (MethodName × Nat) := [(⟨"LanguageAtomsModel", "firstWord", "()I"⟩, 43), (⟨"LanguageAtomsModel", "isSmall", "()Z"⟩, 43), (⟨"LanguageAtomsModel", "finalsOf", "(I)I"⟩, 43), (⟨"LanguageAtomsModel", "meets", "(II)V"⟩, 43), (⟨"LanguageAtomsModel", "backFrom", "(III)I"⟩, 43), (⟨"LanguageAtomsModel", "shareOf", "(II)D"⟩, 43)]
theorem lw_r4 : ∀ q ∈ lw_privs_4, lw_okq q := List.forall_mem_cons.mpr ⟨lw_p48, List.forall_mem_cons.mpr ⟨lw_p49, List.forall_mem_cons.mpr ⟨lw_p50, List.forall_mem_cons.mpr ⟨lw_p51, List.forall_mem_cons.mpr ⟨lw_p52, List.forall_mem_cons.mpr ⟨lw_p53, fun _ h => absurd h List.not_mem_nil⟩⟩⟩⟩⟩⟩
def lw_privs : List (MethodName × Nat) := lw_privs_1 ++ (lw_privs_2 ++ (lw_privs_3 ++ (lw_privs_4)))
def lw_tbl : List Cond := k2_sels lw_privs ++ tables_1
theorem lw_privs_ok : ∀ q ∈ lw_privs, lw_okq q := by
  show ∀ q ∈ lw_privs_1 ++ (lw_privs_2 ++ (lw_privs_3 ++ (lw_privs_4))), lw_okq q
  exact List.forall_mem_append.mpr ⟨lw_r1, List.forall_mem_append.mpr ⟨lw_r2, List.forall_mem_append.mpr ⟨lw_r3, lw_r4⟩⟩⟩
/-- the streams that the claim lets the run draw from -/
abbrev lw_cs : List Choice := [Jvm.Choice.named "NaN.bits"]
theorem lw_bits : nanBits ∈ lw_cs := by first | decide | exact List.mem_cons_self | simp [lw_cs, nanBits]
end
section
/-! ===== BEGIN words of one list among another's, by their places ===== -/
theorem goodIn_r {big : List Cond} (ws : List Cond) (ps : List Nat) (hp : ws = ps.filterMap (fun i => big[i]?)) (h : ws.all goodWord = true) : GoodIn big ws := by
  intro w hw
  have h1 := List.all_eq_true.mp h w hw
  rw [hp] at hw
  obtain ⟨i, -, hi⟩ := List.mem_filterMap.mp hw
  have hm : w ∈ big := by first | exact List.mem_of_getElem? hi | exact List.getElem?_mem hi
  exact ⟨hm, good_of_word h1⟩
theorem goodIn_app {big a b : List Cond} (ha : GoodIn big a) (hb : GoodIn big b) : GoodIn big (a ++ b) := fun w h => (List.mem_append.mp h).elim (ha w) (hb w)
theorem goodIn_ca {big a b : List Cond} {c : Cond} (ha : GoodIn big (c :: a)) (hb : GoodIn big b) : GoodIn big (c :: (a ++ b)) := fun w h => (List.mem_cons.mp h).elim (fun e => ha w (List.mem_cons.mpr (Or.inl e))) (fun h => (List.mem_append.mp h).elim (fun h => ha w (List.mem_cons.mpr (Or.inr h))) (hb w))
theorem goodIn_sub {big ws : List Cond} (hm : ∀ w ∈ ws, w ∈ big) (h : ws.all goodWord = true) : GoodIn big ws := fun w hw => ⟨hm w hw, good_of_word (List.all_eq_true.mp h w hw)⟩
/-! ===== END ===== -/

/-! ===== BEGIN exceptions that leave a method, and their catching by the caller (launches without stack traces) ===== -/
section VXA
/-! The laws vx_back, vx_callV, vx_callS, vx_callSW, vx_throw0, vx_throwS follow proofs of the library, with one case more: JvmDerived/Free/Laws.lean (Back.of_free), Shelf42/LK1.lean (callV, callS), Shelf/KitTraced.lean (throwNew0V, throwNewS). -/
/-- where a method has thrown q: the class by its name, the cell, what was written, the world -/
def vx_T (XC : String → State → State → Prop) (st : State) (q : Addr) (t : State) (mc ms : Nat) (free : Addr → Prop) : Prop :=
  ∃ (E : String) (ce : Cell) (L : List Loc), XC E st t ∧ t.heap[q]? = some ce ∧ ce.vm = .none ∧ st.vm.findClass E = some ce.cls ∧ st.WarmedH t.vm ∧ st.sameButNew ({ t with vm := st.vm } : State) L mc ms ∧ ∀ z ∈ L, free z.base
def vx_Q (Qc : Array Value → State → Outcome → State → Prop) (XC : String → State → State → Prop) (mc ms : Nat) (free : Addr → Prop) : Array Value → State → Outcome → State → Prop := fun a st o t =>
  (Qc a st o t ∧ ∃ L, FrameEnd st o t L mc ms ∧ ∀ q ∈ L, free q.base) ∨ ∃ q, o = .threw q ∧ vx_T XC st q t mc ms free
/-- a callee that returns or throws -/
def vx_Met (l : Launch) (y : MethodName) (ws : List Cond) (rm : Room) (Pc : Array Value → State → Prop) (Qc : Array Value → State → Outcome → State → Prop) (XC : String → State → State → Prop) (mc ms : Nat) (free : Addr → Prop) : Prop :=
  MetFree l y (headSpec ws rm) Pc (fun _ _ _ _ _ => True) (vx_Q Qc XC mc ms free)
def vx_Post (XC : String → State → State → Prop) (mc ms : Nat) (free : Addr → Prop) : Pt → Array Value → Addr → Pt → Prop := fun A a q B =>
  ∃ (g : JFrame) (mk : MethodId) (t : State) (L : List Loc) (E : String) (ce : Cell), B.U.heap = t.heap ∧ B.U.vm = t.vm ∧ XC E (A.U.calling g mk a) t ∧ t.heap[q]? = some ce ∧ ce.vm = .none ∧ A.U.vm.findClass E = some ce.cls ∧ B.locs = A.locs ++ L ∧ (∀ z ∈ L, free z.base) ∧ B.cells = A.cells + mc ∧ B.slots = A.slots + ms
def vx_Back (l : Launch) (R : Room) (p : Program) (e : Env) (below : List Frame) (s : State) (sargs : Array Value) (y : MethodName) (len W9 : Nat)
    (Pre : Pt → Array Value → Prop) (Post : Pt → Array Value → Option Value → Pt → Prop) (PostX : Pt → Array Value → Addr → Pt → Prop) : Prop :=
  ∀ (m : MethodId) (meth : Method) (c : Code) (A : Pt) (g : JFrame) (ig : Instr) (mk : MethodId) (a : Array Value),
    Stand p l e R s m sargs below meth c A.U A.locs A.cells A.slots → g.method = m → g.locals.size = c.maxLocals → decode c.code g.pc = .ok (ig, len) →
    2 * g.monitorRoom + (g.stack.map fun v => v.category).sum ≤ W9 → A.U.methodNamed? y = some mk → Pre A a →
    (∃ (v : Option Value) (B : Pt), Stand p l e R s m sargs below meth c B.U B.locs B.cells B.slots ∧ Post A a v B ∧
      Steps p.tables e below (doInvoke e (A.U.setTop g) [] mk a).1 (B.U.setTop { g with pc := g.pc + len, stack := v.toList ++ g.stack })) ∨
    (∃ (q : Addr) (B : Pt), Stand p l e R s m sargs below meth c B.U B.locs B.cells B.slots ∧ PostX A a q B ∧
      Steps p.tables e below (doInvoke e (A.U.setTop g) [] mk a).1 ((B.U.setTop g).pushFrame (.throwing q)))
section Payer
variable {l : Launch} {R : Room} {p : Program} {e : Env} {below : List Frame} {s : State} {sargs : Array Value} {y : MethodName} {len W9 : Nat}
theorem vx_back {ws : List Cond} {rm : Room} {Pc : Array Value → State → Prop} {Qc : Array Value → State → Outcome → State → Prop} {XC : String → State → State → Prop} {mc ms : Nat} {free : Addr → Prop} {bytes : ByteArray} {maxL : Nat} {ret : Option FieldType}
    (hM : vx_Met l y ws rm Pc Qc XC mc ms free) (hblind : FrameBlind Pc) (hrc : rm.cells = mc) (hrs : rm.slots = ms)
    (hframes : rm.frames + 1 ≤ R.frames) (hlocals : W9 + (maxL + 11) + rm.locals ≤ R.locals)
    (hws : ∀ w ∈ ws, ∀ a' U, s.WarmedH U.vm → w.before a' U = true) (hcode : Cond.code y bytes maxL ret ∈ ws) (hinit : ∀ a' U, s.WarmedH U.vm → (Cond.initialized y.cls).before a' U = true) :
    vx_Back l R p e below s sargs y len W9 (PreOf R mc ms Pc) (PostOf Qc mc ms free) (vx_Post XC mc ms free) := by
  intro m meth c A g ig mk a X hg hsize hdg hW hn hp
  have h1 : (headSpec ws rm).pre.before a A.U = true := atoms_intro fun w hw => hws w hw _ _ X.warmed
  have h2 : (Cond.code y bytes maxL ret).before a A.U = true := hws _ hcode _ _ X.warmed
  have h3 : (Cond.initialized y.cls).before a A.U = true := hinit _ _ X.warmed
  have h4 : A.cells + (headSpec ws rm).room.cells ≤ R.cells := by rw [show (headSpec ws rm).room.cells = mc from hrc]; exact hp.1
  have h5 : A.slots + (headSpec ws rm).room.slots ≤ R.slots := by rw [show (headSpec ws rm).room.slots = ms from hrs]; exact hp.2.1
  have hPc : Pc a (A.U.calling g mk a) := hblind _ _ _ _ hp.2.2
  obtain ⟨U, Ls, c0, s0⟩ := A
  dsimp only [Pt.U, Pt.locs, Pt.cells, Pt.slots] at h1 h2 h3 h4 h5 X hn hPc ⊢
  obtain ⟨methY, cY, hmY, hcY, -, hlY, -, -, -, -⟩ := Cond.code_spec hn h2
  obtain ⟨kY, hkY, -⟩ := className_of_methodNamed hn
  have hinitY : kY.init = .initialized := Cond.initialized_spec (findClass_of_methodNamed hn) hkY h3
  have h : At U g.method c below := by rw [hg]; exact X.here
  have hlocals9 : W9 + (maxL + 11) + (headSpec ws rm).room.locals ≤ R.locals := hlocals
  have happ : (headSpec ws rm).appliesLoose y e.platform (U.calling g mk a) = true :=
    Spec.appliesLoose_calling (g := g) h hdg hn hkY hinitY
      (X.room_calling (g := g) (R' := (headSpec ws rm).room) hsize hmY hcY hframes (by rw [hlY]; omega) h4 h5) h1
  obtain ⟨mid, hmid⟩ := h.above
  have hfr : (U.setTop g).frames = (.java g :: mid) ++ below := by rw [State.frames_setTop' g h.top, hmid]; rfl
  obtain ⟨o, s₂, hsteps, -, hend, hq⟩ := Steps.callFree hM p X.admits X.cas X.clock (acts := []) hfr happ hPc trivial
  have hq' : vx_Q Qc XC mc ms free a (U.calling g mk a) o s₂ := hq
  rw [State.frames_setTop' g h.top] at hend
  obtain ⟨g₀, hg0⟩ := Option.isSome_iff_exists.mp h.top
  obtain ⟨r, hr⟩ := State.topJava?_eq_some.mp hg0
  have hr' : (({ U with heap := s₂.heap, slotsUsed := s₂.slotsUsed } : State).setVm s₂.vm).frames = .java g₀ :: r := hr
  rcases hq' with ⟨hqc, L, hfe, hL⟩ | ⟨q, rfl, E, ce, L, hx, hce, hcv, hcl, hW₂, hsm, hL⟩
  · obtain ⟨⟨v, rfl⟩, hW₂, e2, q2, q3, q4, q5, q6⟩ := id hfe
    have e3 : s₂ = ({ (U.calling g mk a).setFrames s₂.frames with heap := s₂.heap, slotsUsed := s₂.slotsUsed } : State).setVm s₂.vm := by
      have : s₂ = ({ s₂ with vm := (U.calling g mk a).vm } : State).setVm s₂.vm := rfl
      rw [e2] at this
      exact this
    obtain ⟨c₂, i₂, len₂, hc₂, hd₂, hf₂⟩ := hend
    have hW' : U.WarmedH s₂.vm := hW₂
    have hcc : c₂ = c := by
      have h1 : s₂.code? g.method = U.code? g.method := by
        rw [State.code?_eq, State.code?_eq, hW'.alike.method?]
      exact Option.some.inj (hc₂.symm.trans (h1.trans h.code))
    subst hcc
    have hlen : len₂ = len := by rw [hdg] at hd₂; cases hd₂; rfl
    subst hlen
    have hs₂ : s₂ = (({ U with heap := s₂.heap, slotsUsed := s₂.slotsUsed } : State).setVm s₂.vm).setTop { g with pc := g.pc + len₂, stack := v.toList ++ g.stack } := by
      refine e3.trans ?_
      rw [hf₂, State.calling_eq h.top, State.setFrames_setFrames, State.setTop_of_frames _ hr', hr]
      rfl
    have hsame : U.sameButNew ({ U with heap := s₂.heap, slotsUsed := s₂.slotsUsed } : State) L mc ms := by
      refine ⟨?_, q2, q3, q4, q5, q6⟩
      obtain ⟨t, ht, -⟩ := State.frames_cons hr
      show ({ U with heap := s₂.heap, slotsUsed := s₂.slotsUsed } : State) = { U.setFrames U.frames with heap := s₂.heap, slotsUsed := s₂.slotsUsed }
      rw [State.setFrames_self ht]
    subst hg
    refine Or.inl ⟨v, ⟨(({ U with heap := s₂.heap, slotsUsed := s₂.slotsUsed } : State).setVm s₂.vm), Ls ++ L, c0 + mc, s0 + ms⟩,
      ⟨X.admits, X.cas, X.clock, X.frames, X.room, X.hears, X.method, X.code, (X.here.setHeapUsed s₂.heap s₂.slotsUsed).setVm hW'.alike, X.tail, State.WarmedH.trans X.warmed hW', X.limits, X.bytes, X.same.trans (hsame.setVm s.vm)⟩,
      ⟨g, mk, s₂, L, rfl, rfl, hqc, rfl, hL, rfl, rfl⟩, ?_⟩
    show Steps p.tables e below _ ((({ U with heap := s₂.heap, slotsUsed := s₂.slotsUsed } : State).setVm s₂.vm).setTop { g with pc := g.pc + len₂, stack := v.toList ++ g.stack })
    rw [← hs₂]
    exact hsteps
  · obtain ⟨e2, q2, q3, q4, q5, q6⟩ := id hsm
    have e3 : s₂ = ({ (U.calling g mk a).setFrames s₂.frames with heap := s₂.heap, slotsUsed := s₂.slotsUsed } : State).setVm s₂.vm := by
      have : s₂ = ({ s₂ with vm := (U.calling g mk a).vm } : State).setVm s₂.vm := rfl
      rw [e2] at this
      exact this
    have hf₂ : s₂.frames = .throwing q :: .java g :: U.frames.tail := hend
    have hW' : U.WarmedH s₂.vm := hW₂
    have hs₂ : s₂ = ((({ U with heap := s₂.heap, slotsUsed := s₂.slotsUsed } : State).setVm s₂.vm).setTop g).pushFrame (.throwing q) := by
      refine e3.trans ?_
      rw [hf₂, State.calling_eq h.top, State.setFrames_setFrames, State.pushFrame, State.frames_setTop _ hr', State.setTop_of_frames _ hr', State.setFrames_setFrames, hr]
      rfl
    have hsame : U.sameButNew ({ U with heap := s₂.heap, slotsUsed := s₂.slotsUsed } : State) L mc ms := by
      refine ⟨?_, q2, q3, q4, q5, q6⟩
      obtain ⟨t, ht, -⟩ := State.frames_cons hr
      show ({ U with heap := s₂.heap, slotsUsed := s₂.slotsUsed } : State) = { U.setFrames U.frames with heap := s₂.heap, slotsUsed := s₂.slotsUsed }
      rw [State.setFrames_self ht]
    subst hg
    refine Or.inr ⟨q, ⟨(({ U with heap := s₂.heap, slotsUsed := s₂.slotsUsed } : State).setVm s₂.vm), Ls ++ L, c0 + mc, s0 + ms⟩,
      ⟨X.admits, X.cas, X.clock, X.frames, X.room, X.hears, X.method, X.code, (X.here.setHeapUsed s₂.heap s₂.slotsUsed).setVm hW'.alike, X.tail, State.WarmedH.trans X.warmed hW', X.limits, X.bytes, X.same.trans (hsame.setVm s.vm)⟩,
      ⟨g, mk, s₂, L, E, ce, rfl, rfl, hx, hce, hcv, hcl, rfl, hL, rfl, rfl⟩, ?_⟩
    show Steps p.tables e below _ (((({ U with heap := s₂.heap, slotsUsed := s₂.slotsUsed } : State).setVm s₂.vm).setTop g).pushFrame (.throwing q))
    rw [← hs₂]
    exact hsteps
end Payer
section Calls
variable {p : Program} {l : Launch} {e : Env} {R : Room} {s : State} {m : MethodId} {args : Array Value} {below : List Frame} {meth : Method} {c : Code} {T : State} {locs : List Loc} {cells slots : Nat}
theorem vx_callV (X : Stand p l e R s m args below meth c T locs cells slots) (hexec : p.tables.exec = Jvm.exec) {own C : String} {index : Nat} {y : MethodName} {bytes : ByteArray} {maxL : Nat} {ret : Option FieldType}
    (hown : s.vm.findClass own = some m.cls) (hlink : (Cond.methodLink own index y).before args s = true) (hinst : (Cond.instanceMethod y).before args s = true) (hsel : (Cond.selects C y y).before args s = true)
    (hcode : (Cond.code y bytes maxL ret).before args s = true) (hy : y.cls ≠ "java/lang/invoke/MethodHandle" ∧ y.cls ≠ "java/lang/invoke/VarHandle")
    {W9 : Nat} {Pre : Pt → Array Value → Prop} {Post : Pt → Array Value → Option Value → Pt → Prop} {PostX : Pt → Array Value → Addr → Pt → Prop} (hK : vx_Back l R p e below s args y 3 W9 Pre Post PostX)
    {b : Addr} {cellB : Cell} (hcell : T.heap[b]? = some cellB) (hobj : cellB.vm.isStatics = false) (hcls : s.vm.findClass C = some cellB.cls)
    {g : JFrame} (hg : g.method = m) (hsize : g.locals.size = c.maxLocals) {argsL rest : List Value} (hlen : ∀ sig, parseMethodDescriptor y.desc = some sig → argsL.length = sig.parameters.length)
    (hstack : g.stack = argsL.reverse ++ .ref b :: rest) (hW : 2 * g.monitorRoom + (rest.map fun v => v.category).sum ≤ W9) (hdg : decode c.code g.pc = .ok (.invokevirtual index, 3))
    (hpre : ∀ vm₁, s.WarmedH vm₁ → Pre ⟨T.setVm vm₁, locs, cells, slots⟩ (Value.ref b :: argsL).toArray) :
    (∃ (v : Option Value) (vm₁ : Vm) (B : Pt), s.WarmedH vm₁ ∧ Stand p l e R s m args below meth c B.U B.locs B.cells B.slots ∧ Post ⟨T.setVm vm₁, locs, cells, slots⟩ (Value.ref b :: argsL).toArray v B ∧
      ∀ target, Steps p.tables e below (B.U.setTop { g with pc := g.pc + 3, stack := v.toList ++ rest }) target → Steps p.tables e below (T.setTop g) target) ∨
    (∃ (q : Addr) (vm₁ : Vm) (B : Pt), s.WarmedH vm₁ ∧ Stand p l e R s m args below meth c B.U B.locs B.cells B.slots ∧ PostX ⟨T.setVm vm₁, locs, cells, slots⟩ (Value.ref b :: argsL).toArray q B ∧
      Steps p.tables e below (T.setTop g) ((B.U.setTop { g with stack := rest }).pushFrame (.throwing q))) := by
  obtain ⟨mk, methM, hnamed, hmethM, hstM, habM⟩ := Cond.instanceMethod_spec hinst
  obtain ⟨methM', cM, hmethM', -, -, -, -, -, -, hsigM⟩ := Cond.code_spec hnamed hcode
  cases hmethM.symm.trans hmethM'
  obtain ⟨c2, r2, m2, q1, q2, q3, q4, kP, hkP, hkPi⟩ := Cond.selects_spec hsel
  cases hcls.symm.trans q1
  cases (State.methodFound?_of_named hnamed hy).symm.trans q2
  cases hnamed.symm.trans q3
  have hselP : selectMethod e.platform s.vm cellB.cls mk = .method mk := by rw [Launch.admits_selectMethod X.admits]; exact q4
  obtain ⟨vm₁, X₁, hstep₁⟩ := X.invokevirtual hexec hown hlink hnamed hmethM hstM hkP hkPi hy (a := b) (cell := cellB) hcell
    (fun z h => by rw [h] at hobj; cases hobj) hselP hmethM habM hkP hkPi (g := g) hg (argsL := argsL) (rest := rest) (hlen _ hsigM) hstack hdg
  rcases hK m meth c ⟨T.setVm vm₁, locs, cells, slots⟩ { g with stack := rest } (.invokevirtual index) mk (Value.ref b :: argsL).toArray X₁ hg hsize hdg hW (X₁.named hnamed) (hpre vm₁ X₁.warmed) with ⟨v, B, X', hpost, hsteps⟩ | ⟨q, B, X', hpost, hsteps⟩
  · exact Or.inl ⟨v, vm₁, B, X₁.warmed, X', hpost, fun target h => hstep₁ _ fun acts => by rw [doInvoke_state]; exact hsteps.trans h⟩
  · exact Or.inr ⟨q, vm₁, B, X₁.warmed, X', hpost, hstep₁ _ fun acts => by rw [doInvoke_state]; exact hsteps⟩
theorem vx_callS (X : Stand p l e R s m args below meth c T locs cells slots) (hexec : p.tables.exec = Jvm.exec) {own : String} {index : Nat} {y : MethodName} {bytes : ByteArray} {maxL : Nat} {ret : Option FieldType}
    (hown : s.vm.findClass own = some m.cls) (hlink : (Cond.methodLink own index y).before args s = true) (hstat : (Cond.static y).before args s = true) (hinit : (Cond.initialized y.cls).before args s = true)
    (hcode : (Cond.code y bytes maxL ret).before args s = true) (hy : y.cls ≠ "java/lang/invoke/MethodHandle" ∧ y.cls ≠ "java/lang/invoke/VarHandle")
    {W9 : Nat} {Pre : Pt → Array Value → Prop} {Post : Pt → Array Value → Option Value → Pt → Prop} {PostX : Pt → Array Value → Addr → Pt → Prop} (hK : vx_Back l R p e below s args y 3 W9 Pre Post PostX)
    {g : JFrame} (hg : g.method = m) (hsize : g.locals.size = c.maxLocals) {argsL rest : List Value} (hlen : ∀ sig, parseMethodDescriptor y.desc = some sig → argsL.length = sig.parameters.length)
    (hstack : g.stack = argsL.reverse ++ rest) (hW : 2 * g.monitorRoom + (rest.map fun v => v.category).sum ≤ W9) (hdg : decode c.code g.pc = .ok (.invokestatic index, 3))
    (hpre : ∀ vm₁, s.WarmedH vm₁ → Pre ⟨T.setVm vm₁, locs, cells, slots⟩ argsL.toArray) :
    (∃ (v : Option Value) (vm₁ : Vm) (B : Pt), s.WarmedH vm₁ ∧ Stand p l e R s m args below meth c B.U B.locs B.cells B.slots ∧ Post ⟨T.setVm vm₁, locs, cells, slots⟩ argsL.toArray v B ∧
      ∀ target, Steps p.tables e below (B.U.setTop { g with pc := g.pc + 3, stack := v.toList ++ rest }) target → Steps p.tables e below (T.setTop g) target) ∨
    (∃ (q : Addr) (vm₁ : Vm) (B : Pt), s.WarmedH vm₁ ∧ Stand p l e R s m args below meth c B.U B.locs B.cells B.slots ∧ PostX ⟨T.setVm vm₁, locs, cells, slots⟩ argsL.toArray q B ∧
      Steps p.tables e below (T.setTop g) ((B.U.setTop { g with stack := rest }).pushFrame (.throwing q))) := by
  obtain ⟨mk, hnamed⟩ := Cond.code_named hcode
  obtain ⟨methM, cM, hmethM, -, -, -, -, -, -, hsigM⟩ := Cond.code_spec hnamed hcode
  have hstatic : methM.isStatic = true := Cond.static_spec hnamed hmethM hstat
  obtain ⟨kP, hkP, -⟩ := className_of_methodNamed hnamed
  have hinitP : kP.init = .initialized := Cond.initialized_spec (findClass_of_methodNamed hnamed) hkP hinit
  obtain ⟨vm₁, X₁, hstep₁⟩ := X.invokestatic hexec hown hlink hnamed hmethM hstatic hkP hinitP hy (g := g) hg (argsL := argsL) (rest := rest) (hlen _ hsigM) hstack hdg
  rcases hK m meth c ⟨T.setVm vm₁, locs, cells, slots⟩ { g with stack := rest } (.invokestatic index) mk argsL.toArray X₁ hg hsize hdg hW (X₁.named hnamed) (hpre vm₁ X₁.warmed) with ⟨v, B, X', hpost, hsteps⟩ | ⟨q, B, X', hpost, hsteps⟩
  · exact Or.inl ⟨v, vm₁, B, X₁.warmed, X', hpost, fun target h => hstep₁ _ fun acts => by rw [doInvoke_state]; exact hsteps.trans h⟩
  · exact Or.inr ⟨q, vm₁, B, X₁.warmed, X', hpost, hstep₁ _ fun acts => by rw [doInvoke_state]; exact hsteps⟩
end Calls
theorem vx_cls {s : State} {T : State} {vm₁ : Vm} {E : String} {k : ClassId} (hW : s.WarmedH vm₁) (h : (T.setVm vm₁).vm.findClass E = some k) : s.vm.findClass E = some k := by
  have h1 : vm₁.findClass E = some k := h
  rw [hW.alike.findClass] at h1
  exact h1
/-- the method's frame g, with q thrown over it -/
def vx_W (p : Program) (l : Launch) (e : Env) (R : Room) (s : State) (m : MethodId) (args : Array Value) (below : List Frame) (meth : Method) (c : Code) (H : Heap) (locs : List Loc) (cells slots : Nat) (Q : State → Prop) (g : JFrame) (q : Addr) : Prop :=
  ∀ T : State, T.heap = H → Stand p l e R s m args below meth c T locs cells slots → ∃ t, Steps p.tables e below ((T.setTop g).pushFrame (.throwing q)) t ∧ Q t
def vx_Run (p : Program) (l : Launch) (e : Env) (R : Room) (s : State) (m : MethodId) (args : Array Value) (below : List Frame) (meth : Method) (c : Code) (H : Heap) (locs : List Loc) (cells slots mc ms : Nat) (g : JFrame) (rest : List Value) (Qa : State → Outcome → State → Prop) (XC : String → State → State → Prop) (free : Addr → Prop) : Prop :=
  ∀ T : State, T.heap = H → Stand p l e R s m args below meth c T locs cells slots →
    (∃ (v : Option Value) (st₀ t T' : State) (L : List Loc), st₀.heap = H ∧ Stand p l e R s m args below meth c T' (locs ++ L) (cells + mc) (slots + ms) ∧ (∀ q ∈ L, free q.base) ∧ T'.heap = t.heap ∧ T'.vm = t.vm ∧ Qa st₀ (.returned v) t ∧
      Goes p e below T g T' { g with pc := g.pc + 3, stack := v.toList ++ rest }) ∨
    (∃ (q : Addr) (st₀ t T' : State) (L : List Loc) (E : String) (ce : Cell), st₀.heap = H ∧ Stand p l e R s m args below meth c T' (locs ++ L) (cells + mc) (slots + ms) ∧ (∀ z ∈ L, free z.base) ∧ T'.heap = t.heap ∧ T'.vm = t.vm ∧ XC E st₀ t ∧ t.heap[q]? = some ce ∧ ce.vm = .none ∧ s.vm.findClass E = some ce.cls ∧
      Steps p.tables e below (T.setTop g) ((T'.setTop { g with stack := rest }).pushFrame (.throwing q)))
def vx_X {S : Type} (px : S → Prop) (B : String → S → State → Prop) (A : Nat → Prop) : String → State → State → Prop := fun E st t => ∃ u : S, px u ∧ B E u t ∧ va_F A st t
section Runs
variable {p : Program} {l : Launch} {e : Env} {R : Room} {s : State} {m : MethodId} {args : Array Value} {below : List Frame} {meth : Method} {c : Code} {H : Heap} {locs : List Loc} {cells slots : Nat}
variable {y : MethodName} {bytes cc : ByteArray} {maxL nL mc ms n index : Nat} {ret : Option FieldType} {ws : List Cond} {rm : Room} {Pc : Array Value → State → Prop} {Qc : Array Value → State → Outcome → State → Prop} {XC : String → State → State → Prop} {free : Addr → Prop} {Ts : List Cond} {own C : String} {b : Addr} {As rest : List Value} {g : JFrame}
theorem vx_callBack (cb : CallB R s args own index y bytes maxL ret ws rm mc ms n) (hM : vx_Met l y ws rm Pc Qc XC mc ms free) (hbl : FrameBlind Pc) : vx_Back l R p e below s args y 3 8 (PreOf R mc ms Pc) (PostOf Qc mc ms free) (vx_Post XC mc ms free) := by
  obtain ⟨hrc, hrs, hfr, hlo, hws, hcw, -, hini, -⟩ := cb
  exact vx_back (bytes := bytes) (maxL := maxL) (ret := ret) hM hbl hrc hrs hfr hlo hws hcw (fun a' U hW => word_at hW (Or.inl (by first | rfl | simp [Cond.onTables, Cond.keeps, Cond.steady])) hini)
theorem vx_runV (S : CallFix p m c cc nL s args Ts own) (hM : vx_Met l y ws rm Pc Qc XC mc ms free) (cw : CallW R s args own C index y bytes maxL ret ws rm mc ms n) (hp : PreV s H C b Pc As)
    (hg : g.method = m) (hn : As.length = n) (hsize : g.locals.size = nL) (hstack : g.stack = As.reverse ++ .ref b :: rest) (hW : 2 * g.monitorRoom + (rest.map fun v => v.category).sum ≤ 8) (hdg : decode cc g.pc = .ok (.invokevirtual index, 3)) (hf : cells + mc ≤ R.cells ∧ slots + ms ≤ R.slots) :
    vx_Run p l e R s m args below meth c H locs cells slots mc ms g rest (Qc (Value.ref b :: As).toArray) XC free := by
  have hK : vx_Back l R p e below s args y 3 8 (PreOf R mc ms Pc) (PostOf Qc mc ms free) (vx_Post XC mc ms free) := vx_callBack cw.1 hM hp.1
  obtain ⟨⟨-, -, -, -, -, -, hcode, -, hy, hlen, hl⟩, hin, hse⟩ := cw
  obtain ⟨hx, hb, hml, ho, -⟩ := S
  obtain ⟨-, ⟨cellB, hcB, hoB, hclB⟩, hPc⟩ := hp
  intro T hT X
  rcases vx_callV X hx (C := C) (bytes := bytes) (maxL := maxL) (ret := ret) ho hl hin hse hcode hy hK (by rw [hT]; exact hcB) hoB hclB hg (hsize.trans hml.symm) (argsL := As) (rest := rest) (fun sig h => hn.trans (hlen sig h)) hstack hW (by rw [hb]; exact hdg)
    (fun vm₁ hW₁ => ⟨hf.1, hf.2, hPc (T.setVm vm₁) hT hW₁⟩) with ⟨v, vm₁, ⟨U', l2, c2, s2⟩, hW₁, X', ⟨g', mk, t, L, e1, e2, hq, h1, hL, h2, h3⟩, st⟩ | ⟨q, vm₁, ⟨U', l2, c2, s2⟩, hW₁, X', ⟨g', mk, t, L, E, ce, e1, e2, hq, hce, hcv, hcl, h1, hL, h2, h3⟩, st⟩
  · dsimp only [Pt.U, Pt.locs, Pt.cells, Pt.slots] at X' e1 e2 h1 h2 h3 st
    subst h1; subst h2; subst h3
    exact Or.inl ⟨v, (T.setVm vm₁).calling g' mk (Value.ref b :: As).toArray, t, U', L, hT, X', hL, e1, e2, hq, st⟩
  · dsimp only [Pt.U, Pt.locs, Pt.cells, Pt.slots] at X' e1 e2 h1 h2 h3 st hcl
    subst h1; subst h2; subst h3
    exact Or.inr ⟨q, (T.setVm vm₁).calling g' mk (Value.ref b :: As).toArray, t, U', L, E, ce, hT, X', hL, e1, e2, hq, hce, hcv, vx_cls hW₁ hcl, st⟩
theorem vx_runS (S : CallFix p m c cc nL s args Ts own) (hM : vx_Met l y ws rm Pc Qc XC mc ms free) (cw : CallB R s args own index y bytes maxL ret ws rm mc ms n ∧ (Cond.static y).before args s = true) (hp : PreS s H Pc As)
    (hg : g.method = m) (hn : As.length = n) (hsize : g.locals.size = nL) (hstack : g.stack = As.reverse ++ rest) (hW : 2 * g.monitorRoom + (rest.map fun v => v.category).sum ≤ 8) (hdg : decode cc g.pc = .ok (.invokestatic index, 3)) (hf : cells + mc ≤ R.cells ∧ slots + ms ≤ R.slots) :
    vx_Run p l e R s m args below meth c H locs cells slots mc ms g rest (Qc As.toArray) XC free := by
  have hK : vx_Back l R p e below s args y 3 8 (PreOf R mc ms Pc) (PostOf Qc mc ms free) (vx_Post XC mc ms free) := vx_callBack cw.1 hM hp.1
  obtain ⟨⟨-, -, -, -, -, -, hcode, hini, hy, hlen, hl⟩, hstt⟩ := cw
  obtain ⟨hx, hb, hml, ho, -⟩ := S
  intro T hT X
  rcases vx_callS X hx (bytes := bytes) (maxL := maxL) (ret := ret) ho hl hstt hini hcode hy hK hg (hsize.trans hml.symm) (argsL := As) (rest := rest) (fun sig h => hn.trans (hlen sig h)) hstack hW (by rw [hb]; exact hdg)
    (fun vm₁ hW₁ => ⟨hf.1, hf.2, hp.2 (T.setVm vm₁) hT hW₁⟩) with ⟨v, vm₁, ⟨U', l2, c2, s2⟩, hW₁, X', ⟨g', mk, t, L, e1, e2, hq, h1, hL, h2, h3⟩, st⟩ | ⟨q, vm₁, ⟨U', l2, c2, s2⟩, hW₁, X', ⟨g', mk, t, L, E, ce, e1, e2, hq, hce, hcv, hcl, h1, hL, h2, h3⟩, st⟩
  · dsimp only [Pt.U, Pt.locs, Pt.cells, Pt.slots] at X' e1 e2 h1 h2 h3 st
    subst h1; subst h2; subst h3
    exact Or.inl ⟨v, (T.setVm vm₁).calling g' mk As.toArray, t, U', L, hT, X', hL, e1, e2, hq, st⟩
  · dsimp only [Pt.U, Pt.locs, Pt.cells, Pt.slots] at X' e1 e2 h1 h2 h3 st hcl
    subst h1; subst h2; subst h3
    exact Or.inr ⟨q, (T.setVm vm₁).calling g' mk As.toArray, t, U', L, E, ce, hT, X', hL, e1, e2, hq, hce, hcv, vx_cls hW₁ hcl, st⟩
end Runs
section Rows
variable {p : Program} {l : Launch} {e : Env} {R : Room} {s : State} {m : MethodId} {args : Array Value} {below : List Frame} {meth : Method} {c : Code} {H : Heap} {locs : List Loc} {cells slots : Nat} {Q : State → Prop}
variable {mc ms : Nat} {free : Addr → Prop} {A0 A1 : Nat → Prop} {H0 : Heap} {a : Array Value} {pc : Nat} {ls : Array Slot} {st0 rest : List Value}
theorem vx_keep {st₀ t T' : State} {L : List Loc} (h0 : st₀.heap = H) (e1 : T'.heap = t.heap) (hS : va_S A0 H0 H locs) (hA : ∀ q, q < H.size → A1 q → A0 q) (hf : ∀ q, free q → A0 q) (hL : ∀ q ∈ L, free q.base) (hF : va_F A1 st₀ t) :
    H.size ≤ T'.heap.size ∧ (∀ q : Nat, q < H.size → ¬ A1 q → T'.heap[q]? = H[q]?) ∧ va_S A0 H0 T'.heap (locs ++ L) := by
  obtain ⟨hz, hk⟩ := hF
  rw [h0] at hz hk
  exact ⟨by rw [e1]; exact hz, fun q h1 h2 => by rw [e1]; exact hk q h1 h2,
    ⟨Nat.le_trans hS.1 (by rw [e1]; exact hz), fun q h1 h2 => by rw [e1, hk q (Nat.lt_of_lt_of_le h1 hS.1) (fun z => h2 (hA q (Nat.lt_of_lt_of_le h1 hS.1) z))]; exact hS.2.1 q h1 h2, fun q hq => by
      rcases List.mem_append.mp hq with h | h
      · exact hS.2.2 q h
      · exact hf _ (hL q h)⟩⟩
theorem vx_calli {S SX : Type} {post : Int32 → S → Prop} {px : SX → Prop} {B : S → State → Prop} {BX : String → SX → State → Prop} {AX : Nat → Prop} (hr : vx_Run p l e R s m args below meth c H locs cells slots mc ms (F0 m pc ls st0) rest (va_Qi post B A1 a) (vx_X px BX AX) free) (hS : va_S A0 H0 H locs) (hA : ∀ q, q < H.size → A1 q → A0 q) (hf : ∀ q, free q → A0 q) (hAX : ∀ q, q < H.size → AX q → A0 q)
    (kx : ∀ (E : String) (ce : Cell) (q9 : Addr) (u : SX) (t : State) (H1 : Heap) (locs1 : List Loc), t.heap = H1 → s.vm.Alike t.vm → px u → BX E u t → H.size ≤ H1.size → (∀ q : Nat, q < H.size → ¬ AX q → H1[q]? = H[q]?) → va_S A0 H0 H1 locs1 → H1[q9]? = some ce → ce.vm = .none → s.vm.findClass E = some ce.cls → vx_W p l e R s m args below meth c H1 locs1 (cells + mc) (slots + ms) Q (F0 m pc ls rest) q9)
    (kk : ∀ (r : Int32) (u : S) (t : State) (H1 : Heap) (locs1 : List Loc), t.heap = H1 → s.vm.Alike t.vm → post r u → B u t → H.size ≤ H1.size → (∀ q : Nat, q < H.size → ¬ A1 q → H1[q]? = H[q]?) → va_S A0 H0 H1 locs1 → W p l e R s m args below meth c H1 locs1 (cells + mc) (slots + ms) Q (F0 m (pc + 3) ls (.int r :: rest))) : W p l e R s m args below meth c H locs cells slots Q (F0 m pc ls st0) := by
  intro T hT X
  rcases hr T hT X with ⟨v, st₀, t, T', L, h0, X', hL, e1, e2, ⟨⟨r, u, hv, hp, hb⟩, hF⟩, st⟩ | ⟨q, st₀, t, T', L, E, ce, h0, X', hL, e1, e2, ⟨u, hp, hb, hF⟩, hce, hcv, hcl, st⟩
  · cases hv
    obtain ⟨k1, k2, k3⟩ := vx_keep h0 e1 hS hA hf hL hF
    obtain ⟨t2, a1, b1⟩ := kk r u t T'.heap (locs ++ L) e1.symm (by rw [← e2]; exact X'.warmed.alike) hp hb k1 k2 k3 T' rfl X'
    exact ⟨t2, st t2 a1, b1⟩
  · obtain ⟨k1, k2, k3⟩ := vx_keep h0 e1 hS hAX hf hL hF
    obtain ⟨t2, a1, b1⟩ := kx E ce q u t T'.heap (locs ++ L) e1.symm (by rw [← e2]; exact X'.warmed.alike) hp hb k1 k2 k3 (by rw [e1]; exact hce) hcv hcl T' rfl X'
    exact ⟨t2, st.trans a1, b1⟩
theorem vx_calll {S SX : Type} {post : Int64 → S → Prop} {px : SX → Prop} {B : S → State → Prop} {BX : String → SX → State → Prop} {AX : Nat → Prop} (hr : vx_Run p l e R s m args below meth c H locs cells slots mc ms (F0 m pc ls st0) rest (va_Ql post B A1 a) (vx_X px BX AX) free) (hS : va_S A0 H0 H locs) (hA : ∀ q, q < H.size → A1 q → A0 q) (hf : ∀ q, free q → A0 q) (hAX : ∀ q, q < H.size → AX q → A0 q)
    (kx : ∀ (E : String) (ce : Cell) (q9 : Addr) (u : SX) (t : State) (H1 : Heap) (locs1 : List Loc), t.heap = H1 → s.vm.Alike t.vm → px u → BX E u t → H.size ≤ H1.size → (∀ q : Nat, q < H.size → ¬ AX q → H1[q]? = H[q]?) → va_S A0 H0 H1 locs1 → H1[q9]? = some ce → ce.vm = .none → s.vm.findClass E = some ce.cls → vx_W p l e R s m args below meth c H1 locs1 (cells + mc) (slots + ms) Q (F0 m pc ls rest) q9)
    (kk : ∀ (r : Int64) (u : S) (t : State) (H1 : Heap) (locs1 : List Loc), t.heap = H1 → s.vm.Alike t.vm → post r u → B u t → H.size ≤ H1.size → (∀ q : Nat, q < H.size → ¬ A1 q → H1[q]? = H[q]?) → va_S A0 H0 H1 locs1 → W p l e R s m args below meth c H1 locs1 (cells + mc) (slots + ms) Q (F0 m (pc + 3) ls (.long r :: rest))) : W p l e R s m args below meth c H locs cells slots Q (F0 m pc ls st0) := by
  intro T hT X
  rcases hr T hT X with ⟨v, st₀, t, T', L, h0, X', hL, e1, e2, ⟨⟨r, u, hv, hp, hb⟩, hF⟩, st⟩ | ⟨q, st₀, t, T', L, E, ce, h0, X', hL, e1, e2, ⟨u, hp, hb, hF⟩, hce, hcv, hcl, st⟩
  · cases hv
    obtain ⟨k1, k2, k3⟩ := vx_keep h0 e1 hS hA hf hL hF
    obtain ⟨t2, a1, b1⟩ := kk r u t T'.heap (locs ++ L) e1.symm (by rw [← e2]; exact X'.warmed.alike) hp hb k1 k2 k3 T' rfl X'
    exact ⟨t2, st t2 a1, b1⟩
  · obtain ⟨k1, k2, k3⟩ := vx_keep h0 e1 hS hAX hf hL hF
    obtain ⟨t2, a1, b1⟩ := kx E ce q u t T'.heap (locs ++ L) e1.symm (by rw [← e2]; exact X'.warmed.alike) hp hb k1 k2 k3 (by rw [e1]; exact hce) hcv hcl T' rfl X'
    exact ⟨t2, st.trans a1, b1⟩
theorem vx_callf {S SX : Type} {post : UInt32 → S → Prop} {px : SX → Prop} {B : S → State → Prop} {BX : String → SX → State → Prop} {AX : Nat → Prop} (hr : vx_Run p l e R s m args below meth c H locs cells slots mc ms (F0 m pc ls st0) rest (va_Qf post B A1 a) (vx_X px BX AX) free) (hS : va_S A0 H0 H locs) (hA : ∀ q, q < H.size → A1 q → A0 q) (hf : ∀ q, free q → A0 q) (hAX : ∀ q, q < H.size → AX q → A0 q)
    (kx : ∀ (E : String) (ce : Cell) (q9 : Addr) (u : SX) (t : State) (H1 : Heap) (locs1 : List Loc), t.heap = H1 → s.vm.Alike t.vm → px u → BX E u t → H.size ≤ H1.size → (∀ q : Nat, q < H.size → ¬ AX q → H1[q]? = H[q]?) → va_S A0 H0 H1 locs1 → H1[q9]? = some ce → ce.vm = .none → s.vm.findClass E = some ce.cls → vx_W p l e R s m args below meth c H1 locs1 (cells + mc) (slots + ms) Q (F0 m pc ls rest) q9)
    (kk : ∀ (r : UInt32) (u : S) (t : State) (H1 : Heap) (locs1 : List Loc), t.heap = H1 → s.vm.Alike t.vm → post r u → B u t → H.size ≤ H1.size → (∀ q : Nat, q < H.size → ¬ A1 q → H1[q]? = H[q]?) → va_S A0 H0 H1 locs1 → W p l e R s m args below meth c H1 locs1 (cells + mc) (slots + ms) Q (F0 m (pc + 3) ls (.float r :: rest))) : W p l e R s m args below meth c H locs cells slots Q (F0 m pc ls st0) := by
  intro T hT X
  rcases hr T hT X with ⟨v, st₀, t, T', L, h0, X', hL, e1, e2, ⟨⟨r, u, hv, hp, hb⟩, hF⟩, st⟩ | ⟨q, st₀, t, T', L, E, ce, h0, X', hL, e1, e2, ⟨u, hp, hb, hF⟩, hce, hcv, hcl, st⟩
  · cases hv
    obtain ⟨k1, k2, k3⟩ := vx_keep h0 e1 hS hA hf hL hF
    obtain ⟨t2, a1, b1⟩ := kk r u t T'.heap (locs ++ L) e1.symm (by rw [← e2]; exact X'.warmed.alike) hp hb k1 k2 k3 T' rfl X'
    exact ⟨t2, st t2 a1, b1⟩
  · obtain ⟨k1, k2, k3⟩ := vx_keep h0 e1 hS hAX hf hL hF
    obtain ⟨t2, a1, b1⟩ := kx E ce q u t T'.heap (locs ++ L) e1.symm (by rw [← e2]; exact X'.warmed.alike) hp hb k1 k2 k3 (by rw [e1]; exact hce) hcv hcl T' rfl X'
    exact ⟨t2, st.trans a1, b1⟩
theorem vx_calld {S SX : Type} {post : UInt64 → S → Prop} {px : SX → Prop} {B : S → State → Prop} {BX : String → SX → State → Prop} {AX : Nat → Prop} (hr : vx_Run p l e R s m args below meth c H locs cells slots mc ms (F0 m pc ls st0) rest (va_Qd post B A1 a) (vx_X px BX AX) free) (hS : va_S A0 H0 H locs) (hA : ∀ q, q < H.size → A1 q → A0 q) (hf : ∀ q, free q → A0 q) (hAX : ∀ q, q < H.size → AX q → A0 q)
    (kx : ∀ (E : String) (ce : Cell) (q9 : Addr) (u : SX) (t : State) (H1 : Heap) (locs1 : List Loc), t.heap = H1 → s.vm.Alike t.vm → px u → BX E u t → H.size ≤ H1.size → (∀ q : Nat, q < H.size → ¬ AX q → H1[q]? = H[q]?) → va_S A0 H0 H1 locs1 → H1[q9]? = some ce → ce.vm = .none → s.vm.findClass E = some ce.cls → vx_W p l e R s m args below meth c H1 locs1 (cells + mc) (slots + ms) Q (F0 m pc ls rest) q9)
    (kk : ∀ (r : UInt64) (u : S) (t : State) (H1 : Heap) (locs1 : List Loc), t.heap = H1 → s.vm.Alike t.vm → post r u → B u t → H.size ≤ H1.size → (∀ q : Nat, q < H.size → ¬ A1 q → H1[q]? = H[q]?) → va_S A0 H0 H1 locs1 → W p l e R s m args below meth c H1 locs1 (cells + mc) (slots + ms) Q (F0 m (pc + 3) ls (.double r :: rest))) : W p l e R s m args below meth c H locs cells slots Q (F0 m pc ls st0) := by
  intro T hT X
  rcases hr T hT X with ⟨v, st₀, t, T', L, h0, X', hL, e1, e2, ⟨⟨r, u, hv, hp, hb⟩, hF⟩, st⟩ | ⟨q, st₀, t, T', L, E, ce, h0, X', hL, e1, e2, ⟨u, hp, hb, hF⟩, hce, hcv, hcl, st⟩
  · cases hv
    obtain ⟨k1, k2, k3⟩ := vx_keep h0 e1 hS hA hf hL hF
    obtain ⟨t2, a1, b1⟩ := kk r u t T'.heap (locs ++ L) e1.symm (by rw [← e2]; exact X'.warmed.alike) hp hb k1 k2 k3 T' rfl X'
    exact ⟨t2, st t2 a1, b1⟩
  · obtain ⟨k1, k2, k3⟩ := vx_keep h0 e1 hS hAX hf hL hF
    obtain ⟨t2, a1, b1⟩ := kx E ce q u t T'.heap (locs ++ L) e1.symm (by rw [← e2]; exact X'.warmed.alike) hp hb k1 k2 k3 (by rw [e1]; exact hce) hcv hcl T' rfl X'
    exact ⟨t2, st.trans a1, b1⟩
theorem vx_callv {S SX : Type} {post : S → Prop} {px : SX → Prop} {B : S → State → Prop} {BX : String → SX → State → Prop} {AX : Nat → Prop} (hr : vx_Run p l e R s m args below meth c H locs cells slots mc ms (F0 m pc ls st0) rest (va_Qv post B A1 a) (vx_X px BX AX) free) (hS : va_S A0 H0 H locs) (hA : ∀ q, q < H.size → A1 q → A0 q) (hf : ∀ q, free q → A0 q) (hAX : ∀ q, q < H.size → AX q → A0 q)
    (kx : ∀ (E : String) (ce : Cell) (q9 : Addr) (u : SX) (t : State) (H1 : Heap) (locs1 : List Loc), t.heap = H1 → s.vm.Alike t.vm → px u → BX E u t → H.size ≤ H1.size → (∀ q : Nat, q < H.size → ¬ AX q → H1[q]? = H[q]?) → va_S A0 H0 H1 locs1 → H1[q9]? = some ce → ce.vm = .none → s.vm.findClass E = some ce.cls → vx_W p l e R s m args below meth c H1 locs1 (cells + mc) (slots + ms) Q (F0 m pc ls rest) q9)
    (kk : ∀ (u : S) (t : State) (H1 : Heap) (locs1 : List Loc), t.heap = H1 → s.vm.Alike t.vm → post u → B u t → H.size ≤ H1.size → (∀ q : Nat, q < H.size → ¬ A1 q → H1[q]? = H[q]?) → va_S A0 H0 H1 locs1 → W p l e R s m args below meth c H1 locs1 (cells + mc) (slots + ms) Q (F0 m (pc + 3) ls (rest))) : W p l e R s m args below meth c H locs cells slots Q (F0 m pc ls st0) := by
  intro T hT X
  rcases hr T hT X with ⟨v, st₀, t, T', L, h0, X', hL, e1, e2, ⟨⟨u, hv, hp, hb⟩, hF⟩, st⟩ | ⟨q, st₀, t, T', L, E, ce, h0, X', hL, e1, e2, ⟨u, hp, hb, hF⟩, hce, hcv, hcl, st⟩
  · cases hv
    obtain ⟨k1, k2, k3⟩ := vx_keep h0 e1 hS hA hf hL hF
    obtain ⟨t2, a1, b1⟩ := kk u t T'.heap (locs ++ L) e1.symm (by rw [← e2]; exact X'.warmed.alike) hp hb k1 k2 k3 T' rfl X'
    exact ⟨t2, st t2 a1, b1⟩
  · obtain ⟨k1, k2, k3⟩ := vx_keep h0 e1 hS hAX hf hL hF
    obtain ⟨t2, a1, b1⟩ := kx E ce q u t T'.heap (locs ++ L) e1.symm (by rw [← e2]; exact X'.warmed.alike) hp hb k1 k2 k3 (by rw [e1]; exact hce) hcv hcl T' rfl X'
    exact ⟨t2, st.trans a1, b1⟩
/-- caught by the row x of this method's table; the rows ahead don't take it -/
theorem vx_catch {own name : String} {E : String} {ce : Cell} {q : Addr} (hown : s.vm.findClass own = some m.cls) (pre : List ExceptionTableEntry) (x : ExceptionTableEntry) (suf : List ExceptionTableEntry) (hsplit : c.exceptionTable.toList = pre ++ x :: suf)
    (hpass : ∀ z ∈ pre, covers z pc = false ∨ (z.catchType ≠ 0 ∧ ∃ nm : String, (Cond.classLink own z.catchType nm).before args s = true ∧ va_Nc E nm s)) (hx : covers x pc = true) (h0 : x.catchType ≠ 0)
    (hlink : (Cond.classLink own x.catchType name).before args s = true) (hcast : (Cond.castable E name).before args s = true) (hcell : H[q]? = some ce) (hv : ce.vm = .none) (hcl : s.vm.findClass E = some ce.cls)
    (kk : W p l e R s m args below meth c H locs cells slots Q (F0 m x.handlerPc ls [.ref q])) : vx_W p l e R s m args below meth c H locs cells slots Q (F0 m pc ls rest) q := by
  intro T hT X
  have hpl : e.platform.magicAccessors = ({} : Platform).magicAccessors := by rw [X.admits.platform]
  obtain ⟨c3, c4, hc3, hc4, hasg⟩ := Cond.castable_spec hcast
  cases Option.some.inj (hc3.symm.trans hcl)
  obtain ⟨c5, hc5, hcl5⟩ := Cond.classLink_spec hown hlink e.platform hpl
  cases Option.some.inj (hc4.symm.trans hc5)
  obtain ⟨vm', X', st⟩ := X.thenCaughtThrough q (g := F0 m pc ls rest) rfl (Steps.refl _) (by rw [hT]; exact hcell) (by rw [hv]; rfl) (by obtain ⟨k9, h9, -⟩ := Vm.findClass_spec hcl; exact ⟨k9, h9⟩) pre x suf hsplit
    (fun z hz => by
      rcases hpass z hz with h | ⟨hz0, nm, hl1, hn1⟩
      · exact Or.inl h
      · obtain ⟨c6, hc6, hcl6⟩ := Cond.classLink_spec hown hl1 e.platform hpl
        obtain ⟨a8, b8, h1, h2, h3⟩ := hn1
        cases Option.some.inj (h1.symm.trans hcl)
        cases Option.some.inj (h2.symm.trans hc6)
        exact Or.inr ⟨hz0, _, hcl6, h3⟩) hx (Or.inr ⟨h0, c4, hcl5, hasg⟩)
  obtain ⟨t, a1, b1⟩ := kk (T.setVm vm') hT X'
  exact ⟨t, st.trans a1, b1⟩
end Rows
section Ends
variable {p : Program} {l : Launch} {e : Env} {R : Room} {s : State} {m : MethodId} {args : Array Value} {below : List Frame} {meth : Method} {c : Code} {H : Heap} {locs : List Loc} {cells slots : Nat} {Q : State → Prop}
variable {mc ms : Nat} {free : Addr → Prop} {A0 A1 : Nat → Prop} {H0 : Heap} {a : Array Value} {ls : Array Slot} {st0 rest : List Value}
variable {Qc : Array Value → State → Outcome → State → Prop} {XC : String → State → State → Prop}
/-- what a body that may throw owes at its end -/
def vx_MQ (below : List Frame) (Qc : Array Value → State → Outcome → State → Prop) (XC : String → State → State → Prop) (a : Array Value) (s : State) (mc ms : Nat) (free : Addr → Prop) : State → Prop := fun t =>
  ∃ o, t.status = .running ∧ Ended t below o ∧ vx_Q Qc XC mc ms free a s o t
theorem vx_ret {g : JFrame} {mc ms : Nat} (k : W p l e R s m args below meth c H locs cells slots (MQ below Qc args s mc ms free) g) : W p l e R s m args below meth c H locs cells slots (vx_MQ below Qc XC args s mc ms free) g := by
  intro T hT X
  obtain ⟨t, a1, o, b1, b2, b3, b4⟩ := k T hT X
  exact ⟨t, a1, o, b1, b2, Or.inl ⟨b3, b4⟩⟩
/-- not caught here: it goes on to the caller -/
theorem vx_widen {g : JFrame} {q : Addr} {k n : Nat} (h1 : cells ≤ k) (h2 : slots ≤ n) (kk : vx_W p l e R s m args below meth c H locs k n Q g q) : vx_W p l e R s m args below meth c H locs cells slots Q g q := fun T hT X => kk T hT (stand_widen X h1 h2)
theorem vx_out {pc : Nat} {E : String} {ce : Cell} {q : Addr} {mc ms : Nat} (hout : ∀ x ∈ c.exceptionTable.toList, covers x pc = false) (hlocks : meth.locks = false) (hcell : H[q]? = some ce) (hv : ce.vm = .none) (hcl : s.vm.findClass E = some ce.cls)
    (hx : ∀ t : State, t.heap = H → s.vm.Alike t.vm → XC E s t) (hf : ∀ z ∈ locs, free z.base) (hc : cells ≤ mc) (hs : slots ≤ ms) :
    vx_W p l e R s m args below meth c H locs cells slots (vx_MQ below Qc XC args s mc ms free) (F0 m pc ls rest) q := by
  intro T hT X
  obtain ⟨st1, hrun, hend, hW, hsm⟩ := X.leaveThrown q (g := F0 m pc ls rest) rfl rfl rfl hout hlocks
  have hcell9 : (T.setFrames (.throwing q :: below)).heap[q]? = some ce := by
    show T.heap[q]? = some ce
    rw [hT]; exact hcell
  exact ⟨_, st1, .threw q, hrun, hend, Or.inr ⟨q, rfl, E, ce, locs, hx _ hT hW.alike, hcell9, hv, hcl, hW, hsm.mono hc hs, hf⟩⟩
theorem vx_frame {U : State} {k n : Nat} (h : s.sameButNew ({ U with vm := s.vm } : State) locs k n) : s.heap.size ≤ U.heap.size ∧ ∀ q : Nat, q < s.heap.size → (∀ z ∈ locs, z.base ≠ q) → U.heap[q]? = s.heap[q]? := by
  obtain ⟨-, h2, -, -, -, h6⟩ := h
  refine ⟨h2, fun q hq hz => ?_⟩
  obtain ⟨c9, e1, e2, e3, e4⟩ := h6 q _ (Array.getElem?_eq_getElem hq)
  have hs : c9.slots = (s.heap[q]).slots := Array.ext_getElem? fun i => e4 i fun hm => hz _ hm rfl
  have h9 : c9 = s.heap[q] := by
    rw [hs] at e2
    exact e2
  have e5 : U.heap[q]? = some c9 := e1
  rw [e5, h9, Array.getElem?_eq_getElem hq]
/-- the words of a throw but the four that speak of the heap -/
def vx_no (w : Cond) : Bool := decide (w ≠ .isRef (.static Bundle.tN "UNASSIGNED_STACK" Bundle.steD)) && decide (w ≠ .isRef (.static Bundle.tN "SUPPRESSED_SENTINEL" Bundle.listD)) && decide (w ≠ .laysStatic Bundle.tN "UNASSIGNED_STACK" Bundle.steD) && decide (w ≠ .laysStatic Bundle.tN "SUPPRESSED_SENTINEL" Bundle.listD)
def vx_at0 (own : String) (ic : Nat) (X : String) (names : List String) : List Cond := (Bundle.ownAtoms0 own ic X names).filter vx_no
def vx_atS (own : String) (ic : Nat) (X : String) (names : List String) : List Cond := (Bundle.ownAtoms own ic X names).filter vx_no
/-- a word that the tables alone decide, or a good one -/
def vx_ot (w : Cond) : Bool := w.onTables || goodWord w
theorem vx_ot_at {args a' : Array Value} {s U : State} {w : Cond} (hW : s.WarmedH U.vm) (hvm : s.vm = U.vm) (hg : vx_ot w = true) (h : w.before args s = true) : w.before a' U = true := by
  simp only [vx_ot, Bool.or_eq_true] at hg
  rcases hg with hg | hg
  · exact va_tabs hg hvm h
  · exact word_at hW (good_of_word hg) h
/-- a list's words: the good ones out of the method's own list, the others by premises of their own -/
theorem vx_hat {args : Array Value} {s : State} {L B : List Cond} (h1 : ∀ w ∈ L.filter goodWord, w.before args s = true) (h2 : ∀ w ∈ L.filter (fun w => !goodWord w), w ∈ B) (h3 : ∀ w ∈ B, w.before args s = true) : ∀ w ∈ L, w.before args s = true := by
  intro w hw
  by_cases g : goodWord w = true
  · exact h1 w (List.mem_filter.mpr ⟨hw, g⟩)
  · refine h3 w (h2 w (List.mem_filter.mpr ⟨hw, ?_⟩))
    show (!goodWord w) = true
    cases hgw : goodWord w
    · rfl
    · exact absurd hgw g
theorem vx_c {args : Array Value} {s : State} {w : Cond} {B : List Cond} (h : w.before args s = true) (t : ∀ w ∈ B, w.before args s = true) : ∀ w' ∈ w :: B, w'.before args s = true := fun w' h' => (List.mem_cons.mp h').elim (fun e => by rw [e]; exact h) (t w')
theorem vx_n {args : Array Value} {s : State} : ∀ w ∈ ([] : List Cond), w.before args s = true := fun _ h => nomatch h
theorem vx_own {args : Array Value} {s : State} {L : List Cond} (h1 : ∀ w ∈ L.filter vx_no, w.before args s = true)
    (hU : (Cond.isRef (.static Bundle.tN "UNASSIGNED_STACK" Bundle.steD)).before args s = true) (hN : (Cond.isRef (.static Bundle.tN "SUPPRESSED_SENTINEL" Bundle.listD)).before args s = true)
    (lU : (Cond.laysStatic Bundle.tN "UNASSIGNED_STACK" Bundle.steD).before args s = true) (lN : (Cond.laysStatic Bundle.tN "SUPPRESSED_SENTINEL" Bundle.listD).before args s = true) : ∀ w ∈ L, w.before args s = true := by
  intro w hw
  by_cases e1 : w = .isRef (.static Bundle.tN "UNASSIGNED_STACK" Bundle.steD)
  · rw [e1]; exact hU
  · by_cases e2 : w = .isRef (.static Bundle.tN "SUPPRESSED_SENTINEL" Bundle.listD)
    · rw [e2]; exact hN
    · by_cases e3 : w = .laysStatic Bundle.tN "UNASSIGNED_STACK" Bundle.steD
      · rw [e3]; exact lU
      · by_cases e4 : w = .laysStatic Bundle.tN "SUPPRESSED_SENTINEL" Bundle.listD
        · rw [e4]; exact lN
        · exact h1 w (List.mem_filter.mpr ⟨hw, by unfold vx_no; rw [decide_eq_true e1, decide_eq_true e2, decide_eq_true e3, decide_eq_true e4]; rfl⟩)
/-- where a static field lies, its class's statics cell in H -/
def vx_L (C n d : String) (A : Nat → Prop) (U : State) (H : Heap) : Prop := ∃ (c : ClassId) (k : Class) (i : Nat) (f : Field) (a : Nat) (cell : Cell), U.vm.findClass C = some c ∧ U.fieldFound? C n d = some (c, k, i, f) ∧ f.isStatic = true ∧ k.statics = some a ∧ H[a]? = some cell ∧ cell.vm.isStatics = true ∧ cell.cls = c ∧ f.slot < cell.slots.size ∧ k.staticTypes[f.slot]? = some f.type ∧ ¬ A a
theorem vx_L.moved {C n d : String} {A : Nat → Prop} {u U : State} {H : Heap} (hvm : u.vm.Alike U.vm) (h : vx_L C n d A u H) : vx_L C n d A U H := by
  obtain ⟨c, k, i, f, a, cell, h1, h2, h3, h4, h5, h6, h7, h8, h9, h10⟩ := h
  obtain ⟨k', hi', he⟩ := State.fieldFound?_setVm hvm h2
  exact ⟨c, k', i, f, a, cell, by rw [hvm.findClass]; exact h1, hi', h3, by rw [he]; exact h4, h5, h6, h7, h8, by rw [he]; exact h9, h10⟩
theorem vx_L.kept {C n d : String} {A : Nat → Prop} {U : State} {H H1 : Heap} (h : vx_L C n d A U H) (hq : ∀ a : Nat, a < H.size → ¬ A a → H1[a]? = H[a]?) : vx_L C n d A U H1 := by
  obtain ⟨c, k, i, f, a, cell, h1, h2, h3, h4, h5, h6, h7, h8, h9, h10⟩ := h
  exact ⟨c, k, i, f, a, cell, h1, h2, h3, h4, by rw [hq a (Array.getElem?_eq_some_iff.mp h5).1 h10]; exact h5, h6, h7, h8, h9, h10⟩
theorem vx_L.narrow {C n d : String} {A B : Nat → Prop} {U : State} {H : Heap} (h : vx_L C n d A U H) (hAB : ∀ q, B q → A q) : vx_L C n d B U H := by
  obtain ⟨c, k, i, f, a, cell, h1, h2, h3, h4, h5, h6, h7, h8, h9, h10⟩ := h
  exact ⟨c, k, i, f, a, cell, h1, h2, h3, h4, h5, h6, h7, h8, h9, fun z => h10 (hAB _ z)⟩
theorem vx_L.word {C n d : String} {A : Nat → Prop} {s : State} {args : Array Value} (h : vx_L C n d A s s.heap) : (Cond.laysStatic C n d).before args s = true := by
  obtain ⟨c, k, i, f, a, cell, h1, h2, h3, h4, h5, h6, h7, h8, h9, -⟩ := h
  show (Cond.laysStatic C n d).holds args s none s [] = true
  exact Cond.laysStatic_of h1 h2 h3 h4 h5 h6 h7 h8 h9
/-- .. and what it holds: null or some reference -/
def vx_Zq (C n d : String) (A : Nat → Prop) (U : State) (H : Heap) : Prop := va_Zq C n d A U H ∧ vx_L C n d A U H
theorem vx_Zq.moved {C n d : String} {A : Nat → Prop} {u U : State} {H : Heap} (hvm : u.vm.Alike U.vm) (h : vx_Zq C n d A u H) : vx_Zq C n d A U H := ⟨va_Zq.moved hvm h.1, vx_L.moved hvm h.2⟩
theorem vx_Zq.kept {C n d : String} {A : Nat → Prop} {U : State} {H H1 : Heap} (h : vx_Zq C n d A U H) (hq : ∀ a : Nat, a < H.size → ¬ A a → H1[a]? = H[a]?) : vx_Zq C n d A U H1 := ⟨va_Zq.kept h.1 hq, vx_L.kept h.2 hq⟩
theorem vx_Zq.narrow {C n d : String} {A B : Nat → Prop} {U : State} {H : Heap} (h : vx_Zq C n d A U H) (hAB : ∀ q, B q → A q) : vx_Zq C n d B U H := ⟨va_Zq.narrow h.1 hAB, vx_L.narrow h.2 hAB⟩
theorem vx_Zqof {args : Array Value} {s : State} {C n d : String} {A : Nat → Prop} (hl : (Cond.laysStatic C n d).before args s = true) (hini : (Cond.initialized C).before args s = true) (h : (Cond.isRef (.static C n d)).before args s = true) (hA : ∀ a : Nat, a < s.heap.size → ¬ A a) : vx_Zq C n d A s s.heap := by
  refine ⟨va_Zqof hl hini h hA, ?_⟩
  obtain ⟨c, k, i, f, a, cell, h1, h2, h3, h4, h5, h6, h7, h8, h9⟩ := Cond.laysStatic_spec hl
  exact ⟨c, k, i, f, a, cell, h1, h2, h3, h4, h5, h6, h7, h8, h9, hA a (Array.getElem?_eq_some_iff.mp h5).1⟩
theorem vx_isRef {C n d : String} {v : Value} {A : Nat → Prop} {s : State} {args : Array Value} (h : va_Z C n d v A s s.heap) (hv : v.isRef = true) : (Cond.isRef (.static C n d)).before args s = true := by
  obtain ⟨cf, kf, fi, f, a, cell, h1, h2, h3, h4, h5, h6, h7, -⟩ := h
  have he : (Term.static C n d).eval args s none [] s = some v := by
    simp [Term.eval, State.fieldNamed?, h1, h2, h4, h5, h6, h7]
  simp only [Cond.before, Cond.holds, Cond.value, he]
  cases v <;> simp_all [Value.isRef]
theorem vx_isRefq {C n d : String} {A : Nat → Prop} {s : State} {args : Array Value} (h : va_Zq C n d A s s.heap) : (Cond.isRef (.static C n d)).before args s = true := by
  rcases h with h | ⟨t, h⟩
  · exact vx_isRef h rfl
  · exact vx_isRef h rfl
/-- the same frame, seen from here: as if the method were called anew in this heap -/
theorem vx_rebase {T : State} (X : Stand p l e R s m args below meth c T locs cells slots) {R' : Room} (hf : R'.frames ≤ R.frames) (hl : R'.locals ≤ R.locals) (hc : cells + R'.cells ≤ R.cells) (hs : slots + R'.slots ≤ R.slots) :
    Stand p l e R' ((T.setVm s.vm).setFrames (.invoking m args :: below)) m args below meth c T [] 0 0 := by
  have htop : (T.setVm s.vm).topJava?.isSome := X.here.top
  have hF : ((T.setVm s.vm).setFrames (.invoking m args :: below)).frames = .invoking m args :: below := State.frames_setFrames _ (State.cur_lt_of_top htop)
  obtain ⟨g₀, hg0⟩ := Option.isSome_iff_exists.mp htop
  obtain ⟨r, hr⟩ := State.topJava?_eq_some.mp hg0
  have hl9 : e.platform.stackLimits (T.setVm s.vm).me = e.platform.stackLimits s.me := X.limits
  have hb9 : (T.setVm s.vm).me.stackBytes = s.me.stackBytes := X.bytes
  refine ⟨X.admits, X.cas, X.clock, hF, ?_, X.hears, X.method, X.code, X.here, X.tail, X.warmed, ?_, ?_, ?_⟩
  · have h := X.room
    have hU : ((T.setVm s.vm).setFrames (.invoking m args :: below)).localsInUse = s.localsInUse := by
      rw [State.localsInUse_invoking hF (meth := meth) (c := c) X.method X.code, State.localsInUse_invoking X.frames X.method X.code]
    simp only [State.hasRoom, Bool.and_eq_true, decide_eq_true_eq] at h ⊢
    obtain ⟨⟨⟨⟨h1, h2, h3, h4, h5, h6⟩, h7⟩, h8⟩, h9⟩ := h
    rw [X.frames, List.length_cons] at h2 h3
    have q1 := X.heapSize
    have q2 := X.used
    simp only [hF, hU, List.length_cons, State.stackLimits_setFrames, State.stackBytes_setFrames, hl9, hb9]
    refine ⟨⟨⟨⟨by omega, by omega, by omega, by omega, by omega, h6⟩, ?_⟩, ?_⟩, X.book⟩
    · show T.heap.size + R'.cells ≤ e.platform.maxCells
      omega
    · show T.slotsUsed + R'.slots ≤ e.platform.maxSlots
      omega
  · rw [State.stackLimits_setFrames]; rfl
  · rw [State.stackBytes_setFrames]; rfl
  · refine ⟨?_, Nat.le_refl _, Nat.le_refl _, ?_, ?_, fun a c9 h9 => ⟨c9, h9, rfl, rfl, fun _ _ => rfl⟩⟩
    · obtain ⟨t, ht, -⟩ := State.frames_cons hr
      show T.setVm s.vm = { ((T.setVm s.vm).setFrames (.invoking m args :: below)).setFrames (T.setVm s.vm).frames with heap := T.heap, slotsUsed := T.slotsUsed }
      rw [State.setFrames_setFrames, State.setFrames_self ht]
      rfl
    · show T.slotsUsed = T.slotsUsed + ((T.heap.toList.drop T.heap.size).map (·.slots.size)).sum
      rw [List.drop_eq_nil_of_le (Nat.le_of_eq Array.length_toList)]
      rfl
    · show ((T.heap.toList.drop T.heap.size).map (·.slots.size)).sum ≤ 0
      rw [List.drop_eq_nil_of_le (Nat.le_of_eq Array.length_toList)]
      exact Nat.le_refl _
/-- 'throw new E()': new; dup; invokespecial; athrow -/
theorem vx_throw0 {cc : ByteArray} {pc : Nat} (hexec : p.tables.exec = Jvm.exec) (hb : c.code = cc) (hl : l.stackTraces = false) {own cls : String} {names : List String} {ik ic mc ms : Nat} {A : Nat → Prop}
    (hown : s.vm.findClass own = some m.cls) (hcls : Bundle.fit cls = true) (hnames : ∀ n ∈ names, Bundle.fit n = true)
    (hk : (Cond.classLink own ik cls).before args s = true) (hini : (Cond.initialized cls).before args s = true) (hat : ∀ w ∈ vx_at0 own ic cls names, w.before args s = true)
    (hgood : ∀ w ∈ Cond.classLink own ik cls :: Cond.initialized cls :: vx_at0 own ic cls names, vx_ot w = true)
    (hU : vx_Zq Bundle.tN "UNASSIGNED_STACK" Bundle.steD A s s.heap) (hN : vx_Zq Bundle.tN "SUPPRESSED_SENTINEL" Bundle.listD A s s.heap) (hS : va_S A s.heap H locs) (hsize : ls.size = c.maxLocals)
    (d0 : decode cc pc = .ok (.new ik, 3)) (d3 : decode cc (pc + 3) = .ok (.dup, 1)) (d4 : decode cc (pc + 4) = .ok (.invokespecial ic, 3)) (d7 : decode cc (pc + 7) = .ok (.athrow, 1))
    (hout : ∀ x ∈ c.exceptionTable.toList, covers x (pc + 7) = false)
    (hRframes : names.length + 3 < R.frames) (hRlocals : (rest.map fun v => v.category).sum + (13 * (names.length + 1) + 42) ≤ R.locals) (hRcells : cells + 1 ≤ R.cells) (hRslots : slots + 6 ≤ R.slots) (hlocks : meth.locks = false)
    (hx : ∀ t : State, s.vm.Alike t.vm → H.size ≤ t.heap.size → (∀ q : Nat, q < H.size → t.heap[q]? = H[q]?) → XC cls s t)
    (hf : ∀ z ∈ locs, free z.base) (hc : cells + 1 ≤ mc) (hs : slots + 6 ≤ ms) :
    W p l e R s m args below meth c H locs cells slots (vx_MQ below Qc XC args s mc ms free) (F0 m pc ls rest) := by
  intro T hT X
  have htr : e.platform.stackTraces = false := (show e.platform.stackTraces = l.stackTraces by rw [X.admits.platform]).trans hl
  have Y := vx_rebase X (R' := { frames := R.frames, locals := R.locals, cells := 1, slots := 6 }) (Nat.le_refl _) (Nat.le_refl _) hRcells hRslots
  obtain ⟨s', hA⟩ : ∃ z, z = (T.setVm s.vm).setFrames (.invoking m args :: below) := ⟨_, rfl⟩
  rw [← hA] at Y
  have hvm : s'.vm = s.vm := by rw [hA]; rfl
  have hhp : s'.heap = H := by rw [hA]; exact hT
  have hW0 : s.WarmedH s'.vm := by rw [hvm]; exact State.WarmedH.refl s
  have hat' : ∀ w ∈ vx_at0 own ic cls names, w.before args s' = true := fun w hw => vx_ot_at hW0 hvm.symm (hgood w (List.mem_cons_of_mem _ (List.mem_cons_of_mem _ hw))) (hat w hw)
  have hk' : (Cond.classLink own ik cls).before args s' = true := vx_ot_at hW0 hvm.symm (hgood _ List.mem_cons_self) hk
  have hini' : (Cond.initialized cls).before args s' = true := vx_ot_at hW0 hvm.symm (hgood _ (List.mem_cons_of_mem _ List.mem_cons_self)) hini
  have hU' : vx_Zq Bundle.tN "UNASSIGNED_STACK" Bundle.steD A s' s'.heap := by rw [hhp]; exact vx_Zq.moved hW0.alike (hU.kept hS.2.1)
  have hN' : vx_Zq Bundle.tN "SUPPRESSED_SENTINEL" Bundle.listD A s' s'.heap := by rw [hhp]; exact vx_Zq.moved hW0.alike (hN.kept hS.2.1)
  have h : ∀ w ∈ Bundle.ownAtoms0 own ic cls names, w.before args s' = true := vx_own hat' (vx_isRefq hU'.1) (vx_isRefq hN'.1) hU'.2.word hN'.2.word
  have hown' : s'.vm.findClass own = some m.cls := by rw [hvm]; exact hown
  have hins : (Cond.instantiable cls 6).before args s' = true := h _ (by simp [Bundle.ownAtoms0])
  obtain ⟨vm₁, cX, kX, hfX, hkX, -, -, X₁, st1⟩ := Y.newCold hexec (own := own) (C := cls) (index := ik) (n := 6) hown' hk' hins hini'
    (g := F0 m pc ls rest) rfl (by rw [hb]; exact d0) (Nat.le_refl _) (Nat.le_refl _)
  generalize hT1 : (T.setVm vm₁).pushCell { cls := cX, slots := kX.instanceTypes.map defaultValue, vm := .none } = T1 at X₁ st1
  have hcat : (Value.ref T.heap.size).category = 1 := rfl
  have hcellA : T1.heap[T.heap.size]? = some (freshCell cX kX) := by rw [← hT1]; exact State.heap_pushCell_size _ _
  have d3' : decode c.code (pc + 3) = .ok (.dup, 1) := by rw [hb]; exact d3
  obtain ⟨U, hsteps, hrun, hend, hW, hsame, ce, hce, hO⟩ := X₁.ctorThrow0 hexec htr (own := own) (cls := cls) (names := names) (ic := ic) hown' hcls hnames h (fun x hx => nomatch hx) hfX hkX hcellA (by rw [hhp, hT]; exact Nat.le_refl _)
    (g := { method := m, pc := pc + 4, locals := ls, stack := .ref T.heap.size :: .ref T.heap.size :: rest, locked := none }) rfl hsize rfl rfl (rest := rest) rfl
    (by rw [hb]; exact d4) (by rw [hb]; exact d7) hout hRframes (by simp only [List.map_cons, List.sum_cons, hcat]; omega) hlocks
  obtain ⟨f1, f2⟩ := vx_frame hsame
  rw [hhp] at f1 f2
  have hWs : s.WarmedH U.vm := State.WarmedH.trans hW0 hW
  have hcl : s.vm.findClass cls = some ce.cls := by
    have h9 := hO.cls
    rw [hvm] at h9
    exact h9
  have hall : s.sameButNew ({ U with vm := s.vm } : State) locs mc ms := by
    subst hA
    obtain ⟨e1, e2⟩ := hsame
    rw [State.setFrames_setFrames] at e1
    have h2 : (T.setVm s.vm).sameButNew ({ U with vm := s.vm } : State) [] (0 + 1) (0 + 6) := ⟨e1, e2⟩
    have h3 := X.same.trans h2
    rw [List.append_nil] at h3
    exact h3.mono hc hs
  refine ⟨U, ?_, .threw T.heap.size, hrun, hend, Or.inr ⟨T.heap.size, rfl, cls, ce, locs, hx U hWs.alike f1 (fun q hq => f2 q hq (fun z hz => nomatch hz)), hce, hO.vm, hcl, hWs, hall, hf⟩⟩
  refine st1 _ ?_
  show Steps p.tables e below (T1.setTop { method := m, pc := pc + 3, locals := ls, stack := .ref T.heap.size :: rest, locked := none }) _
  jvm_step X₁.here [X₁.here.top, hexec, d3', Value.category]
  exact hsteps
/-- 'throw new E("text")': new; dup; ldc; invokespecial; athrow -/
theorem vx_throwS {cc : ByteArray} {pc : Nat} (hexec : p.tables.exec = Jvm.exec) (hb : c.code = cc) (hl : l.stackTraces = false) {own cls text : String} {names : List String} {ik is ic mc ms sa : Nat} {A : Nat → Prop}
    (hown : s.vm.findClass own = some m.cls) (hcls : Bundle.fit cls = true) (hnames : ∀ n ∈ names, Bundle.fit n = true)
    (hk : (Cond.classLink own ik cls).before args s = true) (hini : (Cond.initialized cls).before args s = true) (hstr : vk_R own is text sa s) (hat : ∀ w ∈ vx_atS own ic cls names, w.before args s = true)
    (hgood : ∀ w ∈ Cond.classLink own ik cls :: Cond.initialized cls :: vx_atS own ic cls names, vx_ot w = true)
    (hU : vx_Zq Bundle.tN "UNASSIGNED_STACK" Bundle.steD A s s.heap) (hN : vx_Zq Bundle.tN "SUPPRESSED_SENTINEL" Bundle.listD A s s.heap) (hS : va_S A s.heap H locs) (hsize : ls.size = c.maxLocals)
    (d0 : decode cc pc = .ok (.new ik, 3)) (d3 : decode cc (pc + 3) = .ok (.dup, 1)) (d4 : decode cc (pc + 4) = .ok (.ldc is, 2)) (d6 : decode cc (pc + 6) = .ok (.invokespecial ic, 3)) (d9 : decode cc (pc + 9) = .ok (.athrow, 1))
    (hout : ∀ x ∈ c.exceptionTable.toList, covers x (pc + 9) = false)
    (hRframes : names.length + 3 < R.frames) (hRlocals : (rest.map fun v => v.category).sum + (13 * (names.length + 1) + 43) ≤ R.locals) (hRcells : cells + 1 ≤ R.cells) (hRslots : slots + 6 ≤ R.slots) (hlocks : meth.locks = false)
    (hx : ∀ t : State, s.vm.Alike t.vm → H.size ≤ t.heap.size → (∀ q : Nat, q < H.size → t.heap[q]? = H[q]?) → XC cls s t)
    (hf : ∀ z ∈ locs, free z.base) (hc : cells + 1 ≤ mc) (hs : slots + 6 ≤ ms) :
    W p l e R s m args below meth c H locs cells slots (vx_MQ below Qc XC args s mc ms free) (F0 m pc ls rest) := by
  intro T hT X
  have htr : e.platform.stackTraces = false := (show e.platform.stackTraces = l.stackTraces by rw [X.admits.platform]).trans hl
  have Y := vx_rebase X (R' := { frames := R.frames, locals := R.locals, cells := 1, slots := 6 }) (Nat.le_refl _) (Nat.le_refl _) hRcells hRslots
  obtain ⟨s', hA⟩ : ∃ z, z = (T.setVm s.vm).setFrames (.invoking m args :: below) := ⟨_, rfl⟩
  rw [← hA] at Y
  have hvm : s'.vm = s.vm := by rw [hA]; rfl
  have hhp : s'.heap = H := by rw [hA]; exact hT
  have hW0 : s.WarmedH s'.vm := by rw [hvm]; exact State.WarmedH.refl s
  have hat' : ∀ w ∈ vx_atS own ic cls names, w.before args s' = true := fun w hw => vx_ot_at hW0 hvm.symm (hgood w (List.mem_cons_of_mem _ (List.mem_cons_of_mem _ hw))) (hat w hw)
  have hk' : (Cond.classLink own ik cls).before args s' = true := vx_ot_at hW0 hvm.symm (hgood _ List.mem_cons_self) hk
  have hini' : (Cond.initialized cls).before args s' = true := vx_ot_at hW0 hvm.symm (hgood _ (List.mem_cons_of_mem _ List.mem_cons_self)) hini
  have hU' : vx_Zq Bundle.tN "UNASSIGNED_STACK" Bundle.steD A s' s'.heap := by rw [hhp]; exact vx_Zq.moved hW0.alike (hU.kept hS.2.1)
  have hN' : vx_Zq Bundle.tN "SUPPRESSED_SENTINEL" Bundle.listD A s' s'.heap := by rw [hhp]; exact vx_Zq.moved hW0.alike (hN.kept hS.2.1)
  have h : ∀ w ∈ Bundle.ownAtoms own ic cls names, w.before args s' = true := vx_own hat' (vx_isRefq hU'.1) (vx_isRefq hN'.1) hU'.2.word hN'.2.word
  have hown' : s'.vm.findClass own = some m.cls := by rw [hvm]; exact hown
  have hins : (Cond.instantiable cls 6).before args s' = true := h _ (by simp [Bundle.ownAtoms])
  obtain ⟨vm₁, cX, kX, hfX, hkX, -, -, X₁, st1⟩ := Y.newCold hexec (own := own) (C := cls) (index := ik) (n := 6) hown' hk' hins hini'
    (g := F0 m pc ls rest) rfl (by rw [hb]; exact d0) (Nat.le_refl _) (Nat.le_refl _)
  generalize hT1 : (T.setVm vm₁).pushCell { cls := cX, slots := kX.instanceTypes.map defaultValue, vm := .none } = T1 at X₁ st1
  have hcat : (Value.ref T.heap.size).category = 1 := rfl
  have hcellA : T1.heap[T.heap.size]? = some (freshCell cX kX) := by rw [← hT1]; exact State.heap_pushCell_size _ _
  have d3' : decode c.code (pc + 3) = .ok (.dup, 1) := by rw [hb]; exact d3
  have d4' : decode c.code (pc + 4) = .ok (.ldc is, 2) := by rw [hb]; exact d4
  have hstr' : vk_R own is text sa s' := vk_R.warm hW0 hstr
  obtain ⟨U, hsteps, hrun, hend, hW, hsame, ce, hce, hO⟩ := X₁.ctorThrowS hexec htr (own := own) (cls := cls) (names := names) (ic := ic) hown' hcls hnames h (fun x hx => nomatch hx) hfX hkX hcellA (by rw [hhp, hT]; exact Nat.le_refl _) (msg := .ref sa) rfl
    (g := { method := m, pc := pc + 6, locals := ls, stack := .ref sa :: .ref T.heap.size :: .ref T.heap.size :: rest, locked := none }) rfl hsize rfl rfl (rest := rest) rfl
    (by rw [hb]; exact d6) (by rw [hb]; exact d9) hout hRframes (by simp only [List.map_cons, List.sum_cons, hcat]; omega) hlocks
  obtain ⟨f1, f2⟩ := vx_frame hsame
  rw [hhp] at f1 f2
  have hWs : s.WarmedH U.vm := State.WarmedH.trans hW0 hW
  have hcl : s.vm.findClass cls = some ce.cls := by
    have h9 := hO.cls
    rw [hvm] at h9
    exact h9
  have hall : s.sameButNew ({ U with vm := s.vm } : State) locs mc ms := by
    subst hA
    obtain ⟨e1, e2⟩ := hsame
    rw [State.setFrames_setFrames] at e1
    have h2 : (T.setVm s.vm).sameButNew ({ U with vm := s.vm } : State) [] (0 + 1) (0 + 6) := ⟨e1, e2⟩
    have h3 := X.same.trans h2
    rw [List.append_nil] at h3
    exact h3.mono hc hs
  refine ⟨U, ?_, .threw T.heap.size, hrun, hend, Or.inr ⟨T.heap.size, rfl, cls, ce, locs, hx U hWs.alike f1 (fun q hq => f2 q hq (fun z hz => nomatch hz)), hce, hO.vm, hcl, hWs, hall, hf⟩⟩
  refine st1 _ ?_
  show Steps p.tables e below (T1.setTop { method := m, pc := pc + 3, locals := ls, stack := .ref T.heap.size :: rest, locked := none }) _
  jvm_step X₁.here [X₁.here.top, hexec, d3', Value.category]
  exact X₁.ldcString hexec (own := own) (text := text) (index := is) (a := sa) hown' hstr'.1 hstr'.2
    (g := { method := m, pc := pc + 4, locals := ls, stack := .ref T.heap.size :: .ref T.heap.size :: rest, locked := none }) rfl d4' _ hsteps
/-- 'throw new E("text")', the text by a wide index -/
theorem vx_throwSW {cc : ByteArray} {pc : Nat} (hexec : p.tables.exec = Jvm.exec) (hb : c.code = cc) (hl : l.stackTraces = false) {own cls text : String} {names : List String} {ik is ic mc ms sa : Nat} {A : Nat → Prop}
    (hown : s.vm.findClass own = some m.cls) (hcls : Bundle.fit cls = true) (hnames : ∀ n ∈ names, Bundle.fit n = true)
    (hk : (Cond.classLink own ik cls).before args s = true) (hini : (Cond.initialized cls).before args s = true) (hstr : vk_R own is text sa s) (hat : ∀ w ∈ vx_atS own ic cls names, w.before args s = true)
    (hgood : ∀ w ∈ Cond.classLink own ik cls :: Cond.initialized cls :: vx_atS own ic cls names, vx_ot w = true)
    (hU : vx_Zq Bundle.tN "UNASSIGNED_STACK" Bundle.steD A s s.heap) (hN : vx_Zq Bundle.tN "SUPPRESSED_SENTINEL" Bundle.listD A s s.heap) (hS : va_S A s.heap H locs) (hsize : ls.size = c.maxLocals)
    (d0 : decode cc pc = .ok (.new ik, 3)) (d3 : decode cc (pc + 3) = .ok (.dup, 1)) (d4 : decode cc (pc + 4) = .ok (.ldc_w is, 3)) (d7 : decode cc (pc + 7) = .ok (.invokespecial ic, 3)) (d10 : decode cc (pc + 10) = .ok (.athrow, 1))
    (hout : ∀ x ∈ c.exceptionTable.toList, covers x (pc + 10) = false)
    (hRframes : names.length + 3 < R.frames) (hRlocals : (rest.map fun v => v.category).sum + (13 * (names.length + 1) + 43) ≤ R.locals) (hRcells : cells + 1 ≤ R.cells) (hRslots : slots + 6 ≤ R.slots) (hlocks : meth.locks = false)
    (hx : ∀ t : State, s.vm.Alike t.vm → H.size ≤ t.heap.size → (∀ q : Nat, q < H.size → t.heap[q]? = H[q]?) → XC cls s t)
    (hf : ∀ z ∈ locs, free z.base) (hc : cells + 1 ≤ mc) (hs : slots + 6 ≤ ms) :
    W p l e R s m args below meth c H locs cells slots (vx_MQ below Qc XC args s mc ms free) (F0 m pc ls rest) := by
  intro T hT X
  have htr : e.platform.stackTraces = false := (show e.platform.stackTraces = l.stackTraces by rw [X.admits.platform]).trans hl
  have Y := vx_rebase X (R' := { frames := R.frames, locals := R.locals, cells := 1, slots := 6 }) (Nat.le_refl _) (Nat.le_refl _) hRcells hRslots
  obtain ⟨s', hA⟩ : ∃ z, z = (T.setVm s.vm).setFrames (.invoking m args :: below) := ⟨_, rfl⟩
  rw [← hA] at Y
  have hvm : s'.vm = s.vm := by rw [hA]; rfl
  have hhp : s'.heap = H := by rw [hA]; exact hT
  have hW0 : s.WarmedH s'.vm := by rw [hvm]; exact State.WarmedH.refl s
  have hat' : ∀ w ∈ vx_atS own ic cls names, w.before args s' = true := fun w hw => vx_ot_at hW0 hvm.symm (hgood w (List.mem_cons_of_mem _ (List.mem_cons_of_mem _ hw))) (hat w hw)
  have hk' : (Cond.classLink own ik cls).before args s' = true := vx_ot_at hW0 hvm.symm (hgood _ List.mem_cons_self) hk
  have hini' : (Cond.initialized cls).before args s' = true := vx_ot_at hW0 hvm.symm (hgood _ (List.mem_cons_of_mem _ List.mem_cons_self)) hini
  have hU' : vx_Zq Bundle.tN "UNASSIGNED_STACK" Bundle.steD A s' s'.heap := by rw [hhp]; exact vx_Zq.moved hW0.alike (hU.kept hS.2.1)
  have hN' : vx_Zq Bundle.tN "SUPPRESSED_SENTINEL" Bundle.listD A s' s'.heap := by rw [hhp]; exact vx_Zq.moved hW0.alike (hN.kept hS.2.1)
  have h : ∀ w ∈ Bundle.ownAtoms own ic cls names, w.before args s' = true := vx_own hat' (vx_isRefq hU'.1) (vx_isRefq hN'.1) hU'.2.word hN'.2.word
  have hown' : s'.vm.findClass own = some m.cls := by rw [hvm]; exact hown
  have hins : (Cond.instantiable cls 6).before args s' = true := h _ (by simp [Bundle.ownAtoms])
  obtain ⟨vm₁, cX, kX, hfX, hkX, -, -, X₁, st1⟩ := Y.newCold hexec (own := own) (C := cls) (index := ik) (n := 6) hown' hk' hins hini'
    (g := F0 m pc ls rest) rfl (by rw [hb]; exact d0) (Nat.le_refl _) (Nat.le_refl _)
  generalize hT1 : (T.setVm vm₁).pushCell { cls := cX, slots := kX.instanceTypes.map defaultValue, vm := .none } = T1 at X₁ st1
  have hcat : (Value.ref T.heap.size).category = 1 := rfl
  have hcellA : T1.heap[T.heap.size]? = some (freshCell cX kX) := by rw [← hT1]; exact State.heap_pushCell_size _ _
  have d3' : decode c.code (pc + 3) = .ok (.dup, 1) := by rw [hb]; exact d3
  have d4' : decode c.code (pc + 4) = .ok (.ldc_w is, 3) := by rw [hb]; exact d4
  have hstr' : vk_R own is text sa s' := vk_R.warm hW0 hstr
  obtain ⟨U, hsteps, hrun, hend, hW, hsame, ce, hce, hO⟩ := X₁.ctorThrowS hexec htr (own := own) (cls := cls) (names := names) (ic := ic) hown' hcls hnames h (fun x hx => nomatch hx) hfX hkX hcellA (by rw [hhp, hT]; exact Nat.le_refl _) (msg := .ref sa) rfl
    (g := { method := m, pc := pc + 7, locals := ls, stack := .ref sa :: .ref T.heap.size :: .ref T.heap.size :: rest, locked := none }) rfl hsize rfl rfl (rest := rest) rfl
    (by rw [hb]; exact d7) (by rw [hb]; exact d10) hout hRframes (by simp only [List.map_cons, List.sum_cons, hcat]; omega) hlocks
  obtain ⟨f1, f2⟩ := vx_frame hsame
  rw [hhp] at f1 f2
  have hWs : s.WarmedH U.vm := State.WarmedH.trans hW0 hW
  have hcl : s.vm.findClass cls = some ce.cls := by
    have h9 := hO.cls
    rw [hvm] at h9
    exact h9
  have hall : s.sameButNew ({ U with vm := s.vm } : State) locs mc ms := by
    subst hA
    obtain ⟨e1, e2⟩ := hsame
    rw [State.setFrames_setFrames] at e1
    have h2 : (T.setVm s.vm).sameButNew ({ U with vm := s.vm } : State) [] (0 + 1) (0 + 6) := ⟨e1, e2⟩
    have h3 := X.same.trans h2
    rw [List.append_nil] at h3
    exact h3.mono hc hs
  refine ⟨U, ?_, .threw T.heap.size, hrun, hend, Or.inr ⟨T.heap.size, rfl, cls, ce, locs, hx U hWs.alike f1 (fun q hq => f2 q hq (fun z hz => nomatch hz)), hce, hO.vm, hcl, hWs, hall, hf⟩⟩
  refine st1 _ ?_
  show Steps p.tables e below (T1.setTop { method := m, pc := pc + 3, locals := ls, stack := .ref T.heap.size :: rest, locked := none }) _
  jvm_step X₁.here [X₁.here.top, hexec, d3', Value.category]
  exact X₁.ldcStringW hexec (own := own) (text := text) (index := is) (a := sa) hown' hstr'.1 hstr'.2
    (g := { method := m, pc := pc + 4, locals := ls, stack := .ref T.heap.size :: .ref T.heap.size :: rest, locked := none }) rfl d4' _ hsteps
end Ends
section Bodies
variable {l : Launch}
theorem vx_ofW {y : MethodName} {ws ws' : List Cond} {rm : Room} {Pc : Array Value → State → Prop} {Qc : Array Value → State → Outcome → State → Prop} {XC : String → State → State → Prop} {mc ms : Nat} {free : Addr → Prop} {cc : ByteArray} {maxL : Nat} {ret : Option FieldType}
    (hy : plainName y.cls = true) (hw : ws = Cond.code y cc maxL ret :: ws')
    (body : ∀ p e s m args below meth c s₁, BodyLoose p l y (headSpec ws rm) cc maxL ret e s m args below meth c s₁ → c.maxLocals = maxL → (∀ x ∈ c.exceptionTable.toList, False) → Pc args s →
      W p l e (headSpec ws rm).room s m args below meth c s.heap [] 0 0 (vx_MQ below Qc XC args s mc ms free) (entryFrame m args maxL)) : vx_Met l y ws rm Pc Qc XC mc ms free := by
  refine MetFree.of_bodyS (code := cc) (maxLocals := maxL) (ret := ret) hy ?_ ?_
  · intro args s m h hn
    obtain ⟨meth, c, h1, h2, h3, h4, h5, h6, -, -⟩ := Cond.code_spec hn (atoms_spec (ws := ws) h _ (by rw [hw]; exact List.mem_cons_self))
    exact ⟨meth, c, h1, h2, h3, h4, h5, h6⟩
  · intro p e s m args below meth c s₁ B hml hP _
    have hh0 : s₁.heap = s.heap := by rw [B.state]; rfl
    have ht : ∀ x ∈ c.exceptionTable.toList, False := by
      obtain ⟨meth9, c9, h1, h2, -, -, -, -, h7, -⟩ := Cond.code_spec B.named (atoms_spec (ws := ws) B.pre _ (by rw [hw]; exact List.mem_cons_self))
      cases Option.some.inj (h1.symm.trans B.method)
      cases Option.some.inj (h2.symm.trans (Stand.of_body B).code)
      intro x hx
      rw [Array.isEmpty_iff.mp h7] at hx
      cases hx
    obtain ⟨t, a1, o, b1, b2, b3⟩ := body p e s m args below meth c s₁ B hml ht hP s₁ hh0 (Stand.of_body B)
    exact ⟨t, o, a1, b1, b2, b3⟩
/-- the table of a body with handlers -/
theorem vx_table {p : Program} {x y : MethodName} {S : Spec} {cc bytes : ByteArray} {maxL maxL' : Nat} {ret ret' : Option FieldType} {e : Env} {s s₁ : State} {m : MethodId} {args : Array Value} {below : List Frame} {meth : Method} {c : Code} {hh : List (Nat × Nat × Nat × Nat)}
    (B : BodyLoose p l y S cc maxL ret e s m args below meth c s₁) (h : (Cond.codeWith y bytes maxL' ret' hh).before args s = true) : c.exceptionTable.toList = tableOf hh := by
  obtain ⟨m9, meth9, c9, hn9, h1, h2, -, -, h6, -⟩ := Cond.codeWith_spec h
  cases Option.some.inj (hn9.symm.trans B.named)
  cases Option.some.inj (h1.symm.trans B.method)
  cases Option.some.inj (h2.symm.trans (Stand.of_body B).code)
  rw [← h6, table_eq]
end Bodies
end VXA
/-! ===== END ===== -/
/-! ===== BEGIN a static call of a method with an exception table ===== -/
section VXS
variable {p : Program} {l : Launch} {e : Env} {R : Room} {s : State} {m : MethodId} {args : Array Value} {below : List Frame} {meth : Method} {c : Code} {T : State} {H : Heap} {locs : List Loc} {cells slots : Nat}
abbrev vx_CSW (R : Room) (s : State) (args : Array Value) (own : String) (index : Nat) (y : MethodName) (bytes : ByteArray) (maxL : Nat) (ret : Option FieldType) (hh : List (Nat × Nat × Nat × Nat)) (ws : List Cond) (rm : Room) (mc ms n : Nat) : Prop :=
  (rm.cells = mc ∧ rm.slots = ms ∧ rm.frames + 1 ≤ R.frames ∧ 8 + (maxL + 11) + rm.locals ≤ R.locals ∧ (∀ w ∈ ws, ∀ (a' : Array Value) (U : State), s.WarmedH U.vm → w.before a' U = true) ∧ Cond.codeWith y bytes maxL ret hh ∈ ws) ∧
  (Cond.codeWith y bytes maxL ret hh).before args s = true ∧ (Cond.initialized y.cls).before args s = true ∧ (y.cls ≠ "java/lang/invoke/MethodHandle" ∧ y.cls ≠ "java/lang/invoke/VarHandle") ∧
  (∀ sig, parseMethodDescriptor y.desc = some sig → n = sig.parameters.length) ∧ (Cond.methodLink own index y).before args s = true ∧ (Cond.static y).before args s = true
theorem vx_cwSW {own : String} {index maxL mc ms : Nat} {y : MethodName} {bytes : ByteArray} {ret : Option FieldType} {hh : List (Nat × Nat × Nat × Nat)} {Ts ws ws' : List Cond} {rm : Room} (n : Nat) (ht : ∀ w ∈ Ts, w.before args s = true) (hT : GoodIn Ts (va_wsS own index y ws)) (hw : ws = Cond.codeWith y bytes maxL ret hh :: ws') (hrc : rm.cells = mc) (hrs : rm.slots = ms)
    (hd : y.cls ≠ "java/lang/invoke/MethodHandle" ∧ y.cls ≠ "java/lang/invoke/VarHandle" ∧ (parseMethodDescriptor y.desc).map (fun d => d.parameters.length) = some n) (hR : rm.frames + 1 ≤ R.frames ∧ 8 + (maxL + 11) + rm.locals ≤ R.locals) :
    vx_CSW R s args own index y bytes maxL ret hh ws rm mc ms n := by
  have ok : ∀ w ∈ va_wsS own index y ws, w.before args s = true := fun w h => ht w (hT w h).1
  have hG : GoodIn Ts ws := fun w h => hT w (by unfold va_wsS; exact List.mem_append_right _ h)
  have hc : Cond.codeWith y bytes maxL ret hh ∈ ws := by rw [hw]; exact List.mem_cons_self
  refine ⟨⟨hrc, hrs, hR.1, hR.2, pay_in ht hG, hc⟩, ht _ (hG _ hc).1, ok _ (by simp [va_wsS]), ⟨hd.1, hd.2.1⟩, fun sig h => ?_, ok _ (by simp [va_wsS]), ok _ (by simp [va_wsS])⟩
  have h2 := hd.2.2
  rw [h] at h2
  exact (Option.some.inj h2).symm
theorem vx_callSW (X : Stand p l e R s m args below meth c T locs cells slots) (hexec : p.tables.exec = Jvm.exec) {own : String} {index : Nat} {y : MethodName} {bytes : ByteArray} {maxL : Nat} {ret : Option FieldType} {hh : List (Nat × Nat × Nat × Nat)}
    (hown : s.vm.findClass own = some m.cls) (hlink : (Cond.methodLink own index y).before args s = true) (hstat : (Cond.static y).before args s = true) (hinit : (Cond.initialized y.cls).before args s = true)
    (hcode : (Cond.codeWith y bytes maxL ret hh).before args s = true) (hy : y.cls ≠ "java/lang/invoke/MethodHandle" ∧ y.cls ≠ "java/lang/invoke/VarHandle")
    {W9 : Nat} {Pre : Pt → Array Value → Prop} {Post : Pt → Array Value → Option Value → Pt → Prop} (hK : Back l R p e below s args y 3 W9 Pre Post)
    {g : JFrame} (hg : g.method = m) (hsize : g.locals.size = c.maxLocals) {argsL rest : List Value} (hlen : ∀ sig, parseMethodDescriptor y.desc = some sig → argsL.length = sig.parameters.length)
    (hstack : g.stack = argsL.reverse ++ rest) (hW : 2 * g.monitorRoom + (rest.map fun v => v.category).sum ≤ W9) (hdg : decode c.code g.pc = .ok (.invokestatic index, 3))
    (hpre : ∀ vm₁, s.WarmedH vm₁ → Pre ⟨T.setVm vm₁, locs, cells, slots⟩ argsL.toArray) :
    ∃ (v : Option Value) (vm₁ : Vm) (B : Pt), s.WarmedH vm₁ ∧ Stand p l e R s m args below meth c B.U B.locs B.cells B.slots ∧ Post ⟨T.setVm vm₁, locs, cells, slots⟩ argsL.toArray v B ∧
      ∀ target, Steps p.tables e below (B.U.setTop { g with pc := g.pc + 3, stack := v.toList ++ rest }) target → Steps p.tables e below (T.setTop g) target := by
  obtain ⟨mk, methM, cM, hnamed, hmethM, -, -, -, -, -, -, hsigM⟩ := Cond.codeWith_spec hcode
  have hstatic : methM.isStatic = true := Cond.static_spec hnamed hmethM hstat
  obtain ⟨kP, hkP, -⟩ := className_of_methodNamed hnamed
  have hinitP : kP.init = .initialized := Cond.initialized_spec (findClass_of_methodNamed hnamed) hkP hinit
  obtain ⟨vm₁, X₁, hstep₁⟩ := X.invokestatic hexec hown hlink hnamed hmethM hstatic hkP hinitP hy (g := g) hg (argsL := argsL) (rest := rest) (hlen _ hsigM) hstack hdg
  obtain ⟨v, B, X', hpost, hsteps⟩ := hK m meth c ⟨T.setVm vm₁, locs, cells, slots⟩ { g with stack := rest } (.invokestatic index) mk argsL.toArray X₁ hg hsize hdg hW (X₁.named hnamed) (hpre vm₁ X₁.warmed)
  exact ⟨v, vm₁, B, X₁.warmed, X', hpost, fun target h => hstep₁ _ fun acts => by rw [doInvoke_state]; exact hsteps.trans h⟩
theorem vx_runSW {y : MethodName} {bytes cc : ByteArray} {maxL nL mc ms n index : Nat} {ret : Option FieldType} {hh : List (Nat × Nat × Nat × Nat)} {ws : List Cond} {rm : Room} {Pc : Array Value → State → Prop} {Qc : Array Value → State → Outcome → State → Prop} {free : Addr → Prop} {Ts : List Cond} {own : String} {As rest : List Value} {g : JFrame}
    (S : CallFix p m c cc nL s args Ts own) (hM : Met l y ws rm Pc Qc mc ms free) (cw : vx_CSW R s args own index y bytes maxL ret hh ws rm mc ms n) (hp : PreS s H Pc As)
    (hg : g.method = m) (hn : As.length = n) (hsize : g.locals.size = nL) (hstack : g.stack = As.reverse ++ rest) (hW : 2 * g.monitorRoom + (rest.map fun v => v.category).sum ≤ 8) (hdg : decode cc g.pc = .ok (.invokestatic index, 3)) (hf : cells + mc ≤ R.cells ∧ slots + ms ≤ R.slots) :
    va_Run p l e R s m args below meth c H locs cells slots mc ms g rest (Qc As.toArray) (free) := by
  obtain ⟨⟨hrc, hrs, hfr, hlo, hws, hcw⟩, hcode, hini, hy, hlen, hl, hstt⟩ := cw
  have hK : Back l R p e below s args y 3 8 (PreOf R mc ms Pc) (PostOf Qc mc ms free) := va_backW (hh := hh) (bytes := bytes) (maxL := maxL) (ret := ret) hM hp.1 hrc hrs hfr hlo hws hcw (fun a' U hW => word_at hW (Or.inl (by first | rfl | simp [Cond.onTables, Cond.keeps, Cond.steady])) hini)
  obtain ⟨hx, hb, hml, ho, -⟩ := S
  intro T hT X
  obtain ⟨v, vm₁, ⟨U', l2, c2, s2⟩, hW₁, X', ⟨g', mk, t, L, e1, e2, hq, h1, hL, h2, h3⟩, st⟩ := vx_callSW X hx (hh := hh) (bytes := bytes) (maxL := maxL) (ret := ret) ho hl hstt hini hcode hy hK hg (hsize.trans hml.symm) (argsL := As) (rest := rest) (fun sig h => hn.trans (hlen sig h)) hstack hW (by rw [hb]; exact hdg)
    (fun vm₁ hW₁ => ⟨hf.1, hf.2, hp.2 (T.setVm vm₁) hT hW₁⟩)
  dsimp only [Pt.U, Pt.locs, Pt.cells, Pt.slots] at X' e1 e2 h1 h2 h3 st
  subst h1; subst h2; subst h3
  exact ⟨v, (T.setVm vm₁).calling g' mk As.toArray, t, U', L, hT, X', hL, e1, e2, hq, st⟩
/-- not caught here, past rows that name other classes: it goes on to the caller -/
theorem vx_outP {p : Program} {l : Launch} {e : Env} {R : Room} {s : State} {m : MethodId} {args : Array Value} {below : List Frame} {meth : Method} {c : Code} {H : Heap} {locs : List Loc} {cells slots : Nat} {free : Addr → Prop} {ls : Array Slot} {rest : List Value} {Qc : Array Value → State → Outcome → State → Prop} {XC : String → State → State → Prop}
    {pc : Nat} {own E : String} {ce : Cell} {q : Addr} {mc ms : Nat} (hown : s.vm.findClass own = some m.cls) (hlocks : meth.locks = false)
    (hpass : ∀ z ∈ c.exceptionTable.toList, covers z pc = false ∨ (z.catchType ≠ 0 ∧ ∃ nm : String, (Cond.classLink own z.catchType nm).before args s = true ∧ va_Nc E nm s)) (hcell : H[q]? = some ce) (hv : ce.vm = .none) (hcl : s.vm.findClass E = some ce.cls)
    (hx : ∀ t : State, t.heap = H → s.vm.Alike t.vm → XC E s t) (hf : ∀ z ∈ locs, free z.base) (hc : cells ≤ mc) (hs : slots ≤ ms) :
    vx_W p l e R s m args below meth c H locs cells slots (vx_MQ below Qc XC args s mc ms free) (F0 m pc ls rest) q := by
  intro T hT X
  have hpl : e.platform.magicAccessors = ({} : Platform).magicAccessors := by rw [X.admits.platform]
  obtain ⟨vm', hW', X', st⟩ := X.outThrough hlocks q (g := F0 m pc ls rest) rfl rfl rfl (cell := ce) (by rw [hT]; exact hcell) (by rw [hv]; rfl)
    (by obtain ⟨k9, h9, -⟩ := Vm.findClass_spec hcl; exact ⟨k9, h9⟩) (fun z hz => by
      rcases hpass z hz with h | ⟨hz0, nm, hl1, hn1⟩
      · exact Or.inl h
      · obtain ⟨c6, hc6, hcl6⟩ := Cond.classLink_spec hown hl1 e.platform hpl
        obtain ⟨a8, b8, h1, h2, h3⟩ := hn1
        cases Option.some.inj (h1.symm.trans hcl)
        cases Option.some.inj (h2.symm.trans hc6)
        exact Or.inr ⟨hz0, _, hcl6, h3⟩)
  obtain ⟨g₀, hfr⟩ := X'.frames_eq
  have hcell9 : ((T.setVm vm').setFrames (.throwing q :: below)).heap[q]? = some ce := by
    show T.heap[q]? = some ce
    rw [hT]; exact hcell
  have hend : Ended ((T.setVm vm').setFrames (.throwing q :: below)) below (.threw q) := State.frames_setFrames _ (State.cur_lt_of_frames hfr)
  refine ⟨(T.setVm vm').setFrames (.throwing q :: below), ?_, .threw q, X'.here.running, hend, Or.inr ⟨q, rfl, E, ce, locs, hx _ hT (X'.ends _).1.alike, hcell9, hv, hcl, (X'.ends _).1, (X'.ends _).2.mono hc hs, hf⟩⟩
  rw [X.pushThrowing_eq]
  exact st
/-- a thing of a world lies in the heap -/
theorem vx_lt {D : va_G} {cl : List vw_C} {ws : va_W} {H1 : Heap} (h : va_P D cl ws H1) {k : Nat} {q : Nat × va_E} (hk : ws[k]? = some q) : q.1 < H1.size := (h k q hk).lt
end VXS
/-! ===== END ===== -/
/-! ===== BEGIN methods with a table of their own: called by a name, returning or throwing ===== -/
section VXH
/-! vx_backW, vx_callVX, vx_callSX, vx_callVW, vx_runVW, vx_runVX, vx_runSX, vx_ofWH follow the same proofs as their sisters above (Free/Laws.lean, Shelf42/LK1.lean); vx_outP calls Shelf42/NT130.lean (outThrough). -/
section
variable {l : Launch} {R : Room} {p : Program} {e : Env} {below : List Frame} {s : State} {sargs : Array Value} {y : MethodName} {len W9 : Nat}
theorem vx_backW {ws : List Cond} {rm : Room} {Pc : Array Value → State → Prop} {Qc : Array Value → State → Outcome → State → Prop} {XC : String → State → State → Prop} {mc ms : Nat} {free : Addr → Prop} {bytes : ByteArray} {maxL : Nat} {ret : Option FieldType} {hh : List (Nat × Nat × Nat × Nat)}
    (hM : vx_Met l y ws rm Pc Qc XC mc ms free) (hblind : FrameBlind Pc) (hrc : rm.cells = mc) (hrs : rm.slots = ms)
    (hframes : rm.frames + 1 ≤ R.frames) (hlocals : W9 + (maxL + 11) + rm.locals ≤ R.locals)
    (hws : ∀ w ∈ ws, ∀ a' U, s.WarmedH U.vm → w.before a' U = true) (hcode : Cond.codeWith y bytes maxL ret hh ∈ ws) (hinit : ∀ a' U, s.WarmedH U.vm → (Cond.initialized y.cls).before a' U = true) :
    vx_Back l R p e below s sargs y len W9 (PreOf R mc ms Pc) (PostOf Qc mc ms free) (vx_Post XC mc ms free) := by
  intro m meth c A g ig mk a X hg hsize hdg hW hn hp
  have h1 : (headSpec ws rm).pre.before a A.U = true := atoms_intro fun w hw => hws w hw _ _ X.warmed
  have h2 : (Cond.codeWith y bytes maxL ret hh).before a A.U = true := hws _ hcode _ _ X.warmed
  have h3 : (Cond.initialized y.cls).before a A.U = true := hinit _ _ X.warmed
  have h4 : A.cells + (headSpec ws rm).room.cells ≤ R.cells := by rw [show (headSpec ws rm).room.cells = mc from hrc]; exact hp.1
  have h5 : A.slots + (headSpec ws rm).room.slots ≤ R.slots := by rw [show (headSpec ws rm).room.slots = ms from hrs]; exact hp.2.1
  have hPc : Pc a (A.U.calling g mk a) := hblind _ _ _ _ hp.2.2
  obtain ⟨U, Ls, c0, s0⟩ := A
  dsimp only [Pt.U, Pt.locs, Pt.cells, Pt.slots] at h1 h2 h3 h4 h5 X hn hPc ⊢
  obtain ⟨m9, methY, cY, hn9, hmY, hcY, -, hlY, -⟩ := Cond.codeWith_spec h2
  cases Option.some.inj (hn9.symm.trans hn)
  obtain ⟨kY, hkY, -⟩ := className_of_methodNamed hn
  have hinitY : kY.init = .initialized := Cond.initialized_spec (findClass_of_methodNamed hn) hkY h3
  have h : At U g.method c below := by rw [hg]; exact X.here
  have hlocals9 : W9 + (maxL + 11) + (headSpec ws rm).room.locals ≤ R.locals := hlocals
  have happ : (headSpec ws rm).appliesLoose y e.platform (U.calling g mk a) = true :=
    Spec.appliesLoose_calling (g := g) h hdg hn hkY hinitY
      (X.room_calling (g := g) (R' := (headSpec ws rm).room) hsize hmY hcY hframes (by rw [hlY]; omega) h4 h5) h1
  obtain ⟨mid, hmid⟩ := h.above
  have hfr : (U.setTop g).frames = (.java g :: mid) ++ below := by rw [State.frames_setTop' g h.top, hmid]; rfl
  obtain ⟨o, s₂, hsteps, -, hend, hq⟩ := Steps.callFree hM p X.admits X.cas X.clock (acts := []) hfr happ hPc trivial
  have hq' : vx_Q Qc XC mc ms free a (U.calling g mk a) o s₂ := hq
  rw [State.frames_setTop' g h.top] at hend
  obtain ⟨g₀, hg0⟩ := Option.isSome_iff_exists.mp h.top
  obtain ⟨r, hr⟩ := State.topJava?_eq_some.mp hg0
  have hr' : (({ U with heap := s₂.heap, slotsUsed := s₂.slotsUsed } : State).setVm s₂.vm).frames = .java g₀ :: r := hr
  rcases hq' with ⟨hqc, L, hfe, hL⟩ | ⟨q, rfl, E, ce, L, hx, hce, hcv, hcl, hW₂, hsm, hL⟩
  · obtain ⟨⟨v, rfl⟩, hW₂, e2, q2, q3, q4, q5, q6⟩ := id hfe
    have e3 : s₂ = ({ (U.calling g mk a).setFrames s₂.frames with heap := s₂.heap, slotsUsed := s₂.slotsUsed } : State).setVm s₂.vm := by
      have : s₂ = ({ s₂ with vm := (U.calling g mk a).vm } : State).setVm s₂.vm := rfl
      rw [e2] at this
      exact this
    obtain ⟨c₂, i₂, len₂, hc₂, hd₂, hf₂⟩ := hend
    have hW' : U.WarmedH s₂.vm := hW₂
    have hcc : c₂ = c := by
      have h1 : s₂.code? g.method = U.code? g.method := by
        rw [State.code?_eq, State.code?_eq, hW'.alike.method?]
      exact Option.some.inj (hc₂.symm.trans (h1.trans h.code))
    subst hcc
    have hlen : len₂ = len := by rw [hdg] at hd₂; cases hd₂; rfl
    subst hlen
    have hs₂ : s₂ = (({ U with heap := s₂.heap, slotsUsed := s₂.slotsUsed } : State).setVm s₂.vm).setTop { g with pc := g.pc + len₂, stack := v.toList ++ g.stack } := by
      refine e3.trans ?_
      rw [hf₂, State.calling_eq h.top, State.setFrames_setFrames, State.setTop_of_frames _ hr', hr]
      rfl
    have hsame : U.sameButNew ({ U with heap := s₂.heap, slotsUsed := s₂.slotsUsed } : State) L mc ms := by
      refine ⟨?_, q2, q3, q4, q5, q6⟩
      obtain ⟨t, ht, -⟩ := State.frames_cons hr
      show ({ U with heap := s₂.heap, slotsUsed := s₂.slotsUsed } : State) = { U.setFrames U.frames with heap := s₂.heap, slotsUsed := s₂.slotsUsed }
      rw [State.setFrames_self ht]
    subst hg
    refine Or.inl ⟨v, ⟨(({ U with heap := s₂.heap, slotsUsed := s₂.slotsUsed } : State).setVm s₂.vm), Ls ++ L, c0 + mc, s0 + ms⟩,
      ⟨X.admits, X.cas, X.clock, X.frames, X.room, X.hears, X.method, X.code, (X.here.setHeapUsed s₂.heap s₂.slotsUsed).setVm hW'.alike, X.tail, State.WarmedH.trans X.warmed hW', X.limits, X.bytes, X.same.trans (hsame.setVm s.vm)⟩,
      ⟨g, mk, s₂, L, rfl, rfl, hqc, rfl, hL, rfl, rfl⟩, ?_⟩
    show Steps p.tables e below _ ((({ U with heap := s₂.heap, slotsUsed := s₂.slotsUsed } : State).setVm s₂.vm).setTop { g with pc := g.pc + len₂, stack := v.toList ++ g.stack })
    rw [← hs₂]
    exact hsteps
  · obtain ⟨e2, q2, q3, q4, q5, q6⟩ := id hsm
    have e3 : s₂ = ({ (U.calling g mk a).setFrames s₂.frames with heap := s₂.heap, slotsUsed := s₂.slotsUsed } : State).setVm s₂.vm := by
      have : s₂ = ({ s₂ with vm := (U.calling g mk a).vm } : State).setVm s₂.vm := rfl
      rw [e2] at this
      exact this
    have hf₂ : s₂.frames = .throwing q :: .java g :: U.frames.tail := hend
    have hW' : U.WarmedH s₂.vm := hW₂
    have hs₂ : s₂ = ((({ U with heap := s₂.heap, slotsUsed := s₂.slotsUsed } : State).setVm s₂.vm).setTop g).pushFrame (.throwing q) := by
      refine e3.trans ?_
      rw [hf₂, State.calling_eq h.top, State.setFrames_setFrames, State.pushFrame, State.frames_setTop _ hr', State.setTop_of_frames _ hr', State.setFrames_setFrames, hr]
      rfl
    have hsame : U.sameButNew ({ U with heap := s₂.heap, slotsUsed := s₂.slotsUsed } : State) L mc ms := by
      refine ⟨?_, q2, q3, q4, q5, q6⟩
      obtain ⟨t, ht, -⟩ := State.frames_cons hr
      show ({ U with heap := s₂.heap, slotsUsed := s₂.slotsUsed } : State) = { U.setFrames U.frames with heap := s₂.heap, slotsUsed := s₂.slotsUsed }
      rw [State.setFrames_self ht]
    subst hg
    refine Or.inr ⟨q, ⟨(({ U with heap := s₂.heap, slotsUsed := s₂.slotsUsed } : State).setVm s₂.vm), Ls ++ L, c0 + mc, s0 + ms⟩,
      ⟨X.admits, X.cas, X.clock, X.frames, X.room, X.hears, X.method, X.code, (X.here.setHeapUsed s₂.heap s₂.slotsUsed).setVm hW'.alike, X.tail, State.WarmedH.trans X.warmed hW', X.limits, X.bytes, X.same.trans (hsame.setVm s.vm)⟩,
      ⟨g, mk, s₂, L, E, ce, rfl, rfl, hx, hce, hcv, hcl, rfl, hL, rfl, rfl⟩, ?_⟩
    show Steps p.tables e below _ (((({ U with heap := s₂.heap, slotsUsed := s₂.slotsUsed } : State).setVm s₂.vm).setTop g).pushFrame (.throwing q))
    rw [← hs₂]
    exact hsteps
end
variable {p : Program} {l : Launch} {e : Env} {R : Room} {s : State} {m : MethodId} {args : Array Value} {below : List Frame} {meth : Method} {c : Code} {T : State} {H : Heap} {locs : List Loc} {cells slots : Nat}
theorem vx_callVX (X : Stand p l e R s m args below meth c T locs cells slots) (hexec : p.tables.exec = Jvm.exec) {own C : String} {index : Nat} {y : MethodName} {bytes : ByteArray} {maxL : Nat} {ret : Option FieldType} {hh : List (Nat × Nat × Nat × Nat)}
    (hown : s.vm.findClass own = some m.cls) (hlink : (Cond.methodLink own index y).before args s = true) (hinst : (Cond.instanceMethod y).before args s = true) (hsel : (Cond.selects C y y).before args s = true)
    (hcode : (Cond.codeWith y bytes maxL ret hh).before args s = true) (hy : y.cls ≠ "java/lang/invoke/MethodHandle" ∧ y.cls ≠ "java/lang/invoke/VarHandle")
    {W9 : Nat} {Pre : Pt → Array Value → Prop} {Post : Pt → Array Value → Option Value → Pt → Prop} {PostX : Pt → Array Value → Addr → Pt → Prop} (hK : vx_Back l R p e below s args y 3 W9 Pre Post PostX)
    {b : Addr} {cellB : Cell} (hcell : T.heap[b]? = some cellB) (hobj : cellB.vm.isStatics = false) (hcls : s.vm.findClass C = some cellB.cls)
    {g : JFrame} (hg : g.method = m) (hsize : g.locals.size = c.maxLocals) {argsL rest : List Value} (hlen : ∀ sig, parseMethodDescriptor y.desc = some sig → argsL.length = sig.parameters.length)
    (hstack : g.stack = argsL.reverse ++ .ref b :: rest) (hW : 2 * g.monitorRoom + (rest.map fun v => v.category).sum ≤ W9) (hdg : decode c.code g.pc = .ok (.invokevirtual index, 3))
    (hpre : ∀ vm₁, s.WarmedH vm₁ → Pre ⟨T.setVm vm₁, locs, cells, slots⟩ (Value.ref b :: argsL).toArray) :
    (∃ (v : Option Value) (vm₁ : Vm) (B : Pt), s.WarmedH vm₁ ∧ Stand p l e R s m args below meth c B.U B.locs B.cells B.slots ∧ Post ⟨T.setVm vm₁, locs, cells, slots⟩ (Value.ref b :: argsL).toArray v B ∧
      ∀ target, Steps p.tables e below (B.U.setTop { g with pc := g.pc + 3, stack := v.toList ++ rest }) target → Steps p.tables e below (T.setTop g) target) ∨
    (∃ (q : Addr) (vm₁ : Vm) (B : Pt), s.WarmedH vm₁ ∧ Stand p l e R s m args below meth c B.U B.locs B.cells B.slots ∧ PostX ⟨T.setVm vm₁, locs, cells, slots⟩ (Value.ref b :: argsL).toArray q B ∧
      Steps p.tables e below (T.setTop g) ((B.U.setTop { g with stack := rest }).pushFrame (.throwing q))) := by
  obtain ⟨mk, methM, hnamed, hmethM, hstM, habM⟩ := Cond.instanceMethod_spec hinst
  obtain ⟨m8, methM', cM, hn8, hmethM', -, -, -, -, -, -, hsigM⟩ := Cond.codeWith_spec hcode
  cases Option.some.inj (hn8.symm.trans hnamed)
  cases hmethM.symm.trans hmethM'
  obtain ⟨c2, r2, m2, q1, q2, q3, q4, kP, hkP, hkPi⟩ := Cond.selects_spec hsel
  cases hcls.symm.trans q1
  cases (State.methodFound?_of_named hnamed hy).symm.trans q2
  cases hnamed.symm.trans q3
  have hselP : selectMethod e.platform s.vm cellB.cls mk = .method mk := by rw [Launch.admits_selectMethod X.admits]; exact q4
  obtain ⟨vm₁, X₁, hstep₁⟩ := X.invokevirtual hexec hown hlink hnamed hmethM hstM hkP hkPi hy (a := b) (cell := cellB) hcell
    (fun z h => by rw [h] at hobj; cases hobj) hselP hmethM habM hkP hkPi (g := g) hg (argsL := argsL) (rest := rest) (hlen _ hsigM) hstack hdg
  rcases hK m meth c ⟨T.setVm vm₁, locs, cells, slots⟩ { g with stack := rest } (.invokevirtual index) mk (Value.ref b :: argsL).toArray X₁ hg hsize hdg hW (X₁.named hnamed) (hpre vm₁ X₁.warmed) with ⟨v, B, X', hpost, hsteps⟩ | ⟨q, B, X', hpost, hsteps⟩
  · exact Or.inl ⟨v, vm₁, B, X₁.warmed, X', hpost, fun target h => hstep₁ _ fun acts => by rw [doInvoke_state]; exact hsteps.trans h⟩
  · exact Or.inr ⟨q, vm₁, B, X₁.warmed, X', hpost, hstep₁ _ fun acts => by rw [doInvoke_state]; exact hsteps⟩
theorem vx_callSX (X : Stand p l e R s m args below meth c T locs cells slots) (hexec : p.tables.exec = Jvm.exec) {own : String} {index : Nat} {y : MethodName} {bytes : ByteArray} {maxL : Nat} {ret : Option FieldType} {hh : List (Nat × Nat × Nat × Nat)}
    (hown : s.vm.findClass own = some m.cls) (hlink : (Cond.methodLink own index y).before args s = true) (hstat : (Cond.static y).before args s = true) (hinit : (Cond.initialized y.cls).before args s = true)
    (hcode : (Cond.codeWith y bytes maxL ret hh).before args s = true) (hy : y.cls ≠ "java/lang/invoke/MethodHandle" ∧ y.cls ≠ "java/lang/invoke/VarHandle")
    {W9 : Nat} {Pre : Pt → Array Value → Prop} {Post : Pt → Array Value → Option Value → Pt → Prop} {PostX : Pt → Array Value → Addr → Pt → Prop} (hK : vx_Back l R p e below s args y 3 W9 Pre Post PostX)
    {g : JFrame} (hg : g.method = m) (hsize : g.locals.size = c.maxLocals) {argsL rest : List Value} (hlen : ∀ sig, parseMethodDescriptor y.desc = some sig → argsL.length = sig.parameters.length)
    (hstack : g.stack = argsL.reverse ++ rest) (hW : 2 * g.monitorRoom + (rest.map fun v => v.category).sum ≤ W9) (hdg : decode c.code g.pc = .ok (.invokestatic index, 3))
    (hpre : ∀ vm₁, s.WarmedH vm₁ → Pre ⟨T.setVm vm₁, locs, cells, slots⟩ argsL.toArray) :
    (∃ (v : Option Value) (vm₁ : Vm) (B : Pt), s.WarmedH vm₁ ∧ Stand p l e R s m args below meth c B.U B.locs B.cells B.slots ∧ Post ⟨T.setVm vm₁, locs, cells, slots⟩ argsL.toArray v B ∧
      ∀ target, Steps p.tables e below (B.U.setTop { g with pc := g.pc + 3, stack := v.toList ++ rest }) target → Steps p.tables e below (T.setTop g) target) ∨
    (∃ (q : Addr) (vm₁ : Vm) (B : Pt), s.WarmedH vm₁ ∧ Stand p l e R s m args below meth c B.U B.locs B.cells B.slots ∧ PostX ⟨T.setVm vm₁, locs, cells, slots⟩ argsL.toArray q B ∧
      Steps p.tables e below (T.setTop g) ((B.U.setTop { g with stack := rest }).pushFrame (.throwing q))) := by
  obtain ⟨mk, methM, cM, hnamed, hmethM, -, -, -, -, -, -, hsigM⟩ := Cond.codeWith_spec hcode
  have hstatic : methM.isStatic = true := Cond.static_spec hnamed hmethM hstat
  obtain ⟨kP, hkP, -⟩ := className_of_methodNamed hnamed
  have hinitP : kP.init = .initialized := Cond.initialized_spec (findClass_of_methodNamed hnamed) hkP hinit
  obtain ⟨vm₁, X₁, hstep₁⟩ := X.invokestatic hexec hown hlink hnamed hmethM hstatic hkP hinitP hy (g := g) hg (argsL := argsL) (rest := rest) (hlen _ hsigM) hstack hdg
  rcases hK m meth c ⟨T.setVm vm₁, locs, cells, slots⟩ { g with stack := rest } (.invokestatic index) mk argsL.toArray X₁ hg hsize hdg hW (X₁.named hnamed) (hpre vm₁ X₁.warmed) with ⟨v, B, X', hpost, hsteps⟩ | ⟨q, B, X', hpost, hsteps⟩
  · exact Or.inl ⟨v, vm₁, B, X₁.warmed, X', hpost, fun target h => hstep₁ _ fun acts => by rw [doInvoke_state]; exact hsteps.trans h⟩
  · exact Or.inr ⟨q, vm₁, B, X₁.warmed, X', hpost, hstep₁ _ fun acts => by rw [doInvoke_state]; exact hsteps⟩
theorem vx_callVW (X : Stand p l e R s m args below meth c T locs cells slots) (hexec : p.tables.exec = Jvm.exec) {own C : String} {index : Nat} {y : MethodName} {bytes : ByteArray} {maxL : Nat} {ret : Option FieldType} {hh : List (Nat × Nat × Nat × Nat)}
    (hown : s.vm.findClass own = some m.cls) (hlink : (Cond.methodLink own index y).before args s = true) (hinst : (Cond.instanceMethod y).before args s = true) (hsel : (Cond.selects C y y).before args s = true)
    (hcode : (Cond.codeWith y bytes maxL ret hh).before args s = true) (hy : y.cls ≠ "java/lang/invoke/MethodHandle" ∧ y.cls ≠ "java/lang/invoke/VarHandle")
    {W9 : Nat} {Pre : Pt → Array Value → Prop} {Post : Pt → Array Value → Option Value → Pt → Prop} (hK : Back l R p e below s args y 3 W9 Pre Post)
    {b : Addr} {cellB : Cell} (hcell : T.heap[b]? = some cellB) (hobj : cellB.vm.isStatics = false) (hcls : s.vm.findClass C = some cellB.cls)
    {g : JFrame} (hg : g.method = m) (hsize : g.locals.size = c.maxLocals) {argsL rest : List Value} (hlen : ∀ sig, parseMethodDescriptor y.desc = some sig → argsL.length = sig.parameters.length)
    (hstack : g.stack = argsL.reverse ++ .ref b :: rest) (hW : 2 * g.monitorRoom + (rest.map fun v => v.category).sum ≤ W9) (hdg : decode c.code g.pc = .ok (.invokevirtual index, 3))
    (hpre : ∀ vm₁, s.WarmedH vm₁ → Pre ⟨T.setVm vm₁, locs, cells, slots⟩ (Value.ref b :: argsL).toArray) :
    ∃ (v : Option Value) (vm₁ : Vm) (B : Pt), s.WarmedH vm₁ ∧ Stand p l e R s m args below meth c B.U B.locs B.cells B.slots ∧ Post ⟨T.setVm vm₁, locs, cells, slots⟩ (Value.ref b :: argsL).toArray v B ∧
      ∀ target, Steps p.tables e below (B.U.setTop { g with pc := g.pc + 3, stack := v.toList ++ rest }) target → Steps p.tables e below (T.setTop g) target := by
  obtain ⟨mk, methM, hnamed, hmethM, hstM, habM⟩ := Cond.instanceMethod_spec hinst
  obtain ⟨m8, methM', cM, hn8, hmethM', -, -, -, -, -, -, hsigM⟩ := Cond.codeWith_spec hcode
  cases Option.some.inj (hn8.symm.trans hnamed)
  cases hmethM.symm.trans hmethM'
  obtain ⟨c2, r2, m2, q1, q2, q3, q4, kP, hkP, hkPi⟩ := Cond.selects_spec hsel
  cases hcls.symm.trans q1
  cases (State.methodFound?_of_named hnamed hy).symm.trans q2
  cases hnamed.symm.trans q3
  have hselP : selectMethod e.platform s.vm cellB.cls mk = .method mk := by rw [Launch.admits_selectMethod X.admits]; exact q4
  obtain ⟨vm₁, X₁, hstep₁⟩ := X.invokevirtual hexec hown hlink hnamed hmethM hstM hkP hkPi hy (a := b) (cell := cellB) hcell
    (fun z h => by rw [h] at hobj; cases hobj) hselP hmethM habM hkP hkPi (g := g) hg (argsL := argsL) (rest := rest) (hlen _ hsigM) hstack hdg
  obtain ⟨v, B, X', hpost, hsteps⟩ := hK m meth c ⟨T.setVm vm₁, locs, cells, slots⟩ { g with stack := rest } (.invokevirtual index) mk (Value.ref b :: argsL).toArray X₁ hg hsize hdg hW (X₁.named hnamed) (hpre vm₁ X₁.warmed)
  exact ⟨v, vm₁, B, X₁.warmed, X', hpost, fun target h => hstep₁ _ fun acts => by rw [doInvoke_state]; exact hsteps.trans h⟩
abbrev vx_CVW (R : Room) (s : State) (args : Array Value) (own C : String) (index : Nat) (y : MethodName) (bytes : ByteArray) (maxL : Nat) (ret : Option FieldType) (hh : List (Nat × Nat × Nat × Nat)) (ws : List Cond) (rm : Room) (mc ms n : Nat) : Prop :=
  (rm.cells = mc ∧ rm.slots = ms ∧ rm.frames + 1 ≤ R.frames ∧ 8 + (maxL + 11) + rm.locals ≤ R.locals ∧ (∀ w ∈ ws, ∀ (a' : Array Value) (U : State), s.WarmedH U.vm → w.before a' U = true) ∧ Cond.codeWith y bytes maxL ret hh ∈ ws) ∧
  (Cond.codeWith y bytes maxL ret hh).before args s = true ∧ (Cond.initialized y.cls).before args s = true ∧ (y.cls ≠ "java/lang/invoke/MethodHandle" ∧ y.cls ≠ "java/lang/invoke/VarHandle") ∧
  (∀ sig, parseMethodDescriptor y.desc = some sig → n = sig.parameters.length) ∧ (Cond.methodLink own index y).before args s = true ∧ (Cond.instanceMethod y).before args s = true ∧ (Cond.selects C y y).before args s = true
theorem vx_cwVW {own C : String} {index maxL mc ms : Nat} {y : MethodName} {bytes : ByteArray} {ret : Option FieldType} {hh : List (Nat × Nat × Nat × Nat)} {Ts ws ws' : List Cond} {rm : Room} (n : Nat) (ht : ∀ w ∈ Ts, w.before args s = true) (hT : GoodIn Ts (wsV own index C y ws)) (hw : ws = Cond.codeWith y bytes maxL ret hh :: ws') (hrc : rm.cells = mc) (hrs : rm.slots = ms)
    (hd : y.cls = C ∧ y.cls ≠ "java/lang/invoke/MethodHandle" ∧ y.cls ≠ "java/lang/invoke/VarHandle" ∧ (parseMethodDescriptor y.desc).map (fun d => d.parameters.length) = some n) (hR : rm.frames + 1 ≤ R.frames ∧ 8 + (maxL + 11) + rm.locals ≤ R.locals) :
    vx_CVW R s args own C index y bytes maxL ret hh ws rm mc ms n := by
  obtain ⟨hC, hd⟩ := hd
  subst hC
  have ok : ∀ w ∈ wsV own index y.cls y ws, w.before args s = true := fun w h => ht w (hT w h).1
  have hG : GoodIn Ts ws := fun w h => hT w (by unfold wsV; exact List.mem_append_right _ h)
  have hc : Cond.codeWith y bytes maxL ret hh ∈ ws := by rw [hw]; exact List.mem_cons_self
  refine ⟨⟨hrc, hrs, hR.1, hR.2, pay_in ht hG, hc⟩, ht _ (hG _ hc).1, ok _ (by simp [wsV]), ⟨hd.1, hd.2.1⟩, fun sig h => ?_, ok _ (by simp [wsV]), ok _ (by simp [wsV]), ok _ (by simp [wsV])⟩
  have h2 := hd.2.2
  rw [h] at h2
  exact (Option.some.inj h2).symm
theorem vx_runVW {y : MethodName} {bytes cc : ByteArray} {maxL nL mc ms n index : Nat} {ret : Option FieldType} {hh : List (Nat × Nat × Nat × Nat)} {ws : List Cond} {rm : Room} {Pc : Array Value → State → Prop} {Qc : Array Value → State → Outcome → State → Prop} {free : Addr → Prop} {Ts : List Cond} {own C : String} {b : Addr} {As rest : List Value} {g : JFrame}
    (S : CallFix p m c cc nL s args Ts own) (hM : Met l y ws rm Pc Qc mc ms free) (cw : vx_CVW R s args own C index y bytes maxL ret hh ws rm mc ms n) (hp : PreV s H C b Pc As)
    (hg : g.method = m) (hn : As.length = n) (hsize : g.locals.size = nL) (hstack : g.stack = As.reverse ++ .ref b :: rest) (hW : 2 * g.monitorRoom + (rest.map fun v => v.category).sum ≤ 8) (hdg : decode cc g.pc = .ok (.invokevirtual index, 3)) (hf : cells + mc ≤ R.cells ∧ slots + ms ≤ R.slots) :
    va_Run p l e R s m args below meth c H locs cells slots mc ms g rest (Qc (Value.ref b :: As).toArray) free := by
  obtain ⟨⟨hrc, hrs, hfr, hlo, hws, hcw⟩, hcode, hini, hy, hlen, hl, hin, hse⟩ := cw
  have hK : Back l R p e below s args y 3 8 (PreOf R mc ms Pc) (PostOf Qc mc ms free) := va_backW (hh := hh) (bytes := bytes) (maxL := maxL) (ret := ret) hM hp.1 hrc hrs hfr hlo hws hcw (fun a' U hW => word_at hW (Or.inl (by first | rfl | simp [Cond.onTables, Cond.keeps, Cond.steady])) hini)
  obtain ⟨hx, hb, hml, ho, -⟩ := S
  obtain ⟨-, ⟨cellB, hcB, hoB, hclB⟩, hPc⟩ := hp
  intro T hT X
  obtain ⟨v, vm₁, ⟨U', l2, c2, s2⟩, hW₁, X', ⟨g', mk, t, L, e1, e2, hq, h1, hL, h2, h3⟩, st⟩ := vx_callVW X hx (C := C) (hh := hh) (bytes := bytes) (maxL := maxL) (ret := ret) ho hl hin hse hcode hy hK (by rw [hT]; exact hcB) hoB hclB hg (hsize.trans hml.symm) (argsL := As) (rest := rest) (fun sig h => hn.trans (hlen sig h)) hstack hW (by rw [hb]; exact hdg)
    (fun vm₁ hW₁ => ⟨hf.1, hf.2, hPc (T.setVm vm₁) hT hW₁⟩)
  dsimp only [Pt.U, Pt.locs, Pt.cells, Pt.slots] at X' e1 e2 h1 h2 h3 st
  subst h1; subst h2; subst h3
  exact ⟨v, (T.setVm vm₁).calling g' mk (Value.ref b :: As).toArray, t, U', L, hT, X', hL, e1, e2, hq, st⟩
section
variable {y : MethodName} {bytes cc : ByteArray} {maxL nL mc ms n index : Nat} {ret : Option FieldType} {ws : List Cond} {rm : Room} {Pc : Array Value → State → Prop} {Qc : Array Value → State → Outcome → State → Prop} {XC : String → State → State → Prop} {free : Addr → Prop} {Ts : List Cond} {own C : String} {b : Addr} {As rest : List Value} {g : JFrame}
theorem vx_runVX {hh : List (Nat × Nat × Nat × Nat)} (S : CallFix p m c cc nL s args Ts own) (hM : vx_Met l y ws rm Pc Qc XC mc ms free) (cw : vx_CVW R s args own C index y bytes maxL ret hh ws rm mc ms n) (hp : PreV s H C b Pc As)
    (hg : g.method = m) (hn : As.length = n) (hsize : g.locals.size = nL) (hstack : g.stack = As.reverse ++ .ref b :: rest) (hW : 2 * g.monitorRoom + (rest.map fun v => v.category).sum ≤ 8) (hdg : decode cc g.pc = .ok (.invokevirtual index, 3)) (hf : cells + mc ≤ R.cells ∧ slots + ms ≤ R.slots) :
    vx_Run p l e R s m args below meth c H locs cells slots mc ms g rest (Qc (Value.ref b :: As).toArray) XC free := by
  obtain ⟨⟨hrc, hrs, hfr, hlo, hws, hcw⟩, hcode, hini, hy, hlen, hl, hin, hse⟩ := cw
  have hK : vx_Back l R p e below s args y 3 8 (PreOf R mc ms Pc) (PostOf Qc mc ms free) (vx_Post XC mc ms free) := vx_backW (hh := hh) (bytes := bytes) (maxL := maxL) (ret := ret) hM hp.1 hrc hrs hfr hlo hws hcw (fun a' U hW => word_at hW (Or.inl (by first | rfl | simp [Cond.onTables, Cond.keeps, Cond.steady])) hini)
  obtain ⟨hx, hb, hml, ho, -⟩ := S
  obtain ⟨-, ⟨cellB, hcB, hoB, hclB⟩, hPc⟩ := hp
  intro T hT X
  rcases vx_callVX X hx (C := C) (hh := hh) (bytes := bytes) (maxL := maxL) (ret := ret) ho hl hin hse hcode hy hK (by rw [hT]; exact hcB) hoB hclB hg (hsize.trans hml.symm) (argsL := As) (rest := rest) (fun sig h => hn.trans (hlen sig h)) hstack hW (by rw [hb]; exact hdg)
    (fun vm₁ hW₁ => ⟨hf.1, hf.2, hPc (T.setVm vm₁) hT hW₁⟩) with ⟨v, vm₁, ⟨U', l2, c2, s2⟩, hW₁, X', ⟨g', mk, t, L, e1, e2, hq, h1, hL, h2, h3⟩, st⟩ | ⟨q, vm₁, ⟨U', l2, c2, s2⟩, hW₁, X', ⟨g', mk, t, L, E, ce, e1, e2, hq, hce, hcv, hcl, h1, hL, h2, h3⟩, st⟩
  · dsimp only [Pt.U, Pt.locs, Pt.cells, Pt.slots] at X' e1 e2 h1 h2 h3 st
    subst h1; subst h2; subst h3
    exact Or.inl ⟨v, (T.setVm vm₁).calling g' mk (Value.ref b :: As).toArray, t, U', L, hT, X', hL, e1, e2, hq, st⟩
  · dsimp only [Pt.U, Pt.locs, Pt.cells, Pt.slots] at X' e1 e2 h1 h2 h3 st hcl
    subst h1; subst h2; subst h3
    exact Or.inr ⟨q, (T.setVm vm₁).calling g' mk (Value.ref b :: As).toArray, t, U', L, E, ce, hT, X', hL, e1, e2, hq, hce, hcv, vx_cls hW₁ hcl, st⟩
theorem vx_runSX {hh : List (Nat × Nat × Nat × Nat)} (S : CallFix p m c cc nL s args Ts own) (hM : vx_Met l y ws rm Pc Qc XC mc ms free) (cw : vx_CSW R s args own index y bytes maxL ret hh ws rm mc ms n) (hp : PreS s H Pc As)
    (hg : g.method = m) (hn : As.length = n) (hsize : g.locals.size = nL) (hstack : g.stack = As.reverse ++ rest) (hW : 2 * g.monitorRoom + (rest.map fun v => v.category).sum ≤ 8) (hdg : decode cc g.pc = .ok (.invokestatic index, 3)) (hf : cells + mc ≤ R.cells ∧ slots + ms ≤ R.slots) :
    vx_Run p l e R s m args below meth c H locs cells slots mc ms g rest (Qc As.toArray) XC free := by
  obtain ⟨⟨hrc, hrs, hfr, hlo, hws, hcw⟩, hcode, hini, hy, hlen, hl, hstt⟩ := cw
  have hK : vx_Back l R p e below s args y 3 8 (PreOf R mc ms Pc) (PostOf Qc mc ms free) (vx_Post XC mc ms free) := vx_backW (hh := hh) (bytes := bytes) (maxL := maxL) (ret := ret) hM hp.1 hrc hrs hfr hlo hws hcw (fun a' U hW => word_at hW (Or.inl (by first | rfl | simp [Cond.onTables, Cond.keeps, Cond.steady])) hini)
  obtain ⟨hx, hb, hml, ho, -⟩ := S
  intro T hT X
  rcases vx_callSX X hx (hh := hh) (bytes := bytes) (maxL := maxL) (ret := ret) ho hl hstt hini hcode hy hK hg (hsize.trans hml.symm) (argsL := As) (rest := rest) (fun sig h => hn.trans (hlen sig h)) hstack hW (by rw [hb]; exact hdg)
    (fun vm₁ hW₁ => ⟨hf.1, hf.2, hp.2 (T.setVm vm₁) hT hW₁⟩) with ⟨v, vm₁, ⟨U', l2, c2, s2⟩, hW₁, X', ⟨g', mk, t, L, e1, e2, hq, h1, hL, h2, h3⟩, st⟩ | ⟨q, vm₁, ⟨U', l2, c2, s2⟩, hW₁, X', ⟨g', mk, t, L, E, ce, e1, e2, hq, hce, hcv, hcl, h1, hL, h2, h3⟩, st⟩
  · dsimp only [Pt.U, Pt.locs, Pt.cells, Pt.slots] at X' e1 e2 h1 h2 h3 st
    subst h1; subst h2; subst h3
    exact Or.inl ⟨v, (T.setVm vm₁).calling g' mk As.toArray, t, U', L, hT, X', hL, e1, e2, hq, st⟩
  · dsimp only [Pt.U, Pt.locs, Pt.cells, Pt.slots] at X' e1 e2 h1 h2 h3 st hcl
    subst h1; subst h2; subst h3
    exact Or.inr ⟨q, (T.setVm vm₁).calling g' mk As.toArray, t, U', L, E, ce, hT, X', hL, e1, e2, hq, hce, hcv, vx_cls hW₁ hcl, st⟩
end
end VXH
theorem vx_ofWH {l : Launch} {y : MethodName} {ws ws' : List Cond} {rm : Room} {Pc : Array Value → State → Prop} {Qc : Array Value → State → Outcome → State → Prop} {XC : String → State → State → Prop} {mc ms : Nat} {free : Addr → Prop} {cc : ByteArray} {maxL : Nat} {ret : Option FieldType} {hh : List (Nat × Nat × Nat × Nat)}
    (hy : plainName y.cls = true) (hw : ws = Cond.codeWith y cc maxL ret hh :: ws')
    (body : ∀ p e s m args below meth c s₁, BodyLoose p l y (headSpec ws rm) cc maxL ret e s m args below meth c s₁ → c.maxLocals = maxL → Pc args s →
      W p l e (headSpec ws rm).room s m args below meth c s.heap [] 0 0 (vx_MQ below Qc XC args s mc ms free) (entryFrame m args maxL)) : vx_Met l y ws rm Pc Qc XC mc ms free := by
  refine MetFree.of_bodyS (code := cc) (maxLocals := maxL) (ret := ret) hy ?_ ?_
  · intro args s m h hn
    obtain ⟨m9, meth, c, hn9, h1, h2, h3, h4, -, h5, h6, -⟩ := Cond.codeWith_spec (atoms_spec (ws := ws) h _ (by rw [hw]; exact List.mem_cons_self))
    cases hn.symm.trans hn9
    exact ⟨meth, c, h1, h2, h3, h4, h5, h6⟩
  · intro p e s m args below meth c s₁ B hml hP _
    have hh0 : s₁.heap = s.heap := by rw [B.state]; rfl
    obtain ⟨t, a1, o, b1, b2, b3⟩ := body p e s m args below meth c s₁ B hml hP s₁ hh0 (Stand.of_body B)
    exact ⟨t, o, a1, b1, b2, b3⟩
/-! ===== END ===== -/
end
section
def RX0 : String := "LanguageAtoms$Atoms"
def TX0 : u_T := fun k => match k with
  | 0 => ("LanguageAtoms$Atoms", "base", "LLanguageAtoms$Automaton;", true)
  | 1 => ("LanguageAtoms$Atoms", "keys", "LLanguageAtoms$KeyTable;", true)
  | 2 => ("LanguageAtoms$Atoms", "forward", "LLanguageAtoms$SetMap;", true)
  | 3 => ("LanguageAtoms$Atoms", "backward", "LLanguageAtoms$SetMap;", true)
  | 4 => ("LanguageAtoms$Atoms", "otherBackward", "LLanguageAtoms$SetMap;", true)
  | 5 => ("LanguageAtoms$Atoms", "count", "I", false)
  | 6 => ("LanguageAtoms$Atoms", "order", "[I", true)
  | 7 => ("LanguageAtoms$Atoms", "present", "J", false)
  | 8 => ("LanguageAtoms$Atoms", "firstLetters", "[I", true)
  | 9 => ("LanguageAtoms$Atoms", "followers", "[I", true)
  | 10 => ("LanguageAtoms$Atoms", "containing", "[J", true)
  | 11 => ("LanguageAtoms$Atoms", "avoiding", "[J", true)
  | 12 => ("LanguageAtoms$Atoms", "pairs", "[I", true)
  | _ => ("LanguageAtoms$Atoms", "images", "[I", true)
def tyX0 : Nat → FieldType := fun k => match k with
  | 0 => .object "LanguageAtoms$Automaton"
  | 1 => .object "LanguageAtoms$KeyTable"
  | 2 => .object "LanguageAtoms$SetMap"
  | 3 => .object "LanguageAtoms$SetMap"
  | 4 => .object "LanguageAtoms$SetMap"
  | 5 => .int
  | 6 => .array .int
  | 7 => .long
  | 8 => .array .int
  | 9 => .array .int
  | 10 => .array .long
  | 11 => .array .long
  | 12 => .array .int
  | _ => .array .int
abbrev wsX00 : List Cond := u_ws RX0 TX0 14
theorem nmX0 : ∀ a, a < 14 → ∀ b, b < 14 → a ≠ b → (TX0 a).2.1 ≠ (TX0 b).2.1 := by decide +kernel
theorem tyX0_ok : ∀ k, k < 14 → parseFieldDescriptor (TX0 k).2.2.1 = some (tyX0 k) := by decide +kernel
abbrev cX0_init : ByteArray := prog_2_method_1_code
def yX0_init : MethodName := ⟨RX0, "<init>", "(LLanguageAtoms$KeyTable;)V"⟩
abbrev cX0_codeBound : ByteArray := prog_2_method_2_code
def yX0_codeBound : MethodName := ⟨RX0, "codeBound", "()I"⟩
abbrev cX0_startCode : ByteArray := prog_2_method_3_code
def yX0_startCode : MethodName := ⟨RX0, "startCode", "()I"⟩
abbrev cX0_follow : ByteArray := prog_2_method_4_code
def yX0_follow : MethodName := ⟨RX0, "follow", "(II)I"⟩
abbrev cX0_isAccepting : ByteArray := prog_2_method_5_code
def yX0_isAccepting : MethodName := ⟨RX0, "isAccepting", "(I)Z"⟩
abbrev cX0_find : ByteArray := prog_2_method_6_code
def yX0_find : MethodName := ⟨RX0, "find", "()V"⟩
abbrev cX0_addAtom : ByteArray := prog_2_method_7_code
def yX0_addAtom : MethodName := ⟨RX0, "addAtom", "(III)V"⟩
abbrev cX0_holds : ByteArray := prog_2_method_8_code
def yX0_holds : MethodName := ⟨RX0, "holds", "(JI)Z"⟩
abbrev cX0_numberOf : ByteArray := prog_2_method_9_code
def yX0_numberOf : MethodName := ⟨RX0, "numberOf", "(I)I"⟩
abbrev cX0_setOf : ByteArray := prog_2_method_10_code
def yX0_setOf : MethodName := ⟨RX0, "setOf", "(I)I"⟩
abbrev cX0_setOfWord : ByteArray := prog_2_method_11_code
def yX0_setOfWord : MethodName := ⟨RX0, "setOfWord", "(LLanguageAtoms$Word;)I"⟩
abbrev cX0_targetsOf : ByteArray := prog_2_method_12_code
def yX0_targetsOf : MethodName := ⟨RX0, "targetsOf", "(II)J"⟩
abbrev cX0_initialOnes : ByteArray := prog_2_method_13_code
def yX0_initialOnes : MethodName := ⟨RX0, "initialOnes", "()J"⟩
abbrev cX0_firstWordLength : ByteArray := prog_2_method_14_code
def yX0_firstWordLength : MethodName := ⟨RX0, "firstWordLength", "(I)I"⟩
abbrev cX0_writeFirstWord : ByteArray := prog_2_method_15_code
def yX0_writeFirstWord : MethodName := ⟨RX0, "writeFirstWord", "(ILLanguageAtoms$Word;)V"⟩
abbrev cX0_countQuotients : ByteArray := prog_2_method_16_code
def yX0_countQuotients : MethodName := ⟨RX0, "countQuotients", "(I)I"⟩
abbrev cX0_addPair : ByteArray := prog_2_method_17_code
def yX0_addPair : MethodName := ⟨RX0, "addPair", "(II)V"⟩
abbrev cX0_fillLanguages : ByteArray := prog_2_method_18_code
def yX0_fillLanguages : MethodName := ⟨RX0, "fillLanguages", "()V"⟩
abbrev cX0_atomsWith : ByteArray := prog_2_method_19_code
def yX0_atomsWith : MethodName := ⟨RX0, "atomsWith", "(I)J"⟩
abbrev cX0_writeUnion : ByteArray := prog_2_method_20_code
def yX0_writeUnion : MethodName := ⟨RX0, "writeUnion", "(JLLanguageAtoms$Automaton;)I"⟩
abbrev cX0_languageOf : ByteArray := prog_2_method_21_code
def yX0_languageOf : MethodName := ⟨RX0, "languageOf", "(J)J"⟩
abbrev cX0_quotient : ByteArray := prog_2_method_22_code
def yX0_quotient : MethodName := ⟨RX0, "quotient", "(JI)J"⟩
abbrev cX0_determine : ByteArray := prog_2_method_23_code
def yX0_determine : MethodName := ⟨RX0, "determine", "(LLanguageAtoms$Automaton;)Z"⟩
def RX1 : String := "LanguageAtoms$Automaton"
def TX1 : u_T := fun k => match k with
  | 0 => ("LanguageAtoms$Automaton", "states", "I", false)
  | 1 => ("LanguageAtoms$Automaton", "targets", "[I", true)
  | _ => ("LanguageAtoms$Automaton", "finals", "I", false)
def tyX1 : Nat → FieldType := fun k => match k with
  | 0 => .int
  | 1 => .array .int
  | _ => .int
abbrev wsX10 : List Cond := u_ws RX1 TX1 3
theorem nmX1 : ∀ a, a < 3 → ∀ b, b < 3 → a ≠ b → (TX1 a).2.1 ≠ (TX1 b).2.1 := by decide +kernel
theorem tyX1_ok : ∀ k, k < 3 → parseFieldDescriptor (TX1 k).2.2.1 = some (tyX1 k) := by decide +kernel
abbrev cX1_init : ByteArray := prog_3_method_1_code
def yX1_init : MethodName := ⟨RX1, "<init>", "()V"⟩
abbrev cX1_codeBound : ByteArray := prog_3_method_2_code
def yX1_codeBound : MethodName := ⟨RX1, "codeBound", "()I"⟩
abbrev cX1_startCode : ByteArray := prog_3_method_3_code
def yX1_startCode : MethodName := ⟨RX1, "startCode", "()I"⟩
abbrev cX1_follow : ByteArray := prog_3_method_4_code
def yX1_follow : MethodName := ⟨RX1, "follow", "(II)I"⟩
abbrev cX1_isAccepting : ByteArray := prog_3_method_5_code
def yX1_isAccepting : MethodName := ⟨RX1, "isAccepting", "(I)Z"⟩
abbrev cX1_clear : ByteArray := prog_3_method_6_code
def yX1_clear : MethodName := ⟨RX1, "clear", "(I)V"⟩
abbrev cX1_lead : ByteArray := prog_3_method_7_code
def yX1_lead : MethodName := ⟨RX1, "lead", "(III)V"⟩
abbrev cX1_mark : ByteArray := prog_3_method_8_code
def yX1_mark : MethodName := ⟨RX1, "mark", "(IZ)V"⟩
abbrev cX1_copyFrom : ByteArray := prog_3_method_9_code
def yX1_copyFrom : MethodName := ⟨RX1, "copyFrom", "(LLanguageAtoms$Automaton;)V"⟩
abbrev cX1_stateAfter : ByteArray := prog_3_method_10_code
def yX1_stateAfter : MethodName := ⟨RX1, "stateAfter", "(LLanguageAtoms$Word;)I"⟩
abbrev cX1_drawAll : ByteArray := prog_3_method_11_code
def yX1_drawAll : MethodName := ⟨RX1, "drawAll", "(I)V"⟩
abbrev cX1_nextValue : ByteArray := prog_3_method_12_code
def yX1_nextValue : MethodName := ⟨RX1, "nextValue", "(I)I"⟩
abbrev cX1_draw : ByteArray := prog_3_method_13_code
def yX1_draw : MethodName := ⟨RX1, "draw", "(II)I"⟩
abbrev cX1_becomeWitness : ByteArray := prog_3_method_14_code
def yX1_becomeWitness : MethodName := ⟨RX1, "becomeWitness", "(I)V"⟩
def RX2 : String := "LanguageAtoms$Concatenation"
def TX2 : u_T := fun k => match k with
  | 0 => ("LanguageAtoms$Concatenation", "first", "LLanguageAtoms$Automaton;", false)
  | 1 => ("LanguageAtoms$Concatenation", "secondFinals", "I", false)
  | _ => ("LanguageAtoms$Concatenation", "forward", "LLanguageAtoms$SetMap;", true)
def tyX2 : Nat → FieldType := fun k => match k with
  | 0 => .object "LanguageAtoms$Automaton"
  | 1 => .int
  | _ => .object "LanguageAtoms$SetMap"
abbrev wsX20 : List Cond := u_ws RX2 TX2 3
theorem nmX2 : ∀ a, a < 3 → ∀ b, b < 3 → a ≠ b → (TX2 a).2.1 ≠ (TX2 b).2.1 := by decide +kernel
theorem tyX2_ok : ∀ k, k < 3 → parseFieldDescriptor (TX2 k).2.2.1 = some (tyX2 k) := by decide +kernel
abbrev cX2_init : ByteArray := prog_4_method_1_code
def yX2_init : MethodName := ⟨RX2, "<init>", "()V"⟩
abbrev cX2_prepare : ByteArray := prog_4_method_2_code
def yX2_prepare : MethodName := ⟨RX2, "prepare", "(LLanguageAtoms$Automaton;LLanguageAtoms$Automaton;)V"⟩
abbrev cX2_codeBound : ByteArray := prog_4_method_3_code
def yX2_codeBound : MethodName := ⟨RX2, "codeBound", "()I"⟩
abbrev cX2_startCode : ByteArray := prog_4_method_4_code
def yX2_startCode : MethodName := ⟨RX2, "startCode", "()I"⟩
abbrev cX2_follow : ByteArray := prog_4_method_5_code
def yX2_follow : MethodName := ⟨RX2, "follow", "(II)I"⟩
abbrev cX2_isAccepting : ByteArray := prog_4_method_6_code
def yX2_isAccepting : MethodName := ⟨RX2, "isAccepting", "(I)Z"⟩
abbrev cX2_enter : ByteArray := prog_4_method_7_code
def yX2_enter : MethodName := ⟨RX2, "enter", "(II)I"⟩
def RX3 : String := "LanguageAtoms$KeyTable"
def TX3 : u_T := fun k => match k with
  | 0 => ("LanguageAtoms$KeyTable", "count", "I", false)
  | 1 => ("LanguageAtoms$KeyTable", "keys", "[J", true)
  | 2 => ("LanguageAtoms$KeyTable", "slots", "[I", true)
  | _ => ("LanguageAtoms$KeyTable", "slotMask", "I", false)
def tyX3 : Nat → FieldType := fun k => match k with
  | 0 => .int
  | 1 => .array .long
  | 2 => .array .int
  | _ => .int
abbrev wsX30 : List Cond := u_ws RX3 TX3 4
theorem nmX3 : ∀ a, a < 4 → ∀ b, b < 4 → a ≠ b → (TX3 a).2.1 ≠ (TX3 b).2.1 := by decide +kernel
theorem tyX3_ok : ∀ k, k < 4 → parseFieldDescriptor (TX3 k).2.2.1 = some (tyX3 k) := by decide +kernel
abbrev cX3_init : ByteArray := prog_5_method_1_code
def yX3_init : MethodName := ⟨RX3, "<init>", "()V"⟩
abbrev cX3_begin : ByteArray := prog_5_method_2_code
def yX3_begin : MethodName := ⟨RX3, "begin", "(I)V"⟩
abbrev cX3_place : ByteArray := prog_5_method_3_code
def yX3_place : MethodName := ⟨RX3, "place", "(J)I"⟩
abbrev cX3_insert : ByteArray := prog_5_method_4_code
def yX3_insert : MethodName := ⟨RX3, "insert", "(IJ)I"⟩
def RX4 : String := "LanguageAtoms$Machine"
def TX4 : u_T := fun k => match k with
  | _ => ("", "", "", false)
def tyX4 : Nat → FieldType := fun k => match k with
  | _ => .int
abbrev wsX40 : List Cond := u_ws RX4 TX4 0
theorem nmX4 : ∀ a, a < 0 → ∀ b, b < 0 → a ≠ b → (TX4 a).2.1 ≠ (TX4 b).2.1 := by decide +kernel
theorem tyX4_ok : ∀ k, k < 0 → parseFieldDescriptor (TX4 k).2.2.1 = some (tyX4 k) := by decide +kernel
abbrev cX4_init : ByteArray := prog_6_method_1_code
def yX4_init : MethodName := ⟨RX4, "<init>", "()V"⟩
def RX5 : String := "LanguageAtoms$Minimizer"
def TX5 : u_T := fun k => match k with
  | 0 => ("LanguageAtoms$Minimizer", "keys", "LLanguageAtoms$KeyTable;", true)
  | 1 => ("LanguageAtoms$Minimizer", "count", "I", false)
  | 2 => ("LanguageAtoms$Minimizer", "codes", "[I", true)
  | 3 => ("LanguageAtoms$Minimizer", "numbers", "[I", true)
  | 4 => ("LanguageAtoms$Minimizer", "nexts", "[I", true)
  | 5 => ("LanguageAtoms$Minimizer", "origins", "[I", true)
  | 6 => ("LanguageAtoms$Minimizer", "accepting", "[Z", true)
  | 7 => ("LanguageAtoms$Minimizer", "kindCount", "I", false)
  | 8 => ("LanguageAtoms$Minimizer", "kinds", "[I", false)
  | _ => ("LanguageAtoms$Minimizer", "newKinds", "[I", false)
def tyX5 : Nat → FieldType := fun k => match k with
  | 0 => .object "LanguageAtoms$KeyTable"
  | 1 => .int
  | 2 => .array .int
  | 3 => .array .int
  | 4 => .array .int
  | 5 => .array .int
  | 6 => .array .boolean
  | 7 => .int
  | 8 => .array .int
  | _ => .array .int
abbrev wsX50 : List Cond := u_ws RX5 TX5 10
theorem nmX5 : ∀ a, a < 10 → ∀ b, b < 10 → a ≠ b → (TX5 a).2.1 ≠ (TX5 b).2.1 := by decide +kernel
theorem tyX5_ok : ∀ k, k < 10 → parseFieldDescriptor (TX5 k).2.2.1 = some (tyX5 k) := by decide +kernel
abbrev cX5_init : ByteArray := prog_7_method_1_code
def yX5_init : MethodName := ⟨RX5, "<init>", "(LLanguageAtoms$KeyTable;)V"⟩
abbrev cX5_run : ByteArray := prog_7_method_2_code
def yX5_run : MethodName := ⟨RX5, "run", "(LLanguageAtoms$Machine;)I"⟩
abbrev cX5_explore : ByteArray := prog_7_method_3_code
def yX5_explore : MethodName := ⟨RX5, "explore", "(LLanguageAtoms$Machine;)V"⟩
abbrev cX5_numberOf : ByteArray := prog_7_method_4_code
def yX5_numberOf : MethodName := ⟨RX5, "numberOf", "(II)I"⟩
abbrev cX5_splitByAcceptance : ByteArray := prog_7_method_5_code
def yX5_splitByAcceptance : MethodName := ⟨RX5, "splitByAcceptance", "()V"⟩
abbrev cX5_splitByTargets : ByteArray := prog_7_method_6_code
def yX5_splitByTargets : MethodName := ⟨RX5, "splitByTargets", "()Z"⟩
abbrev cX5_storeIn : ByteArray := prog_7_method_7_code
def yX5_storeIn : MethodName := ⟨RX5, "storeIn", "(LLanguageAtoms$Automaton;)V"⟩
abbrev cX5_firstAccepting : ByteArray := prog_7_method_8_code
def yX5_firstAccepting : MethodName := ⟨RX5, "firstAccepting", "()I"⟩
abbrev cX5_firstWordLength : ByteArray := prog_7_method_9_code
def yX5_firstWordLength : MethodName := ⟨RX5, "firstWordLength", "(I)I"⟩
abbrev cX5_writeFirstWord : ByteArray := prog_7_method_10_code
def yX5_writeFirstWord : MethodName := ⟨RX5, "writeFirstWord", "(ILLanguageAtoms$Word;)V"⟩
def RX6 : String := "LanguageAtoms$Product"
def TX6 : u_T := fun k => match k with
  | 0 => ("LanguageAtoms$Product", "operation", "I", false)
  | 1 => ("LanguageAtoms$Product", "first", "LLanguageAtoms$Automaton;", false)
  | _ => ("LanguageAtoms$Product", "second", "LLanguageAtoms$Automaton;", false)
def tyX6 : Nat → FieldType := fun k => match k with
  | 0 => .int
  | 1 => .object "LanguageAtoms$Automaton"
  | _ => .object "LanguageAtoms$Automaton"
abbrev wsX60 : List Cond := u_ws RX6 TX6 3
theorem nmX6 : ∀ a, a < 3 → ∀ b, b < 3 → a ≠ b → (TX6 a).2.1 ≠ (TX6 b).2.1 := by decide +kernel
theorem tyX6_ok : ∀ k, k < 3 → parseFieldDescriptor (TX6 k).2.2.1 = some (tyX6 k) := by decide +kernel
abbrev cX6_init : ByteArray := prog_8_method_1_code
def yX6_init : MethodName := ⟨RX6, "<init>", "()V"⟩
abbrev cX6_prepare : ByteArray := prog_8_method_2_code
def yX6_prepare : MethodName := ⟨RX6, "prepare", "(ILLanguageAtoms$Automaton;LLanguageAtoms$Automaton;)V"⟩
abbrev cX6_codeBound : ByteArray := prog_8_method_3_code
def yX6_codeBound : MethodName := ⟨RX6, "codeBound", "()I"⟩
abbrev cX6_startCode : ByteArray := prog_8_method_4_code
def yX6_startCode : MethodName := ⟨RX6, "startCode", "()I"⟩
abbrev cX6_follow : ByteArray := prog_8_method_5_code
def yX6_follow : MethodName := ⟨RX6, "follow", "(II)I"⟩
abbrev cX6_isAccepting : ByteArray := prog_8_method_6_code
def yX6_isAccepting : MethodName := ⟨RX6, "isAccepting", "(I)Z"⟩
def RX7 : String := "LanguageAtoms$Row"
def TX7 : u_T := fun k => match k with
  | 0 => ("LanguageAtoms$Row", "single", "Z", false)
  | 1 => ("LanguageAtoms$Row", "length", "I", false)
  | 2 => ("LanguageAtoms$Row", "floats", "[F", true)
  | 3 => ("LanguageAtoms$Row", "doubles", "[D", true)
  | 4 => ("LanguageAtoms$Row", "ways", "[J", false)
  | _ => ("LanguageAtoms$Row", "longerWays", "[J", false)
def tyX7 : Nat → FieldType := fun k => match k with
  | 0 => .boolean
  | 1 => .int
  | 2 => .array .float
  | 3 => .array .double
  | 4 => .array .long
  | _ => .array .long
abbrev wsX70 : List Cond := u_ws RX7 TX7 6
theorem nmX7 : ∀ a, a < 6 → ∀ b, b < 6 → a ≠ b → (TX7 a).2.1 ≠ (TX7 b).2.1 := by decide +kernel
theorem tyX7_ok : ∀ k, k < 6 → parseFieldDescriptor (TX7 k).2.2.1 = some (tyX7 k) := by decide +kernel
abbrev cX7_init : ByteArray := prog_9_method_1_code
def yX7_init : MethodName := ⟨RX7, "<init>", "()V"⟩
abbrev cX7_fill : ByteArray := prog_9_method_2_code
def yX7_fill : MethodName := ⟨RX7, "fill", "(LLanguageAtoms$Automaton;IZ)V"⟩
abbrev cX7_add : ByteArray := prog_9_method_3_code
def yX7_add : MethodName := ⟨RX7, "add", "(D)V"⟩
abbrev cX7_lengthen : ByteArray := prog_9_method_4_code
def yX7_lengthen : MethodName := ⟨RX7, "lengthen", "(LLanguageAtoms$Automaton;)V"⟩
abbrev cX7_isZero : ByteArray := prog_9_method_5_code
def yX7_isZero : MethodName := ⟨RX7, "isZero", "(I)Z"⟩
abbrev cX7_rest : ByteArray := prog_9_method_6_code
def yX7_rest : MethodName := ⟨RX7, "rest", "(II)D"⟩
abbrev cX7_doubleRest : ByteArray := prog_9_method_7_code
def yX7_doubleRest : MethodName := ⟨RX7, "doubleRest", "(DD)D"⟩
abbrev cX7_floatRest : ByteArray := prog_9_method_8_code
def yX7_floatRest : MethodName := ⟨RX7, "floatRest", "(FF)F"⟩
def RX8 : String := "LanguageAtoms$SetMap"
def TX8 : u_T := fun k => match k with
  | _ => ("LanguageAtoms$SetMap", "values", "[I", true)
def tyX8 : Nat → FieldType := fun k => match k with
  | _ => .array .int
abbrev wsX80 : List Cond := u_ws RX8 TX8 1
theorem nmX8 : ∀ a, a < 1 → ∀ b, b < 1 → a ≠ b → (TX8 a).2.1 ≠ (TX8 b).2.1 := by decide +kernel
theorem tyX8_ok : ∀ k, k < 1 → parseFieldDescriptor (TX8 k).2.2.1 = some (tyX8 k) := by decide +kernel
abbrev cX8_init : ByteArray := prog_10_method_1_code
def yX8_init : MethodName := ⟨RX8, "<init>", "()V"⟩
abbrev cX8_of : ByteArray := prog_10_method_2_code
def yX8_of : MethodName := ⟨RX8, "of", "(II)I"⟩
abbrev cX8_fillForward : ByteArray := prog_10_method_3_code
def yX8_fillForward : MethodName := ⟨RX8, "fillForward", "(LLanguageAtoms$Automaton;)V"⟩
abbrev cX8_fillBackward : ByteArray := prog_10_method_4_code
def yX8_fillBackward : MethodName := ⟨RX8, "fillBackward", "(LLanguageAtoms$Automaton;)V"⟩
abbrev cX8_joinSingles : ByteArray := prog_10_method_5_code
def yX8_joinSingles : MethodName := ⟨RX8, "joinSingles", "(II)V"⟩
def RX9 : String := "LanguageAtoms$StarMachine"
def TX9 : u_T := fun k => match k with
  | 0 => ("LanguageAtoms$StarMachine", "finals", "I", false)
  | _ => ("LanguageAtoms$StarMachine", "forward", "LLanguageAtoms$SetMap;", true)
def tyX9 : Nat → FieldType := fun k => match k with
  | 0 => .int
  | _ => .object "LanguageAtoms$SetMap"
abbrev wsX90 : List Cond := u_ws RX9 TX9 2
theorem nmX9 : ∀ a, a < 2 → ∀ b, b < 2 → a ≠ b → (TX9 a).2.1 ≠ (TX9 b).2.1 := by decide +kernel
theorem tyX9_ok : ∀ k, k < 2 → parseFieldDescriptor (TX9 k).2.2.1 = some (tyX9 k) := by decide +kernel
abbrev cX9_init : ByteArray := prog_11_method_1_code
def yX9_init : MethodName := ⟨RX9, "<init>", "()V"⟩
abbrev cX9_prepare : ByteArray := prog_11_method_2_code
def yX9_prepare : MethodName := ⟨RX9, "prepare", "(LLanguageAtoms$Automaton;)V"⟩
abbrev cX9_codeBound : ByteArray := prog_11_method_3_code
def yX9_codeBound : MethodName := ⟨RX9, "codeBound", "()I"⟩
abbrev cX9_startCode : ByteArray := prog_11_method_4_code
def yX9_startCode : MethodName := ⟨RX9, "startCode", "()I"⟩
abbrev cX9_follow : ByteArray := prog_11_method_5_code
def yX9_follow : MethodName := ⟨RX9, "follow", "(II)I"⟩
abbrev cX9_isAccepting : ByteArray := prog_11_method_6_code
def yX9_isAccepting : MethodName := ⟨RX9, "isAccepting", "(I)Z"⟩
def RX10 : String := "LanguageAtoms$Word"
def TX10 : u_T := fun k => match k with
  | 0 => ("LanguageAtoms$Word", "length", "I", false)
  | _ => ("LanguageAtoms$Word", "letters", "[I", true)
def tyX10 : Nat → FieldType := fun k => match k with
  | 0 => .int
  | _ => .array .int
abbrev wsX100 : List Cond := u_ws RX10 TX10 2
theorem nmX10 : ∀ a, a < 2 → ∀ b, b < 2 → a ≠ b → (TX10 a).2.1 ≠ (TX10 b).2.1 := by decide +kernel
theorem tyX10_ok : ∀ k, k < 2 → parseFieldDescriptor (TX10 k).2.2.1 = some (tyX10 k) := by decide +kernel
abbrev cX10_init : ByteArray := prog_12_method_1_code
def yX10_init : MethodName := ⟨RX10, "<init>", "()V"⟩
abbrev cX10_add : ByteArray := prog_12_method_2_code
def yX10_add : MethodName := ⟨RX10, "add", "(I)V"⟩
abbrev cX10_copyFrom : ByteArray := prog_12_method_3_code
def yX10_copyFrom : MethodName := ⟨RX10, "copyFrom", "(LLanguageAtoms$Word;)V"⟩
def RX11 : String := "LanguageAtoms"
def TX11 : u_T := fun k => match k with
  | 0 => ("LanguageAtoms", "registers", "[LLanguageAtoms$Automaton;", true)
  | 1 => ("LanguageAtoms", "savedRegisters", "[LLanguageAtoms$Automaton;", true)
  | 2 => ("LanguageAtoms", "word", "LLanguageAtoms$Word;", true)
  | 3 => ("LanguageAtoms", "savedWord", "LLanguageAtoms$Word;", true)
  | 4 => ("LanguageAtoms", "saved", "Z", false)
  | 5 => ("LanguageAtoms", "rows", "[LLanguageAtoms$Row;", true)
  | 6 => ("LanguageAtoms", "minimizer", "LLanguageAtoms$Minimizer;", true)
  | 7 => ("LanguageAtoms", "product", "LLanguageAtoms$Product;", true)
  | 8 => ("LanguageAtoms", "concatenation", "LLanguageAtoms$Concatenation;", true)
  | 9 => ("LanguageAtoms", "starMachine", "LLanguageAtoms$StarMachine;", true)
  | 10 => ("LanguageAtoms", "atoms", "LLanguageAtoms$Atoms;", true)
  | 11 => ("LanguageAtoms", "draft", "LLanguageAtoms$Automaton;", true)
  | _ => ("LanguageAtoms", "scratchRow", "LLanguageAtoms$Row;", true)
def tyX11 : Nat → FieldType := fun k => match k with
  | 0 => .array (.object "LanguageAtoms$Automaton")
  | 1 => .array (.object "LanguageAtoms$Automaton")
  | 2 => .object "LanguageAtoms$Word"
  | 3 => .object "LanguageAtoms$Word"
  | 4 => .boolean
  | 5 => .array (.object "LanguageAtoms$Row")
  | 6 => .object "LanguageAtoms$Minimizer"
  | 7 => .object "LanguageAtoms$Product"
  | 8 => .object "LanguageAtoms$Concatenation"
  | 9 => .object "LanguageAtoms$StarMachine"
  | 10 => .object "LanguageAtoms$Atoms"
  | 11 => .object "LanguageAtoms$Automaton"
  | _ => .object "LanguageAtoms$Row"
abbrev wsX110 : List Cond := u_ws RX11 TX11 13
theorem nmX11 : ∀ a, a < 13 → ∀ b, b < 13 → a ≠ b → (TX11 a).2.1 ≠ (TX11 b).2.1 := by decide +kernel
theorem tyX11_ok : ∀ k, k < 13 → parseFieldDescriptor (TX11 k).2.2.1 = some (tyX11 k) := by decide +kernel
abbrev cX11_init : ByteArray := prog_1_method_1_code
def yX11_init : MethodName := ⟨RX11, "<init>", "()V"⟩
abbrev cX11_reset : ByteArray := prog_1_method_2_code
def yX11_reset : MethodName := ⟨RX11, "reset", "(II)V"⟩
abbrev cX11_setTarget : ByteArray := prog_1_method_3_code
def yX11_setTarget : MethodName := ⟨RX11, "setTarget", "(IIII)V"⟩
abbrev cX11_setFinal : ByteArray := prog_1_method_4_code
def yX11_setFinal : MethodName := ⟨RX11, "setFinal", "(IIZ)Z"⟩
abbrev cX11_stateCount : ByteArray := prog_1_method_5_code
def yX11_stateCount : MethodName := ⟨RX11, "stateCount", "(I)I"⟩
abbrev cX11_target : ByteArray := prog_1_method_6_code
def yX11_target : MethodName := ⟨RX11, "target", "(III)I"⟩
abbrev cX11_isFinal : ByteArray := prog_1_method_7_code
def yX11_isFinal : MethodName := ⟨RX11, "isFinal", "(II)Z"⟩
abbrev cX11_randomize : ByteArray := prog_1_method_8_code
def yX11_randomize : MethodName := ⟨RX11, "randomize", "(II)V"⟩
abbrev cX11_makeWitness : ByteArray := prog_1_method_9_code
def yX11_makeWitness : MethodName := ⟨RX11, "makeWitness", "(II)V"⟩
abbrev cX11_appendLetter : ByteArray := prog_1_method_10_code
def yX11_appendLetter : MethodName := ⟨RX11, "appendLetter", "(I)I"⟩
abbrev cX11_clearWord : ByteArray := prog_1_method_11_code
def yX11_clearWord : MethodName := ⟨RX11, "clearWord", "()I"⟩
abbrev cX11_wordLetter : ByteArray := prog_1_method_12_code
def yX11_wordLetter : MethodName := ⟨RX11, "wordLetter", "(I)I"⟩
abbrev cX11_accepts : ByteArray := prog_1_method_13_code
def yX11_accepts : MethodName := ⟨RX11, "accepts", "(I)Z"⟩
abbrev cX11_size : ByteArray := prog_1_method_14_code
def yX11_size : MethodName := ⟨RX11, "size", "(I)I"⟩
abbrev cX11_minimize : ByteArray := prog_1_method_15_code
def yX11_minimize : MethodName := ⟨RX11, "minimize", "(I)I"⟩
abbrev cX11_quotientOfWord : ByteArray := prog_1_method_16_code
def yX11_quotientOfWord : MethodName := ⟨RX11, "quotientOfWord", "(I)I"⟩
abbrev cX11_atomCount : ByteArray := prog_1_method_17_code
def yX11_atomCount : MethodName := ⟨RX11, "atomCount", "(I)I"⟩
abbrev cX11_atomSet : ByteArray := prog_1_method_18_code
def yX11_atomSet : MethodName := ⟨RX11, "atomSet", "(II)I"⟩
abbrev cX11_atomOfWord : ByteArray := prog_1_method_19_code
def yX11_atomOfWord : MethodName := ⟨RX11, "atomOfWord", "(I)I"⟩
abbrev cX11_atomTargets : ByteArray := prog_1_method_20_code
def yX11_atomTargets : MethodName := ⟨RX11, "atomTargets", "(III)J"⟩
abbrev cX11_initialAtoms : ByteArray := prog_1_method_21_code
def yX11_initialAtoms : MethodName := ⟨RX11, "initialAtoms", "(I)J"⟩
abbrev cX11_finalAtom : ByteArray := prog_1_method_22_code
def yX11_finalAtom : MethodName := ⟨RX11, "finalAtom", "(I)I"⟩
abbrev cX11_takeAtomWord : ByteArray := prog_1_method_23_code
def yX11_takeAtomWord : MethodName := ⟨RX11, "takeAtomWord", "(II)I"⟩
abbrev cX11_atomSize : ByteArray := prog_1_method_24_code
def yX11_atomSize : MethodName := ⟨RX11, "atomSize", "(II)I"⟩
abbrev cX11_resultSize : ByteArray := prog_1_method_25_code
def yX11_resultSize : MethodName := ⟨RX11, "resultSize", "(III)I"⟩
abbrev cX11_starSize : ByteArray := prog_1_method_26_code
def yX11_starSize : MethodName := ⟨RX11, "starSize", "(I)I"⟩
abbrev cX11_combine : ByteArray := prog_1_method_27_code
def yX11_combine : MethodName := ⟨RX11, "combine", "(IIII)I"⟩
abbrev cX11_star : ByteArray := prog_1_method_28_code
def yX11_star : MethodName := ⟨RX11, "star", "(II)I"⟩
abbrev cX11_reverse : ByteArray := prog_1_method_29_code
def yX11_reverse : MethodName := ⟨RX11, "reverse", "(II)I"⟩
abbrev cX11_uniteAtoms : ByteArray := prog_1_method_30_code
def yX11_uniteAtoms : MethodName := ⟨RX11, "uniteAtoms", "(IJI)I"⟩
abbrev cX11_isUnionOfAtoms : ByteArray := prog_1_method_31_code
def yX11_isUnionOfAtoms : MethodName := ⟨RX11, "isUnionOfAtoms", "(II)Z"⟩
abbrev cX11_takeDifference : ByteArray := prog_1_method_32_code
def yX11_takeDifference : MethodName := ⟨RX11, "takeDifference", "(II)I"⟩
abbrev cX11_share : ByteArray := prog_1_method_33_code
def yX11_share : MethodName := ⟨RX11, "share", "(II)D"⟩
abbrev cX11_keepShares : ByteArray := prog_1_method_34_code
def yX11_keepShares : MethodName := ⟨RX11, "keepShares", "(IIIZ)V"⟩
abbrev cX11_remainder : ByteArray := prog_1_method_35_code
def yX11_remainder : MethodName := ⟨RX11, "remainder", "(III)D"⟩
abbrev cX11_save : ByteArray := prog_1_method_36_code
def yX11_save : MethodName := ⟨RX11, "save", "()V"⟩
abbrev cX11_restore : ByteArray := prog_1_method_37_code
def yX11_restore : MethodName := ⟨RX11, "restore", "()V"⟩
abbrev cX11_checkIndex : ByteArray := prog_1_method_38_code
def yX11_checkIndex : MethodName := ⟨RX11, "checkIndex", "(II)V"⟩
abbrev cX11_checkRegister : ByteArray := prog_1_method_39_code
def yX11_checkRegister : MethodName := ⟨RX11, "checkRegister", "(I)V"⟩
abbrev cX11_checkLetter : ByteArray := prog_1_method_40_code
def yX11_checkLetter : MethodName := ⟨RX11, "checkLetter", "(I)V"⟩
abbrev cX11_checkState : ByteArray := prog_1_method_41_code
def yX11_checkState : MethodName := ⟨RX11, "checkState", "(II)V"⟩
abbrev cX11_checkStates : ByteArray := prog_1_method_42_code
def yX11_checkStates : MethodName := ⟨RX11, "checkStates", "(I)V"⟩
abbrev cX11_checkOperation : ByteArray := prog_1_method_43_code
def yX11_checkOperation : MethodName := ⟨RX11, "checkOperation", "(I)V"⟩
abbrev cX11_checkLength : ByteArray := prog_1_method_44_code
def yX11_checkLength : MethodName := ⟨RX11, "checkLength", "(I)V"⟩
abbrev cX11_checkAtoms : ByteArray := prog_1_method_45_code
def yX11_checkAtoms : MethodName := ⟨RX11, "checkAtoms", "(J)V"⟩
abbrev cX11_checkWordLength : ByteArray := prog_1_method_46_code
def yX11_checkWordLength : MethodName := ⟨RX11, "checkWordLength", "(I)V"⟩
abbrev cX11_checkResult : ByteArray := prog_1_method_47_code
def yX11_checkResult : MethodName := ⟨RX11, "checkResult", "(I)V"⟩
abbrev cX11_findAtoms : ByteArray := prog_1_method_48_code
def yX11_findAtoms : MethodName := ⟨RX11, "findAtoms", "(I)V"⟩
abbrev cX11_operate : ByteArray := prog_1_method_49_code
def yX11_operate : MethodName := ⟨RX11, "operate", "(III)I"⟩
def RX12 : String := "LanguageAtomsModel"
def TX12 : u_T := fun k => match k with
  | 0 => ("LanguageAtomsModel", "thrown", "I", false)
  | 1 => ("LanguageAtomsModel", "states", "[I", true)
  | 2 => ("LanguageAtomsModel", "targets", "[I", true)
  | 3 => ("LanguageAtomsModel", "finals", "[Z", true)
  | 4 => ("LanguageAtomsModel", "wordSize", "I", false)
  | 5 => ("LanguageAtomsModel", "word", "[I", true)
  | 6 => ("LanguageAtomsModel", "rowKind", "[I", true)
  | 7 => ("LanguageAtomsModel", "rowSize", "[I", true)
  | 8 => ("LanguageAtomsModel", "singles", "[F", true)
  | 9 => ("LanguageAtomsModel", "doubles", "[D", true)
  | 10 => ("LanguageAtomsModel", "hasSaved", "Z", false)
  | 11 => ("LanguageAtomsModel", "savedStates", "[I", true)
  | 12 => ("LanguageAtomsModel", "savedTargets", "[I", true)
  | 13 => ("LanguageAtomsModel", "savedFinals", "[Z", true)
  | 14 => ("LanguageAtomsModel", "savedWordSize", "I", false)
  | 15 => ("LanguageAtomsModel", "savedWord", "[I", true)
  | 16 => ("LanguageAtomsModel", "x", "I", false)
  | 17 => ("LanguageAtomsModel", "nodes", "I", false)
  | 18 => ("LanguageAtomsModel", "key", "[J", true)
  | 19 => ("LanguageAtomsModel", "next", "[I", true)
  | 20 => ("LanguageAtomsModel", "ends", "[Z", true)
  | 21 => ("LanguageAtomsModel", "how", "I", false)
  | 22 => ("LanguageAtomsModel", "one", "I", false)
  | 23 => ("LanguageAtomsModel", "two", "I", false)
  | 24 => ("LanguageAtomsModel", "asked", "J", false)
  | 25 => ("LanguageAtomsModel", "fromNode", "[I", true)
  | 26 => ("LanguageAtomsModel", "fromLetter", "[I", true)
  | 27 => ("LanguageAtomsModel", "kind", "[I", true)
  | 28 => ("LanguageAtomsModel", "finer", "[I", true)
  | 29 => ("LanguageAtomsModel", "classes", "I", false)
  | 30 => ("LanguageAtomsModel", "quotients", "I", false)
  | 31 => ("LanguageAtomsModel", "quotientState", "[I", true)
  | 32 => ("LanguageAtomsModel", "atomSets", "[I", true)
  | 33 => ("LanguageAtomsModel", "atoms", "I", false)
  | 34 => ("LanguageAtomsModel", "isSet", "[Z", true)
  | 35 => ("LanguageAtomsModel", "atomNext", "[J", true)
  | 36 => ("LanguageAtomsModel", "lastAtom", "I", false)
  | 37 => ("LanguageAtomsModel", "classOf", "[I", true)
  | 38 => ("LanguageAtomsModel", "met", "[Z", true)
  | 39 => ("LanguageAtomsModel", "pairs", "[I", true)
  | 40 => ("LanguageAtomsModel", "pairMany", "I", false)
  | 41 => ("LanguageAtomsModel", "counts", "[J", true)
  | _ => ("LanguageAtomsModel", "more", "[J", true)
def tyX12 : Nat → FieldType := fun k => match k with
  | 0 => .int
  | 1 => .array .int
  | 2 => .array .int
  | 3 => .array .boolean
  | 4 => .int
  | 5 => .array .int
  | 6 => .array .int
  | 7 => .array .int
  | 8 => .array .float
  | 9 => .array .double
  | 10 => .boolean
  | 11 => .array .int
  | 12 => .array .int
  | 13 => .array .boolean
  | 14 => .int
  | 15 => .array .int
  | 16 => .int
  | 17 => .int
  | 18 => .array .long
  | 19 => .array .int
  | 20 => .array .boolean
  | 21 => .int
  | 22 => .int
  | 23 => .int
  | 24 => .long
  | 25 => .array .int
  | 26 => .array .int
  | 27 => .array .int
  | 28 => .array .int
  | 29 => .int
  | 30 => .int
  | 31 => .array .int
  | 32 => .array .int
  | 33 => .int
  | 34 => .array .boolean
  | 35 => .array .long
  | 36 => .int
  | 37 => .array .int
  | 38 => .array .boolean
  | 39 => .array .int
  | 40 => .int
  | 41 => .array .long
  | _ => .array .long
abbrev wsX120 : List Cond := u_ws RX12 TX12 43
theorem nmX12 : ∀ a, a < 43 → ∀ b, b < 43 → a ≠ b → (TX12 a).2.1 ≠ (TX12 b).2.1 := by decide +kernel
theorem tyX12_ok : ∀ k, k < 43 → parseFieldDescriptor (TX12 k).2.2.1 = some (tyX12 k) := by decide +kernel
abbrev cX12_init : ByteArray := prog_14_method_1_code
def yX12_init : MethodName := ⟨RX12, "<init>", "()V"⟩
abbrev cX12_thrown : ByteArray := prog_14_method_2_code
def yX12_thrown : MethodName := ⟨RX12, "thrown", "()I"⟩
abbrev cX12_in : ByteArray := prog_14_method_3_code
def yX12_in : MethodName := ⟨RX12, "in", "(III)Z"⟩
abbrev cX12_fails : ByteArray := prog_14_method_4_code
def yX12_fails : MethodName := ⟨RX12, "fails", "(I)I"⟩
abbrev cX12_done : ByteArray := prog_14_method_5_code
def yX12_done : MethodName := ⟨RX12, "done", "(I)I"⟩
abbrev cX12_so : ByteArray := prog_14_method_6_code
def yX12_so : MethodName := ⟨RX12, "so", "(Z)Z"⟩
abbrev cX12_not : ByteArray := prog_14_method_7_code
def yX12_not : MethodName := ⟨RX12, "not", "(I)Z"⟩
abbrev cX12_isRegister : ByteArray := prog_14_method_8_code
def yX12_isRegister : MethodName := ⟨RX12, "isRegister", "(I)Z"⟩
abbrev cX12_isState : ByteArray := prog_14_method_9_code
def yX12_isState : MethodName := ⟨RX12, "isState", "(II)Z"⟩
abbrev cX12_isLetter : ByteArray := prog_14_method_10_code
def yX12_isLetter : MethodName := ⟨RX12, "isLetter", "(I)Z"⟩
abbrev cX12_place : ByteArray := prog_14_method_11_code
def yX12_place : MethodName := ⟨RX12, "place", "(III)I"⟩
abbrev cX12_clears : ByteArray := prog_14_method_12_code
def yX12_clears : MethodName := ⟨RX12, "clears", "(II)V"⟩
abbrev cX12_reset : ByteArray := prog_14_method_13_code
def yX12_reset : MethodName := ⟨RX12, "reset", "(II)V"⟩
abbrev cX12_setTarget : ByteArray := prog_14_method_14_code
def yX12_setTarget : MethodName := ⟨RX12, "setTarget", "(IIII)V"⟩
abbrev cX12_setFinal : ByteArray := prog_14_method_15_code
def yX12_setFinal : MethodName := ⟨RX12, "setFinal", "(IIZ)Z"⟩
abbrev cX12_stateCount : ByteArray := prog_14_method_16_code
def yX12_stateCount : MethodName := ⟨RX12, "stateCount", "(I)I"⟩
abbrev cX12_target : ByteArray := prog_14_method_17_code
def yX12_target : MethodName := ⟨RX12, "target", "(III)I"⟩
abbrev cX12_isFinal : ByteArray := prog_14_method_18_code
def yX12_isFinal : MethodName := ⟨RX12, "isFinal", "(II)Z"⟩
abbrev cX12_draw : ByteArray := prog_14_method_19_code
def yX12_draw : MethodName := ⟨RX12, "draw", "(I)I"⟩
abbrev cX12_randomize : ByteArray := prog_14_method_20_code
def yX12_randomize : MethodName := ⟨RX12, "randomize", "(II)V"⟩
abbrev cX12_makeWitness : ByteArray := prog_14_method_21_code
def yX12_makeWitness : MethodName := ⟨RX12, "makeWitness", "(II)V"⟩
abbrev cX12_appendLetter : ByteArray := prog_14_method_22_code
def yX12_appendLetter : MethodName := ⟨RX12, "appendLetter", "(I)I"⟩
abbrev cX12_clearWord : ByteArray := prog_14_method_23_code
def yX12_clearWord : MethodName := ⟨RX12, "clearWord", "()I"⟩
abbrev cX12_wordLetter : ByteArray := prog_14_method_24_code
def yX12_wordLetter : MethodName := ⟨RX12, "wordLetter", "(I)I"⟩
abbrev cX12_stateBy : ByteArray := prog_14_method_25_code
def yX12_stateBy : MethodName := ⟨RX12, "stateBy", "(II)I"⟩
abbrev cX12_accepts : ByteArray := prog_14_method_26_code
def yX12_accepts : MethodName := ⟨RX12, "accepts", "(I)Z"⟩
abbrev cX12_nodeOf : ByteArray := prog_14_method_27_code
def yX12_nodeOf : MethodName := ⟨RX12, "nodeOf", "(J)I"⟩
abbrev cX12_firstKey : ByteArray := prog_14_method_28_code
def yX12_firstKey : MethodName := ⟨RX12, "firstKey", "()J"⟩
abbrev cX12_finalStates : ByteArray := prog_14_method_29_code
def yX12_finalStates : MethodName := ⟨RX12, "finalStates", "()J"⟩
abbrev cX12_concatenated : ByteArray := prog_14_method_30_code
def yX12_concatenated : MethodName := ⟨RX12, "concatenated", "(IJ)J"⟩
abbrev cX12_led : ByteArray := prog_14_method_31_code
def yX12_led : MethodName := ⟨RX12, "led", "(LLanguageAtomsModel;IJI)J"⟩
abbrev cX12_keyAfter : ByteArray := prog_14_method_32_code
def yX12_keyAfter : MethodName := ⟨RX12, "keyAfter", "(JI)J"⟩
abbrev cX12_starAfter : ByteArray := prog_14_method_33_code
def yX12_starAfter : MethodName := ⟨RX12, "starAfter", "(JI)J"⟩
abbrev cX12_ledBack : ByteArray := prog_14_method_34_code
def yX12_ledBack : MethodName := ⟨RX12, "ledBack", "(JI)J"⟩
abbrev cX12_atomsAfter : ByteArray := prog_14_method_35_code
def yX12_atomsAfter : MethodName := ⟨RX12, "atomsAfter", "(JI)J"⟩
abbrev cX12_isEnd : ByteArray := prog_14_method_36_code
def yX12_isEnd : MethodName := ⟨RX12, "isEnd", "(J)Z"⟩
abbrev cX12_hasFinal : ByteArray := prog_14_method_37_code
def yX12_hasFinal : MethodName := ⟨RX12, "hasFinal", "(IJ)Z"⟩
abbrev cX12_makes : ByteArray := prog_14_method_38_code
def yX12_makes : MethodName := ⟨RX12, "makes", "(III)V"⟩
abbrev cX12_isAlike : ByteArray := prog_14_method_39_code
def yX12_isAlike : MethodName := ⟨RX12, "isAlike", "(II)Z"⟩
abbrev cX12_parts : ByteArray := prog_14_method_40_code
def yX12_parts : MethodName := ⟨RX12, "parts", "()V"⟩
abbrev cX12_nodeOfClass : ByteArray := prog_14_method_41_code
def yX12_nodeOfClass : MethodName := ⟨RX12, "nodeOfClass", "(I)I"⟩
abbrev cX12_stores : ByteArray := prog_14_method_42_code
def yX12_stores : MethodName := ⟨RX12, "stores", "(I)I"⟩
abbrev cX12_size : ByteArray := prog_14_method_43_code
def yX12_size : MethodName := ⟨RX12, "size", "(I)I"⟩
abbrev cX12_minimize : ByteArray := prog_14_method_44_code
def yX12_minimize : MethodName := ⟨RX12, "minimize", "(I)I"⟩
abbrev cX12_quotientOfWord : ByteArray := prog_14_method_45_code
def yX12_quotientOfWord : MethodName := ⟨RX12, "quotientOfWord", "(I)I"⟩
abbrev cX12_tellAtoms : ByteArray := prog_14_method_46_code
def yX12_tellAtoms : MethodName := ⟨RX12, "tellAtoms", "(I)V"⟩
abbrev cX12_ofStates : ByteArray := prog_14_method_47_code
def yX12_ofStates : MethodName := ⟨RX12, "ofStates", "(J)I"⟩
abbrev cX12_numberOf : ByteArray := prog_14_method_48_code
def yX12_numberOf : MethodName := ⟨RX12, "numberOf", "(I)I"⟩
abbrev cX12_isAtom : ByteArray := prog_14_method_49_code
def yX12_isAtom : MethodName := ⟨RX12, "isAtom", "(I)Z"⟩
abbrev cX12_atomCount : ByteArray := prog_14_method_50_code
def yX12_atomCount : MethodName := ⟨RX12, "atomCount", "(I)I"⟩
abbrev cX12_atomSet : ByteArray := prog_14_method_51_code
def yX12_atomSet : MethodName := ⟨RX12, "atomSet", "(II)I"⟩
abbrev cX12_atomOfWord : ByteArray := prog_14_method_52_code
def yX12_atomOfWord : MethodName := ⟨RX12, "atomOfWord", "(I)I"⟩
abbrev cX12_setAhead : ByteArray := prog_14_method_53_code
def yX12_setAhead : MethodName := ⟨RX12, "setAhead", "(III)I"⟩
abbrev cX12_tellAtomMachine : ByteArray := prog_14_method_54_code
def yX12_tellAtomMachine : MethodName := ⟨RX12, "tellAtomMachine", "(I)V"⟩
abbrev cX12_atomTargets : ByteArray := prog_14_method_55_code
def yX12_atomTargets : MethodName := ⟨RX12, "atomTargets", "(III)J"⟩
abbrev cX12_initialAtoms : ByteArray := prog_14_method_56_code
def yX12_initialAtoms : MethodName := ⟨RX12, "initialAtoms", "(I)J"⟩
abbrev cX12_finalAtom : ByteArray := prog_14_method_57_code
def yX12_finalAtom : MethodName := ⟨RX12, "finalAtom", "(I)I"⟩
abbrev cX12_firstWord : ByteArray := prog_14_method_58_code
def yX12_firstWord : MethodName := ⟨RX12, "firstWord", "()I"⟩
abbrev cX12_takeAtomWord : ByteArray := prog_14_method_59_code
def yX12_takeAtomWord : MethodName := ⟨RX12, "takeAtomWord", "(II)I"⟩
abbrev cX12_atomSize : ByteArray := prog_14_method_60_code
def yX12_atomSize : MethodName := ⟨RX12, "atomSize", "(II)I"⟩
abbrev cX12_resultSize : ByteArray := prog_14_method_61_code
def yX12_resultSize : MethodName := ⟨RX12, "resultSize", "(III)I"⟩
abbrev cX12_starSize : ByteArray := prog_14_method_62_code
def yX12_starSize : MethodName := ⟨RX12, "starSize", "(I)I"⟩
abbrev cX12_combine : ByteArray := prog_14_method_63_code
def yX12_combine : MethodName := ⟨RX12, "combine", "(IIII)I"⟩
abbrev cX12_star : ByteArray := prog_14_method_64_code
def yX12_star : MethodName := ⟨RX12, "star", "(II)I"⟩
abbrev cX12_reverse : ByteArray := prog_14_method_65_code
def yX12_reverse : MethodName := ⟨RX12, "reverse", "(II)I"⟩
abbrev cX12_uniteAtoms : ByteArray := prog_14_method_66_code
def yX12_uniteAtoms : MethodName := ⟨RX12, "uniteAtoms", "(IJI)I"⟩
abbrev cX12_isSmall : ByteArray := prog_14_method_67_code
def yX12_isSmall : MethodName := ⟨RX12, "isSmall", "()Z"⟩
abbrev cX12_meets : ByteArray := prog_14_method_68_code
def yX12_meets : MethodName := ⟨RX12, "meets", "(II)V"⟩
abbrev cX12_backFrom : ByteArray := prog_14_method_69_code
def yX12_backFrom : MethodName := ⟨RX12, "backFrom", "(III)I"⟩
abbrev cX12_finalsOf : ByteArray := prog_14_method_70_code
def yX12_finalsOf : MethodName := ⟨RX12, "finalsOf", "(I)I"⟩
abbrev cX12_isUnionOfAtoms : ByteArray := prog_14_method_71_code
def yX12_isUnionOfAtoms : MethodName := ⟨RX12, "isUnionOfAtoms", "(II)Z"⟩
abbrev cX12_takeDifference : ByteArray := prog_14_method_72_code
def yX12_takeDifference : MethodName := ⟨RX12, "takeDifference", "(II)I"⟩
abbrev cX12_shareOf : ByteArray := prog_14_method_73_code
def yX12_shareOf : MethodName := ⟨RX12, "shareOf", "(II)D"⟩
abbrev cX12_share : ByteArray := prog_14_method_74_code
def yX12_share : MethodName := ⟨RX12, "share", "(II)D"⟩
abbrev cX12_keepShares : ByteArray := prog_14_method_75_code
def yX12_keepShares : MethodName := ⟨RX12, "keepShares", "(IIIZ)V"⟩
abbrev cX12_remainder : ByteArray := prog_14_method_76_code
def yX12_remainder : MethodName := ⟨RX12, "remainder", "(III)D"⟩
abbrev cX12_save : ByteArray := prog_14_method_77_code
def yX12_save : MethodName := ⟨RX12, "save", "()V"⟩
abbrev cX12_restore : ByteArray := prog_14_method_78_code
def yX12_restore : MethodName := ⟨RX12, "restore", "()V"⟩
def RJx145de : String := "java/io/Serializable"
def TJx145de : u_T := fun k => match k with
  | _ => ("", "", "", false)
def tyJx145de : Nat → FieldType := fun k => match k with
  | _ => .int
def RJx00060 : String := "java/lang/ArrayIndexOutOfBoundsException"
def TJx00060 : u_T := fun k => match k with
  | 0 => ("java/lang/Throwable", "backtrace", "Ljava/lang/Object;", false)
  | 1 => ("java/lang/Throwable", "detailMessage", "Ljava/lang/String;", false)
  | 2 => ("java/lang/Throwable", "cause", "Ljava/lang/Throwable;", false)
  | 3 => ("java/lang/Throwable", "stackTrace", "[Ljava/lang/StackTraceElement;", false)
  | 4 => ("java/lang/Throwable", "depth", "I", false)
  | _ => ("java/lang/Throwable", "suppressedExceptions", "Ljava/util/List;", false)
def tyJx00060 : Nat → FieldType := fun k => match k with
  | 0 => .object "java/lang/Object"
  | 1 => .object "java/lang/String"
  | 2 => .object "java/lang/Throwable"
  | 3 => .array (.object "java/lang/StackTraceElement")
  | 4 => .int
  | _ => .object "java/util/List"
abbrev cJx00060_init_a7421 : ByteArray := prog_17_method_2_code
def yJx00060_init_a7421 : MethodName := ⟨RJx00060, "<init>", "(Ljava/lang/String;)V"⟩
def RJ13 : String := "java/lang/Long"
def TJ13 : u_T := fun k => match k with
  | _ => ("", "", "", false)
def tyJ13 : Nat → FieldType := fun k => match k with
  | _ => .int
abbrev cJ13_bitCount_95d88 : ByteArray := prog_22_method_50_code
def yJ13_bitCount_95d88 : MethodName := ⟨RJ13, "bitCount", "(J)I"⟩
def RJ0 : String := "java/lang/String"
def TJ0 : u_T := fun k => match k with
  | 0 => ("java/lang/String", "value", "[B", true)
  | _ => ("java/lang/String", "coder", "B", true)
def tyJ0 : Nat → FieldType := fun k => match k with
  | 0 => .array .byte
  | _ => .byte
def RJ10 : String := "java/lang/System"
def TJ10 : u_T := fun k => match k with
  | _ => ("", "", "", false)
def tyJ10 : Nat → FieldType := fun k => match k with
  | _ => .int
def RL : String := "LanguageAtomsLaw"
abbrev cL_reset : ByteArray := method_3_code
def yL_reset : MethodName := ⟨RL, "reset", "(LLanguageAtoms;II)I"⟩
abbrev cL_setTarget : ByteArray := method_4_code
def yL_setTarget : MethodName := ⟨RL, "setTarget", "(LLanguageAtoms;IIII)I"⟩
abbrev cL_setFinal : ByteArray := method_5_code
def yL_setFinal : MethodName := ⟨RL, "setFinal", "(LLanguageAtoms;IIZ[J)I"⟩
abbrev cL_stateCount : ByteArray := method_6_code
def yL_stateCount : MethodName := ⟨RL, "stateCount", "(LLanguageAtoms;I[J)I"⟩
abbrev cL_target : ByteArray := method_7_code
def yL_target : MethodName := ⟨RL, "target", "(LLanguageAtoms;III[J)I"⟩
abbrev cL_isFinal : ByteArray := method_8_code
def yL_isFinal : MethodName := ⟨RL, "isFinal", "(LLanguageAtoms;II[J)I"⟩
abbrev cL_randomize : ByteArray := method_9_code
def yL_randomize : MethodName := ⟨RL, "randomize", "(LLanguageAtoms;II)I"⟩
abbrev cL_makeWitness : ByteArray := method_10_code
def yL_makeWitness : MethodName := ⟨RL, "makeWitness", "(LLanguageAtoms;II)I"⟩
abbrev cL_appendLetter : ByteArray := method_11_code
def yL_appendLetter : MethodName := ⟨RL, "appendLetter", "(LLanguageAtoms;I[J)I"⟩
abbrev cL_wordLetter : ByteArray := method_12_code
def yL_wordLetter : MethodName := ⟨RL, "wordLetter", "(LLanguageAtoms;I[J)I"⟩
abbrev cL_accepts : ByteArray := method_13_code
def yL_accepts : MethodName := ⟨RL, "accepts", "(LLanguageAtoms;I[J)I"⟩
abbrev cL_size : ByteArray := method_14_code
def yL_size : MethodName := ⟨RL, "size", "(LLanguageAtoms;I[J)I"⟩
abbrev cL_minimize : ByteArray := method_15_code
def yL_minimize : MethodName := ⟨RL, "minimize", "(LLanguageAtoms;I[J)I"⟩
abbrev cL_quotientOfWord : ByteArray := method_16_code
def yL_quotientOfWord : MethodName := ⟨RL, "quotientOfWord", "(LLanguageAtoms;I[J)I"⟩
abbrev cL_atomCount : ByteArray := method_17_code
def yL_atomCount : MethodName := ⟨RL, "atomCount", "(LLanguageAtoms;I[J)I"⟩
abbrev cL_atomSet : ByteArray := method_18_code
def yL_atomSet : MethodName := ⟨RL, "atomSet", "(LLanguageAtoms;II[J)I"⟩
abbrev cL_atomOfWord : ByteArray := method_19_code
def yL_atomOfWord : MethodName := ⟨RL, "atomOfWord", "(LLanguageAtoms;I[J)I"⟩
abbrev cL_atomTargets : ByteArray := method_20_code
def yL_atomTargets : MethodName := ⟨RL, "atomTargets", "(LLanguageAtoms;III[J)I"⟩
abbrev cL_initialAtoms : ByteArray := method_21_code
def yL_initialAtoms : MethodName := ⟨RL, "initialAtoms", "(LLanguageAtoms;I[J)I"⟩
abbrev cL_finalAtom : ByteArray := method_22_code
def yL_finalAtom : MethodName := ⟨RL, "finalAtom", "(LLanguageAtoms;I[J)I"⟩
abbrev cL_takeAtomWord : ByteArray := method_23_code
def yL_takeAtomWord : MethodName := ⟨RL, "takeAtomWord", "(LLanguageAtoms;II[J)I"⟩
abbrev cL_atomSize : ByteArray := method_24_code
def yL_atomSize : MethodName := ⟨RL, "atomSize", "(LLanguageAtoms;II[J)I"⟩
abbrev cL_resultSize : ByteArray := method_25_code
def yL_resultSize : MethodName := ⟨RL, "resultSize", "(LLanguageAtoms;III[J)I"⟩
abbrev cL_starSize : ByteArray := method_26_code
def yL_starSize : MethodName := ⟨RL, "starSize", "(LLanguageAtoms;I[J)I"⟩
abbrev cL_combine : ByteArray := method_27_code
def yL_combine : MethodName := ⟨RL, "combine", "(LLanguageAtoms;IIII[J)I"⟩
abbrev cL_star : ByteArray := method_28_code
def yL_star : MethodName := ⟨RL, "star", "(LLanguageAtoms;II[J)I"⟩
abbrev cL_reverse : ByteArray := method_29_code
def yL_reverse : MethodName := ⟨RL, "reverse", "(LLanguageAtoms;II[J)I"⟩
abbrev cL_uniteAtoms : ByteArray := method_30_code
def yL_uniteAtoms : MethodName := ⟨RL, "uniteAtoms", "(LLanguageAtoms;IJI[J)I"⟩
abbrev cL_isUnionOfAtoms : ByteArray := method_31_code
def yL_isUnionOfAtoms : MethodName := ⟨RL, "isUnionOfAtoms", "(LLanguageAtoms;II[J)I"⟩
abbrev cL_takeDifference : ByteArray := method_32_code
def yL_takeDifference : MethodName := ⟨RL, "takeDifference", "(LLanguageAtoms;II[J)I"⟩
abbrev cL_share : ByteArray := method_33_code
def yL_share : MethodName := ⟨RL, "share", "(LLanguageAtoms;II[D)I"⟩
abbrev cL_keepShares : ByteArray := method_34_code
def yL_keepShares : MethodName := ⟨RL, "keepShares", "(LLanguageAtoms;IIIZ)I"⟩
abbrev cL_remainder : ByteArray := method_35_code
def yL_remainder : MethodName := ⟨RL, "remainder", "(LLanguageAtoms;III[D)I"⟩
abbrev cL_restore : ByteArray := method_36_code
def yL_restore : MethodName := ⟨RL, "restore", "(LLanguageAtoms;)I"⟩
abbrev cL_law : ByteArray := code
def yL_law : MethodName := ⟨RL, "law", "([I)Z"⟩
end
section
theorem dJ13_bitCount_95d88_0 : decode cJ13_bitCount_95d88 0 = .ok (.lload_n 0, 1) := by decide +kernel
theorem dJ13_bitCount_95d88_1 : decode cJ13_bitCount_95d88 1 = .ok (.lload_n 0, 1) := by decide +kernel
theorem dJ13_bitCount_95d88_2 : decode cJ13_bitCount_95d88 2 = .ok (.iconst 1, 1) := by decide +kernel
theorem dJ13_bitCount_95d88_3 : decode cJ13_bitCount_95d88 3 = .ok (.lushr, 1) := by decide +kernel
theorem dJ13_bitCount_95d88_4 : decode cJ13_bitCount_95d88 4 = .ok (.ldc2_w 314, 3) := by decide +kernel
theorem dJ13_bitCount_95d88_7 : decode cJ13_bitCount_95d88 7 = .ok (.land, 1) := by decide +kernel
theorem dJ13_bitCount_95d88_8 : decode cJ13_bitCount_95d88 8 = .ok (.lsub, 1) := by decide +kernel
theorem dJ13_bitCount_95d88_9 : decode cJ13_bitCount_95d88 9 = .ok (.lstore_n 0, 1) := by decide +kernel
theorem dJ13_bitCount_95d88_10 : decode cJ13_bitCount_95d88 10 = .ok (.lload_n 0, 1) := by decide +kernel
theorem dJ13_bitCount_95d88_11 : decode cJ13_bitCount_95d88 11 = .ok (.ldc2_w 316, 3) := by decide +kernel
theorem dJ13_bitCount_95d88_14 : decode cJ13_bitCount_95d88 14 = .ok (.land, 1) := by decide +kernel
theorem dJ13_bitCount_95d88_15 : decode cJ13_bitCount_95d88 15 = .ok (.lload_n 0, 1) := by decide +kernel
theorem dJ13_bitCount_95d88_16 : decode cJ13_bitCount_95d88 16 = .ok (.iconst 2, 1) := by decide +kernel
theorem dJ13_bitCount_95d88_17 : decode cJ13_bitCount_95d88 17 = .ok (.lushr, 1) := by decide +kernel
theorem dJ13_bitCount_95d88_18 : decode cJ13_bitCount_95d88 18 = .ok (.ldc2_w 316, 3) := by decide +kernel
theorem dJ13_bitCount_95d88_21 : decode cJ13_bitCount_95d88 21 = .ok (.land, 1) := by decide +kernel
theorem dJ13_bitCount_95d88_22 : decode cJ13_bitCount_95d88 22 = .ok (.ladd, 1) := by decide +kernel
theorem dJ13_bitCount_95d88_23 : decode cJ13_bitCount_95d88 23 = .ok (.lstore_n 0, 1) := by decide +kernel
theorem dJ13_bitCount_95d88_24 : decode cJ13_bitCount_95d88 24 = .ok (.lload_n 0, 1) := by decide +kernel
theorem dJ13_bitCount_95d88_25 : decode cJ13_bitCount_95d88 25 = .ok (.lload_n 0, 1) := by decide +kernel
theorem dJ13_bitCount_95d88_26 : decode cJ13_bitCount_95d88 26 = .ok (.iconst 4, 1) := by decide +kernel
theorem dJ13_bitCount_95d88_27 : decode cJ13_bitCount_95d88 27 = .ok (.lushr, 1) := by decide +kernel
theorem dJ13_bitCount_95d88_28 : decode cJ13_bitCount_95d88 28 = .ok (.ladd, 1) := by decide +kernel
theorem dJ13_bitCount_95d88_29 : decode cJ13_bitCount_95d88 29 = .ok (.ldc2_w 318, 3) := by decide +kernel
theorem dJ13_bitCount_95d88_32 : decode cJ13_bitCount_95d88 32 = .ok (.land, 1) := by decide +kernel
theorem dJ13_bitCount_95d88_33 : decode cJ13_bitCount_95d88 33 = .ok (.lstore_n 0, 1) := by decide +kernel
theorem dJ13_bitCount_95d88_34 : decode cJ13_bitCount_95d88 34 = .ok (.lload_n 0, 1) := by decide +kernel
theorem dJ13_bitCount_95d88_35 : decode cJ13_bitCount_95d88 35 = .ok (.lload_n 0, 1) := by decide +kernel
theorem dJ13_bitCount_95d88_36 : decode cJ13_bitCount_95d88 36 = .ok (.bipush 8, 2) := by decide +kernel
theorem dJ13_bitCount_95d88_38 : decode cJ13_bitCount_95d88 38 = .ok (.lushr, 1) := by decide +kernel
theorem dJ13_bitCount_95d88_39 : decode cJ13_bitCount_95d88 39 = .ok (.ladd, 1) := by decide +kernel
theorem dJ13_bitCount_95d88_40 : decode cJ13_bitCount_95d88 40 = .ok (.lstore_n 0, 1) := by decide +kernel
theorem dJ13_bitCount_95d88_41 : decode cJ13_bitCount_95d88 41 = .ok (.lload_n 0, 1) := by decide +kernel
theorem dJ13_bitCount_95d88_42 : decode cJ13_bitCount_95d88 42 = .ok (.lload_n 0, 1) := by decide +kernel
theorem dJ13_bitCount_95d88_43 : decode cJ13_bitCount_95d88 43 = .ok (.bipush 16, 2) := by decide +kernel
theorem dJ13_bitCount_95d88_45 : decode cJ13_bitCount_95d88 45 = .ok (.lushr, 1) := by decide +kernel
theorem dJ13_bitCount_95d88_46 : decode cJ13_bitCount_95d88 46 = .ok (.ladd, 1) := by decide +kernel
theorem dJ13_bitCount_95d88_47 : decode cJ13_bitCount_95d88 47 = .ok (.lstore_n 0, 1) := by decide +kernel
theorem dJ13_bitCount_95d88_48 : decode cJ13_bitCount_95d88 48 = .ok (.lload_n 0, 1) := by decide +kernel
theorem dJ13_bitCount_95d88_49 : decode cJ13_bitCount_95d88 49 = .ok (.lload_n 0, 1) := by decide +kernel
theorem dJ13_bitCount_95d88_50 : decode cJ13_bitCount_95d88 50 = .ok (.bipush 32, 2) := by decide +kernel
theorem dJ13_bitCount_95d88_52 : decode cJ13_bitCount_95d88 52 = .ok (.lushr, 1) := by decide +kernel
theorem dJ13_bitCount_95d88_53 : decode cJ13_bitCount_95d88 53 = .ok (.ladd, 1) := by decide +kernel
theorem dJ13_bitCount_95d88_54 : decode cJ13_bitCount_95d88 54 = .ok (.lstore_n 0, 1) := by decide +kernel
theorem dJ13_bitCount_95d88_55 : decode cJ13_bitCount_95d88 55 = .ok (.lload_n 0, 1) := by decide +kernel
theorem dJ13_bitCount_95d88_56 : decode cJ13_bitCount_95d88 56 = .ok (.l2i, 1) := by decide +kernel
theorem dJ13_bitCount_95d88_57 : decode cJ13_bitCount_95d88 57 = .ok (.bipush 127, 2) := by decide +kernel
theorem dJ13_bitCount_95d88_59 : decode cJ13_bitCount_95d88 59 = .ok (.iand, 1) := by decide +kernel
theorem dJ13_bitCount_95d88_60 : decode cJ13_bitCount_95d88 60 = .ok (.ireturn, 1) := by decide +kernel
theorem dJx00060_init_a7421_0 : decode cJx00060_init_a7421 0 = .ok (.aload_n 0, 1) := by decide +kernel
theorem dJx00060_init_a7421_1 : decode cJx00060_init_a7421 1 = .ok (.aload_n 1, 1) := by decide +kernel
theorem dJx00060_init_a7421_2 : decode cJx00060_init_a7421 2 = .ok (.invokespecial 7, 3) := by decide +kernel
theorem dJx00060_init_a7421_5 : decode cJx00060_init_a7421 5 = .ok (.return_, 1) := by decide +kernel
theorem dX0_init_0 : decode cX0_init 0 = .ok (.aload_n 0, 1) := by decide +kernel
theorem dX0_init_1 : decode cX0_init 1 = .ok (.invokespecial 3, 3) := by decide +kernel
theorem dX0_init_4 : decode cX0_init 4 = .ok (.aload_n 0, 1) := by decide +kernel
theorem dX0_init_5 : decode cX0_init 5 = .ok (.new 9, 3) := by decide +kernel
theorem dX0_init_8 : decode cX0_init 8 = .ok (.dup, 1) := by decide +kernel
theorem dX0_init_9 : decode cX0_init 9 = .ok (.invokespecial 11, 3) := by decide +kernel
theorem dX0_init_12 : decode cX0_init 12 = .ok (.putfield 12, 3) := by decide +kernel
theorem dX0_init_15 : decode cX0_init 15 = .ok (.aload_n 0, 1) := by decide +kernel
theorem dX0_init_16 : decode cX0_init 16 = .ok (.new 18, 3) := by decide +kernel
theorem dX0_init_19 : decode cX0_init 19 = .ok (.dup, 1) := by decide +kernel
theorem dX0_init_20 : decode cX0_init 20 = .ok (.invokespecial 20, 3) := by decide +kernel
theorem dX0_init_23 : decode cX0_init 23 = .ok (.putfield 21, 3) := by decide +kernel
theorem dX0_init_26 : decode cX0_init 26 = .ok (.aload_n 0, 1) := by decide +kernel
theorem dX0_init_27 : decode cX0_init 27 = .ok (.new 18, 3) := by decide +kernel
theorem dX0_init_30 : decode cX0_init 30 = .ok (.dup, 1) := by decide +kernel
theorem dX0_init_31 : decode cX0_init 31 = .ok (.invokespecial 20, 3) := by decide +kernel
theorem dX0_init_34 : decode cX0_init 34 = .ok (.putfield 25, 3) := by decide +kernel
theorem dX0_init_37 : decode cX0_init 37 = .ok (.aload_n 0, 1) := by decide +kernel
theorem dX0_init_38 : decode cX0_init 38 = .ok (.new 18, 3) := by decide +kernel
theorem dX0_init_41 : decode cX0_init 41 = .ok (.dup, 1) := by decide +kernel
theorem dX0_init_42 : decode cX0_init 42 = .ok (.invokespecial 20, 3) := by decide +kernel
theorem dX0_init_45 : decode cX0_init 45 = .ok (.putfield 28, 3) := by decide +kernel
theorem dX0_init_48 : decode cX0_init 48 = .ok (.aload_n 0, 1) := by decide +kernel
theorem dX0_init_49 : decode cX0_init 49 = .ok (.iconst 0, 1) := by decide +kernel
theorem dX0_init_50 : decode cX0_init 50 = .ok (.putfield 31, 3) := by decide +kernel
theorem dX0_init_53 : decode cX0_init 53 = .ok (.aload_n 0, 1) := by decide +kernel
theorem dX0_init_54 : decode cX0_init 54 = .ok (.bipush 64, 2) := by decide +kernel
theorem dX0_init_56 : decode cX0_init 56 = .ok (.newarray .int, 2) := by decide +kernel
theorem dX0_init_58 : decode cX0_init 58 = .ok (.putfield 35, 3) := by decide +kernel
theorem dX0_init_61 : decode cX0_init 61 = .ok (.aload_n 0, 1) := by decide +kernel
theorem dX0_init_62 : decode cX0_init 62 = .ok (.lconst 0, 1) := by decide +kernel
theorem dX0_init_63 : decode cX0_init 63 = .ok (.putfield 39, 3) := by decide +kernel
theorem dX0_init_66 : decode cX0_init 66 = .ok (.aload_n 0, 1) := by decide +kernel
theorem dX0_init_67 : decode cX0_init 67 = .ok (.bipush 64, 2) := by decide +kernel
theorem dX0_init_69 : decode cX0_init 69 = .ok (.newarray .int, 2) := by decide +kernel
theorem dX0_init_71 : decode cX0_init 71 = .ok (.putfield 43, 3) := by decide +kernel
theorem dX0_init_74 : decode cX0_init 74 = .ok (.aload_n 0, 1) := by decide +kernel
theorem dX0_init_75 : decode cX0_init 75 = .ok (.bipush 64, 2) := by decide +kernel
theorem dX0_init_77 : decode cX0_init 77 = .ok (.newarray .int, 2) := by decide +kernel
theorem dX0_init_79 : decode cX0_init 79 = .ok (.putfield 46, 3) := by decide +kernel
theorem dX0_init_82 : decode cX0_init 82 = .ok (.aload_n 0, 1) := by decide +kernel
theorem dX0_init_83 : decode cX0_init 83 = .ok (.bipush 64, 2) := by decide +kernel
theorem dX0_init_85 : decode cX0_init 85 = .ok (.newarray .long, 2) := by decide +kernel
theorem dX0_init_87 : decode cX0_init 87 = .ok (.putfield 49, 3) := by decide +kernel
theorem dX0_init_90 : decode cX0_init 90 = .ok (.aload_n 0, 1) := by decide +kernel
theorem dX0_init_91 : decode cX0_init 91 = .ok (.bipush 64, 2) := by decide +kernel
theorem dX0_init_93 : decode cX0_init 93 = .ok (.newarray .long, 2) := by decide +kernel
theorem dX0_init_95 : decode cX0_init 95 = .ok (.putfield 53, 3) := by decide +kernel
theorem dX0_init_98 : decode cX0_init 98 = .ok (.aload_n 0, 1) := by decide +kernel
theorem dX0_init_99 : decode cX0_init 99 = .ok (.sipush 730, 3) := by decide +kernel
theorem dX0_init_102 : decode cX0_init 102 = .ok (.newarray .int, 2) := by decide +kernel
theorem dX0_init_104 : decode cX0_init 104 = .ok (.putfield 56, 3) := by decide +kernel
theorem dX0_init_107 : decode cX0_init 107 = .ok (.aload_n 0, 1) := by decide +kernel
theorem dX0_init_108 : decode cX0_init 108 = .ok (.bipush 64, 2) := by decide +kernel
theorem dX0_init_110 : decode cX0_init 110 = .ok (.newarray .int, 2) := by decide +kernel
theorem dX0_init_112 : decode cX0_init 112 = .ok (.putfield 59, 3) := by decide +kernel
theorem dX0_init_115 : decode cX0_init 115 = .ok (.aload_n 0, 1) := by decide +kernel
theorem dX0_init_116 : decode cX0_init 116 = .ok (.aload_n 1, 1) := by decide +kernel
theorem dX0_init_117 : decode cX0_init 117 = .ok (.putfield 62, 3) := by decide +kernel
theorem dX0_init_120 : decode cX0_init 120 = .ok (.return_, 1) := by decide +kernel
theorem dX0_codeBound_0 : decode cX0_codeBound 0 = .ok (.bipush 64, 2) := by decide +kernel
theorem dX0_codeBound_2 : decode cX0_codeBound 2 = .ok (.ireturn, 1) := by decide +kernel
theorem dX0_startCode_0 : decode cX0_startCode 0 = .ok (.aload_n 0, 1) := by decide +kernel
theorem dX0_startCode_1 : decode cX0_startCode 1 = .ok (.getfield 12, 3) := by decide +kernel
theorem dX0_startCode_4 : decode cX0_startCode 4 = .ok (.getfield 66, 3) := by decide +kernel
theorem dX0_startCode_7 : decode cX0_startCode 7 = .ok (.ireturn, 1) := by decide +kernel
theorem dX0_follow_0 : decode cX0_follow 0 = .ok (.aload_n 0, 1) := by decide +kernel
theorem dX0_follow_1 : decode cX0_follow 1 = .ok (.getfield 25, 3) := by decide +kernel
theorem dX0_follow_4 : decode cX0_follow 4 = .ok (.iload_n 2, 1) := by decide +kernel
theorem dX0_follow_5 : decode cX0_follow 5 = .ok (.iload_n 1, 1) := by decide +kernel
theorem dX0_follow_6 : decode cX0_follow 6 = .ok (.invokevirtual 69, 3) := by decide +kernel
theorem dX0_follow_9 : decode cX0_follow 9 = .ok (.ireturn, 1) := by decide +kernel
theorem dX0_isAccepting_0 : decode cX0_isAccepting 0 = .ok (.iload_n 1, 1) := by decide +kernel
theorem dX0_isAccepting_1 : decode cX0_isAccepting 1 = .ok (.iconst 1, 1) := by decide +kernel
theorem dX0_isAccepting_2 : decode cX0_isAccepting 2 = .ok (.iand, 1) := by decide +kernel
theorem dX0_isAccepting_3 : decode cX0_isAccepting 3 = .ok (.iconst 1, 1) := by decide +kernel
theorem dX0_isAccepting_4 : decode cX0_isAccepting 4 = .ok (.if_icmp .ne 7, 3) := by decide +kernel
theorem dX0_isAccepting_7 : decode cX0_isAccepting 7 = .ok (.iconst 1, 1) := by decide +kernel
theorem dX0_isAccepting_8 : decode cX0_isAccepting 8 = .ok (.goto 4, 3) := by decide +kernel
theorem dX0_isAccepting_11 : decode cX0_isAccepting 11 = .ok (.iconst 0, 1) := by decide +kernel
theorem dX0_isAccepting_12 : decode cX0_isAccepting 12 = .ok (.ireturn, 1) := by decide +kernel
theorem dX0_find_0 : decode cX0_find 0 = .ok (.aload_n 0, 1) := by decide +kernel
theorem dX0_find_1 : decode cX0_find 1 = .ok (.getfield 25, 3) := by decide +kernel
theorem dX0_find_4 : decode cX0_find 4 = .ok (.aload_n 0, 1) := by decide +kernel
theorem dX0_find_5 : decode cX0_find 5 = .ok (.getfield 12, 3) := by decide +kernel
theorem dX0_find_8 : decode cX0_find 8 = .ok (.invokevirtual 73, 3) := by decide +kernel
theorem dX0_find_11 : decode cX0_find 11 = .ok (.aload_n 0, 1) := by decide +kernel
theorem dX0_find_12 : decode cX0_find 12 = .ok (.lconst 0, 1) := by decide +kernel
theorem dX0_find_13 : decode cX0_find 13 = .ok (.putfield 39, 3) := by decide +kernel
theorem dX0_find_16 : decode cX0_find 16 = .ok (.aload_n 0, 1) := by decide +kernel
theorem dX0_find_17 : decode cX0_find 17 = .ok (.iconst 0, 1) := by decide +kernel
theorem dX0_find_18 : decode cX0_find 18 = .ok (.putfield 31, 3) := by decide +kernel
theorem dX0_find_21 : decode cX0_find 21 = .ok (.aload_n 0, 1) := by decide +kernel
theorem dX0_find_22 : decode cX0_find 22 = .ok (.aload_n 0, 1) := by decide +kernel
theorem dX0_find_23 : decode cX0_find 23 = .ok (.invokevirtual 77, 3) := by decide +kernel
theorem dX0_find_26 : decode cX0_find 26 = .ok (.iconst 0, 1) := by decide +kernel
theorem dX0_find_27 : decode cX0_find 27 = .ok (.aload_n 0, 1) := by decide +kernel
theorem dX0_find_28 : decode cX0_find 28 = .ok (.invokevirtual 77, 3) := by decide +kernel
theorem dX0_find_31 : decode cX0_find 31 = .ok (.invokevirtual 81, 3) := by decide +kernel
theorem dX0_find_34 : decode cX0_find 34 = .ok (.iconst 0, 1) := by decide +kernel
theorem dX0_find_35 : decode cX0_find 35 = .ok (.istore_n 1, 1) := by decide +kernel
theorem dX0_find_36 : decode cX0_find 36 = .ok (.iconst 0, 1) := by decide +kernel
theorem dX0_find_37 : decode cX0_find 37 = .ok (.istore_n 2, 1) := by decide +kernel
theorem dX0_find_38 : decode cX0_find 38 = .ok (.iload_n 2, 1) := by decide +kernel
theorem dX0_find_39 : decode cX0_find 39 = .ok (.bipush 64, 2) := by decide +kernel
theorem dX0_find_41 : decode cX0_find 41 = .ok (.if_icmp .ge 80, 3) := by decide +kernel
theorem dX0_find_44 : decode cX0_find 44 = .ok (.iload_n 1, 1) := by decide +kernel
theorem dX0_find_45 : decode cX0_find 45 = .ok (.aload_n 0, 1) := by decide +kernel
theorem dX0_find_46 : decode cX0_find 46 = .ok (.getfield 31, 3) := by decide +kernel
theorem dX0_find_49 : decode cX0_find 49 = .ok (.if_icmp .ge 72, 3) := by decide +kernel
theorem dX0_find_52 : decode cX0_find 52 = .ok (.aload_n 0, 1) := by decide +kernel
theorem dX0_find_53 : decode cX0_find 53 = .ok (.getfield 31, 3) := by decide +kernel
theorem dX0_find_56 : decode cX0_find 56 = .ok (.istore_n 3, 1) := by decide +kernel
theorem dX0_find_57 : decode cX0_find 57 = .ok (.iconst 0, 1) := by decide +kernel
theorem dX0_find_58 : decode cX0_find 58 = .ok (.istore 4, 2) := by decide +kernel
theorem dX0_find_60 : decode cX0_find 60 = .ok (.iload 4, 2) := by decide +kernel
theorem dX0_find_62 : decode cX0_find 62 = .ok (.iconst 3, 1) := by decide +kernel
theorem dX0_find_63 : decode cX0_find 63 = .ok (.if_icmp .ge 50, 3) := by decide +kernel
theorem dX0_find_66 : decode cX0_find 66 = .ok (.iload_n 1, 1) := by decide +kernel
theorem dX0_find_67 : decode cX0_find 67 = .ok (.istore 5, 2) := by decide +kernel
theorem dX0_find_69 : decode cX0_find 69 = .ok (.iload 5, 2) := by decide +kernel
theorem dX0_find_71 : decode cX0_find 71 = .ok (.iload_n 3, 1) := by decide +kernel
theorem dX0_find_72 : decode cX0_find 72 = .ok (.if_icmp .ge 35, 3) := by decide +kernel
theorem dX0_find_75 : decode cX0_find 75 = .ok (.aload_n 0, 1) := by decide +kernel
theorem dX0_find_76 : decode cX0_find 76 = .ok (.aload_n 0, 1) := by decide +kernel
theorem dX0_find_77 : decode cX0_find 77 = .ok (.aload_n 0, 1) := by decide +kernel
theorem dX0_find_78 : decode cX0_find 78 = .ok (.getfield 35, 3) := by decide +kernel
theorem dX0_find_81 : decode cX0_find 81 = .ok (.iload 5, 2) := by decide +kernel
theorem dX0_find_83 : decode cX0_find 83 = .ok (.iaload, 1) := by decide +kernel
theorem dX0_find_84 : decode cX0_find 84 = .ok (.iload 4, 2) := by decide +kernel
theorem dX0_find_86 : decode cX0_find 86 = .ok (.invokevirtual 85, 3) := by decide +kernel
theorem dX0_find_89 : decode cX0_find 89 = .ok (.iload 4, 2) := by decide +kernel
theorem dX0_find_91 : decode cX0_find 91 = .ok (.aload_n 0, 1) := by decide +kernel
theorem dX0_find_92 : decode cX0_find 92 = .ok (.getfield 35, 3) := by decide +kernel
theorem dX0_find_95 : decode cX0_find 95 = .ok (.iload 5, 2) := by decide +kernel
theorem dX0_find_97 : decode cX0_find 97 = .ok (.iaload, 1) := by decide +kernel
theorem dX0_find_98 : decode cX0_find 98 = .ok (.invokevirtual 81, 3) := by decide +kernel
theorem dX0_find_101 : decode cX0_find 101 = .ok (.iinc 5 1, 3) := by decide +kernel
theorem dX0_find_104 : decode cX0_find 104 = .ok (.goto (-35), 3) := by decide +kernel
theorem dX0_find_107 : decode cX0_find 107 = .ok (.iinc 4 1, 3) := by decide +kernel
theorem dX0_find_110 : decode cX0_find 110 = .ok (.goto (-50), 3) := by decide +kernel
theorem dX0_find_113 : decode cX0_find 113 = .ok (.iload_n 3, 1) := by decide +kernel
theorem dX0_find_114 : decode cX0_find 114 = .ok (.istore_n 1, 1) := by decide +kernel
theorem dX0_find_115 : decode cX0_find 115 = .ok (.iinc 2 1, 3) := by decide +kernel
theorem dX0_find_118 : decode cX0_find 118 = .ok (.goto (-80), 3) := by decide +kernel
theorem dX0_find_121 : decode cX0_find 121 = .ok (.return_, 1) := by decide +kernel
theorem dX0_addAtom_0 : decode cX0_addAtom 0 = .ok (.aload_n 0, 1) := by decide +kernel
theorem dX0_addAtom_1 : decode cX0_addAtom 1 = .ok (.getfield 39, 3) := by decide +kernel
theorem dX0_addAtom_4 : decode cX0_addAtom 4 = .ok (.iload_n 1, 1) := by decide +kernel
theorem dX0_addAtom_5 : decode cX0_addAtom 5 = .ok (.invokestatic 88, 3) := by decide +kernel
theorem dX0_addAtom_8 : decode cX0_addAtom 8 = .ok (.ifCond .ne 49, 3) := by decide +kernel
theorem dX0_addAtom_11 : decode cX0_addAtom 11 = .ok (.aload_n 0, 1) := by decide +kernel
theorem dX0_addAtom_12 : decode cX0_addAtom 12 = .ok (.dup, 1) := by decide +kernel
theorem dX0_addAtom_13 : decode cX0_addAtom 13 = .ok (.getfield 39, 3) := by decide +kernel
theorem dX0_addAtom_16 : decode cX0_addAtom 16 = .ok (.lconst 1, 1) := by decide +kernel
theorem dX0_addAtom_17 : decode cX0_addAtom 17 = .ok (.iload_n 1, 1) := by decide +kernel
theorem dX0_addAtom_18 : decode cX0_addAtom 18 = .ok (.lshl, 1) := by decide +kernel
theorem dX0_addAtom_19 : decode cX0_addAtom 19 = .ok (.lor, 1) := by decide +kernel
theorem dX0_addAtom_20 : decode cX0_addAtom 20 = .ok (.putfield 39, 3) := by decide +kernel
theorem dX0_addAtom_23 : decode cX0_addAtom 23 = .ok (.aload_n 0, 1) := by decide +kernel
theorem dX0_addAtom_24 : decode cX0_addAtom 24 = .ok (.getfield 43, 3) := by decide +kernel
theorem dX0_addAtom_27 : decode cX0_addAtom 27 = .ok (.iload_n 1, 1) := by decide +kernel
theorem dX0_addAtom_28 : decode cX0_addAtom 28 = .ok (.iload_n 2, 1) := by decide +kernel
theorem dX0_addAtom_29 : decode cX0_addAtom 29 = .ok (.iastore, 1) := by decide +kernel
theorem dX0_addAtom_30 : decode cX0_addAtom 30 = .ok (.aload_n 0, 1) := by decide +kernel
theorem dX0_addAtom_31 : decode cX0_addAtom 31 = .ok (.getfield 46, 3) := by decide +kernel
theorem dX0_addAtom_34 : decode cX0_addAtom 34 = .ok (.iload_n 1, 1) := by decide +kernel
theorem dX0_addAtom_35 : decode cX0_addAtom 35 = .ok (.iload_n 3, 1) := by decide +kernel
theorem dX0_addAtom_36 : decode cX0_addAtom 36 = .ok (.iastore, 1) := by decide +kernel
theorem dX0_addAtom_37 : decode cX0_addAtom 37 = .ok (.aload_n 0, 1) := by decide +kernel
theorem dX0_addAtom_38 : decode cX0_addAtom 38 = .ok (.getfield 35, 3) := by decide +kernel
theorem dX0_addAtom_41 : decode cX0_addAtom 41 = .ok (.aload_n 0, 1) := by decide +kernel
theorem dX0_addAtom_42 : decode cX0_addAtom 42 = .ok (.getfield 31, 3) := by decide +kernel
theorem dX0_addAtom_45 : decode cX0_addAtom 45 = .ok (.iload_n 1, 1) := by decide +kernel
theorem dX0_addAtom_46 : decode cX0_addAtom 46 = .ok (.iastore, 1) := by decide +kernel
theorem dX0_addAtom_47 : decode cX0_addAtom 47 = .ok (.aload_n 0, 1) := by decide +kernel
theorem dX0_addAtom_48 : decode cX0_addAtom 48 = .ok (.dup, 1) := by decide +kernel
theorem dX0_addAtom_49 : decode cX0_addAtom 49 = .ok (.getfield 31, 3) := by decide +kernel
theorem dX0_addAtom_52 : decode cX0_addAtom 52 = .ok (.iconst 1, 1) := by decide +kernel
theorem dX0_addAtom_53 : decode cX0_addAtom 53 = .ok (.iadd, 1) := by decide +kernel
theorem dX0_addAtom_54 : decode cX0_addAtom 54 = .ok (.putfield 31, 3) := by decide +kernel
theorem dX0_addAtom_57 : decode cX0_addAtom 57 = .ok (.return_, 1) := by decide +kernel
theorem dX0_holds_0 : decode cX0_holds 0 = .ok (.lload_n 0, 1) := by decide +kernel
theorem dX0_holds_1 : decode cX0_holds 1 = .ok (.iload_n 2, 1) := by decide +kernel
theorem dX0_holds_2 : decode cX0_holds 2 = .ok (.lushr, 1) := by decide +kernel
theorem dX0_holds_3 : decode cX0_holds 3 = .ok (.lconst 1, 1) := by decide +kernel
theorem dX0_holds_4 : decode cX0_holds 4 = .ok (.land, 1) := by decide +kernel
theorem dX0_holds_5 : decode cX0_holds 5 = .ok (.lconst 1, 1) := by decide +kernel
theorem dX0_holds_6 : decode cX0_holds 6 = .ok (.lcmp, 1) := by decide +kernel
theorem dX0_holds_7 : decode cX0_holds 7 = .ok (.ifCond .ne 7, 3) := by decide +kernel
theorem dX0_holds_10 : decode cX0_holds 10 = .ok (.iconst 1, 1) := by decide +kernel
theorem dX0_holds_11 : decode cX0_holds 11 = .ok (.goto 4, 3) := by decide +kernel
theorem dX0_holds_14 : decode cX0_holds 14 = .ok (.iconst 0, 1) := by decide +kernel
theorem dX0_holds_15 : decode cX0_holds 15 = .ok (.ireturn, 1) := by decide +kernel
theorem dX0_numberOf_0 : decode cX0_numberOf 0 = .ok (.aload_n 0, 1) := by decide +kernel
theorem dX0_numberOf_1 : decode cX0_numberOf 1 = .ok (.getfield 39, 3) := by decide +kernel
theorem dX0_numberOf_4 : decode cX0_numberOf 4 = .ok (.lconst 1, 1) := by decide +kernel
theorem dX0_numberOf_5 : decode cX0_numberOf 5 = .ok (.iload_n 1, 1) := by decide +kernel
theorem dX0_numberOf_6 : decode cX0_numberOf 6 = .ok (.lshl, 1) := by decide +kernel
theorem dX0_numberOf_7 : decode cX0_numberOf 7 = .ok (.lconst 1, 1) := by decide +kernel
theorem dX0_numberOf_8 : decode cX0_numberOf 8 = .ok (.lsub, 1) := by decide +kernel
theorem dX0_numberOf_9 : decode cX0_numberOf 9 = .ok (.land, 1) := by decide +kernel
theorem dX0_numberOf_10 : decode cX0_numberOf 10 = .ok (.invokestatic 92, 3) := by decide +kernel
theorem dX0_numberOf_13 : decode cX0_numberOf 13 = .ok (.ireturn, 1) := by decide +kernel
theorem dX0_setOf_0 : decode cX0_setOf 0 = .ok (.iconst 0, 1) := by decide +kernel
theorem dX0_setOf_1 : decode cX0_setOf 1 = .ok (.istore_n 2, 1) := by decide +kernel
theorem dX0_setOf_2 : decode cX0_setOf 2 = .ok (.iconst 0, 1) := by decide +kernel
theorem dX0_setOf_3 : decode cX0_setOf 3 = .ok (.istore_n 3, 1) := by decide +kernel
theorem dX0_setOf_4 : decode cX0_setOf 4 = .ok (.iload_n 3, 1) := by decide +kernel
theorem dX0_setOf_5 : decode cX0_setOf 5 = .ok (.bipush 64, 2) := by decide +kernel
theorem dX0_setOf_7 : decode cX0_setOf 7 = .ok (.if_icmp .ge 30, 3) := by decide +kernel
theorem dX0_setOf_10 : decode cX0_setOf 10 = .ok (.aload_n 0, 1) := by decide +kernel
theorem dX0_setOf_11 : decode cX0_setOf 11 = .ok (.getfield 39, 3) := by decide +kernel
theorem dX0_setOf_14 : decode cX0_setOf 14 = .ok (.iload_n 3, 1) := by decide +kernel
theorem dX0_setOf_15 : decode cX0_setOf 15 = .ok (.invokestatic 88, 3) := by decide +kernel
theorem dX0_setOf_18 : decode cX0_setOf 18 = .ok (.ifCond .eq 13, 3) := by decide +kernel
theorem dX0_setOf_21 : decode cX0_setOf 21 = .ok (.iload_n 2, 1) := by decide +kernel
theorem dX0_setOf_22 : decode cX0_setOf 22 = .ok (.iload_n 1, 1) := by decide +kernel
theorem dX0_setOf_23 : decode cX0_setOf 23 = .ok (.if_icmp .ne 5, 3) := by decide +kernel
theorem dX0_setOf_26 : decode cX0_setOf 26 = .ok (.iload_n 3, 1) := by decide +kernel
theorem dX0_setOf_27 : decode cX0_setOf 27 = .ok (.ireturn, 1) := by decide +kernel
theorem dX0_setOf_28 : decode cX0_setOf 28 = .ok (.iinc 2 1, 3) := by decide +kernel
theorem dX0_setOf_31 : decode cX0_setOf 31 = .ok (.iinc 3 1, 3) := by decide +kernel
theorem dX0_setOf_34 : decode cX0_setOf 34 = .ok (.goto (-30), 3) := by decide +kernel
theorem dX0_setOf_37 : decode cX0_setOf 37 = .ok (.iconst 0, 1) := by decide +kernel
theorem dX0_setOf_38 : decode cX0_setOf 38 = .ok (.ireturn, 1) := by decide +kernel
theorem dX0_setOfWord_0 : decode cX0_setOfWord 0 = .ok (.aload_n 0, 1) := by decide +kernel
theorem dX0_setOfWord_1 : decode cX0_setOfWord 1 = .ok (.invokevirtual 77, 3) := by decide +kernel
theorem dX0_setOfWord_4 : decode cX0_setOfWord 4 = .ok (.istore_n 2, 1) := by decide +kernel
theorem dX0_setOfWord_5 : decode cX0_setOfWord 5 = .ok (.aload_n 1, 1) := by decide +kernel
theorem dX0_setOfWord_6 : decode cX0_setOfWord 6 = .ok (.getfield 98, 3) := by decide +kernel
theorem dX0_setOfWord_9 : decode cX0_setOfWord 9 = .ok (.iconst 1, 1) := by decide +kernel
theorem dX0_setOfWord_10 : decode cX0_setOfWord 10 = .ok (.isub, 1) := by decide +kernel
theorem dX0_setOfWord_11 : decode cX0_setOfWord 11 = .ok (.istore_n 3, 1) := by decide +kernel
theorem dX0_setOfWord_12 : decode cX0_setOfWord 12 = .ok (.iload_n 3, 1) := by decide +kernel
theorem dX0_setOfWord_13 : decode cX0_setOfWord 13 = .ok (.ifCond .lt 21, 3) := by decide +kernel
theorem dX0_setOfWord_16 : decode cX0_setOfWord 16 = .ok (.aload_n 0, 1) := by decide +kernel
theorem dX0_setOfWord_17 : decode cX0_setOfWord 17 = .ok (.iload_n 2, 1) := by decide +kernel
theorem dX0_setOfWord_18 : decode cX0_setOfWord 18 = .ok (.aload_n 1, 1) := by decide +kernel
theorem dX0_setOfWord_19 : decode cX0_setOfWord 19 = .ok (.getfield 103, 3) := by decide +kernel
theorem dX0_setOfWord_22 : decode cX0_setOfWord 22 = .ok (.iload_n 3, 1) := by decide +kernel
theorem dX0_setOfWord_23 : decode cX0_setOfWord 23 = .ok (.iaload, 1) := by decide +kernel
theorem dX0_setOfWord_24 : decode cX0_setOfWord 24 = .ok (.invokevirtual 85, 3) := by decide +kernel
theorem dX0_setOfWord_27 : decode cX0_setOfWord 27 = .ok (.istore_n 2, 1) := by decide +kernel
theorem dX0_setOfWord_28 : decode cX0_setOfWord 28 = .ok (.iinc 3 (-1), 3) := by decide +kernel
theorem dX0_setOfWord_31 : decode cX0_setOfWord 31 = .ok (.goto (-19), 3) := by decide +kernel
theorem dX0_setOfWord_34 : decode cX0_setOfWord 34 = .ok (.iload_n 2, 1) := by decide +kernel
theorem dX0_setOfWord_35 : decode cX0_setOfWord 35 = .ok (.ireturn, 1) := by decide +kernel
theorem dX0_targetsOf_0 : decode cX0_targetsOf 0 = .ok (.lconst 0, 1) := by decide +kernel
theorem dX0_targetsOf_1 : decode cX0_targetsOf 1 = .ok (.lstore_n 3, 1) := by decide +kernel
theorem dX0_targetsOf_2 : decode cX0_targetsOf 2 = .ok (.iconst 0, 1) := by decide +kernel
theorem dX0_targetsOf_3 : decode cX0_targetsOf 3 = .ok (.istore 5, 2) := by decide +kernel
theorem dX0_targetsOf_5 : decode cX0_targetsOf 5 = .ok (.iload 5, 2) := by decide +kernel
theorem dX0_targetsOf_7 : decode cX0_targetsOf 7 = .ok (.aload_n 0, 1) := by decide +kernel
theorem dX0_targetsOf_8 : decode cX0_targetsOf 8 = .ok (.getfield 31, 3) := by decide +kernel
theorem dX0_targetsOf_11 : decode cX0_targetsOf 11 = .ok (.if_icmp .ge 41, 3) := by decide +kernel
theorem dX0_targetsOf_14 : decode cX0_targetsOf 14 = .ok (.aload_n 0, 1) := by decide +kernel
theorem dX0_targetsOf_15 : decode cX0_targetsOf 15 = .ok (.aload_n 0, 1) := by decide +kernel
theorem dX0_targetsOf_16 : decode cX0_targetsOf 16 = .ok (.getfield 35, 3) := by decide +kernel
theorem dX0_targetsOf_19 : decode cX0_targetsOf 19 = .ok (.iload 5, 2) := by decide +kernel
theorem dX0_targetsOf_21 : decode cX0_targetsOf 21 = .ok (.iaload, 1) := by decide +kernel
theorem dX0_targetsOf_22 : decode cX0_targetsOf 22 = .ok (.iload_n 2, 1) := by decide +kernel
theorem dX0_targetsOf_23 : decode cX0_targetsOf 23 = .ok (.invokevirtual 85, 3) := by decide +kernel
theorem dX0_targetsOf_26 : decode cX0_targetsOf 26 = .ok (.iload_n 1, 1) := by decide +kernel
theorem dX0_targetsOf_27 : decode cX0_targetsOf 27 = .ok (.if_icmp .ne 19, 3) := by decide +kernel
theorem dX0_targetsOf_30 : decode cX0_targetsOf 30 = .ok (.lload_n 3, 1) := by decide +kernel
theorem dX0_targetsOf_31 : decode cX0_targetsOf 31 = .ok (.lconst 1, 1) := by decide +kernel
theorem dX0_targetsOf_32 : decode cX0_targetsOf 32 = .ok (.aload_n 0, 1) := by decide +kernel
theorem dX0_targetsOf_33 : decode cX0_targetsOf 33 = .ok (.aload_n 0, 1) := by decide +kernel
theorem dX0_targetsOf_34 : decode cX0_targetsOf 34 = .ok (.getfield 35, 3) := by decide +kernel
theorem dX0_targetsOf_37 : decode cX0_targetsOf 37 = .ok (.iload 5, 2) := by decide +kernel
theorem dX0_targetsOf_39 : decode cX0_targetsOf 39 = .ok (.iaload, 1) := by decide +kernel
theorem dX0_targetsOf_40 : decode cX0_targetsOf 40 = .ok (.invokevirtual 106, 3) := by decide +kernel
theorem dX0_targetsOf_43 : decode cX0_targetsOf 43 = .ok (.lshl, 1) := by decide +kernel
theorem dX0_targetsOf_44 : decode cX0_targetsOf 44 = .ok (.lor, 1) := by decide +kernel
theorem dX0_targetsOf_45 : decode cX0_targetsOf 45 = .ok (.lstore_n 3, 1) := by decide +kernel
theorem dX0_targetsOf_46 : decode cX0_targetsOf 46 = .ok (.iinc 5 1, 3) := by decide +kernel
theorem dX0_targetsOf_49 : decode cX0_targetsOf 49 = .ok (.goto (-44), 3) := by decide +kernel
theorem dX0_targetsOf_52 : decode cX0_targetsOf 52 = .ok (.lload_n 3, 1) := by decide +kernel
theorem dX0_targetsOf_53 : decode cX0_targetsOf 53 = .ok (.lreturn, 1) := by decide +kernel
theorem dX0_initialOnes_0 : decode cX0_initialOnes 0 = .ok (.lconst 0, 1) := by decide +kernel
theorem dX0_initialOnes_1 : decode cX0_initialOnes 1 = .ok (.lstore_n 1, 1) := by decide +kernel
theorem dX0_initialOnes_2 : decode cX0_initialOnes 2 = .ok (.iconst 0, 1) := by decide +kernel
theorem dX0_initialOnes_3 : decode cX0_initialOnes 3 = .ok (.istore_n 3, 1) := by decide +kernel
theorem dX0_initialOnes_4 : decode cX0_initialOnes 4 = .ok (.iload_n 3, 1) := by decide +kernel
theorem dX0_initialOnes_5 : decode cX0_initialOnes 5 = .ok (.aload_n 0, 1) := by decide +kernel
theorem dX0_initialOnes_6 : decode cX0_initialOnes 6 = .ok (.getfield 31, 3) := by decide +kernel
theorem dX0_initialOnes_9 : decode cX0_initialOnes 9 = .ok (.if_icmp .ge 37, 3) := by decide +kernel
theorem dX0_initialOnes_12 : decode cX0_initialOnes 12 = .ok (.aload_n 0, 1) := by decide +kernel
theorem dX0_initialOnes_13 : decode cX0_initialOnes 13 = .ok (.aload_n 0, 1) := by decide +kernel
theorem dX0_initialOnes_14 : decode cX0_initialOnes 14 = .ok (.getfield 35, 3) := by decide +kernel
theorem dX0_initialOnes_17 : decode cX0_initialOnes 17 = .ok (.iload_n 3, 1) := by decide +kernel
theorem dX0_initialOnes_18 : decode cX0_initialOnes 18 = .ok (.iaload, 1) := by decide +kernel
theorem dX0_initialOnes_19 : decode cX0_initialOnes 19 = .ok (.invokevirtual 110, 3) := by decide +kernel
theorem dX0_initialOnes_22 : decode cX0_initialOnes 22 = .ok (.ifCond .eq 18, 3) := by decide +kernel
theorem dX0_initialOnes_25 : decode cX0_initialOnes 25 = .ok (.lload_n 1, 1) := by decide +kernel
theorem dX0_initialOnes_26 : decode cX0_initialOnes 26 = .ok (.lconst 1, 1) := by decide +kernel
theorem dX0_initialOnes_27 : decode cX0_initialOnes 27 = .ok (.aload_n 0, 1) := by decide +kernel
theorem dX0_initialOnes_28 : decode cX0_initialOnes 28 = .ok (.aload_n 0, 1) := by decide +kernel
theorem dX0_initialOnes_29 : decode cX0_initialOnes 29 = .ok (.getfield 35, 3) := by decide +kernel
theorem dX0_initialOnes_32 : decode cX0_initialOnes 32 = .ok (.iload_n 3, 1) := by decide +kernel
theorem dX0_initialOnes_33 : decode cX0_initialOnes 33 = .ok (.iaload, 1) := by decide +kernel
theorem dX0_initialOnes_34 : decode cX0_initialOnes 34 = .ok (.invokevirtual 106, 3) := by decide +kernel
theorem dX0_initialOnes_37 : decode cX0_initialOnes 37 = .ok (.lshl, 1) := by decide +kernel
theorem dX0_initialOnes_38 : decode cX0_initialOnes 38 = .ok (.lor, 1) := by decide +kernel
theorem dX0_initialOnes_39 : decode cX0_initialOnes 39 = .ok (.lstore_n 1, 1) := by decide +kernel
theorem dX0_initialOnes_40 : decode cX0_initialOnes 40 = .ok (.iinc 3 1, 3) := by decide +kernel
theorem dX0_initialOnes_43 : decode cX0_initialOnes 43 = .ok (.goto (-39), 3) := by decide +kernel
theorem dX0_initialOnes_46 : decode cX0_initialOnes 46 = .ok (.lload_n 1, 1) := by decide +kernel
theorem dX0_initialOnes_47 : decode cX0_initialOnes 47 = .ok (.lreturn, 1) := by decide +kernel
theorem dX0_firstWordLength_0 : decode cX0_firstWordLength 0 = .ok (.iconst 0, 1) := by decide +kernel
theorem dX0_firstWordLength_1 : decode cX0_firstWordLength 1 = .ok (.istore_n 2, 1) := by decide +kernel
theorem dX0_firstWordLength_2 : decode cX0_firstWordLength 2 = .ok (.iload_n 1, 1) := by decide +kernel
theorem dX0_firstWordLength_3 : decode cX0_firstWordLength 3 = .ok (.istore_n 3, 1) := by decide +kernel
theorem dX0_firstWordLength_4 : decode cX0_firstWordLength 4 = .ok (.iload_n 3, 1) := by decide +kernel
theorem dX0_firstWordLength_5 : decode cX0_firstWordLength 5 = .ok (.aload_n 0, 1) := by decide +kernel
theorem dX0_firstWordLength_6 : decode cX0_firstWordLength 6 = .ok (.invokevirtual 77, 3) := by decide +kernel
theorem dX0_firstWordLength_9 : decode cX0_firstWordLength 9 = .ok (.if_icmp .eq 22, 3) := by decide +kernel
theorem dX0_firstWordLength_12 : decode cX0_firstWordLength 12 = .ok (.iload_n 2, 1) := by decide +kernel
theorem dX0_firstWordLength_13 : decode cX0_firstWordLength 13 = .ok (.bipush 64, 2) := by decide +kernel
theorem dX0_firstWordLength_15 : decode cX0_firstWordLength 15 = .ok (.if_icmp .ge 16, 3) := by decide +kernel
theorem dX0_firstWordLength_18 : decode cX0_firstWordLength 18 = .ok (.aload_n 0, 1) := by decide +kernel
theorem dX0_firstWordLength_19 : decode cX0_firstWordLength 19 = .ok (.getfield 46, 3) := by decide +kernel
theorem dX0_firstWordLength_22 : decode cX0_firstWordLength 22 = .ok (.iload_n 3, 1) := by decide +kernel
theorem dX0_firstWordLength_23 : decode cX0_firstWordLength 23 = .ok (.iaload, 1) := by decide +kernel
theorem dX0_firstWordLength_24 : decode cX0_firstWordLength 24 = .ok (.istore_n 3, 1) := by decide +kernel
theorem dX0_firstWordLength_25 : decode cX0_firstWordLength 25 = .ok (.iinc 2 1, 3) := by decide +kernel
theorem dX0_firstWordLength_28 : decode cX0_firstWordLength 28 = .ok (.goto (-24), 3) := by decide +kernel
theorem dX0_firstWordLength_31 : decode cX0_firstWordLength 31 = .ok (.iload_n 2, 1) := by decide +kernel
theorem dX0_firstWordLength_32 : decode cX0_firstWordLength 32 = .ok (.ireturn, 1) := by decide +kernel
theorem dX0_writeFirstWord_0 : decode cX0_writeFirstWord 0 = .ok (.aload_n 0, 1) := by decide +kernel
theorem dX0_writeFirstWord_1 : decode cX0_writeFirstWord 1 = .ok (.iload_n 1, 1) := by decide +kernel
theorem dX0_writeFirstWord_2 : decode cX0_writeFirstWord 2 = .ok (.invokevirtual 114, 3) := by decide +kernel
theorem dX0_writeFirstWord_5 : decode cX0_writeFirstWord 5 = .ok (.istore_n 3, 1) := by decide +kernel
theorem dX0_writeFirstWord_6 : decode cX0_writeFirstWord 6 = .ok (.iload_n 1, 1) := by decide +kernel
theorem dX0_writeFirstWord_7 : decode cX0_writeFirstWord 7 = .ok (.istore 4, 2) := by decide +kernel
theorem dX0_writeFirstWord_9 : decode cX0_writeFirstWord 9 = .ok (.aload_n 2, 1) := by decide +kernel
theorem dX0_writeFirstWord_10 : decode cX0_writeFirstWord 10 = .ok (.iconst 0, 1) := by decide +kernel
theorem dX0_writeFirstWord_11 : decode cX0_writeFirstWord 11 = .ok (.putfield 98, 3) := by decide +kernel
theorem dX0_writeFirstWord_14 : decode cX0_writeFirstWord 14 = .ok (.iconst 0, 1) := by decide +kernel
theorem dX0_writeFirstWord_15 : decode cX0_writeFirstWord 15 = .ok (.istore 5, 2) := by decide +kernel
theorem dX0_writeFirstWord_17 : decode cX0_writeFirstWord 17 = .ok (.iload 5, 2) := by decide +kernel
theorem dX0_writeFirstWord_19 : decode cX0_writeFirstWord 19 = .ok (.iload_n 3, 1) := by decide +kernel
theorem dX0_writeFirstWord_20 : decode cX0_writeFirstWord 20 = .ok (.if_icmp .ge 29, 3) := by decide +kernel
theorem dX0_writeFirstWord_23 : decode cX0_writeFirstWord 23 = .ok (.aload_n 2, 1) := by decide +kernel
theorem dX0_writeFirstWord_24 : decode cX0_writeFirstWord 24 = .ok (.aload_n 0, 1) := by decide +kernel
theorem dX0_writeFirstWord_25 : decode cX0_writeFirstWord 25 = .ok (.getfield 43, 3) := by decide +kernel
theorem dX0_writeFirstWord_28 : decode cX0_writeFirstWord 28 = .ok (.iload 4, 2) := by decide +kernel
theorem dX0_writeFirstWord_30 : decode cX0_writeFirstWord 30 = .ok (.iaload, 1) := by decide +kernel
theorem dX0_writeFirstWord_31 : decode cX0_writeFirstWord 31 = .ok (.invokevirtual 117, 3) := by decide +kernel
theorem dX0_writeFirstWord_34 : decode cX0_writeFirstWord 34 = .ok (.aload_n 0, 1) := by decide +kernel
theorem dX0_writeFirstWord_35 : decode cX0_writeFirstWord 35 = .ok (.getfield 46, 3) := by decide +kernel
theorem dX0_writeFirstWord_38 : decode cX0_writeFirstWord 38 = .ok (.iload 4, 2) := by decide +kernel
theorem dX0_writeFirstWord_40 : decode cX0_writeFirstWord 40 = .ok (.iaload, 1) := by decide +kernel
theorem dX0_writeFirstWord_41 : decode cX0_writeFirstWord 41 = .ok (.istore 4, 2) := by decide +kernel
theorem dX0_writeFirstWord_43 : decode cX0_writeFirstWord 43 = .ok (.iinc 5 1, 3) := by decide +kernel
theorem dX0_writeFirstWord_46 : decode cX0_writeFirstWord 46 = .ok (.goto (-29), 3) := by decide +kernel
theorem dX0_writeFirstWord_49 : decode cX0_writeFirstWord 49 = .ok (.return_, 1) := by decide +kernel
theorem dX0_countQuotients_0 : decode cX0_countQuotients 0 = .ok (.aload_n 0, 1) := by decide +kernel
theorem dX0_countQuotients_1 : decode cX0_countQuotients 1 = .ok (.getfield 21, 3) := by decide +kernel
theorem dX0_countQuotients_4 : decode cX0_countQuotients 4 = .ok (.aload_n 0, 1) := by decide +kernel
theorem dX0_countQuotients_5 : decode cX0_countQuotients 5 = .ok (.getfield 12, 3) := by decide +kernel
theorem dX0_countQuotients_8 : decode cX0_countQuotients 8 = .ok (.invokevirtual 121, 3) := by decide +kernel
theorem dX0_countQuotients_11 : decode cX0_countQuotients 11 = .ok (.aload_n 0, 1) := by decide +kernel
theorem dX0_countQuotients_12 : decode cX0_countQuotients 12 = .ok (.invokevirtual 124, 3) := by decide +kernel
theorem dX0_countQuotients_15 : decode cX0_countQuotients 15 = .ok (.aload_n 0, 1) := by decide +kernel
theorem dX0_countQuotients_16 : decode cX0_countQuotients 16 = .ok (.getfield 62, 3) := by decide +kernel
theorem dX0_countQuotients_19 : decode cX0_countQuotients 19 = .ok (.sipush 730, 3) := by decide +kernel
theorem dX0_countQuotients_22 : decode cX0_countQuotients 22 = .ok (.invokevirtual 127, 3) := by decide +kernel
theorem dX0_countQuotients_25 : decode cX0_countQuotients 25 = .ok (.aload_n 0, 1) := by decide +kernel
theorem dX0_countQuotients_26 : decode cX0_countQuotients 26 = .ok (.iload_n 1, 1) := by decide +kernel
theorem dX0_countQuotients_27 : decode cX0_countQuotients 27 = .ok (.iconst 1, 1) := by decide +kernel
theorem dX0_countQuotients_28 : decode cX0_countQuotients 28 = .ok (.aload_n 0, 1) := by decide +kernel
theorem dX0_countQuotients_29 : decode cX0_countQuotients 29 = .ok (.getfield 12, 3) := by decide +kernel
theorem dX0_countQuotients_32 : decode cX0_countQuotients 32 = .ok (.getfield 132, 3) := by decide +kernel
theorem dX0_countQuotients_35 : decode cX0_countQuotients 35 = .ok (.ishl, 1) := by decide +kernel
theorem dX0_countQuotients_36 : decode cX0_countQuotients 36 = .ok (.iconst 1, 1) := by decide +kernel
theorem dX0_countQuotients_37 : decode cX0_countQuotients 37 = .ok (.isub, 1) := by decide +kernel
theorem dX0_countQuotients_38 : decode cX0_countQuotients 38 = .ok (.iload_n 1, 1) := by decide +kernel
theorem dX0_countQuotients_39 : decode cX0_countQuotients 39 = .ok (.iconst (-1), 1) := by decide +kernel
theorem dX0_countQuotients_40 : decode cX0_countQuotients 40 = .ok (.ixor, 1) := by decide +kernel
theorem dX0_countQuotients_41 : decode cX0_countQuotients 41 = .ok (.iand, 1) := by decide +kernel
theorem dX0_countQuotients_42 : decode cX0_countQuotients 42 = .ok (.invokevirtual 135, 3) := by decide +kernel
theorem dX0_countQuotients_45 : decode cX0_countQuotients 45 = .ok (.iconst 0, 1) := by decide +kernel
theorem dX0_countQuotients_46 : decode cX0_countQuotients 46 = .ok (.istore_n 2, 1) := by decide +kernel
theorem dX0_countQuotients_47 : decode cX0_countQuotients 47 = .ok (.iload_n 2, 1) := by decide +kernel
theorem dX0_countQuotients_48 : decode cX0_countQuotients 48 = .ok (.aload_n 0, 1) := by decide +kernel
theorem dX0_countQuotients_49 : decode cX0_countQuotients 49 = .ok (.getfield 62, 3) := by decide +kernel
theorem dX0_countQuotients_52 : decode cX0_countQuotients 52 = .ok (.getfield 139, 3) := by decide +kernel
theorem dX0_countQuotients_55 : decode cX0_countQuotients 55 = .ok (.if_icmp .ge 77, 3) := by decide +kernel
theorem dX0_countQuotients_58 : decode cX0_countQuotients 58 = .ok (.iload_n 2, 1) := by decide +kernel
theorem dX0_countQuotients_59 : decode cX0_countQuotients 59 = .ok (.sipush 730, 3) := by decide +kernel
theorem dX0_countQuotients_62 : decode cX0_countQuotients 62 = .ok (.if_icmp .ge 70, 3) := by decide +kernel
theorem dX0_countQuotients_65 : decode cX0_countQuotients 65 = .ok (.aload_n 0, 1) := by decide +kernel
theorem dX0_countQuotients_66 : decode cX0_countQuotients 66 = .ok (.getfield 56, 3) := by decide +kernel
theorem dX0_countQuotients_69 : decode cX0_countQuotients 69 = .ok (.iload_n 2, 1) := by decide +kernel
theorem dX0_countQuotients_70 : decode cX0_countQuotients 70 = .ok (.iaload, 1) := by decide +kernel
theorem dX0_countQuotients_71 : decode cX0_countQuotients 71 = .ok (.bipush 64, 2) := by decide +kernel
theorem dX0_countQuotients_73 : decode cX0_countQuotients 73 = .ok (.idiv, 1) := by decide +kernel
theorem dX0_countQuotients_74 : decode cX0_countQuotients 74 = .ok (.istore_n 3, 1) := by decide +kernel
theorem dX0_countQuotients_75 : decode cX0_countQuotients 75 = .ok (.aload_n 0, 1) := by decide +kernel
theorem dX0_countQuotients_76 : decode cX0_countQuotients 76 = .ok (.getfield 56, 3) := by decide +kernel
theorem dX0_countQuotients_79 : decode cX0_countQuotients 79 = .ok (.iload_n 2, 1) := by decide +kernel
theorem dX0_countQuotients_80 : decode cX0_countQuotients 80 = .ok (.iaload, 1) := by decide +kernel
theorem dX0_countQuotients_81 : decode cX0_countQuotients 81 = .ok (.bipush 64, 2) := by decide +kernel
theorem dX0_countQuotients_83 : decode cX0_countQuotients 83 = .ok (.irem, 1) := by decide +kernel
theorem dX0_countQuotients_84 : decode cX0_countQuotients 84 = .ok (.istore 4, 2) := by decide +kernel
theorem dX0_countQuotients_86 : decode cX0_countQuotients 86 = .ok (.iconst 0, 1) := by decide +kernel
theorem dX0_countQuotients_87 : decode cX0_countQuotients 87 = .ok (.istore 5, 2) := by decide +kernel
theorem dX0_countQuotients_89 : decode cX0_countQuotients 89 = .ok (.iload 5, 2) := by decide +kernel
theorem dX0_countQuotients_91 : decode cX0_countQuotients 91 = .ok (.iconst 3, 1) := by decide +kernel
theorem dX0_countQuotients_92 : decode cX0_countQuotients 92 = .ok (.if_icmp .ge 34, 3) := by decide +kernel
theorem dX0_countQuotients_95 : decode cX0_countQuotients 95 = .ok (.aload_n 0, 1) := by decide +kernel
theorem dX0_countQuotients_96 : decode cX0_countQuotients 96 = .ok (.aload_n 0, 1) := by decide +kernel
theorem dX0_countQuotients_97 : decode cX0_countQuotients 97 = .ok (.getfield 21, 3) := by decide +kernel
theorem dX0_countQuotients_100 : decode cX0_countQuotients 100 = .ok (.iload 5, 2) := by decide +kernel
theorem dX0_countQuotients_102 : decode cX0_countQuotients 102 = .ok (.iload_n 3, 1) := by decide +kernel
theorem dX0_countQuotients_103 : decode cX0_countQuotients 103 = .ok (.invokevirtual 69, 3) := by decide +kernel
theorem dX0_countQuotients_106 : decode cX0_countQuotients 106 = .ok (.aload_n 0, 1) := by decide +kernel
theorem dX0_countQuotients_107 : decode cX0_countQuotients 107 = .ok (.getfield 21, 3) := by decide +kernel
theorem dX0_countQuotients_110 : decode cX0_countQuotients 110 = .ok (.iload 5, 2) := by decide +kernel
theorem dX0_countQuotients_112 : decode cX0_countQuotients 112 = .ok (.iload 4, 2) := by decide +kernel
theorem dX0_countQuotients_114 : decode cX0_countQuotients 114 = .ok (.invokevirtual 69, 3) := by decide +kernel
theorem dX0_countQuotients_117 : decode cX0_countQuotients 117 = .ok (.invokevirtual 135, 3) := by decide +kernel
theorem dX0_countQuotients_120 : decode cX0_countQuotients 120 = .ok (.iinc 5 1, 3) := by decide +kernel
theorem dX0_countQuotients_123 : decode cX0_countQuotients 123 = .ok (.goto (-34), 3) := by decide +kernel
theorem dX0_countQuotients_126 : decode cX0_countQuotients 126 = .ok (.iinc 2 1, 3) := by decide +kernel
theorem dX0_countQuotients_129 : decode cX0_countQuotients 129 = .ok (.goto (-82), 3) := by decide +kernel
theorem dX0_countQuotients_132 : decode cX0_countQuotients 132 = .ok (.aload_n 0, 1) := by decide +kernel
theorem dX0_countQuotients_133 : decode cX0_countQuotients 133 = .ok (.getfield 62, 3) := by decide +kernel
theorem dX0_countQuotients_136 : decode cX0_countQuotients 136 = .ok (.getfield 139, 3) := by decide +kernel
theorem dX0_countQuotients_139 : decode cX0_countQuotients 139 = .ok (.ireturn, 1) := by decide +kernel
theorem dX0_addPair_0 : decode cX0_addPair 0 = .ok (.aload_n 0, 1) := by decide +kernel
theorem dX0_addPair_1 : decode cX0_addPair 1 = .ok (.getfield 62, 3) := by decide +kernel
theorem dX0_addPair_4 : decode cX0_addPair 4 = .ok (.getfield 139, 3) := by decide +kernel
theorem dX0_addPair_7 : decode cX0_addPair 7 = .ok (.istore_n 3, 1) := by decide +kernel
theorem dX0_addPair_8 : decode cX0_addPair 8 = .ok (.aload_n 0, 1) := by decide +kernel
theorem dX0_addPair_9 : decode cX0_addPair 9 = .ok (.getfield 62, 3) := by decide +kernel
theorem dX0_addPair_12 : decode cX0_addPair 12 = .ok (.aload_n 0, 1) := by decide +kernel
theorem dX0_addPair_13 : decode cX0_addPair 13 = .ok (.getfield 49, 3) := by decide +kernel
theorem dX0_addPair_16 : decode cX0_addPair 16 = .ok (.iload_n 1, 1) := by decide +kernel
theorem dX0_addPair_17 : decode cX0_addPair 17 = .ok (.laload, 1) := by decide +kernel
theorem dX0_addPair_18 : decode cX0_addPair 18 = .ok (.aload_n 0, 1) := by decide +kernel
theorem dX0_addPair_19 : decode cX0_addPair 19 = .ok (.getfield 53, 3) := by decide +kernel
theorem dX0_addPair_22 : decode cX0_addPair 22 = .ok (.iload_n 2, 1) := by decide +kernel
theorem dX0_addPair_23 : decode cX0_addPair 23 = .ok (.laload, 1) := by decide +kernel
theorem dX0_addPair_24 : decode cX0_addPair 24 = .ok (.land, 1) := by decide +kernel
theorem dX0_addPair_25 : decode cX0_addPair 25 = .ok (.invokevirtual 140, 3) := by decide +kernel
theorem dX0_addPair_28 : decode cX0_addPair 28 = .ok (.pop, 1) := by decide +kernel
theorem dX0_addPair_29 : decode cX0_addPair 29 = .ok (.aload_n 0, 1) := by decide +kernel
theorem dX0_addPair_30 : decode cX0_addPair 30 = .ok (.getfield 62, 3) := by decide +kernel
theorem dX0_addPair_33 : decode cX0_addPair 33 = .ok (.getfield 139, 3) := by decide +kernel
theorem dX0_addPair_36 : decode cX0_addPair 36 = .ok (.iload_n 3, 1) := by decide +kernel
theorem dX0_addPair_37 : decode cX0_addPair 37 = .ok (.if_icmp .le 15, 3) := by decide +kernel
theorem dX0_addPair_40 : decode cX0_addPair 40 = .ok (.aload_n 0, 1) := by decide +kernel
theorem dX0_addPair_41 : decode cX0_addPair 41 = .ok (.getfield 56, 3) := by decide +kernel
theorem dX0_addPair_44 : decode cX0_addPair 44 = .ok (.iload_n 3, 1) := by decide +kernel
theorem dX0_addPair_45 : decode cX0_addPair 45 = .ok (.iload_n 1, 1) := by decide +kernel
theorem dX0_addPair_46 : decode cX0_addPair 46 = .ok (.bipush 64, 2) := by decide +kernel
theorem dX0_addPair_48 : decode cX0_addPair 48 = .ok (.imul, 1) := by decide +kernel
theorem dX0_addPair_49 : decode cX0_addPair 49 = .ok (.iload_n 2, 1) := by decide +kernel
theorem dX0_addPair_50 : decode cX0_addPair 50 = .ok (.iadd, 1) := by decide +kernel
theorem dX0_addPair_51 : decode cX0_addPair 51 = .ok (.iastore, 1) := by decide +kernel
theorem dX0_addPair_52 : decode cX0_addPair 52 = .ok (.return_, 1) := by decide +kernel
theorem dX0_fillLanguages_0 : decode cX0_fillLanguages 0 = .ok (.aload_n 0, 1) := by decide +kernel
theorem dX0_fillLanguages_1 : decode cX0_fillLanguages 1 = .ok (.getfield 49, 3) := by decide +kernel
theorem dX0_fillLanguages_4 : decode cX0_fillLanguages 4 = .ok (.iconst 0, 1) := by decide +kernel
theorem dX0_fillLanguages_5 : decode cX0_fillLanguages 5 = .ok (.aload_n 0, 1) := by decide +kernel
theorem dX0_fillLanguages_6 : decode cX0_fillLanguages 6 = .ok (.getfield 39, 3) := by decide +kernel
theorem dX0_fillLanguages_9 : decode cX0_fillLanguages 9 = .ok (.lastore, 1) := by decide +kernel
theorem dX0_fillLanguages_10 : decode cX0_fillLanguages 10 = .ok (.aload_n 0, 1) := by decide +kernel
theorem dX0_fillLanguages_11 : decode cX0_fillLanguages 11 = .ok (.getfield 53, 3) := by decide +kernel
theorem dX0_fillLanguages_14 : decode cX0_fillLanguages 14 = .ok (.iconst 0, 1) := by decide +kernel
theorem dX0_fillLanguages_15 : decode cX0_fillLanguages 15 = .ok (.aload_n 0, 1) := by decide +kernel
theorem dX0_fillLanguages_16 : decode cX0_fillLanguages 16 = .ok (.getfield 39, 3) := by decide +kernel
theorem dX0_fillLanguages_19 : decode cX0_fillLanguages 19 = .ok (.lastore, 1) := by decide +kernel
theorem dX0_fillLanguages_20 : decode cX0_fillLanguages 20 = .ok (.iconst 1, 1) := by decide +kernel
theorem dX0_fillLanguages_21 : decode cX0_fillLanguages 21 = .ok (.istore_n 1, 1) := by decide +kernel
theorem dX0_fillLanguages_22 : decode cX0_fillLanguages 22 = .ok (.iload_n 1, 1) := by decide +kernel
theorem dX0_fillLanguages_23 : decode cX0_fillLanguages 23 = .ok (.iconst 1, 1) := by decide +kernel
theorem dX0_fillLanguages_24 : decode cX0_fillLanguages 24 = .ok (.aload_n 0, 1) := by decide +kernel
theorem dX0_fillLanguages_25 : decode cX0_fillLanguages 25 = .ok (.getfield 12, 3) := by decide +kernel
theorem dX0_fillLanguages_28 : decode cX0_fillLanguages 28 = .ok (.getfield 132, 3) := by decide +kernel
theorem dX0_fillLanguages_31 : decode cX0_fillLanguages 31 = .ok (.ishl, 1) := by decide +kernel
theorem dX0_fillLanguages_32 : decode cX0_fillLanguages 32 = .ok (.if_icmp .ge 97, 3) := by decide +kernel
theorem dX0_fillLanguages_35 : decode cX0_fillLanguages 35 = .ok (.iload_n 1, 1) := by decide +kernel
theorem dX0_fillLanguages_36 : decode cX0_fillLanguages 36 = .ok (.iload_n 1, 1) := by decide +kernel
theorem dX0_fillLanguages_37 : decode cX0_fillLanguages 37 = .ok (.iconst 1, 1) := by decide +kernel
theorem dX0_fillLanguages_38 : decode cX0_fillLanguages 38 = .ok (.isub, 1) := by decide +kernel
theorem dX0_fillLanguages_39 : decode cX0_fillLanguages 39 = .ok (.iand, 1) := by decide +kernel
theorem dX0_fillLanguages_40 : decode cX0_fillLanguages 40 = .ok (.istore_n 2, 1) := by decide +kernel
theorem dX0_fillLanguages_41 : decode cX0_fillLanguages 41 = .ok (.iload_n 1, 1) := by decide +kernel
theorem dX0_fillLanguages_42 : decode cX0_fillLanguages 42 = .ok (.iload_n 1, 1) := by decide +kernel
theorem dX0_fillLanguages_43 : decode cX0_fillLanguages 43 = .ok (.ineg, 1) := by decide +kernel
theorem dX0_fillLanguages_44 : decode cX0_fillLanguages 44 = .ok (.iand, 1) := by decide +kernel
theorem dX0_fillLanguages_45 : decode cX0_fillLanguages 45 = .ok (.istore_n 3, 1) := by decide +kernel
theorem dX0_fillLanguages_46 : decode cX0_fillLanguages 46 = .ok (.iload_n 2, 1) := by decide +kernel
theorem dX0_fillLanguages_47 : decode cX0_fillLanguages 47 = .ok (.ifCond .ne 38, 3) := by decide +kernel
theorem dX0_fillLanguages_50 : decode cX0_fillLanguages 50 = .ok (.aload_n 0, 1) := by decide +kernel
theorem dX0_fillLanguages_51 : decode cX0_fillLanguages 51 = .ok (.getfield 49, 3) := by decide +kernel
theorem dX0_fillLanguages_54 : decode cX0_fillLanguages 54 = .ok (.iload_n 1, 1) := by decide +kernel
theorem dX0_fillLanguages_55 : decode cX0_fillLanguages 55 = .ok (.aload_n 0, 1) := by decide +kernel
theorem dX0_fillLanguages_56 : decode cX0_fillLanguages 56 = .ok (.iload_n 1, 1) := by decide +kernel
theorem dX0_fillLanguages_57 : decode cX0_fillLanguages 57 = .ok (.invokevirtual 143, 3) := by decide +kernel
theorem dX0_fillLanguages_60 : decode cX0_fillLanguages 60 = .ok (.lastore, 1) := by decide +kernel
theorem dX0_fillLanguages_61 : decode cX0_fillLanguages 61 = .ok (.aload_n 0, 1) := by decide +kernel
theorem dX0_fillLanguages_62 : decode cX0_fillLanguages 62 = .ok (.getfield 53, 3) := by decide +kernel
theorem dX0_fillLanguages_65 : decode cX0_fillLanguages 65 = .ok (.iload_n 1, 1) := by decide +kernel
theorem dX0_fillLanguages_66 : decode cX0_fillLanguages 66 = .ok (.aload_n 0, 1) := by decide +kernel
theorem dX0_fillLanguages_67 : decode cX0_fillLanguages 67 = .ok (.getfield 39, 3) := by decide +kernel
theorem dX0_fillLanguages_70 : decode cX0_fillLanguages 70 = .ok (.aload_n 0, 1) := by decide +kernel
theorem dX0_fillLanguages_71 : decode cX0_fillLanguages 71 = .ok (.getfield 49, 3) := by decide +kernel
theorem dX0_fillLanguages_74 : decode cX0_fillLanguages 74 = .ok (.iload_n 1, 1) := by decide +kernel
theorem dX0_fillLanguages_75 : decode cX0_fillLanguages 75 = .ok (.laload, 1) := by decide +kernel
theorem dX0_fillLanguages_76 : decode cX0_fillLanguages 76 = .ok (.ldc2_w 147, 3) := by decide +kernel
theorem dX0_fillLanguages_79 : decode cX0_fillLanguages 79 = .ok (.lxor, 1) := by decide +kernel
theorem dX0_fillLanguages_80 : decode cX0_fillLanguages 80 = .ok (.land, 1) := by decide +kernel
theorem dX0_fillLanguages_81 : decode cX0_fillLanguages 81 = .ok (.lastore, 1) := by decide +kernel
theorem dX0_fillLanguages_82 : decode cX0_fillLanguages 82 = .ok (.goto 41, 3) := by decide +kernel
theorem dX0_fillLanguages_85 : decode cX0_fillLanguages 85 = .ok (.aload_n 0, 1) := by decide +kernel
theorem dX0_fillLanguages_86 : decode cX0_fillLanguages 86 = .ok (.getfield 49, 3) := by decide +kernel
theorem dX0_fillLanguages_89 : decode cX0_fillLanguages 89 = .ok (.iload_n 1, 1) := by decide +kernel
theorem dX0_fillLanguages_90 : decode cX0_fillLanguages 90 = .ok (.aload_n 0, 1) := by decide +kernel
theorem dX0_fillLanguages_91 : decode cX0_fillLanguages 91 = .ok (.getfield 49, 3) := by decide +kernel
theorem dX0_fillLanguages_94 : decode cX0_fillLanguages 94 = .ok (.iload_n 2, 1) := by decide +kernel
theorem dX0_fillLanguages_95 : decode cX0_fillLanguages 95 = .ok (.laload, 1) := by decide +kernel
theorem dX0_fillLanguages_96 : decode cX0_fillLanguages 96 = .ok (.aload_n 0, 1) := by decide +kernel
theorem dX0_fillLanguages_97 : decode cX0_fillLanguages 97 = .ok (.getfield 49, 3) := by decide +kernel
theorem dX0_fillLanguages_100 : decode cX0_fillLanguages 100 = .ok (.iload_n 3, 1) := by decide +kernel
theorem dX0_fillLanguages_101 : decode cX0_fillLanguages 101 = .ok (.laload, 1) := by decide +kernel
theorem dX0_fillLanguages_102 : decode cX0_fillLanguages 102 = .ok (.land, 1) := by decide +kernel
theorem dX0_fillLanguages_103 : decode cX0_fillLanguages 103 = .ok (.lastore, 1) := by decide +kernel
theorem dX0_fillLanguages_104 : decode cX0_fillLanguages 104 = .ok (.aload_n 0, 1) := by decide +kernel
theorem dX0_fillLanguages_105 : decode cX0_fillLanguages 105 = .ok (.getfield 53, 3) := by decide +kernel
theorem dX0_fillLanguages_108 : decode cX0_fillLanguages 108 = .ok (.iload_n 1, 1) := by decide +kernel
theorem dX0_fillLanguages_109 : decode cX0_fillLanguages 109 = .ok (.aload_n 0, 1) := by decide +kernel
theorem dX0_fillLanguages_110 : decode cX0_fillLanguages 110 = .ok (.getfield 53, 3) := by decide +kernel
theorem dX0_fillLanguages_113 : decode cX0_fillLanguages 113 = .ok (.iload_n 2, 1) := by decide +kernel
theorem dX0_fillLanguages_114 : decode cX0_fillLanguages 114 = .ok (.laload, 1) := by decide +kernel
theorem dX0_fillLanguages_115 : decode cX0_fillLanguages 115 = .ok (.aload_n 0, 1) := by decide +kernel
theorem dX0_fillLanguages_116 : decode cX0_fillLanguages 116 = .ok (.getfield 53, 3) := by decide +kernel
theorem dX0_fillLanguages_119 : decode cX0_fillLanguages 119 = .ok (.iload_n 3, 1) := by decide +kernel
theorem dX0_fillLanguages_120 : decode cX0_fillLanguages 120 = .ok (.laload, 1) := by decide +kernel
theorem dX0_fillLanguages_121 : decode cX0_fillLanguages 121 = .ok (.land, 1) := by decide +kernel
theorem dX0_fillLanguages_122 : decode cX0_fillLanguages 122 = .ok (.lastore, 1) := by decide +kernel
theorem dX0_fillLanguages_123 : decode cX0_fillLanguages 123 = .ok (.iinc 1 1, 3) := by decide +kernel
theorem dX0_fillLanguages_126 : decode cX0_fillLanguages 126 = .ok (.goto (-104), 3) := by decide +kernel
theorem dX0_fillLanguages_129 : decode cX0_fillLanguages 129 = .ok (.return_, 1) := by decide +kernel
theorem dX0_atomsWith_0 : decode cX0_atomsWith 0 = .ok (.lconst 0, 1) := by decide +kernel
theorem dX0_atomsWith_1 : decode cX0_atomsWith 1 = .ok (.lstore_n 2, 1) := by decide +kernel
theorem dX0_atomsWith_2 : decode cX0_atomsWith 2 = .ok (.iconst 0, 1) := by decide +kernel
theorem dX0_atomsWith_3 : decode cX0_atomsWith 3 = .ok (.istore 4, 2) := by decide +kernel
theorem dX0_atomsWith_5 : decode cX0_atomsWith 5 = .ok (.iload 4, 2) := by decide +kernel
theorem dX0_atomsWith_7 : decode cX0_atomsWith 7 = .ok (.aload_n 0, 1) := by decide +kernel
theorem dX0_atomsWith_8 : decode cX0_atomsWith 8 = .ok (.getfield 31, 3) := by decide +kernel
theorem dX0_atomsWith_11 : decode cX0_atomsWith 11 = .ok (.if_icmp .ge 33, 3) := by decide +kernel
theorem dX0_atomsWith_14 : decode cX0_atomsWith 14 = .ok (.aload_n 0, 1) := by decide +kernel
theorem dX0_atomsWith_15 : decode cX0_atomsWith 15 = .ok (.getfield 35, 3) := by decide +kernel
theorem dX0_atomsWith_18 : decode cX0_atomsWith 18 = .ok (.iload 4, 2) := by decide +kernel
theorem dX0_atomsWith_20 : decode cX0_atomsWith 20 = .ok (.iaload, 1) := by decide +kernel
theorem dX0_atomsWith_21 : decode cX0_atomsWith 21 = .ok (.iload_n 1, 1) := by decide +kernel
theorem dX0_atomsWith_22 : decode cX0_atomsWith 22 = .ok (.iand, 1) := by decide +kernel
theorem dX0_atomsWith_23 : decode cX0_atomsWith 23 = .ok (.ifCond .eq 15, 3) := by decide +kernel
theorem dX0_atomsWith_26 : decode cX0_atomsWith 26 = .ok (.lload_n 2, 1) := by decide +kernel
theorem dX0_atomsWith_27 : decode cX0_atomsWith 27 = .ok (.lconst 1, 1) := by decide +kernel
theorem dX0_atomsWith_28 : decode cX0_atomsWith 28 = .ok (.aload_n 0, 1) := by decide +kernel
theorem dX0_atomsWith_29 : decode cX0_atomsWith 29 = .ok (.getfield 35, 3) := by decide +kernel
theorem dX0_atomsWith_32 : decode cX0_atomsWith 32 = .ok (.iload 4, 2) := by decide +kernel
theorem dX0_atomsWith_34 : decode cX0_atomsWith 34 = .ok (.iaload, 1) := by decide +kernel
theorem dX0_atomsWith_35 : decode cX0_atomsWith 35 = .ok (.lshl, 1) := by decide +kernel
theorem dX0_atomsWith_36 : decode cX0_atomsWith 36 = .ok (.lor, 1) := by decide +kernel
theorem dX0_atomsWith_37 : decode cX0_atomsWith 37 = .ok (.lstore_n 2, 1) := by decide +kernel
theorem dX0_atomsWith_38 : decode cX0_atomsWith 38 = .ok (.iinc 4 1, 3) := by decide +kernel
theorem dX0_atomsWith_41 : decode cX0_atomsWith 41 = .ok (.goto (-36), 3) := by decide +kernel
theorem dX0_atomsWith_44 : decode cX0_atomsWith 44 = .ok (.lload_n 2, 1) := by decide +kernel
theorem dX0_atomsWith_45 : decode cX0_atomsWith 45 = .ok (.lreturn, 1) := by decide +kernel
theorem dX0_writeUnion_0 : decode cX0_writeUnion 0 = .ok (.aload_n 0, 1) := by decide +kernel
theorem dX0_writeUnion_1 : decode cX0_writeUnion 1 = .ok (.getfield 62, 3) := by decide +kernel
theorem dX0_writeUnion_4 : decode cX0_writeUnion 4 = .ok (.bipush 7, 2) := by decide +kernel
theorem dX0_writeUnion_6 : decode cX0_writeUnion 6 = .ok (.invokevirtual 127, 3) := by decide +kernel
theorem dX0_writeUnion_9 : decode cX0_writeUnion 9 = .ok (.aload_n 0, 1) := by decide +kernel
theorem dX0_writeUnion_10 : decode cX0_writeUnion 10 = .ok (.getfield 62, 3) := by decide +kernel
theorem dX0_writeUnion_13 : decode cX0_writeUnion 13 = .ok (.aload_n 0, 1) := by decide +kernel
theorem dX0_writeUnion_14 : decode cX0_writeUnion 14 = .ok (.lload_n 1, 1) := by decide +kernel
theorem dX0_writeUnion_15 : decode cX0_writeUnion 15 = .ok (.invokevirtual 149, 3) := by decide +kernel
theorem dX0_writeUnion_18 : decode cX0_writeUnion 18 = .ok (.invokevirtual 140, 3) := by decide +kernel
theorem dX0_writeUnion_21 : decode cX0_writeUnion 21 = .ok (.pop, 1) := by decide +kernel
theorem dX0_writeUnion_22 : decode cX0_writeUnion 22 = .ok (.aload_n 3, 1) := by decide +kernel
theorem dX0_writeUnion_23 : decode cX0_writeUnion 23 = .ok (.iconst 1, 1) := by decide +kernel
theorem dX0_writeUnion_24 : decode cX0_writeUnion 24 = .ok (.invokevirtual 153, 3) := by decide +kernel
theorem dX0_writeUnion_27 : decode cX0_writeUnion 27 = .ok (.iconst 0, 1) := by decide +kernel
theorem dX0_writeUnion_28 : decode cX0_writeUnion 28 = .ok (.istore 4, 2) := by decide +kernel
theorem dX0_writeUnion_30 : decode cX0_writeUnion 30 = .ok (.iload 4, 2) := by decide +kernel
theorem dX0_writeUnion_32 : decode cX0_writeUnion 32 = .ok (.aload_n 0, 1) := by decide +kernel
theorem dX0_writeUnion_33 : decode cX0_writeUnion 33 = .ok (.getfield 62, 3) := by decide +kernel
theorem dX0_writeUnion_36 : decode cX0_writeUnion 36 = .ok (.getfield 139, 3) := by decide +kernel
theorem dX0_writeUnion_39 : decode cX0_writeUnion 39 = .ok (.if_icmp .ge 95, 3) := by decide +kernel
theorem dX0_writeUnion_42 : decode cX0_writeUnion 42 = .ok (.iload 4, 2) := by decide +kernel
theorem dX0_writeUnion_44 : decode cX0_writeUnion 44 = .ok (.bipush 6, 2) := by decide +kernel
theorem dX0_writeUnion_46 : decode cX0_writeUnion 46 = .ok (.if_icmp .ge 88, 3) := by decide +kernel
theorem dX0_writeUnion_49 : decode cX0_writeUnion 49 = .ok (.aload_n 0, 1) := by decide +kernel
theorem dX0_writeUnion_50 : decode cX0_writeUnion 50 = .ok (.getfield 62, 3) := by decide +kernel
theorem dX0_writeUnion_53 : decode cX0_writeUnion 53 = .ok (.getfield 156, 3) := by decide +kernel
theorem dX0_writeUnion_56 : decode cX0_writeUnion 56 = .ok (.iload 4, 2) := by decide +kernel
theorem dX0_writeUnion_58 : decode cX0_writeUnion 58 = .ok (.laload, 1) := by decide +kernel
theorem dX0_writeUnion_59 : decode cX0_writeUnion 59 = .ok (.lstore 5, 2) := by decide +kernel
theorem dX0_writeUnion_61 : decode cX0_writeUnion 61 = .ok (.aload_n 3, 1) := by decide +kernel
theorem dX0_writeUnion_62 : decode cX0_writeUnion 62 = .ok (.iload 4, 2) := by decide +kernel
theorem dX0_writeUnion_64 : decode cX0_writeUnion 64 = .ok (.lload 5, 2) := by decide +kernel
theorem dX0_writeUnion_66 : decode cX0_writeUnion 66 = .ok (.aload_n 0, 1) := by decide +kernel
theorem dX0_writeUnion_67 : decode cX0_writeUnion 67 = .ok (.invokevirtual 77, 3) := by decide +kernel
theorem dX0_writeUnion_70 : decode cX0_writeUnion 70 = .ok (.invokestatic 88, 3) := by decide +kernel
theorem dX0_writeUnion_73 : decode cX0_writeUnion 73 = .ok (.invokevirtual 158, 3) := by decide +kernel
theorem dX0_writeUnion_76 : decode cX0_writeUnion 76 = .ok (.iconst 0, 1) := by decide +kernel
theorem dX0_writeUnion_77 : decode cX0_writeUnion 77 = .ok (.istore 7, 2) := by decide +kernel
theorem dX0_writeUnion_79 : decode cX0_writeUnion 79 = .ok (.iload 7, 2) := by decide +kernel
theorem dX0_writeUnion_81 : decode cX0_writeUnion 81 = .ok (.iconst 3, 1) := by decide +kernel
theorem dX0_writeUnion_82 : decode cX0_writeUnion 82 = .ok (.if_icmp .ge 46, 3) := by decide +kernel
theorem dX0_writeUnion_85 : decode cX0_writeUnion 85 = .ok (.aload_n 0, 1) := by decide +kernel
theorem dX0_writeUnion_86 : decode cX0_writeUnion 86 = .ok (.getfield 62, 3) := by decide +kernel
theorem dX0_writeUnion_89 : decode cX0_writeUnion 89 = .ok (.aload_n 0, 1) := by decide +kernel
theorem dX0_writeUnion_90 : decode cX0_writeUnion 90 = .ok (.lload 5, 2) := by decide +kernel
theorem dX0_writeUnion_92 : decode cX0_writeUnion 92 = .ok (.iload 7, 2) := by decide +kernel
theorem dX0_writeUnion_94 : decode cX0_writeUnion 94 = .ok (.invokevirtual 162, 3) := by decide +kernel
theorem dX0_writeUnion_97 : decode cX0_writeUnion 97 = .ok (.invokevirtual 140, 3) := by decide +kernel
theorem dX0_writeUnion_100 : decode cX0_writeUnion 100 = .ok (.istore 8, 2) := by decide +kernel
theorem dX0_writeUnion_102 : decode cX0_writeUnion 102 = .ok (.iload 8, 2) := by decide +kernel
theorem dX0_writeUnion_104 : decode cX0_writeUnion 104 = .ok (.bipush 6, 2) := by decide +kernel
theorem dX0_writeUnion_106 : decode cX0_writeUnion 106 = .ok (.if_icmp .lt 6, 3) := by decide +kernel
theorem dX0_writeUnion_109 : decode cX0_writeUnion 109 = .ok (.bipush 7, 2) := by decide +kernel
theorem dX0_writeUnion_111 : decode cX0_writeUnion 111 = .ok (.ireturn, 1) := by decide +kernel
theorem dX0_writeUnion_112 : decode cX0_writeUnion 112 = .ok (.aload_n 3, 1) := by decide +kernel
theorem dX0_writeUnion_113 : decode cX0_writeUnion 113 = .ok (.iload 4, 2) := by decide +kernel
theorem dX0_writeUnion_115 : decode cX0_writeUnion 115 = .ok (.iload 7, 2) := by decide +kernel
theorem dX0_writeUnion_117 : decode cX0_writeUnion 117 = .ok (.iload 8, 2) := by decide +kernel
theorem dX0_writeUnion_119 : decode cX0_writeUnion 119 = .ok (.invokevirtual 166, 3) := by decide +kernel
theorem dX0_writeUnion_122 : decode cX0_writeUnion 122 = .ok (.iinc 7 1, 3) := by decide +kernel
theorem dX0_writeUnion_125 : decode cX0_writeUnion 125 = .ok (.goto (-46), 3) := by decide +kernel
theorem dX0_writeUnion_128 : decode cX0_writeUnion 128 = .ok (.iinc 4 1, 3) := by decide +kernel
theorem dX0_writeUnion_131 : decode cX0_writeUnion 131 = .ok (.goto (-101), 3) := by decide +kernel
theorem dX0_writeUnion_134 : decode cX0_writeUnion 134 = .ok (.aload_n 3, 1) := by decide +kernel
theorem dX0_writeUnion_135 : decode cX0_writeUnion 135 = .ok (.aload_n 0, 1) := by decide +kernel
theorem dX0_writeUnion_136 : decode cX0_writeUnion 136 = .ok (.getfield 62, 3) := by decide +kernel
theorem dX0_writeUnion_139 : decode cX0_writeUnion 139 = .ok (.getfield 139, 3) := by decide +kernel
theorem dX0_writeUnion_142 : decode cX0_writeUnion 142 = .ok (.putfield 132, 3) := by decide +kernel
theorem dX0_writeUnion_145 : decode cX0_writeUnion 145 = .ok (.aload_n 0, 1) := by decide +kernel
theorem dX0_writeUnion_146 : decode cX0_writeUnion 146 = .ok (.getfield 62, 3) := by decide +kernel
theorem dX0_writeUnion_149 : decode cX0_writeUnion 149 = .ok (.getfield 139, 3) := by decide +kernel
theorem dX0_writeUnion_152 : decode cX0_writeUnion 152 = .ok (.ireturn, 1) := by decide +kernel
theorem dX0_languageOf_0 : decode cX0_languageOf 0 = .ok (.lconst 0, 1) := by decide +kernel
theorem dX0_languageOf_1 : decode cX0_languageOf 1 = .ok (.lstore_n 3, 1) := by decide +kernel
theorem dX0_languageOf_2 : decode cX0_languageOf 2 = .ok (.iconst 0, 1) := by decide +kernel
theorem dX0_languageOf_3 : decode cX0_languageOf 3 = .ok (.istore 5, 2) := by decide +kernel
theorem dX0_languageOf_5 : decode cX0_languageOf 5 = .ok (.iload 5, 2) := by decide +kernel
theorem dX0_languageOf_7 : decode cX0_languageOf 7 = .ok (.aload_n 0, 1) := by decide +kernel
theorem dX0_languageOf_8 : decode cX0_languageOf 8 = .ok (.getfield 31, 3) := by decide +kernel
theorem dX0_languageOf_11 : decode cX0_languageOf 11 = .ok (.if_icmp .ge 39, 3) := by decide +kernel
theorem dX0_languageOf_14 : decode cX0_languageOf 14 = .ok (.lload_n 1, 1) := by decide +kernel
theorem dX0_languageOf_15 : decode cX0_languageOf 15 = .ok (.aload_n 0, 1) := by decide +kernel
theorem dX0_languageOf_16 : decode cX0_languageOf 16 = .ok (.aload_n 0, 1) := by decide +kernel
theorem dX0_languageOf_17 : decode cX0_languageOf 17 = .ok (.getfield 35, 3) := by decide +kernel
theorem dX0_languageOf_20 : decode cX0_languageOf 20 = .ok (.iload 5, 2) := by decide +kernel
theorem dX0_languageOf_22 : decode cX0_languageOf 22 = .ok (.iaload, 1) := by decide +kernel
theorem dX0_languageOf_23 : decode cX0_languageOf 23 = .ok (.invokevirtual 106, 3) := by decide +kernel
theorem dX0_languageOf_26 : decode cX0_languageOf 26 = .ok (.invokestatic 88, 3) := by decide +kernel
theorem dX0_languageOf_29 : decode cX0_languageOf 29 = .ok (.ifCond .eq 15, 3) := by decide +kernel
theorem dX0_languageOf_32 : decode cX0_languageOf 32 = .ok (.lload_n 3, 1) := by decide +kernel
theorem dX0_languageOf_33 : decode cX0_languageOf 33 = .ok (.lconst 1, 1) := by decide +kernel
theorem dX0_languageOf_34 : decode cX0_languageOf 34 = .ok (.aload_n 0, 1) := by decide +kernel
theorem dX0_languageOf_35 : decode cX0_languageOf 35 = .ok (.getfield 35, 3) := by decide +kernel
theorem dX0_languageOf_38 : decode cX0_languageOf 38 = .ok (.iload 5, 2) := by decide +kernel
theorem dX0_languageOf_40 : decode cX0_languageOf 40 = .ok (.iaload, 1) := by decide +kernel
theorem dX0_languageOf_41 : decode cX0_languageOf 41 = .ok (.lshl, 1) := by decide +kernel
theorem dX0_languageOf_42 : decode cX0_languageOf 42 = .ok (.lor, 1) := by decide +kernel
theorem dX0_languageOf_43 : decode cX0_languageOf 43 = .ok (.lstore_n 3, 1) := by decide +kernel
theorem dX0_languageOf_44 : decode cX0_languageOf 44 = .ok (.iinc 5 1, 3) := by decide +kernel
theorem dX0_languageOf_47 : decode cX0_languageOf 47 = .ok (.goto (-42), 3) := by decide +kernel
theorem dX0_languageOf_50 : decode cX0_languageOf 50 = .ok (.lload_n 3, 1) := by decide +kernel
theorem dX0_languageOf_51 : decode cX0_languageOf 51 = .ok (.lreturn, 1) := by decide +kernel
theorem dX0_quotient_0 : decode cX0_quotient 0 = .ok (.lconst 0, 1) := by decide +kernel
theorem dX0_quotient_1 : decode cX0_quotient 1 = .ok (.lstore 4, 2) := by decide +kernel
theorem dX0_quotient_3 : decode cX0_quotient 3 = .ok (.iconst 0, 1) := by decide +kernel
theorem dX0_quotient_4 : decode cX0_quotient 4 = .ok (.istore 6, 2) := by decide +kernel
theorem dX0_quotient_6 : decode cX0_quotient 6 = .ok (.iload 6, 2) := by decide +kernel
theorem dX0_quotient_8 : decode cX0_quotient 8 = .ok (.aload_n 0, 1) := by decide +kernel
theorem dX0_quotient_9 : decode cX0_quotient 9 = .ok (.getfield 31, 3) := by decide +kernel
theorem dX0_quotient_12 : decode cX0_quotient 12 = .ok (.if_icmp .ge 42, 3) := by decide +kernel
theorem dX0_quotient_15 : decode cX0_quotient 15 = .ok (.lload_n 1, 1) := by decide +kernel
theorem dX0_quotient_16 : decode cX0_quotient 16 = .ok (.aload_n 0, 1) := by decide +kernel
theorem dX0_quotient_17 : decode cX0_quotient 17 = .ok (.aload_n 0, 1) := by decide +kernel
theorem dX0_quotient_18 : decode cX0_quotient 18 = .ok (.getfield 35, 3) := by decide +kernel
theorem dX0_quotient_21 : decode cX0_quotient 21 = .ok (.iload 6, 2) := by decide +kernel
theorem dX0_quotient_23 : decode cX0_quotient 23 = .ok (.iaload, 1) := by decide +kernel
theorem dX0_quotient_24 : decode cX0_quotient 24 = .ok (.iload_n 3, 1) := by decide +kernel
theorem dX0_quotient_25 : decode cX0_quotient 25 = .ok (.invokevirtual 85, 3) := by decide +kernel
theorem dX0_quotient_28 : decode cX0_quotient 28 = .ok (.invokestatic 88, 3) := by decide +kernel
theorem dX0_quotient_31 : decode cX0_quotient 31 = .ok (.ifCond .eq 17, 3) := by decide +kernel
theorem dX0_quotient_34 : decode cX0_quotient 34 = .ok (.lload 4, 2) := by decide +kernel
theorem dX0_quotient_36 : decode cX0_quotient 36 = .ok (.lconst 1, 1) := by decide +kernel
theorem dX0_quotient_37 : decode cX0_quotient 37 = .ok (.aload_n 0, 1) := by decide +kernel
theorem dX0_quotient_38 : decode cX0_quotient 38 = .ok (.getfield 35, 3) := by decide +kernel
theorem dX0_quotient_41 : decode cX0_quotient 41 = .ok (.iload 6, 2) := by decide +kernel
theorem dX0_quotient_43 : decode cX0_quotient 43 = .ok (.iaload, 1) := by decide +kernel
theorem dX0_quotient_44 : decode cX0_quotient 44 = .ok (.lshl, 1) := by decide +kernel
theorem dX0_quotient_45 : decode cX0_quotient 45 = .ok (.lor, 1) := by decide +kernel
theorem dX0_quotient_46 : decode cX0_quotient 46 = .ok (.lstore 4, 2) := by decide +kernel
theorem dX0_quotient_48 : decode cX0_quotient 48 = .ok (.iinc 6 1, 3) := by decide +kernel
theorem dX0_quotient_51 : decode cX0_quotient 51 = .ok (.goto (-45), 3) := by decide +kernel
theorem dX0_quotient_54 : decode cX0_quotient 54 = .ok (.lload 4, 2) := by decide +kernel
theorem dX0_quotient_56 : decode cX0_quotient 56 = .ok (.lreturn, 1) := by decide +kernel
theorem dX0_determine_0 : decode cX0_determine 0 = .ok (.aload_n 0, 1) := by decide +kernel
theorem dX0_determine_1 : decode cX0_determine 1 = .ok (.getfield 28, 3) := by decide +kernel
theorem dX0_determine_4 : decode cX0_determine 4 = .ok (.aload_n 1, 1) := by decide +kernel
theorem dX0_determine_5 : decode cX0_determine 5 = .ok (.invokevirtual 73, 3) := by decide +kernel
theorem dX0_determine_8 : decode cX0_determine 8 = .ok (.iconst 0, 1) := by decide +kernel
theorem dX0_determine_9 : decode cX0_determine 9 = .ok (.istore_n 2, 1) := by decide +kernel
theorem dX0_determine_10 : decode cX0_determine 10 = .ok (.iload_n 2, 1) := by decide +kernel
theorem dX0_determine_11 : decode cX0_determine 11 = .ok (.bipush 64, 2) := by decide +kernel
theorem dX0_determine_13 : decode cX0_determine 13 = .ok (.if_icmp .ge 16, 3) := by decide +kernel
theorem dX0_determine_16 : decode cX0_determine 16 = .ok (.aload_n 0, 1) := by decide +kernel
theorem dX0_determine_17 : decode cX0_determine 17 = .ok (.getfield 59, 3) := by decide +kernel
theorem dX0_determine_20 : decode cX0_determine 20 = .ok (.iload_n 2, 1) := by decide +kernel
theorem dX0_determine_21 : decode cX0_determine 21 = .ok (.iconst (-1), 1) := by decide +kernel
theorem dX0_determine_22 : decode cX0_determine 22 = .ok (.iastore, 1) := by decide +kernel
theorem dX0_determine_23 : decode cX0_determine 23 = .ok (.iinc 2 1, 3) := by decide +kernel
theorem dX0_determine_26 : decode cX0_determine 26 = .ok (.goto (-16), 3) := by decide +kernel
theorem dX0_determine_29 : decode cX0_determine 29 = .ok (.aload_n 0, 1) := by decide +kernel
theorem dX0_determine_30 : decode cX0_determine 30 = .ok (.getfield 59, 3) := by decide +kernel
theorem dX0_determine_33 : decode cX0_determine 33 = .ok (.aload_n 0, 1) := by decide +kernel
theorem dX0_determine_34 : decode cX0_determine 34 = .ok (.invokevirtual 77, 3) := by decide +kernel
theorem dX0_determine_37 : decode cX0_determine 37 = .ok (.aload_n 1, 1) := by decide +kernel
theorem dX0_determine_38 : decode cX0_determine 38 = .ok (.getfield 66, 3) := by decide +kernel
theorem dX0_determine_41 : decode cX0_determine 41 = .ok (.iastore, 1) := by decide +kernel
theorem dX0_determine_42 : decode cX0_determine 42 = .ok (.iconst 0, 1) := by decide +kernel
theorem dX0_determine_43 : decode cX0_determine 43 = .ok (.istore_n 2, 1) := by decide +kernel
theorem dX0_determine_44 : decode cX0_determine 44 = .ok (.iload_n 2, 1) := by decide +kernel
theorem dX0_determine_45 : decode cX0_determine 45 = .ok (.aload_n 0, 1) := by decide +kernel
theorem dX0_determine_46 : decode cX0_determine 46 = .ok (.getfield 31, 3) := by decide +kernel
theorem dX0_determine_49 : decode cX0_determine 49 = .ok (.if_icmp .ge 93, 3) := by decide +kernel
theorem dX0_determine_52 : decode cX0_determine 52 = .ok (.iconst 0, 1) := by decide +kernel
theorem dX0_determine_53 : decode cX0_determine 53 = .ok (.istore_n 3, 1) := by decide +kernel
theorem dX0_determine_54 : decode cX0_determine 54 = .ok (.iload_n 3, 1) := by decide +kernel
theorem dX0_determine_55 : decode cX0_determine 55 = .ok (.iconst 3, 1) := by decide +kernel
theorem dX0_determine_56 : decode cX0_determine 56 = .ok (.if_icmp .ge 80, 3) := by decide +kernel
theorem dX0_determine_59 : decode cX0_determine 59 = .ok (.aload_n 0, 1) := by decide +kernel
theorem dX0_determine_60 : decode cX0_determine 60 = .ok (.aload_n 0, 1) := by decide +kernel
theorem dX0_determine_61 : decode cX0_determine 61 = .ok (.getfield 35, 3) := by decide +kernel
theorem dX0_determine_64 : decode cX0_determine 64 = .ok (.iload_n 2, 1) := by decide +kernel
theorem dX0_determine_65 : decode cX0_determine 65 = .ok (.iaload, 1) := by decide +kernel
theorem dX0_determine_66 : decode cX0_determine 66 = .ok (.iload_n 3, 1) := by decide +kernel
theorem dX0_determine_67 : decode cX0_determine 67 = .ok (.invokevirtual 85, 3) := by decide +kernel
theorem dX0_determine_70 : decode cX0_determine 70 = .ok (.istore 4, 2) := by decide +kernel
theorem dX0_determine_72 : decode cX0_determine 72 = .ok (.aload_n 0, 1) := by decide +kernel
theorem dX0_determine_73 : decode cX0_determine 73 = .ok (.getfield 28, 3) := by decide +kernel
theorem dX0_determine_76 : decode cX0_determine 76 = .ok (.iload_n 3, 1) := by decide +kernel
theorem dX0_determine_77 : decode cX0_determine 77 = .ok (.aload_n 0, 1) := by decide +kernel
theorem dX0_determine_78 : decode cX0_determine 78 = .ok (.getfield 59, 3) := by decide +kernel
theorem dX0_determine_81 : decode cX0_determine 81 = .ok (.aload_n 0, 1) := by decide +kernel
theorem dX0_determine_82 : decode cX0_determine 82 = .ok (.getfield 35, 3) := by decide +kernel
theorem dX0_determine_85 : decode cX0_determine 85 = .ok (.iload_n 2, 1) := by decide +kernel
theorem dX0_determine_86 : decode cX0_determine 86 = .ok (.iaload, 1) := by decide +kernel
theorem dX0_determine_87 : decode cX0_determine 87 = .ok (.iaload, 1) := by decide +kernel
theorem dX0_determine_88 : decode cX0_determine 88 = .ok (.invokevirtual 69, 3) := by decide +kernel
theorem dX0_determine_91 : decode cX0_determine 91 = .ok (.istore 5, 2) := by decide +kernel
theorem dX0_determine_93 : decode cX0_determine 93 = .ok (.aload_n 0, 1) := by decide +kernel
theorem dX0_determine_94 : decode cX0_determine 94 = .ok (.getfield 59, 3) := by decide +kernel
theorem dX0_determine_97 : decode cX0_determine 97 = .ok (.iload 4, 2) := by decide +kernel
theorem dX0_determine_99 : decode cX0_determine 99 = .ok (.iaload, 1) := by decide +kernel
theorem dX0_determine_100 : decode cX0_determine 100 = .ok (.iconst (-1), 1) := by decide +kernel
theorem dX0_determine_101 : decode cX0_determine 101 = .ok (.if_icmp .ne 15, 3) := by decide +kernel
theorem dX0_determine_104 : decode cX0_determine 104 = .ok (.aload_n 0, 1) := by decide +kernel
theorem dX0_determine_105 : decode cX0_determine 105 = .ok (.getfield 59, 3) := by decide +kernel
theorem dX0_determine_108 : decode cX0_determine 108 = .ok (.iload 4, 2) := by decide +kernel
theorem dX0_determine_110 : decode cX0_determine 110 = .ok (.iload 5, 2) := by decide +kernel
theorem dX0_determine_112 : decode cX0_determine 112 = .ok (.iastore, 1) := by decide +kernel
theorem dX0_determine_113 : decode cX0_determine 113 = .ok (.goto 17, 3) := by decide +kernel
theorem dX0_determine_116 : decode cX0_determine 116 = .ok (.aload_n 0, 1) := by decide +kernel
theorem dX0_determine_117 : decode cX0_determine 117 = .ok (.getfield 59, 3) := by decide +kernel
theorem dX0_determine_120 : decode cX0_determine 120 = .ok (.iload 4, 2) := by decide +kernel
theorem dX0_determine_122 : decode cX0_determine 122 = .ok (.iaload, 1) := by decide +kernel
theorem dX0_determine_123 : decode cX0_determine 123 = .ok (.iload 5, 2) := by decide +kernel
theorem dX0_determine_125 : decode cX0_determine 125 = .ok (.if_icmp .eq 5, 3) := by decide +kernel
theorem dX0_determine_128 : decode cX0_determine 128 = .ok (.iconst 0, 1) := by decide +kernel
theorem dX0_determine_129 : decode cX0_determine 129 = .ok (.ireturn, 1) := by decide +kernel
theorem dX0_determine_130 : decode cX0_determine 130 = .ok (.iinc 3 1, 3) := by decide +kernel
theorem dX0_determine_133 : decode cX0_determine 133 = .ok (.goto (-79), 3) := by decide +kernel
theorem dX0_determine_136 : decode cX0_determine 136 = .ok (.iinc 2 1, 3) := by decide +kernel
theorem dX0_determine_139 : decode cX0_determine 139 = .ok (.goto (-95), 3) := by decide +kernel
theorem dX0_determine_142 : decode cX0_determine 142 = .ok (.iconst 1, 1) := by decide +kernel
theorem dX0_determine_143 : decode cX0_determine 143 = .ok (.ireturn, 1) := by decide +kernel
theorem dX1_init_0 : decode cX1_init 0 = .ok (.aload_n 0, 1) := by decide +kernel
theorem dX1_init_1 : decode cX1_init 1 = .ok (.invokespecial 3, 3) := by decide +kernel
theorem dX1_init_4 : decode cX1_init 4 = .ok (.aload_n 0, 1) := by decide +kernel
theorem dX1_init_5 : decode cX1_init 5 = .ok (.iconst 1, 1) := by decide +kernel
theorem dX1_init_6 : decode cX1_init 6 = .ok (.putfield 9, 3) := by decide +kernel
theorem dX1_init_9 : decode cX1_init 9 = .ok (.aload_n 0, 1) := by decide +kernel
theorem dX1_init_10 : decode cX1_init 10 = .ok (.bipush 18, 2) := by decide +kernel
theorem dX1_init_12 : decode cX1_init 12 = .ok (.newarray .int, 2) := by decide +kernel
theorem dX1_init_14 : decode cX1_init 14 = .ok (.putfield 15, 3) := by decide +kernel
theorem dX1_init_17 : decode cX1_init 17 = .ok (.aload_n 0, 1) := by decide +kernel
theorem dX1_init_18 : decode cX1_init 18 = .ok (.iconst 0, 1) := by decide +kernel
theorem dX1_init_19 : decode cX1_init 19 = .ok (.putfield 19, 3) := by decide +kernel
theorem dX1_init_22 : decode cX1_init 22 = .ok (.return_, 1) := by decide +kernel
theorem dX1_codeBound_0 : decode cX1_codeBound 0 = .ok (.bipush 6, 2) := by decide +kernel
theorem dX1_codeBound_2 : decode cX1_codeBound 2 = .ok (.ireturn, 1) := by decide +kernel
theorem dX1_startCode_0 : decode cX1_startCode 0 = .ok (.iconst 0, 1) := by decide +kernel
theorem dX1_startCode_1 : decode cX1_startCode 1 = .ok (.ireturn, 1) := by decide +kernel
theorem dX1_follow_0 : decode cX1_follow 0 = .ok (.aload_n 0, 1) := by decide +kernel
theorem dX1_follow_1 : decode cX1_follow 1 = .ok (.getfield 15, 3) := by decide +kernel
theorem dX1_follow_4 : decode cX1_follow 4 = .ok (.iload_n 1, 1) := by decide +kernel
theorem dX1_follow_5 : decode cX1_follow 5 = .ok (.iconst 3, 1) := by decide +kernel
theorem dX1_follow_6 : decode cX1_follow 6 = .ok (.imul, 1) := by decide +kernel
theorem dX1_follow_7 : decode cX1_follow 7 = .ok (.iload_n 2, 1) := by decide +kernel
theorem dX1_follow_8 : decode cX1_follow 8 = .ok (.iadd, 1) := by decide +kernel
theorem dX1_follow_9 : decode cX1_follow 9 = .ok (.iaload, 1) := by decide +kernel
theorem dX1_follow_10 : decode cX1_follow 10 = .ok (.ireturn, 1) := by decide +kernel
theorem dX1_isAccepting_0 : decode cX1_isAccepting 0 = .ok (.aload_n 0, 1) := by decide +kernel
theorem dX1_isAccepting_1 : decode cX1_isAccepting 1 = .ok (.getfield 19, 3) := by decide +kernel
theorem dX1_isAccepting_4 : decode cX1_isAccepting 4 = .ok (.iload_n 1, 1) := by decide +kernel
theorem dX1_isAccepting_5 : decode cX1_isAccepting 5 = .ok (.ishr, 1) := by decide +kernel
theorem dX1_isAccepting_6 : decode cX1_isAccepting 6 = .ok (.iconst 1, 1) := by decide +kernel
theorem dX1_isAccepting_7 : decode cX1_isAccepting 7 = .ok (.iand, 1) := by decide +kernel
theorem dX1_isAccepting_8 : decode cX1_isAccepting 8 = .ok (.iconst 1, 1) := by decide +kernel
theorem dX1_isAccepting_9 : decode cX1_isAccepting 9 = .ok (.if_icmp .ne 7, 3) := by decide +kernel
theorem dX1_isAccepting_12 : decode cX1_isAccepting 12 = .ok (.iconst 1, 1) := by decide +kernel
theorem dX1_isAccepting_13 : decode cX1_isAccepting 13 = .ok (.goto 4, 3) := by decide +kernel
theorem dX1_isAccepting_16 : decode cX1_isAccepting 16 = .ok (.iconst 0, 1) := by decide +kernel
theorem dX1_isAccepting_17 : decode cX1_isAccepting 17 = .ok (.ireturn, 1) := by decide +kernel
theorem dX1_clear_0 : decode cX1_clear 0 = .ok (.aload_n 0, 1) := by decide +kernel
theorem dX1_clear_1 : decode cX1_clear 1 = .ok (.iload_n 1, 1) := by decide +kernel
theorem dX1_clear_2 : decode cX1_clear 2 = .ok (.putfield 9, 3) := by decide +kernel
theorem dX1_clear_5 : decode cX1_clear 5 = .ok (.aload_n 0, 1) := by decide +kernel
theorem dX1_clear_6 : decode cX1_clear 6 = .ok (.iconst 0, 1) := by decide +kernel
theorem dX1_clear_7 : decode cX1_clear 7 = .ok (.putfield 19, 3) := by decide +kernel
theorem dX1_clear_10 : decode cX1_clear 10 = .ok (.iconst 0, 1) := by decide +kernel
theorem dX1_clear_11 : decode cX1_clear 11 = .ok (.istore_n 2, 1) := by decide +kernel
theorem dX1_clear_12 : decode cX1_clear 12 = .ok (.iload_n 2, 1) := by decide +kernel
theorem dX1_clear_13 : decode cX1_clear 13 = .ok (.bipush 18, 2) := by decide +kernel
theorem dX1_clear_15 : decode cX1_clear 15 = .ok (.if_icmp .ge 16, 3) := by decide +kernel
theorem dX1_clear_18 : decode cX1_clear 18 = .ok (.aload_n 0, 1) := by decide +kernel
theorem dX1_clear_19 : decode cX1_clear 19 = .ok (.getfield 15, 3) := by decide +kernel
theorem dX1_clear_22 : decode cX1_clear 22 = .ok (.iload_n 2, 1) := by decide +kernel
theorem dX1_clear_23 : decode cX1_clear 23 = .ok (.iconst 0, 1) := by decide +kernel
theorem dX1_clear_24 : decode cX1_clear 24 = .ok (.iastore, 1) := by decide +kernel
theorem dX1_clear_25 : decode cX1_clear 25 = .ok (.iinc 2 1, 3) := by decide +kernel
theorem dX1_clear_28 : decode cX1_clear 28 = .ok (.goto (-16), 3) := by decide +kernel
theorem dX1_clear_31 : decode cX1_clear 31 = .ok (.return_, 1) := by decide +kernel
theorem dX1_lead_0 : decode cX1_lead 0 = .ok (.aload_n 0, 1) := by decide +kernel
theorem dX1_lead_1 : decode cX1_lead 1 = .ok (.getfield 15, 3) := by decide +kernel
theorem dX1_lead_4 : decode cX1_lead 4 = .ok (.iload_n 1, 1) := by decide +kernel
theorem dX1_lead_5 : decode cX1_lead 5 = .ok (.iconst 3, 1) := by decide +kernel
theorem dX1_lead_6 : decode cX1_lead 6 = .ok (.imul, 1) := by decide +kernel
theorem dX1_lead_7 : decode cX1_lead 7 = .ok (.iload_n 2, 1) := by decide +kernel
theorem dX1_lead_8 : decode cX1_lead 8 = .ok (.iadd, 1) := by decide +kernel
theorem dX1_lead_9 : decode cX1_lead 9 = .ok (.iload_n 3, 1) := by decide +kernel
theorem dX1_lead_10 : decode cX1_lead 10 = .ok (.iastore, 1) := by decide +kernel
theorem dX1_lead_11 : decode cX1_lead 11 = .ok (.return_, 1) := by decide +kernel
theorem dX1_mark_0 : decode cX1_mark 0 = .ok (.aload_n 0, 1) := by decide +kernel
theorem dX1_mark_1 : decode cX1_mark 1 = .ok (.iload_n 2, 1) := by decide +kernel
theorem dX1_mark_2 : decode cX1_mark 2 = .ok (.ifCond .eq 14, 3) := by decide +kernel
theorem dX1_mark_5 : decode cX1_mark 5 = .ok (.aload_n 0, 1) := by decide +kernel
theorem dX1_mark_6 : decode cX1_mark 6 = .ok (.getfield 19, 3) := by decide +kernel
theorem dX1_mark_9 : decode cX1_mark 9 = .ok (.iconst 1, 1) := by decide +kernel
theorem dX1_mark_10 : decode cX1_mark 10 = .ok (.iload_n 1, 1) := by decide +kernel
theorem dX1_mark_11 : decode cX1_mark 11 = .ok (.ishl, 1) := by decide +kernel
theorem dX1_mark_12 : decode cX1_mark 12 = .ok (.ior, 1) := by decide +kernel
theorem dX1_mark_13 : decode cX1_mark 13 = .ok (.goto 13, 3) := by decide +kernel
theorem dX1_mark_16 : decode cX1_mark 16 = .ok (.aload_n 0, 1) := by decide +kernel
theorem dX1_mark_17 : decode cX1_mark 17 = .ok (.getfield 19, 3) := by decide +kernel
theorem dX1_mark_20 : decode cX1_mark 20 = .ok (.iconst 1, 1) := by decide +kernel
theorem dX1_mark_21 : decode cX1_mark 21 = .ok (.iload_n 1, 1) := by decide +kernel
theorem dX1_mark_22 : decode cX1_mark 22 = .ok (.ishl, 1) := by decide +kernel
theorem dX1_mark_23 : decode cX1_mark 23 = .ok (.iconst (-1), 1) := by decide +kernel
theorem dX1_mark_24 : decode cX1_mark 24 = .ok (.ixor, 1) := by decide +kernel
theorem dX1_mark_25 : decode cX1_mark 25 = .ok (.iand, 1) := by decide +kernel
theorem dX1_mark_26 : decode cX1_mark 26 = .ok (.putfield 19, 3) := by decide +kernel
theorem dX1_mark_29 : decode cX1_mark 29 = .ok (.return_, 1) := by decide +kernel
theorem dX1_copyFrom_0 : decode cX1_copyFrom 0 = .ok (.aload_n 0, 1) := by decide +kernel
theorem dX1_copyFrom_1 : decode cX1_copyFrom 1 = .ok (.aload_n 1, 1) := by decide +kernel
theorem dX1_copyFrom_2 : decode cX1_copyFrom 2 = .ok (.getfield 9, 3) := by decide +kernel
theorem dX1_copyFrom_5 : decode cX1_copyFrom 5 = .ok (.putfield 9, 3) := by decide +kernel
theorem dX1_copyFrom_8 : decode cX1_copyFrom 8 = .ok (.aload_n 0, 1) := by decide +kernel
theorem dX1_copyFrom_9 : decode cX1_copyFrom 9 = .ok (.aload_n 1, 1) := by decide +kernel
theorem dX1_copyFrom_10 : decode cX1_copyFrom 10 = .ok (.getfield 19, 3) := by decide +kernel
theorem dX1_copyFrom_13 : decode cX1_copyFrom 13 = .ok (.putfield 19, 3) := by decide +kernel
theorem dX1_copyFrom_16 : decode cX1_copyFrom 16 = .ok (.aload_n 1, 1) := by decide +kernel
theorem dX1_copyFrom_17 : decode cX1_copyFrom 17 = .ok (.getfield 15, 3) := by decide +kernel
theorem dX1_copyFrom_20 : decode cX1_copyFrom 20 = .ok (.iconst 0, 1) := by decide +kernel
theorem dX1_copyFrom_21 : decode cX1_copyFrom 21 = .ok (.aload_n 0, 1) := by decide +kernel
theorem dX1_copyFrom_22 : decode cX1_copyFrom 22 = .ok (.getfield 15, 3) := by decide +kernel
theorem dX1_copyFrom_25 : decode cX1_copyFrom 25 = .ok (.iconst 0, 1) := by decide +kernel
theorem dX1_copyFrom_26 : decode cX1_copyFrom 26 = .ok (.bipush 18, 2) := by decide +kernel
theorem dX1_copyFrom_28 : decode cX1_copyFrom 28 = .ok (.invokestatic 22, 3) := by decide +kernel
theorem dX1_copyFrom_31 : decode cX1_copyFrom 31 = .ok (.return_, 1) := by decide +kernel
theorem dX1_stateAfter_0 : decode cX1_stateAfter 0 = .ok (.iconst 0, 1) := by decide +kernel
theorem dX1_stateAfter_1 : decode cX1_stateAfter 1 = .ok (.istore_n 2, 1) := by decide +kernel
theorem dX1_stateAfter_2 : decode cX1_stateAfter 2 = .ok (.iconst 0, 1) := by decide +kernel
theorem dX1_stateAfter_3 : decode cX1_stateAfter 3 = .ok (.istore_n 3, 1) := by decide +kernel
theorem dX1_stateAfter_4 : decode cX1_stateAfter 4 = .ok (.iload_n 3, 1) := by decide +kernel
theorem dX1_stateAfter_5 : decode cX1_stateAfter 5 = .ok (.aload_n 1, 1) := by decide +kernel
theorem dX1_stateAfter_6 : decode cX1_stateAfter 6 = .ok (.getfield 28, 3) := by decide +kernel
theorem dX1_stateAfter_9 : decode cX1_stateAfter 9 = .ok (.if_icmp .ge 21, 3) := by decide +kernel
theorem dX1_stateAfter_12 : decode cX1_stateAfter 12 = .ok (.aload_n 0, 1) := by decide +kernel
theorem dX1_stateAfter_13 : decode cX1_stateAfter 13 = .ok (.iload_n 2, 1) := by decide +kernel
theorem dX1_stateAfter_14 : decode cX1_stateAfter 14 = .ok (.aload_n 1, 1) := by decide +kernel
theorem dX1_stateAfter_15 : decode cX1_stateAfter 15 = .ok (.getfield 33, 3) := by decide +kernel
theorem dX1_stateAfter_18 : decode cX1_stateAfter 18 = .ok (.iload_n 3, 1) := by decide +kernel
theorem dX1_stateAfter_19 : decode cX1_stateAfter 19 = .ok (.iaload, 1) := by decide +kernel
theorem dX1_stateAfter_20 : decode cX1_stateAfter 20 = .ok (.invokevirtual 36, 3) := by decide +kernel
theorem dX1_stateAfter_23 : decode cX1_stateAfter 23 = .ok (.istore_n 2, 1) := by decide +kernel
theorem dX1_stateAfter_24 : decode cX1_stateAfter 24 = .ok (.iinc 3 1, 3) := by decide +kernel
theorem dX1_stateAfter_27 : decode cX1_stateAfter 27 = .ok (.goto (-23), 3) := by decide +kernel
theorem dX1_stateAfter_30 : decode cX1_stateAfter 30 = .ok (.iload_n 2, 1) := by decide +kernel
theorem dX1_stateAfter_31 : decode cX1_stateAfter 31 = .ok (.ireturn, 1) := by decide +kernel
theorem dX1_drawAll_0 : decode cX1_drawAll 0 = .ok (.iload_n 1, 1) := by decide +kernel
theorem dX1_drawAll_1 : decode cX1_drawAll 1 = .ok (.istore_n 2, 1) := by decide +kernel
theorem dX1_drawAll_2 : decode cX1_drawAll 2 = .ok (.iconst 0, 1) := by decide +kernel
theorem dX1_drawAll_3 : decode cX1_drawAll 3 = .ok (.istore_n 3, 1) := by decide +kernel
theorem dX1_drawAll_4 : decode cX1_drawAll 4 = .ok (.iload_n 3, 1) := by decide +kernel
theorem dX1_drawAll_5 : decode cX1_drawAll 5 = .ok (.aload_n 0, 1) := by decide +kernel
theorem dX1_drawAll_6 : decode cX1_drawAll 6 = .ok (.getfield 9, 3) := by decide +kernel
theorem dX1_drawAll_9 : decode cX1_drawAll 9 = .ok (.iconst 3, 1) := by decide +kernel
theorem dX1_drawAll_10 : decode cX1_drawAll 10 = .ok (.imul, 1) := by decide +kernel
theorem dX1_drawAll_11 : decode cX1_drawAll 11 = .ok (.if_icmp .ge 28, 3) := by decide +kernel
theorem dX1_drawAll_14 : decode cX1_drawAll 14 = .ok (.iload_n 2, 1) := by decide +kernel
theorem dX1_drawAll_15 : decode cX1_drawAll 15 = .ok (.invokestatic 40, 3) := by decide +kernel
theorem dX1_drawAll_18 : decode cX1_drawAll 18 = .ok (.istore_n 2, 1) := by decide +kernel
theorem dX1_drawAll_19 : decode cX1_drawAll 19 = .ok (.aload_n 0, 1) := by decide +kernel
theorem dX1_drawAll_20 : decode cX1_drawAll 20 = .ok (.getfield 15, 3) := by decide +kernel
theorem dX1_drawAll_23 : decode cX1_drawAll 23 = .ok (.iload_n 3, 1) := by decide +kernel
theorem dX1_drawAll_24 : decode cX1_drawAll 24 = .ok (.iload_n 2, 1) := by decide +kernel
theorem dX1_drawAll_25 : decode cX1_drawAll 25 = .ok (.aload_n 0, 1) := by decide +kernel
theorem dX1_drawAll_26 : decode cX1_drawAll 26 = .ok (.getfield 9, 3) := by decide +kernel
theorem dX1_drawAll_29 : decode cX1_drawAll 29 = .ok (.invokestatic 44, 3) := by decide +kernel
theorem dX1_drawAll_32 : decode cX1_drawAll 32 = .ok (.iastore, 1) := by decide +kernel
theorem dX1_drawAll_33 : decode cX1_drawAll 33 = .ok (.iinc 3 1, 3) := by decide +kernel
theorem dX1_drawAll_36 : decode cX1_drawAll 36 = .ok (.goto (-32), 3) := by decide +kernel
theorem dX1_drawAll_39 : decode cX1_drawAll 39 = .ok (.iconst 0, 1) := by decide +kernel
theorem dX1_drawAll_40 : decode cX1_drawAll 40 = .ok (.istore_n 3, 1) := by decide +kernel
theorem dX1_drawAll_41 : decode cX1_drawAll 41 = .ok (.iload_n 3, 1) := by decide +kernel
theorem dX1_drawAll_42 : decode cX1_drawAll 42 = .ok (.aload_n 0, 1) := by decide +kernel
theorem dX1_drawAll_43 : decode cX1_drawAll 43 = .ok (.getfield 9, 3) := by decide +kernel
theorem dX1_drawAll_46 : decode cX1_drawAll 46 = .ok (.if_icmp .ge 33, 3) := by decide +kernel
theorem dX1_drawAll_49 : decode cX1_drawAll 49 = .ok (.iload_n 2, 1) := by decide +kernel
theorem dX1_drawAll_50 : decode cX1_drawAll 50 = .ok (.invokestatic 40, 3) := by decide +kernel
theorem dX1_drawAll_53 : decode cX1_drawAll 53 = .ok (.istore_n 2, 1) := by decide +kernel
theorem dX1_drawAll_54 : decode cX1_drawAll 54 = .ok (.aload_n 0, 1) := by decide +kernel
theorem dX1_drawAll_55 : decode cX1_drawAll 55 = .ok (.iload_n 3, 1) := by decide +kernel
theorem dX1_drawAll_56 : decode cX1_drawAll 56 = .ok (.iload_n 2, 1) := by decide +kernel
theorem dX1_drawAll_57 : decode cX1_drawAll 57 = .ok (.iconst 2, 1) := by decide +kernel
theorem dX1_drawAll_58 : decode cX1_drawAll 58 = .ok (.invokestatic 44, 3) := by decide +kernel
theorem dX1_drawAll_61 : decode cX1_drawAll 61 = .ok (.iconst 1, 1) := by decide +kernel
theorem dX1_drawAll_62 : decode cX1_drawAll 62 = .ok (.if_icmp .ne 7, 3) := by decide +kernel
theorem dX1_drawAll_65 : decode cX1_drawAll 65 = .ok (.iconst 1, 1) := by decide +kernel
theorem dX1_drawAll_66 : decode cX1_drawAll 66 = .ok (.goto 4, 3) := by decide +kernel
theorem dX1_drawAll_69 : decode cX1_drawAll 69 = .ok (.iconst 0, 1) := by decide +kernel
theorem dX1_drawAll_70 : decode cX1_drawAll 70 = .ok (.invokevirtual 47, 3) := by decide +kernel
theorem dX1_drawAll_73 : decode cX1_drawAll 73 = .ok (.iinc 3 1, 3) := by decide +kernel
theorem dX1_drawAll_76 : decode cX1_drawAll 76 = .ok (.goto (-35), 3) := by decide +kernel
theorem dX1_drawAll_79 : decode cX1_drawAll 79 = .ok (.return_, 1) := by decide +kernel
theorem dX1_nextValue_0 : decode cX1_nextValue 0 = .ok (.iload_n 0, 1) := by decide +kernel
theorem dX1_nextValue_1 : decode cX1_nextValue 1 = .ok (.ldc 51, 2) := by decide +kernel
theorem dX1_nextValue_3 : decode cX1_nextValue 3 = .ok (.imul, 1) := by decide +kernel
theorem dX1_nextValue_4 : decode cX1_nextValue 4 = .ok (.sipush 12345, 3) := by decide +kernel
theorem dX1_nextValue_7 : decode cX1_nextValue 7 = .ok (.iadd, 1) := by decide +kernel
theorem dX1_nextValue_8 : decode cX1_nextValue 8 = .ok (.ireturn, 1) := by decide +kernel
theorem dX1_draw_0 : decode cX1_draw 0 = .ok (.iload_n 1, 1) := by decide +kernel
theorem dX1_draw_1 : decode cX1_draw 1 = .ok (.ifCond .le 12, 3) := by decide +kernel
theorem dX1_draw_4 : decode cX1_draw 4 = .ok (.iload_n 0, 1) := by decide +kernel
theorem dX1_draw_5 : decode cX1_draw 5 = .ok (.bipush 16, 2) := by decide +kernel
theorem dX1_draw_7 : decode cX1_draw 7 = .ok (.iushr, 1) := by decide +kernel
theorem dX1_draw_8 : decode cX1_draw 8 = .ok (.iload_n 1, 1) := by decide +kernel
theorem dX1_draw_9 : decode cX1_draw 9 = .ok (.irem, 1) := by decide +kernel
theorem dX1_draw_10 : decode cX1_draw 10 = .ok (.goto 4, 3) := by decide +kernel
theorem dX1_draw_13 : decode cX1_draw 13 = .ok (.iconst 0, 1) := by decide +kernel
theorem dX1_draw_14 : decode cX1_draw 14 = .ok (.ireturn, 1) := by decide +kernel
theorem dX1_becomeWitness_0 : decode cX1_becomeWitness 0 = .ok (.aload_n 0, 1) := by decide +kernel
theorem dX1_becomeWitness_1 : decode cX1_becomeWitness 1 = .ok (.iload_n 1, 1) := by decide +kernel
theorem dX1_becomeWitness_2 : decode cX1_becomeWitness 2 = .ok (.invokevirtual 52, 3) := by decide +kernel
theorem dX1_becomeWitness_5 : decode cX1_becomeWitness 5 = .ok (.iload_n 1, 1) := by decide +kernel
theorem dX1_becomeWitness_6 : decode cX1_becomeWitness 6 = .ok (.iconst 1, 1) := by decide +kernel
theorem dX1_becomeWitness_7 : decode cX1_becomeWitness 7 = .ok (.isub, 1) := by decide +kernel
theorem dX1_becomeWitness_8 : decode cX1_becomeWitness 8 = .ok (.istore_n 2, 1) := by decide +kernel
theorem dX1_becomeWitness_9 : decode cX1_becomeWitness 9 = .ok (.iconst 0, 1) := by decide +kernel
theorem dX1_becomeWitness_10 : decode cX1_becomeWitness 10 = .ok (.istore_n 3, 1) := by decide +kernel
theorem dX1_becomeWitness_11 : decode cX1_becomeWitness 11 = .ok (.iload_n 3, 1) := by decide +kernel
theorem dX1_becomeWitness_12 : decode cX1_becomeWitness 12 = .ok (.iload_n 1, 1) := by decide +kernel
theorem dX1_becomeWitness_13 : decode cX1_becomeWitness 13 = .ok (.if_icmp .ge 66, 3) := by decide +kernel
theorem dX1_becomeWitness_16 : decode cX1_becomeWitness 16 = .ok (.aload_n 0, 1) := by decide +kernel
theorem dX1_becomeWitness_17 : decode cX1_becomeWitness 17 = .ok (.iload_n 3, 1) := by decide +kernel
theorem dX1_becomeWitness_18 : decode cX1_becomeWitness 18 = .ok (.iconst 0, 1) := by decide +kernel
theorem dX1_becomeWitness_19 : decode cX1_becomeWitness 19 = .ok (.iload_n 3, 1) := by decide +kernel
theorem dX1_becomeWitness_20 : decode cX1_becomeWitness 20 = .ok (.iload_n 2, 1) := by decide +kernel
theorem dX1_becomeWitness_21 : decode cX1_becomeWitness 21 = .ok (.if_icmp .ne 7, 3) := by decide +kernel
theorem dX1_becomeWitness_24 : decode cX1_becomeWitness 24 = .ok (.iconst 0, 1) := by decide +kernel
theorem dX1_becomeWitness_25 : decode cX1_becomeWitness 25 = .ok (.goto 6, 3) := by decide +kernel
theorem dX1_becomeWitness_28 : decode cX1_becomeWitness 28 = .ok (.iload_n 3, 1) := by decide +kernel
theorem dX1_becomeWitness_29 : decode cX1_becomeWitness 29 = .ok (.iconst 1, 1) := by decide +kernel
theorem dX1_becomeWitness_30 : decode cX1_becomeWitness 30 = .ok (.iadd, 1) := by decide +kernel
theorem dX1_becomeWitness_31 : decode cX1_becomeWitness 31 = .ok (.invokevirtual 56, 3) := by decide +kernel
theorem dX1_becomeWitness_34 : decode cX1_becomeWitness 34 = .ok (.aload_n 0, 1) := by decide +kernel
theorem dX1_becomeWitness_35 : decode cX1_becomeWitness 35 = .ok (.iload_n 3, 1) := by decide +kernel
theorem dX1_becomeWitness_36 : decode cX1_becomeWitness 36 = .ok (.iconst 1, 1) := by decide +kernel
theorem dX1_becomeWitness_37 : decode cX1_becomeWitness 37 = .ok (.iload_n 3, 1) := by decide +kernel
theorem dX1_becomeWitness_38 : decode cX1_becomeWitness 38 = .ok (.iconst 2, 1) := by decide +kernel
theorem dX1_becomeWitness_39 : decode cX1_becomeWitness 39 = .ok (.if_icmp .ge 14, 3) := by decide +kernel
theorem dX1_becomeWitness_42 : decode cX1_becomeWitness 42 = .ok (.iload_n 1, 1) := by decide +kernel
theorem dX1_becomeWitness_43 : decode cX1_becomeWitness 43 = .ok (.iconst 1, 1) := by decide +kernel
theorem dX1_becomeWitness_44 : decode cX1_becomeWitness 44 = .ok (.if_icmp .le 9, 3) := by decide +kernel
theorem dX1_becomeWitness_47 : decode cX1_becomeWitness 47 = .ok (.iconst 1, 1) := by decide +kernel
theorem dX1_becomeWitness_48 : decode cX1_becomeWitness 48 = .ok (.iload_n 3, 1) := by decide +kernel
theorem dX1_becomeWitness_49 : decode cX1_becomeWitness 49 = .ok (.isub, 1) := by decide +kernel
theorem dX1_becomeWitness_50 : decode cX1_becomeWitness 50 = .ok (.goto 4, 3) := by decide +kernel
theorem dX1_becomeWitness_53 : decode cX1_becomeWitness 53 = .ok (.iload_n 3, 1) := by decide +kernel
theorem dX1_becomeWitness_54 : decode cX1_becomeWitness 54 = .ok (.invokevirtual 56, 3) := by decide +kernel
theorem dX1_becomeWitness_57 : decode cX1_becomeWitness 57 = .ok (.aload_n 0, 1) := by decide +kernel
theorem dX1_becomeWitness_58 : decode cX1_becomeWitness 58 = .ok (.iload_n 3, 1) := by decide +kernel
theorem dX1_becomeWitness_59 : decode cX1_becomeWitness 59 = .ok (.iconst 2, 1) := by decide +kernel
theorem dX1_becomeWitness_60 : decode cX1_becomeWitness 60 = .ok (.iload_n 3, 1) := by decide +kernel
theorem dX1_becomeWitness_61 : decode cX1_becomeWitness 61 = .ok (.iload_n 2, 1) := by decide +kernel
theorem dX1_becomeWitness_62 : decode cX1_becomeWitness 62 = .ok (.if_icmp .ne 7, 3) := by decide +kernel
theorem dX1_becomeWitness_65 : decode cX1_becomeWitness 65 = .ok (.iconst 0, 1) := by decide +kernel
theorem dX1_becomeWitness_66 : decode cX1_becomeWitness 66 = .ok (.goto 4, 3) := by decide +kernel
theorem dX1_becomeWitness_69 : decode cX1_becomeWitness 69 = .ok (.iload_n 3, 1) := by decide +kernel
theorem dX1_becomeWitness_70 : decode cX1_becomeWitness 70 = .ok (.invokevirtual 56, 3) := by decide +kernel
theorem dX1_becomeWitness_73 : decode cX1_becomeWitness 73 = .ok (.iinc 3 1, 3) := by decide +kernel
theorem dX1_becomeWitness_76 : decode cX1_becomeWitness 76 = .ok (.goto (-65), 3) := by decide +kernel
theorem dX1_becomeWitness_79 : decode cX1_becomeWitness 79 = .ok (.aload_n 0, 1) := by decide +kernel
theorem dX1_becomeWitness_80 : decode cX1_becomeWitness 80 = .ok (.iload_n 2, 1) := by decide +kernel
theorem dX1_becomeWitness_81 : decode cX1_becomeWitness 81 = .ok (.iconst 1, 1) := by decide +kernel
theorem dX1_becomeWitness_82 : decode cX1_becomeWitness 82 = .ok (.invokevirtual 47, 3) := by decide +kernel
theorem dX1_becomeWitness_85 : decode cX1_becomeWitness 85 = .ok (.return_, 1) := by decide +kernel
theorem dX10_init_0 : decode cX10_init 0 = .ok (.aload_n 0, 1) := by decide +kernel
theorem dX10_init_1 : decode cX10_init 1 = .ok (.invokespecial 3, 3) := by decide +kernel
theorem dX10_init_4 : decode cX10_init 4 = .ok (.aload_n 0, 1) := by decide +kernel
theorem dX10_init_5 : decode cX10_init 5 = .ok (.iconst 0, 1) := by decide +kernel
theorem dX10_init_6 : decode cX10_init 6 = .ok (.putfield 9, 3) := by decide +kernel
theorem dX10_init_9 : decode cX10_init 9 = .ok (.aload_n 0, 1) := by decide +kernel
theorem dX10_init_10 : decode cX10_init 10 = .ok (.bipush 12, 2) := by decide +kernel
theorem dX10_init_12 : decode cX10_init 12 = .ok (.newarray .int, 2) := by decide +kernel
theorem dX10_init_14 : decode cX10_init 14 = .ok (.putfield 15, 3) := by decide +kernel
theorem dX10_init_17 : decode cX10_init 17 = .ok (.return_, 1) := by decide +kernel
theorem dX10_add_0 : decode cX10_add 0 = .ok (.aload_n 0, 1) := by decide +kernel
theorem dX10_add_1 : decode cX10_add 1 = .ok (.getfield 9, 3) := by decide +kernel
theorem dX10_add_4 : decode cX10_add 4 = .ok (.bipush 12, 2) := by decide +kernel
theorem dX10_add_6 : decode cX10_add 6 = .ok (.if_icmp .ge 23, 3) := by decide +kernel
theorem dX10_add_9 : decode cX10_add 9 = .ok (.aload_n 0, 1) := by decide +kernel
theorem dX10_add_10 : decode cX10_add 10 = .ok (.getfield 15, 3) := by decide +kernel
theorem dX10_add_13 : decode cX10_add 13 = .ok (.aload_n 0, 1) := by decide +kernel
theorem dX10_add_14 : decode cX10_add 14 = .ok (.getfield 9, 3) := by decide +kernel
theorem dX10_add_17 : decode cX10_add 17 = .ok (.iload_n 1, 1) := by decide +kernel
theorem dX10_add_18 : decode cX10_add 18 = .ok (.iastore, 1) := by decide +kernel
theorem dX10_add_19 : decode cX10_add 19 = .ok (.aload_n 0, 1) := by decide +kernel
theorem dX10_add_20 : decode cX10_add 20 = .ok (.dup, 1) := by decide +kernel
theorem dX10_add_21 : decode cX10_add 21 = .ok (.getfield 9, 3) := by decide +kernel
theorem dX10_add_24 : decode cX10_add 24 = .ok (.iconst 1, 1) := by decide +kernel
theorem dX10_add_25 : decode cX10_add 25 = .ok (.iadd, 1) := by decide +kernel
theorem dX10_add_26 : decode cX10_add 26 = .ok (.putfield 9, 3) := by decide +kernel
theorem dX10_add_29 : decode cX10_add 29 = .ok (.return_, 1) := by decide +kernel
theorem dX10_copyFrom_0 : decode cX10_copyFrom 0 = .ok (.aload_n 0, 1) := by decide +kernel
theorem dX10_copyFrom_1 : decode cX10_copyFrom 1 = .ok (.aload_n 1, 1) := by decide +kernel
theorem dX10_copyFrom_2 : decode cX10_copyFrom 2 = .ok (.getfield 9, 3) := by decide +kernel
theorem dX10_copyFrom_5 : decode cX10_copyFrom 5 = .ok (.putfield 9, 3) := by decide +kernel
theorem dX10_copyFrom_8 : decode cX10_copyFrom 8 = .ok (.aload_n 1, 1) := by decide +kernel
theorem dX10_copyFrom_9 : decode cX10_copyFrom 9 = .ok (.getfield 15, 3) := by decide +kernel
theorem dX10_copyFrom_12 : decode cX10_copyFrom 12 = .ok (.iconst 0, 1) := by decide +kernel
theorem dX10_copyFrom_13 : decode cX10_copyFrom 13 = .ok (.aload_n 0, 1) := by decide +kernel
theorem dX10_copyFrom_14 : decode cX10_copyFrom 14 = .ok (.getfield 15, 3) := by decide +kernel
theorem dX10_copyFrom_17 : decode cX10_copyFrom 17 = .ok (.iconst 0, 1) := by decide +kernel
theorem dX10_copyFrom_18 : decode cX10_copyFrom 18 = .ok (.bipush 12, 2) := by decide +kernel
theorem dX10_copyFrom_20 : decode cX10_copyFrom 20 = .ok (.invokestatic 19, 3) := by decide +kernel
theorem dX10_copyFrom_23 : decode cX10_copyFrom 23 = .ok (.return_, 1) := by decide +kernel
theorem dX11_init_0 : decode cX11_init 0 = .ok (.aload_n 0, 1) := by decide +kernel
theorem dX11_init_1 : decode cX11_init 1 = .ok (.invokespecial 3, 3) := by decide +kernel
theorem dX11_init_4 : decode cX11_init 4 = .ok (.aload_n 0, 1) := by decide +kernel
theorem dX11_init_5 : decode cX11_init 5 = .ok (.iconst 3, 1) := by decide +kernel
theorem dX11_init_6 : decode cX11_init 6 = .ok (.anewarray 9, 3) := by decide +kernel
theorem dX11_init_9 : decode cX11_init 9 = .ok (.putfield 11, 3) := by decide +kernel
theorem dX11_init_12 : decode cX11_init 12 = .ok (.aload_n 0, 1) := by decide +kernel
theorem dX11_init_13 : decode cX11_init 13 = .ok (.iconst 3, 1) := by decide +kernel
theorem dX11_init_14 : decode cX11_init 14 = .ok (.anewarray 9, 3) := by decide +kernel
theorem dX11_init_17 : decode cX11_init 17 = .ok (.putfield 15, 3) := by decide +kernel
theorem dX11_init_20 : decode cX11_init 20 = .ok (.aload_n 0, 1) := by decide +kernel
theorem dX11_init_21 : decode cX11_init 21 = .ok (.new 18, 3) := by decide +kernel
theorem dX11_init_24 : decode cX11_init 24 = .ok (.dup, 1) := by decide +kernel
theorem dX11_init_25 : decode cX11_init 25 = .ok (.invokespecial 20, 3) := by decide +kernel
theorem dX11_init_28 : decode cX11_init 28 = .ok (.putfield 21, 3) := by decide +kernel
theorem dX11_init_31 : decode cX11_init 31 = .ok (.aload_n 0, 1) := by decide +kernel
theorem dX11_init_32 : decode cX11_init 32 = .ok (.new 18, 3) := by decide +kernel
theorem dX11_init_35 : decode cX11_init 35 = .ok (.dup, 1) := by decide +kernel
theorem dX11_init_36 : decode cX11_init 36 = .ok (.invokespecial 20, 3) := by decide +kernel
theorem dX11_init_39 : decode cX11_init 39 = .ok (.putfield 25, 3) := by decide +kernel
theorem dX11_init_42 : decode cX11_init 42 = .ok (.aload_n 0, 1) := by decide +kernel
theorem dX11_init_43 : decode cX11_init 43 = .ok (.iconst 0, 1) := by decide +kernel
theorem dX11_init_44 : decode cX11_init 44 = .ok (.putfield 28, 3) := by decide +kernel
theorem dX11_init_47 : decode cX11_init 47 = .ok (.aload_n 0, 1) := by decide +kernel
theorem dX11_init_48 : decode cX11_init 48 = .ok (.iconst 2, 1) := by decide +kernel
theorem dX11_init_49 : decode cX11_init 49 = .ok (.anewarray 32, 3) := by decide +kernel
theorem dX11_init_52 : decode cX11_init 52 = .ok (.putfield 34, 3) := by decide +kernel
theorem dX11_init_55 : decode cX11_init 55 = .ok (.aload_n 0, 1) := by decide +kernel
theorem dX11_init_56 : decode cX11_init 56 = .ok (.new 38, 3) := by decide +kernel
theorem dX11_init_59 : decode cX11_init 59 = .ok (.dup, 1) := by decide +kernel
theorem dX11_init_60 : decode cX11_init 60 = .ok (.invokespecial 40, 3) := by decide +kernel
theorem dX11_init_63 : decode cX11_init 63 = .ok (.putfield 41, 3) := by decide +kernel
theorem dX11_init_66 : decode cX11_init 66 = .ok (.aload_n 0, 1) := by decide +kernel
theorem dX11_init_67 : decode cX11_init 67 = .ok (.new 45, 3) := by decide +kernel
theorem dX11_init_70 : decode cX11_init 70 = .ok (.dup, 1) := by decide +kernel
theorem dX11_init_71 : decode cX11_init 71 = .ok (.invokespecial 47, 3) := by decide +kernel
theorem dX11_init_74 : decode cX11_init 74 = .ok (.putfield 48, 3) := by decide +kernel
theorem dX11_init_77 : decode cX11_init 77 = .ok (.aload_n 0, 1) := by decide +kernel
theorem dX11_init_78 : decode cX11_init 78 = .ok (.new 52, 3) := by decide +kernel
theorem dX11_init_81 : decode cX11_init 81 = .ok (.dup, 1) := by decide +kernel
theorem dX11_init_82 : decode cX11_init 82 = .ok (.invokespecial 54, 3) := by decide +kernel
theorem dX11_init_85 : decode cX11_init 85 = .ok (.putfield 55, 3) := by decide +kernel
theorem dX11_init_88 : decode cX11_init 88 = .ok (.aload_n 0, 1) := by decide +kernel
theorem dX11_init_89 : decode cX11_init 89 = .ok (.new 9, 3) := by decide +kernel
theorem dX11_init_92 : decode cX11_init 92 = .ok (.dup, 1) := by decide +kernel
theorem dX11_init_93 : decode cX11_init 93 = .ok (.invokespecial 59, 3) := by decide +kernel
theorem dX11_init_96 : decode cX11_init 96 = .ok (.putfield 60, 3) := by decide +kernel
theorem dX11_init_99 : decode cX11_init 99 = .ok (.aload_n 0, 1) := by decide +kernel
theorem dX11_init_100 : decode cX11_init 100 = .ok (.new 32, 3) := by decide +kernel
theorem dX11_init_103 : decode cX11_init 103 = .ok (.dup, 1) := by decide +kernel
theorem dX11_init_104 : decode cX11_init 104 = .ok (.invokespecial 64, 3) := by decide +kernel
theorem dX11_init_107 : decode cX11_init 107 = .ok (.putfield 65, 3) := by decide +kernel
theorem dX11_init_110 : decode cX11_init 110 = .ok (.new 69, 3) := by decide +kernel
theorem dX11_init_113 : decode cX11_init 113 = .ok (.dup, 1) := by decide +kernel
theorem dX11_init_114 : decode cX11_init 114 = .ok (.invokespecial 71, 3) := by decide +kernel
theorem dX11_init_117 : decode cX11_init 117 = .ok (.astore_n 1, 1) := by decide +kernel
theorem dX11_init_118 : decode cX11_init 118 = .ok (.aload_n 0, 1) := by decide +kernel
theorem dX11_init_119 : decode cX11_init 119 = .ok (.new 72, 3) := by decide +kernel
theorem dX11_init_122 : decode cX11_init 122 = .ok (.dup, 1) := by decide +kernel
theorem dX11_init_123 : decode cX11_init 123 = .ok (.aload_n 1, 1) := by decide +kernel
theorem dX11_init_124 : decode cX11_init 124 = .ok (.invokespecial 74, 3) := by decide +kernel
theorem dX11_init_127 : decode cX11_init 127 = .ok (.putfield 77, 3) := by decide +kernel
theorem dX11_init_130 : decode cX11_init 130 = .ok (.aload_n 0, 1) := by decide +kernel
theorem dX11_init_131 : decode cX11_init 131 = .ok (.new 81, 3) := by decide +kernel
theorem dX11_init_134 : decode cX11_init 134 = .ok (.dup, 1) := by decide +kernel
theorem dX11_init_135 : decode cX11_init 135 = .ok (.aload_n 1, 1) := by decide +kernel
theorem dX11_init_136 : decode cX11_init 136 = .ok (.invokespecial 83, 3) := by decide +kernel
theorem dX11_init_139 : decode cX11_init 139 = .ok (.putfield 84, 3) := by decide +kernel
theorem dX11_init_142 : decode cX11_init 142 = .ok (.iconst 0, 1) := by decide +kernel
theorem dX11_init_143 : decode cX11_init 143 = .ok (.istore_n 2, 1) := by decide +kernel
theorem dX11_init_144 : decode cX11_init 144 = .ok (.iload_n 2, 1) := by decide +kernel
theorem dX11_init_145 : decode cX11_init 145 = .ok (.iconst 3, 1) := by decide +kernel
theorem dX11_init_146 : decode cX11_init 146 = .ok (.if_icmp .ge 35, 3) := by decide +kernel
theorem dX11_init_149 : decode cX11_init 149 = .ok (.aload_n 0, 1) := by decide +kernel
theorem dX11_init_150 : decode cX11_init 150 = .ok (.getfield 11, 3) := by decide +kernel
theorem dX11_init_153 : decode cX11_init 153 = .ok (.iload_n 2, 1) := by decide +kernel
theorem dX11_init_154 : decode cX11_init 154 = .ok (.new 9, 3) := by decide +kernel
theorem dX11_init_157 : decode cX11_init 157 = .ok (.dup, 1) := by decide +kernel
theorem dX11_init_158 : decode cX11_init 158 = .ok (.invokespecial 59, 3) := by decide +kernel
theorem dX11_init_161 : decode cX11_init 161 = .ok (.aastore, 1) := by decide +kernel
theorem dX11_init_162 : decode cX11_init 162 = .ok (.aload_n 0, 1) := by decide +kernel
theorem dX11_init_163 : decode cX11_init 163 = .ok (.getfield 15, 3) := by decide +kernel
theorem dX11_init_166 : decode cX11_init 166 = .ok (.iload_n 2, 1) := by decide +kernel
theorem dX11_init_167 : decode cX11_init 167 = .ok (.new 9, 3) := by decide +kernel
theorem dX11_init_170 : decode cX11_init 170 = .ok (.dup, 1) := by decide +kernel
theorem dX11_init_171 : decode cX11_init 171 = .ok (.invokespecial 59, 3) := by decide +kernel
theorem dX11_init_174 : decode cX11_init 174 = .ok (.aastore, 1) := by decide +kernel
theorem dX11_init_175 : decode cX11_init 175 = .ok (.iinc 2 1, 3) := by decide +kernel
theorem dX11_init_178 : decode cX11_init 178 = .ok (.goto (-34), 3) := by decide +kernel
theorem dX11_init_181 : decode cX11_init 181 = .ok (.iconst 0, 1) := by decide +kernel
theorem dX11_init_182 : decode cX11_init 182 = .ok (.istore_n 2, 1) := by decide +kernel
theorem dX11_init_183 : decode cX11_init 183 = .ok (.iload_n 2, 1) := by decide +kernel
theorem dX11_init_184 : decode cX11_init 184 = .ok (.iconst 2, 1) := by decide +kernel
theorem dX11_init_185 : decode cX11_init 185 = .ok (.if_icmp .ge 22, 3) := by decide +kernel
theorem dX11_init_188 : decode cX11_init 188 = .ok (.aload_n 0, 1) := by decide +kernel
theorem dX11_init_189 : decode cX11_init 189 = .ok (.getfield 34, 3) := by decide +kernel
theorem dX11_init_192 : decode cX11_init 192 = .ok (.iload_n 2, 1) := by decide +kernel
theorem dX11_init_193 : decode cX11_init 193 = .ok (.new 32, 3) := by decide +kernel
theorem dX11_init_196 : decode cX11_init 196 = .ok (.dup, 1) := by decide +kernel
theorem dX11_init_197 : decode cX11_init 197 = .ok (.invokespecial 64, 3) := by decide +kernel
theorem dX11_init_200 : decode cX11_init 200 = .ok (.aastore, 1) := by decide +kernel
theorem dX11_init_201 : decode cX11_init 201 = .ok (.iinc 2 1, 3) := by decide +kernel
theorem dX11_init_204 : decode cX11_init 204 = .ok (.goto (-21), 3) := by decide +kernel
theorem dX11_init_207 : decode cX11_init 207 = .ok (.return_, 1) := by decide +kernel
theorem dX11_reset_0 : decode cX11_reset 0 = .ok (.iload_n 1, 1) := by decide +kernel
theorem dX11_reset_1 : decode cX11_reset 1 = .ok (.invokestatic 88, 3) := by decide +kernel
theorem dX11_reset_4 : decode cX11_reset 4 = .ok (.iload_n 2, 1) := by decide +kernel
theorem dX11_reset_5 : decode cX11_reset 5 = .ok (.invokestatic 92, 3) := by decide +kernel
theorem dX11_reset_8 : decode cX11_reset 8 = .ok (.aload_n 0, 1) := by decide +kernel
theorem dX11_reset_9 : decode cX11_reset 9 = .ok (.getfield 11, 3) := by decide +kernel
theorem dX11_reset_12 : decode cX11_reset 12 = .ok (.iload_n 1, 1) := by decide +kernel
theorem dX11_reset_13 : decode cX11_reset 13 = .ok (.aaload, 1) := by decide +kernel
theorem dX11_reset_14 : decode cX11_reset 14 = .ok (.iload_n 2, 1) := by decide +kernel
theorem dX11_reset_15 : decode cX11_reset 15 = .ok (.invokevirtual 95, 3) := by decide +kernel
theorem dX11_reset_18 : decode cX11_reset 18 = .ok (.return_, 1) := by decide +kernel
theorem dX11_setTarget_0 : decode cX11_setTarget 0 = .ok (.aload_n 0, 1) := by decide +kernel
theorem dX11_setTarget_1 : decode cX11_setTarget 1 = .ok (.iload_n 1, 1) := by decide +kernel
theorem dX11_setTarget_2 : decode cX11_setTarget 2 = .ok (.iload_n 2, 1) := by decide +kernel
theorem dX11_setTarget_3 : decode cX11_setTarget 3 = .ok (.invokevirtual 98, 3) := by decide +kernel
theorem dX11_setTarget_6 : decode cX11_setTarget 6 = .ok (.iload_n 3, 1) := by decide +kernel
theorem dX11_setTarget_7 : decode cX11_setTarget 7 = .ok (.invokestatic 102, 3) := by decide +kernel
theorem dX11_setTarget_10 : decode cX11_setTarget 10 = .ok (.aload_n 0, 1) := by decide +kernel
theorem dX11_setTarget_11 : decode cX11_setTarget 11 = .ok (.iload_n 1, 1) := by decide +kernel
theorem dX11_setTarget_12 : decode cX11_setTarget 12 = .ok (.iload 4, 2) := by decide +kernel
theorem dX11_setTarget_14 : decode cX11_setTarget 14 = .ok (.invokevirtual 98, 3) := by decide +kernel
theorem dX11_setTarget_17 : decode cX11_setTarget 17 = .ok (.aload_n 0, 1) := by decide +kernel
theorem dX11_setTarget_18 : decode cX11_setTarget 18 = .ok (.getfield 11, 3) := by decide +kernel
theorem dX11_setTarget_21 : decode cX11_setTarget 21 = .ok (.iload_n 1, 1) := by decide +kernel
theorem dX11_setTarget_22 : decode cX11_setTarget 22 = .ok (.aaload, 1) := by decide +kernel
theorem dX11_setTarget_23 : decode cX11_setTarget 23 = .ok (.iload_n 2, 1) := by decide +kernel
theorem dX11_setTarget_24 : decode cX11_setTarget 24 = .ok (.iload_n 3, 1) := by decide +kernel
theorem dX11_setTarget_25 : decode cX11_setTarget 25 = .ok (.iload 4, 2) := by decide +kernel
theorem dX11_setTarget_27 : decode cX11_setTarget 27 = .ok (.invokevirtual 105, 3) := by decide +kernel
theorem dX11_setTarget_30 : decode cX11_setTarget 30 = .ok (.return_, 1) := by decide +kernel
theorem dX11_setFinal_0 : decode cX11_setFinal 0 = .ok (.aload_n 0, 1) := by decide +kernel
theorem dX11_setFinal_1 : decode cX11_setFinal 1 = .ok (.iload_n 1, 1) := by decide +kernel
theorem dX11_setFinal_2 : decode cX11_setFinal 2 = .ok (.iload_n 2, 1) := by decide +kernel
theorem dX11_setFinal_3 : decode cX11_setFinal 3 = .ok (.invokevirtual 98, 3) := by decide +kernel
theorem dX11_setFinal_6 : decode cX11_setFinal 6 = .ok (.aload_n 0, 1) := by decide +kernel
theorem dX11_setFinal_7 : decode cX11_setFinal 7 = .ok (.getfield 11, 3) := by decide +kernel
theorem dX11_setFinal_10 : decode cX11_setFinal 10 = .ok (.iload_n 1, 1) := by decide +kernel
theorem dX11_setFinal_11 : decode cX11_setFinal 11 = .ok (.aaload, 1) := by decide +kernel
theorem dX11_setFinal_12 : decode cX11_setFinal 12 = .ok (.iload_n 2, 1) := by decide +kernel
theorem dX11_setFinal_13 : decode cX11_setFinal 13 = .ok (.invokevirtual 109, 3) := by decide +kernel
theorem dX11_setFinal_16 : decode cX11_setFinal 16 = .ok (.istore 4, 2) := by decide +kernel
theorem dX11_setFinal_18 : decode cX11_setFinal 18 = .ok (.aload_n 0, 1) := by decide +kernel
theorem dX11_setFinal_19 : decode cX11_setFinal 19 = .ok (.getfield 11, 3) := by decide +kernel
theorem dX11_setFinal_22 : decode cX11_setFinal 22 = .ok (.iload_n 1, 1) := by decide +kernel
theorem dX11_setFinal_23 : decode cX11_setFinal 23 = .ok (.aaload, 1) := by decide +kernel
theorem dX11_setFinal_24 : decode cX11_setFinal 24 = .ok (.iload_n 2, 1) := by decide +kernel
theorem dX11_setFinal_25 : decode cX11_setFinal 25 = .ok (.iload_n 3, 1) := by decide +kernel
theorem dX11_setFinal_26 : decode cX11_setFinal 26 = .ok (.invokevirtual 113, 3) := by decide +kernel
theorem dX11_setFinal_29 : decode cX11_setFinal 29 = .ok (.iload 4, 2) := by decide +kernel
theorem dX11_setFinal_31 : decode cX11_setFinal 31 = .ok (.ireturn, 1) := by decide +kernel
theorem dX11_stateCount_0 : decode cX11_stateCount 0 = .ok (.iload_n 1, 1) := by decide +kernel
theorem dX11_stateCount_1 : decode cX11_stateCount 1 = .ok (.invokestatic 88, 3) := by decide +kernel
theorem dX11_stateCount_4 : decode cX11_stateCount 4 = .ok (.aload_n 0, 1) := by decide +kernel
theorem dX11_stateCount_5 : decode cX11_stateCount 5 = .ok (.getfield 11, 3) := by decide +kernel
theorem dX11_stateCount_8 : decode cX11_stateCount 8 = .ok (.iload_n 1, 1) := by decide +kernel
theorem dX11_stateCount_9 : decode cX11_stateCount 9 = .ok (.aaload, 1) := by decide +kernel
theorem dX11_stateCount_10 : decode cX11_stateCount 10 = .ok (.getfield 117, 3) := by decide +kernel
theorem dX11_stateCount_13 : decode cX11_stateCount 13 = .ok (.ireturn, 1) := by decide +kernel
theorem dX11_target_0 : decode cX11_target 0 = .ok (.aload_n 0, 1) := by decide +kernel
theorem dX11_target_1 : decode cX11_target 1 = .ok (.iload_n 1, 1) := by decide +kernel
theorem dX11_target_2 : decode cX11_target 2 = .ok (.iload_n 2, 1) := by decide +kernel
theorem dX11_target_3 : decode cX11_target 3 = .ok (.invokevirtual 98, 3) := by decide +kernel
theorem dX11_target_6 : decode cX11_target 6 = .ok (.iload_n 3, 1) := by decide +kernel
theorem dX11_target_7 : decode cX11_target 7 = .ok (.invokestatic 102, 3) := by decide +kernel
theorem dX11_target_10 : decode cX11_target 10 = .ok (.aload_n 0, 1) := by decide +kernel
theorem dX11_target_11 : decode cX11_target 11 = .ok (.getfield 11, 3) := by decide +kernel
theorem dX11_target_14 : decode cX11_target 14 = .ok (.iload_n 1, 1) := by decide +kernel
theorem dX11_target_15 : decode cX11_target 15 = .ok (.aaload, 1) := by decide +kernel
theorem dX11_target_16 : decode cX11_target 16 = .ok (.iload_n 2, 1) := by decide +kernel
theorem dX11_target_17 : decode cX11_target 17 = .ok (.iload_n 3, 1) := by decide +kernel
theorem dX11_target_18 : decode cX11_target 18 = .ok (.invokevirtual 121, 3) := by decide +kernel
theorem dX11_target_21 : decode cX11_target 21 = .ok (.ireturn, 1) := by decide +kernel
theorem dX11_isFinal_0 : decode cX11_isFinal 0 = .ok (.aload_n 0, 1) := by decide +kernel
theorem dX11_isFinal_1 : decode cX11_isFinal 1 = .ok (.iload_n 1, 1) := by decide +kernel
theorem dX11_isFinal_2 : decode cX11_isFinal 2 = .ok (.iload_n 2, 1) := by decide +kernel
theorem dX11_isFinal_3 : decode cX11_isFinal 3 = .ok (.invokevirtual 98, 3) := by decide +kernel
theorem dX11_isFinal_6 : decode cX11_isFinal 6 = .ok (.aload_n 0, 1) := by decide +kernel
theorem dX11_isFinal_7 : decode cX11_isFinal 7 = .ok (.getfield 11, 3) := by decide +kernel
theorem dX11_isFinal_10 : decode cX11_isFinal 10 = .ok (.iload_n 1, 1) := by decide +kernel
theorem dX11_isFinal_11 : decode cX11_isFinal 11 = .ok (.aaload, 1) := by decide +kernel
theorem dX11_isFinal_12 : decode cX11_isFinal 12 = .ok (.iload_n 2, 1) := by decide +kernel
theorem dX11_isFinal_13 : decode cX11_isFinal 13 = .ok (.invokevirtual 109, 3) := by decide +kernel
theorem dX11_isFinal_16 : decode cX11_isFinal 16 = .ok (.ireturn, 1) := by decide +kernel
theorem dX11_randomize_0 : decode cX11_randomize 0 = .ok (.iload_n 1, 1) := by decide +kernel
theorem dX11_randomize_1 : decode cX11_randomize 1 = .ok (.invokestatic 88, 3) := by decide +kernel
theorem dX11_randomize_4 : decode cX11_randomize 4 = .ok (.aload_n 0, 1) := by decide +kernel
theorem dX11_randomize_5 : decode cX11_randomize 5 = .ok (.getfield 11, 3) := by decide +kernel
theorem dX11_randomize_8 : decode cX11_randomize 8 = .ok (.iload_n 1, 1) := by decide +kernel
theorem dX11_randomize_9 : decode cX11_randomize 9 = .ok (.aaload, 1) := by decide +kernel
theorem dX11_randomize_10 : decode cX11_randomize 10 = .ok (.iload_n 2, 1) := by decide +kernel
theorem dX11_randomize_11 : decode cX11_randomize 11 = .ok (.invokevirtual 125, 3) := by decide +kernel
theorem dX11_randomize_14 : decode cX11_randomize 14 = .ok (.return_, 1) := by decide +kernel
theorem dX11_makeWitness_0 : decode cX11_makeWitness 0 = .ok (.iload_n 1, 1) := by decide +kernel
theorem dX11_makeWitness_1 : decode cX11_makeWitness 1 = .ok (.invokestatic 88, 3) := by decide +kernel
theorem dX11_makeWitness_4 : decode cX11_makeWitness 4 = .ok (.iload_n 2, 1) := by decide +kernel
theorem dX11_makeWitness_5 : decode cX11_makeWitness 5 = .ok (.invokestatic 92, 3) := by decide +kernel
theorem dX11_makeWitness_8 : decode cX11_makeWitness 8 = .ok (.aload_n 0, 1) := by decide +kernel
theorem dX11_makeWitness_9 : decode cX11_makeWitness 9 = .ok (.getfield 11, 3) := by decide +kernel
theorem dX11_makeWitness_12 : decode cX11_makeWitness 12 = .ok (.iload_n 1, 1) := by decide +kernel
theorem dX11_makeWitness_13 : decode cX11_makeWitness 13 = .ok (.aaload, 1) := by decide +kernel
theorem dX11_makeWitness_14 : decode cX11_makeWitness 14 = .ok (.iload_n 2, 1) := by decide +kernel
theorem dX11_makeWitness_15 : decode cX11_makeWitness 15 = .ok (.invokevirtual 128, 3) := by decide +kernel
theorem dX11_makeWitness_18 : decode cX11_makeWitness 18 = .ok (.return_, 1) := by decide +kernel
theorem dX11_appendLetter_0 : decode cX11_appendLetter 0 = .ok (.iload_n 1, 1) := by decide +kernel
theorem dX11_appendLetter_1 : decode cX11_appendLetter 1 = .ok (.invokestatic 102, 3) := by decide +kernel
theorem dX11_appendLetter_4 : decode cX11_appendLetter 4 = .ok (.aload_n 0, 1) := by decide +kernel
theorem dX11_appendLetter_5 : decode cX11_appendLetter 5 = .ok (.getfield 21, 3) := by decide +kernel
theorem dX11_appendLetter_8 : decode cX11_appendLetter 8 = .ok (.getfield 131, 3) := by decide +kernel
theorem dX11_appendLetter_11 : decode cX11_appendLetter 11 = .ok (.iconst 1, 1) := by decide +kernel
theorem dX11_appendLetter_12 : decode cX11_appendLetter 12 = .ok (.iadd, 1) := by decide +kernel
theorem dX11_appendLetter_13 : decode cX11_appendLetter 13 = .ok (.invokestatic 134, 3) := by decide +kernel
theorem dX11_appendLetter_16 : decode cX11_appendLetter 16 = .ok (.aload_n 0, 1) := by decide +kernel
theorem dX11_appendLetter_17 : decode cX11_appendLetter 17 = .ok (.getfield 21, 3) := by decide +kernel
theorem dX11_appendLetter_20 : decode cX11_appendLetter 20 = .ok (.iload_n 1, 1) := by decide +kernel
theorem dX11_appendLetter_21 : decode cX11_appendLetter 21 = .ok (.invokevirtual 137, 3) := by decide +kernel
theorem dX11_appendLetter_24 : decode cX11_appendLetter 24 = .ok (.aload_n 0, 1) := by decide +kernel
theorem dX11_appendLetter_25 : decode cX11_appendLetter 25 = .ok (.getfield 21, 3) := by decide +kernel
theorem dX11_appendLetter_28 : decode cX11_appendLetter 28 = .ok (.getfield 131, 3) := by decide +kernel
theorem dX11_appendLetter_31 : decode cX11_appendLetter 31 = .ok (.ireturn, 1) := by decide +kernel
theorem dX11_clearWord_0 : decode cX11_clearWord 0 = .ok (.aload_n 0, 1) := by decide +kernel
theorem dX11_clearWord_1 : decode cX11_clearWord 1 = .ok (.getfield 21, 3) := by decide +kernel
theorem dX11_clearWord_4 : decode cX11_clearWord 4 = .ok (.getfield 131, 3) := by decide +kernel
theorem dX11_clearWord_7 : decode cX11_clearWord 7 = .ok (.istore_n 1, 1) := by decide +kernel
theorem dX11_clearWord_8 : decode cX11_clearWord 8 = .ok (.aload_n 0, 1) := by decide +kernel
theorem dX11_clearWord_9 : decode cX11_clearWord 9 = .ok (.getfield 21, 3) := by decide +kernel
theorem dX11_clearWord_12 : decode cX11_clearWord 12 = .ok (.iconst 0, 1) := by decide +kernel
theorem dX11_clearWord_13 : decode cX11_clearWord 13 = .ok (.putfield 131, 3) := by decide +kernel
theorem dX11_clearWord_16 : decode cX11_clearWord 16 = .ok (.iload_n 1, 1) := by decide +kernel
theorem dX11_clearWord_17 : decode cX11_clearWord 17 = .ok (.ireturn, 1) := by decide +kernel
theorem dX11_wordLetter_0 : decode cX11_wordLetter 0 = .ok (.iload_n 1, 1) := by decide +kernel
theorem dX11_wordLetter_1 : decode cX11_wordLetter 1 = .ok (.aload_n 0, 1) := by decide +kernel
theorem dX11_wordLetter_2 : decode cX11_wordLetter 2 = .ok (.getfield 21, 3) := by decide +kernel
theorem dX11_wordLetter_5 : decode cX11_wordLetter 5 = .ok (.getfield 131, 3) := by decide +kernel
theorem dX11_wordLetter_8 : decode cX11_wordLetter 8 = .ok (.invokestatic 140, 3) := by decide +kernel
theorem dX11_wordLetter_11 : decode cX11_wordLetter 11 = .ok (.aload_n 0, 1) := by decide +kernel
theorem dX11_wordLetter_12 : decode cX11_wordLetter 12 = .ok (.getfield 21, 3) := by decide +kernel
theorem dX11_wordLetter_15 : decode cX11_wordLetter 15 = .ok (.getfield 143, 3) := by decide +kernel
theorem dX11_wordLetter_18 : decode cX11_wordLetter 18 = .ok (.iload_n 1, 1) := by decide +kernel
theorem dX11_wordLetter_19 : decode cX11_wordLetter 19 = .ok (.iaload, 1) := by decide +kernel
theorem dX11_wordLetter_20 : decode cX11_wordLetter 20 = .ok (.ireturn, 1) := by decide +kernel
theorem dX11_accepts_0 : decode cX11_accepts 0 = .ok (.iload_n 1, 1) := by decide +kernel
theorem dX11_accepts_1 : decode cX11_accepts 1 = .ok (.invokestatic 88, 3) := by decide +kernel
theorem dX11_accepts_4 : decode cX11_accepts 4 = .ok (.aload_n 0, 1) := by decide +kernel
theorem dX11_accepts_5 : decode cX11_accepts 5 = .ok (.getfield 11, 3) := by decide +kernel
theorem dX11_accepts_8 : decode cX11_accepts 8 = .ok (.iload_n 1, 1) := by decide +kernel
theorem dX11_accepts_9 : decode cX11_accepts 9 = .ok (.aaload, 1) := by decide +kernel
theorem dX11_accepts_10 : decode cX11_accepts 10 = .ok (.astore_n 2, 1) := by decide +kernel
theorem dX11_accepts_11 : decode cX11_accepts 11 = .ok (.aload_n 2, 1) := by decide +kernel
theorem dX11_accepts_12 : decode cX11_accepts 12 = .ok (.aload_n 2, 1) := by decide +kernel
theorem dX11_accepts_13 : decode cX11_accepts 13 = .ok (.aload_n 0, 1) := by decide +kernel
theorem dX11_accepts_14 : decode cX11_accepts 14 = .ok (.getfield 21, 3) := by decide +kernel
theorem dX11_accepts_17 : decode cX11_accepts 17 = .ok (.invokevirtual 147, 3) := by decide +kernel
theorem dX11_accepts_20 : decode cX11_accepts 20 = .ok (.invokevirtual 109, 3) := by decide +kernel
theorem dX11_accepts_23 : decode cX11_accepts 23 = .ok (.ireturn, 1) := by decide +kernel
theorem dX11_size_0 : decode cX11_size 0 = .ok (.iload_n 1, 1) := by decide +kernel
theorem dX11_size_1 : decode cX11_size 1 = .ok (.invokestatic 88, 3) := by decide +kernel
theorem dX11_size_4 : decode cX11_size 4 = .ok (.aload_n 0, 1) := by decide +kernel
theorem dX11_size_5 : decode cX11_size 5 = .ok (.getfield 77, 3) := by decide +kernel
theorem dX11_size_8 : decode cX11_size 8 = .ok (.aload_n 0, 1) := by decide +kernel
theorem dX11_size_9 : decode cX11_size 9 = .ok (.getfield 11, 3) := by decide +kernel
theorem dX11_size_12 : decode cX11_size 12 = .ok (.iload_n 1, 1) := by decide +kernel
theorem dX11_size_13 : decode cX11_size 13 = .ok (.aaload, 1) := by decide +kernel
theorem dX11_size_14 : decode cX11_size 14 = .ok (.invokevirtual 151, 3) := by decide +kernel
theorem dX11_size_17 : decode cX11_size 17 = .ok (.ireturn, 1) := by decide +kernel
theorem dX11_minimize_0 : decode cX11_minimize 0 = .ok (.iload_n 1, 1) := by decide +kernel
theorem dX11_minimize_1 : decode cX11_minimize 1 = .ok (.invokestatic 88, 3) := by decide +kernel
theorem dX11_minimize_4 : decode cX11_minimize 4 = .ok (.aload_n 0, 1) := by decide +kernel
theorem dX11_minimize_5 : decode cX11_minimize 5 = .ok (.getfield 77, 3) := by decide +kernel
theorem dX11_minimize_8 : decode cX11_minimize 8 = .ok (.aload_n 0, 1) := by decide +kernel
theorem dX11_minimize_9 : decode cX11_minimize 9 = .ok (.getfield 11, 3) := by decide +kernel
theorem dX11_minimize_12 : decode cX11_minimize 12 = .ok (.iload_n 1, 1) := by decide +kernel
theorem dX11_minimize_13 : decode cX11_minimize 13 = .ok (.aaload, 1) := by decide +kernel
theorem dX11_minimize_14 : decode cX11_minimize 14 = .ok (.invokevirtual 151, 3) := by decide +kernel
theorem dX11_minimize_17 : decode cX11_minimize 17 = .ok (.pop, 1) := by decide +kernel
theorem dX11_minimize_18 : decode cX11_minimize 18 = .ok (.aload_n 0, 1) := by decide +kernel
theorem dX11_minimize_19 : decode cX11_minimize 19 = .ok (.getfield 77, 3) := by decide +kernel
theorem dX11_minimize_22 : decode cX11_minimize 22 = .ok (.aload_n 0, 1) := by decide +kernel
theorem dX11_minimize_23 : decode cX11_minimize 23 = .ok (.getfield 11, 3) := by decide +kernel
theorem dX11_minimize_26 : decode cX11_minimize 26 = .ok (.iload_n 1, 1) := by decide +kernel
theorem dX11_minimize_27 : decode cX11_minimize 27 = .ok (.aaload, 1) := by decide +kernel
theorem dX11_minimize_28 : decode cX11_minimize 28 = .ok (.invokevirtual 155, 3) := by decide +kernel
theorem dX11_minimize_31 : decode cX11_minimize 31 = .ok (.aload_n 0, 1) := by decide +kernel
theorem dX11_minimize_32 : decode cX11_minimize 32 = .ok (.getfield 11, 3) := by decide +kernel
theorem dX11_minimize_35 : decode cX11_minimize 35 = .ok (.iload_n 1, 1) := by decide +kernel
theorem dX11_minimize_36 : decode cX11_minimize 36 = .ok (.aaload, 1) := by decide +kernel
theorem dX11_minimize_37 : decode cX11_minimize 37 = .ok (.getfield 117, 3) := by decide +kernel
theorem dX11_minimize_40 : decode cX11_minimize 40 = .ok (.ireturn, 1) := by decide +kernel
theorem dX11_quotientOfWord_0 : decode cX11_quotientOfWord 0 = .ok (.iload_n 1, 1) := by decide +kernel
theorem dX11_quotientOfWord_1 : decode cX11_quotientOfWord 1 = .ok (.invokestatic 88, 3) := by decide +kernel
theorem dX11_quotientOfWord_4 : decode cX11_quotientOfWord 4 = .ok (.aload_n 0, 1) := by decide +kernel
theorem dX11_quotientOfWord_5 : decode cX11_quotientOfWord 5 = .ok (.getfield 77, 3) := by decide +kernel
theorem dX11_quotientOfWord_8 : decode cX11_quotientOfWord 8 = .ok (.aload_n 0, 1) := by decide +kernel
theorem dX11_quotientOfWord_9 : decode cX11_quotientOfWord 9 = .ok (.getfield 11, 3) := by decide +kernel
theorem dX11_quotientOfWord_12 : decode cX11_quotientOfWord 12 = .ok (.iload_n 1, 1) := by decide +kernel
theorem dX11_quotientOfWord_13 : decode cX11_quotientOfWord 13 = .ok (.aaload, 1) := by decide +kernel
theorem dX11_quotientOfWord_14 : decode cX11_quotientOfWord 14 = .ok (.invokevirtual 151, 3) := by decide +kernel
theorem dX11_quotientOfWord_17 : decode cX11_quotientOfWord 17 = .ok (.pop, 1) := by decide +kernel
theorem dX11_quotientOfWord_18 : decode cX11_quotientOfWord 18 = .ok (.aload_n 0, 1) := by decide +kernel
theorem dX11_quotientOfWord_19 : decode cX11_quotientOfWord 19 = .ok (.getfield 77, 3) := by decide +kernel
theorem dX11_quotientOfWord_22 : decode cX11_quotientOfWord 22 = .ok (.aload_n 0, 1) := by decide +kernel
theorem dX11_quotientOfWord_23 : decode cX11_quotientOfWord 23 = .ok (.getfield 60, 3) := by decide +kernel
theorem dX11_quotientOfWord_26 : decode cX11_quotientOfWord 26 = .ok (.invokevirtual 155, 3) := by decide +kernel
theorem dX11_quotientOfWord_29 : decode cX11_quotientOfWord 29 = .ok (.aload_n 0, 1) := by decide +kernel
theorem dX11_quotientOfWord_30 : decode cX11_quotientOfWord 30 = .ok (.getfield 60, 3) := by decide +kernel
theorem dX11_quotientOfWord_33 : decode cX11_quotientOfWord 33 = .ok (.aload_n 0, 1) := by decide +kernel
theorem dX11_quotientOfWord_34 : decode cX11_quotientOfWord 34 = .ok (.getfield 21, 3) := by decide +kernel
theorem dX11_quotientOfWord_37 : decode cX11_quotientOfWord 37 = .ok (.invokevirtual 147, 3) := by decide +kernel
theorem dX11_quotientOfWord_40 : decode cX11_quotientOfWord 40 = .ok (.ireturn, 1) := by decide +kernel
theorem dX11_atomCount_0 : decode cX11_atomCount 0 = .ok (.aload_n 0, 1) := by decide +kernel
theorem dX11_atomCount_1 : decode cX11_atomCount 1 = .ok (.iload_n 1, 1) := by decide +kernel
theorem dX11_atomCount_2 : decode cX11_atomCount 2 = .ok (.invokevirtual 159, 3) := by decide +kernel
theorem dX11_atomCount_5 : decode cX11_atomCount 5 = .ok (.aload_n 0, 1) := by decide +kernel
theorem dX11_atomCount_6 : decode cX11_atomCount 6 = .ok (.getfield 84, 3) := by decide +kernel
theorem dX11_atomCount_9 : decode cX11_atomCount 9 = .ok (.getfield 162, 3) := by decide +kernel
theorem dX11_atomCount_12 : decode cX11_atomCount 12 = .ok (.ireturn, 1) := by decide +kernel
theorem dX11_atomSet_0 : decode cX11_atomSet 0 = .ok (.aload_n 0, 1) := by decide +kernel
theorem dX11_atomSet_1 : decode cX11_atomSet 1 = .ok (.iload_n 1, 1) := by decide +kernel
theorem dX11_atomSet_2 : decode cX11_atomSet 2 = .ok (.invokevirtual 159, 3) := by decide +kernel
theorem dX11_atomSet_5 : decode cX11_atomSet 5 = .ok (.iload_n 2, 1) := by decide +kernel
theorem dX11_atomSet_6 : decode cX11_atomSet 6 = .ok (.aload_n 0, 1) := by decide +kernel
theorem dX11_atomSet_7 : decode cX11_atomSet 7 = .ok (.getfield 84, 3) := by decide +kernel
theorem dX11_atomSet_10 : decode cX11_atomSet 10 = .ok (.getfield 162, 3) := by decide +kernel
theorem dX11_atomSet_13 : decode cX11_atomSet 13 = .ok (.invokestatic 140, 3) := by decide +kernel
theorem dX11_atomSet_16 : decode cX11_atomSet 16 = .ok (.aload_n 0, 1) := by decide +kernel
theorem dX11_atomSet_17 : decode cX11_atomSet 17 = .ok (.getfield 84, 3) := by decide +kernel
theorem dX11_atomSet_20 : decode cX11_atomSet 20 = .ok (.iload_n 2, 1) := by decide +kernel
theorem dX11_atomSet_21 : decode cX11_atomSet 21 = .ok (.invokevirtual 165, 3) := by decide +kernel
theorem dX11_atomSet_24 : decode cX11_atomSet 24 = .ok (.ireturn, 1) := by decide +kernel
theorem dX11_atomOfWord_0 : decode cX11_atomOfWord 0 = .ok (.aload_n 0, 1) := by decide +kernel
theorem dX11_atomOfWord_1 : decode cX11_atomOfWord 1 = .ok (.iload_n 1, 1) := by decide +kernel
theorem dX11_atomOfWord_2 : decode cX11_atomOfWord 2 = .ok (.invokevirtual 159, 3) := by decide +kernel
theorem dX11_atomOfWord_5 : decode cX11_atomOfWord 5 = .ok (.aload_n 0, 1) := by decide +kernel
theorem dX11_atomOfWord_6 : decode cX11_atomOfWord 6 = .ok (.getfield 84, 3) := by decide +kernel
theorem dX11_atomOfWord_9 : decode cX11_atomOfWord 9 = .ok (.aload_n 0, 1) := by decide +kernel
theorem dX11_atomOfWord_10 : decode cX11_atomOfWord 10 = .ok (.getfield 84, 3) := by decide +kernel
theorem dX11_atomOfWord_13 : decode cX11_atomOfWord 13 = .ok (.aload_n 0, 1) := by decide +kernel
theorem dX11_atomOfWord_14 : decode cX11_atomOfWord 14 = .ok (.getfield 21, 3) := by decide +kernel
theorem dX11_atomOfWord_17 : decode cX11_atomOfWord 17 = .ok (.invokevirtual 169, 3) := by decide +kernel
theorem dX11_atomOfWord_20 : decode cX11_atomOfWord 20 = .ok (.invokevirtual 172, 3) := by decide +kernel
theorem dX11_atomOfWord_23 : decode cX11_atomOfWord 23 = .ok (.ireturn, 1) := by decide +kernel
theorem dX11_atomTargets_0 : decode cX11_atomTargets 0 = .ok (.iload_n 3, 1) := by decide +kernel
theorem dX11_atomTargets_1 : decode cX11_atomTargets 1 = .ok (.invokestatic 102, 3) := by decide +kernel
theorem dX11_atomTargets_4 : decode cX11_atomTargets 4 = .ok (.aload_n 0, 1) := by decide +kernel
theorem dX11_atomTargets_5 : decode cX11_atomTargets 5 = .ok (.iload_n 1, 1) := by decide +kernel
theorem dX11_atomTargets_6 : decode cX11_atomTargets 6 = .ok (.invokevirtual 159, 3) := by decide +kernel
theorem dX11_atomTargets_9 : decode cX11_atomTargets 9 = .ok (.iload_n 2, 1) := by decide +kernel
theorem dX11_atomTargets_10 : decode cX11_atomTargets 10 = .ok (.aload_n 0, 1) := by decide +kernel
theorem dX11_atomTargets_11 : decode cX11_atomTargets 11 = .ok (.getfield 84, 3) := by decide +kernel
theorem dX11_atomTargets_14 : decode cX11_atomTargets 14 = .ok (.getfield 162, 3) := by decide +kernel
theorem dX11_atomTargets_17 : decode cX11_atomTargets 17 = .ok (.invokestatic 140, 3) := by decide +kernel
theorem dX11_atomTargets_20 : decode cX11_atomTargets 20 = .ok (.aload_n 0, 1) := by decide +kernel
theorem dX11_atomTargets_21 : decode cX11_atomTargets 21 = .ok (.getfield 84, 3) := by decide +kernel
theorem dX11_atomTargets_24 : decode cX11_atomTargets 24 = .ok (.aload_n 0, 1) := by decide +kernel
theorem dX11_atomTargets_25 : decode cX11_atomTargets 25 = .ok (.getfield 84, 3) := by decide +kernel
theorem dX11_atomTargets_28 : decode cX11_atomTargets 28 = .ok (.iload_n 2, 1) := by decide +kernel
theorem dX11_atomTargets_29 : decode cX11_atomTargets 29 = .ok (.invokevirtual 165, 3) := by decide +kernel
theorem dX11_atomTargets_32 : decode cX11_atomTargets 32 = .ok (.iload_n 3, 1) := by decide +kernel
theorem dX11_atomTargets_33 : decode cX11_atomTargets 33 = .ok (.invokevirtual 175, 3) := by decide +kernel
theorem dX11_atomTargets_36 : decode cX11_atomTargets 36 = .ok (.lreturn, 1) := by decide +kernel
theorem dX11_initialAtoms_0 : decode cX11_initialAtoms 0 = .ok (.aload_n 0, 1) := by decide +kernel
theorem dX11_initialAtoms_1 : decode cX11_initialAtoms 1 = .ok (.iload_n 1, 1) := by decide +kernel
theorem dX11_initialAtoms_2 : decode cX11_initialAtoms 2 = .ok (.invokevirtual 159, 3) := by decide +kernel
theorem dX11_initialAtoms_5 : decode cX11_initialAtoms 5 = .ok (.aload_n 0, 1) := by decide +kernel
theorem dX11_initialAtoms_6 : decode cX11_initialAtoms 6 = .ok (.getfield 84, 3) := by decide +kernel
theorem dX11_initialAtoms_9 : decode cX11_initialAtoms 9 = .ok (.invokevirtual 179, 3) := by decide +kernel
theorem dX11_initialAtoms_12 : decode cX11_initialAtoms 12 = .ok (.lreturn, 1) := by decide +kernel
theorem dX11_finalAtom_0 : decode cX11_finalAtom 0 = .ok (.aload_n 0, 1) := by decide +kernel
theorem dX11_finalAtom_1 : decode cX11_finalAtom 1 = .ok (.iload_n 1, 1) := by decide +kernel
theorem dX11_finalAtom_2 : decode cX11_finalAtom 2 = .ok (.invokevirtual 159, 3) := by decide +kernel
theorem dX11_finalAtom_5 : decode cX11_finalAtom 5 = .ok (.aload_n 0, 1) := by decide +kernel
theorem dX11_finalAtom_6 : decode cX11_finalAtom 6 = .ok (.getfield 84, 3) := by decide +kernel
theorem dX11_finalAtom_9 : decode cX11_finalAtom 9 = .ok (.aload_n 0, 1) := by decide +kernel
theorem dX11_finalAtom_10 : decode cX11_finalAtom 10 = .ok (.getfield 84, 3) := by decide +kernel
theorem dX11_finalAtom_13 : decode cX11_finalAtom 13 = .ok (.invokevirtual 183, 3) := by decide +kernel
theorem dX11_finalAtom_16 : decode cX11_finalAtom 16 = .ok (.invokevirtual 172, 3) := by decide +kernel
theorem dX11_finalAtom_19 : decode cX11_finalAtom 19 = .ok (.ireturn, 1) := by decide +kernel
theorem dX11_takeAtomWord_0 : decode cX11_takeAtomWord 0 = .ok (.aload_n 0, 1) := by decide +kernel
theorem dX11_takeAtomWord_1 : decode cX11_takeAtomWord 1 = .ok (.iload_n 1, 1) := by decide +kernel
theorem dX11_takeAtomWord_2 : decode cX11_takeAtomWord 2 = .ok (.invokevirtual 159, 3) := by decide +kernel
theorem dX11_takeAtomWord_5 : decode cX11_takeAtomWord 5 = .ok (.iload_n 2, 1) := by decide +kernel
theorem dX11_takeAtomWord_6 : decode cX11_takeAtomWord 6 = .ok (.aload_n 0, 1) := by decide +kernel
theorem dX11_takeAtomWord_7 : decode cX11_takeAtomWord 7 = .ok (.getfield 84, 3) := by decide +kernel
theorem dX11_takeAtomWord_10 : decode cX11_takeAtomWord 10 = .ok (.getfield 162, 3) := by decide +kernel
theorem dX11_takeAtomWord_13 : decode cX11_takeAtomWord 13 = .ok (.invokestatic 140, 3) := by decide +kernel
theorem dX11_takeAtomWord_16 : decode cX11_takeAtomWord 16 = .ok (.aload_n 0, 1) := by decide +kernel
theorem dX11_takeAtomWord_17 : decode cX11_takeAtomWord 17 = .ok (.getfield 84, 3) := by decide +kernel
theorem dX11_takeAtomWord_20 : decode cX11_takeAtomWord 20 = .ok (.iload_n 2, 1) := by decide +kernel
theorem dX11_takeAtomWord_21 : decode cX11_takeAtomWord 21 = .ok (.invokevirtual 165, 3) := by decide +kernel
theorem dX11_takeAtomWord_24 : decode cX11_takeAtomWord 24 = .ok (.istore_n 3, 1) := by decide +kernel
theorem dX11_takeAtomWord_25 : decode cX11_takeAtomWord 25 = .ok (.aload_n 0, 1) := by decide +kernel
theorem dX11_takeAtomWord_26 : decode cX11_takeAtomWord 26 = .ok (.getfield 84, 3) := by decide +kernel
theorem dX11_takeAtomWord_29 : decode cX11_takeAtomWord 29 = .ok (.iload_n 3, 1) := by decide +kernel
theorem dX11_takeAtomWord_30 : decode cX11_takeAtomWord 30 = .ok (.invokevirtual 187, 3) := by decide +kernel
theorem dX11_takeAtomWord_33 : decode cX11_takeAtomWord 33 = .ok (.invokestatic 134, 3) := by decide +kernel
theorem dX11_takeAtomWord_36 : decode cX11_takeAtomWord 36 = .ok (.aload_n 0, 1) := by decide +kernel
theorem dX11_takeAtomWord_37 : decode cX11_takeAtomWord 37 = .ok (.getfield 84, 3) := by decide +kernel
theorem dX11_takeAtomWord_40 : decode cX11_takeAtomWord 40 = .ok (.iload_n 3, 1) := by decide +kernel
theorem dX11_takeAtomWord_41 : decode cX11_takeAtomWord 41 = .ok (.aload_n 0, 1) := by decide +kernel
theorem dX11_takeAtomWord_42 : decode cX11_takeAtomWord 42 = .ok (.getfield 21, 3) := by decide +kernel
theorem dX11_takeAtomWord_45 : decode cX11_takeAtomWord 45 = .ok (.invokevirtual 190, 3) := by decide +kernel
theorem dX11_takeAtomWord_48 : decode cX11_takeAtomWord 48 = .ok (.aload_n 0, 1) := by decide +kernel
theorem dX11_takeAtomWord_49 : decode cX11_takeAtomWord 49 = .ok (.getfield 21, 3) := by decide +kernel
theorem dX11_takeAtomWord_52 : decode cX11_takeAtomWord 52 = .ok (.getfield 131, 3) := by decide +kernel
theorem dX11_takeAtomWord_55 : decode cX11_takeAtomWord 55 = .ok (.ireturn, 1) := by decide +kernel
theorem dX11_atomSize_0 : decode cX11_atomSize 0 = .ok (.aload_n 0, 1) := by decide +kernel
theorem dX11_atomSize_1 : decode cX11_atomSize 1 = .ok (.iload_n 1, 1) := by decide +kernel
theorem dX11_atomSize_2 : decode cX11_atomSize 2 = .ok (.invokevirtual 159, 3) := by decide +kernel
theorem dX11_atomSize_5 : decode cX11_atomSize 5 = .ok (.iload_n 2, 1) := by decide +kernel
theorem dX11_atomSize_6 : decode cX11_atomSize 6 = .ok (.aload_n 0, 1) := by decide +kernel
theorem dX11_atomSize_7 : decode cX11_atomSize 7 = .ok (.getfield 84, 3) := by decide +kernel
theorem dX11_atomSize_10 : decode cX11_atomSize 10 = .ok (.getfield 162, 3) := by decide +kernel
theorem dX11_atomSize_13 : decode cX11_atomSize 13 = .ok (.invokestatic 140, 3) := by decide +kernel
theorem dX11_atomSize_16 : decode cX11_atomSize 16 = .ok (.aload_n 0, 1) := by decide +kernel
theorem dX11_atomSize_17 : decode cX11_atomSize 17 = .ok (.getfield 84, 3) := by decide +kernel
theorem dX11_atomSize_20 : decode cX11_atomSize 20 = .ok (.aload_n 0, 1) := by decide +kernel
theorem dX11_atomSize_21 : decode cX11_atomSize 21 = .ok (.getfield 84, 3) := by decide +kernel
theorem dX11_atomSize_24 : decode cX11_atomSize 24 = .ok (.iload_n 2, 1) := by decide +kernel
theorem dX11_atomSize_25 : decode cX11_atomSize 25 = .ok (.invokevirtual 165, 3) := by decide +kernel
theorem dX11_atomSize_28 : decode cX11_atomSize 28 = .ok (.invokevirtual 194, 3) := by decide +kernel
theorem dX11_atomSize_31 : decode cX11_atomSize 31 = .ok (.ireturn, 1) := by decide +kernel
theorem dX11_resultSize_0 : decode cX11_resultSize 0 = .ok (.iload_n 1, 1) := by decide +kernel
theorem dX11_resultSize_1 : decode cX11_resultSize 1 = .ok (.invokestatic 197, 3) := by decide +kernel
theorem dX11_resultSize_4 : decode cX11_resultSize 4 = .ok (.iload_n 2, 1) := by decide +kernel
theorem dX11_resultSize_5 : decode cX11_resultSize 5 = .ok (.invokestatic 88, 3) := by decide +kernel
theorem dX11_resultSize_8 : decode cX11_resultSize 8 = .ok (.iload_n 3, 1) := by decide +kernel
theorem dX11_resultSize_9 : decode cX11_resultSize 9 = .ok (.invokestatic 88, 3) := by decide +kernel
theorem dX11_resultSize_12 : decode cX11_resultSize 12 = .ok (.aload_n 0, 1) := by decide +kernel
theorem dX11_resultSize_13 : decode cX11_resultSize 13 = .ok (.iload_n 1, 1) := by decide +kernel
theorem dX11_resultSize_14 : decode cX11_resultSize 14 = .ok (.iload_n 2, 1) := by decide +kernel
theorem dX11_resultSize_15 : decode cX11_resultSize 15 = .ok (.iload_n 3, 1) := by decide +kernel
theorem dX11_resultSize_16 : decode cX11_resultSize 16 = .ok (.invokevirtual 200, 3) := by decide +kernel
theorem dX11_resultSize_19 : decode cX11_resultSize 19 = .ok (.ireturn, 1) := by decide +kernel
theorem dX11_starSize_0 : decode cX11_starSize 0 = .ok (.iload_n 1, 1) := by decide +kernel
theorem dX11_starSize_1 : decode cX11_starSize 1 = .ok (.invokestatic 88, 3) := by decide +kernel
theorem dX11_starSize_4 : decode cX11_starSize 4 = .ok (.aload_n 0, 1) := by decide +kernel
theorem dX11_starSize_5 : decode cX11_starSize 5 = .ok (.getfield 55, 3) := by decide +kernel
theorem dX11_starSize_8 : decode cX11_starSize 8 = .ok (.aload_n 0, 1) := by decide +kernel
theorem dX11_starSize_9 : decode cX11_starSize 9 = .ok (.getfield 11, 3) := by decide +kernel
theorem dX11_starSize_12 : decode cX11_starSize 12 = .ok (.iload_n 1, 1) := by decide +kernel
theorem dX11_starSize_13 : decode cX11_starSize 13 = .ok (.aaload, 1) := by decide +kernel
theorem dX11_starSize_14 : decode cX11_starSize 14 = .ok (.invokevirtual 204, 3) := by decide +kernel
theorem dX11_starSize_17 : decode cX11_starSize 17 = .ok (.aload_n 0, 1) := by decide +kernel
theorem dX11_starSize_18 : decode cX11_starSize 18 = .ok (.getfield 77, 3) := by decide +kernel
theorem dX11_starSize_21 : decode cX11_starSize 21 = .ok (.aload_n 0, 1) := by decide +kernel
theorem dX11_starSize_22 : decode cX11_starSize 22 = .ok (.getfield 55, 3) := by decide +kernel
theorem dX11_starSize_25 : decode cX11_starSize 25 = .ok (.invokevirtual 151, 3) := by decide +kernel
theorem dX11_starSize_28 : decode cX11_starSize 28 = .ok (.ireturn, 1) := by decide +kernel
theorem dX11_combine_0 : decode cX11_combine 0 = .ok (.iload_n 1, 1) := by decide +kernel
theorem dX11_combine_1 : decode cX11_combine 1 = .ok (.invokestatic 197, 3) := by decide +kernel
theorem dX11_combine_4 : decode cX11_combine 4 = .ok (.iload_n 2, 1) := by decide +kernel
theorem dX11_combine_5 : decode cX11_combine 5 = .ok (.invokestatic 88, 3) := by decide +kernel
theorem dX11_combine_8 : decode cX11_combine 8 = .ok (.iload_n 3, 1) := by decide +kernel
theorem dX11_combine_9 : decode cX11_combine 9 = .ok (.invokestatic 88, 3) := by decide +kernel
theorem dX11_combine_12 : decode cX11_combine 12 = .ok (.iload 4, 2) := by decide +kernel
theorem dX11_combine_14 : decode cX11_combine 14 = .ok (.invokestatic 88, 3) := by decide +kernel
theorem dX11_combine_17 : decode cX11_combine 17 = .ok (.aload_n 0, 1) := by decide +kernel
theorem dX11_combine_18 : decode cX11_combine 18 = .ok (.iload_n 1, 1) := by decide +kernel
theorem dX11_combine_19 : decode cX11_combine 19 = .ok (.iload_n 2, 1) := by decide +kernel
theorem dX11_combine_20 : decode cX11_combine 20 = .ok (.iload_n 3, 1) := by decide +kernel
theorem dX11_combine_21 : decode cX11_combine 21 = .ok (.invokevirtual 200, 3) := by decide +kernel
theorem dX11_combine_24 : decode cX11_combine 24 = .ok (.invokestatic 207, 3) := by decide +kernel
theorem dX11_combine_27 : decode cX11_combine 27 = .ok (.aload_n 0, 1) := by decide +kernel
theorem dX11_combine_28 : decode cX11_combine 28 = .ok (.getfield 77, 3) := by decide +kernel
theorem dX11_combine_31 : decode cX11_combine 31 = .ok (.aload_n 0, 1) := by decide +kernel
theorem dX11_combine_32 : decode cX11_combine 32 = .ok (.getfield 11, 3) := by decide +kernel
theorem dX11_combine_35 : decode cX11_combine 35 = .ok (.iload 4, 2) := by decide +kernel
theorem dX11_combine_37 : decode cX11_combine 37 = .ok (.aaload, 1) := by decide +kernel
theorem dX11_combine_38 : decode cX11_combine 38 = .ok (.invokevirtual 155, 3) := by decide +kernel
theorem dX11_combine_41 : decode cX11_combine 41 = .ok (.aload_n 0, 1) := by decide +kernel
theorem dX11_combine_42 : decode cX11_combine 42 = .ok (.getfield 11, 3) := by decide +kernel
theorem dX11_combine_45 : decode cX11_combine 45 = .ok (.iload 4, 2) := by decide +kernel
theorem dX11_combine_47 : decode cX11_combine 47 = .ok (.aaload, 1) := by decide +kernel
theorem dX11_combine_48 : decode cX11_combine 48 = .ok (.getfield 117, 3) := by decide +kernel
theorem dX11_combine_51 : decode cX11_combine 51 = .ok (.ireturn, 1) := by decide +kernel
theorem dX11_star_0 : decode cX11_star 0 = .ok (.iload_n 1, 1) := by decide +kernel
theorem dX11_star_1 : decode cX11_star 1 = .ok (.invokestatic 88, 3) := by decide +kernel
theorem dX11_star_4 : decode cX11_star 4 = .ok (.iload_n 2, 1) := by decide +kernel
theorem dX11_star_5 : decode cX11_star 5 = .ok (.invokestatic 88, 3) := by decide +kernel
theorem dX11_star_8 : decode cX11_star 8 = .ok (.aload_n 0, 1) := by decide +kernel
theorem dX11_star_9 : decode cX11_star 9 = .ok (.getfield 55, 3) := by decide +kernel
theorem dX11_star_12 : decode cX11_star 12 = .ok (.aload_n 0, 1) := by decide +kernel
theorem dX11_star_13 : decode cX11_star 13 = .ok (.getfield 11, 3) := by decide +kernel
theorem dX11_star_16 : decode cX11_star 16 = .ok (.iload_n 1, 1) := by decide +kernel
theorem dX11_star_17 : decode cX11_star 17 = .ok (.aaload, 1) := by decide +kernel
theorem dX11_star_18 : decode cX11_star 18 = .ok (.invokevirtual 204, 3) := by decide +kernel
theorem dX11_star_21 : decode cX11_star 21 = .ok (.aload_n 0, 1) := by decide +kernel
theorem dX11_star_22 : decode cX11_star 22 = .ok (.getfield 77, 3) := by decide +kernel
theorem dX11_star_25 : decode cX11_star 25 = .ok (.aload_n 0, 1) := by decide +kernel
theorem dX11_star_26 : decode cX11_star 26 = .ok (.getfield 55, 3) := by decide +kernel
theorem dX11_star_29 : decode cX11_star 29 = .ok (.invokevirtual 151, 3) := by decide +kernel
theorem dX11_star_32 : decode cX11_star 32 = .ok (.invokestatic 207, 3) := by decide +kernel
theorem dX11_star_35 : decode cX11_star 35 = .ok (.aload_n 0, 1) := by decide +kernel
theorem dX11_star_36 : decode cX11_star 36 = .ok (.getfield 77, 3) := by decide +kernel
theorem dX11_star_39 : decode cX11_star 39 = .ok (.aload_n 0, 1) := by decide +kernel
theorem dX11_star_40 : decode cX11_star 40 = .ok (.getfield 11, 3) := by decide +kernel
theorem dX11_star_43 : decode cX11_star 43 = .ok (.iload_n 2, 1) := by decide +kernel
theorem dX11_star_44 : decode cX11_star 44 = .ok (.aaload, 1) := by decide +kernel
theorem dX11_star_45 : decode cX11_star 45 = .ok (.invokevirtual 155, 3) := by decide +kernel
theorem dX11_star_48 : decode cX11_star 48 = .ok (.aload_n 0, 1) := by decide +kernel
theorem dX11_star_49 : decode cX11_star 49 = .ok (.getfield 11, 3) := by decide +kernel
theorem dX11_star_52 : decode cX11_star 52 = .ok (.iload_n 2, 1) := by decide +kernel
theorem dX11_star_53 : decode cX11_star 53 = .ok (.aaload, 1) := by decide +kernel
theorem dX11_star_54 : decode cX11_star 54 = .ok (.getfield 117, 3) := by decide +kernel
theorem dX11_star_57 : decode cX11_star 57 = .ok (.ireturn, 1) := by decide +kernel
theorem dX11_reverse_0 : decode cX11_reverse 0 = .ok (.iload_n 2, 1) := by decide +kernel
theorem dX11_reverse_1 : decode cX11_reverse 1 = .ok (.invokestatic 88, 3) := by decide +kernel
theorem dX11_reverse_4 : decode cX11_reverse 4 = .ok (.aload_n 0, 1) := by decide +kernel
theorem dX11_reverse_5 : decode cX11_reverse 5 = .ok (.iload_n 1, 1) := by decide +kernel
theorem dX11_reverse_6 : decode cX11_reverse 6 = .ok (.invokevirtual 159, 3) := by decide +kernel
theorem dX11_reverse_9 : decode cX11_reverse 9 = .ok (.aload_n 0, 1) := by decide +kernel
theorem dX11_reverse_10 : decode cX11_reverse 10 = .ok (.getfield 84, 3) := by decide +kernel
theorem dX11_reverse_13 : decode cX11_reverse 13 = .ok (.getfield 162, 3) := by decide +kernel
theorem dX11_reverse_16 : decode cX11_reverse 16 = .ok (.invokestatic 207, 3) := by decide +kernel
theorem dX11_reverse_19 : decode cX11_reverse 19 = .ok (.aload_n 0, 1) := by decide +kernel
theorem dX11_reverse_20 : decode cX11_reverse 20 = .ok (.getfield 77, 3) := by decide +kernel
theorem dX11_reverse_23 : decode cX11_reverse 23 = .ok (.aload_n 0, 1) := by decide +kernel
theorem dX11_reverse_24 : decode cX11_reverse 24 = .ok (.getfield 84, 3) := by decide +kernel
theorem dX11_reverse_27 : decode cX11_reverse 27 = .ok (.invokevirtual 151, 3) := by decide +kernel
theorem dX11_reverse_30 : decode cX11_reverse 30 = .ok (.pop, 1) := by decide +kernel
theorem dX11_reverse_31 : decode cX11_reverse 31 = .ok (.aload_n 0, 1) := by decide +kernel
theorem dX11_reverse_32 : decode cX11_reverse 32 = .ok (.getfield 77, 3) := by decide +kernel
theorem dX11_reverse_35 : decode cX11_reverse 35 = .ok (.aload_n 0, 1) := by decide +kernel
theorem dX11_reverse_36 : decode cX11_reverse 36 = .ok (.getfield 11, 3) := by decide +kernel
theorem dX11_reverse_39 : decode cX11_reverse 39 = .ok (.iload_n 2, 1) := by decide +kernel
theorem dX11_reverse_40 : decode cX11_reverse 40 = .ok (.aaload, 1) := by decide +kernel
theorem dX11_reverse_41 : decode cX11_reverse 41 = .ok (.invokevirtual 155, 3) := by decide +kernel
theorem dX11_reverse_44 : decode cX11_reverse 44 = .ok (.aload_n 0, 1) := by decide +kernel
theorem dX11_reverse_45 : decode cX11_reverse 45 = .ok (.getfield 11, 3) := by decide +kernel
theorem dX11_reverse_48 : decode cX11_reverse 48 = .ok (.iload_n 2, 1) := by decide +kernel
theorem dX11_reverse_49 : decode cX11_reverse 49 = .ok (.aaload, 1) := by decide +kernel
theorem dX11_reverse_50 : decode cX11_reverse 50 = .ok (.getfield 117, 3) := by decide +kernel
theorem dX11_reverse_53 : decode cX11_reverse 53 = .ok (.ireturn, 1) := by decide +kernel
theorem dX11_uniteAtoms_0 : decode cX11_uniteAtoms 0 = .ok (.iload 4, 2) := by decide +kernel
theorem dX11_uniteAtoms_2 : decode cX11_uniteAtoms 2 = .ok (.invokestatic 88, 3) := by decide +kernel
theorem dX11_uniteAtoms_5 : decode cX11_uniteAtoms 5 = .ok (.aload_n 0, 1) := by decide +kernel
theorem dX11_uniteAtoms_6 : decode cX11_uniteAtoms 6 = .ok (.iload_n 1, 1) := by decide +kernel
theorem dX11_uniteAtoms_7 : decode cX11_uniteAtoms 7 = .ok (.invokevirtual 159, 3) := by decide +kernel
theorem dX11_uniteAtoms_10 : decode cX11_uniteAtoms 10 = .ok (.aload_n 0, 1) := by decide +kernel
theorem dX11_uniteAtoms_11 : decode cX11_uniteAtoms 11 = .ok (.lload_n 2, 1) := by decide +kernel
theorem dX11_uniteAtoms_12 : decode cX11_uniteAtoms 12 = .ok (.invokevirtual 210, 3) := by decide +kernel
theorem dX11_uniteAtoms_15 : decode cX11_uniteAtoms 15 = .ok (.aload_n 0, 1) := by decide +kernel
theorem dX11_uniteAtoms_16 : decode cX11_uniteAtoms 16 = .ok (.getfield 84, 3) := by decide +kernel
theorem dX11_uniteAtoms_19 : decode cX11_uniteAtoms 19 = .ok (.lload_n 2, 1) := by decide +kernel
theorem dX11_uniteAtoms_20 : decode cX11_uniteAtoms 20 = .ok (.aload_n 0, 1) := by decide +kernel
theorem dX11_uniteAtoms_21 : decode cX11_uniteAtoms 21 = .ok (.getfield 60, 3) := by decide +kernel
theorem dX11_uniteAtoms_24 : decode cX11_uniteAtoms 24 = .ok (.invokevirtual 214, 3) := by decide +kernel
theorem dX11_uniteAtoms_27 : decode cX11_uniteAtoms 27 = .ok (.invokestatic 207, 3) := by decide +kernel
theorem dX11_uniteAtoms_30 : decode cX11_uniteAtoms 30 = .ok (.aload_n 0, 1) := by decide +kernel
theorem dX11_uniteAtoms_31 : decode cX11_uniteAtoms 31 = .ok (.getfield 11, 3) := by decide +kernel
theorem dX11_uniteAtoms_34 : decode cX11_uniteAtoms 34 = .ok (.iload 4, 2) := by decide +kernel
theorem dX11_uniteAtoms_36 : decode cX11_uniteAtoms 36 = .ok (.aaload, 1) := by decide +kernel
theorem dX11_uniteAtoms_37 : decode cX11_uniteAtoms 37 = .ok (.aload_n 0, 1) := by decide +kernel
theorem dX11_uniteAtoms_38 : decode cX11_uniteAtoms 38 = .ok (.getfield 60, 3) := by decide +kernel
theorem dX11_uniteAtoms_41 : decode cX11_uniteAtoms 41 = .ok (.invokevirtual 218, 3) := by decide +kernel
theorem dX11_uniteAtoms_44 : decode cX11_uniteAtoms 44 = .ok (.aload_n 0, 1) := by decide +kernel
theorem dX11_uniteAtoms_45 : decode cX11_uniteAtoms 45 = .ok (.getfield 60, 3) := by decide +kernel
theorem dX11_uniteAtoms_48 : decode cX11_uniteAtoms 48 = .ok (.getfield 117, 3) := by decide +kernel
theorem dX11_uniteAtoms_51 : decode cX11_uniteAtoms 51 = .ok (.ireturn, 1) := by decide +kernel
theorem dX11_isUnionOfAtoms_0 : decode cX11_isUnionOfAtoms 0 = .ok (.iload_n 2, 1) := by decide +kernel
theorem dX11_isUnionOfAtoms_1 : decode cX11_isUnionOfAtoms 1 = .ok (.invokestatic 88, 3) := by decide +kernel
theorem dX11_isUnionOfAtoms_4 : decode cX11_isUnionOfAtoms 4 = .ok (.aload_n 0, 1) := by decide +kernel
theorem dX11_isUnionOfAtoms_5 : decode cX11_isUnionOfAtoms 5 = .ok (.iload_n 1, 1) := by decide +kernel
theorem dX11_isUnionOfAtoms_6 : decode cX11_isUnionOfAtoms 6 = .ok (.invokevirtual 159, 3) := by decide +kernel
theorem dX11_isUnionOfAtoms_9 : decode cX11_isUnionOfAtoms 9 = .ok (.aload_n 0, 1) := by decide +kernel
theorem dX11_isUnionOfAtoms_10 : decode cX11_isUnionOfAtoms 10 = .ok (.getfield 77, 3) := by decide +kernel
theorem dX11_isUnionOfAtoms_13 : decode cX11_isUnionOfAtoms 13 = .ok (.aload_n 0, 1) := by decide +kernel
theorem dX11_isUnionOfAtoms_14 : decode cX11_isUnionOfAtoms 14 = .ok (.getfield 11, 3) := by decide +kernel
theorem dX11_isUnionOfAtoms_17 : decode cX11_isUnionOfAtoms 17 = .ok (.iload_n 2, 1) := by decide +kernel
theorem dX11_isUnionOfAtoms_18 : decode cX11_isUnionOfAtoms 18 = .ok (.aaload, 1) := by decide +kernel
theorem dX11_isUnionOfAtoms_19 : decode cX11_isUnionOfAtoms 19 = .ok (.invokevirtual 151, 3) := by decide +kernel
theorem dX11_isUnionOfAtoms_22 : decode cX11_isUnionOfAtoms 22 = .ok (.pop, 1) := by decide +kernel
theorem dX11_isUnionOfAtoms_23 : decode cX11_isUnionOfAtoms 23 = .ok (.aload_n 0, 1) := by decide +kernel
theorem dX11_isUnionOfAtoms_24 : decode cX11_isUnionOfAtoms 24 = .ok (.getfield 77, 3) := by decide +kernel
theorem dX11_isUnionOfAtoms_27 : decode cX11_isUnionOfAtoms 27 = .ok (.aload_n 0, 1) := by decide +kernel
theorem dX11_isUnionOfAtoms_28 : decode cX11_isUnionOfAtoms 28 = .ok (.getfield 60, 3) := by decide +kernel
theorem dX11_isUnionOfAtoms_31 : decode cX11_isUnionOfAtoms 31 = .ok (.invokevirtual 155, 3) := by decide +kernel
theorem dX11_isUnionOfAtoms_34 : decode cX11_isUnionOfAtoms 34 = .ok (.aload_n 0, 1) := by decide +kernel
theorem dX11_isUnionOfAtoms_35 : decode cX11_isUnionOfAtoms 35 = .ok (.getfield 84, 3) := by decide +kernel
theorem dX11_isUnionOfAtoms_38 : decode cX11_isUnionOfAtoms 38 = .ok (.aload_n 0, 1) := by decide +kernel
theorem dX11_isUnionOfAtoms_39 : decode cX11_isUnionOfAtoms 39 = .ok (.getfield 60, 3) := by decide +kernel
theorem dX11_isUnionOfAtoms_42 : decode cX11_isUnionOfAtoms 42 = .ok (.invokevirtual 221, 3) := by decide +kernel
theorem dX11_isUnionOfAtoms_45 : decode cX11_isUnionOfAtoms 45 = .ok (.ireturn, 1) := by decide +kernel
theorem dX11_takeDifference_0 : decode cX11_takeDifference 0 = .ok (.iload_n 1, 1) := by decide +kernel
theorem dX11_takeDifference_1 : decode cX11_takeDifference 1 = .ok (.invokestatic 88, 3) := by decide +kernel
theorem dX11_takeDifference_4 : decode cX11_takeDifference 4 = .ok (.iload_n 2, 1) := by decide +kernel
theorem dX11_takeDifference_5 : decode cX11_takeDifference 5 = .ok (.invokestatic 88, 3) := by decide +kernel
theorem dX11_takeDifference_8 : decode cX11_takeDifference 8 = .ok (.aload_n 0, 1) := by decide +kernel
theorem dX11_takeDifference_9 : decode cX11_takeDifference 9 = .ok (.getfield 41, 3) := by decide +kernel
theorem dX11_takeDifference_12 : decode cX11_takeDifference 12 = .ok (.iconst 3, 1) := by decide +kernel
theorem dX11_takeDifference_13 : decode cX11_takeDifference 13 = .ok (.aload_n 0, 1) := by decide +kernel
theorem dX11_takeDifference_14 : decode cX11_takeDifference 14 = .ok (.getfield 11, 3) := by decide +kernel
theorem dX11_takeDifference_17 : decode cX11_takeDifference 17 = .ok (.iload_n 1, 1) := by decide +kernel
theorem dX11_takeDifference_18 : decode cX11_takeDifference 18 = .ok (.aaload, 1) := by decide +kernel
theorem dX11_takeDifference_19 : decode cX11_takeDifference 19 = .ok (.aload_n 0, 1) := by decide +kernel
theorem dX11_takeDifference_20 : decode cX11_takeDifference 20 = .ok (.getfield 11, 3) := by decide +kernel
theorem dX11_takeDifference_23 : decode cX11_takeDifference 23 = .ok (.iload_n 2, 1) := by decide +kernel
theorem dX11_takeDifference_24 : decode cX11_takeDifference 24 = .ok (.aaload, 1) := by decide +kernel
theorem dX11_takeDifference_25 : decode cX11_takeDifference 25 = .ok (.invokevirtual 225, 3) := by decide +kernel
theorem dX11_takeDifference_28 : decode cX11_takeDifference 28 = .ok (.aload_n 0, 1) := by decide +kernel
theorem dX11_takeDifference_29 : decode cX11_takeDifference 29 = .ok (.getfield 77, 3) := by decide +kernel
theorem dX11_takeDifference_32 : decode cX11_takeDifference 32 = .ok (.aload_n 0, 1) := by decide +kernel
theorem dX11_takeDifference_33 : decode cX11_takeDifference 33 = .ok (.getfield 41, 3) := by decide +kernel
theorem dX11_takeDifference_36 : decode cX11_takeDifference 36 = .ok (.invokevirtual 228, 3) := by decide +kernel
theorem dX11_takeDifference_39 : decode cX11_takeDifference 39 = .ok (.aload_n 0, 1) := by decide +kernel
theorem dX11_takeDifference_40 : decode cX11_takeDifference 40 = .ok (.getfield 77, 3) := by decide +kernel
theorem dX11_takeDifference_43 : decode cX11_takeDifference 43 = .ok (.invokevirtual 232, 3) := by decide +kernel
theorem dX11_takeDifference_46 : decode cX11_takeDifference 46 = .ok (.istore_n 3, 1) := by decide +kernel
theorem dX11_takeDifference_47 : decode cX11_takeDifference 47 = .ok (.iload_n 3, 1) := by decide +kernel
theorem dX11_takeDifference_48 : decode cX11_takeDifference 48 = .ok (.ifCond .ge 13, 3) := by decide +kernel
theorem dX11_takeDifference_51 : decode cX11_takeDifference 51 = .ok (.new 235, 3) := by decide +kernel
theorem dX11_takeDifference_54 : decode cX11_takeDifference 54 = .ok (.dup, 1) := by decide +kernel
theorem dX11_takeDifference_55 : decode cX11_takeDifference 55 = .ok (.ldc 237, 2) := by decide +kernel
theorem dX11_takeDifference_57 : decode cX11_takeDifference 57 = .ok (.invokespecial 239, 3) := by decide +kernel
theorem dX11_takeDifference_60 : decode cX11_takeDifference 60 = .ok (.athrow, 1) := by decide +kernel
theorem dX11_takeDifference_61 : decode cX11_takeDifference 61 = .ok (.aload_n 0, 1) := by decide +kernel
theorem dX11_takeDifference_62 : decode cX11_takeDifference 62 = .ok (.getfield 77, 3) := by decide +kernel
theorem dX11_takeDifference_65 : decode cX11_takeDifference 65 = .ok (.iload_n 3, 1) := by decide +kernel
theorem dX11_takeDifference_66 : decode cX11_takeDifference 66 = .ok (.invokevirtual 242, 3) := by decide +kernel
theorem dX11_takeDifference_69 : decode cX11_takeDifference 69 = .ok (.invokestatic 134, 3) := by decide +kernel
theorem dX11_takeDifference_72 : decode cX11_takeDifference 72 = .ok (.aload_n 0, 1) := by decide +kernel
theorem dX11_takeDifference_73 : decode cX11_takeDifference 73 = .ok (.getfield 77, 3) := by decide +kernel
theorem dX11_takeDifference_76 : decode cX11_takeDifference 76 = .ok (.iload_n 3, 1) := by decide +kernel
theorem dX11_takeDifference_77 : decode cX11_takeDifference 77 = .ok (.aload_n 0, 1) := by decide +kernel
theorem dX11_takeDifference_78 : decode cX11_takeDifference 78 = .ok (.getfield 21, 3) := by decide +kernel
theorem dX11_takeDifference_81 : decode cX11_takeDifference 81 = .ok (.invokevirtual 243, 3) := by decide +kernel
theorem dX11_takeDifference_84 : decode cX11_takeDifference 84 = .ok (.aload_n 0, 1) := by decide +kernel
theorem dX11_takeDifference_85 : decode cX11_takeDifference 85 = .ok (.getfield 21, 3) := by decide +kernel
theorem dX11_takeDifference_88 : decode cX11_takeDifference 88 = .ok (.getfield 131, 3) := by decide +kernel
theorem dX11_takeDifference_91 : decode cX11_takeDifference 91 = .ok (.ireturn, 1) := by decide +kernel
theorem dX11_share_0 : decode cX11_share 0 = .ok (.iload_n 1, 1) := by decide +kernel
theorem dX11_share_1 : decode cX11_share 1 = .ok (.invokestatic 88, 3) := by decide +kernel
theorem dX11_share_4 : decode cX11_share 4 = .ok (.iload_n 2, 1) := by decide +kernel
theorem dX11_share_5 : decode cX11_share 5 = .ok (.invokestatic 244, 3) := by decide +kernel
theorem dX11_share_8 : decode cX11_share 8 = .ok (.aload_n 0, 1) := by decide +kernel
theorem dX11_share_9 : decode cX11_share 9 = .ok (.getfield 65, 3) := by decide +kernel
theorem dX11_share_12 : decode cX11_share 12 = .ok (.aload_n 0, 1) := by decide +kernel
theorem dX11_share_13 : decode cX11_share 13 = .ok (.getfield 11, 3) := by decide +kernel
theorem dX11_share_16 : decode cX11_share 16 = .ok (.iload_n 1, 1) := by decide +kernel
theorem dX11_share_17 : decode cX11_share 17 = .ok (.aaload, 1) := by decide +kernel
theorem dX11_share_18 : decode cX11_share 18 = .ok (.iload_n 2, 1) := by decide +kernel
theorem dX11_share_19 : decode cX11_share 19 = .ok (.iconst 0, 1) := by decide +kernel
theorem dX11_share_20 : decode cX11_share 20 = .ok (.invokevirtual 247, 3) := by decide +kernel
theorem dX11_share_23 : decode cX11_share 23 = .ok (.aload_n 0, 1) := by decide +kernel
theorem dX11_share_24 : decode cX11_share 24 = .ok (.getfield 65, 3) := by decide +kernel
theorem dX11_share_27 : decode cX11_share 27 = .ok (.getfield 251, 3) := by decide +kernel
theorem dX11_share_30 : decode cX11_share 30 = .ok (.iload_n 2, 1) := by decide +kernel
theorem dX11_share_31 : decode cX11_share 31 = .ok (.daload, 1) := by decide +kernel
theorem dX11_share_32 : decode cX11_share 32 = .ok (.dreturn, 1) := by decide +kernel
theorem dX11_keepShares_0 : decode cX11_keepShares 0 = .ok (.iload_n 1, 1) := by decide +kernel
theorem dX11_keepShares_1 : decode cX11_keepShares 1 = .ok (.iconst 2, 1) := by decide +kernel
theorem dX11_keepShares_2 : decode cX11_keepShares 2 = .ok (.invokestatic 140, 3) := by decide +kernel
theorem dX11_keepShares_5 : decode cX11_keepShares 5 = .ok (.iload_n 2, 1) := by decide +kernel
theorem dX11_keepShares_6 : decode cX11_keepShares 6 = .ok (.invokestatic 88, 3) := by decide +kernel
theorem dX11_keepShares_9 : decode cX11_keepShares 9 = .ok (.iload_n 3, 1) := by decide +kernel
theorem dX11_keepShares_10 : decode cX11_keepShares 10 = .ok (.invokestatic 244, 3) := by decide +kernel
theorem dX11_keepShares_13 : decode cX11_keepShares 13 = .ok (.aload_n 0, 1) := by decide +kernel
theorem dX11_keepShares_14 : decode cX11_keepShares 14 = .ok (.getfield 34, 3) := by decide +kernel
theorem dX11_keepShares_17 : decode cX11_keepShares 17 = .ok (.iload_n 1, 1) := by decide +kernel
theorem dX11_keepShares_18 : decode cX11_keepShares 18 = .ok (.aaload, 1) := by decide +kernel
theorem dX11_keepShares_19 : decode cX11_keepShares 19 = .ok (.aload_n 0, 1) := by decide +kernel
theorem dX11_keepShares_20 : decode cX11_keepShares 20 = .ok (.getfield 11, 3) := by decide +kernel
theorem dX11_keepShares_23 : decode cX11_keepShares 23 = .ok (.iload_n 2, 1) := by decide +kernel
theorem dX11_keepShares_24 : decode cX11_keepShares 24 = .ok (.aaload, 1) := by decide +kernel
theorem dX11_keepShares_25 : decode cX11_keepShares 25 = .ok (.iload_n 3, 1) := by decide +kernel
theorem dX11_keepShares_26 : decode cX11_keepShares 26 = .ok (.iload 4, 2) := by decide +kernel
theorem dX11_keepShares_28 : decode cX11_keepShares 28 = .ok (.invokevirtual 247, 3) := by decide +kernel
theorem dX11_keepShares_31 : decode cX11_keepShares 31 = .ok (.return_, 1) := by decide +kernel
theorem dX11_remainder_0 : decode cX11_remainder 0 = .ok (.iload_n 1, 1) := by decide +kernel
theorem dX11_remainder_1 : decode cX11_remainder 1 = .ok (.ifCond .lt 8, 3) := by decide +kernel
theorem dX11_remainder_4 : decode cX11_remainder 4 = .ok (.iload_n 1, 1) := by decide +kernel
theorem dX11_remainder_5 : decode cX11_remainder 5 = .ok (.iconst 2, 1) := by decide +kernel
theorem dX11_remainder_6 : decode cX11_remainder 6 = .ok (.if_icmp .lt 14, 3) := by decide +kernel
theorem dX11_remainder_9 : decode cX11_remainder 9 = .ok (.new 255, 3) := by decide +kernel
theorem dX11_remainder_12 : decode cX11_remainder 12 = .ok (.dup, 1) := by decide +kernel
theorem dX11_remainder_13 : decode cX11_remainder 13 = .ok (.ldc_w 257, 3) := by decide +kernel
theorem dX11_remainder_16 : decode cX11_remainder 16 = .ok (.invokespecial 259, 3) := by decide +kernel
theorem dX11_remainder_19 : decode cX11_remainder 19 = .ok (.athrow, 1) := by decide +kernel
theorem dX11_remainder_20 : decode cX11_remainder 20 = .ok (.aload_n 0, 1) := by decide +kernel
theorem dX11_remainder_21 : decode cX11_remainder 21 = .ok (.getfield 34, 3) := by decide +kernel
theorem dX11_remainder_24 : decode cX11_remainder 24 = .ok (.iload_n 1, 1) := by decide +kernel
theorem dX11_remainder_25 : decode cX11_remainder 25 = .ok (.aaload, 1) := by decide +kernel
theorem dX11_remainder_26 : decode cX11_remainder 26 = .ok (.getfield 260, 3) := by decide +kernel
theorem dX11_remainder_29 : decode cX11_remainder 29 = .ok (.ifCond .ne 14, 3) := by decide +kernel
theorem dX11_remainder_32 : decode cX11_remainder 32 = .ok (.new 261, 3) := by decide +kernel
theorem dX11_remainder_35 : decode cX11_remainder 35 = .ok (.dup, 1) := by decide +kernel
theorem dX11_remainder_36 : decode cX11_remainder 36 = .ok (.ldc_w 263, 3) := by decide +kernel
theorem dX11_remainder_39 : decode cX11_remainder 39 = .ok (.invokespecial 265, 3) := by decide +kernel
theorem dX11_remainder_42 : decode cX11_remainder 42 = .ok (.athrow, 1) := by decide +kernel
theorem dX11_remainder_43 : decode cX11_remainder 43 = .ok (.iload_n 2, 1) := by decide +kernel
theorem dX11_remainder_44 : decode cX11_remainder 44 = .ok (.aload_n 0, 1) := by decide +kernel
theorem dX11_remainder_45 : decode cX11_remainder 45 = .ok (.getfield 34, 3) := by decide +kernel
theorem dX11_remainder_48 : decode cX11_remainder 48 = .ok (.iload_n 1, 1) := by decide +kernel
theorem dX11_remainder_49 : decode cX11_remainder 49 = .ok (.aaload, 1) := by decide +kernel
theorem dX11_remainder_50 : decode cX11_remainder 50 = .ok (.getfield 260, 3) := by decide +kernel
theorem dX11_remainder_53 : decode cX11_remainder 53 = .ok (.invokestatic 140, 3) := by decide +kernel
theorem dX11_remainder_56 : decode cX11_remainder 56 = .ok (.iload_n 3, 1) := by decide +kernel
theorem dX11_remainder_57 : decode cX11_remainder 57 = .ok (.aload_n 0, 1) := by decide +kernel
theorem dX11_remainder_58 : decode cX11_remainder 58 = .ok (.getfield 34, 3) := by decide +kernel
theorem dX11_remainder_61 : decode cX11_remainder 61 = .ok (.iload_n 1, 1) := by decide +kernel
theorem dX11_remainder_62 : decode cX11_remainder 62 = .ok (.aaload, 1) := by decide +kernel
theorem dX11_remainder_63 : decode cX11_remainder 63 = .ok (.getfield 260, 3) := by decide +kernel
theorem dX11_remainder_66 : decode cX11_remainder 66 = .ok (.invokestatic 140, 3) := by decide +kernel
theorem dX11_remainder_69 : decode cX11_remainder 69 = .ok (.aload_n 0, 1) := by decide +kernel
theorem dX11_remainder_70 : decode cX11_remainder 70 = .ok (.getfield 34, 3) := by decide +kernel
theorem dX11_remainder_73 : decode cX11_remainder 73 = .ok (.iload_n 1, 1) := by decide +kernel
theorem dX11_remainder_74 : decode cX11_remainder 74 = .ok (.aaload, 1) := by decide +kernel
theorem dX11_remainder_75 : decode cX11_remainder 75 = .ok (.iload_n 3, 1) := by decide +kernel
theorem dX11_remainder_76 : decode cX11_remainder 76 = .ok (.invokevirtual 266, 3) := by decide +kernel
theorem dX11_remainder_79 : decode cX11_remainder 79 = .ok (.ifCond .eq 14, 3) := by decide +kernel
theorem dX11_remainder_82 : decode cX11_remainder 82 = .ok (.new 269, 3) := by decide +kernel
theorem dX11_remainder_85 : decode cX11_remainder 85 = .ok (.dup, 1) := by decide +kernel
theorem dX11_remainder_86 : decode cX11_remainder 86 = .ok (.ldc_w 271, 3) := by decide +kernel
theorem dX11_remainder_89 : decode cX11_remainder 89 = .ok (.invokespecial 273, 3) := by decide +kernel
theorem dX11_remainder_92 : decode cX11_remainder 92 = .ok (.athrow, 1) := by decide +kernel
theorem dX11_remainder_93 : decode cX11_remainder 93 = .ok (.aload_n 0, 1) := by decide +kernel
theorem dX11_remainder_94 : decode cX11_remainder 94 = .ok (.getfield 34, 3) := by decide +kernel
theorem dX11_remainder_97 : decode cX11_remainder 97 = .ok (.iload_n 1, 1) := by decide +kernel
theorem dX11_remainder_98 : decode cX11_remainder 98 = .ok (.aaload, 1) := by decide +kernel
theorem dX11_remainder_99 : decode cX11_remainder 99 = .ok (.iload_n 2, 1) := by decide +kernel
theorem dX11_remainder_100 : decode cX11_remainder 100 = .ok (.iload_n 3, 1) := by decide +kernel
theorem dX11_remainder_101 : decode cX11_remainder 101 = .ok (.invokevirtual 274, 3) := by decide +kernel
theorem dX11_remainder_104 : decode cX11_remainder 104 = .ok (.dreturn, 1) := by decide +kernel
theorem dX11_save_0 : decode cX11_save 0 = .ok (.iconst 0, 1) := by decide +kernel
theorem dX11_save_1 : decode cX11_save 1 = .ok (.istore_n 1, 1) := by decide +kernel
theorem dX11_save_2 : decode cX11_save 2 = .ok (.iload_n 1, 1) := by decide +kernel
theorem dX11_save_3 : decode cX11_save 3 = .ok (.iconst 3, 1) := by decide +kernel
theorem dX11_save_4 : decode cX11_save 4 = .ok (.if_icmp .ge 24, 3) := by decide +kernel
theorem dX11_save_7 : decode cX11_save 7 = .ok (.aload_n 0, 1) := by decide +kernel
theorem dX11_save_8 : decode cX11_save 8 = .ok (.getfield 15, 3) := by decide +kernel
theorem dX11_save_11 : decode cX11_save 11 = .ok (.iload_n 1, 1) := by decide +kernel
theorem dX11_save_12 : decode cX11_save 12 = .ok (.aaload, 1) := by decide +kernel
theorem dX11_save_13 : decode cX11_save 13 = .ok (.aload_n 0, 1) := by decide +kernel
theorem dX11_save_14 : decode cX11_save 14 = .ok (.getfield 11, 3) := by decide +kernel
theorem dX11_save_17 : decode cX11_save 17 = .ok (.iload_n 1, 1) := by decide +kernel
theorem dX11_save_18 : decode cX11_save 18 = .ok (.aaload, 1) := by decide +kernel
theorem dX11_save_19 : decode cX11_save 19 = .ok (.invokevirtual 218, 3) := by decide +kernel
theorem dX11_save_22 : decode cX11_save 22 = .ok (.iinc 1 1, 3) := by decide +kernel
theorem dX11_save_25 : decode cX11_save 25 = .ok (.goto (-23), 3) := by decide +kernel
theorem dX11_save_28 : decode cX11_save 28 = .ok (.aload_n 0, 1) := by decide +kernel
theorem dX11_save_29 : decode cX11_save 29 = .ok (.getfield 25, 3) := by decide +kernel
theorem dX11_save_32 : decode cX11_save 32 = .ok (.aload_n 0, 1) := by decide +kernel
theorem dX11_save_33 : decode cX11_save 33 = .ok (.getfield 21, 3) := by decide +kernel
theorem dX11_save_36 : decode cX11_save 36 = .ok (.invokevirtual 278, 3) := by decide +kernel
theorem dX11_save_39 : decode cX11_save 39 = .ok (.aload_n 0, 1) := by decide +kernel
theorem dX11_save_40 : decode cX11_save 40 = .ok (.iconst 1, 1) := by decide +kernel
theorem dX11_save_41 : decode cX11_save 41 = .ok (.putfield 28, 3) := by decide +kernel
theorem dX11_save_44 : decode cX11_save 44 = .ok (.return_, 1) := by decide +kernel
theorem dX11_restore_0 : decode cX11_restore 0 = .ok (.aload_n 0, 1) := by decide +kernel
theorem dX11_restore_1 : decode cX11_restore 1 = .ok (.getfield 28, 3) := by decide +kernel
theorem dX11_restore_4 : decode cX11_restore 4 = .ok (.ifCond .ne 14, 3) := by decide +kernel
theorem dX11_restore_7 : decode cX11_restore 7 = .ok (.new 261, 3) := by decide +kernel
theorem dX11_restore_10 : decode cX11_restore 10 = .ok (.dup, 1) := by decide +kernel
theorem dX11_restore_11 : decode cX11_restore 11 = .ok (.ldc_w 281, 3) := by decide +kernel
theorem dX11_restore_14 : decode cX11_restore 14 = .ok (.invokespecial 265, 3) := by decide +kernel
theorem dX11_restore_17 : decode cX11_restore 17 = .ok (.athrow, 1) := by decide +kernel
theorem dX11_restore_18 : decode cX11_restore 18 = .ok (.iconst 0, 1) := by decide +kernel
theorem dX11_restore_19 : decode cX11_restore 19 = .ok (.istore_n 1, 1) := by decide +kernel
theorem dX11_restore_20 : decode cX11_restore 20 = .ok (.iload_n 1, 1) := by decide +kernel
theorem dX11_restore_21 : decode cX11_restore 21 = .ok (.iconst 3, 1) := by decide +kernel
theorem dX11_restore_22 : decode cX11_restore 22 = .ok (.if_icmp .ge 24, 3) := by decide +kernel
theorem dX11_restore_25 : decode cX11_restore 25 = .ok (.aload_n 0, 1) := by decide +kernel
theorem dX11_restore_26 : decode cX11_restore 26 = .ok (.getfield 11, 3) := by decide +kernel
theorem dX11_restore_29 : decode cX11_restore 29 = .ok (.iload_n 1, 1) := by decide +kernel
theorem dX11_restore_30 : decode cX11_restore 30 = .ok (.aaload, 1) := by decide +kernel
theorem dX11_restore_31 : decode cX11_restore 31 = .ok (.aload_n 0, 1) := by decide +kernel
theorem dX11_restore_32 : decode cX11_restore 32 = .ok (.getfield 15, 3) := by decide +kernel
theorem dX11_restore_35 : decode cX11_restore 35 = .ok (.iload_n 1, 1) := by decide +kernel
theorem dX11_restore_36 : decode cX11_restore 36 = .ok (.aaload, 1) := by decide +kernel
theorem dX11_restore_37 : decode cX11_restore 37 = .ok (.invokevirtual 218, 3) := by decide +kernel
theorem dX11_restore_40 : decode cX11_restore 40 = .ok (.iinc 1 1, 3) := by decide +kernel
theorem dX11_restore_43 : decode cX11_restore 43 = .ok (.goto (-23), 3) := by decide +kernel
theorem dX11_restore_46 : decode cX11_restore 46 = .ok (.aload_n 0, 1) := by decide +kernel
theorem dX11_restore_47 : decode cX11_restore 47 = .ok (.getfield 21, 3) := by decide +kernel
theorem dX11_restore_50 : decode cX11_restore 50 = .ok (.aload_n 0, 1) := by decide +kernel
theorem dX11_restore_51 : decode cX11_restore 51 = .ok (.getfield 25, 3) := by decide +kernel
theorem dX11_restore_54 : decode cX11_restore 54 = .ok (.invokevirtual 278, 3) := by decide +kernel
theorem dX11_restore_57 : decode cX11_restore 57 = .ok (.return_, 1) := by decide +kernel
theorem dX11_checkIndex_0 : decode cX11_checkIndex 0 = .ok (.iload_n 0, 1) := by decide +kernel
theorem dX11_checkIndex_1 : decode cX11_checkIndex 1 = .ok (.ifCond .lt 8, 3) := by decide +kernel
theorem dX11_checkIndex_4 : decode cX11_checkIndex 4 = .ok (.iload_n 0, 1) := by decide +kernel
theorem dX11_checkIndex_5 : decode cX11_checkIndex 5 = .ok (.iload_n 1, 1) := by decide +kernel
theorem dX11_checkIndex_6 : decode cX11_checkIndex 6 = .ok (.if_icmp .lt 14, 3) := by decide +kernel
theorem dX11_checkIndex_9 : decode cX11_checkIndex 9 = .ok (.new 283, 3) := by decide +kernel
theorem dX11_checkIndex_12 : decode cX11_checkIndex 12 = .ok (.dup, 1) := by decide +kernel
theorem dX11_checkIndex_13 : decode cX11_checkIndex 13 = .ok (.ldc_w 285, 3) := by decide +kernel
theorem dX11_checkIndex_16 : decode cX11_checkIndex 16 = .ok (.invokespecial 287, 3) := by decide +kernel
theorem dX11_checkIndex_19 : decode cX11_checkIndex 19 = .ok (.athrow, 1) := by decide +kernel
theorem dX11_checkIndex_20 : decode cX11_checkIndex 20 = .ok (.return_, 1) := by decide +kernel
theorem dX11_checkRegister_0 : decode cX11_checkRegister 0 = .ok (.iload_n 0, 1) := by decide +kernel
theorem dX11_checkRegister_1 : decode cX11_checkRegister 1 = .ok (.iconst 3, 1) := by decide +kernel
theorem dX11_checkRegister_2 : decode cX11_checkRegister 2 = .ok (.invokestatic 140, 3) := by decide +kernel
theorem dX11_checkRegister_5 : decode cX11_checkRegister 5 = .ok (.return_, 1) := by decide +kernel
theorem dX11_checkLetter_0 : decode cX11_checkLetter 0 = .ok (.iload_n 0, 1) := by decide +kernel
theorem dX11_checkLetter_1 : decode cX11_checkLetter 1 = .ok (.iconst 3, 1) := by decide +kernel
theorem dX11_checkLetter_2 : decode cX11_checkLetter 2 = .ok (.invokestatic 140, 3) := by decide +kernel
theorem dX11_checkLetter_5 : decode cX11_checkLetter 5 = .ok (.return_, 1) := by decide +kernel
theorem dX11_checkState_0 : decode cX11_checkState 0 = .ok (.iload_n 1, 1) := by decide +kernel
theorem dX11_checkState_1 : decode cX11_checkState 1 = .ok (.invokestatic 88, 3) := by decide +kernel
theorem dX11_checkState_4 : decode cX11_checkState 4 = .ok (.iload_n 2, 1) := by decide +kernel
theorem dX11_checkState_5 : decode cX11_checkState 5 = .ok (.aload_n 0, 1) := by decide +kernel
theorem dX11_checkState_6 : decode cX11_checkState 6 = .ok (.getfield 11, 3) := by decide +kernel
theorem dX11_checkState_9 : decode cX11_checkState 9 = .ok (.iload_n 1, 1) := by decide +kernel
theorem dX11_checkState_10 : decode cX11_checkState 10 = .ok (.aaload, 1) := by decide +kernel
theorem dX11_checkState_11 : decode cX11_checkState 11 = .ok (.getfield 117, 3) := by decide +kernel
theorem dX11_checkState_14 : decode cX11_checkState 14 = .ok (.invokestatic 140, 3) := by decide +kernel
theorem dX11_checkState_17 : decode cX11_checkState 17 = .ok (.return_, 1) := by decide +kernel
theorem dX11_checkStates_0 : decode cX11_checkStates 0 = .ok (.iload_n 0, 1) := by decide +kernel
theorem dX11_checkStates_1 : decode cX11_checkStates 1 = .ok (.iconst 1, 1) := by decide +kernel
theorem dX11_checkStates_2 : decode cX11_checkStates 2 = .ok (.if_icmp .lt 9, 3) := by decide +kernel
theorem dX11_checkStates_5 : decode cX11_checkStates 5 = .ok (.iload_n 0, 1) := by decide +kernel
theorem dX11_checkStates_6 : decode cX11_checkStates 6 = .ok (.bipush 6, 2) := by decide +kernel
theorem dX11_checkStates_8 : decode cX11_checkStates 8 = .ok (.if_icmp .le 14, 3) := by decide +kernel
theorem dX11_checkStates_11 : decode cX11_checkStates 11 = .ok (.new 255, 3) := by decide +kernel
theorem dX11_checkStates_14 : decode cX11_checkStates 14 = .ok (.dup, 1) := by decide +kernel
theorem dX11_checkStates_15 : decode cX11_checkStates 15 = .ok (.ldc_w 288, 3) := by decide +kernel
theorem dX11_checkStates_18 : decode cX11_checkStates 18 = .ok (.invokespecial 259, 3) := by decide +kernel
theorem dX11_checkStates_21 : decode cX11_checkStates 21 = .ok (.athrow, 1) := by decide +kernel
theorem dX11_checkStates_22 : decode cX11_checkStates 22 = .ok (.return_, 1) := by decide +kernel
theorem dX11_checkOperation_0 : decode cX11_checkOperation 0 = .ok (.iload_n 0, 1) := by decide +kernel
theorem dX11_checkOperation_1 : decode cX11_checkOperation 1 = .ok (.ifCond .lt 8, 3) := by decide +kernel
theorem dX11_checkOperation_4 : decode cX11_checkOperation 4 = .ok (.iload_n 0, 1) := by decide +kernel
theorem dX11_checkOperation_5 : decode cX11_checkOperation 5 = .ok (.iconst 5, 1) := by decide +kernel
theorem dX11_checkOperation_6 : decode cX11_checkOperation 6 = .ok (.if_icmp .lt 14, 3) := by decide +kernel
theorem dX11_checkOperation_9 : decode cX11_checkOperation 9 = .ok (.new 255, 3) := by decide +kernel
theorem dX11_checkOperation_12 : decode cX11_checkOperation 12 = .ok (.dup, 1) := by decide +kernel
theorem dX11_checkOperation_13 : decode cX11_checkOperation 13 = .ok (.ldc_w 290, 3) := by decide +kernel
theorem dX11_checkOperation_16 : decode cX11_checkOperation 16 = .ok (.invokespecial 259, 3) := by decide +kernel
theorem dX11_checkOperation_19 : decode cX11_checkOperation 19 = .ok (.athrow, 1) := by decide +kernel
theorem dX11_checkOperation_20 : decode cX11_checkOperation 20 = .ok (.return_, 1) := by decide +kernel
theorem dX11_checkLength_0 : decode cX11_checkLength 0 = .ok (.iload_n 0, 1) := by decide +kernel
theorem dX11_checkLength_1 : decode cX11_checkLength 1 = .ok (.ifCond .lt 9, 3) := by decide +kernel
theorem dX11_checkLength_4 : decode cX11_checkLength 4 = .ok (.iload_n 0, 1) := by decide +kernel
theorem dX11_checkLength_5 : decode cX11_checkLength 5 = .ok (.bipush 20, 2) := by decide +kernel
theorem dX11_checkLength_7 : decode cX11_checkLength 7 = .ok (.if_icmp .le 14, 3) := by decide +kernel
theorem dX11_checkLength_10 : decode cX11_checkLength 10 = .ok (.new 255, 3) := by decide +kernel
theorem dX11_checkLength_13 : decode cX11_checkLength 13 = .ok (.dup, 1) := by decide +kernel
theorem dX11_checkLength_14 : decode cX11_checkLength 14 = .ok (.ldc_w 292, 3) := by decide +kernel
theorem dX11_checkLength_17 : decode cX11_checkLength 17 = .ok (.invokespecial 259, 3) := by decide +kernel
theorem dX11_checkLength_20 : decode cX11_checkLength 20 = .ok (.athrow, 1) := by decide +kernel
theorem dX11_checkLength_21 : decode cX11_checkLength 21 = .ok (.return_, 1) := by decide +kernel
theorem dX11_checkAtoms_0 : decode cX11_checkAtoms 0 = .ok (.aload_n 0, 1) := by decide +kernel
theorem dX11_checkAtoms_1 : decode cX11_checkAtoms 1 = .ok (.getfield 84, 3) := by decide +kernel
theorem dX11_checkAtoms_4 : decode cX11_checkAtoms 4 = .ok (.getfield 162, 3) := by decide +kernel
theorem dX11_checkAtoms_7 : decode cX11_checkAtoms 7 = .ok (.bipush 64, 2) := by decide +kernel
theorem dX11_checkAtoms_9 : decode cX11_checkAtoms 9 = .ok (.if_icmp .ge 28, 3) := by decide +kernel
theorem dX11_checkAtoms_12 : decode cX11_checkAtoms 12 = .ok (.lload_n 1, 1) := by decide +kernel
theorem dX11_checkAtoms_13 : decode cX11_checkAtoms 13 = .ok (.aload_n 0, 1) := by decide +kernel
theorem dX11_checkAtoms_14 : decode cX11_checkAtoms 14 = .ok (.getfield 84, 3) := by decide +kernel
theorem dX11_checkAtoms_17 : decode cX11_checkAtoms 17 = .ok (.getfield 162, 3) := by decide +kernel
theorem dX11_checkAtoms_20 : decode cX11_checkAtoms 20 = .ok (.lushr, 1) := by decide +kernel
theorem dX11_checkAtoms_21 : decode cX11_checkAtoms 21 = .ok (.lconst 0, 1) := by decide +kernel
theorem dX11_checkAtoms_22 : decode cX11_checkAtoms 22 = .ok (.lcmp, 1) := by decide +kernel
theorem dX11_checkAtoms_23 : decode cX11_checkAtoms 23 = .ok (.ifCond .eq 14, 3) := by decide +kernel
theorem dX11_checkAtoms_26 : decode cX11_checkAtoms 26 = .ok (.new 255, 3) := by decide +kernel
theorem dX11_checkAtoms_29 : decode cX11_checkAtoms 29 = .ok (.dup, 1) := by decide +kernel
theorem dX11_checkAtoms_30 : decode cX11_checkAtoms 30 = .ok (.ldc_w 294, 3) := by decide +kernel
theorem dX11_checkAtoms_33 : decode cX11_checkAtoms 33 = .ok (.invokespecial 259, 3) := by decide +kernel
theorem dX11_checkAtoms_36 : decode cX11_checkAtoms 36 = .ok (.athrow, 1) := by decide +kernel
theorem dX11_checkAtoms_37 : decode cX11_checkAtoms 37 = .ok (.return_, 1) := by decide +kernel
theorem dX11_checkWordLength_0 : decode cX11_checkWordLength 0 = .ok (.iload_n 0, 1) := by decide +kernel
theorem dX11_checkWordLength_1 : decode cX11_checkWordLength 1 = .ok (.bipush 12, 2) := by decide +kernel
theorem dX11_checkWordLength_3 : decode cX11_checkWordLength 3 = .ok (.if_icmp .le 14, 3) := by decide +kernel
theorem dX11_checkWordLength_6 : decode cX11_checkWordLength 6 = .ok (.new 261, 3) := by decide +kernel
theorem dX11_checkWordLength_9 : decode cX11_checkWordLength 9 = .ok (.dup, 1) := by decide +kernel
theorem dX11_checkWordLength_10 : decode cX11_checkWordLength 10 = .ok (.ldc_w 296, 3) := by decide +kernel
theorem dX11_checkWordLength_13 : decode cX11_checkWordLength 13 = .ok (.invokespecial 265, 3) := by decide +kernel
theorem dX11_checkWordLength_16 : decode cX11_checkWordLength 16 = .ok (.athrow, 1) := by decide +kernel
theorem dX11_checkWordLength_17 : decode cX11_checkWordLength 17 = .ok (.return_, 1) := by decide +kernel
theorem dX11_checkResult_0 : decode cX11_checkResult 0 = .ok (.iload_n 0, 1) := by decide +kernel
theorem dX11_checkResult_1 : decode cX11_checkResult 1 = .ok (.bipush 6, 2) := by decide +kernel
theorem dX11_checkResult_3 : decode cX11_checkResult 3 = .ok (.if_icmp .le 14, 3) := by decide +kernel
theorem dX11_checkResult_6 : decode cX11_checkResult 6 = .ok (.new 261, 3) := by decide +kernel
theorem dX11_checkResult_9 : decode cX11_checkResult 9 = .ok (.dup, 1) := by decide +kernel
theorem dX11_checkResult_10 : decode cX11_checkResult 10 = .ok (.ldc_w 298, 3) := by decide +kernel
theorem dX11_checkResult_13 : decode cX11_checkResult 13 = .ok (.invokespecial 265, 3) := by decide +kernel
theorem dX11_checkResult_16 : decode cX11_checkResult 16 = .ok (.athrow, 1) := by decide +kernel
theorem dX11_checkResult_17 : decode cX11_checkResult 17 = .ok (.return_, 1) := by decide +kernel
theorem dX11_findAtoms_0 : decode cX11_findAtoms 0 = .ok (.iload_n 1, 1) := by decide +kernel
theorem dX11_findAtoms_1 : decode cX11_findAtoms 1 = .ok (.invokestatic 88, 3) := by decide +kernel
theorem dX11_findAtoms_4 : decode cX11_findAtoms 4 = .ok (.aload_n 0, 1) := by decide +kernel
theorem dX11_findAtoms_5 : decode cX11_findAtoms 5 = .ok (.getfield 77, 3) := by decide +kernel
theorem dX11_findAtoms_8 : decode cX11_findAtoms 8 = .ok (.aload_n 0, 1) := by decide +kernel
theorem dX11_findAtoms_9 : decode cX11_findAtoms 9 = .ok (.getfield 11, 3) := by decide +kernel
theorem dX11_findAtoms_12 : decode cX11_findAtoms 12 = .ok (.iload_n 1, 1) := by decide +kernel
theorem dX11_findAtoms_13 : decode cX11_findAtoms 13 = .ok (.aaload, 1) := by decide +kernel
theorem dX11_findAtoms_14 : decode cX11_findAtoms 14 = .ok (.invokevirtual 151, 3) := by decide +kernel
theorem dX11_findAtoms_17 : decode cX11_findAtoms 17 = .ok (.pop, 1) := by decide +kernel
theorem dX11_findAtoms_18 : decode cX11_findAtoms 18 = .ok (.aload_n 0, 1) := by decide +kernel
theorem dX11_findAtoms_19 : decode cX11_findAtoms 19 = .ok (.getfield 77, 3) := by decide +kernel
theorem dX11_findAtoms_22 : decode cX11_findAtoms 22 = .ok (.aload_n 0, 1) := by decide +kernel
theorem dX11_findAtoms_23 : decode cX11_findAtoms 23 = .ok (.getfield 84, 3) := by decide +kernel
theorem dX11_findAtoms_26 : decode cX11_findAtoms 26 = .ok (.getfield 300, 3) := by decide +kernel
theorem dX11_findAtoms_29 : decode cX11_findAtoms 29 = .ok (.invokevirtual 155, 3) := by decide +kernel
theorem dX11_findAtoms_32 : decode cX11_findAtoms 32 = .ok (.aload_n 0, 1) := by decide +kernel
theorem dX11_findAtoms_33 : decode cX11_findAtoms 33 = .ok (.getfield 84, 3) := by decide +kernel
theorem dX11_findAtoms_36 : decode cX11_findAtoms 36 = .ok (.invokevirtual 303, 3) := by decide +kernel
theorem dX11_findAtoms_39 : decode cX11_findAtoms 39 = .ok (.return_, 1) := by decide +kernel
theorem dX11_operate_0 : decode cX11_operate 0 = .ok (.iload_n 1, 1) := by decide +kernel
theorem dX11_operate_1 : decode cX11_operate 1 = .ok (.iconst 4, 1) := by decide +kernel
theorem dX11_operate_2 : decode cX11_operate 2 = .ok (.if_icmp .ne 34, 3) := by decide +kernel
theorem dX11_operate_5 : decode cX11_operate 5 = .ok (.aload_n 0, 1) := by decide +kernel
theorem dX11_operate_6 : decode cX11_operate 6 = .ok (.getfield 48, 3) := by decide +kernel
theorem dX11_operate_9 : decode cX11_operate 9 = .ok (.aload_n 0, 1) := by decide +kernel
theorem dX11_operate_10 : decode cX11_operate 10 = .ok (.getfield 11, 3) := by decide +kernel
theorem dX11_operate_13 : decode cX11_operate 13 = .ok (.iload_n 2, 1) := by decide +kernel
theorem dX11_operate_14 : decode cX11_operate 14 = .ok (.aaload, 1) := by decide +kernel
theorem dX11_operate_15 : decode cX11_operate 15 = .ok (.aload_n 0, 1) := by decide +kernel
theorem dX11_operate_16 : decode cX11_operate 16 = .ok (.getfield 11, 3) := by decide +kernel
theorem dX11_operate_19 : decode cX11_operate 19 = .ok (.iload_n 3, 1) := by decide +kernel
theorem dX11_operate_20 : decode cX11_operate 20 = .ok (.aaload, 1) := by decide +kernel
theorem dX11_operate_21 : decode cX11_operate 21 = .ok (.invokevirtual 306, 3) := by decide +kernel
theorem dX11_operate_24 : decode cX11_operate 24 = .ok (.aload_n 0, 1) := by decide +kernel
theorem dX11_operate_25 : decode cX11_operate 25 = .ok (.getfield 77, 3) := by decide +kernel
theorem dX11_operate_28 : decode cX11_operate 28 = .ok (.aload_n 0, 1) := by decide +kernel
theorem dX11_operate_29 : decode cX11_operate 29 = .ok (.getfield 48, 3) := by decide +kernel
theorem dX11_operate_32 : decode cX11_operate 32 = .ok (.invokevirtual 151, 3) := by decide +kernel
theorem dX11_operate_35 : decode cX11_operate 35 = .ok (.ireturn, 1) := by decide +kernel
theorem dX11_operate_36 : decode cX11_operate 36 = .ok (.aload_n 0, 1) := by decide +kernel
theorem dX11_operate_37 : decode cX11_operate 37 = .ok (.getfield 41, 3) := by decide +kernel
theorem dX11_operate_40 : decode cX11_operate 40 = .ok (.iload_n 1, 1) := by decide +kernel
theorem dX11_operate_41 : decode cX11_operate 41 = .ok (.aload_n 0, 1) := by decide +kernel
theorem dX11_operate_42 : decode cX11_operate 42 = .ok (.getfield 11, 3) := by decide +kernel
theorem dX11_operate_45 : decode cX11_operate 45 = .ok (.iload_n 2, 1) := by decide +kernel
theorem dX11_operate_46 : decode cX11_operate 46 = .ok (.aaload, 1) := by decide +kernel
theorem dX11_operate_47 : decode cX11_operate 47 = .ok (.aload_n 0, 1) := by decide +kernel
theorem dX11_operate_48 : decode cX11_operate 48 = .ok (.getfield 11, 3) := by decide +kernel
theorem dX11_operate_51 : decode cX11_operate 51 = .ok (.iload_n 3, 1) := by decide +kernel
theorem dX11_operate_52 : decode cX11_operate 52 = .ok (.aaload, 1) := by decide +kernel
theorem dX11_operate_53 : decode cX11_operate 53 = .ok (.invokevirtual 225, 3) := by decide +kernel
theorem dX11_operate_56 : decode cX11_operate 56 = .ok (.aload_n 0, 1) := by decide +kernel
theorem dX11_operate_57 : decode cX11_operate 57 = .ok (.getfield 77, 3) := by decide +kernel
theorem dX11_operate_60 : decode cX11_operate 60 = .ok (.aload_n 0, 1) := by decide +kernel
theorem dX11_operate_61 : decode cX11_operate 61 = .ok (.getfield 41, 3) := by decide +kernel
theorem dX11_operate_64 : decode cX11_operate 64 = .ok (.invokevirtual 151, 3) := by decide +kernel
theorem dX11_operate_67 : decode cX11_operate 67 = .ok (.ireturn, 1) := by decide +kernel
theorem dX2_init_0 : decode cX2_init 0 = .ok (.aload_n 0, 1) := by decide +kernel
theorem dX2_init_1 : decode cX2_init 1 = .ok (.invokespecial 3, 3) := by decide +kernel
theorem dX2_init_4 : decode cX2_init 4 = .ok (.aload_n 0, 1) := by decide +kernel
theorem dX2_init_5 : decode cX2_init 5 = .ok (.new 9, 3) := by decide +kernel
theorem dX2_init_8 : decode cX2_init 8 = .ok (.dup, 1) := by decide +kernel
theorem dX2_init_9 : decode cX2_init 9 = .ok (.invokespecial 11, 3) := by decide +kernel
theorem dX2_init_12 : decode cX2_init 12 = .ok (.putfield 12, 3) := by decide +kernel
theorem dX2_init_15 : decode cX2_init 15 = .ok (.aload_n 0, 1) := by decide +kernel
theorem dX2_init_16 : decode cX2_init 16 = .ok (.iconst 0, 1) := by decide +kernel
theorem dX2_init_17 : decode cX2_init 17 = .ok (.putfield 18, 3) := by decide +kernel
theorem dX2_init_20 : decode cX2_init 20 = .ok (.aload_n 0, 1) := by decide +kernel
theorem dX2_init_21 : decode cX2_init 21 = .ok (.new 22, 3) := by decide +kernel
theorem dX2_init_24 : decode cX2_init 24 = .ok (.dup, 1) := by decide +kernel
theorem dX2_init_25 : decode cX2_init 25 = .ok (.invokespecial 24, 3) := by decide +kernel
theorem dX2_init_28 : decode cX2_init 28 = .ok (.putfield 25, 3) := by decide +kernel
theorem dX2_init_31 : decode cX2_init 31 = .ok (.return_, 1) := by decide +kernel
theorem dX2_prepare_0 : decode cX2_prepare 0 = .ok (.aload_n 0, 1) := by decide +kernel
theorem dX2_prepare_1 : decode cX2_prepare 1 = .ok (.aload_n 1, 1) := by decide +kernel
theorem dX2_prepare_2 : decode cX2_prepare 2 = .ok (.putfield 12, 3) := by decide +kernel
theorem dX2_prepare_5 : decode cX2_prepare 5 = .ok (.aload_n 0, 1) := by decide +kernel
theorem dX2_prepare_6 : decode cX2_prepare 6 = .ok (.aload_n 2, 1) := by decide +kernel
theorem dX2_prepare_7 : decode cX2_prepare 7 = .ok (.getfield 29, 3) := by decide +kernel
theorem dX2_prepare_10 : decode cX2_prepare 10 = .ok (.putfield 18, 3) := by decide +kernel
theorem dX2_prepare_13 : decode cX2_prepare 13 = .ok (.aload_n 0, 1) := by decide +kernel
theorem dX2_prepare_14 : decode cX2_prepare 14 = .ok (.getfield 25, 3) := by decide +kernel
theorem dX2_prepare_17 : decode cX2_prepare 17 = .ok (.aload_n 2, 1) := by decide +kernel
theorem dX2_prepare_18 : decode cX2_prepare 18 = .ok (.invokevirtual 32, 3) := by decide +kernel
theorem dX2_prepare_21 : decode cX2_prepare 21 = .ok (.return_, 1) := by decide +kernel
theorem dX2_codeBound_0 : decode cX2_codeBound 0 = .ok (.sipush 384, 3) := by decide +kernel
theorem dX2_codeBound_3 : decode cX2_codeBound 3 = .ok (.ireturn, 1) := by decide +kernel
theorem dX2_startCode_0 : decode cX2_startCode 0 = .ok (.aload_n 0, 1) := by decide +kernel
theorem dX2_startCode_1 : decode cX2_startCode 1 = .ok (.iconst 0, 1) := by decide +kernel
theorem dX2_startCode_2 : decode cX2_startCode 2 = .ok (.iconst 0, 1) := by decide +kernel
theorem dX2_startCode_3 : decode cX2_startCode 3 = .ok (.invokevirtual 36, 3) := by decide +kernel
theorem dX2_startCode_6 : decode cX2_startCode 6 = .ok (.ireturn, 1) := by decide +kernel
theorem dX2_follow_0 : decode cX2_follow 0 = .ok (.aload_n 0, 1) := by decide +kernel
theorem dX2_follow_1 : decode cX2_follow 1 = .ok (.aload_n 0, 1) := by decide +kernel
theorem dX2_follow_2 : decode cX2_follow 2 = .ok (.getfield 12, 3) := by decide +kernel
theorem dX2_follow_5 : decode cX2_follow 5 = .ok (.iload_n 1, 1) := by decide +kernel
theorem dX2_follow_6 : decode cX2_follow 6 = .ok (.bipush 64, 2) := by decide +kernel
theorem dX2_follow_8 : decode cX2_follow 8 = .ok (.idiv, 1) := by decide +kernel
theorem dX2_follow_9 : decode cX2_follow 9 = .ok (.iload_n 2, 1) := by decide +kernel
theorem dX2_follow_10 : decode cX2_follow 10 = .ok (.invokevirtual 40, 3) := by decide +kernel
theorem dX2_follow_13 : decode cX2_follow 13 = .ok (.aload_n 0, 1) := by decide +kernel
theorem dX2_follow_14 : decode cX2_follow 14 = .ok (.getfield 25, 3) := by decide +kernel
theorem dX2_follow_17 : decode cX2_follow 17 = .ok (.iload_n 2, 1) := by decide +kernel
theorem dX2_follow_18 : decode cX2_follow 18 = .ok (.iload_n 1, 1) := by decide +kernel
theorem dX2_follow_19 : decode cX2_follow 19 = .ok (.bipush 64, 2) := by decide +kernel
theorem dX2_follow_21 : decode cX2_follow 21 = .ok (.irem, 1) := by decide +kernel
theorem dX2_follow_22 : decode cX2_follow 22 = .ok (.invokevirtual 43, 3) := by decide +kernel
theorem dX2_follow_25 : decode cX2_follow 25 = .ok (.invokevirtual 36, 3) := by decide +kernel
theorem dX2_follow_28 : decode cX2_follow 28 = .ok (.ireturn, 1) := by decide +kernel
theorem dX2_isAccepting_0 : decode cX2_isAccepting 0 = .ok (.iload_n 1, 1) := by decide +kernel
theorem dX2_isAccepting_1 : decode cX2_isAccepting 1 = .ok (.bipush 64, 2) := by decide +kernel
theorem dX2_isAccepting_3 : decode cX2_isAccepting 3 = .ok (.irem, 1) := by decide +kernel
theorem dX2_isAccepting_4 : decode cX2_isAccepting 4 = .ok (.aload_n 0, 1) := by decide +kernel
theorem dX2_isAccepting_5 : decode cX2_isAccepting 5 = .ok (.getfield 18, 3) := by decide +kernel
theorem dX2_isAccepting_8 : decode cX2_isAccepting 8 = .ok (.iand, 1) := by decide +kernel
theorem dX2_isAccepting_9 : decode cX2_isAccepting 9 = .ok (.ifCond .eq 7, 3) := by decide +kernel
theorem dX2_isAccepting_12 : decode cX2_isAccepting 12 = .ok (.iconst 1, 1) := by decide +kernel
theorem dX2_isAccepting_13 : decode cX2_isAccepting 13 = .ok (.goto 4, 3) := by decide +kernel
theorem dX2_isAccepting_16 : decode cX2_isAccepting 16 = .ok (.iconst 0, 1) := by decide +kernel
theorem dX2_isAccepting_17 : decode cX2_isAccepting 17 = .ok (.ireturn, 1) := by decide +kernel
theorem dX2_enter_0 : decode cX2_enter 0 = .ok (.iload_n 1, 1) := by decide +kernel
theorem dX2_enter_1 : decode cX2_enter 1 = .ok (.bipush 64, 2) := by decide +kernel
theorem dX2_enter_3 : decode cX2_enter 3 = .ok (.imul, 1) := by decide +kernel
theorem dX2_enter_4 : decode cX2_enter 4 = .ok (.aload_n 0, 1) := by decide +kernel
theorem dX2_enter_5 : decode cX2_enter 5 = .ok (.getfield 12, 3) := by decide +kernel
theorem dX2_enter_8 : decode cX2_enter 8 = .ok (.iload_n 1, 1) := by decide +kernel
theorem dX2_enter_9 : decode cX2_enter 9 = .ok (.invokevirtual 46, 3) := by decide +kernel
theorem dX2_enter_12 : decode cX2_enter 12 = .ok (.ifCond .eq 9, 3) := by decide +kernel
theorem dX2_enter_15 : decode cX2_enter 15 = .ok (.iload_n 2, 1) := by decide +kernel
theorem dX2_enter_16 : decode cX2_enter 16 = .ok (.iconst 1, 1) := by decide +kernel
theorem dX2_enter_17 : decode cX2_enter 17 = .ok (.ior, 1) := by decide +kernel
theorem dX2_enter_18 : decode cX2_enter 18 = .ok (.goto 4, 3) := by decide +kernel
theorem dX2_enter_21 : decode cX2_enter 21 = .ok (.iload_n 2, 1) := by decide +kernel
theorem dX2_enter_22 : decode cX2_enter 22 = .ok (.iadd, 1) := by decide +kernel
theorem dX2_enter_23 : decode cX2_enter 23 = .ok (.ireturn, 1) := by decide +kernel
theorem dX3_init_0 : decode cX3_init 0 = .ok (.aload_n 0, 1) := by decide +kernel
theorem dX3_init_1 : decode cX3_init 1 = .ok (.invokespecial 3, 3) := by decide +kernel
theorem dX3_init_4 : decode cX3_init 4 = .ok (.aload_n 0, 1) := by decide +kernel
theorem dX3_init_5 : decode cX3_init 5 = .ok (.iconst 0, 1) := by decide +kernel
theorem dX3_init_6 : decode cX3_init 6 = .ok (.putfield 9, 3) := by decide +kernel
theorem dX3_init_9 : decode cX3_init 9 = .ok (.aload_n 0, 1) := by decide +kernel
theorem dX3_init_10 : decode cX3_init 10 = .ok (.sipush 730, 3) := by decide +kernel
theorem dX3_init_13 : decode cX3_init 13 = .ok (.newarray .long, 2) := by decide +kernel
theorem dX3_init_15 : decode cX3_init 15 = .ok (.putfield 15, 3) := by decide +kernel
theorem dX3_init_18 : decode cX3_init 18 = .ok (.aload_n 0, 1) := by decide +kernel
theorem dX3_init_19 : decode cX3_init 19 = .ok (.sipush 1024, 3) := by decide +kernel
theorem dX3_init_22 : decode cX3_init 22 = .ok (.newarray .int, 2) := by decide +kernel
theorem dX3_init_24 : decode cX3_init 24 = .ok (.putfield 19, 3) := by decide +kernel
theorem dX3_init_27 : decode cX3_init 27 = .ok (.aload_n 0, 1) := by decide +kernel
theorem dX3_init_28 : decode cX3_init 28 = .ok (.bipush 15, 2) := by decide +kernel
theorem dX3_init_30 : decode cX3_init 30 = .ok (.putfield 23, 3) := by decide +kernel
theorem dX3_init_33 : decode cX3_init 33 = .ok (.return_, 1) := by decide +kernel
theorem dX3_begin_0 : decode cX3_begin 0 = .ok (.bipush 16, 2) := by decide +kernel
theorem dX3_begin_2 : decode cX3_begin 2 = .ok (.istore_n 2, 1) := by decide +kernel
theorem dX3_begin_3 : decode cX3_begin 3 = .ok (.iload_n 2, 1) := by decide +kernel
theorem dX3_begin_4 : decode cX3_begin 4 = .ok (.sipush 1024, 3) := by decide +kernel
theorem dX3_begin_7 : decode cX3_begin 7 = .ok (.if_icmp .ge 17, 3) := by decide +kernel
theorem dX3_begin_10 : decode cX3_begin 10 = .ok (.iload_n 2, 1) := by decide +kernel
theorem dX3_begin_11 : decode cX3_begin 11 = .ok (.iconst 2, 1) := by decide +kernel
theorem dX3_begin_12 : decode cX3_begin 12 = .ok (.iload_n 1, 1) := by decide +kernel
theorem dX3_begin_13 : decode cX3_begin 13 = .ok (.imul, 1) := by decide +kernel
theorem dX3_begin_14 : decode cX3_begin 14 = .ok (.if_icmp .ge 10, 3) := by decide +kernel
theorem dX3_begin_17 : decode cX3_begin 17 = .ok (.iconst 2, 1) := by decide +kernel
theorem dX3_begin_18 : decode cX3_begin 18 = .ok (.iload_n 2, 1) := by decide +kernel
theorem dX3_begin_19 : decode cX3_begin 19 = .ok (.imul, 1) := by decide +kernel
theorem dX3_begin_20 : decode cX3_begin 20 = .ok (.istore_n 2, 1) := by decide +kernel
theorem dX3_begin_21 : decode cX3_begin 21 = .ok (.goto (-18), 3) := by decide +kernel
theorem dX3_begin_24 : decode cX3_begin 24 = .ok (.iconst 0, 1) := by decide +kernel
theorem dX3_begin_25 : decode cX3_begin 25 = .ok (.istore_n 3, 1) := by decide +kernel
theorem dX3_begin_26 : decode cX3_begin 26 = .ok (.iload_n 3, 1) := by decide +kernel
theorem dX3_begin_27 : decode cX3_begin 27 = .ok (.iload_n 2, 1) := by decide +kernel
theorem dX3_begin_28 : decode cX3_begin 28 = .ok (.if_icmp .ge 16, 3) := by decide +kernel
theorem dX3_begin_31 : decode cX3_begin 31 = .ok (.aload_n 0, 1) := by decide +kernel
theorem dX3_begin_32 : decode cX3_begin 32 = .ok (.getfield 19, 3) := by decide +kernel
theorem dX3_begin_35 : decode cX3_begin 35 = .ok (.iload_n 3, 1) := by decide +kernel
theorem dX3_begin_36 : decode cX3_begin 36 = .ok (.iconst 0, 1) := by decide +kernel
theorem dX3_begin_37 : decode cX3_begin 37 = .ok (.iastore, 1) := by decide +kernel
theorem dX3_begin_38 : decode cX3_begin 38 = .ok (.iinc 3 1, 3) := by decide +kernel
theorem dX3_begin_41 : decode cX3_begin 41 = .ok (.goto (-15), 3) := by decide +kernel
theorem dX3_begin_44 : decode cX3_begin 44 = .ok (.aload_n 0, 1) := by decide +kernel
theorem dX3_begin_45 : decode cX3_begin 45 = .ok (.iload_n 2, 1) := by decide +kernel
theorem dX3_begin_46 : decode cX3_begin 46 = .ok (.iconst 1, 1) := by decide +kernel
theorem dX3_begin_47 : decode cX3_begin 47 = .ok (.isub, 1) := by decide +kernel
theorem dX3_begin_48 : decode cX3_begin 48 = .ok (.putfield 23, 3) := by decide +kernel
theorem dX3_begin_51 : decode cX3_begin 51 = .ok (.aload_n 0, 1) := by decide +kernel
theorem dX3_begin_52 : decode cX3_begin 52 = .ok (.iconst 0, 1) := by decide +kernel
theorem dX3_begin_53 : decode cX3_begin 53 = .ok (.putfield 9, 3) := by decide +kernel
theorem dX3_begin_56 : decode cX3_begin 56 = .ok (.return_, 1) := by decide +kernel
theorem dX3_place_0 : decode cX3_place 0 = .ok (.lload_n 1, 1) := by decide +kernel
theorem dX3_place_1 : decode cX3_place 1 = .ok (.ldc2_w 26, 3) := by decide +kernel
theorem dX3_place_4 : decode cX3_place 4 = .ok (.lmul, 1) := by decide +kernel
theorem dX3_place_5 : decode cX3_place 5 = .ok (.bipush 40, 2) := by decide +kernel
theorem dX3_place_7 : decode cX3_place 7 = .ok (.lushr, 1) := by decide +kernel
theorem dX3_place_8 : decode cX3_place 8 = .ok (.l2i, 1) := by decide +kernel
theorem dX3_place_9 : decode cX3_place 9 = .ok (.aload_n 0, 1) := by decide +kernel
theorem dX3_place_10 : decode cX3_place 10 = .ok (.getfield 23, 3) := by decide +kernel
theorem dX3_place_13 : decode cX3_place 13 = .ok (.iand, 1) := by decide +kernel
theorem dX3_place_14 : decode cX3_place 14 = .ok (.istore_n 3, 1) := by decide +kernel
theorem dX3_place_15 : decode cX3_place 15 = .ok (.iconst 0, 1) := by decide +kernel
theorem dX3_place_16 : decode cX3_place 16 = .ok (.istore 4, 2) := by decide +kernel
theorem dX3_place_18 : decode cX3_place 18 = .ok (.iload 4, 2) := by decide +kernel
theorem dX3_place_20 : decode cX3_place 20 = .ok (.aload_n 0, 1) := by decide +kernel
theorem dX3_place_21 : decode cX3_place 21 = .ok (.getfield 23, 3) := by decide +kernel
theorem dX3_place_24 : decode cX3_place 24 = .ok (.if_icmp .gt 57, 3) := by decide +kernel
theorem dX3_place_27 : decode cX3_place 27 = .ok (.aload_n 0, 1) := by decide +kernel
theorem dX3_place_28 : decode cX3_place 28 = .ok (.getfield 19, 3) := by decide +kernel
theorem dX3_place_31 : decode cX3_place 31 = .ok (.iload_n 3, 1) := by decide +kernel
theorem dX3_place_32 : decode cX3_place 32 = .ok (.iaload, 1) := by decide +kernel
theorem dX3_place_33 : decode cX3_place 33 = .ok (.istore 5, 2) := by decide +kernel
theorem dX3_place_35 : decode cX3_place 35 = .ok (.iload 5, 2) := by decide +kernel
theorem dX3_place_37 : decode cX3_place 37 = .ok (.ifCond .ne 10, 3) := by decide +kernel
theorem dX3_place_40 : decode cX3_place 40 = .ok (.aload_n 0, 1) := by decide +kernel
theorem dX3_place_41 : decode cX3_place 41 = .ok (.iload_n 3, 1) := by decide +kernel
theorem dX3_place_42 : decode cX3_place 42 = .ok (.lload_n 1, 1) := by decide +kernel
theorem dX3_place_43 : decode cX3_place 43 = .ok (.invokevirtual 28, 3) := by decide +kernel
theorem dX3_place_46 : decode cX3_place 46 = .ok (.ireturn, 1) := by decide +kernel
theorem dX3_place_47 : decode cX3_place 47 = .ok (.aload_n 0, 1) := by decide +kernel
theorem dX3_place_48 : decode cX3_place 48 = .ok (.getfield 15, 3) := by decide +kernel
theorem dX3_place_51 : decode cX3_place 51 = .ok (.iload 5, 2) := by decide +kernel
theorem dX3_place_53 : decode cX3_place 53 = .ok (.iconst 1, 1) := by decide +kernel
theorem dX3_place_54 : decode cX3_place 54 = .ok (.isub, 1) := by decide +kernel
theorem dX3_place_55 : decode cX3_place 55 = .ok (.laload, 1) := by decide +kernel
theorem dX3_place_56 : decode cX3_place 56 = .ok (.lload_n 1, 1) := by decide +kernel
theorem dX3_place_57 : decode cX3_place 57 = .ok (.lcmp, 1) := by decide +kernel
theorem dX3_place_58 : decode cX3_place 58 = .ok (.ifCond .ne 8, 3) := by decide +kernel
theorem dX3_place_61 : decode cX3_place 61 = .ok (.iload 5, 2) := by decide +kernel
theorem dX3_place_63 : decode cX3_place 63 = .ok (.iconst 1, 1) := by decide +kernel
theorem dX3_place_64 : decode cX3_place 64 = .ok (.isub, 1) := by decide +kernel
theorem dX3_place_65 : decode cX3_place 65 = .ok (.ireturn, 1) := by decide +kernel
theorem dX3_place_66 : decode cX3_place 66 = .ok (.iload_n 3, 1) := by decide +kernel
theorem dX3_place_67 : decode cX3_place 67 = .ok (.iconst 1, 1) := by decide +kernel
theorem dX3_place_68 : decode cX3_place 68 = .ok (.iadd, 1) := by decide +kernel
theorem dX3_place_69 : decode cX3_place 69 = .ok (.aload_n 0, 1) := by decide +kernel
theorem dX3_place_70 : decode cX3_place 70 = .ok (.getfield 23, 3) := by decide +kernel
theorem dX3_place_73 : decode cX3_place 73 = .ok (.iand, 1) := by decide +kernel
theorem dX3_place_74 : decode cX3_place 74 = .ok (.istore_n 3, 1) := by decide +kernel
theorem dX3_place_75 : decode cX3_place 75 = .ok (.iinc 4 1, 3) := by decide +kernel
theorem dX3_place_78 : decode cX3_place 78 = .ok (.goto (-60), 3) := by decide +kernel
theorem dX3_place_81 : decode cX3_place 81 = .ok (.iconst (-1), 1) := by decide +kernel
theorem dX3_place_82 : decode cX3_place 82 = .ok (.ireturn, 1) := by decide +kernel
theorem dX3_insert_0 : decode cX3_insert 0 = .ok (.aload_n 0, 1) := by decide +kernel
theorem dX3_insert_1 : decode cX3_insert 1 = .ok (.getfield 9, 3) := by decide +kernel
theorem dX3_insert_4 : decode cX3_insert 4 = .ok (.sipush 730, 3) := by decide +kernel
theorem dX3_insert_7 : decode cX3_insert 7 = .ok (.if_icmp .lt 5, 3) := by decide +kernel
theorem dX3_insert_10 : decode cX3_insert 10 = .ok (.iconst (-1), 1) := by decide +kernel
theorem dX3_insert_11 : decode cX3_insert 11 = .ok (.ireturn, 1) := by decide +kernel
theorem dX3_insert_12 : decode cX3_insert 12 = .ok (.aload_n 0, 1) := by decide +kernel
theorem dX3_insert_13 : decode cX3_insert 13 = .ok (.getfield 15, 3) := by decide +kernel
theorem dX3_insert_16 : decode cX3_insert 16 = .ok (.aload_n 0, 1) := by decide +kernel
theorem dX3_insert_17 : decode cX3_insert 17 = .ok (.getfield 9, 3) := by decide +kernel
theorem dX3_insert_20 : decode cX3_insert 20 = .ok (.lload_n 2, 1) := by decide +kernel
theorem dX3_insert_21 : decode cX3_insert 21 = .ok (.lastore, 1) := by decide +kernel
theorem dX3_insert_22 : decode cX3_insert 22 = .ok (.aload_n 0, 1) := by decide +kernel
theorem dX3_insert_23 : decode cX3_insert 23 = .ok (.dup, 1) := by decide +kernel
theorem dX3_insert_24 : decode cX3_insert 24 = .ok (.getfield 9, 3) := by decide +kernel
theorem dX3_insert_27 : decode cX3_insert 27 = .ok (.iconst 1, 1) := by decide +kernel
theorem dX3_insert_28 : decode cX3_insert 28 = .ok (.iadd, 1) := by decide +kernel
theorem dX3_insert_29 : decode cX3_insert 29 = .ok (.putfield 9, 3) := by decide +kernel
theorem dX3_insert_32 : decode cX3_insert 32 = .ok (.aload_n 0, 1) := by decide +kernel
theorem dX3_insert_33 : decode cX3_insert 33 = .ok (.getfield 19, 3) := by decide +kernel
theorem dX3_insert_36 : decode cX3_insert 36 = .ok (.iload_n 1, 1) := by decide +kernel
theorem dX3_insert_37 : decode cX3_insert 37 = .ok (.aload_n 0, 1) := by decide +kernel
theorem dX3_insert_38 : decode cX3_insert 38 = .ok (.getfield 9, 3) := by decide +kernel
theorem dX3_insert_41 : decode cX3_insert 41 = .ok (.iastore, 1) := by decide +kernel
theorem dX3_insert_42 : decode cX3_insert 42 = .ok (.aload_n 0, 1) := by decide +kernel
theorem dX3_insert_43 : decode cX3_insert 43 = .ok (.getfield 9, 3) := by decide +kernel
theorem dX3_insert_46 : decode cX3_insert 46 = .ok (.iconst 1, 1) := by decide +kernel
theorem dX3_insert_47 : decode cX3_insert 47 = .ok (.isub, 1) := by decide +kernel
theorem dX3_insert_48 : decode cX3_insert 48 = .ok (.ireturn, 1) := by decide +kernel
theorem dX4_init_0 : decode cX4_init 0 = .ok (.aload_n 0, 1) := by decide +kernel
theorem dX4_init_1 : decode cX4_init 1 = .ok (.invokespecial 1, 3) := by decide +kernel
theorem dX4_init_4 : decode cX4_init 4 = .ok (.return_, 1) := by decide +kernel
theorem dX5_init_0 : decode cX5_init 0 = .ok (.aload_n 0, 1) := by decide +kernel
theorem dX5_init_1 : decode cX5_init 1 = .ok (.invokespecial 3, 3) := by decide +kernel
theorem dX5_init_4 : decode cX5_init 4 = .ok (.aload_n 0, 1) := by decide +kernel
theorem dX5_init_5 : decode cX5_init 5 = .ok (.iconst 0, 1) := by decide +kernel
theorem dX5_init_6 : decode cX5_init 6 = .ok (.putfield 9, 3) := by decide +kernel
theorem dX5_init_9 : decode cX5_init 9 = .ok (.aload_n 0, 1) := by decide +kernel
theorem dX5_init_10 : decode cX5_init 10 = .ok (.sipush 384, 3) := by decide +kernel
theorem dX5_init_13 : decode cX5_init 13 = .ok (.newarray .int, 2) := by decide +kernel
theorem dX5_init_15 : decode cX5_init 15 = .ok (.putfield 15, 3) := by decide +kernel
theorem dX5_init_18 : decode cX5_init 18 = .ok (.aload_n 0, 1) := by decide +kernel
theorem dX5_init_19 : decode cX5_init 19 = .ok (.sipush 384, 3) := by decide +kernel
theorem dX5_init_22 : decode cX5_init 22 = .ok (.newarray .int, 2) := by decide +kernel
theorem dX5_init_24 : decode cX5_init 24 = .ok (.putfield 19, 3) := by decide +kernel
theorem dX5_init_27 : decode cX5_init 27 = .ok (.aload_n 0, 1) := by decide +kernel
theorem dX5_init_28 : decode cX5_init 28 = .ok (.sipush 1152, 3) := by decide +kernel
theorem dX5_init_31 : decode cX5_init 31 = .ok (.newarray .int, 2) := by decide +kernel
theorem dX5_init_33 : decode cX5_init 33 = .ok (.putfield 22, 3) := by decide +kernel
theorem dX5_init_36 : decode cX5_init 36 = .ok (.aload_n 0, 1) := by decide +kernel
theorem dX5_init_37 : decode cX5_init 37 = .ok (.sipush 384, 3) := by decide +kernel
theorem dX5_init_40 : decode cX5_init 40 = .ok (.newarray .int, 2) := by decide +kernel
theorem dX5_init_42 : decode cX5_init 42 = .ok (.putfield 25, 3) := by decide +kernel
theorem dX5_init_45 : decode cX5_init 45 = .ok (.aload_n 0, 1) := by decide +kernel
theorem dX5_init_46 : decode cX5_init 46 = .ok (.sipush 384, 3) := by decide +kernel
theorem dX5_init_49 : decode cX5_init 49 = .ok (.newarray .boolean, 2) := by decide +kernel
theorem dX5_init_51 : decode cX5_init 51 = .ok (.putfield 28, 3) := by decide +kernel
theorem dX5_init_54 : decode cX5_init 54 = .ok (.aload_n 0, 1) := by decide +kernel
theorem dX5_init_55 : decode cX5_init 55 = .ok (.iconst 0, 1) := by decide +kernel
theorem dX5_init_56 : decode cX5_init 56 = .ok (.putfield 32, 3) := by decide +kernel
theorem dX5_init_59 : decode cX5_init 59 = .ok (.aload_n 0, 1) := by decide +kernel
theorem dX5_init_60 : decode cX5_init 60 = .ok (.sipush 384, 3) := by decide +kernel
theorem dX5_init_63 : decode cX5_init 63 = .ok (.newarray .int, 2) := by decide +kernel
theorem dX5_init_65 : decode cX5_init 65 = .ok (.putfield 35, 3) := by decide +kernel
theorem dX5_init_68 : decode cX5_init 68 = .ok (.aload_n 0, 1) := by decide +kernel
theorem dX5_init_69 : decode cX5_init 69 = .ok (.sipush 384, 3) := by decide +kernel
theorem dX5_init_72 : decode cX5_init 72 = .ok (.newarray .int, 2) := by decide +kernel
theorem dX5_init_74 : decode cX5_init 74 = .ok (.putfield 38, 3) := by decide +kernel
theorem dX5_init_77 : decode cX5_init 77 = .ok (.aload_n 0, 1) := by decide +kernel
theorem dX5_init_78 : decode cX5_init 78 = .ok (.aload_n 1, 1) := by decide +kernel
theorem dX5_init_79 : decode cX5_init 79 = .ok (.putfield 41, 3) := by decide +kernel
theorem dX5_init_82 : decode cX5_init 82 = .ok (.return_, 1) := by decide +kernel
theorem dX5_run_0 : decode cX5_run 0 = .ok (.aload_n 0, 1) := by decide +kernel
theorem dX5_run_1 : decode cX5_run 1 = .ok (.aload_n 1, 1) := by decide +kernel
theorem dX5_run_2 : decode cX5_run 2 = .ok (.invokevirtual 45, 3) := by decide +kernel
theorem dX5_run_5 : decode cX5_run 5 = .ok (.aload_n 0, 1) := by decide +kernel
theorem dX5_run_6 : decode cX5_run 6 = .ok (.invokevirtual 49, 3) := by decide +kernel
theorem dX5_run_9 : decode cX5_run 9 = .ok (.iconst 1, 1) := by decide +kernel
theorem dX5_run_10 : decode cX5_run 10 = .ok (.istore_n 2, 1) := by decide +kernel
theorem dX5_run_11 : decode cX5_run 11 = .ok (.iconst 0, 1) := by decide +kernel
theorem dX5_run_12 : decode cX5_run 12 = .ok (.istore_n 3, 1) := by decide +kernel
theorem dX5_run_13 : decode cX5_run 13 = .ok (.iload_n 3, 1) := by decide +kernel
theorem dX5_run_14 : decode cX5_run 14 = .ok (.sipush 384, 3) := by decide +kernel
theorem dX5_run_17 : decode cX5_run 17 = .ok (.if_icmp .ge 29, 3) := by decide +kernel
theorem dX5_run_20 : decode cX5_run 20 = .ok (.iload_n 2, 1) := by decide +kernel
theorem dX5_run_21 : decode cX5_run 21 = .ok (.ifCond .eq 25, 3) := by decide +kernel
theorem dX5_run_24 : decode cX5_run 24 = .ok (.aload_n 0, 1) := by decide +kernel
theorem dX5_run_25 : decode cX5_run 25 = .ok (.getfield 32, 3) := by decide +kernel
theorem dX5_run_28 : decode cX5_run 28 = .ok (.aload_n 0, 1) := by decide +kernel
theorem dX5_run_29 : decode cX5_run 29 = .ok (.getfield 9, 3) := by decide +kernel
theorem dX5_run_32 : decode cX5_run 32 = .ok (.if_icmp .ge 14, 3) := by decide +kernel
theorem dX5_run_35 : decode cX5_run 35 = .ok (.aload_n 0, 1) := by decide +kernel
theorem dX5_run_36 : decode cX5_run 36 = .ok (.invokevirtual 52, 3) := by decide +kernel
theorem dX5_run_39 : decode cX5_run 39 = .ok (.istore_n 2, 1) := by decide +kernel
theorem dX5_run_40 : decode cX5_run 40 = .ok (.iinc 3 1, 3) := by decide +kernel
theorem dX5_run_43 : decode cX5_run 43 = .ok (.goto (-30), 3) := by decide +kernel
theorem dX5_run_46 : decode cX5_run 46 = .ok (.aload_n 0, 1) := by decide +kernel
theorem dX5_run_47 : decode cX5_run 47 = .ok (.getfield 32, 3) := by decide +kernel
theorem dX5_run_50 : decode cX5_run 50 = .ok (.ireturn, 1) := by decide +kernel
theorem dX5_explore_0 : decode cX5_explore 0 = .ok (.aload_n 1, 1) := by decide +kernel
theorem dX5_explore_1 : decode cX5_explore 1 = .ok (.invokevirtual 56, 3) := by decide +kernel
theorem dX5_explore_4 : decode cX5_explore 4 = .ok (.istore_n 2, 1) := by decide +kernel
theorem dX5_explore_5 : decode cX5_explore 5 = .ok (.iconst 0, 1) := by decide +kernel
theorem dX5_explore_6 : decode cX5_explore 6 = .ok (.istore_n 3, 1) := by decide +kernel
theorem dX5_explore_7 : decode cX5_explore 7 = .ok (.iload_n 3, 1) := by decide +kernel
theorem dX5_explore_8 : decode cX5_explore 8 = .ok (.iload_n 2, 1) := by decide +kernel
theorem dX5_explore_9 : decode cX5_explore 9 = .ok (.if_icmp .ge 16, 3) := by decide +kernel
theorem dX5_explore_12 : decode cX5_explore 12 = .ok (.aload_n 0, 1) := by decide +kernel
theorem dX5_explore_13 : decode cX5_explore 13 = .ok (.getfield 19, 3) := by decide +kernel
theorem dX5_explore_16 : decode cX5_explore 16 = .ok (.iload_n 3, 1) := by decide +kernel
theorem dX5_explore_17 : decode cX5_explore 17 = .ok (.iconst (-1), 1) := by decide +kernel
theorem dX5_explore_18 : decode cX5_explore 18 = .ok (.iastore, 1) := by decide +kernel
theorem dX5_explore_19 : decode cX5_explore 19 = .ok (.iinc 3 1, 3) := by decide +kernel
theorem dX5_explore_22 : decode cX5_explore 22 = .ok (.goto (-15), 3) := by decide +kernel
theorem dX5_explore_25 : decode cX5_explore 25 = .ok (.aload_n 0, 1) := by decide +kernel
theorem dX5_explore_26 : decode cX5_explore 26 = .ok (.iconst 0, 1) := by decide +kernel
theorem dX5_explore_27 : decode cX5_explore 27 = .ok (.putfield 9, 3) := by decide +kernel
theorem dX5_explore_30 : decode cX5_explore 30 = .ok (.aload_n 0, 1) := by decide +kernel
theorem dX5_explore_31 : decode cX5_explore 31 = .ok (.aload_n 1, 1) := by decide +kernel
theorem dX5_explore_32 : decode cX5_explore 32 = .ok (.invokevirtual 62, 3) := by decide +kernel
theorem dX5_explore_35 : decode cX5_explore 35 = .ok (.iconst 0, 1) := by decide +kernel
theorem dX5_explore_36 : decode cX5_explore 36 = .ok (.invokevirtual 65, 3) := by decide +kernel
theorem dX5_explore_39 : decode cX5_explore 39 = .ok (.pop, 1) := by decide +kernel
theorem dX5_explore_40 : decode cX5_explore 40 = .ok (.iconst 0, 1) := by decide +kernel
theorem dX5_explore_41 : decode cX5_explore 41 = .ok (.istore_n 3, 1) := by decide +kernel
theorem dX5_explore_42 : decode cX5_explore 42 = .ok (.iload_n 3, 1) := by decide +kernel
theorem dX5_explore_43 : decode cX5_explore 43 = .ok (.aload_n 0, 1) := by decide +kernel
theorem dX5_explore_44 : decode cX5_explore 44 = .ok (.getfield 9, 3) := by decide +kernel
theorem dX5_explore_47 : decode cX5_explore 47 = .ok (.if_icmp .ge 80, 3) := by decide +kernel
theorem dX5_explore_50 : decode cX5_explore 50 = .ok (.iload_n 3, 1) := by decide +kernel
theorem dX5_explore_51 : decode cX5_explore 51 = .ok (.sipush 384, 3) := by decide +kernel
theorem dX5_explore_54 : decode cX5_explore 54 = .ok (.if_icmp .ge 73, 3) := by decide +kernel
theorem dX5_explore_57 : decode cX5_explore 57 = .ok (.aload_n 0, 1) := by decide +kernel
theorem dX5_explore_58 : decode cX5_explore 58 = .ok (.getfield 28, 3) := by decide +kernel
theorem dX5_explore_61 : decode cX5_explore 61 = .ok (.iload_n 3, 1) := by decide +kernel
theorem dX5_explore_62 : decode cX5_explore 62 = .ok (.aload_n 1, 1) := by decide +kernel
theorem dX5_explore_63 : decode cX5_explore 63 = .ok (.aload_n 0, 1) := by decide +kernel
theorem dX5_explore_64 : decode cX5_explore 64 = .ok (.getfield 15, 3) := by decide +kernel
theorem dX5_explore_67 : decode cX5_explore 67 = .ok (.iload_n 3, 1) := by decide +kernel
theorem dX5_explore_68 : decode cX5_explore 68 = .ok (.iaload, 1) := by decide +kernel
theorem dX5_explore_69 : decode cX5_explore 69 = .ok (.invokevirtual 69, 3) := by decide +kernel
theorem dX5_explore_72 : decode cX5_explore 72 = .ok (.bastore, 1) := by decide +kernel
theorem dX5_explore_73 : decode cX5_explore 73 = .ok (.iconst 0, 1) := by decide +kernel
theorem dX5_explore_74 : decode cX5_explore 74 = .ok (.istore 4, 2) := by decide +kernel
theorem dX5_explore_76 : decode cX5_explore 76 = .ok (.iload 4, 2) := by decide +kernel
theorem dX5_explore_78 : decode cX5_explore 78 = .ok (.iconst 3, 1) := by decide +kernel
theorem dX5_explore_79 : decode cX5_explore 79 = .ok (.if_icmp .ge 42, 3) := by decide +kernel
theorem dX5_explore_82 : decode cX5_explore 82 = .ok (.iload_n 3, 1) := by decide +kernel
theorem dX5_explore_83 : decode cX5_explore 83 = .ok (.iconst 3, 1) := by decide +kernel
theorem dX5_explore_84 : decode cX5_explore 84 = .ok (.imul, 1) := by decide +kernel
theorem dX5_explore_85 : decode cX5_explore 85 = .ok (.iload 4, 2) := by decide +kernel
theorem dX5_explore_87 : decode cX5_explore 87 = .ok (.iadd, 1) := by decide +kernel
theorem dX5_explore_88 : decode cX5_explore 88 = .ok (.istore 5, 2) := by decide +kernel
theorem dX5_explore_90 : decode cX5_explore 90 = .ok (.aload_n 0, 1) := by decide +kernel
theorem dX5_explore_91 : decode cX5_explore 91 = .ok (.getfield 22, 3) := by decide +kernel
theorem dX5_explore_94 : decode cX5_explore 94 = .ok (.iload 5, 2) := by decide +kernel
theorem dX5_explore_96 : decode cX5_explore 96 = .ok (.aload_n 0, 1) := by decide +kernel
theorem dX5_explore_97 : decode cX5_explore 97 = .ok (.aload_n 1, 1) := by decide +kernel
theorem dX5_explore_98 : decode cX5_explore 98 = .ok (.aload_n 0, 1) := by decide +kernel
theorem dX5_explore_99 : decode cX5_explore 99 = .ok (.getfield 15, 3) := by decide +kernel
theorem dX5_explore_102 : decode cX5_explore 102 = .ok (.iload_n 3, 1) := by decide +kernel
theorem dX5_explore_103 : decode cX5_explore 103 = .ok (.iaload, 1) := by decide +kernel
theorem dX5_explore_104 : decode cX5_explore 104 = .ok (.iload 4, 2) := by decide +kernel
theorem dX5_explore_106 : decode cX5_explore 106 = .ok (.invokevirtual 73, 3) := by decide +kernel
theorem dX5_explore_109 : decode cX5_explore 109 = .ok (.iload 5, 2) := by decide +kernel
theorem dX5_explore_111 : decode cX5_explore 111 = .ok (.invokevirtual 65, 3) := by decide +kernel
theorem dX5_explore_114 : decode cX5_explore 114 = .ok (.iastore, 1) := by decide +kernel
theorem dX5_explore_115 : decode cX5_explore 115 = .ok (.iinc 4 1, 3) := by decide +kernel
theorem dX5_explore_118 : decode cX5_explore 118 = .ok (.goto (-42), 3) := by decide +kernel
theorem dX5_explore_121 : decode cX5_explore 121 = .ok (.iinc 3 1, 3) := by decide +kernel
theorem dX5_explore_124 : decode cX5_explore 124 = .ok (.goto (-82), 3) := by decide +kernel
theorem dX5_explore_127 : decode cX5_explore 127 = .ok (.return_, 1) := by decide +kernel
theorem dX5_numberOf_0 : decode cX5_numberOf 0 = .ok (.aload_n 0, 1) := by decide +kernel
theorem dX5_numberOf_1 : decode cX5_numberOf 1 = .ok (.getfield 19, 3) := by decide +kernel
theorem dX5_numberOf_4 : decode cX5_numberOf 4 = .ok (.iload_n 1, 1) := by decide +kernel
theorem dX5_numberOf_5 : decode cX5_numberOf 5 = .ok (.iaload, 1) := by decide +kernel
theorem dX5_numberOf_6 : decode cX5_numberOf 6 = .ok (.iconst (-1), 1) := by decide +kernel
theorem dX5_numberOf_7 : decode cX5_numberOf 7 = .ok (.if_icmp .ne 43, 3) := by decide +kernel
theorem dX5_numberOf_10 : decode cX5_numberOf 10 = .ok (.aload_n 0, 1) := by decide +kernel
theorem dX5_numberOf_11 : decode cX5_numberOf 11 = .ok (.getfield 19, 3) := by decide +kernel
theorem dX5_numberOf_14 : decode cX5_numberOf 14 = .ok (.iload_n 1, 1) := by decide +kernel
theorem dX5_numberOf_15 : decode cX5_numberOf 15 = .ok (.aload_n 0, 1) := by decide +kernel
theorem dX5_numberOf_16 : decode cX5_numberOf 16 = .ok (.getfield 9, 3) := by decide +kernel
theorem dX5_numberOf_19 : decode cX5_numberOf 19 = .ok (.iastore, 1) := by decide +kernel
theorem dX5_numberOf_20 : decode cX5_numberOf 20 = .ok (.aload_n 0, 1) := by decide +kernel
theorem dX5_numberOf_21 : decode cX5_numberOf 21 = .ok (.getfield 15, 3) := by decide +kernel
theorem dX5_numberOf_24 : decode cX5_numberOf 24 = .ok (.aload_n 0, 1) := by decide +kernel
theorem dX5_numberOf_25 : decode cX5_numberOf 25 = .ok (.getfield 9, 3) := by decide +kernel
theorem dX5_numberOf_28 : decode cX5_numberOf 28 = .ok (.iload_n 1, 1) := by decide +kernel
theorem dX5_numberOf_29 : decode cX5_numberOf 29 = .ok (.iastore, 1) := by decide +kernel
theorem dX5_numberOf_30 : decode cX5_numberOf 30 = .ok (.aload_n 0, 1) := by decide +kernel
theorem dX5_numberOf_31 : decode cX5_numberOf 31 = .ok (.getfield 25, 3) := by decide +kernel
theorem dX5_numberOf_34 : decode cX5_numberOf 34 = .ok (.aload_n 0, 1) := by decide +kernel
theorem dX5_numberOf_35 : decode cX5_numberOf 35 = .ok (.getfield 9, 3) := by decide +kernel
theorem dX5_numberOf_38 : decode cX5_numberOf 38 = .ok (.iload_n 2, 1) := by decide +kernel
theorem dX5_numberOf_39 : decode cX5_numberOf 39 = .ok (.iastore, 1) := by decide +kernel
theorem dX5_numberOf_40 : decode cX5_numberOf 40 = .ok (.aload_n 0, 1) := by decide +kernel
theorem dX5_numberOf_41 : decode cX5_numberOf 41 = .ok (.dup, 1) := by decide +kernel
theorem dX5_numberOf_42 : decode cX5_numberOf 42 = .ok (.getfield 9, 3) := by decide +kernel
theorem dX5_numberOf_45 : decode cX5_numberOf 45 = .ok (.iconst 1, 1) := by decide +kernel
theorem dX5_numberOf_46 : decode cX5_numberOf 46 = .ok (.iadd, 1) := by decide +kernel
theorem dX5_numberOf_47 : decode cX5_numberOf 47 = .ok (.putfield 9, 3) := by decide +kernel
theorem dX5_numberOf_50 : decode cX5_numberOf 50 = .ok (.aload_n 0, 1) := by decide +kernel
theorem dX5_numberOf_51 : decode cX5_numberOf 51 = .ok (.getfield 19, 3) := by decide +kernel
theorem dX5_numberOf_54 : decode cX5_numberOf 54 = .ok (.iload_n 1, 1) := by decide +kernel
theorem dX5_numberOf_55 : decode cX5_numberOf 55 = .ok (.iaload, 1) := by decide +kernel
theorem dX5_numberOf_56 : decode cX5_numberOf 56 = .ok (.ireturn, 1) := by decide +kernel
theorem dX5_splitByAcceptance_0 : decode cX5_splitByAcceptance 0 = .ok (.aload_n 0, 1) := by decide +kernel
theorem dX5_splitByAcceptance_1 : decode cX5_splitByAcceptance 1 = .ok (.iconst 1, 1) := by decide +kernel
theorem dX5_splitByAcceptance_2 : decode cX5_splitByAcceptance 2 = .ok (.putfield 32, 3) := by decide +kernel
theorem dX5_splitByAcceptance_5 : decode cX5_splitByAcceptance 5 = .ok (.iconst 0, 1) := by decide +kernel
theorem dX5_splitByAcceptance_6 : decode cX5_splitByAcceptance 6 = .ok (.istore_n 1, 1) := by decide +kernel
theorem dX5_splitByAcceptance_7 : decode cX5_splitByAcceptance 7 = .ok (.iload_n 1, 1) := by decide +kernel
theorem dX5_splitByAcceptance_8 : decode cX5_splitByAcceptance 8 = .ok (.aload_n 0, 1) := by decide +kernel
theorem dX5_splitByAcceptance_9 : decode cX5_splitByAcceptance 9 = .ok (.getfield 9, 3) := by decide +kernel
theorem dX5_splitByAcceptance_12 : decode cX5_splitByAcceptance 12 = .ok (.if_icmp .ge 61, 3) := by decide +kernel
theorem dX5_splitByAcceptance_15 : decode cX5_splitByAcceptance 15 = .ok (.aload_n 0, 1) := by decide +kernel
theorem dX5_splitByAcceptance_16 : decode cX5_splitByAcceptance 16 = .ok (.getfield 28, 3) := by decide +kernel
theorem dX5_splitByAcceptance_19 : decode cX5_splitByAcceptance 19 = .ok (.iload_n 1, 1) := by decide +kernel
theorem dX5_splitByAcceptance_20 : decode cX5_splitByAcceptance 20 = .ok (.baload, 1) := by decide +kernel
theorem dX5_splitByAcceptance_21 : decode cX5_splitByAcceptance 21 = .ok (.aload_n 0, 1) := by decide +kernel
theorem dX5_splitByAcceptance_22 : decode cX5_splitByAcceptance 22 = .ok (.getfield 28, 3) := by decide +kernel
theorem dX5_splitByAcceptance_25 : decode cX5_splitByAcceptance 25 = .ok (.iconst 0, 1) := by decide +kernel
theorem dX5_splitByAcceptance_26 : decode cX5_splitByAcceptance 26 = .ok (.baload, 1) := by decide +kernel
theorem dX5_splitByAcceptance_27 : decode cX5_splitByAcceptance 27 = .ok (.if_icmp .eq 7, 3) := by decide +kernel
theorem dX5_splitByAcceptance_30 : decode cX5_splitByAcceptance 30 = .ok (.iconst 1, 1) := by decide +kernel
theorem dX5_splitByAcceptance_31 : decode cX5_splitByAcceptance 31 = .ok (.goto 4, 3) := by decide +kernel
theorem dX5_splitByAcceptance_34 : decode cX5_splitByAcceptance 34 = .ok (.iconst 0, 1) := by decide +kernel
theorem dX5_splitByAcceptance_35 : decode cX5_splitByAcceptance 35 = .ok (.istore_n 2, 1) := by decide +kernel
theorem dX5_splitByAcceptance_36 : decode cX5_splitByAcceptance 36 = .ok (.aload_n 0, 1) := by decide +kernel
theorem dX5_splitByAcceptance_37 : decode cX5_splitByAcceptance 37 = .ok (.getfield 35, 3) := by decide +kernel
theorem dX5_splitByAcceptance_40 : decode cX5_splitByAcceptance 40 = .ok (.iload_n 1, 1) := by decide +kernel
theorem dX5_splitByAcceptance_41 : decode cX5_splitByAcceptance 41 = .ok (.iload_n 2, 1) := by decide +kernel
theorem dX5_splitByAcceptance_42 : decode cX5_splitByAcceptance 42 = .ok (.ifCond .eq 7, 3) := by decide +kernel
theorem dX5_splitByAcceptance_45 : decode cX5_splitByAcceptance 45 = .ok (.iconst 1, 1) := by decide +kernel
theorem dX5_splitByAcceptance_46 : decode cX5_splitByAcceptance 46 = .ok (.goto 4, 3) := by decide +kernel
theorem dX5_splitByAcceptance_49 : decode cX5_splitByAcceptance 49 = .ok (.iconst 0, 1) := by decide +kernel
theorem dX5_splitByAcceptance_50 : decode cX5_splitByAcceptance 50 = .ok (.iastore, 1) := by decide +kernel
theorem dX5_splitByAcceptance_51 : decode cX5_splitByAcceptance 51 = .ok (.aload_n 0, 1) := by decide +kernel
theorem dX5_splitByAcceptance_52 : decode cX5_splitByAcceptance 52 = .ok (.iload_n 2, 1) := by decide +kernel
theorem dX5_splitByAcceptance_53 : decode cX5_splitByAcceptance 53 = .ok (.ifCond .eq 7, 3) := by decide +kernel
theorem dX5_splitByAcceptance_56 : decode cX5_splitByAcceptance 56 = .ok (.iconst 2, 1) := by decide +kernel
theorem dX5_splitByAcceptance_57 : decode cX5_splitByAcceptance 57 = .ok (.goto 7, 3) := by decide +kernel
theorem dX5_splitByAcceptance_60 : decode cX5_splitByAcceptance 60 = .ok (.aload_n 0, 1) := by decide +kernel
theorem dX5_splitByAcceptance_61 : decode cX5_splitByAcceptance 61 = .ok (.getfield 32, 3) := by decide +kernel
theorem dX5_splitByAcceptance_64 : decode cX5_splitByAcceptance 64 = .ok (.putfield 32, 3) := by decide +kernel
theorem dX5_splitByAcceptance_67 : decode cX5_splitByAcceptance 67 = .ok (.iinc 1 1, 3) := by decide +kernel
theorem dX5_splitByAcceptance_70 : decode cX5_splitByAcceptance 70 = .ok (.goto (-63), 3) := by decide +kernel
theorem dX5_splitByAcceptance_73 : decode cX5_splitByAcceptance 73 = .ok (.return_, 1) := by decide +kernel
theorem dX5_splitByTargets_0 : decode cX5_splitByTargets 0 = .ok (.aload_n 0, 1) := by decide +kernel
theorem dX5_splitByTargets_1 : decode cX5_splitByTargets 1 = .ok (.getfield 41, 3) := by decide +kernel
theorem dX5_splitByTargets_4 : decode cX5_splitByTargets 4 = .ok (.aload_n 0, 1) := by decide +kernel
theorem dX5_splitByTargets_5 : decode cX5_splitByTargets 5 = .ok (.getfield 9, 3) := by decide +kernel
theorem dX5_splitByTargets_8 : decode cX5_splitByTargets 8 = .ok (.invokevirtual 76, 3) := by decide +kernel
theorem dX5_splitByTargets_11 : decode cX5_splitByTargets 11 = .ok (.iconst 0, 1) := by decide +kernel
theorem dX5_splitByTargets_12 : decode cX5_splitByTargets 12 = .ok (.istore_n 1, 1) := by decide +kernel
theorem dX5_splitByTargets_13 : decode cX5_splitByTargets 13 = .ok (.iload_n 1, 1) := by decide +kernel
theorem dX5_splitByTargets_14 : decode cX5_splitByTargets 14 = .ok (.aload_n 0, 1) := by decide +kernel
theorem dX5_splitByTargets_15 : decode cX5_splitByTargets 15 = .ok (.getfield 9, 3) := by decide +kernel
theorem dX5_splitByTargets_18 : decode cX5_splitByTargets 18 = .ok (.if_icmp .ge 70, 3) := by decide +kernel
theorem dX5_splitByTargets_21 : decode cX5_splitByTargets 21 = .ok (.aload_n 0, 1) := by decide +kernel
theorem dX5_splitByTargets_22 : decode cX5_splitByTargets 22 = .ok (.getfield 35, 3) := by decide +kernel
theorem dX5_splitByTargets_25 : decode cX5_splitByTargets 25 = .ok (.iload_n 1, 1) := by decide +kernel
theorem dX5_splitByTargets_26 : decode cX5_splitByTargets 26 = .ok (.iaload, 1) := by decide +kernel
theorem dX5_splitByTargets_27 : decode cX5_splitByTargets 27 = .ok (.i2l, 1) := by decide +kernel
theorem dX5_splitByTargets_28 : decode cX5_splitByTargets 28 = .ok (.lstore_n 2, 1) := by decide +kernel
theorem dX5_splitByTargets_29 : decode cX5_splitByTargets 29 = .ok (.iconst 0, 1) := by decide +kernel
theorem dX5_splitByTargets_30 : decode cX5_splitByTargets 30 = .ok (.istore 4, 2) := by decide +kernel
theorem dX5_splitByTargets_32 : decode cX5_splitByTargets 32 = .ok (.iload 4, 2) := by decide +kernel
theorem dX5_splitByTargets_34 : decode cX5_splitByTargets 34 = .ok (.iconst 3, 1) := by decide +kernel
theorem dX5_splitByTargets_35 : decode cX5_splitByTargets 35 = .ok (.if_icmp .ge 33, 3) := by decide +kernel
theorem dX5_splitByTargets_38 : decode cX5_splitByTargets 38 = .ok (.lload_n 2, 1) := by decide +kernel
theorem dX5_splitByTargets_39 : decode cX5_splitByTargets 39 = .ok (.ldc2_w 82, 3) := by decide +kernel
theorem dX5_splitByTargets_42 : decode cX5_splitByTargets 42 = .ok (.lmul, 1) := by decide +kernel
theorem dX5_splitByTargets_43 : decode cX5_splitByTargets 43 = .ok (.aload_n 0, 1) := by decide +kernel
theorem dX5_splitByTargets_44 : decode cX5_splitByTargets 44 = .ok (.getfield 35, 3) := by decide +kernel
theorem dX5_splitByTargets_47 : decode cX5_splitByTargets 47 = .ok (.aload_n 0, 1) := by decide +kernel
theorem dX5_splitByTargets_48 : decode cX5_splitByTargets 48 = .ok (.getfield 22, 3) := by decide +kernel
theorem dX5_splitByTargets_51 : decode cX5_splitByTargets 51 = .ok (.iload_n 1, 1) := by decide +kernel
theorem dX5_splitByTargets_52 : decode cX5_splitByTargets 52 = .ok (.iconst 3, 1) := by decide +kernel
theorem dX5_splitByTargets_53 : decode cX5_splitByTargets 53 = .ok (.imul, 1) := by decide +kernel
theorem dX5_splitByTargets_54 : decode cX5_splitByTargets 54 = .ok (.iload 4, 2) := by decide +kernel
theorem dX5_splitByTargets_56 : decode cX5_splitByTargets 56 = .ok (.iadd, 1) := by decide +kernel
theorem dX5_splitByTargets_57 : decode cX5_splitByTargets 57 = .ok (.iaload, 1) := by decide +kernel
theorem dX5_splitByTargets_58 : decode cX5_splitByTargets 58 = .ok (.iaload, 1) := by decide +kernel
theorem dX5_splitByTargets_59 : decode cX5_splitByTargets 59 = .ok (.i2l, 1) := by decide +kernel
theorem dX5_splitByTargets_60 : decode cX5_splitByTargets 60 = .ok (.ladd, 1) := by decide +kernel
theorem dX5_splitByTargets_61 : decode cX5_splitByTargets 61 = .ok (.lstore_n 2, 1) := by decide +kernel
theorem dX5_splitByTargets_62 : decode cX5_splitByTargets 62 = .ok (.iinc 4 1, 3) := by decide +kernel
theorem dX5_splitByTargets_65 : decode cX5_splitByTargets 65 = .ok (.goto (-33), 3) := by decide +kernel
theorem dX5_splitByTargets_68 : decode cX5_splitByTargets 68 = .ok (.aload_n 0, 1) := by decide +kernel
theorem dX5_splitByTargets_69 : decode cX5_splitByTargets 69 = .ok (.getfield 38, 3) := by decide +kernel
theorem dX5_splitByTargets_72 : decode cX5_splitByTargets 72 = .ok (.iload_n 1, 1) := by decide +kernel
theorem dX5_splitByTargets_73 : decode cX5_splitByTargets 73 = .ok (.aload_n 0, 1) := by decide +kernel
theorem dX5_splitByTargets_74 : decode cX5_splitByTargets 74 = .ok (.getfield 41, 3) := by decide +kernel
theorem dX5_splitByTargets_77 : decode cX5_splitByTargets 77 = .ok (.lload_n 2, 1) := by decide +kernel
theorem dX5_splitByTargets_78 : decode cX5_splitByTargets 78 = .ok (.invokevirtual 84, 3) := by decide +kernel
theorem dX5_splitByTargets_81 : decode cX5_splitByTargets 81 = .ok (.iastore, 1) := by decide +kernel
theorem dX5_splitByTargets_82 : decode cX5_splitByTargets 82 = .ok (.iinc 1 1, 3) := by decide +kernel
theorem dX5_splitByTargets_85 : decode cX5_splitByTargets 85 = .ok (.goto (-72), 3) := by decide +kernel
theorem dX5_splitByTargets_88 : decode cX5_splitByTargets 88 = .ok (.aload_n 0, 1) := by decide +kernel
theorem dX5_splitByTargets_89 : decode cX5_splitByTargets 89 = .ok (.getfield 35, 3) := by decide +kernel
theorem dX5_splitByTargets_92 : decode cX5_splitByTargets 92 = .ok (.astore_n 1, 1) := by decide +kernel
theorem dX5_splitByTargets_93 : decode cX5_splitByTargets 93 = .ok (.aload_n 0, 1) := by decide +kernel
theorem dX5_splitByTargets_94 : decode cX5_splitByTargets 94 = .ok (.aload_n 0, 1) := by decide +kernel
theorem dX5_splitByTargets_95 : decode cX5_splitByTargets 95 = .ok (.getfield 38, 3) := by decide +kernel
theorem dX5_splitByTargets_98 : decode cX5_splitByTargets 98 = .ok (.putfield 35, 3) := by decide +kernel
theorem dX5_splitByTargets_101 : decode cX5_splitByTargets 101 = .ok (.aload_n 0, 1) := by decide +kernel
theorem dX5_splitByTargets_102 : decode cX5_splitByTargets 102 = .ok (.aload_n 1, 1) := by decide +kernel
theorem dX5_splitByTargets_103 : decode cX5_splitByTargets 103 = .ok (.putfield 38, 3) := by decide +kernel
theorem dX5_splitByTargets_106 : decode cX5_splitByTargets 106 = .ok (.aload_n 0, 1) := by decide +kernel
theorem dX5_splitByTargets_107 : decode cX5_splitByTargets 107 = .ok (.getfield 41, 3) := by decide +kernel
theorem dX5_splitByTargets_110 : decode cX5_splitByTargets 110 = .ok (.getfield 88, 3) := by decide +kernel
theorem dX5_splitByTargets_113 : decode cX5_splitByTargets 113 = .ok (.aload_n 0, 1) := by decide +kernel
theorem dX5_splitByTargets_114 : decode cX5_splitByTargets 114 = .ok (.getfield 32, 3) := by decide +kernel
theorem dX5_splitByTargets_117 : decode cX5_splitByTargets 117 = .ok (.if_icmp .le 7, 3) := by decide +kernel
theorem dX5_splitByTargets_120 : decode cX5_splitByTargets 120 = .ok (.iconst 1, 1) := by decide +kernel
theorem dX5_splitByTargets_121 : decode cX5_splitByTargets 121 = .ok (.goto 4, 3) := by decide +kernel
theorem dX5_splitByTargets_124 : decode cX5_splitByTargets 124 = .ok (.iconst 0, 1) := by decide +kernel
theorem dX5_splitByTargets_125 : decode cX5_splitByTargets 125 = .ok (.istore_n 2, 1) := by decide +kernel
theorem dX5_splitByTargets_126 : decode cX5_splitByTargets 126 = .ok (.aload_n 0, 1) := by decide +kernel
theorem dX5_splitByTargets_127 : decode cX5_splitByTargets 127 = .ok (.aload_n 0, 1) := by decide +kernel
theorem dX5_splitByTargets_128 : decode cX5_splitByTargets 128 = .ok (.getfield 41, 3) := by decide +kernel
theorem dX5_splitByTargets_131 : decode cX5_splitByTargets 131 = .ok (.getfield 88, 3) := by decide +kernel
theorem dX5_splitByTargets_134 : decode cX5_splitByTargets 134 = .ok (.putfield 32, 3) := by decide +kernel
theorem dX5_splitByTargets_137 : decode cX5_splitByTargets 137 = .ok (.iload_n 2, 1) := by decide +kernel
theorem dX5_splitByTargets_138 : decode cX5_splitByTargets 138 = .ok (.ireturn, 1) := by decide +kernel
theorem dX5_storeIn_0 : decode cX5_storeIn 0 = .ok (.aload_n 1, 1) := by decide +kernel
theorem dX5_storeIn_1 : decode cX5_storeIn 1 = .ok (.aload_n 0, 1) := by decide +kernel
theorem dX5_storeIn_2 : decode cX5_storeIn 2 = .ok (.getfield 32, 3) := by decide +kernel
theorem dX5_storeIn_5 : decode cX5_storeIn 5 = .ok (.invokevirtual 89, 3) := by decide +kernel
theorem dX5_storeIn_8 : decode cX5_storeIn 8 = .ok (.iconst 0, 1) := by decide +kernel
theorem dX5_storeIn_9 : decode cX5_storeIn 9 = .ok (.istore_n 2, 1) := by decide +kernel
theorem dX5_storeIn_10 : decode cX5_storeIn 10 = .ok (.iconst 0, 1) := by decide +kernel
theorem dX5_storeIn_11 : decode cX5_storeIn 11 = .ok (.istore_n 3, 1) := by decide +kernel
theorem dX5_storeIn_12 : decode cX5_storeIn 12 = .ok (.iload_n 3, 1) := by decide +kernel
theorem dX5_storeIn_13 : decode cX5_storeIn 13 = .ok (.aload_n 0, 1) := by decide +kernel
theorem dX5_storeIn_14 : decode cX5_storeIn 14 = .ok (.getfield 9, 3) := by decide +kernel
theorem dX5_storeIn_17 : decode cX5_storeIn 17 = .ok (.if_icmp .ge 77, 3) := by decide +kernel
theorem dX5_storeIn_20 : decode cX5_storeIn 20 = .ok (.iload_n 2, 1) := by decide +kernel
theorem dX5_storeIn_21 : decode cX5_storeIn 21 = .ok (.bipush 6, 2) := by decide +kernel
theorem dX5_storeIn_23 : decode cX5_storeIn 23 = .ok (.if_icmp .ge 71, 3) := by decide +kernel
theorem dX5_storeIn_26 : decode cX5_storeIn 26 = .ok (.aload_n 0, 1) := by decide +kernel
theorem dX5_storeIn_27 : decode cX5_storeIn 27 = .ok (.getfield 35, 3) := by decide +kernel
theorem dX5_storeIn_30 : decode cX5_storeIn 30 = .ok (.iload_n 3, 1) := by decide +kernel
theorem dX5_storeIn_31 : decode cX5_storeIn 31 = .ok (.iaload, 1) := by decide +kernel
theorem dX5_storeIn_32 : decode cX5_storeIn 32 = .ok (.iload_n 2, 1) := by decide +kernel
theorem dX5_storeIn_33 : decode cX5_storeIn 33 = .ok (.if_icmp .ne 55, 3) := by decide +kernel
theorem dX5_storeIn_36 : decode cX5_storeIn 36 = .ok (.iconst 0, 1) := by decide +kernel
theorem dX5_storeIn_37 : decode cX5_storeIn 37 = .ok (.istore 4, 2) := by decide +kernel
theorem dX5_storeIn_39 : decode cX5_storeIn 39 = .ok (.iload 4, 2) := by decide +kernel
theorem dX5_storeIn_41 : decode cX5_storeIn 41 = .ok (.iconst 3, 1) := by decide +kernel
theorem dX5_storeIn_42 : decode cX5_storeIn 42 = .ok (.if_icmp .ge 32, 3) := by decide +kernel
theorem dX5_storeIn_45 : decode cX5_storeIn 45 = .ok (.aload_n 1, 1) := by decide +kernel
theorem dX5_storeIn_46 : decode cX5_storeIn 46 = .ok (.iload_n 2, 1) := by decide +kernel
theorem dX5_storeIn_47 : decode cX5_storeIn 47 = .ok (.iload 4, 2) := by decide +kernel
theorem dX5_storeIn_49 : decode cX5_storeIn 49 = .ok (.aload_n 0, 1) := by decide +kernel
theorem dX5_storeIn_50 : decode cX5_storeIn 50 = .ok (.getfield 35, 3) := by decide +kernel
theorem dX5_storeIn_53 : decode cX5_storeIn 53 = .ok (.aload_n 0, 1) := by decide +kernel
theorem dX5_storeIn_54 : decode cX5_storeIn 54 = .ok (.getfield 22, 3) := by decide +kernel
theorem dX5_storeIn_57 : decode cX5_storeIn 57 = .ok (.iload_n 3, 1) := by decide +kernel
theorem dX5_storeIn_58 : decode cX5_storeIn 58 = .ok (.iconst 3, 1) := by decide +kernel
theorem dX5_storeIn_59 : decode cX5_storeIn 59 = .ok (.imul, 1) := by decide +kernel
theorem dX5_storeIn_60 : decode cX5_storeIn 60 = .ok (.iload 4, 2) := by decide +kernel
theorem dX5_storeIn_62 : decode cX5_storeIn 62 = .ok (.iadd, 1) := by decide +kernel
theorem dX5_storeIn_63 : decode cX5_storeIn 63 = .ok (.iaload, 1) := by decide +kernel
theorem dX5_storeIn_64 : decode cX5_storeIn 64 = .ok (.iaload, 1) := by decide +kernel
theorem dX5_storeIn_65 : decode cX5_storeIn 65 = .ok (.invokevirtual 94, 3) := by decide +kernel
theorem dX5_storeIn_68 : decode cX5_storeIn 68 = .ok (.iinc 4 1, 3) := by decide +kernel
theorem dX5_storeIn_71 : decode cX5_storeIn 71 = .ok (.goto (-32), 3) := by decide +kernel
theorem dX5_storeIn_74 : decode cX5_storeIn 74 = .ok (.aload_n 1, 1) := by decide +kernel
theorem dX5_storeIn_75 : decode cX5_storeIn 75 = .ok (.iload_n 2, 1) := by decide +kernel
theorem dX5_storeIn_76 : decode cX5_storeIn 76 = .ok (.aload_n 0, 1) := by decide +kernel
theorem dX5_storeIn_77 : decode cX5_storeIn 77 = .ok (.getfield 28, 3) := by decide +kernel
theorem dX5_storeIn_80 : decode cX5_storeIn 80 = .ok (.iload_n 3, 1) := by decide +kernel
theorem dX5_storeIn_81 : decode cX5_storeIn 81 = .ok (.baload, 1) := by decide +kernel
theorem dX5_storeIn_82 : decode cX5_storeIn 82 = .ok (.invokevirtual 98, 3) := by decide +kernel
theorem dX5_storeIn_85 : decode cX5_storeIn 85 = .ok (.iinc 2 1, 3) := by decide +kernel
theorem dX5_storeIn_88 : decode cX5_storeIn 88 = .ok (.iinc 3 1, 3) := by decide +kernel
theorem dX5_storeIn_91 : decode cX5_storeIn 91 = .ok (.goto (-79), 3) := by decide +kernel
theorem dX5_storeIn_94 : decode cX5_storeIn 94 = .ok (.return_, 1) := by decide +kernel
theorem dX5_firstAccepting_0 : decode cX5_firstAccepting 0 = .ok (.iconst 0, 1) := by decide +kernel
theorem dX5_firstAccepting_1 : decode cX5_firstAccepting 1 = .ok (.istore_n 1, 1) := by decide +kernel
theorem dX5_firstAccepting_2 : decode cX5_firstAccepting 2 = .ok (.iload_n 1, 1) := by decide +kernel
theorem dX5_firstAccepting_3 : decode cX5_firstAccepting 3 = .ok (.aload_n 0, 1) := by decide +kernel
theorem dX5_firstAccepting_4 : decode cX5_firstAccepting 4 = .ok (.getfield 9, 3) := by decide +kernel
theorem dX5_firstAccepting_7 : decode cX5_firstAccepting 7 = .ok (.if_icmp .ge 20, 3) := by decide +kernel
theorem dX5_firstAccepting_10 : decode cX5_firstAccepting 10 = .ok (.aload_n 0, 1) := by decide +kernel
theorem dX5_firstAccepting_11 : decode cX5_firstAccepting 11 = .ok (.getfield 28, 3) := by decide +kernel
theorem dX5_firstAccepting_14 : decode cX5_firstAccepting 14 = .ok (.iload_n 1, 1) := by decide +kernel
theorem dX5_firstAccepting_15 : decode cX5_firstAccepting 15 = .ok (.baload, 1) := by decide +kernel
theorem dX5_firstAccepting_16 : decode cX5_firstAccepting 16 = .ok (.ifCond .eq 5, 3) := by decide +kernel
theorem dX5_firstAccepting_19 : decode cX5_firstAccepting 19 = .ok (.iload_n 1, 1) := by decide +kernel
theorem dX5_firstAccepting_20 : decode cX5_firstAccepting 20 = .ok (.ireturn, 1) := by decide +kernel
theorem dX5_firstAccepting_21 : decode cX5_firstAccepting 21 = .ok (.iinc 1 1, 3) := by decide +kernel
theorem dX5_firstAccepting_24 : decode cX5_firstAccepting 24 = .ok (.goto (-22), 3) := by decide +kernel
theorem dX5_firstAccepting_27 : decode cX5_firstAccepting 27 = .ok (.iconst (-1), 1) := by decide +kernel
theorem dX5_firstAccepting_28 : decode cX5_firstAccepting 28 = .ok (.ireturn, 1) := by decide +kernel
theorem dX5_firstWordLength_0 : decode cX5_firstWordLength 0 = .ok (.iconst 0, 1) := by decide +kernel
theorem dX5_firstWordLength_1 : decode cX5_firstWordLength 1 = .ok (.istore_n 2, 1) := by decide +kernel
theorem dX5_firstWordLength_2 : decode cX5_firstWordLength 2 = .ok (.iload_n 1, 1) := by decide +kernel
theorem dX5_firstWordLength_3 : decode cX5_firstWordLength 3 = .ok (.istore_n 3, 1) := by decide +kernel
theorem dX5_firstWordLength_4 : decode cX5_firstWordLength 4 = .ok (.iload_n 3, 1) := by decide +kernel
theorem dX5_firstWordLength_5 : decode cX5_firstWordLength 5 = .ok (.ifCond .le 25, 3) := by decide +kernel
theorem dX5_firstWordLength_8 : decode cX5_firstWordLength 8 = .ok (.iload_n 2, 1) := by decide +kernel
theorem dX5_firstWordLength_9 : decode cX5_firstWordLength 9 = .ok (.sipush 384, 3) := by decide +kernel
theorem dX5_firstWordLength_12 : decode cX5_firstWordLength 12 = .ok (.if_icmp .ge 18, 3) := by decide +kernel
theorem dX5_firstWordLength_15 : decode cX5_firstWordLength 15 = .ok (.aload_n 0, 1) := by decide +kernel
theorem dX5_firstWordLength_16 : decode cX5_firstWordLength 16 = .ok (.getfield 25, 3) := by decide +kernel
theorem dX5_firstWordLength_19 : decode cX5_firstWordLength 19 = .ok (.iload_n 3, 1) := by decide +kernel
theorem dX5_firstWordLength_20 : decode cX5_firstWordLength 20 = .ok (.iaload, 1) := by decide +kernel
theorem dX5_firstWordLength_21 : decode cX5_firstWordLength 21 = .ok (.iconst 3, 1) := by decide +kernel
theorem dX5_firstWordLength_22 : decode cX5_firstWordLength 22 = .ok (.idiv, 1) := by decide +kernel
theorem dX5_firstWordLength_23 : decode cX5_firstWordLength 23 = .ok (.istore_n 3, 1) := by decide +kernel
theorem dX5_firstWordLength_24 : decode cX5_firstWordLength 24 = .ok (.iinc 2 1, 3) := by decide +kernel
theorem dX5_firstWordLength_27 : decode cX5_firstWordLength 27 = .ok (.goto (-23), 3) := by decide +kernel
theorem dX5_firstWordLength_30 : decode cX5_firstWordLength 30 = .ok (.iload_n 2, 1) := by decide +kernel
theorem dX5_firstWordLength_31 : decode cX5_firstWordLength 31 = .ok (.ireturn, 1) := by decide +kernel
theorem dX5_writeFirstWord_0 : decode cX5_writeFirstWord 0 = .ok (.aload_n 2, 1) := by decide +kernel
theorem dX5_writeFirstWord_1 : decode cX5_writeFirstWord 1 = .ok (.aload_n 0, 1) := by decide +kernel
theorem dX5_writeFirstWord_2 : decode cX5_writeFirstWord 2 = .ok (.iload_n 1, 1) := by decide +kernel
theorem dX5_writeFirstWord_3 : decode cX5_writeFirstWord 3 = .ok (.invokevirtual 102, 3) := by decide +kernel
theorem dX5_writeFirstWord_6 : decode cX5_writeFirstWord 6 = .ok (.putfield 106, 3) := by decide +kernel
theorem dX5_writeFirstWord_9 : decode cX5_writeFirstWord 9 = .ok (.iload_n 1, 1) := by decide +kernel
theorem dX5_writeFirstWord_10 : decode cX5_writeFirstWord 10 = .ok (.istore_n 3, 1) := by decide +kernel
theorem dX5_writeFirstWord_11 : decode cX5_writeFirstWord 11 = .ok (.aload_n 2, 1) := by decide +kernel
theorem dX5_writeFirstWord_12 : decode cX5_writeFirstWord 12 = .ok (.getfield 106, 3) := by decide +kernel
theorem dX5_writeFirstWord_15 : decode cX5_writeFirstWord 15 = .ok (.iconst 1, 1) := by decide +kernel
theorem dX5_writeFirstWord_16 : decode cX5_writeFirstWord 16 = .ok (.isub, 1) := by decide +kernel
theorem dX5_writeFirstWord_17 : decode cX5_writeFirstWord 17 = .ok (.istore 4, 2) := by decide +kernel
theorem dX5_writeFirstWord_19 : decode cX5_writeFirstWord 19 = .ok (.iload 4, 2) := by decide +kernel
theorem dX5_writeFirstWord_21 : decode cX5_writeFirstWord 21 = .ok (.ifCond .lt 33, 3) := by decide +kernel
theorem dX5_writeFirstWord_24 : decode cX5_writeFirstWord 24 = .ok (.aload_n 2, 1) := by decide +kernel
theorem dX5_writeFirstWord_25 : decode cX5_writeFirstWord 25 = .ok (.getfield 111, 3) := by decide +kernel
theorem dX5_writeFirstWord_28 : decode cX5_writeFirstWord 28 = .ok (.iload 4, 2) := by decide +kernel
theorem dX5_writeFirstWord_30 : decode cX5_writeFirstWord 30 = .ok (.aload_n 0, 1) := by decide +kernel
theorem dX5_writeFirstWord_31 : decode cX5_writeFirstWord 31 = .ok (.getfield 25, 3) := by decide +kernel
theorem dX5_writeFirstWord_34 : decode cX5_writeFirstWord 34 = .ok (.iload_n 3, 1) := by decide +kernel
theorem dX5_writeFirstWord_35 : decode cX5_writeFirstWord 35 = .ok (.iaload, 1) := by decide +kernel
theorem dX5_writeFirstWord_36 : decode cX5_writeFirstWord 36 = .ok (.iconst 3, 1) := by decide +kernel
theorem dX5_writeFirstWord_37 : decode cX5_writeFirstWord 37 = .ok (.irem, 1) := by decide +kernel
theorem dX5_writeFirstWord_38 : decode cX5_writeFirstWord 38 = .ok (.iastore, 1) := by decide +kernel
theorem dX5_writeFirstWord_39 : decode cX5_writeFirstWord 39 = .ok (.aload_n 0, 1) := by decide +kernel
theorem dX5_writeFirstWord_40 : decode cX5_writeFirstWord 40 = .ok (.getfield 25, 3) := by decide +kernel
theorem dX5_writeFirstWord_43 : decode cX5_writeFirstWord 43 = .ok (.iload_n 3, 1) := by decide +kernel
theorem dX5_writeFirstWord_44 : decode cX5_writeFirstWord 44 = .ok (.iaload, 1) := by decide +kernel
theorem dX5_writeFirstWord_45 : decode cX5_writeFirstWord 45 = .ok (.iconst 3, 1) := by decide +kernel
theorem dX5_writeFirstWord_46 : decode cX5_writeFirstWord 46 = .ok (.idiv, 1) := by decide +kernel
theorem dX5_writeFirstWord_47 : decode cX5_writeFirstWord 47 = .ok (.istore_n 3, 1) := by decide +kernel
theorem dX5_writeFirstWord_48 : decode cX5_writeFirstWord 48 = .ok (.iinc 4 (-1), 3) := by decide +kernel
theorem dX5_writeFirstWord_51 : decode cX5_writeFirstWord 51 = .ok (.goto (-32), 3) := by decide +kernel
theorem dX5_writeFirstWord_54 : decode cX5_writeFirstWord 54 = .ok (.return_, 1) := by decide +kernel
theorem dX6_init_0 : decode cX6_init 0 = .ok (.aload_n 0, 1) := by decide +kernel
theorem dX6_init_1 : decode cX6_init 1 = .ok (.invokespecial 3, 3) := by decide +kernel
theorem dX6_init_4 : decode cX6_init 4 = .ok (.aload_n 0, 1) := by decide +kernel
theorem dX6_init_5 : decode cX6_init 5 = .ok (.iconst 0, 1) := by decide +kernel
theorem dX6_init_6 : decode cX6_init 6 = .ok (.putfield 9, 3) := by decide +kernel
theorem dX6_init_9 : decode cX6_init 9 = .ok (.aload_n 0, 1) := by decide +kernel
theorem dX6_init_10 : decode cX6_init 10 = .ok (.new 15, 3) := by decide +kernel
theorem dX6_init_13 : decode cX6_init 13 = .ok (.dup, 1) := by decide +kernel
theorem dX6_init_14 : decode cX6_init 14 = .ok (.invokespecial 17, 3) := by decide +kernel
theorem dX6_init_17 : decode cX6_init 17 = .ok (.putfield 18, 3) := by decide +kernel
theorem dX6_init_20 : decode cX6_init 20 = .ok (.aload_n 0, 1) := by decide +kernel
theorem dX6_init_21 : decode cX6_init 21 = .ok (.aload_n 0, 1) := by decide +kernel
theorem dX6_init_22 : decode cX6_init 22 = .ok (.getfield 18, 3) := by decide +kernel
theorem dX6_init_25 : decode cX6_init 25 = .ok (.putfield 22, 3) := by decide +kernel
theorem dX6_init_28 : decode cX6_init 28 = .ok (.return_, 1) := by decide +kernel
theorem dX6_prepare_0 : decode cX6_prepare 0 = .ok (.aload_n 0, 1) := by decide +kernel
theorem dX6_prepare_1 : decode cX6_prepare 1 = .ok (.iload_n 1, 1) := by decide +kernel
theorem dX6_prepare_2 : decode cX6_prepare 2 = .ok (.putfield 9, 3) := by decide +kernel
theorem dX6_prepare_5 : decode cX6_prepare 5 = .ok (.aload_n 0, 1) := by decide +kernel
theorem dX6_prepare_6 : decode cX6_prepare 6 = .ok (.aload_n 2, 1) := by decide +kernel
theorem dX6_prepare_7 : decode cX6_prepare 7 = .ok (.putfield 18, 3) := by decide +kernel
theorem dX6_prepare_10 : decode cX6_prepare 10 = .ok (.aload_n 0, 1) := by decide +kernel
theorem dX6_prepare_11 : decode cX6_prepare 11 = .ok (.aload_n 3, 1) := by decide +kernel
theorem dX6_prepare_12 : decode cX6_prepare 12 = .ok (.putfield 22, 3) := by decide +kernel
theorem dX6_prepare_15 : decode cX6_prepare 15 = .ok (.return_, 1) := by decide +kernel
theorem dX6_codeBound_0 : decode cX6_codeBound 0 = .ok (.bipush 36, 2) := by decide +kernel
theorem dX6_codeBound_2 : decode cX6_codeBound 2 = .ok (.ireturn, 1) := by decide +kernel
theorem dX6_startCode_0 : decode cX6_startCode 0 = .ok (.iconst 0, 1) := by decide +kernel
theorem dX6_startCode_1 : decode cX6_startCode 1 = .ok (.ireturn, 1) := by decide +kernel
theorem dX6_follow_0 : decode cX6_follow 0 = .ok (.aload_n 0, 1) := by decide +kernel
theorem dX6_follow_1 : decode cX6_follow 1 = .ok (.getfield 18, 3) := by decide +kernel
theorem dX6_follow_4 : decode cX6_follow 4 = .ok (.iload_n 1, 1) := by decide +kernel
theorem dX6_follow_5 : decode cX6_follow 5 = .ok (.bipush 6, 2) := by decide +kernel
theorem dX6_follow_7 : decode cX6_follow 7 = .ok (.idiv, 1) := by decide +kernel
theorem dX6_follow_8 : decode cX6_follow 8 = .ok (.iload_n 2, 1) := by decide +kernel
theorem dX6_follow_9 : decode cX6_follow 9 = .ok (.invokevirtual 25, 3) := by decide +kernel
theorem dX6_follow_12 : decode cX6_follow 12 = .ok (.istore_n 3, 1) := by decide +kernel
theorem dX6_follow_13 : decode cX6_follow 13 = .ok (.aload_n 0, 1) := by decide +kernel
theorem dX6_follow_14 : decode cX6_follow 14 = .ok (.getfield 22, 3) := by decide +kernel
theorem dX6_follow_17 : decode cX6_follow 17 = .ok (.iload_n 1, 1) := by decide +kernel
theorem dX6_follow_18 : decode cX6_follow 18 = .ok (.bipush 6, 2) := by decide +kernel
theorem dX6_follow_20 : decode cX6_follow 20 = .ok (.irem, 1) := by decide +kernel
theorem dX6_follow_21 : decode cX6_follow 21 = .ok (.iload_n 2, 1) := by decide +kernel
theorem dX6_follow_22 : decode cX6_follow 22 = .ok (.invokevirtual 25, 3) := by decide +kernel
theorem dX6_follow_25 : decode cX6_follow 25 = .ok (.istore 4, 2) := by decide +kernel
theorem dX6_follow_27 : decode cX6_follow 27 = .ok (.iload_n 3, 1) := by decide +kernel
theorem dX6_follow_28 : decode cX6_follow 28 = .ok (.bipush 6, 2) := by decide +kernel
theorem dX6_follow_30 : decode cX6_follow 30 = .ok (.imul, 1) := by decide +kernel
theorem dX6_follow_31 : decode cX6_follow 31 = .ok (.iload 4, 2) := by decide +kernel
theorem dX6_follow_33 : decode cX6_follow 33 = .ok (.iadd, 1) := by decide +kernel
theorem dX6_follow_34 : decode cX6_follow 34 = .ok (.ireturn, 1) := by decide +kernel
theorem dX6_isAccepting_0 : decode cX6_isAccepting 0 = .ok (.aload_n 0, 1) := by decide +kernel
theorem dX6_isAccepting_1 : decode cX6_isAccepting 1 = .ok (.getfield 18, 3) := by decide +kernel
theorem dX6_isAccepting_4 : decode cX6_isAccepting 4 = .ok (.iload_n 1, 1) := by decide +kernel
theorem dX6_isAccepting_5 : decode cX6_isAccepting 5 = .ok (.bipush 6, 2) := by decide +kernel
theorem dX6_isAccepting_7 : decode cX6_isAccepting 7 = .ok (.idiv, 1) := by decide +kernel
theorem dX6_isAccepting_8 : decode cX6_isAccepting 8 = .ok (.invokevirtual 29, 3) := by decide +kernel
theorem dX6_isAccepting_11 : decode cX6_isAccepting 11 = .ok (.istore_n 2, 1) := by decide +kernel
theorem dX6_isAccepting_12 : decode cX6_isAccepting 12 = .ok (.aload_n 0, 1) := by decide +kernel
theorem dX6_isAccepting_13 : decode cX6_isAccepting 13 = .ok (.getfield 22, 3) := by decide +kernel
theorem dX6_isAccepting_16 : decode cX6_isAccepting 16 = .ok (.iload_n 1, 1) := by decide +kernel
theorem dX6_isAccepting_17 : decode cX6_isAccepting 17 = .ok (.bipush 6, 2) := by decide +kernel
theorem dX6_isAccepting_19 : decode cX6_isAccepting 19 = .ok (.irem, 1) := by decide +kernel
theorem dX6_isAccepting_20 : decode cX6_isAccepting 20 = .ok (.invokevirtual 29, 3) := by decide +kernel
theorem dX6_isAccepting_23 : decode cX6_isAccepting 23 = .ok (.istore_n 3, 1) := by decide +kernel
theorem dX6_isAccepting_24 : decode cX6_isAccepting 24 = .ok (.aload_n 0, 1) := by decide +kernel
theorem dX6_isAccepting_25 : decode cX6_isAccepting 25 = .ok (.getfield 9, 3) := by decide +kernel
theorem dX6_isAccepting_28 : decode cX6_isAccepting 28 = .ok (.tableswitch 70 0 2 #[28, 42, 56], 28) := by decide +kernel
theorem dX6_isAccepting_56 : decode cX6_isAccepting 56 = .ok (.iload_n 2, 1) := by decide +kernel
theorem dX6_isAccepting_57 : decode cX6_isAccepting 57 = .ok (.ifCond .ne 7, 3) := by decide +kernel
theorem dX6_isAccepting_60 : decode cX6_isAccepting 60 = .ok (.iload_n 3, 1) := by decide +kernel
theorem dX6_isAccepting_61 : decode cX6_isAccepting 61 = .ok (.ifCond .eq 7, 3) := by decide +kernel
theorem dX6_isAccepting_64 : decode cX6_isAccepting 64 = .ok (.iconst 1, 1) := by decide +kernel
theorem dX6_isAccepting_65 : decode cX6_isAccepting 65 = .ok (.goto 4, 3) := by decide +kernel
theorem dX6_isAccepting_68 : decode cX6_isAccepting 68 = .ok (.iconst 0, 1) := by decide +kernel
theorem dX6_isAccepting_69 : decode cX6_isAccepting 69 = .ok (.ireturn, 1) := by decide +kernel
theorem dX6_isAccepting_70 : decode cX6_isAccepting 70 = .ok (.iload_n 2, 1) := by decide +kernel
theorem dX6_isAccepting_71 : decode cX6_isAccepting 71 = .ok (.ifCond .eq 11, 3) := by decide +kernel
theorem dX6_isAccepting_74 : decode cX6_isAccepting 74 = .ok (.iload_n 3, 1) := by decide +kernel
theorem dX6_isAccepting_75 : decode cX6_isAccepting 75 = .ok (.ifCond .eq 7, 3) := by decide +kernel
theorem dX6_isAccepting_78 : decode cX6_isAccepting 78 = .ok (.iconst 1, 1) := by decide +kernel
theorem dX6_isAccepting_79 : decode cX6_isAccepting 79 = .ok (.goto 4, 3) := by decide +kernel
theorem dX6_isAccepting_82 : decode cX6_isAccepting 82 = .ok (.iconst 0, 1) := by decide +kernel
theorem dX6_isAccepting_83 : decode cX6_isAccepting 83 = .ok (.ireturn, 1) := by decide +kernel
theorem dX6_isAccepting_84 : decode cX6_isAccepting 84 = .ok (.iload_n 2, 1) := by decide +kernel
theorem dX6_isAccepting_85 : decode cX6_isAccepting 85 = .ok (.ifCond .eq 11, 3) := by decide +kernel
theorem dX6_isAccepting_88 : decode cX6_isAccepting 88 = .ok (.iload_n 3, 1) := by decide +kernel
theorem dX6_isAccepting_89 : decode cX6_isAccepting 89 = .ok (.ifCond .ne 7, 3) := by decide +kernel
theorem dX6_isAccepting_92 : decode cX6_isAccepting 92 = .ok (.iconst 1, 1) := by decide +kernel
theorem dX6_isAccepting_93 : decode cX6_isAccepting 93 = .ok (.goto 4, 3) := by decide +kernel
theorem dX6_isAccepting_96 : decode cX6_isAccepting 96 = .ok (.iconst 0, 1) := by decide +kernel
theorem dX6_isAccepting_97 : decode cX6_isAccepting 97 = .ok (.ireturn, 1) := by decide +kernel
theorem dX6_isAccepting_98 : decode cX6_isAccepting 98 = .ok (.iload_n 2, 1) := by decide +kernel
theorem dX6_isAccepting_99 : decode cX6_isAccepting 99 = .ok (.iload_n 3, 1) := by decide +kernel
theorem dX6_isAccepting_100 : decode cX6_isAccepting 100 = .ok (.if_icmp .eq 7, 3) := by decide +kernel
theorem dX6_isAccepting_103 : decode cX6_isAccepting 103 = .ok (.iconst 1, 1) := by decide +kernel
theorem dX6_isAccepting_104 : decode cX6_isAccepting 104 = .ok (.goto 4, 3) := by decide +kernel
theorem dX6_isAccepting_107 : decode cX6_isAccepting 107 = .ok (.iconst 0, 1) := by decide +kernel
theorem dX6_isAccepting_108 : decode cX6_isAccepting 108 = .ok (.ireturn, 1) := by decide +kernel
theorem dX7_init_0 : decode cX7_init 0 = .ok (.aload_n 0, 1) := by decide +kernel
theorem dX7_init_1 : decode cX7_init 1 = .ok (.invokespecial 3, 3) := by decide +kernel
theorem dX7_init_4 : decode cX7_init 4 = .ok (.aload_n 0, 1) := by decide +kernel
theorem dX7_init_5 : decode cX7_init 5 = .ok (.iconst 0, 1) := by decide +kernel
theorem dX7_init_6 : decode cX7_init 6 = .ok (.putfield 9, 3) := by decide +kernel
theorem dX7_init_9 : decode cX7_init 9 = .ok (.aload_n 0, 1) := by decide +kernel
theorem dX7_init_10 : decode cX7_init 10 = .ok (.iconst 0, 1) := by decide +kernel
theorem dX7_init_11 : decode cX7_init 11 = .ok (.putfield 15, 3) := by decide +kernel
theorem dX7_init_14 : decode cX7_init 14 = .ok (.aload_n 0, 1) := by decide +kernel
theorem dX7_init_15 : decode cX7_init 15 = .ok (.bipush 21, 2) := by decide +kernel
theorem dX7_init_17 : decode cX7_init 17 = .ok (.newarray .float, 2) := by decide +kernel
theorem dX7_init_19 : decode cX7_init 19 = .ok (.putfield 19, 3) := by decide +kernel
theorem dX7_init_22 : decode cX7_init 22 = .ok (.aload_n 0, 1) := by decide +kernel
theorem dX7_init_23 : decode cX7_init 23 = .ok (.bipush 21, 2) := by decide +kernel
theorem dX7_init_25 : decode cX7_init 25 = .ok (.newarray .double, 2) := by decide +kernel
theorem dX7_init_27 : decode cX7_init 27 = .ok (.putfield 23, 3) := by decide +kernel
theorem dX7_init_30 : decode cX7_init 30 = .ok (.aload_n 0, 1) := by decide +kernel
theorem dX7_init_31 : decode cX7_init 31 = .ok (.bipush 6, 2) := by decide +kernel
theorem dX7_init_33 : decode cX7_init 33 = .ok (.newarray .long, 2) := by decide +kernel
theorem dX7_init_35 : decode cX7_init 35 = .ok (.putfield 27, 3) := by decide +kernel
theorem dX7_init_38 : decode cX7_init 38 = .ok (.aload_n 0, 1) := by decide +kernel
theorem dX7_init_39 : decode cX7_init 39 = .ok (.bipush 6, 2) := by decide +kernel
theorem dX7_init_41 : decode cX7_init 41 = .ok (.newarray .long, 2) := by decide +kernel
theorem dX7_init_43 : decode cX7_init 43 = .ok (.putfield 31, 3) := by decide +kernel
theorem dX7_init_46 : decode cX7_init 46 = .ok (.return_, 1) := by decide +kernel
theorem dX7_fill_0 : decode cX7_fill 0 = .ok (.aload_n 0, 1) := by decide +kernel
theorem dX7_fill_1 : decode cX7_fill 1 = .ok (.iload_n 3, 1) := by decide +kernel
theorem dX7_fill_2 : decode cX7_fill 2 = .ok (.putfield 9, 3) := by decide +kernel
theorem dX7_fill_5 : decode cX7_fill 5 = .ok (.aload_n 0, 1) := by decide +kernel
theorem dX7_fill_6 : decode cX7_fill 6 = .ok (.iconst 0, 1) := by decide +kernel
theorem dX7_fill_7 : decode cX7_fill 7 = .ok (.putfield 15, 3) := by decide +kernel
theorem dX7_fill_10 : decode cX7_fill 10 = .ok (.iconst 0, 1) := by decide +kernel
theorem dX7_fill_11 : decode cX7_fill 11 = .ok (.istore 4, 2) := by decide +kernel
theorem dX7_fill_13 : decode cX7_fill 13 = .ok (.iload 4, 2) := by decide +kernel
theorem dX7_fill_15 : decode cX7_fill 15 = .ok (.aload_n 1, 1) := by decide +kernel
theorem dX7_fill_16 : decode cX7_fill 16 = .ok (.getfield 34, 3) := by decide +kernel
theorem dX7_fill_19 : decode cX7_fill 19 = .ok (.if_icmp .ge 30, 3) := by decide +kernel
theorem dX7_fill_22 : decode cX7_fill 22 = .ok (.aload_n 0, 1) := by decide +kernel
theorem dX7_fill_23 : decode cX7_fill 23 = .ok (.getfield 27, 3) := by decide +kernel
theorem dX7_fill_26 : decode cX7_fill 26 = .ok (.iload 4, 2) := by decide +kernel
theorem dX7_fill_28 : decode cX7_fill 28 = .ok (.aload_n 1, 1) := by decide +kernel
theorem dX7_fill_29 : decode cX7_fill 29 = .ok (.iload 4, 2) := by decide +kernel
theorem dX7_fill_31 : decode cX7_fill 31 = .ok (.invokevirtual 39, 3) := by decide +kernel
theorem dX7_fill_34 : decode cX7_fill 34 = .ok (.ifCond .eq 7, 3) := by decide +kernel
theorem dX7_fill_37 : decode cX7_fill 37 = .ok (.lconst 1, 1) := by decide +kernel
theorem dX7_fill_38 : decode cX7_fill 38 = .ok (.goto 4, 3) := by decide +kernel
theorem dX7_fill_41 : decode cX7_fill 41 = .ok (.lconst 0, 1) := by decide +kernel
theorem dX7_fill_42 : decode cX7_fill 42 = .ok (.lastore, 1) := by decide +kernel
theorem dX7_fill_43 : decode cX7_fill 43 = .ok (.iinc 4 1, 3) := by decide +kernel
theorem dX7_fill_46 : decode cX7_fill 46 = .ok (.goto (-33), 3) := by decide +kernel
theorem dX7_fill_49 : decode cX7_fill 49 = .ok (.lconst 1, 1) := by decide +kernel
theorem dX7_fill_50 : decode cX7_fill 50 = .ok (.lstore 4, 2) := by decide +kernel
theorem dX7_fill_52 : decode cX7_fill 52 = .ok (.iconst 0, 1) := by decide +kernel
theorem dX7_fill_53 : decode cX7_fill 53 = .ok (.istore 6, 2) := by decide +kernel
theorem dX7_fill_55 : decode cX7_fill 55 = .ok (.iload 6, 2) := by decide +kernel
theorem dX7_fill_57 : decode cX7_fill 57 = .ok (.iload_n 2, 1) := by decide +kernel
theorem dX7_fill_58 : decode cX7_fill 58 = .ok (.if_icmp .gt 37, 3) := by decide +kernel
theorem dX7_fill_61 : decode cX7_fill 61 = .ok (.aload_n 0, 1) := by decide +kernel
theorem dX7_fill_62 : decode cX7_fill 62 = .ok (.aload_n 0, 1) := by decide +kernel
theorem dX7_fill_63 : decode cX7_fill 63 = .ok (.getfield 27, 3) := by decide +kernel
theorem dX7_fill_66 : decode cX7_fill 66 = .ok (.iconst 0, 1) := by decide +kernel
theorem dX7_fill_67 : decode cX7_fill 67 = .ok (.laload, 1) := by decide +kernel
theorem dX7_fill_68 : decode cX7_fill 68 = .ok (.l2d, 1) := by decide +kernel
theorem dX7_fill_69 : decode cX7_fill 69 = .ok (.lload 4, 2) := by decide +kernel
theorem dX7_fill_71 : decode cX7_fill 71 = .ok (.l2d, 1) := by decide +kernel
theorem dX7_fill_72 : decode cX7_fill 72 = .ok (.ddiv, 1) := by decide +kernel
theorem dX7_fill_73 : decode cX7_fill 73 = .ok (.invokevirtual 43, 3) := by decide +kernel
theorem dX7_fill_76 : decode cX7_fill 76 = .ok (.aload_n 0, 1) := by decide +kernel
theorem dX7_fill_77 : decode cX7_fill 77 = .ok (.aload_n 1, 1) := by decide +kernel
theorem dX7_fill_78 : decode cX7_fill 78 = .ok (.invokevirtual 47, 3) := by decide +kernel
theorem dX7_fill_81 : decode cX7_fill 81 = .ok (.lload 4, 2) := by decide +kernel
theorem dX7_fill_83 : decode cX7_fill 83 = .ok (.ldc2_w 51, 3) := by decide +kernel
theorem dX7_fill_86 : decode cX7_fill 86 = .ok (.lmul, 1) := by decide +kernel
theorem dX7_fill_87 : decode cX7_fill 87 = .ok (.lstore 4, 2) := by decide +kernel
theorem dX7_fill_89 : decode cX7_fill 89 = .ok (.iinc 6 1, 3) := by decide +kernel
theorem dX7_fill_92 : decode cX7_fill 92 = .ok (.goto (-37), 3) := by decide +kernel
theorem dX7_fill_95 : decode cX7_fill 95 = .ok (.return_, 1) := by decide +kernel
theorem dX7_add_0 : decode cX7_add 0 = .ok (.aload_n 0, 1) := by decide +kernel
theorem dX7_add_1 : decode cX7_add 1 = .ok (.getfield 15, 3) := by decide +kernel
theorem dX7_add_4 : decode cX7_add 4 = .ok (.bipush 20, 2) := by decide +kernel
theorem dX7_add_6 : decode cX7_add 6 = .ok (.if_icmp .le 4, 3) := by decide +kernel
theorem dX7_add_9 : decode cX7_add 9 = .ok (.return_, 1) := by decide +kernel
theorem dX7_add_10 : decode cX7_add 10 = .ok (.aload_n 0, 1) := by decide +kernel
theorem dX7_add_11 : decode cX7_add 11 = .ok (.getfield 9, 3) := by decide +kernel
theorem dX7_add_14 : decode cX7_add 14 = .ok (.ifCond .eq 17, 3) := by decide +kernel
theorem dX7_add_17 : decode cX7_add 17 = .ok (.aload_n 0, 1) := by decide +kernel
theorem dX7_add_18 : decode cX7_add 18 = .ok (.getfield 19, 3) := by decide +kernel
theorem dX7_add_21 : decode cX7_add 21 = .ok (.aload_n 0, 1) := by decide +kernel
theorem dX7_add_22 : decode cX7_add 22 = .ok (.getfield 15, 3) := by decide +kernel
theorem dX7_add_25 : decode cX7_add 25 = .ok (.dload_n 1, 1) := by decide +kernel
theorem dX7_add_26 : decode cX7_add 26 = .ok (.d2f, 1) := by decide +kernel
theorem dX7_add_27 : decode cX7_add 27 = .ok (.fastore, 1) := by decide +kernel
theorem dX7_add_28 : decode cX7_add 28 = .ok (.goto 13, 3) := by decide +kernel
theorem dX7_add_31 : decode cX7_add 31 = .ok (.aload_n 0, 1) := by decide +kernel
theorem dX7_add_32 : decode cX7_add 32 = .ok (.getfield 23, 3) := by decide +kernel
theorem dX7_add_35 : decode cX7_add 35 = .ok (.aload_n 0, 1) := by decide +kernel
theorem dX7_add_36 : decode cX7_add 36 = .ok (.getfield 15, 3) := by decide +kernel
theorem dX7_add_39 : decode cX7_add 39 = .ok (.dload_n 1, 1) := by decide +kernel
theorem dX7_add_40 : decode cX7_add 40 = .ok (.dastore, 1) := by decide +kernel
theorem dX7_add_41 : decode cX7_add 41 = .ok (.aload_n 0, 1) := by decide +kernel
theorem dX7_add_42 : decode cX7_add 42 = .ok (.dup, 1) := by decide +kernel
theorem dX7_add_43 : decode cX7_add 43 = .ok (.getfield 15, 3) := by decide +kernel
theorem dX7_add_46 : decode cX7_add 46 = .ok (.iconst 1, 1) := by decide +kernel
theorem dX7_add_47 : decode cX7_add 47 = .ok (.iadd, 1) := by decide +kernel
theorem dX7_add_48 : decode cX7_add 48 = .ok (.putfield 15, 3) := by decide +kernel
theorem dX7_add_51 : decode cX7_add 51 = .ok (.return_, 1) := by decide +kernel
theorem dX7_lengthen_0 : decode cX7_lengthen 0 = .ok (.iconst 0, 1) := by decide +kernel
theorem dX7_lengthen_1 : decode cX7_lengthen 1 = .ok (.istore_n 2, 1) := by decide +kernel
theorem dX7_lengthen_2 : decode cX7_lengthen 2 = .ok (.iload_n 2, 1) := by decide +kernel
theorem dX7_lengthen_3 : decode cX7_lengthen 3 = .ok (.aload_n 1, 1) := by decide +kernel
theorem dX7_lengthen_4 : decode cX7_lengthen 4 = .ok (.getfield 34, 3) := by decide +kernel
theorem dX7_lengthen_7 : decode cX7_lengthen 7 = .ok (.if_icmp .ge 48, 3) := by decide +kernel
theorem dX7_lengthen_10 : decode cX7_lengthen 10 = .ok (.lconst 0, 1) := by decide +kernel
theorem dX7_lengthen_11 : decode cX7_lengthen 11 = .ok (.lstore_n 3, 1) := by decide +kernel
theorem dX7_lengthen_12 : decode cX7_lengthen 12 = .ok (.iconst 0, 1) := by decide +kernel
theorem dX7_lengthen_13 : decode cX7_lengthen 13 = .ok (.istore 5, 2) := by decide +kernel
theorem dX7_lengthen_15 : decode cX7_lengthen 15 = .ok (.iload 5, 2) := by decide +kernel
theorem dX7_lengthen_17 : decode cX7_lengthen 17 = .ok (.iconst 3, 1) := by decide +kernel
theorem dX7_lengthen_18 : decode cX7_lengthen 18 = .ok (.if_icmp .ge 24, 3) := by decide +kernel
theorem dX7_lengthen_21 : decode cX7_lengthen 21 = .ok (.lload_n 3, 1) := by decide +kernel
theorem dX7_lengthen_22 : decode cX7_lengthen 22 = .ok (.aload_n 0, 1) := by decide +kernel
theorem dX7_lengthen_23 : decode cX7_lengthen 23 = .ok (.getfield 27, 3) := by decide +kernel
theorem dX7_lengthen_26 : decode cX7_lengthen 26 = .ok (.aload_n 1, 1) := by decide +kernel
theorem dX7_lengthen_27 : decode cX7_lengthen 27 = .ok (.iload_n 2, 1) := by decide +kernel
theorem dX7_lengthen_28 : decode cX7_lengthen 28 = .ok (.iload 5, 2) := by decide +kernel
theorem dX7_lengthen_30 : decode cX7_lengthen 30 = .ok (.invokevirtual 53, 3) := by decide +kernel
theorem dX7_lengthen_33 : decode cX7_lengthen 33 = .ok (.laload, 1) := by decide +kernel
theorem dX7_lengthen_34 : decode cX7_lengthen 34 = .ok (.ladd, 1) := by decide +kernel
theorem dX7_lengthen_35 : decode cX7_lengthen 35 = .ok (.lstore_n 3, 1) := by decide +kernel
theorem dX7_lengthen_36 : decode cX7_lengthen 36 = .ok (.iinc 5 1, 3) := by decide +kernel
theorem dX7_lengthen_39 : decode cX7_lengthen 39 = .ok (.goto (-24), 3) := by decide +kernel
theorem dX7_lengthen_42 : decode cX7_lengthen 42 = .ok (.aload_n 0, 1) := by decide +kernel
theorem dX7_lengthen_43 : decode cX7_lengthen 43 = .ok (.getfield 31, 3) := by decide +kernel
theorem dX7_lengthen_46 : decode cX7_lengthen 46 = .ok (.iload_n 2, 1) := by decide +kernel
theorem dX7_lengthen_47 : decode cX7_lengthen 47 = .ok (.lload_n 3, 1) := by decide +kernel
theorem dX7_lengthen_48 : decode cX7_lengthen 48 = .ok (.lastore, 1) := by decide +kernel
theorem dX7_lengthen_49 : decode cX7_lengthen 49 = .ok (.iinc 2 1, 3) := by decide +kernel
theorem dX7_lengthen_52 : decode cX7_lengthen 52 = .ok (.goto (-50), 3) := by decide +kernel
theorem dX7_lengthen_55 : decode cX7_lengthen 55 = .ok (.aload_n 0, 1) := by decide +kernel
theorem dX7_lengthen_56 : decode cX7_lengthen 56 = .ok (.getfield 27, 3) := by decide +kernel
theorem dX7_lengthen_59 : decode cX7_lengthen 59 = .ok (.astore_n 2, 1) := by decide +kernel
theorem dX7_lengthen_60 : decode cX7_lengthen 60 = .ok (.aload_n 0, 1) := by decide +kernel
theorem dX7_lengthen_61 : decode cX7_lengthen 61 = .ok (.aload_n 0, 1) := by decide +kernel
theorem dX7_lengthen_62 : decode cX7_lengthen 62 = .ok (.getfield 31, 3) := by decide +kernel
theorem dX7_lengthen_65 : decode cX7_lengthen 65 = .ok (.putfield 27, 3) := by decide +kernel
theorem dX7_lengthen_68 : decode cX7_lengthen 68 = .ok (.aload_n 0, 1) := by decide +kernel
theorem dX7_lengthen_69 : decode cX7_lengthen 69 = .ok (.aload_n 2, 1) := by decide +kernel
theorem dX7_lengthen_70 : decode cX7_lengthen 70 = .ok (.putfield 31, 3) := by decide +kernel
theorem dX7_lengthen_73 : decode cX7_lengthen 73 = .ok (.return_, 1) := by decide +kernel
theorem dX7_isZero_0 : decode cX7_isZero 0 = .ok (.aload_n 0, 1) := by decide +kernel
theorem dX7_isZero_1 : decode cX7_isZero 1 = .ok (.getfield 9, 3) := by decide +kernel
theorem dX7_isZero_4 : decode cX7_isZero 4 = .ok (.ifCond .eq 22, 3) := by decide +kernel
theorem dX7_isZero_7 : decode cX7_isZero 7 = .ok (.aload_n 0, 1) := by decide +kernel
theorem dX7_isZero_8 : decode cX7_isZero 8 = .ok (.getfield 19, 3) := by decide +kernel
theorem dX7_isZero_11 : decode cX7_isZero 11 = .ok (.iload_n 1, 1) := by decide +kernel
theorem dX7_isZero_12 : decode cX7_isZero 12 = .ok (.faload, 1) := by decide +kernel
theorem dX7_isZero_13 : decode cX7_isZero 13 = .ok (.fconst 0, 1) := by decide +kernel
theorem dX7_isZero_14 : decode cX7_isZero 14 = .ok (.fcmp .l, 1) := by decide +kernel
theorem dX7_isZero_15 : decode cX7_isZero 15 = .ok (.ifCond .ne 7, 3) := by decide +kernel
theorem dX7_isZero_18 : decode cX7_isZero 18 = .ok (.iconst 1, 1) := by decide +kernel
theorem dX7_isZero_19 : decode cX7_isZero 19 = .ok (.goto 23, 3) := by decide +kernel
theorem dX7_isZero_22 : decode cX7_isZero 22 = .ok (.iconst 0, 1) := by decide +kernel
theorem dX7_isZero_23 : decode cX7_isZero 23 = .ok (.goto 19, 3) := by decide +kernel
theorem dX7_isZero_26 : decode cX7_isZero 26 = .ok (.aload_n 0, 1) := by decide +kernel
theorem dX7_isZero_27 : decode cX7_isZero 27 = .ok (.getfield 23, 3) := by decide +kernel
theorem dX7_isZero_30 : decode cX7_isZero 30 = .ok (.iload_n 1, 1) := by decide +kernel
theorem dX7_isZero_31 : decode cX7_isZero 31 = .ok (.daload, 1) := by decide +kernel
theorem dX7_isZero_32 : decode cX7_isZero 32 = .ok (.dconst 0, 1) := by decide +kernel
theorem dX7_isZero_33 : decode cX7_isZero 33 = .ok (.dcmp .l, 1) := by decide +kernel
theorem dX7_isZero_34 : decode cX7_isZero 34 = .ok (.ifCond .ne 7, 3) := by decide +kernel
theorem dX7_isZero_37 : decode cX7_isZero 37 = .ok (.iconst 1, 1) := by decide +kernel
theorem dX7_isZero_38 : decode cX7_isZero 38 = .ok (.goto 4, 3) := by decide +kernel
theorem dX7_isZero_41 : decode cX7_isZero 41 = .ok (.iconst 0, 1) := by decide +kernel
theorem dX7_isZero_42 : decode cX7_isZero 42 = .ok (.ireturn, 1) := by decide +kernel
theorem dX7_rest_0 : decode cX7_rest 0 = .ok (.aload_n 0, 1) := by decide +kernel
theorem dX7_rest_1 : decode cX7_rest 1 = .ok (.getfield 9, 3) := by decide +kernel
theorem dX7_rest_4 : decode cX7_rest 4 = .ok (.ifCond .eq 20, 3) := by decide +kernel
theorem dX7_rest_7 : decode cX7_rest 7 = .ok (.aload_n 0, 1) := by decide +kernel
theorem dX7_rest_8 : decode cX7_rest 8 = .ok (.getfield 19, 3) := by decide +kernel
theorem dX7_rest_11 : decode cX7_rest 11 = .ok (.iload_n 1, 1) := by decide +kernel
theorem dX7_rest_12 : decode cX7_rest 12 = .ok (.faload, 1) := by decide +kernel
theorem dX7_rest_13 : decode cX7_rest 13 = .ok (.aload_n 0, 1) := by decide +kernel
theorem dX7_rest_14 : decode cX7_rest 14 = .ok (.getfield 19, 3) := by decide +kernel
theorem dX7_rest_17 : decode cX7_rest 17 = .ok (.iload_n 2, 1) := by decide +kernel
theorem dX7_rest_18 : decode cX7_rest 18 = .ok (.faload, 1) := by decide +kernel
theorem dX7_rest_19 : decode cX7_rest 19 = .ok (.invokestatic 57, 3) := by decide +kernel
theorem dX7_rest_22 : decode cX7_rest 22 = .ok (.f2d, 1) := by decide +kernel
theorem dX7_rest_23 : decode cX7_rest 23 = .ok (.dreturn, 1) := by decide +kernel
theorem dX7_rest_24 : decode cX7_rest 24 = .ok (.aload_n 0, 1) := by decide +kernel
theorem dX7_rest_25 : decode cX7_rest 25 = .ok (.getfield 23, 3) := by decide +kernel
theorem dX7_rest_28 : decode cX7_rest 28 = .ok (.iload_n 1, 1) := by decide +kernel
theorem dX7_rest_29 : decode cX7_rest 29 = .ok (.daload, 1) := by decide +kernel
theorem dX7_rest_30 : decode cX7_rest 30 = .ok (.aload_n 0, 1) := by decide +kernel
theorem dX7_rest_31 : decode cX7_rest 31 = .ok (.getfield 23, 3) := by decide +kernel
theorem dX7_rest_34 : decode cX7_rest 34 = .ok (.iload_n 2, 1) := by decide +kernel
theorem dX7_rest_35 : decode cX7_rest 35 = .ok (.daload, 1) := by decide +kernel
theorem dX7_rest_36 : decode cX7_rest 36 = .ok (.invokestatic 61, 3) := by decide +kernel
theorem dX7_rest_39 : decode cX7_rest 39 = .ok (.dreturn, 1) := by decide +kernel
theorem dX7_doubleRest_0 : decode cX7_doubleRest 0 = .ok (.dload_n 0, 1) := by decide +kernel
theorem dX7_doubleRest_1 : decode cX7_doubleRest 1 = .ok (.dstore 4, 2) := by decide +kernel
theorem dX7_doubleRest_3 : decode cX7_doubleRest 3 = .ok (.iconst 0, 1) := by decide +kernel
theorem dX7_doubleRest_4 : decode cX7_doubleRest 4 = .ok (.istore 6, 2) := by decide +kernel
theorem dX7_doubleRest_6 : decode cX7_doubleRest 6 = .ok (.iload 6, 2) := by decide +kernel
theorem dX7_doubleRest_8 : decode cX7_doubleRest 8 = .ok (.bipush 64, 2) := by decide +kernel
theorem dX7_doubleRest_10 : decode cX7_doubleRest 10 = .ok (.if_icmp .ge 60, 3) := by decide +kernel
theorem dX7_doubleRest_13 : decode cX7_doubleRest 13 = .ok (.dload 4, 2) := by decide +kernel
theorem dX7_doubleRest_15 : decode cX7_doubleRest 15 = .ok (.dload_n 2, 1) := by decide +kernel
theorem dX7_doubleRest_16 : decode cX7_doubleRest 16 = .ok (.dcmp .l, 1) := by decide +kernel
theorem dX7_doubleRest_17 : decode cX7_doubleRest 17 = .ok (.ifCond .lt 53, 3) := by decide +kernel
theorem dX7_doubleRest_20 : decode cX7_doubleRest 20 = .ok (.dload_n 2, 1) := by decide +kernel
theorem dX7_doubleRest_21 : decode cX7_doubleRest 21 = .ok (.dstore 7, 2) := by decide +kernel
theorem dX7_doubleRest_23 : decode cX7_doubleRest 23 = .ok (.iconst 0, 1) := by decide +kernel
theorem dX7_doubleRest_24 : decode cX7_doubleRest 24 = .ok (.istore 9, 2) := by decide +kernel
theorem dX7_doubleRest_26 : decode cX7_doubleRest 26 = .ok (.iload 9, 2) := by decide +kernel
theorem dX7_doubleRest_28 : decode cX7_doubleRest 28 = .ok (.bipush 64, 2) := by decide +kernel
theorem dX7_doubleRest_30 : decode cX7_doubleRest 30 = .ok (.if_icmp .ge 27, 3) := by decide +kernel
theorem dX7_doubleRest_33 : decode cX7_doubleRest 33 = .ok (.dload 7, 2) := by decide +kernel
theorem dX7_doubleRest_35 : decode cX7_doubleRest 35 = .ok (.dload 7, 2) := by decide +kernel
theorem dX7_doubleRest_37 : decode cX7_doubleRest 37 = .ok (.dadd, 1) := by decide +kernel
theorem dX7_doubleRest_38 : decode cX7_doubleRest 38 = .ok (.dload 4, 2) := by decide +kernel
theorem dX7_doubleRest_40 : decode cX7_doubleRest 40 = .ok (.dcmp .g, 1) := by decide +kernel
theorem dX7_doubleRest_41 : decode cX7_doubleRest 41 = .ok (.ifCond .gt 16, 3) := by decide +kernel
theorem dX7_doubleRest_44 : decode cX7_doubleRest 44 = .ok (.dload 7, 2) := by decide +kernel
theorem dX7_doubleRest_46 : decode cX7_doubleRest 46 = .ok (.dload 7, 2) := by decide +kernel
theorem dX7_doubleRest_48 : decode cX7_doubleRest 48 = .ok (.dadd, 1) := by decide +kernel
theorem dX7_doubleRest_49 : decode cX7_doubleRest 49 = .ok (.dstore 7, 2) := by decide +kernel
theorem dX7_doubleRest_51 : decode cX7_doubleRest 51 = .ok (.iinc 9 1, 3) := by decide +kernel
theorem dX7_doubleRest_54 : decode cX7_doubleRest 54 = .ok (.goto (-28), 3) := by decide +kernel
theorem dX7_doubleRest_57 : decode cX7_doubleRest 57 = .ok (.dload 4, 2) := by decide +kernel
theorem dX7_doubleRest_59 : decode cX7_doubleRest 59 = .ok (.dload 7, 2) := by decide +kernel
theorem dX7_doubleRest_61 : decode cX7_doubleRest 61 = .ok (.dsub, 1) := by decide +kernel
theorem dX7_doubleRest_62 : decode cX7_doubleRest 62 = .ok (.dstore 4, 2) := by decide +kernel
theorem dX7_doubleRest_64 : decode cX7_doubleRest 64 = .ok (.iinc 6 1, 3) := by decide +kernel
theorem dX7_doubleRest_67 : decode cX7_doubleRest 67 = .ok (.goto (-61), 3) := by decide +kernel
theorem dX7_doubleRest_70 : decode cX7_doubleRest 70 = .ok (.dload 4, 2) := by decide +kernel
theorem dX7_doubleRest_72 : decode cX7_doubleRest 72 = .ok (.dreturn, 1) := by decide +kernel
theorem dX7_floatRest_0 : decode cX7_floatRest 0 = .ok (.fload_n 0, 1) := by decide +kernel
theorem dX7_floatRest_1 : decode cX7_floatRest 1 = .ok (.fstore_n 2, 1) := by decide +kernel
theorem dX7_floatRest_2 : decode cX7_floatRest 2 = .ok (.iconst 0, 1) := by decide +kernel
theorem dX7_floatRest_3 : decode cX7_floatRest 3 = .ok (.istore_n 3, 1) := by decide +kernel
theorem dX7_floatRest_4 : decode cX7_floatRest 4 = .ok (.iload_n 3, 1) := by decide +kernel
theorem dX7_floatRest_5 : decode cX7_floatRest 5 = .ok (.bipush 64, 2) := by decide +kernel
theorem dX7_floatRest_7 : decode cX7_floatRest 7 = .ok (.if_icmp .ge 56, 3) := by decide +kernel
theorem dX7_floatRest_10 : decode cX7_floatRest 10 = .ok (.fload_n 2, 1) := by decide +kernel
theorem dX7_floatRest_11 : decode cX7_floatRest 11 = .ok (.fload_n 1, 1) := by decide +kernel
theorem dX7_floatRest_12 : decode cX7_floatRest 12 = .ok (.fcmp .l, 1) := by decide +kernel
theorem dX7_floatRest_13 : decode cX7_floatRest 13 = .ok (.ifCond .lt 50, 3) := by decide +kernel
theorem dX7_floatRest_16 : decode cX7_floatRest 16 = .ok (.fload_n 1, 1) := by decide +kernel
theorem dX7_floatRest_17 : decode cX7_floatRest 17 = .ok (.fstore 4, 2) := by decide +kernel
theorem dX7_floatRest_19 : decode cX7_floatRest 19 = .ok (.iconst 0, 1) := by decide +kernel
theorem dX7_floatRest_20 : decode cX7_floatRest 20 = .ok (.istore 5, 2) := by decide +kernel
theorem dX7_floatRest_22 : decode cX7_floatRest 22 = .ok (.iload 5, 2) := by decide +kernel
theorem dX7_floatRest_24 : decode cX7_floatRest 24 = .ok (.bipush 64, 2) := by decide +kernel
theorem dX7_floatRest_26 : decode cX7_floatRest 26 = .ok (.if_icmp .ge 26, 3) := by decide +kernel
theorem dX7_floatRest_29 : decode cX7_floatRest 29 = .ok (.fload 4, 2) := by decide +kernel
theorem dX7_floatRest_31 : decode cX7_floatRest 31 = .ok (.fload 4, 2) := by decide +kernel
theorem dX7_floatRest_33 : decode cX7_floatRest 33 = .ok (.fadd, 1) := by decide +kernel
theorem dX7_floatRest_34 : decode cX7_floatRest 34 = .ok (.fload_n 2, 1) := by decide +kernel
theorem dX7_floatRest_35 : decode cX7_floatRest 35 = .ok (.fcmp .g, 1) := by decide +kernel
theorem dX7_floatRest_36 : decode cX7_floatRest 36 = .ok (.ifCond .gt 16, 3) := by decide +kernel
theorem dX7_floatRest_39 : decode cX7_floatRest 39 = .ok (.fload 4, 2) := by decide +kernel
theorem dX7_floatRest_41 : decode cX7_floatRest 41 = .ok (.fload 4, 2) := by decide +kernel
theorem dX7_floatRest_43 : decode cX7_floatRest 43 = .ok (.fadd, 1) := by decide +kernel
theorem dX7_floatRest_44 : decode cX7_floatRest 44 = .ok (.fstore 4, 2) := by decide +kernel
theorem dX7_floatRest_46 : decode cX7_floatRest 46 = .ok (.iinc 5 1, 3) := by decide +kernel
theorem dX7_floatRest_49 : decode cX7_floatRest 49 = .ok (.goto (-27), 3) := by decide +kernel
theorem dX7_floatRest_52 : decode cX7_floatRest 52 = .ok (.fload_n 2, 1) := by decide +kernel
theorem dX7_floatRest_53 : decode cX7_floatRest 53 = .ok (.fload 4, 2) := by decide +kernel
theorem dX7_floatRest_55 : decode cX7_floatRest 55 = .ok (.fsub, 1) := by decide +kernel
theorem dX7_floatRest_56 : decode cX7_floatRest 56 = .ok (.fstore_n 2, 1) := by decide +kernel
theorem dX7_floatRest_57 : decode cX7_floatRest 57 = .ok (.iinc 3 1, 3) := by decide +kernel
theorem dX7_floatRest_60 : decode cX7_floatRest 60 = .ok (.goto (-56), 3) := by decide +kernel
theorem dX7_floatRest_63 : decode cX7_floatRest 63 = .ok (.fload_n 2, 1) := by decide +kernel
theorem dX7_floatRest_64 : decode cX7_floatRest 64 = .ok (.freturn, 1) := by decide +kernel
theorem dX8_init_0 : decode cX8_init 0 = .ok (.aload_n 0, 1) := by decide +kernel
theorem dX8_init_1 : decode cX8_init 1 = .ok (.invokespecial 3, 3) := by decide +kernel
theorem dX8_init_4 : decode cX8_init 4 = .ok (.aload_n 0, 1) := by decide +kernel
theorem dX8_init_5 : decode cX8_init 5 = .ok (.sipush 192, 3) := by decide +kernel
theorem dX8_init_8 : decode cX8_init 8 = .ok (.newarray .int, 2) := by decide +kernel
theorem dX8_init_10 : decode cX8_init 10 = .ok (.putfield 9, 3) := by decide +kernel
theorem dX8_init_13 : decode cX8_init 13 = .ok (.return_, 1) := by decide +kernel
theorem dX8_of_0 : decode cX8_of 0 = .ok (.aload_n 0, 1) := by decide +kernel
theorem dX8_of_1 : decode cX8_of 1 = .ok (.getfield 9, 3) := by decide +kernel
theorem dX8_of_4 : decode cX8_of 4 = .ok (.iload_n 1, 1) := by decide +kernel
theorem dX8_of_5 : decode cX8_of 5 = .ok (.bipush 64, 2) := by decide +kernel
theorem dX8_of_7 : decode cX8_of 7 = .ok (.imul, 1) := by decide +kernel
theorem dX8_of_8 : decode cX8_of 8 = .ok (.iload_n 2, 1) := by decide +kernel
theorem dX8_of_9 : decode cX8_of 9 = .ok (.iadd, 1) := by decide +kernel
theorem dX8_of_10 : decode cX8_of 10 = .ok (.iaload, 1) := by decide +kernel
theorem dX8_of_11 : decode cX8_of 11 = .ok (.ireturn, 1) := by decide +kernel
theorem dX8_fillForward_0 : decode cX8_fillForward 0 = .ok (.iconst 0, 1) := by decide +kernel
theorem dX8_fillForward_1 : decode cX8_fillForward 1 = .ok (.istore_n 2, 1) := by decide +kernel
theorem dX8_fillForward_2 : decode cX8_fillForward 2 = .ok (.iload_n 2, 1) := by decide +kernel
theorem dX8_fillForward_3 : decode cX8_fillForward 3 = .ok (.iconst 3, 1) := by decide +kernel
theorem dX8_fillForward_4 : decode cX8_fillForward 4 = .ok (.if_icmp .ge 55, 3) := by decide +kernel
theorem dX8_fillForward_7 : decode cX8_fillForward 7 = .ok (.iconst 0, 1) := by decide +kernel
theorem dX8_fillForward_8 : decode cX8_fillForward 8 = .ok (.istore_n 3, 1) := by decide +kernel
theorem dX8_fillForward_9 : decode cX8_fillForward 9 = .ok (.iload_n 3, 1) := by decide +kernel
theorem dX8_fillForward_10 : decode cX8_fillForward 10 = .ok (.aload_n 1, 1) := by decide +kernel
theorem dX8_fillForward_11 : decode cX8_fillForward 11 = .ok (.getfield 15, 3) := by decide +kernel
theorem dX8_fillForward_14 : decode cX8_fillForward 14 = .ok (.if_icmp .ge 30, 3) := by decide +kernel
theorem dX8_fillForward_17 : decode cX8_fillForward 17 = .ok (.aload_n 0, 1) := by decide +kernel
theorem dX8_fillForward_18 : decode cX8_fillForward 18 = .ok (.getfield 9, 3) := by decide +kernel
theorem dX8_fillForward_21 : decode cX8_fillForward 21 = .ok (.iload_n 2, 1) := by decide +kernel
theorem dX8_fillForward_22 : decode cX8_fillForward 22 = .ok (.bipush 64, 2) := by decide +kernel
theorem dX8_fillForward_24 : decode cX8_fillForward 24 = .ok (.imul, 1) := by decide +kernel
theorem dX8_fillForward_25 : decode cX8_fillForward 25 = .ok (.iconst 1, 1) := by decide +kernel
theorem dX8_fillForward_26 : decode cX8_fillForward 26 = .ok (.iload_n 3, 1) := by decide +kernel
theorem dX8_fillForward_27 : decode cX8_fillForward 27 = .ok (.ishl, 1) := by decide +kernel
theorem dX8_fillForward_28 : decode cX8_fillForward 28 = .ok (.iadd, 1) := by decide +kernel
theorem dX8_fillForward_29 : decode cX8_fillForward 29 = .ok (.iconst 1, 1) := by decide +kernel
theorem dX8_fillForward_30 : decode cX8_fillForward 30 = .ok (.aload_n 1, 1) := by decide +kernel
theorem dX8_fillForward_31 : decode cX8_fillForward 31 = .ok (.iload_n 3, 1) := by decide +kernel
theorem dX8_fillForward_32 : decode cX8_fillForward 32 = .ok (.iload_n 2, 1) := by decide +kernel
theorem dX8_fillForward_33 : decode cX8_fillForward 33 = .ok (.invokevirtual 21, 3) := by decide +kernel
theorem dX8_fillForward_36 : decode cX8_fillForward 36 = .ok (.ishl, 1) := by decide +kernel
theorem dX8_fillForward_37 : decode cX8_fillForward 37 = .ok (.iastore, 1) := by decide +kernel
theorem dX8_fillForward_38 : decode cX8_fillForward 38 = .ok (.iinc 3 1, 3) := by decide +kernel
theorem dX8_fillForward_41 : decode cX8_fillForward 41 = .ok (.goto (-32), 3) := by decide +kernel
theorem dX8_fillForward_44 : decode cX8_fillForward 44 = .ok (.aload_n 0, 1) := by decide +kernel
theorem dX8_fillForward_45 : decode cX8_fillForward 45 = .ok (.iload_n 2, 1) := by decide +kernel
theorem dX8_fillForward_46 : decode cX8_fillForward 46 = .ok (.aload_n 1, 1) := by decide +kernel
theorem dX8_fillForward_47 : decode cX8_fillForward 47 = .ok (.getfield 15, 3) := by decide +kernel
theorem dX8_fillForward_50 : decode cX8_fillForward 50 = .ok (.invokevirtual 25, 3) := by decide +kernel
theorem dX8_fillForward_53 : decode cX8_fillForward 53 = .ok (.iinc 2 1, 3) := by decide +kernel
theorem dX8_fillForward_56 : decode cX8_fillForward 56 = .ok (.goto (-54), 3) := by decide +kernel
theorem dX8_fillForward_59 : decode cX8_fillForward 59 = .ok (.return_, 1) := by decide +kernel
theorem dX8_fillBackward_0 : decode cX8_fillBackward 0 = .ok (.iconst 0, 1) := by decide +kernel
theorem dX8_fillBackward_1 : decode cX8_fillBackward 1 = .ok (.istore_n 2, 1) := by decide +kernel
theorem dX8_fillBackward_2 : decode cX8_fillBackward 2 = .ok (.iload_n 2, 1) := by decide +kernel
theorem dX8_fillBackward_3 : decode cX8_fillBackward 3 = .ok (.iconst 3, 1) := by decide +kernel
theorem dX8_fillBackward_4 : decode cX8_fillBackward 4 = .ok (.if_icmp .ge 88, 3) := by decide +kernel
theorem dX8_fillBackward_7 : decode cX8_fillBackward 7 = .ok (.iconst 0, 1) := by decide +kernel
theorem dX8_fillBackward_8 : decode cX8_fillBackward 8 = .ok (.istore_n 3, 1) := by decide +kernel
theorem dX8_fillBackward_9 : decode cX8_fillBackward 9 = .ok (.iload_n 3, 1) := by decide +kernel
theorem dX8_fillBackward_10 : decode cX8_fillBackward 10 = .ok (.aload_n 1, 1) := by decide +kernel
theorem dX8_fillBackward_11 : decode cX8_fillBackward 11 = .ok (.getfield 15, 3) := by decide +kernel
theorem dX8_fillBackward_14 : decode cX8_fillBackward 14 = .ok (.if_icmp .ge 23, 3) := by decide +kernel
theorem dX8_fillBackward_17 : decode cX8_fillBackward 17 = .ok (.aload_n 0, 1) := by decide +kernel
theorem dX8_fillBackward_18 : decode cX8_fillBackward 18 = .ok (.getfield 9, 3) := by decide +kernel
theorem dX8_fillBackward_21 : decode cX8_fillBackward 21 = .ok (.iload_n 2, 1) := by decide +kernel
theorem dX8_fillBackward_22 : decode cX8_fillBackward 22 = .ok (.bipush 64, 2) := by decide +kernel
theorem dX8_fillBackward_24 : decode cX8_fillBackward 24 = .ok (.imul, 1) := by decide +kernel
theorem dX8_fillBackward_25 : decode cX8_fillBackward 25 = .ok (.iconst 1, 1) := by decide +kernel
theorem dX8_fillBackward_26 : decode cX8_fillBackward 26 = .ok (.iload_n 3, 1) := by decide +kernel
theorem dX8_fillBackward_27 : decode cX8_fillBackward 27 = .ok (.ishl, 1) := by decide +kernel
theorem dX8_fillBackward_28 : decode cX8_fillBackward 28 = .ok (.iadd, 1) := by decide +kernel
theorem dX8_fillBackward_29 : decode cX8_fillBackward 29 = .ok (.iconst 0, 1) := by decide +kernel
theorem dX8_fillBackward_30 : decode cX8_fillBackward 30 = .ok (.iastore, 1) := by decide +kernel
theorem dX8_fillBackward_31 : decode cX8_fillBackward 31 = .ok (.iinc 3 1, 3) := by decide +kernel
theorem dX8_fillBackward_34 : decode cX8_fillBackward 34 = .ok (.goto (-25), 3) := by decide +kernel
theorem dX8_fillBackward_37 : decode cX8_fillBackward 37 = .ok (.iconst 0, 1) := by decide +kernel
theorem dX8_fillBackward_38 : decode cX8_fillBackward 38 = .ok (.istore_n 3, 1) := by decide +kernel
theorem dX8_fillBackward_39 : decode cX8_fillBackward 39 = .ok (.iload_n 3, 1) := by decide +kernel
theorem dX8_fillBackward_40 : decode cX8_fillBackward 40 = .ok (.aload_n 1, 1) := by decide +kernel
theorem dX8_fillBackward_41 : decode cX8_fillBackward 41 = .ok (.getfield 15, 3) := by decide +kernel
theorem dX8_fillBackward_44 : decode cX8_fillBackward 44 = .ok (.if_icmp .ge 33, 3) := by decide +kernel
theorem dX8_fillBackward_47 : decode cX8_fillBackward 47 = .ok (.aload_n 0, 1) := by decide +kernel
theorem dX8_fillBackward_48 : decode cX8_fillBackward 48 = .ok (.getfield 9, 3) := by decide +kernel
theorem dX8_fillBackward_51 : decode cX8_fillBackward 51 = .ok (.iload_n 2, 1) := by decide +kernel
theorem dX8_fillBackward_52 : decode cX8_fillBackward 52 = .ok (.bipush 64, 2) := by decide +kernel
theorem dX8_fillBackward_54 : decode cX8_fillBackward 54 = .ok (.imul, 1) := by decide +kernel
theorem dX8_fillBackward_55 : decode cX8_fillBackward 55 = .ok (.iconst 1, 1) := by decide +kernel
theorem dX8_fillBackward_56 : decode cX8_fillBackward 56 = .ok (.aload_n 1, 1) := by decide +kernel
theorem dX8_fillBackward_57 : decode cX8_fillBackward 57 = .ok (.iload_n 3, 1) := by decide +kernel
theorem dX8_fillBackward_58 : decode cX8_fillBackward 58 = .ok (.iload_n 2, 1) := by decide +kernel
theorem dX8_fillBackward_59 : decode cX8_fillBackward 59 = .ok (.invokevirtual 21, 3) := by decide +kernel
theorem dX8_fillBackward_62 : decode cX8_fillBackward 62 = .ok (.ishl, 1) := by decide +kernel
theorem dX8_fillBackward_63 : decode cX8_fillBackward 63 = .ok (.iadd, 1) := by decide +kernel
theorem dX8_fillBackward_64 : decode cX8_fillBackward 64 = .ok (.dup2, 1) := by decide +kernel
theorem dX8_fillBackward_65 : decode cX8_fillBackward 65 = .ok (.iaload, 1) := by decide +kernel
theorem dX8_fillBackward_66 : decode cX8_fillBackward 66 = .ok (.iconst 1, 1) := by decide +kernel
theorem dX8_fillBackward_67 : decode cX8_fillBackward 67 = .ok (.iload_n 3, 1) := by decide +kernel
theorem dX8_fillBackward_68 : decode cX8_fillBackward 68 = .ok (.ishl, 1) := by decide +kernel
theorem dX8_fillBackward_69 : decode cX8_fillBackward 69 = .ok (.ior, 1) := by decide +kernel
theorem dX8_fillBackward_70 : decode cX8_fillBackward 70 = .ok (.iastore, 1) := by decide +kernel
theorem dX8_fillBackward_71 : decode cX8_fillBackward 71 = .ok (.iinc 3 1, 3) := by decide +kernel
theorem dX8_fillBackward_74 : decode cX8_fillBackward 74 = .ok (.goto (-35), 3) := by decide +kernel
theorem dX8_fillBackward_77 : decode cX8_fillBackward 77 = .ok (.aload_n 0, 1) := by decide +kernel
theorem dX8_fillBackward_78 : decode cX8_fillBackward 78 = .ok (.iload_n 2, 1) := by decide +kernel
theorem dX8_fillBackward_79 : decode cX8_fillBackward 79 = .ok (.aload_n 1, 1) := by decide +kernel
theorem dX8_fillBackward_80 : decode cX8_fillBackward 80 = .ok (.getfield 15, 3) := by decide +kernel
theorem dX8_fillBackward_83 : decode cX8_fillBackward 83 = .ok (.invokevirtual 25, 3) := by decide +kernel
theorem dX8_fillBackward_86 : decode cX8_fillBackward 86 = .ok (.iinc 2 1, 3) := by decide +kernel
theorem dX8_fillBackward_89 : decode cX8_fillBackward 89 = .ok (.goto (-87), 3) := by decide +kernel
theorem dX8_fillBackward_92 : decode cX8_fillBackward 92 = .ok (.return_, 1) := by decide +kernel
theorem dX8_joinSingles_0 : decode cX8_joinSingles 0 = .ok (.aload_n 0, 1) := by decide +kernel
theorem dX8_joinSingles_1 : decode cX8_joinSingles 1 = .ok (.getfield 9, 3) := by decide +kernel
theorem dX8_joinSingles_4 : decode cX8_joinSingles 4 = .ok (.iload_n 1, 1) := by decide +kernel
theorem dX8_joinSingles_5 : decode cX8_joinSingles 5 = .ok (.bipush 64, 2) := by decide +kernel
theorem dX8_joinSingles_7 : decode cX8_joinSingles 7 = .ok (.imul, 1) := by decide +kernel
theorem dX8_joinSingles_8 : decode cX8_joinSingles 8 = .ok (.iconst 0, 1) := by decide +kernel
theorem dX8_joinSingles_9 : decode cX8_joinSingles 9 = .ok (.iastore, 1) := by decide +kernel
theorem dX8_joinSingles_10 : decode cX8_joinSingles 10 = .ok (.iconst 1, 1) := by decide +kernel
theorem dX8_joinSingles_11 : decode cX8_joinSingles 11 = .ok (.istore_n 3, 1) := by decide +kernel
theorem dX8_joinSingles_12 : decode cX8_joinSingles 12 = .ok (.iload_n 3, 1) := by decide +kernel
theorem dX8_joinSingles_13 : decode cX8_joinSingles 13 = .ok (.iconst 1, 1) := by decide +kernel
theorem dX8_joinSingles_14 : decode cX8_joinSingles 14 = .ok (.iload_n 2, 1) := by decide +kernel
theorem dX8_joinSingles_15 : decode cX8_joinSingles 15 = .ok (.ishl, 1) := by decide +kernel
theorem dX8_joinSingles_16 : decode cX8_joinSingles 16 = .ok (.if_icmp .ge 49, 3) := by decide +kernel
theorem dX8_joinSingles_19 : decode cX8_joinSingles 19 = .ok (.iload_n 3, 1) := by decide +kernel
theorem dX8_joinSingles_20 : decode cX8_joinSingles 20 = .ok (.iload_n 3, 1) := by decide +kernel
theorem dX8_joinSingles_21 : decode cX8_joinSingles 21 = .ok (.iconst 1, 1) := by decide +kernel
theorem dX8_joinSingles_22 : decode cX8_joinSingles 22 = .ok (.isub, 1) := by decide +kernel
theorem dX8_joinSingles_23 : decode cX8_joinSingles 23 = .ok (.iand, 1) := by decide +kernel
theorem dX8_joinSingles_24 : decode cX8_joinSingles 24 = .ok (.istore 4, 2) := by decide +kernel
theorem dX8_joinSingles_26 : decode cX8_joinSingles 26 = .ok (.iload 4, 2) := by decide +kernel
theorem dX8_joinSingles_28 : decode cX8_joinSingles 28 = .ok (.ifCond .eq 31, 3) := by decide +kernel
theorem dX8_joinSingles_31 : decode cX8_joinSingles 31 = .ok (.aload_n 0, 1) := by decide +kernel
theorem dX8_joinSingles_32 : decode cX8_joinSingles 32 = .ok (.getfield 9, 3) := by decide +kernel
theorem dX8_joinSingles_35 : decode cX8_joinSingles 35 = .ok (.iload_n 1, 1) := by decide +kernel
theorem dX8_joinSingles_36 : decode cX8_joinSingles 36 = .ok (.bipush 64, 2) := by decide +kernel
theorem dX8_joinSingles_38 : decode cX8_joinSingles 38 = .ok (.imul, 1) := by decide +kernel
theorem dX8_joinSingles_39 : decode cX8_joinSingles 39 = .ok (.iload_n 3, 1) := by decide +kernel
theorem dX8_joinSingles_40 : decode cX8_joinSingles 40 = .ok (.iadd, 1) := by decide +kernel
theorem dX8_joinSingles_41 : decode cX8_joinSingles 41 = .ok (.aload_n 0, 1) := by decide +kernel
theorem dX8_joinSingles_42 : decode cX8_joinSingles 42 = .ok (.iload_n 1, 1) := by decide +kernel
theorem dX8_joinSingles_43 : decode cX8_joinSingles 43 = .ok (.iload 4, 2) := by decide +kernel
theorem dX8_joinSingles_45 : decode cX8_joinSingles 45 = .ok (.invokevirtual 29, 3) := by decide +kernel
theorem dX8_joinSingles_48 : decode cX8_joinSingles 48 = .ok (.aload_n 0, 1) := by decide +kernel
theorem dX8_joinSingles_49 : decode cX8_joinSingles 49 = .ok (.iload_n 1, 1) := by decide +kernel
theorem dX8_joinSingles_50 : decode cX8_joinSingles 50 = .ok (.iload_n 3, 1) := by decide +kernel
theorem dX8_joinSingles_51 : decode cX8_joinSingles 51 = .ok (.iload_n 3, 1) := by decide +kernel
theorem dX8_joinSingles_52 : decode cX8_joinSingles 52 = .ok (.ineg, 1) := by decide +kernel
theorem dX8_joinSingles_53 : decode cX8_joinSingles 53 = .ok (.iand, 1) := by decide +kernel
theorem dX8_joinSingles_54 : decode cX8_joinSingles 54 = .ok (.invokevirtual 29, 3) := by decide +kernel
theorem dX8_joinSingles_57 : decode cX8_joinSingles 57 = .ok (.ior, 1) := by decide +kernel
theorem dX8_joinSingles_58 : decode cX8_joinSingles 58 = .ok (.iastore, 1) := by decide +kernel
theorem dX8_joinSingles_59 : decode cX8_joinSingles 59 = .ok (.iinc 3 1, 3) := by decide +kernel
theorem dX8_joinSingles_62 : decode cX8_joinSingles 62 = .ok (.goto (-50), 3) := by decide +kernel
theorem dX8_joinSingles_65 : decode cX8_joinSingles 65 = .ok (.return_, 1) := by decide +kernel
theorem dX9_init_0 : decode cX9_init 0 = .ok (.aload_n 0, 1) := by decide +kernel
theorem dX9_init_1 : decode cX9_init 1 = .ok (.invokespecial 3, 3) := by decide +kernel
theorem dX9_init_4 : decode cX9_init 4 = .ok (.aload_n 0, 1) := by decide +kernel
theorem dX9_init_5 : decode cX9_init 5 = .ok (.iconst 0, 1) := by decide +kernel
theorem dX9_init_6 : decode cX9_init 6 = .ok (.putfield 9, 3) := by decide +kernel
theorem dX9_init_9 : decode cX9_init 9 = .ok (.aload_n 0, 1) := by decide +kernel
theorem dX9_init_10 : decode cX9_init 10 = .ok (.new 15, 3) := by decide +kernel
theorem dX9_init_13 : decode cX9_init 13 = .ok (.dup, 1) := by decide +kernel
theorem dX9_init_14 : decode cX9_init 14 = .ok (.invokespecial 17, 3) := by decide +kernel
theorem dX9_init_17 : decode cX9_init 17 = .ok (.putfield 18, 3) := by decide +kernel
theorem dX9_init_20 : decode cX9_init 20 = .ok (.return_, 1) := by decide +kernel
theorem dX9_prepare_0 : decode cX9_prepare 0 = .ok (.aload_n 0, 1) := by decide +kernel
theorem dX9_prepare_1 : decode cX9_prepare 1 = .ok (.aload_n 1, 1) := by decide +kernel
theorem dX9_prepare_2 : decode cX9_prepare 2 = .ok (.getfield 22, 3) := by decide +kernel
theorem dX9_prepare_5 : decode cX9_prepare 5 = .ok (.putfield 9, 3) := by decide +kernel
theorem dX9_prepare_8 : decode cX9_prepare 8 = .ok (.aload_n 0, 1) := by decide +kernel
theorem dX9_prepare_9 : decode cX9_prepare 9 = .ok (.getfield 18, 3) := by decide +kernel
theorem dX9_prepare_12 : decode cX9_prepare 12 = .ok (.aload_n 1, 1) := by decide +kernel
theorem dX9_prepare_13 : decode cX9_prepare 13 = .ok (.invokevirtual 25, 3) := by decide +kernel
theorem dX9_prepare_16 : decode cX9_prepare 16 = .ok (.return_, 1) := by decide +kernel
theorem dX9_codeBound_0 : decode cX9_codeBound 0 = .ok (.bipush 65, 2) := by decide +kernel
theorem dX9_codeBound_2 : decode cX9_codeBound 2 = .ok (.ireturn, 1) := by decide +kernel
theorem dX9_startCode_0 : decode cX9_startCode 0 = .ok (.bipush 64, 2) := by decide +kernel
theorem dX9_startCode_2 : decode cX9_startCode 2 = .ok (.ireturn, 1) := by decide +kernel
theorem dX9_follow_0 : decode cX9_follow 0 = .ok (.aload_n 0, 1) := by decide +kernel
theorem dX9_follow_1 : decode cX9_follow 1 = .ok (.getfield 18, 3) := by decide +kernel
theorem dX9_follow_4 : decode cX9_follow 4 = .ok (.iload_n 2, 1) := by decide +kernel
theorem dX9_follow_5 : decode cX9_follow 5 = .ok (.iload_n 1, 1) := by decide +kernel
theorem dX9_follow_6 : decode cX9_follow 6 = .ok (.bipush 64, 2) := by decide +kernel
theorem dX9_follow_8 : decode cX9_follow 8 = .ok (.if_icmp .ne 7, 3) := by decide +kernel
theorem dX9_follow_11 : decode cX9_follow 11 = .ok (.iconst 1, 1) := by decide +kernel
theorem dX9_follow_12 : decode cX9_follow 12 = .ok (.goto 4, 3) := by decide +kernel
theorem dX9_follow_15 : decode cX9_follow 15 = .ok (.iload_n 1, 1) := by decide +kernel
theorem dX9_follow_16 : decode cX9_follow 16 = .ok (.invokevirtual 29, 3) := by decide +kernel
theorem dX9_follow_19 : decode cX9_follow 19 = .ok (.istore_n 3, 1) := by decide +kernel
theorem dX9_follow_20 : decode cX9_follow 20 = .ok (.iload_n 3, 1) := by decide +kernel
theorem dX9_follow_21 : decode cX9_follow 21 = .ok (.aload_n 0, 1) := by decide +kernel
theorem dX9_follow_22 : decode cX9_follow 22 = .ok (.getfield 9, 3) := by decide +kernel
theorem dX9_follow_25 : decode cX9_follow 25 = .ok (.iand, 1) := by decide +kernel
theorem dX9_follow_26 : decode cX9_follow 26 = .ok (.ifCond .eq 9, 3) := by decide +kernel
theorem dX9_follow_29 : decode cX9_follow 29 = .ok (.iload_n 3, 1) := by decide +kernel
theorem dX9_follow_30 : decode cX9_follow 30 = .ok (.iconst 1, 1) := by decide +kernel
theorem dX9_follow_31 : decode cX9_follow 31 = .ok (.ior, 1) := by decide +kernel
theorem dX9_follow_32 : decode cX9_follow 32 = .ok (.goto 4, 3) := by decide +kernel
theorem dX9_follow_35 : decode cX9_follow 35 = .ok (.iload_n 3, 1) := by decide +kernel
theorem dX9_follow_36 : decode cX9_follow 36 = .ok (.ireturn, 1) := by decide +kernel
theorem dX9_isAccepting_0 : decode cX9_isAccepting 0 = .ok (.iload_n 1, 1) := by decide +kernel
theorem dX9_isAccepting_1 : decode cX9_isAccepting 1 = .ok (.bipush 64, 2) := by decide +kernel
theorem dX9_isAccepting_3 : decode cX9_isAccepting 3 = .ok (.if_icmp .eq 12, 3) := by decide +kernel
theorem dX9_isAccepting_6 : decode cX9_isAccepting 6 = .ok (.iload_n 1, 1) := by decide +kernel
theorem dX9_isAccepting_7 : decode cX9_isAccepting 7 = .ok (.aload_n 0, 1) := by decide +kernel
theorem dX9_isAccepting_8 : decode cX9_isAccepting 8 = .ok (.getfield 9, 3) := by decide +kernel
theorem dX9_isAccepting_11 : decode cX9_isAccepting 11 = .ok (.iand, 1) := by decide +kernel
theorem dX9_isAccepting_12 : decode cX9_isAccepting 12 = .ok (.ifCond .eq 7, 3) := by decide +kernel
theorem dX9_isAccepting_15 : decode cX9_isAccepting 15 = .ok (.iconst 1, 1) := by decide +kernel
theorem dX9_isAccepting_16 : decode cX9_isAccepting 16 = .ok (.goto 4, 3) := by decide +kernel
theorem dX9_isAccepting_19 : decode cX9_isAccepting 19 = .ok (.iconst 0, 1) := by decide +kernel
theorem dX9_isAccepting_20 : decode cX9_isAccepting 20 = .ok (.ireturn, 1) := by decide +kernel
end
section
theorem dX12_init_0 : decode cX12_init 0 = .ok (.aload_n 0, 1) := by decide +kernel
theorem dX12_init_1 : decode cX12_init 1 = .ok (.invokespecial 1, 3) := by decide +kernel
theorem dX12_init_4 : decode cX12_init 4 = .ok (.aload_n 0, 1) := by decide +kernel
theorem dX12_init_5 : decode cX12_init 5 = .ok (.iconst 3, 1) := by decide +kernel
theorem dX12_init_6 : decode cX12_init 6 = .ok (.newarray .int, 2) := by decide +kernel
theorem dX12_init_8 : decode cX12_init 8 = .ok (.dup, 1) := by decide +kernel
theorem dX12_init_9 : decode cX12_init 9 = .ok (.iconst 0, 1) := by decide +kernel
theorem dX12_init_10 : decode cX12_init 10 = .ok (.iconst 1, 1) := by decide +kernel
theorem dX12_init_11 : decode cX12_init 11 = .ok (.iastore, 1) := by decide +kernel
theorem dX12_init_12 : decode cX12_init 12 = .ok (.dup, 1) := by decide +kernel
theorem dX12_init_13 : decode cX12_init 13 = .ok (.iconst 1, 1) := by decide +kernel
theorem dX12_init_14 : decode cX12_init 14 = .ok (.iconst 1, 1) := by decide +kernel
theorem dX12_init_15 : decode cX12_init 15 = .ok (.iastore, 1) := by decide +kernel
theorem dX12_init_16 : decode cX12_init 16 = .ok (.dup, 1) := by decide +kernel
theorem dX12_init_17 : decode cX12_init 17 = .ok (.iconst 2, 1) := by decide +kernel
theorem dX12_init_18 : decode cX12_init 18 = .ok (.iconst 1, 1) := by decide +kernel
theorem dX12_init_19 : decode cX12_init 19 = .ok (.iastore, 1) := by decide +kernel
theorem dX12_init_20 : decode cX12_init 20 = .ok (.putfield 7, 3) := by decide +kernel
theorem dX12_init_23 : decode cX12_init 23 = .ok (.aload_n 0, 1) := by decide +kernel
theorem dX12_init_24 : decode cX12_init 24 = .ok (.bipush 54, 2) := by decide +kernel
theorem dX12_init_26 : decode cX12_init 26 = .ok (.newarray .int, 2) := by decide +kernel
theorem dX12_init_28 : decode cX12_init 28 = .ok (.putfield 13, 3) := by decide +kernel
theorem dX12_init_31 : decode cX12_init 31 = .ok (.aload_n 0, 1) := by decide +kernel
theorem dX12_init_32 : decode cX12_init 32 = .ok (.bipush 18, 2) := by decide +kernel
theorem dX12_init_34 : decode cX12_init 34 = .ok (.newarray .boolean, 2) := by decide +kernel
theorem dX12_init_36 : decode cX12_init 36 = .ok (.putfield 16, 3) := by decide +kernel
theorem dX12_init_39 : decode cX12_init 39 = .ok (.aload_n 0, 1) := by decide +kernel
theorem dX12_init_40 : decode cX12_init 40 = .ok (.bipush 12, 2) := by decide +kernel
theorem dX12_init_42 : decode cX12_init 42 = .ok (.newarray .int, 2) := by decide +kernel
theorem dX12_init_44 : decode cX12_init 44 = .ok (.putfield 20, 3) := by decide +kernel
theorem dX12_init_47 : decode cX12_init 47 = .ok (.aload_n 0, 1) := by decide +kernel
theorem dX12_init_48 : decode cX12_init 48 = .ok (.iconst 2, 1) := by decide +kernel
theorem dX12_init_49 : decode cX12_init 49 = .ok (.newarray .int, 2) := by decide +kernel
theorem dX12_init_51 : decode cX12_init 51 = .ok (.putfield 23, 3) := by decide +kernel
theorem dX12_init_54 : decode cX12_init 54 = .ok (.aload_n 0, 1) := by decide +kernel
theorem dX12_init_55 : decode cX12_init 55 = .ok (.iconst 2, 1) := by decide +kernel
theorem dX12_init_56 : decode cX12_init 56 = .ok (.newarray .int, 2) := by decide +kernel
theorem dX12_init_58 : decode cX12_init 58 = .ok (.putfield 26, 3) := by decide +kernel
theorem dX12_init_61 : decode cX12_init 61 = .ok (.aload_n 0, 1) := by decide +kernel
theorem dX12_init_62 : decode cX12_init 62 = .ok (.bipush 42, 2) := by decide +kernel
theorem dX12_init_64 : decode cX12_init 64 = .ok (.newarray .float, 2) := by decide +kernel
theorem dX12_init_66 : decode cX12_init 66 = .ok (.putfield 29, 3) := by decide +kernel
theorem dX12_init_69 : decode cX12_init 69 = .ok (.aload_n 0, 1) := by decide +kernel
theorem dX12_init_70 : decode cX12_init 70 = .ok (.bipush 42, 2) := by decide +kernel
theorem dX12_init_72 : decode cX12_init 72 = .ok (.newarray .double, 2) := by decide +kernel
theorem dX12_init_74 : decode cX12_init 74 = .ok (.putfield 33, 3) := by decide +kernel
theorem dX12_init_77 : decode cX12_init 77 = .ok (.aload_n 0, 1) := by decide +kernel
theorem dX12_init_78 : decode cX12_init 78 = .ok (.iconst 3, 1) := by decide +kernel
theorem dX12_init_79 : decode cX12_init 79 = .ok (.newarray .int, 2) := by decide +kernel
theorem dX12_init_81 : decode cX12_init 81 = .ok (.putfield 37, 3) := by decide +kernel
theorem dX12_init_84 : decode cX12_init 84 = .ok (.aload_n 0, 1) := by decide +kernel
theorem dX12_init_85 : decode cX12_init 85 = .ok (.bipush 54, 2) := by decide +kernel
theorem dX12_init_87 : decode cX12_init 87 = .ok (.newarray .int, 2) := by decide +kernel
theorem dX12_init_89 : decode cX12_init 89 = .ok (.putfield 40, 3) := by decide +kernel
theorem dX12_init_92 : decode cX12_init 92 = .ok (.aload_n 0, 1) := by decide +kernel
theorem dX12_init_93 : decode cX12_init 93 = .ok (.bipush 18, 2) := by decide +kernel
theorem dX12_init_95 : decode cX12_init 95 = .ok (.newarray .boolean, 2) := by decide +kernel
theorem dX12_init_97 : decode cX12_init 97 = .ok (.putfield 43, 3) := by decide +kernel
theorem dX12_init_100 : decode cX12_init 100 = .ok (.aload_n 0, 1) := by decide +kernel
theorem dX12_init_101 : decode cX12_init 101 = .ok (.bipush 12, 2) := by decide +kernel
theorem dX12_init_103 : decode cX12_init 103 = .ok (.newarray .int, 2) := by decide +kernel
theorem dX12_init_105 : decode cX12_init 105 = .ok (.putfield 46, 3) := by decide +kernel
theorem dX12_init_108 : decode cX12_init 108 = .ok (.aload_n 0, 1) := by decide +kernel
theorem dX12_init_109 : decode cX12_init 109 = .ok (.sipush 740, 3) := by decide +kernel
theorem dX12_init_112 : decode cX12_init 112 = .ok (.newarray .long, 2) := by decide +kernel
theorem dX12_init_114 : decode cX12_init 114 = .ok (.putfield 49, 3) := by decide +kernel
theorem dX12_init_117 : decode cX12_init 117 = .ok (.aload_n 0, 1) := by decide +kernel
theorem dX12_init_118 : decode cX12_init 118 = .ok (.sipush 2220, 3) := by decide +kernel
theorem dX12_init_121 : decode cX12_init 121 = .ok (.newarray .int, 2) := by decide +kernel
theorem dX12_init_123 : decode cX12_init 123 = .ok (.putfield 53, 3) := by decide +kernel
theorem dX12_init_126 : decode cX12_init 126 = .ok (.aload_n 0, 1) := by decide +kernel
theorem dX12_init_127 : decode cX12_init 127 = .ok (.sipush 740, 3) := by decide +kernel
theorem dX12_init_130 : decode cX12_init 130 = .ok (.newarray .boolean, 2) := by decide +kernel
theorem dX12_init_132 : decode cX12_init 132 = .ok (.putfield 56, 3) := by decide +kernel
theorem dX12_init_135 : decode cX12_init 135 = .ok (.aload_n 0, 1) := by decide +kernel
theorem dX12_init_136 : decode cX12_init 136 = .ok (.sipush 740, 3) := by decide +kernel
theorem dX12_init_139 : decode cX12_init 139 = .ok (.newarray .int, 2) := by decide +kernel
theorem dX12_init_141 : decode cX12_init 141 = .ok (.putfield 59, 3) := by decide +kernel
theorem dX12_init_144 : decode cX12_init 144 = .ok (.aload_n 0, 1) := by decide +kernel
theorem dX12_init_145 : decode cX12_init 145 = .ok (.sipush 740, 3) := by decide +kernel
theorem dX12_init_148 : decode cX12_init 148 = .ok (.newarray .int, 2) := by decide +kernel
theorem dX12_init_150 : decode cX12_init 150 = .ok (.putfield 62, 3) := by decide +kernel
theorem dX12_init_153 : decode cX12_init 153 = .ok (.aload_n 0, 1) := by decide +kernel
theorem dX12_init_154 : decode cX12_init 154 = .ok (.sipush 740, 3) := by decide +kernel
theorem dX12_init_157 : decode cX12_init 157 = .ok (.newarray .int, 2) := by decide +kernel
theorem dX12_init_159 : decode cX12_init 159 = .ok (.putfield 65, 3) := by decide +kernel
theorem dX12_init_162 : decode cX12_init 162 = .ok (.aload_n 0, 1) := by decide +kernel
theorem dX12_init_163 : decode cX12_init 163 = .ok (.sipush 740, 3) := by decide +kernel
theorem dX12_init_166 : decode cX12_init 166 = .ok (.newarray .int, 2) := by decide +kernel
theorem dX12_init_168 : decode cX12_init 168 = .ok (.putfield 68, 3) := by decide +kernel
theorem dX12_init_171 : decode cX12_init 171 = .ok (.aload_n 0, 1) := by decide +kernel
theorem dX12_init_172 : decode cX12_init 172 = .ok (.bipush 6, 2) := by decide +kernel
theorem dX12_init_174 : decode cX12_init 174 = .ok (.newarray .int, 2) := by decide +kernel
theorem dX12_init_176 : decode cX12_init 176 = .ok (.putfield 71, 3) := by decide +kernel
theorem dX12_init_179 : decode cX12_init 179 = .ok (.aload_n 0, 1) := by decide +kernel
theorem dX12_init_180 : decode cX12_init 180 = .ok (.bipush 64, 2) := by decide +kernel
theorem dX12_init_182 : decode cX12_init 182 = .ok (.newarray .int, 2) := by decide +kernel
theorem dX12_init_184 : decode cX12_init 184 = .ok (.putfield 74, 3) := by decide +kernel
theorem dX12_init_187 : decode cX12_init 187 = .ok (.aload_n 0, 1) := by decide +kernel
theorem dX12_init_188 : decode cX12_init 188 = .ok (.bipush 64, 2) := by decide +kernel
theorem dX12_init_190 : decode cX12_init 190 = .ok (.newarray .boolean, 2) := by decide +kernel
theorem dX12_init_192 : decode cX12_init 192 = .ok (.putfield 77, 3) := by decide +kernel
theorem dX12_init_195 : decode cX12_init 195 = .ok (.aload_n 0, 1) := by decide +kernel
theorem dX12_init_196 : decode cX12_init 196 = .ok (.sipush 192, 3) := by decide +kernel
theorem dX12_init_199 : decode cX12_init 199 = .ok (.newarray .long, 2) := by decide +kernel
theorem dX12_init_201 : decode cX12_init 201 = .ok (.putfield 80, 3) := by decide +kernel
theorem dX12_init_204 : decode cX12_init 204 = .ok (.aload_n 0, 1) := by decide +kernel
theorem dX12_init_205 : decode cX12_init 205 = .ok (.bipush 6, 2) := by decide +kernel
theorem dX12_init_207 : decode cX12_init 207 = .ok (.newarray .int, 2) := by decide +kernel
theorem dX12_init_209 : decode cX12_init 209 = .ok (.putfield 83, 3) := by decide +kernel
theorem dX12_init_212 : decode cX12_init 212 = .ok (.aload_n 0, 1) := by decide +kernel
theorem dX12_init_213 : decode cX12_init 213 = .ok (.sipush 4096, 3) := by decide +kernel
theorem dX12_init_216 : decode cX12_init 216 = .ok (.newarray .boolean, 2) := by decide +kernel
theorem dX12_init_218 : decode cX12_init 218 = .ok (.putfield 86, 3) := by decide +kernel
theorem dX12_init_221 : decode cX12_init 221 = .ok (.aload_n 0, 1) := by decide +kernel
theorem dX12_init_222 : decode cX12_init 222 = .ok (.sipush 4096, 3) := by decide +kernel
theorem dX12_init_225 : decode cX12_init 225 = .ok (.newarray .int, 2) := by decide +kernel
theorem dX12_init_227 : decode cX12_init 227 = .ok (.putfield 89, 3) := by decide +kernel
theorem dX12_init_230 : decode cX12_init 230 = .ok (.aload_n 0, 1) := by decide +kernel
theorem dX12_init_231 : decode cX12_init 231 = .ok (.bipush 6, 2) := by decide +kernel
theorem dX12_init_233 : decode cX12_init 233 = .ok (.newarray .long, 2) := by decide +kernel
theorem dX12_init_235 : decode cX12_init 235 = .ok (.putfield 92, 3) := by decide +kernel
theorem dX12_init_238 : decode cX12_init 238 = .ok (.aload_n 0, 1) := by decide +kernel
theorem dX12_init_239 : decode cX12_init 239 = .ok (.bipush 6, 2) := by decide +kernel
theorem dX12_init_241 : decode cX12_init 241 = .ok (.newarray .long, 2) := by decide +kernel
theorem dX12_init_243 : decode cX12_init 243 = .ok (.putfield 95, 3) := by decide +kernel
theorem dX12_init_246 : decode cX12_init 246 = .ok (.return_, 1) := by decide +kernel
theorem dX12_thrown_0 : decode cX12_thrown 0 = .ok (.aload_n 0, 1) := by decide +kernel
theorem dX12_thrown_1 : decode cX12_thrown 1 = .ok (.getfield 98, 3) := by decide +kernel
theorem dX12_thrown_4 : decode cX12_thrown 4 = .ok (.ireturn, 1) := by decide +kernel
theorem dX12_in_0 : decode cX12_in 0 = .ok (.iload_n 0, 1) := by decide +kernel
theorem dX12_in_1 : decode cX12_in 1 = .ok (.iload_n 1, 1) := by decide +kernel
theorem dX12_in_2 : decode cX12_in 2 = .ok (.if_icmp .lt 12, 3) := by decide +kernel
theorem dX12_in_5 : decode cX12_in 5 = .ok (.iload_n 0, 1) := by decide +kernel
theorem dX12_in_6 : decode cX12_in 6 = .ok (.iload_n 2, 1) := by decide +kernel
theorem dX12_in_7 : decode cX12_in 7 = .ok (.if_icmp .gt 7, 3) := by decide +kernel
theorem dX12_in_10 : decode cX12_in 10 = .ok (.iconst 1, 1) := by decide +kernel
theorem dX12_in_11 : decode cX12_in 11 = .ok (.goto 4, 3) := by decide +kernel
theorem dX12_in_14 : decode cX12_in 14 = .ok (.iconst 0, 1) := by decide +kernel
theorem dX12_in_15 : decode cX12_in 15 = .ok (.ireturn, 1) := by decide +kernel
theorem dX12_fails_0 : decode cX12_fails 0 = .ok (.aload_n 0, 1) := by decide +kernel
theorem dX12_fails_1 : decode cX12_fails 1 = .ok (.iload_n 1, 1) := by decide +kernel
theorem dX12_fails_2 : decode cX12_fails 2 = .ok (.putfield 98, 3) := by decide +kernel
theorem dX12_fails_5 : decode cX12_fails 5 = .ok (.iconst 0, 1) := by decide +kernel
theorem dX12_fails_6 : decode cX12_fails 6 = .ok (.ireturn, 1) := by decide +kernel
theorem dX12_done_0 : decode cX12_done 0 = .ok (.aload_n 0, 1) := by decide +kernel
theorem dX12_done_1 : decode cX12_done 1 = .ok (.iconst 0, 1) := by decide +kernel
theorem dX12_done_2 : decode cX12_done 2 = .ok (.putfield 98, 3) := by decide +kernel
theorem dX12_done_5 : decode cX12_done 5 = .ok (.iload_n 1, 1) := by decide +kernel
theorem dX12_done_6 : decode cX12_done 6 = .ok (.ireturn, 1) := by decide +kernel
theorem dX12_so_0 : decode cX12_so 0 = .ok (.aload_n 0, 1) := by decide +kernel
theorem dX12_so_1 : decode cX12_so 1 = .ok (.iconst 0, 1) := by decide +kernel
theorem dX12_so_2 : decode cX12_so 2 = .ok (.putfield 98, 3) := by decide +kernel
theorem dX12_so_5 : decode cX12_so 5 = .ok (.iload_n 1, 1) := by decide +kernel
theorem dX12_so_6 : decode cX12_so 6 = .ok (.ireturn, 1) := by decide +kernel
theorem dX12_not_0 : decode cX12_not 0 = .ok (.aload_n 0, 1) := by decide +kernel
theorem dX12_not_1 : decode cX12_not 1 = .ok (.iload_n 1, 1) := by decide +kernel
theorem dX12_not_2 : decode cX12_not 2 = .ok (.putfield 98, 3) := by decide +kernel
theorem dX12_not_5 : decode cX12_not 5 = .ok (.iconst 0, 1) := by decide +kernel
theorem dX12_not_6 : decode cX12_not 6 = .ok (.ireturn, 1) := by decide +kernel
theorem dX12_isRegister_0 : decode cX12_isRegister 0 = .ok (.iload_n 0, 1) := by decide +kernel
theorem dX12_isRegister_1 : decode cX12_isRegister 1 = .ok (.iconst 0, 1) := by decide +kernel
theorem dX12_isRegister_2 : decode cX12_isRegister 2 = .ok (.iconst 2, 1) := by decide +kernel
theorem dX12_isRegister_3 : decode cX12_isRegister 3 = .ok (.invokestatic 102, 3) := by decide +kernel
theorem dX12_isRegister_6 : decode cX12_isRegister 6 = .ok (.ireturn, 1) := by decide +kernel
theorem dX12_isState_0 : decode cX12_isState 0 = .ok (.iload_n 1, 1) := by decide +kernel
theorem dX12_isState_1 : decode cX12_isState 1 = .ok (.invokestatic 106, 3) := by decide +kernel
theorem dX12_isState_4 : decode cX12_isState 4 = .ok (.ifCond .eq 34, 3) := by decide +kernel
theorem dX12_isState_7 : decode cX12_isState 7 = .ok (.iload_n 2, 1) := by decide +kernel
theorem dX12_isState_8 : decode cX12_isState 8 = .ok (.iconst 0, 1) := by decide +kernel
theorem dX12_isState_9 : decode cX12_isState 9 = .ok (.aload_n 0, 1) := by decide +kernel
theorem dX12_isState_10 : decode cX12_isState 10 = .ok (.getfield 7, 3) := by decide +kernel
theorem dX12_isState_13 : decode cX12_isState 13 = .ok (.iload_n 1, 1) := by decide +kernel
theorem dX12_isState_14 : decode cX12_isState 14 = .ok (.invokestatic 106, 3) := by decide +kernel
theorem dX12_isState_17 : decode cX12_isState 17 = .ok (.ifCond .eq 7, 3) := by decide +kernel
theorem dX12_isState_20 : decode cX12_isState 20 = .ok (.iload_n 1, 1) := by decide +kernel
theorem dX12_isState_21 : decode cX12_isState 21 = .ok (.goto 4, 3) := by decide +kernel
theorem dX12_isState_24 : decode cX12_isState 24 = .ok (.iconst 0, 1) := by decide +kernel
theorem dX12_isState_25 : decode cX12_isState 25 = .ok (.iaload, 1) := by decide +kernel
theorem dX12_isState_26 : decode cX12_isState 26 = .ok (.iconst 1, 1) := by decide +kernel
theorem dX12_isState_27 : decode cX12_isState 27 = .ok (.isub, 1) := by decide +kernel
theorem dX12_isState_28 : decode cX12_isState 28 = .ok (.invokestatic 102, 3) := by decide +kernel
theorem dX12_isState_31 : decode cX12_isState 31 = .ok (.ifCond .eq 7, 3) := by decide +kernel
theorem dX12_isState_34 : decode cX12_isState 34 = .ok (.iconst 1, 1) := by decide +kernel
theorem dX12_isState_35 : decode cX12_isState 35 = .ok (.goto 4, 3) := by decide +kernel
theorem dX12_isState_38 : decode cX12_isState 38 = .ok (.iconst 0, 1) := by decide +kernel
theorem dX12_isState_39 : decode cX12_isState 39 = .ok (.ireturn, 1) := by decide +kernel
theorem dX12_isLetter_0 : decode cX12_isLetter 0 = .ok (.iload_n 0, 1) := by decide +kernel
theorem dX12_isLetter_1 : decode cX12_isLetter 1 = .ok (.iconst 0, 1) := by decide +kernel
theorem dX12_isLetter_2 : decode cX12_isLetter 2 = .ok (.iconst 2, 1) := by decide +kernel
theorem dX12_isLetter_3 : decode cX12_isLetter 3 = .ok (.invokestatic 102, 3) := by decide +kernel
theorem dX12_isLetter_6 : decode cX12_isLetter 6 = .ok (.ireturn, 1) := by decide +kernel
theorem dX12_place_0 : decode cX12_place 0 = .ok (.bipush 18, 2) := by decide +kernel
theorem dX12_place_2 : decode cX12_place 2 = .ok (.iload_n 0, 1) := by decide +kernel
theorem dX12_place_3 : decode cX12_place 3 = .ok (.imul, 1) := by decide +kernel
theorem dX12_place_4 : decode cX12_place 4 = .ok (.iconst 3, 1) := by decide +kernel
theorem dX12_place_5 : decode cX12_place 5 = .ok (.iload_n 1, 1) := by decide +kernel
theorem dX12_place_6 : decode cX12_place 6 = .ok (.imul, 1) := by decide +kernel
theorem dX12_place_7 : decode cX12_place 7 = .ok (.iadd, 1) := by decide +kernel
theorem dX12_place_8 : decode cX12_place 8 = .ok (.iload_n 2, 1) := by decide +kernel
theorem dX12_place_9 : decode cX12_place 9 = .ok (.iadd, 1) := by decide +kernel
theorem dX12_place_10 : decode cX12_place 10 = .ok (.ireturn, 1) := by decide +kernel
theorem dX12_clears_0 : decode cX12_clears 0 = .ok (.aload_n 0, 1) := by decide +kernel
theorem dX12_clears_1 : decode cX12_clears 1 = .ok (.getfield 7, 3) := by decide +kernel
theorem dX12_clears_4 : decode cX12_clears 4 = .ok (.iload_n 1, 1) := by decide +kernel
theorem dX12_clears_5 : decode cX12_clears 5 = .ok (.iload_n 2, 1) := by decide +kernel
theorem dX12_clears_6 : decode cX12_clears 6 = .ok (.iastore, 1) := by decide +kernel
theorem dX12_clears_7 : decode cX12_clears 7 = .ok (.iconst 0, 1) := by decide +kernel
theorem dX12_clears_8 : decode cX12_clears 8 = .ok (.istore_n 3, 1) := by decide +kernel
theorem dX12_clears_9 : decode cX12_clears 9 = .ok (.iload_n 3, 1) := by decide +kernel
theorem dX12_clears_10 : decode cX12_clears 10 = .ok (.bipush 6, 2) := by decide +kernel
theorem dX12_clears_12 : decode cX12_clears 12 = .ok (.if_icmp .ge 49, 3) := by decide +kernel
theorem dX12_clears_15 : decode cX12_clears 15 = .ok (.aload_n 0, 1) := by decide +kernel
theorem dX12_clears_16 : decode cX12_clears 16 = .ok (.getfield 16, 3) := by decide +kernel
theorem dX12_clears_19 : decode cX12_clears 19 = .ok (.bipush 6, 2) := by decide +kernel
theorem dX12_clears_21 : decode cX12_clears 21 = .ok (.iload_n 1, 1) := by decide +kernel
theorem dX12_clears_22 : decode cX12_clears 22 = .ok (.imul, 1) := by decide +kernel
theorem dX12_clears_23 : decode cX12_clears 23 = .ok (.iload_n 3, 1) := by decide +kernel
theorem dX12_clears_24 : decode cX12_clears 24 = .ok (.iadd, 1) := by decide +kernel
theorem dX12_clears_25 : decode cX12_clears 25 = .ok (.iconst 0, 1) := by decide +kernel
theorem dX12_clears_26 : decode cX12_clears 26 = .ok (.bastore, 1) := by decide +kernel
theorem dX12_clears_27 : decode cX12_clears 27 = .ok (.iconst 0, 1) := by decide +kernel
theorem dX12_clears_28 : decode cX12_clears 28 = .ok (.istore 4, 2) := by decide +kernel
theorem dX12_clears_30 : decode cX12_clears 30 = .ok (.iload 4, 2) := by decide +kernel
theorem dX12_clears_32 : decode cX12_clears 32 = .ok (.iconst 3, 1) := by decide +kernel
theorem dX12_clears_33 : decode cX12_clears 33 = .ok (.if_icmp .ge 22, 3) := by decide +kernel
theorem dX12_clears_36 : decode cX12_clears 36 = .ok (.aload_n 0, 1) := by decide +kernel
theorem dX12_clears_37 : decode cX12_clears 37 = .ok (.getfield 13, 3) := by decide +kernel
theorem dX12_clears_40 : decode cX12_clears 40 = .ok (.iload_n 1, 1) := by decide +kernel
theorem dX12_clears_41 : decode cX12_clears 41 = .ok (.iload_n 3, 1) := by decide +kernel
theorem dX12_clears_42 : decode cX12_clears 42 = .ok (.iload 4, 2) := by decide +kernel
theorem dX12_clears_44 : decode cX12_clears 44 = .ok (.invokestatic 110, 3) := by decide +kernel
theorem dX12_clears_47 : decode cX12_clears 47 = .ok (.iconst 0, 1) := by decide +kernel
theorem dX12_clears_48 : decode cX12_clears 48 = .ok (.iastore, 1) := by decide +kernel
theorem dX12_clears_49 : decode cX12_clears 49 = .ok (.iinc 4 1, 3) := by decide +kernel
theorem dX12_clears_52 : decode cX12_clears 52 = .ok (.goto (-22), 3) := by decide +kernel
theorem dX12_clears_55 : decode cX12_clears 55 = .ok (.iinc 3 1, 3) := by decide +kernel
theorem dX12_clears_58 : decode cX12_clears 58 = .ok (.goto (-49), 3) := by decide +kernel
theorem dX12_clears_61 : decode cX12_clears 61 = .ok (.return_, 1) := by decide +kernel
theorem dX12_reset_0 : decode cX12_reset 0 = .ok (.aload_n 0, 1) := by decide +kernel
theorem dX12_reset_1 : decode cX12_reset 1 = .ok (.iload_n 1, 1) := by decide +kernel
theorem dX12_reset_2 : decode cX12_reset 2 = .ok (.invokestatic 106, 3) := by decide +kernel
theorem dX12_reset_5 : decode cX12_reset 5 = .ok (.ifCond .ne 7, 3) := by decide +kernel
theorem dX12_reset_8 : decode cX12_reset 8 = .ok (.iconst 1, 1) := by decide +kernel
theorem dX12_reset_9 : decode cX12_reset 9 = .ok (.goto 18, 3) := by decide +kernel
theorem dX12_reset_12 : decode cX12_reset 12 = .ok (.iload_n 2, 1) := by decide +kernel
theorem dX12_reset_13 : decode cX12_reset 13 = .ok (.iconst 1, 1) := by decide +kernel
theorem dX12_reset_14 : decode cX12_reset 14 = .ok (.bipush 6, 2) := by decide +kernel
theorem dX12_reset_16 : decode cX12_reset 16 = .ok (.invokestatic 102, 3) := by decide +kernel
theorem dX12_reset_19 : decode cX12_reset 19 = .ok (.ifCond .ne 7, 3) := by decide +kernel
theorem dX12_reset_22 : decode cX12_reset 22 = .ok (.iconst 2, 1) := by decide +kernel
theorem dX12_reset_23 : decode cX12_reset 23 = .ok (.goto 4, 3) := by decide +kernel
theorem dX12_reset_26 : decode cX12_reset 26 = .ok (.iconst 0, 1) := by decide +kernel
theorem dX12_reset_27 : decode cX12_reset 27 = .ok (.putfield 98, 3) := by decide +kernel
theorem dX12_reset_30 : decode cX12_reset 30 = .ok (.aload_n 0, 1) := by decide +kernel
theorem dX12_reset_31 : decode cX12_reset 31 = .ok (.getfield 98, 3) := by decide +kernel
theorem dX12_reset_34 : decode cX12_reset 34 = .ok (.ifCond .ne 9, 3) := by decide +kernel
theorem dX12_reset_37 : decode cX12_reset 37 = .ok (.aload_n 0, 1) := by decide +kernel
theorem dX12_reset_38 : decode cX12_reset 38 = .ok (.iload_n 1, 1) := by decide +kernel
theorem dX12_reset_39 : decode cX12_reset 39 = .ok (.iload_n 2, 1) := by decide +kernel
theorem dX12_reset_40 : decode cX12_reset 40 = .ok (.invokevirtual 114, 3) := by decide +kernel
theorem dX12_reset_43 : decode cX12_reset 43 = .ok (.return_, 1) := by decide +kernel
theorem dX12_setTarget_0 : decode cX12_setTarget 0 = .ok (.aload_n 0, 1) := by decide +kernel
theorem dX12_setTarget_1 : decode cX12_setTarget 1 = .ok (.aload_n 0, 1) := by decide +kernel
theorem dX12_setTarget_2 : decode cX12_setTarget 2 = .ok (.iload_n 1, 1) := by decide +kernel
theorem dX12_setTarget_3 : decode cX12_setTarget 3 = .ok (.iload_n 2, 1) := by decide +kernel
theorem dX12_setTarget_4 : decode cX12_setTarget 4 = .ok (.invokevirtual 118, 3) := by decide +kernel
theorem dX12_setTarget_7 : decode cX12_setTarget 7 = .ok (.ifCond .eq 24, 3) := by decide +kernel
theorem dX12_setTarget_10 : decode cX12_setTarget 10 = .ok (.iload_n 3, 1) := by decide +kernel
theorem dX12_setTarget_11 : decode cX12_setTarget 11 = .ok (.invokestatic 122, 3) := by decide +kernel
theorem dX12_setTarget_14 : decode cX12_setTarget 14 = .ok (.ifCond .eq 17, 3) := by decide +kernel
theorem dX12_setTarget_17 : decode cX12_setTarget 17 = .ok (.aload_n 0, 1) := by decide +kernel
theorem dX12_setTarget_18 : decode cX12_setTarget 18 = .ok (.iload_n 1, 1) := by decide +kernel
theorem dX12_setTarget_19 : decode cX12_setTarget 19 = .ok (.iload 4, 2) := by decide +kernel
theorem dX12_setTarget_21 : decode cX12_setTarget 21 = .ok (.invokevirtual 118, 3) := by decide +kernel
theorem dX12_setTarget_24 : decode cX12_setTarget 24 = .ok (.ifCond .eq 7, 3) := by decide +kernel
theorem dX12_setTarget_27 : decode cX12_setTarget 27 = .ok (.iconst 0, 1) := by decide +kernel
theorem dX12_setTarget_28 : decode cX12_setTarget 28 = .ok (.goto 4, 3) := by decide +kernel
theorem dX12_setTarget_31 : decode cX12_setTarget 31 = .ok (.iconst 1, 1) := by decide +kernel
theorem dX12_setTarget_32 : decode cX12_setTarget 32 = .ok (.putfield 98, 3) := by decide +kernel
theorem dX12_setTarget_35 : decode cX12_setTarget 35 = .ok (.aload_n 0, 1) := by decide +kernel
theorem dX12_setTarget_36 : decode cX12_setTarget 36 = .ok (.getfield 98, 3) := by decide +kernel
theorem dX12_setTarget_39 : decode cX12_setTarget 39 = .ok (.ifCond .ne 16, 3) := by decide +kernel
theorem dX12_setTarget_42 : decode cX12_setTarget 42 = .ok (.aload_n 0, 1) := by decide +kernel
theorem dX12_setTarget_43 : decode cX12_setTarget 43 = .ok (.getfield 13, 3) := by decide +kernel
theorem dX12_setTarget_46 : decode cX12_setTarget 46 = .ok (.iload_n 1, 1) := by decide +kernel
theorem dX12_setTarget_47 : decode cX12_setTarget 47 = .ok (.iload_n 2, 1) := by decide +kernel
theorem dX12_setTarget_48 : decode cX12_setTarget 48 = .ok (.iload_n 3, 1) := by decide +kernel
theorem dX12_setTarget_49 : decode cX12_setTarget 49 = .ok (.invokestatic 110, 3) := by decide +kernel
theorem dX12_setTarget_52 : decode cX12_setTarget 52 = .ok (.iload 4, 2) := by decide +kernel
theorem dX12_setTarget_54 : decode cX12_setTarget 54 = .ok (.iastore, 1) := by decide +kernel
theorem dX12_setTarget_55 : decode cX12_setTarget 55 = .ok (.return_, 1) := by decide +kernel
theorem dX12_setFinal_0 : decode cX12_setFinal 0 = .ok (.aload_n 0, 1) := by decide +kernel
theorem dX12_setFinal_1 : decode cX12_setFinal 1 = .ok (.iload_n 1, 1) := by decide +kernel
theorem dX12_setFinal_2 : decode cX12_setFinal 2 = .ok (.iload_n 2, 1) := by decide +kernel
theorem dX12_setFinal_3 : decode cX12_setFinal 3 = .ok (.invokevirtual 118, 3) := by decide +kernel
theorem dX12_setFinal_6 : decode cX12_setFinal 6 = .ok (.ifCond .ne 9, 3) := by decide +kernel
theorem dX12_setFinal_9 : decode cX12_setFinal 9 = .ok (.aload_n 0, 1) := by decide +kernel
theorem dX12_setFinal_10 : decode cX12_setFinal 10 = .ok (.iconst 1, 1) := by decide +kernel
theorem dX12_setFinal_11 : decode cX12_setFinal 11 = .ok (.invokevirtual 125, 3) := by decide +kernel
theorem dX12_setFinal_14 : decode cX12_setFinal 14 = .ok (.ireturn, 1) := by decide +kernel
theorem dX12_setFinal_15 : decode cX12_setFinal 15 = .ok (.aload_n 0, 1) := by decide +kernel
theorem dX12_setFinal_16 : decode cX12_setFinal 16 = .ok (.getfield 16, 3) := by decide +kernel
theorem dX12_setFinal_19 : decode cX12_setFinal 19 = .ok (.bipush 6, 2) := by decide +kernel
theorem dX12_setFinal_21 : decode cX12_setFinal 21 = .ok (.iload_n 1, 1) := by decide +kernel
theorem dX12_setFinal_22 : decode cX12_setFinal 22 = .ok (.imul, 1) := by decide +kernel
theorem dX12_setFinal_23 : decode cX12_setFinal 23 = .ok (.iload_n 2, 1) := by decide +kernel
theorem dX12_setFinal_24 : decode cX12_setFinal 24 = .ok (.iadd, 1) := by decide +kernel
theorem dX12_setFinal_25 : decode cX12_setFinal 25 = .ok (.baload, 1) := by decide +kernel
theorem dX12_setFinal_26 : decode cX12_setFinal 26 = .ok (.istore 4, 2) := by decide +kernel
theorem dX12_setFinal_28 : decode cX12_setFinal 28 = .ok (.aload_n 0, 1) := by decide +kernel
theorem dX12_setFinal_29 : decode cX12_setFinal 29 = .ok (.getfield 16, 3) := by decide +kernel
theorem dX12_setFinal_32 : decode cX12_setFinal 32 = .ok (.bipush 6, 2) := by decide +kernel
theorem dX12_setFinal_34 : decode cX12_setFinal 34 = .ok (.iload_n 1, 1) := by decide +kernel
theorem dX12_setFinal_35 : decode cX12_setFinal 35 = .ok (.imul, 1) := by decide +kernel
theorem dX12_setFinal_36 : decode cX12_setFinal 36 = .ok (.iload_n 2, 1) := by decide +kernel
theorem dX12_setFinal_37 : decode cX12_setFinal 37 = .ok (.iadd, 1) := by decide +kernel
theorem dX12_setFinal_38 : decode cX12_setFinal 38 = .ok (.iload_n 3, 1) := by decide +kernel
theorem dX12_setFinal_39 : decode cX12_setFinal 39 = .ok (.bastore, 1) := by decide +kernel
theorem dX12_setFinal_40 : decode cX12_setFinal 40 = .ok (.aload_n 0, 1) := by decide +kernel
theorem dX12_setFinal_41 : decode cX12_setFinal 41 = .ok (.iload 4, 2) := by decide +kernel
theorem dX12_setFinal_43 : decode cX12_setFinal 43 = .ok (.invokevirtual 128, 3) := by decide +kernel
theorem dX12_setFinal_46 : decode cX12_setFinal 46 = .ok (.ireturn, 1) := by decide +kernel
theorem dX12_stateCount_0 : decode cX12_stateCount 0 = .ok (.iload_n 1, 1) := by decide +kernel
theorem dX12_stateCount_1 : decode cX12_stateCount 1 = .ok (.invokestatic 106, 3) := by decide +kernel
theorem dX12_stateCount_4 : decode cX12_stateCount 4 = .ok (.ifCond .eq 16, 3) := by decide +kernel
theorem dX12_stateCount_7 : decode cX12_stateCount 7 = .ok (.aload_n 0, 1) := by decide +kernel
theorem dX12_stateCount_8 : decode cX12_stateCount 8 = .ok (.aload_n 0, 1) := by decide +kernel
theorem dX12_stateCount_9 : decode cX12_stateCount 9 = .ok (.getfield 7, 3) := by decide +kernel
theorem dX12_stateCount_12 : decode cX12_stateCount 12 = .ok (.iload_n 1, 1) := by decide +kernel
theorem dX12_stateCount_13 : decode cX12_stateCount 13 = .ok (.iaload, 1) := by decide +kernel
theorem dX12_stateCount_14 : decode cX12_stateCount 14 = .ok (.invokevirtual 132, 3) := by decide +kernel
theorem dX12_stateCount_17 : decode cX12_stateCount 17 = .ok (.goto 8, 3) := by decide +kernel
theorem dX12_stateCount_20 : decode cX12_stateCount 20 = .ok (.aload_n 0, 1) := by decide +kernel
theorem dX12_stateCount_21 : decode cX12_stateCount 21 = .ok (.iconst 1, 1) := by decide +kernel
theorem dX12_stateCount_22 : decode cX12_stateCount 22 = .ok (.invokevirtual 136, 3) := by decide +kernel
theorem dX12_stateCount_25 : decode cX12_stateCount 25 = .ok (.ireturn, 1) := by decide +kernel
theorem dX12_target_0 : decode cX12_target 0 = .ok (.aload_n 0, 1) := by decide +kernel
theorem dX12_target_1 : decode cX12_target 1 = .ok (.iload_n 1, 1) := by decide +kernel
theorem dX12_target_2 : decode cX12_target 2 = .ok (.iload_n 2, 1) := by decide +kernel
theorem dX12_target_3 : decode cX12_target 3 = .ok (.invokevirtual 118, 3) := by decide +kernel
theorem dX12_target_6 : decode cX12_target 6 = .ok (.ifCond .eq 28, 3) := by decide +kernel
theorem dX12_target_9 : decode cX12_target 9 = .ok (.iload_n 3, 1) := by decide +kernel
theorem dX12_target_10 : decode cX12_target 10 = .ok (.invokestatic 122, 3) := by decide +kernel
theorem dX12_target_13 : decode cX12_target 13 = .ok (.ifCond .eq 21, 3) := by decide +kernel
theorem dX12_target_16 : decode cX12_target 16 = .ok (.aload_n 0, 1) := by decide +kernel
theorem dX12_target_17 : decode cX12_target 17 = .ok (.aload_n 0, 1) := by decide +kernel
theorem dX12_target_18 : decode cX12_target 18 = .ok (.getfield 13, 3) := by decide +kernel
theorem dX12_target_21 : decode cX12_target 21 = .ok (.iload_n 1, 1) := by decide +kernel
theorem dX12_target_22 : decode cX12_target 22 = .ok (.iload_n 2, 1) := by decide +kernel
theorem dX12_target_23 : decode cX12_target 23 = .ok (.iload_n 3, 1) := by decide +kernel
theorem dX12_target_24 : decode cX12_target 24 = .ok (.invokestatic 110, 3) := by decide +kernel
theorem dX12_target_27 : decode cX12_target 27 = .ok (.iaload, 1) := by decide +kernel
theorem dX12_target_28 : decode cX12_target 28 = .ok (.invokevirtual 132, 3) := by decide +kernel
theorem dX12_target_31 : decode cX12_target 31 = .ok (.goto 8, 3) := by decide +kernel
theorem dX12_target_34 : decode cX12_target 34 = .ok (.aload_n 0, 1) := by decide +kernel
theorem dX12_target_35 : decode cX12_target 35 = .ok (.iconst 1, 1) := by decide +kernel
theorem dX12_target_36 : decode cX12_target 36 = .ok (.invokevirtual 136, 3) := by decide +kernel
theorem dX12_target_39 : decode cX12_target 39 = .ok (.ireturn, 1) := by decide +kernel
theorem dX12_isFinal_0 : decode cX12_isFinal 0 = .ok (.aload_n 0, 1) := by decide +kernel
theorem dX12_isFinal_1 : decode cX12_isFinal 1 = .ok (.iload_n 1, 1) := by decide +kernel
theorem dX12_isFinal_2 : decode cX12_isFinal 2 = .ok (.iload_n 2, 1) := by decide +kernel
theorem dX12_isFinal_3 : decode cX12_isFinal 3 = .ok (.invokevirtual 118, 3) := by decide +kernel
theorem dX12_isFinal_6 : decode cX12_isFinal 6 = .ok (.ifCond .eq 21, 3) := by decide +kernel
theorem dX12_isFinal_9 : decode cX12_isFinal 9 = .ok (.aload_n 0, 1) := by decide +kernel
theorem dX12_isFinal_10 : decode cX12_isFinal 10 = .ok (.aload_n 0, 1) := by decide +kernel
theorem dX12_isFinal_11 : decode cX12_isFinal 11 = .ok (.getfield 16, 3) := by decide +kernel
theorem dX12_isFinal_14 : decode cX12_isFinal 14 = .ok (.bipush 6, 2) := by decide +kernel
theorem dX12_isFinal_16 : decode cX12_isFinal 16 = .ok (.iload_n 1, 1) := by decide +kernel
theorem dX12_isFinal_17 : decode cX12_isFinal 17 = .ok (.imul, 1) := by decide +kernel
theorem dX12_isFinal_18 : decode cX12_isFinal 18 = .ok (.iload_n 2, 1) := by decide +kernel
theorem dX12_isFinal_19 : decode cX12_isFinal 19 = .ok (.iadd, 1) := by decide +kernel
theorem dX12_isFinal_20 : decode cX12_isFinal 20 = .ok (.baload, 1) := by decide +kernel
theorem dX12_isFinal_21 : decode cX12_isFinal 21 = .ok (.invokevirtual 128, 3) := by decide +kernel
theorem dX12_isFinal_24 : decode cX12_isFinal 24 = .ok (.goto 8, 3) := by decide +kernel
theorem dX12_isFinal_27 : decode cX12_isFinal 27 = .ok (.aload_n 0, 1) := by decide +kernel
theorem dX12_isFinal_28 : decode cX12_isFinal 28 = .ok (.iconst 1, 1) := by decide +kernel
theorem dX12_isFinal_29 : decode cX12_isFinal 29 = .ok (.invokevirtual 125, 3) := by decide +kernel
theorem dX12_isFinal_32 : decode cX12_isFinal 32 = .ok (.ireturn, 1) := by decide +kernel
theorem dX12_draw_0 : decode cX12_draw 0 = .ok (.aload_n 0, 1) := by decide +kernel
theorem dX12_draw_1 : decode cX12_draw 1 = .ok (.aload_n 0, 1) := by decide +kernel
theorem dX12_draw_2 : decode cX12_draw 2 = .ok (.getfield 139, 3) := by decide +kernel
theorem dX12_draw_5 : decode cX12_draw 5 = .ok (.ldc 142, 2) := by decide +kernel
theorem dX12_draw_7 : decode cX12_draw 7 = .ok (.imul, 1) := by decide +kernel
theorem dX12_draw_8 : decode cX12_draw 8 = .ok (.sipush 12345, 3) := by decide +kernel
theorem dX12_draw_11 : decode cX12_draw 11 = .ok (.iadd, 1) := by decide +kernel
theorem dX12_draw_12 : decode cX12_draw 12 = .ok (.putfield 139, 3) := by decide +kernel
theorem dX12_draw_15 : decode cX12_draw 15 = .ok (.aload_n 0, 1) := by decide +kernel
theorem dX12_draw_16 : decode cX12_draw 16 = .ok (.getfield 139, 3) := by decide +kernel
theorem dX12_draw_19 : decode cX12_draw 19 = .ok (.bipush 16, 2) := by decide +kernel
theorem dX12_draw_21 : decode cX12_draw 21 = .ok (.iushr, 1) := by decide +kernel
theorem dX12_draw_22 : decode cX12_draw 22 = .ok (.iload_n 1, 1) := by decide +kernel
theorem dX12_draw_23 : decode cX12_draw 23 = .ok (.irem, 1) := by decide +kernel
theorem dX12_draw_24 : decode cX12_draw 24 = .ok (.ireturn, 1) := by decide +kernel
theorem dX12_randomize_0 : decode cX12_randomize 0 = .ok (.aload_n 0, 1) := by decide +kernel
theorem dX12_randomize_1 : decode cX12_randomize 1 = .ok (.iload_n 1, 1) := by decide +kernel
theorem dX12_randomize_2 : decode cX12_randomize 2 = .ok (.invokestatic 106, 3) := by decide +kernel
theorem dX12_randomize_5 : decode cX12_randomize 5 = .ok (.ifCond .eq 7, 3) := by decide +kernel
theorem dX12_randomize_8 : decode cX12_randomize 8 = .ok (.iconst 0, 1) := by decide +kernel
theorem dX12_randomize_9 : decode cX12_randomize 9 = .ok (.goto 4, 3) := by decide +kernel
theorem dX12_randomize_12 : decode cX12_randomize 12 = .ok (.iconst 1, 1) := by decide +kernel
theorem dX12_randomize_13 : decode cX12_randomize 13 = .ok (.putfield 98, 3) := by decide +kernel
theorem dX12_randomize_16 : decode cX12_randomize 16 = .ok (.aload_n 0, 1) := by decide +kernel
theorem dX12_randomize_17 : decode cX12_randomize 17 = .ok (.getfield 98, 3) := by decide +kernel
theorem dX12_randomize_20 : decode cX12_randomize 20 = .ok (.ifCond .eq 4, 3) := by decide +kernel
theorem dX12_randomize_23 : decode cX12_randomize 23 = .ok (.return_, 1) := by decide +kernel
theorem dX12_randomize_24 : decode cX12_randomize 24 = .ok (.aload_n 0, 1) := by decide +kernel
theorem dX12_randomize_25 : decode cX12_randomize 25 = .ok (.iload_n 2, 1) := by decide +kernel
theorem dX12_randomize_26 : decode cX12_randomize 26 = .ok (.putfield 139, 3) := by decide +kernel
theorem dX12_randomize_29 : decode cX12_randomize 29 = .ok (.iconst 0, 1) := by decide +kernel
theorem dX12_randomize_30 : decode cX12_randomize 30 = .ok (.istore_n 3, 1) := by decide +kernel
theorem dX12_randomize_31 : decode cX12_randomize 31 = .ok (.iload_n 3, 1) := by decide +kernel
theorem dX12_randomize_32 : decode cX12_randomize 32 = .ok (.aload_n 0, 1) := by decide +kernel
theorem dX12_randomize_33 : decode cX12_randomize 33 = .ok (.getfield 7, 3) := by decide +kernel
theorem dX12_randomize_36 : decode cX12_randomize 36 = .ok (.iload_n 1, 1) := by decide +kernel
theorem dX12_randomize_37 : decode cX12_randomize 37 = .ok (.iaload, 1) := by decide +kernel
theorem dX12_randomize_38 : decode cX12_randomize 38 = .ok (.if_icmp .ge 46, 3) := by decide +kernel
theorem dX12_randomize_41 : decode cX12_randomize 41 = .ok (.iconst 0, 1) := by decide +kernel
theorem dX12_randomize_42 : decode cX12_randomize 42 = .ok (.istore 4, 2) := by decide +kernel
theorem dX12_randomize_44 : decode cX12_randomize 44 = .ok (.iload 4, 2) := by decide +kernel
theorem dX12_randomize_46 : decode cX12_randomize 46 = .ok (.iconst 3, 1) := by decide +kernel
theorem dX12_randomize_47 : decode cX12_randomize 47 = .ok (.if_icmp .ge 31, 3) := by decide +kernel
theorem dX12_randomize_50 : decode cX12_randomize 50 = .ok (.aload_n 0, 1) := by decide +kernel
theorem dX12_randomize_51 : decode cX12_randomize 51 = .ok (.getfield 13, 3) := by decide +kernel
theorem dX12_randomize_54 : decode cX12_randomize 54 = .ok (.iload_n 1, 1) := by decide +kernel
theorem dX12_randomize_55 : decode cX12_randomize 55 = .ok (.iload_n 3, 1) := by decide +kernel
theorem dX12_randomize_56 : decode cX12_randomize 56 = .ok (.iload 4, 2) := by decide +kernel
theorem dX12_randomize_58 : decode cX12_randomize 58 = .ok (.invokestatic 110, 3) := by decide +kernel
theorem dX12_randomize_61 : decode cX12_randomize 61 = .ok (.aload_n 0, 1) := by decide +kernel
theorem dX12_randomize_62 : decode cX12_randomize 62 = .ok (.aload_n 0, 1) := by decide +kernel
theorem dX12_randomize_63 : decode cX12_randomize 63 = .ok (.getfield 7, 3) := by decide +kernel
theorem dX12_randomize_66 : decode cX12_randomize 66 = .ok (.iload_n 1, 1) := by decide +kernel
theorem dX12_randomize_67 : decode cX12_randomize 67 = .ok (.iaload, 1) := by decide +kernel
theorem dX12_randomize_68 : decode cX12_randomize 68 = .ok (.invokevirtual 143, 3) := by decide +kernel
theorem dX12_randomize_71 : decode cX12_randomize 71 = .ok (.iastore, 1) := by decide +kernel
theorem dX12_randomize_72 : decode cX12_randomize 72 = .ok (.iinc 4 1, 3) := by decide +kernel
theorem dX12_randomize_75 : decode cX12_randomize 75 = .ok (.goto (-31), 3) := by decide +kernel
theorem dX12_randomize_78 : decode cX12_randomize 78 = .ok (.iinc 3 1, 3) := by decide +kernel
theorem dX12_randomize_81 : decode cX12_randomize 81 = .ok (.goto (-50), 3) := by decide +kernel
theorem dX12_randomize_84 : decode cX12_randomize 84 = .ok (.iconst 0, 1) := by decide +kernel
theorem dX12_randomize_85 : decode cX12_randomize 85 = .ok (.istore_n 3, 1) := by decide +kernel
theorem dX12_randomize_86 : decode cX12_randomize 86 = .ok (.iload_n 3, 1) := by decide +kernel
theorem dX12_randomize_87 : decode cX12_randomize 87 = .ok (.aload_n 0, 1) := by decide +kernel
theorem dX12_randomize_88 : decode cX12_randomize 88 = .ok (.getfield 7, 3) := by decide +kernel
theorem dX12_randomize_91 : decode cX12_randomize 91 = .ok (.iload_n 1, 1) := by decide +kernel
theorem dX12_randomize_92 : decode cX12_randomize 92 = .ok (.iaload, 1) := by decide +kernel
theorem dX12_randomize_93 : decode cX12_randomize 93 = .ok (.if_icmp .ge 34, 3) := by decide +kernel
theorem dX12_randomize_96 : decode cX12_randomize 96 = .ok (.aload_n 0, 1) := by decide +kernel
theorem dX12_randomize_97 : decode cX12_randomize 97 = .ok (.getfield 16, 3) := by decide +kernel
theorem dX12_randomize_100 : decode cX12_randomize 100 = .ok (.bipush 6, 2) := by decide +kernel
theorem dX12_randomize_102 : decode cX12_randomize 102 = .ok (.iload_n 1, 1) := by decide +kernel
theorem dX12_randomize_103 : decode cX12_randomize 103 = .ok (.imul, 1) := by decide +kernel
theorem dX12_randomize_104 : decode cX12_randomize 104 = .ok (.iload_n 3, 1) := by decide +kernel
theorem dX12_randomize_105 : decode cX12_randomize 105 = .ok (.iadd, 1) := by decide +kernel
theorem dX12_randomize_106 : decode cX12_randomize 106 = .ok (.aload_n 0, 1) := by decide +kernel
theorem dX12_randomize_107 : decode cX12_randomize 107 = .ok (.iconst 2, 1) := by decide +kernel
theorem dX12_randomize_108 : decode cX12_randomize 108 = .ok (.invokevirtual 143, 3) := by decide +kernel
theorem dX12_randomize_111 : decode cX12_randomize 111 = .ok (.iconst 1, 1) := by decide +kernel
theorem dX12_randomize_112 : decode cX12_randomize 112 = .ok (.if_icmp .ne 7, 3) := by decide +kernel
theorem dX12_randomize_115 : decode cX12_randomize 115 = .ok (.iconst 1, 1) := by decide +kernel
theorem dX12_randomize_116 : decode cX12_randomize 116 = .ok (.goto 4, 3) := by decide +kernel
theorem dX12_randomize_119 : decode cX12_randomize 119 = .ok (.iconst 0, 1) := by decide +kernel
theorem dX12_randomize_120 : decode cX12_randomize 120 = .ok (.bastore, 1) := by decide +kernel
theorem dX12_randomize_121 : decode cX12_randomize 121 = .ok (.iinc 3 1, 3) := by decide +kernel
theorem dX12_randomize_124 : decode cX12_randomize 124 = .ok (.goto (-38), 3) := by decide +kernel
theorem dX12_randomize_127 : decode cX12_randomize 127 = .ok (.return_, 1) := by decide +kernel
theorem dX12_makeWitness_0 : decode cX12_makeWitness 0 = .ok (.aload_n 0, 1) := by decide +kernel
theorem dX12_makeWitness_1 : decode cX12_makeWitness 1 = .ok (.iload_n 1, 1) := by decide +kernel
theorem dX12_makeWitness_2 : decode cX12_makeWitness 2 = .ok (.invokestatic 106, 3) := by decide +kernel
theorem dX12_makeWitness_5 : decode cX12_makeWitness 5 = .ok (.ifCond .ne 7, 3) := by decide +kernel
theorem dX12_makeWitness_8 : decode cX12_makeWitness 8 = .ok (.iconst 1, 1) := by decide +kernel
theorem dX12_makeWitness_9 : decode cX12_makeWitness 9 = .ok (.goto 18, 3) := by decide +kernel
theorem dX12_makeWitness_12 : decode cX12_makeWitness 12 = .ok (.iload_n 2, 1) := by decide +kernel
theorem dX12_makeWitness_13 : decode cX12_makeWitness 13 = .ok (.iconst 1, 1) := by decide +kernel
theorem dX12_makeWitness_14 : decode cX12_makeWitness 14 = .ok (.bipush 6, 2) := by decide +kernel
theorem dX12_makeWitness_16 : decode cX12_makeWitness 16 = .ok (.invokestatic 102, 3) := by decide +kernel
theorem dX12_makeWitness_19 : decode cX12_makeWitness 19 = .ok (.ifCond .ne 7, 3) := by decide +kernel
theorem dX12_makeWitness_22 : decode cX12_makeWitness 22 = .ok (.iconst 2, 1) := by decide +kernel
theorem dX12_makeWitness_23 : decode cX12_makeWitness 23 = .ok (.goto 4, 3) := by decide +kernel
theorem dX12_makeWitness_26 : decode cX12_makeWitness 26 = .ok (.iconst 0, 1) := by decide +kernel
theorem dX12_makeWitness_27 : decode cX12_makeWitness 27 = .ok (.putfield 98, 3) := by decide +kernel
theorem dX12_makeWitness_30 : decode cX12_makeWitness 30 = .ok (.aload_n 0, 1) := by decide +kernel
theorem dX12_makeWitness_31 : decode cX12_makeWitness 31 = .ok (.getfield 98, 3) := by decide +kernel
theorem dX12_makeWitness_34 : decode cX12_makeWitness 34 = .ok (.ifCond .eq 4, 3) := by decide +kernel
theorem dX12_makeWitness_37 : decode cX12_makeWitness 37 = .ok (.return_, 1) := by decide +kernel
theorem dX12_makeWitness_38 : decode cX12_makeWitness 38 = .ok (.aload_n 0, 1) := by decide +kernel
theorem dX12_makeWitness_39 : decode cX12_makeWitness 39 = .ok (.iload_n 1, 1) := by decide +kernel
theorem dX12_makeWitness_40 : decode cX12_makeWitness 40 = .ok (.iload_n 2, 1) := by decide +kernel
theorem dX12_makeWitness_41 : decode cX12_makeWitness 41 = .ok (.invokevirtual 114, 3) := by decide +kernel
theorem dX12_makeWitness_44 : decode cX12_makeWitness 44 = .ok (.iconst 0, 1) := by decide +kernel
theorem dX12_makeWitness_45 : decode cX12_makeWitness 45 = .ok (.istore_n 3, 1) := by decide +kernel
theorem dX12_makeWitness_46 : decode cX12_makeWitness 46 = .ok (.iload_n 3, 1) := by decide +kernel
theorem dX12_makeWitness_47 : decode cX12_makeWitness 47 = .ok (.iload_n 2, 1) := by decide +kernel
theorem dX12_makeWitness_48 : decode cX12_makeWitness 48 = .ok (.if_icmp .ge 85, 3) := by decide +kernel
theorem dX12_makeWitness_51 : decode cX12_makeWitness 51 = .ok (.aload_n 0, 1) := by decide +kernel
theorem dX12_makeWitness_52 : decode cX12_makeWitness 52 = .ok (.getfield 13, 3) := by decide +kernel
theorem dX12_makeWitness_55 : decode cX12_makeWitness 55 = .ok (.iload_n 1, 1) := by decide +kernel
theorem dX12_makeWitness_56 : decode cX12_makeWitness 56 = .ok (.iload_n 3, 1) := by decide +kernel
theorem dX12_makeWitness_57 : decode cX12_makeWitness 57 = .ok (.iconst 0, 1) := by decide +kernel
theorem dX12_makeWitness_58 : decode cX12_makeWitness 58 = .ok (.invokestatic 110, 3) := by decide +kernel
theorem dX12_makeWitness_61 : decode cX12_makeWitness 61 = .ok (.iload_n 3, 1) := by decide +kernel
theorem dX12_makeWitness_62 : decode cX12_makeWitness 62 = .ok (.iload_n 2, 1) := by decide +kernel
theorem dX12_makeWitness_63 : decode cX12_makeWitness 63 = .ok (.iconst 1, 1) := by decide +kernel
theorem dX12_makeWitness_64 : decode cX12_makeWitness 64 = .ok (.isub, 1) := by decide +kernel
theorem dX12_makeWitness_65 : decode cX12_makeWitness 65 = .ok (.if_icmp .ne 7, 3) := by decide +kernel
theorem dX12_makeWitness_68 : decode cX12_makeWitness 68 = .ok (.iconst 0, 1) := by decide +kernel
theorem dX12_makeWitness_69 : decode cX12_makeWitness 69 = .ok (.goto 6, 3) := by decide +kernel
theorem dX12_makeWitness_72 : decode cX12_makeWitness 72 = .ok (.iload_n 3, 1) := by decide +kernel
theorem dX12_makeWitness_73 : decode cX12_makeWitness 73 = .ok (.iconst 1, 1) := by decide +kernel
theorem dX12_makeWitness_74 : decode cX12_makeWitness 74 = .ok (.iadd, 1) := by decide +kernel
theorem dX12_makeWitness_75 : decode cX12_makeWitness 75 = .ok (.iastore, 1) := by decide +kernel
theorem dX12_makeWitness_76 : decode cX12_makeWitness 76 = .ok (.aload_n 0, 1) := by decide +kernel
theorem dX12_makeWitness_77 : decode cX12_makeWitness 77 = .ok (.getfield 13, 3) := by decide +kernel
theorem dX12_makeWitness_80 : decode cX12_makeWitness 80 = .ok (.iload_n 1, 1) := by decide +kernel
theorem dX12_makeWitness_81 : decode cX12_makeWitness 81 = .ok (.iload_n 3, 1) := by decide +kernel
theorem dX12_makeWitness_82 : decode cX12_makeWitness 82 = .ok (.iconst 1, 1) := by decide +kernel
theorem dX12_makeWitness_83 : decode cX12_makeWitness 83 = .ok (.invokestatic 110, 3) := by decide +kernel
theorem dX12_makeWitness_86 : decode cX12_makeWitness 86 = .ok (.iload_n 2, 1) := by decide +kernel
theorem dX12_makeWitness_87 : decode cX12_makeWitness 87 = .ok (.iconst 1, 1) := by decide +kernel
theorem dX12_makeWitness_88 : decode cX12_makeWitness 88 = .ok (.if_icmp .le 14, 3) := by decide +kernel
theorem dX12_makeWitness_91 : decode cX12_makeWitness 91 = .ok (.iload_n 3, 1) := by decide +kernel
theorem dX12_makeWitness_92 : decode cX12_makeWitness 92 = .ok (.iconst 2, 1) := by decide +kernel
theorem dX12_makeWitness_93 : decode cX12_makeWitness 93 = .ok (.if_icmp .ge 9, 3) := by decide +kernel
theorem dX12_makeWitness_96 : decode cX12_makeWitness 96 = .ok (.iconst 1, 1) := by decide +kernel
theorem dX12_makeWitness_97 : decode cX12_makeWitness 97 = .ok (.iload_n 3, 1) := by decide +kernel
theorem dX12_makeWitness_98 : decode cX12_makeWitness 98 = .ok (.isub, 1) := by decide +kernel
theorem dX12_makeWitness_99 : decode cX12_makeWitness 99 = .ok (.goto 4, 3) := by decide +kernel
theorem dX12_makeWitness_102 : decode cX12_makeWitness 102 = .ok (.iload_n 3, 1) := by decide +kernel
theorem dX12_makeWitness_103 : decode cX12_makeWitness 103 = .ok (.iastore, 1) := by decide +kernel
theorem dX12_makeWitness_104 : decode cX12_makeWitness 104 = .ok (.aload_n 0, 1) := by decide +kernel
theorem dX12_makeWitness_105 : decode cX12_makeWitness 105 = .ok (.getfield 13, 3) := by decide +kernel
theorem dX12_makeWitness_108 : decode cX12_makeWitness 108 = .ok (.iload_n 1, 1) := by decide +kernel
theorem dX12_makeWitness_109 : decode cX12_makeWitness 109 = .ok (.iload_n 3, 1) := by decide +kernel
theorem dX12_makeWitness_110 : decode cX12_makeWitness 110 = .ok (.iconst 2, 1) := by decide +kernel
theorem dX12_makeWitness_111 : decode cX12_makeWitness 111 = .ok (.invokestatic 110, 3) := by decide +kernel
theorem dX12_makeWitness_114 : decode cX12_makeWitness 114 = .ok (.iload_n 3, 1) := by decide +kernel
theorem dX12_makeWitness_115 : decode cX12_makeWitness 115 = .ok (.iload_n 2, 1) := by decide +kernel
theorem dX12_makeWitness_116 : decode cX12_makeWitness 116 = .ok (.iconst 1, 1) := by decide +kernel
theorem dX12_makeWitness_117 : decode cX12_makeWitness 117 = .ok (.isub, 1) := by decide +kernel
theorem dX12_makeWitness_118 : decode cX12_makeWitness 118 = .ok (.if_icmp .ne 7, 3) := by decide +kernel
theorem dX12_makeWitness_121 : decode cX12_makeWitness 121 = .ok (.iconst 0, 1) := by decide +kernel
theorem dX12_makeWitness_122 : decode cX12_makeWitness 122 = .ok (.goto 4, 3) := by decide +kernel
theorem dX12_makeWitness_125 : decode cX12_makeWitness 125 = .ok (.iload_n 3, 1) := by decide +kernel
theorem dX12_makeWitness_126 : decode cX12_makeWitness 126 = .ok (.iastore, 1) := by decide +kernel
theorem dX12_makeWitness_127 : decode cX12_makeWitness 127 = .ok (.iinc 3 1, 3) := by decide +kernel
theorem dX12_makeWitness_130 : decode cX12_makeWitness 130 = .ok (.goto (-84), 3) := by decide +kernel
theorem dX12_makeWitness_133 : decode cX12_makeWitness 133 = .ok (.aload_n 0, 1) := by decide +kernel
theorem dX12_makeWitness_134 : decode cX12_makeWitness 134 = .ok (.getfield 16, 3) := by decide +kernel
theorem dX12_makeWitness_137 : decode cX12_makeWitness 137 = .ok (.bipush 6, 2) := by decide +kernel
theorem dX12_makeWitness_139 : decode cX12_makeWitness 139 = .ok (.iload_n 1, 1) := by decide +kernel
theorem dX12_makeWitness_140 : decode cX12_makeWitness 140 = .ok (.imul, 1) := by decide +kernel
theorem dX12_makeWitness_141 : decode cX12_makeWitness 141 = .ok (.iload_n 2, 1) := by decide +kernel
theorem dX12_makeWitness_142 : decode cX12_makeWitness 142 = .ok (.iadd, 1) := by decide +kernel
theorem dX12_makeWitness_143 : decode cX12_makeWitness 143 = .ok (.iconst 1, 1) := by decide +kernel
theorem dX12_makeWitness_144 : decode cX12_makeWitness 144 = .ok (.isub, 1) := by decide +kernel
theorem dX12_makeWitness_145 : decode cX12_makeWitness 145 = .ok (.iconst 1, 1) := by decide +kernel
theorem dX12_makeWitness_146 : decode cX12_makeWitness 146 = .ok (.bastore, 1) := by decide +kernel
theorem dX12_makeWitness_147 : decode cX12_makeWitness 147 = .ok (.return_, 1) := by decide +kernel
theorem dX12_appendLetter_0 : decode cX12_appendLetter 0 = .ok (.iload_n 1, 1) := by decide +kernel
theorem dX12_appendLetter_1 : decode cX12_appendLetter 1 = .ok (.invokestatic 122, 3) := by decide +kernel
theorem dX12_appendLetter_4 : decode cX12_appendLetter 4 = .ok (.ifCond .ne 9, 3) := by decide +kernel
theorem dX12_appendLetter_7 : decode cX12_appendLetter 7 = .ok (.aload_n 0, 1) := by decide +kernel
theorem dX12_appendLetter_8 : decode cX12_appendLetter 8 = .ok (.iconst 1, 1) := by decide +kernel
theorem dX12_appendLetter_9 : decode cX12_appendLetter 9 = .ok (.invokevirtual 136, 3) := by decide +kernel
theorem dX12_appendLetter_12 : decode cX12_appendLetter 12 = .ok (.ireturn, 1) := by decide +kernel
theorem dX12_appendLetter_13 : decode cX12_appendLetter 13 = .ok (.aload_n 0, 1) := by decide +kernel
theorem dX12_appendLetter_14 : decode cX12_appendLetter 14 = .ok (.getfield 146, 3) := by decide +kernel
theorem dX12_appendLetter_17 : decode cX12_appendLetter 17 = .ok (.bipush 12, 2) := by decide +kernel
theorem dX12_appendLetter_19 : decode cX12_appendLetter 19 = .ok (.if_icmp .ne 9, 3) := by decide +kernel
theorem dX12_appendLetter_22 : decode cX12_appendLetter 22 = .ok (.aload_n 0, 1) := by decide +kernel
theorem dX12_appendLetter_23 : decode cX12_appendLetter 23 = .ok (.iconst 2, 1) := by decide +kernel
theorem dX12_appendLetter_24 : decode cX12_appendLetter 24 = .ok (.invokevirtual 136, 3) := by decide +kernel
theorem dX12_appendLetter_27 : decode cX12_appendLetter 27 = .ok (.ireturn, 1) := by decide +kernel
theorem dX12_appendLetter_28 : decode cX12_appendLetter 28 = .ok (.aload_n 0, 1) := by decide +kernel
theorem dX12_appendLetter_29 : decode cX12_appendLetter 29 = .ok (.getfield 20, 3) := by decide +kernel
theorem dX12_appendLetter_32 : decode cX12_appendLetter 32 = .ok (.aload_n 0, 1) := by decide +kernel
theorem dX12_appendLetter_33 : decode cX12_appendLetter 33 = .ok (.getfield 146, 3) := by decide +kernel
theorem dX12_appendLetter_36 : decode cX12_appendLetter 36 = .ok (.iload_n 1, 1) := by decide +kernel
theorem dX12_appendLetter_37 : decode cX12_appendLetter 37 = .ok (.iastore, 1) := by decide +kernel
theorem dX12_appendLetter_38 : decode cX12_appendLetter 38 = .ok (.aload_n 0, 1) := by decide +kernel
theorem dX12_appendLetter_39 : decode cX12_appendLetter 39 = .ok (.dup, 1) := by decide +kernel
theorem dX12_appendLetter_40 : decode cX12_appendLetter 40 = .ok (.getfield 146, 3) := by decide +kernel
theorem dX12_appendLetter_43 : decode cX12_appendLetter 43 = .ok (.iconst 1, 1) := by decide +kernel
theorem dX12_appendLetter_44 : decode cX12_appendLetter 44 = .ok (.iadd, 1) := by decide +kernel
theorem dX12_appendLetter_45 : decode cX12_appendLetter 45 = .ok (.putfield 146, 3) := by decide +kernel
theorem dX12_appendLetter_48 : decode cX12_appendLetter 48 = .ok (.aload_n 0, 1) := by decide +kernel
theorem dX12_appendLetter_49 : decode cX12_appendLetter 49 = .ok (.aload_n 0, 1) := by decide +kernel
theorem dX12_appendLetter_50 : decode cX12_appendLetter 50 = .ok (.getfield 146, 3) := by decide +kernel
theorem dX12_appendLetter_53 : decode cX12_appendLetter 53 = .ok (.invokevirtual 132, 3) := by decide +kernel
theorem dX12_appendLetter_56 : decode cX12_appendLetter 56 = .ok (.ireturn, 1) := by decide +kernel
theorem dX12_clearWord_0 : decode cX12_clearWord 0 = .ok (.aload_n 0, 1) := by decide +kernel
theorem dX12_clearWord_1 : decode cX12_clearWord 1 = .ok (.getfield 146, 3) := by decide +kernel
theorem dX12_clearWord_4 : decode cX12_clearWord 4 = .ok (.istore_n 1, 1) := by decide +kernel
theorem dX12_clearWord_5 : decode cX12_clearWord 5 = .ok (.aload_n 0, 1) := by decide +kernel
theorem dX12_clearWord_6 : decode cX12_clearWord 6 = .ok (.iconst 0, 1) := by decide +kernel
theorem dX12_clearWord_7 : decode cX12_clearWord 7 = .ok (.putfield 146, 3) := by decide +kernel
theorem dX12_clearWord_10 : decode cX12_clearWord 10 = .ok (.aload_n 0, 1) := by decide +kernel
theorem dX12_clearWord_11 : decode cX12_clearWord 11 = .ok (.iload_n 1, 1) := by decide +kernel
theorem dX12_clearWord_12 : decode cX12_clearWord 12 = .ok (.invokevirtual 132, 3) := by decide +kernel
theorem dX12_clearWord_15 : decode cX12_clearWord 15 = .ok (.ireturn, 1) := by decide +kernel
theorem dX12_wordLetter_0 : decode cX12_wordLetter 0 = .ok (.iload_n 1, 1) := by decide +kernel
theorem dX12_wordLetter_1 : decode cX12_wordLetter 1 = .ok (.iconst 0, 1) := by decide +kernel
theorem dX12_wordLetter_2 : decode cX12_wordLetter 2 = .ok (.aload_n 0, 1) := by decide +kernel
theorem dX12_wordLetter_3 : decode cX12_wordLetter 3 = .ok (.getfield 146, 3) := by decide +kernel
theorem dX12_wordLetter_6 : decode cX12_wordLetter 6 = .ok (.iconst 1, 1) := by decide +kernel
theorem dX12_wordLetter_7 : decode cX12_wordLetter 7 = .ok (.isub, 1) := by decide +kernel
theorem dX12_wordLetter_8 : decode cX12_wordLetter 8 = .ok (.invokestatic 102, 3) := by decide +kernel
theorem dX12_wordLetter_11 : decode cX12_wordLetter 11 = .ok (.ifCond .eq 16, 3) := by decide +kernel
theorem dX12_wordLetter_14 : decode cX12_wordLetter 14 = .ok (.aload_n 0, 1) := by decide +kernel
theorem dX12_wordLetter_15 : decode cX12_wordLetter 15 = .ok (.aload_n 0, 1) := by decide +kernel
theorem dX12_wordLetter_16 : decode cX12_wordLetter 16 = .ok (.getfield 20, 3) := by decide +kernel
theorem dX12_wordLetter_19 : decode cX12_wordLetter 19 = .ok (.iload_n 1, 1) := by decide +kernel
theorem dX12_wordLetter_20 : decode cX12_wordLetter 20 = .ok (.iaload, 1) := by decide +kernel
theorem dX12_wordLetter_21 : decode cX12_wordLetter 21 = .ok (.invokevirtual 132, 3) := by decide +kernel
theorem dX12_wordLetter_24 : decode cX12_wordLetter 24 = .ok (.goto 8, 3) := by decide +kernel
theorem dX12_wordLetter_27 : decode cX12_wordLetter 27 = .ok (.aload_n 0, 1) := by decide +kernel
theorem dX12_wordLetter_28 : decode cX12_wordLetter 28 = .ok (.iconst 1, 1) := by decide +kernel
theorem dX12_wordLetter_29 : decode cX12_wordLetter 29 = .ok (.invokevirtual 136, 3) := by decide +kernel
theorem dX12_wordLetter_32 : decode cX12_wordLetter 32 = .ok (.ireturn, 1) := by decide +kernel
theorem dX12_stateBy_0 : decode cX12_stateBy 0 = .ok (.iload_n 2, 1) := by decide +kernel
theorem dX12_stateBy_1 : decode cX12_stateBy 1 = .ok (.istore_n 3, 1) := by decide +kernel
theorem dX12_stateBy_2 : decode cX12_stateBy 2 = .ok (.iconst 0, 1) := by decide +kernel
theorem dX12_stateBy_3 : decode cX12_stateBy 3 = .ok (.istore 4, 2) := by decide +kernel
theorem dX12_stateBy_5 : decode cX12_stateBy 5 = .ok (.iload 4, 2) := by decide +kernel
theorem dX12_stateBy_7 : decode cX12_stateBy 7 = .ok (.aload_n 0, 1) := by decide +kernel
theorem dX12_stateBy_8 : decode cX12_stateBy 8 = .ok (.getfield 146, 3) := by decide +kernel
theorem dX12_stateBy_11 : decode cX12_stateBy 11 = .ok (.if_icmp .ge 27, 3) := by decide +kernel
theorem dX12_stateBy_14 : decode cX12_stateBy 14 = .ok (.aload_n 0, 1) := by decide +kernel
theorem dX12_stateBy_15 : decode cX12_stateBy 15 = .ok (.getfield 13, 3) := by decide +kernel
theorem dX12_stateBy_18 : decode cX12_stateBy 18 = .ok (.iload_n 1, 1) := by decide +kernel
theorem dX12_stateBy_19 : decode cX12_stateBy 19 = .ok (.iload_n 3, 1) := by decide +kernel
theorem dX12_stateBy_20 : decode cX12_stateBy 20 = .ok (.aload_n 0, 1) := by decide +kernel
theorem dX12_stateBy_21 : decode cX12_stateBy 21 = .ok (.getfield 20, 3) := by decide +kernel
theorem dX12_stateBy_24 : decode cX12_stateBy 24 = .ok (.iload 4, 2) := by decide +kernel
theorem dX12_stateBy_26 : decode cX12_stateBy 26 = .ok (.iaload, 1) := by decide +kernel
theorem dX12_stateBy_27 : decode cX12_stateBy 27 = .ok (.invokestatic 110, 3) := by decide +kernel
theorem dX12_stateBy_30 : decode cX12_stateBy 30 = .ok (.iaload, 1) := by decide +kernel
theorem dX12_stateBy_31 : decode cX12_stateBy 31 = .ok (.istore_n 3, 1) := by decide +kernel
theorem dX12_stateBy_32 : decode cX12_stateBy 32 = .ok (.iinc 4 1, 3) := by decide +kernel
theorem dX12_stateBy_35 : decode cX12_stateBy 35 = .ok (.goto (-30), 3) := by decide +kernel
theorem dX12_stateBy_38 : decode cX12_stateBy 38 = .ok (.iload_n 3, 1) := by decide +kernel
theorem dX12_stateBy_39 : decode cX12_stateBy 39 = .ok (.ireturn, 1) := by decide +kernel
theorem dX12_accepts_0 : decode cX12_accepts 0 = .ok (.iload_n 1, 1) := by decide +kernel
theorem dX12_accepts_1 : decode cX12_accepts 1 = .ok (.invokestatic 106, 3) := by decide +kernel
theorem dX12_accepts_4 : decode cX12_accepts 4 = .ok (.ifCond .eq 26, 3) := by decide +kernel
theorem dX12_accepts_7 : decode cX12_accepts 7 = .ok (.aload_n 0, 1) := by decide +kernel
theorem dX12_accepts_8 : decode cX12_accepts 8 = .ok (.aload_n 0, 1) := by decide +kernel
theorem dX12_accepts_9 : decode cX12_accepts 9 = .ok (.getfield 16, 3) := by decide +kernel
theorem dX12_accepts_12 : decode cX12_accepts 12 = .ok (.bipush 6, 2) := by decide +kernel
theorem dX12_accepts_14 : decode cX12_accepts 14 = .ok (.iload_n 1, 1) := by decide +kernel
theorem dX12_accepts_15 : decode cX12_accepts 15 = .ok (.imul, 1) := by decide +kernel
theorem dX12_accepts_16 : decode cX12_accepts 16 = .ok (.aload_n 0, 1) := by decide +kernel
theorem dX12_accepts_17 : decode cX12_accepts 17 = .ok (.iload_n 1, 1) := by decide +kernel
theorem dX12_accepts_18 : decode cX12_accepts 18 = .ok (.iconst 0, 1) := by decide +kernel
theorem dX12_accepts_19 : decode cX12_accepts 19 = .ok (.invokevirtual 149, 3) := by decide +kernel
theorem dX12_accepts_22 : decode cX12_accepts 22 = .ok (.iadd, 1) := by decide +kernel
theorem dX12_accepts_23 : decode cX12_accepts 23 = .ok (.baload, 1) := by decide +kernel
theorem dX12_accepts_24 : decode cX12_accepts 24 = .ok (.invokevirtual 128, 3) := by decide +kernel
theorem dX12_accepts_27 : decode cX12_accepts 27 = .ok (.goto 8, 3) := by decide +kernel
theorem dX12_accepts_30 : decode cX12_accepts 30 = .ok (.aload_n 0, 1) := by decide +kernel
theorem dX12_accepts_31 : decode cX12_accepts 31 = .ok (.iconst 1, 1) := by decide +kernel
theorem dX12_accepts_32 : decode cX12_accepts 32 = .ok (.invokevirtual 125, 3) := by decide +kernel
theorem dX12_accepts_35 : decode cX12_accepts 35 = .ok (.ireturn, 1) := by decide +kernel
theorem dX12_nodeOf_0 : decode cX12_nodeOf 0 = .ok (.iconst 0, 1) := by decide +kernel
theorem dX12_nodeOf_1 : decode cX12_nodeOf 1 = .ok (.istore_n 3, 1) := by decide +kernel
theorem dX12_nodeOf_2 : decode cX12_nodeOf 2 = .ok (.iload_n 3, 1) := by decide +kernel
theorem dX12_nodeOf_3 : decode cX12_nodeOf 3 = .ok (.aload_n 0, 1) := by decide +kernel
theorem dX12_nodeOf_4 : decode cX12_nodeOf 4 = .ok (.getfield 153, 3) := by decide +kernel
theorem dX12_nodeOf_7 : decode cX12_nodeOf 7 = .ok (.if_icmp .ge 20, 3) := by decide +kernel
theorem dX12_nodeOf_10 : decode cX12_nodeOf 10 = .ok (.aload_n 0, 1) := by decide +kernel
theorem dX12_nodeOf_11 : decode cX12_nodeOf 11 = .ok (.getfield 49, 3) := by decide +kernel
theorem dX12_nodeOf_14 : decode cX12_nodeOf 14 = .ok (.iload_n 3, 1) := by decide +kernel
theorem dX12_nodeOf_15 : decode cX12_nodeOf 15 = .ok (.laload, 1) := by decide +kernel
theorem dX12_nodeOf_16 : decode cX12_nodeOf 16 = .ok (.lload_n 1, 1) := by decide +kernel
theorem dX12_nodeOf_17 : decode cX12_nodeOf 17 = .ok (.lcmp, 1) := by decide +kernel
theorem dX12_nodeOf_18 : decode cX12_nodeOf 18 = .ok (.ifCond .eq 9, 3) := by decide +kernel
theorem dX12_nodeOf_21 : decode cX12_nodeOf 21 = .ok (.iinc 3 1, 3) := by decide +kernel
theorem dX12_nodeOf_24 : decode cX12_nodeOf 24 = .ok (.goto (-22), 3) := by decide +kernel
theorem dX12_nodeOf_27 : decode cX12_nodeOf 27 = .ok (.iload_n 3, 1) := by decide +kernel
theorem dX12_nodeOf_28 : decode cX12_nodeOf 28 = .ok (.aload_n 0, 1) := by decide +kernel
theorem dX12_nodeOf_29 : decode cX12_nodeOf 29 = .ok (.getfield 153, 3) := by decide +kernel
theorem dX12_nodeOf_32 : decode cX12_nodeOf 32 = .ok (.if_icmp .ne 20, 3) := by decide +kernel
theorem dX12_nodeOf_35 : decode cX12_nodeOf 35 = .ok (.aload_n 0, 1) := by decide +kernel
theorem dX12_nodeOf_36 : decode cX12_nodeOf 36 = .ok (.getfield 49, 3) := by decide +kernel
theorem dX12_nodeOf_39 : decode cX12_nodeOf 39 = .ok (.iload_n 3, 1) := by decide +kernel
theorem dX12_nodeOf_40 : decode cX12_nodeOf 40 = .ok (.lload_n 1, 1) := by decide +kernel
theorem dX12_nodeOf_41 : decode cX12_nodeOf 41 = .ok (.lastore, 1) := by decide +kernel
theorem dX12_nodeOf_42 : decode cX12_nodeOf 42 = .ok (.aload_n 0, 1) := by decide +kernel
theorem dX12_nodeOf_43 : decode cX12_nodeOf 43 = .ok (.dup, 1) := by decide +kernel
theorem dX12_nodeOf_44 : decode cX12_nodeOf 44 = .ok (.getfield 153, 3) := by decide +kernel
theorem dX12_nodeOf_47 : decode cX12_nodeOf 47 = .ok (.iconst 1, 1) := by decide +kernel
theorem dX12_nodeOf_48 : decode cX12_nodeOf 48 = .ok (.iadd, 1) := by decide +kernel
theorem dX12_nodeOf_49 : decode cX12_nodeOf 49 = .ok (.putfield 153, 3) := by decide +kernel
theorem dX12_nodeOf_52 : decode cX12_nodeOf 52 = .ok (.iload_n 3, 1) := by decide +kernel
theorem dX12_nodeOf_53 : decode cX12_nodeOf 53 = .ok (.ireturn, 1) := by decide +kernel
theorem dX12_firstKey_0 : decode cX12_firstKey 0 = .ok (.aload_n 0, 1) := by decide +kernel
theorem dX12_firstKey_1 : decode cX12_firstKey 1 = .ok (.getfield 156, 3) := by decide +kernel
theorem dX12_firstKey_4 : decode cX12_firstKey 4 = .ok (.tableswitch 53 4 7 #[32, 39, 43, 48], 32) := by decide +kernel
theorem dX12_firstKey_36 : decode cX12_firstKey 36 = .ok (.aload_n 0, 1) := by decide +kernel
theorem dX12_firstKey_37 : decode cX12_firstKey 37 = .ok (.iconst 0, 1) := by decide +kernel
theorem dX12_firstKey_38 : decode cX12_firstKey 38 = .ok (.lconst 0, 1) := by decide +kernel
theorem dX12_firstKey_39 : decode cX12_firstKey 39 = .ok (.invokevirtual 159, 3) := by decide +kernel
theorem dX12_firstKey_42 : decode cX12_firstKey 42 = .ok (.lreturn, 1) := by decide +kernel
theorem dX12_firstKey_43 : decode cX12_firstKey 43 = .ok (.ldc2_w 163, 3) := by decide +kernel
theorem dX12_firstKey_46 : decode cX12_firstKey 46 = .ok (.lreturn, 1) := by decide +kernel
theorem dX12_firstKey_47 : decode cX12_firstKey 47 = .ok (.aload_n 0, 1) := by decide +kernel
theorem dX12_firstKey_48 : decode cX12_firstKey 48 = .ok (.invokevirtual 165, 3) := by decide +kernel
theorem dX12_firstKey_51 : decode cX12_firstKey 51 = .ok (.lreturn, 1) := by decide +kernel
theorem dX12_firstKey_52 : decode cX12_firstKey 52 = .ok (.aload_n 0, 1) := by decide +kernel
theorem dX12_firstKey_53 : decode cX12_firstKey 53 = .ok (.getfield 169, 3) := by decide +kernel
theorem dX12_firstKey_56 : decode cX12_firstKey 56 = .ok (.lreturn, 1) := by decide +kernel
theorem dX12_firstKey_57 : decode cX12_firstKey 57 = .ok (.lconst 0, 1) := by decide +kernel
theorem dX12_firstKey_58 : decode cX12_firstKey 58 = .ok (.lreturn, 1) := by decide +kernel
theorem dX12_finalStates_0 : decode cX12_finalStates 0 = .ok (.lconst 0, 1) := by decide +kernel
theorem dX12_finalStates_1 : decode cX12_finalStates 1 = .ok (.lstore_n 1, 1) := by decide +kernel
theorem dX12_finalStates_2 : decode cX12_finalStates 2 = .ok (.iconst 0, 1) := by decide +kernel
theorem dX12_finalStates_3 : decode cX12_finalStates 3 = .ok (.istore_n 3, 1) := by decide +kernel
theorem dX12_finalStates_4 : decode cX12_finalStates 4 = .ok (.iload_n 3, 1) := by decide +kernel
theorem dX12_finalStates_5 : decode cX12_finalStates 5 = .ok (.aload_n 0, 1) := by decide +kernel
theorem dX12_finalStates_6 : decode cX12_finalStates 6 = .ok (.getfield 7, 3) := by decide +kernel
theorem dX12_finalStates_9 : decode cX12_finalStates 9 = .ok (.aload_n 0, 1) := by decide +kernel
theorem dX12_finalStates_10 : decode cX12_finalStates 10 = .ok (.getfield 173, 3) := by decide +kernel
theorem dX12_finalStates_13 : decode cX12_finalStates 13 = .ok (.iaload, 1) := by decide +kernel
theorem dX12_finalStates_14 : decode cX12_finalStates 14 = .ok (.if_icmp .ge 36, 3) := by decide +kernel
theorem dX12_finalStates_17 : decode cX12_finalStates 17 = .ok (.lload_n 1, 1) := by decide +kernel
theorem dX12_finalStates_18 : decode cX12_finalStates 18 = .ok (.aload_n 0, 1) := by decide +kernel
theorem dX12_finalStates_19 : decode cX12_finalStates 19 = .ok (.getfield 16, 3) := by decide +kernel
theorem dX12_finalStates_22 : decode cX12_finalStates 22 = .ok (.bipush 6, 2) := by decide +kernel
theorem dX12_finalStates_24 : decode cX12_finalStates 24 = .ok (.aload_n 0, 1) := by decide +kernel
theorem dX12_finalStates_25 : decode cX12_finalStates 25 = .ok (.getfield 173, 3) := by decide +kernel
theorem dX12_finalStates_28 : decode cX12_finalStates 28 = .ok (.imul, 1) := by decide +kernel
theorem dX12_finalStates_29 : decode cX12_finalStates 29 = .ok (.iload_n 3, 1) := by decide +kernel
theorem dX12_finalStates_30 : decode cX12_finalStates 30 = .ok (.iadd, 1) := by decide +kernel
theorem dX12_finalStates_31 : decode cX12_finalStates 31 = .ok (.baload, 1) := by decide +kernel
theorem dX12_finalStates_32 : decode cX12_finalStates 32 = .ok (.ifCond .eq 9, 3) := by decide +kernel
theorem dX12_finalStates_35 : decode cX12_finalStates 35 = .ok (.lconst 1, 1) := by decide +kernel
theorem dX12_finalStates_36 : decode cX12_finalStates 36 = .ok (.iload_n 3, 1) := by decide +kernel
theorem dX12_finalStates_37 : decode cX12_finalStates 37 = .ok (.lshl, 1) := by decide +kernel
theorem dX12_finalStates_38 : decode cX12_finalStates 38 = .ok (.goto 4, 3) := by decide +kernel
theorem dX12_finalStates_41 : decode cX12_finalStates 41 = .ok (.lconst 0, 1) := by decide +kernel
theorem dX12_finalStates_42 : decode cX12_finalStates 42 = .ok (.lor, 1) := by decide +kernel
theorem dX12_finalStates_43 : decode cX12_finalStates 43 = .ok (.lstore_n 1, 1) := by decide +kernel
theorem dX12_finalStates_44 : decode cX12_finalStates 44 = .ok (.iinc 3 1, 3) := by decide +kernel
theorem dX12_finalStates_47 : decode cX12_finalStates 47 = .ok (.goto (-43), 3) := by decide +kernel
theorem dX12_finalStates_50 : decode cX12_finalStates 50 = .ok (.lload_n 1, 1) := by decide +kernel
theorem dX12_finalStates_51 : decode cX12_finalStates 51 = .ok (.lreturn, 1) := by decide +kernel
theorem dX12_concatenated_0 : decode cX12_concatenated 0 = .ok (.aload_n 0, 1) := by decide +kernel
theorem dX12_concatenated_1 : decode cX12_concatenated 1 = .ok (.getfield 16, 3) := by decide +kernel
theorem dX12_concatenated_4 : decode cX12_concatenated 4 = .ok (.bipush 6, 2) := by decide +kernel
theorem dX12_concatenated_6 : decode cX12_concatenated 6 = .ok (.aload_n 0, 1) := by decide +kernel
theorem dX12_concatenated_7 : decode cX12_concatenated 7 = .ok (.getfield 173, 3) := by decide +kernel
theorem dX12_concatenated_10 : decode cX12_concatenated 10 = .ok (.imul, 1) := by decide +kernel
theorem dX12_concatenated_11 : decode cX12_concatenated 11 = .ok (.iload_n 1, 1) := by decide +kernel
theorem dX12_concatenated_12 : decode cX12_concatenated 12 = .ok (.iadd, 1) := by decide +kernel
theorem dX12_concatenated_13 : decode cX12_concatenated 13 = .ok (.baload, 1) := by decide +kernel
theorem dX12_concatenated_14 : decode cX12_concatenated 14 = .ok (.ifCond .eq 9, 3) := by decide +kernel
theorem dX12_concatenated_17 : decode cX12_concatenated 17 = .ok (.lload_n 2, 1) := by decide +kernel
theorem dX12_concatenated_18 : decode cX12_concatenated 18 = .ok (.lconst 1, 1) := by decide +kernel
theorem dX12_concatenated_19 : decode cX12_concatenated 19 = .ok (.lor, 1) := by decide +kernel
theorem dX12_concatenated_20 : decode cX12_concatenated 20 = .ok (.goto 4, 3) := by decide +kernel
theorem dX12_concatenated_23 : decode cX12_concatenated 23 = .ok (.lload_n 2, 1) := by decide +kernel
theorem dX12_concatenated_24 : decode cX12_concatenated 24 = .ok (.iconst 3, 1) := by decide +kernel
theorem dX12_concatenated_25 : decode cX12_concatenated 25 = .ok (.lshl, 1) := by decide +kernel
theorem dX12_concatenated_26 : decode cX12_concatenated 26 = .ok (.iload_n 1, 1) := by decide +kernel
theorem dX12_concatenated_27 : decode cX12_concatenated 27 = .ok (.i2l, 1) := by decide +kernel
theorem dX12_concatenated_28 : decode cX12_concatenated 28 = .ok (.lor, 1) := by decide +kernel
theorem dX12_concatenated_29 : decode cX12_concatenated 29 = .ok (.lreturn, 1) := by decide +kernel
theorem dX12_led_0 : decode cX12_led 0 = .ok (.lconst 0, 1) := by decide +kernel
theorem dX12_led_1 : decode cX12_led 1 = .ok (.lstore 5, 2) := by decide +kernel
theorem dX12_led_3 : decode cX12_led 3 = .ok (.iconst 0, 1) := by decide +kernel
theorem dX12_led_4 : decode cX12_led 4 = .ok (.istore 7, 2) := by decide +kernel
theorem dX12_led_6 : decode cX12_led 6 = .ok (.iload 7, 2) := by decide +kernel
theorem dX12_led_8 : decode cX12_led 8 = .ok (.aload_n 0, 1) := by decide +kernel
theorem dX12_led_9 : decode cX12_led 9 = .ok (.getfield 7, 3) := by decide +kernel
theorem dX12_led_12 : decode cX12_led 12 = .ok (.iload_n 1, 1) := by decide +kernel
theorem dX12_led_13 : decode cX12_led 13 = .ok (.iaload, 1) := by decide +kernel
theorem dX12_led_14 : decode cX12_led 14 = .ok (.if_icmp .ge 44, 3) := by decide +kernel
theorem dX12_led_17 : decode cX12_led 17 = .ok (.lload 5, 2) := by decide +kernel
theorem dX12_led_19 : decode cX12_led 19 = .ok (.lload_n 2, 1) := by decide +kernel
theorem dX12_led_20 : decode cX12_led 20 = .ok (.iload 7, 2) := by decide +kernel
theorem dX12_led_22 : decode cX12_led 22 = .ok (.lshr, 1) := by decide +kernel
theorem dX12_led_23 : decode cX12_led 23 = .ok (.lconst 1, 1) := by decide +kernel
theorem dX12_led_24 : decode cX12_led 24 = .ok (.land, 1) := by decide +kernel
theorem dX12_led_25 : decode cX12_led 25 = .ok (.lconst 1, 1) := by decide +kernel
theorem dX12_led_26 : decode cX12_led 26 = .ok (.lcmp, 1) := by decide +kernel
theorem dX12_led_27 : decode cX12_led 27 = .ok (.ifCond .ne 21, 3) := by decide +kernel
theorem dX12_led_30 : decode cX12_led 30 = .ok (.lconst 1, 1) := by decide +kernel
theorem dX12_led_31 : decode cX12_led 31 = .ok (.aload_n 0, 1) := by decide +kernel
theorem dX12_led_32 : decode cX12_led 32 = .ok (.getfield 13, 3) := by decide +kernel
theorem dX12_led_35 : decode cX12_led 35 = .ok (.iload_n 1, 1) := by decide +kernel
theorem dX12_led_36 : decode cX12_led 36 = .ok (.iload 7, 2) := by decide +kernel
theorem dX12_led_38 : decode cX12_led 38 = .ok (.iload 4, 2) := by decide +kernel
theorem dX12_led_40 : decode cX12_led 40 = .ok (.invokestatic 110, 3) := by decide +kernel
theorem dX12_led_43 : decode cX12_led 43 = .ok (.iaload, 1) := by decide +kernel
theorem dX12_led_44 : decode cX12_led 44 = .ok (.lshl, 1) := by decide +kernel
theorem dX12_led_45 : decode cX12_led 45 = .ok (.goto 4, 3) := by decide +kernel
theorem dX12_led_48 : decode cX12_led 48 = .ok (.lconst 0, 1) := by decide +kernel
theorem dX12_led_49 : decode cX12_led 49 = .ok (.lor, 1) := by decide +kernel
theorem dX12_led_50 : decode cX12_led 50 = .ok (.lstore 5, 2) := by decide +kernel
theorem dX12_led_52 : decode cX12_led 52 = .ok (.iinc 7 1, 3) := by decide +kernel
theorem dX12_led_55 : decode cX12_led 55 = .ok (.goto (-49), 3) := by decide +kernel
theorem dX12_led_58 : decode cX12_led 58 = .ok (.lload 5, 2) := by decide +kernel
theorem dX12_led_60 : decode cX12_led 60 = .ok (.lreturn, 1) := by decide +kernel
theorem dX12_keyAfter_0 : decode cX12_keyAfter 0 = .ok (.aload_n 0, 1) := by decide +kernel
theorem dX12_keyAfter_1 : decode cX12_keyAfter 1 = .ok (.getfield 156, 3) := by decide +kernel
theorem dX12_keyAfter_4 : decode cX12_keyAfter 4 = .ok (.tableswitch 110 4 8 #[36, 72, 79, 86, 93], 36) := by decide +kernel
theorem dX12_keyAfter_40 : decode cX12_keyAfter 40 = .ok (.aload_n 0, 1) := by decide +kernel
theorem dX12_keyAfter_41 : decode cX12_keyAfter 41 = .ok (.aload_n 0, 1) := by decide +kernel
theorem dX12_keyAfter_42 : decode cX12_keyAfter 42 = .ok (.getfield 13, 3) := by decide +kernel
theorem dX12_keyAfter_45 : decode cX12_keyAfter 45 = .ok (.aload_n 0, 1) := by decide +kernel
theorem dX12_keyAfter_46 : decode cX12_keyAfter 46 = .ok (.getfield 173, 3) := by decide +kernel
theorem dX12_keyAfter_49 : decode cX12_keyAfter 49 = .ok (.lload_n 1, 1) := by decide +kernel
theorem dX12_keyAfter_50 : decode cX12_keyAfter 50 = .ok (.ldc2_w 176, 3) := by decide +kernel
theorem dX12_keyAfter_53 : decode cX12_keyAfter 53 = .ok (.land, 1) := by decide +kernel
theorem dX12_keyAfter_54 : decode cX12_keyAfter 54 = .ok (.l2i, 1) := by decide +kernel
theorem dX12_keyAfter_55 : decode cX12_keyAfter 55 = .ok (.iload_n 3, 1) := by decide +kernel
theorem dX12_keyAfter_56 : decode cX12_keyAfter 56 = .ok (.invokestatic 110, 3) := by decide +kernel
theorem dX12_keyAfter_59 : decode cX12_keyAfter 59 = .ok (.iaload, 1) := by decide +kernel
theorem dX12_keyAfter_60 : decode cX12_keyAfter 60 = .ok (.aload_n 0, 1) := by decide +kernel
theorem dX12_keyAfter_61 : decode cX12_keyAfter 61 = .ok (.aload_n 0, 1) := by decide +kernel
theorem dX12_keyAfter_62 : decode cX12_keyAfter 62 = .ok (.getfield 178, 3) := by decide +kernel
theorem dX12_keyAfter_65 : decode cX12_keyAfter 65 = .ok (.lload_n 1, 1) := by decide +kernel
theorem dX12_keyAfter_66 : decode cX12_keyAfter 66 = .ok (.iconst 3, 1) := by decide +kernel
theorem dX12_keyAfter_67 : decode cX12_keyAfter 67 = .ok (.lshr, 1) := by decide +kernel
theorem dX12_keyAfter_68 : decode cX12_keyAfter 68 = .ok (.iload_n 3, 1) := by decide +kernel
theorem dX12_keyAfter_69 : decode cX12_keyAfter 69 = .ok (.invokestatic 181, 3) := by decide +kernel
theorem dX12_keyAfter_72 : decode cX12_keyAfter 72 = .ok (.invokevirtual 159, 3) := by decide +kernel
theorem dX12_keyAfter_75 : decode cX12_keyAfter 75 = .ok (.lreturn, 1) := by decide +kernel
theorem dX12_keyAfter_76 : decode cX12_keyAfter 76 = .ok (.aload_n 0, 1) := by decide +kernel
theorem dX12_keyAfter_77 : decode cX12_keyAfter 77 = .ok (.lload_n 1, 1) := by decide +kernel
theorem dX12_keyAfter_78 : decode cX12_keyAfter 78 = .ok (.iload_n 3, 1) := by decide +kernel
theorem dX12_keyAfter_79 : decode cX12_keyAfter 79 = .ok (.invokevirtual 185, 3) := by decide +kernel
theorem dX12_keyAfter_82 : decode cX12_keyAfter 82 = .ok (.lreturn, 1) := by decide +kernel
theorem dX12_keyAfter_83 : decode cX12_keyAfter 83 = .ok (.aload_n 0, 1) := by decide +kernel
theorem dX12_keyAfter_84 : decode cX12_keyAfter 84 = .ok (.lload_n 1, 1) := by decide +kernel
theorem dX12_keyAfter_85 : decode cX12_keyAfter 85 = .ok (.iload_n 3, 1) := by decide +kernel
theorem dX12_keyAfter_86 : decode cX12_keyAfter 86 = .ok (.invokevirtual 189, 3) := by decide +kernel
theorem dX12_keyAfter_89 : decode cX12_keyAfter 89 = .ok (.lreturn, 1) := by decide +kernel
theorem dX12_keyAfter_90 : decode cX12_keyAfter 90 = .ok (.aload_n 0, 1) := by decide +kernel
theorem dX12_keyAfter_91 : decode cX12_keyAfter 91 = .ok (.lload_n 1, 1) := by decide +kernel
theorem dX12_keyAfter_92 : decode cX12_keyAfter 92 = .ok (.iload_n 3, 1) := by decide +kernel
theorem dX12_keyAfter_93 : decode cX12_keyAfter 93 = .ok (.invokevirtual 192, 3) := by decide +kernel
theorem dX12_keyAfter_96 : decode cX12_keyAfter 96 = .ok (.lreturn, 1) := by decide +kernel
theorem dX12_keyAfter_97 : decode cX12_keyAfter 97 = .ok (.aload_n 0, 1) := by decide +kernel
theorem dX12_keyAfter_98 : decode cX12_keyAfter 98 = .ok (.getfield 13, 3) := by decide +kernel
theorem dX12_keyAfter_101 : decode cX12_keyAfter 101 = .ok (.aload_n 0, 1) := by decide +kernel
theorem dX12_keyAfter_102 : decode cX12_keyAfter 102 = .ok (.getfield 173, 3) := by decide +kernel
theorem dX12_keyAfter_105 : decode cX12_keyAfter 105 = .ok (.lload_n 1, 1) := by decide +kernel
theorem dX12_keyAfter_106 : decode cX12_keyAfter 106 = .ok (.l2i, 1) := by decide +kernel
theorem dX12_keyAfter_107 : decode cX12_keyAfter 107 = .ok (.iload_n 3, 1) := by decide +kernel
theorem dX12_keyAfter_108 : decode cX12_keyAfter 108 = .ok (.invokestatic 110, 3) := by decide +kernel
theorem dX12_keyAfter_111 : decode cX12_keyAfter 111 = .ok (.iaload, 1) := by decide +kernel
theorem dX12_keyAfter_112 : decode cX12_keyAfter 112 = .ok (.i2l, 1) := by decide +kernel
theorem dX12_keyAfter_113 : decode cX12_keyAfter 113 = .ok (.lreturn, 1) := by decide +kernel
theorem dX12_keyAfter_114 : decode cX12_keyAfter 114 = .ok (.aload_n 0, 1) := by decide +kernel
theorem dX12_keyAfter_115 : decode cX12_keyAfter 115 = .ok (.getfield 13, 3) := by decide +kernel
theorem dX12_keyAfter_118 : decode cX12_keyAfter 118 = .ok (.aload_n 0, 1) := by decide +kernel
theorem dX12_keyAfter_119 : decode cX12_keyAfter 119 = .ok (.getfield 173, 3) := by decide +kernel
theorem dX12_keyAfter_122 : decode cX12_keyAfter 122 = .ok (.lload_n 1, 1) := by decide +kernel
theorem dX12_keyAfter_123 : decode cX12_keyAfter 123 = .ok (.ldc2_w 176, 3) := by decide +kernel
theorem dX12_keyAfter_126 : decode cX12_keyAfter 126 = .ok (.land, 1) := by decide +kernel
theorem dX12_keyAfter_127 : decode cX12_keyAfter 127 = .ok (.l2i, 1) := by decide +kernel
theorem dX12_keyAfter_128 : decode cX12_keyAfter 128 = .ok (.iload_n 3, 1) := by decide +kernel
theorem dX12_keyAfter_129 : decode cX12_keyAfter 129 = .ok (.invokestatic 110, 3) := by decide +kernel
theorem dX12_keyAfter_132 : decode cX12_keyAfter 132 = .ok (.iaload, 1) := by decide +kernel
theorem dX12_keyAfter_133 : decode cX12_keyAfter 133 = .ok (.i2l, 1) := by decide +kernel
theorem dX12_keyAfter_134 : decode cX12_keyAfter 134 = .ok (.aload_n 0, 1) := by decide +kernel
theorem dX12_keyAfter_135 : decode cX12_keyAfter 135 = .ok (.getfield 13, 3) := by decide +kernel
theorem dX12_keyAfter_138 : decode cX12_keyAfter 138 = .ok (.aload_n 0, 1) := by decide +kernel
theorem dX12_keyAfter_139 : decode cX12_keyAfter 139 = .ok (.getfield 178, 3) := by decide +kernel
theorem dX12_keyAfter_142 : decode cX12_keyAfter 142 = .ok (.lload_n 1, 1) := by decide +kernel
theorem dX12_keyAfter_143 : decode cX12_keyAfter 143 = .ok (.iconst 3, 1) := by decide +kernel
theorem dX12_keyAfter_144 : decode cX12_keyAfter 144 = .ok (.lshr, 1) := by decide +kernel
theorem dX12_keyAfter_145 : decode cX12_keyAfter 145 = .ok (.l2i, 1) := by decide +kernel
theorem dX12_keyAfter_146 : decode cX12_keyAfter 146 = .ok (.iload_n 3, 1) := by decide +kernel
theorem dX12_keyAfter_147 : decode cX12_keyAfter 147 = .ok (.invokestatic 110, 3) := by decide +kernel
theorem dX12_keyAfter_150 : decode cX12_keyAfter 150 = .ok (.iaload, 1) := by decide +kernel
theorem dX12_keyAfter_151 : decode cX12_keyAfter 151 = .ok (.i2l, 1) := by decide +kernel
theorem dX12_keyAfter_152 : decode cX12_keyAfter 152 = .ok (.iconst 3, 1) := by decide +kernel
theorem dX12_keyAfter_153 : decode cX12_keyAfter 153 = .ok (.lshl, 1) := by decide +kernel
theorem dX12_keyAfter_154 : decode cX12_keyAfter 154 = .ok (.lor, 1) := by decide +kernel
theorem dX12_keyAfter_155 : decode cX12_keyAfter 155 = .ok (.lreturn, 1) := by decide +kernel
theorem dX12_starAfter_0 : decode cX12_starAfter 0 = .ok (.aload_n 0, 1) := by decide +kernel
theorem dX12_starAfter_1 : decode cX12_starAfter 1 = .ok (.aload_n 0, 1) := by decide +kernel
theorem dX12_starAfter_2 : decode cX12_starAfter 2 = .ok (.getfield 173, 3) := by decide +kernel
theorem dX12_starAfter_5 : decode cX12_starAfter 5 = .ok (.lload_n 1, 1) := by decide +kernel
theorem dX12_starAfter_6 : decode cX12_starAfter 6 = .ok (.ldc2_w 163, 3) := by decide +kernel
theorem dX12_starAfter_9 : decode cX12_starAfter 9 = .ok (.lcmp, 1) := by decide +kernel
theorem dX12_starAfter_10 : decode cX12_starAfter 10 = .ok (.ifCond .ne 7, 3) := by decide +kernel
theorem dX12_starAfter_13 : decode cX12_starAfter 13 = .ok (.lconst 1, 1) := by decide +kernel
theorem dX12_starAfter_14 : decode cX12_starAfter 14 = .ok (.goto 4, 3) := by decide +kernel
theorem dX12_starAfter_17 : decode cX12_starAfter 17 = .ok (.lload_n 1, 1) := by decide +kernel
theorem dX12_starAfter_18 : decode cX12_starAfter 18 = .ok (.iload_n 3, 1) := by decide +kernel
theorem dX12_starAfter_19 : decode cX12_starAfter 19 = .ok (.invokestatic 181, 3) := by decide +kernel
theorem dX12_starAfter_22 : decode cX12_starAfter 22 = .ok (.lstore 4, 2) := by decide +kernel
theorem dX12_starAfter_24 : decode cX12_starAfter 24 = .ok (.lload 4, 2) := by decide +kernel
theorem dX12_starAfter_26 : decode cX12_starAfter 26 = .ok (.aload_n 0, 1) := by decide +kernel
theorem dX12_starAfter_27 : decode cX12_starAfter 27 = .ok (.invokevirtual 165, 3) := by decide +kernel
theorem dX12_starAfter_30 : decode cX12_starAfter 30 = .ok (.land, 1) := by decide +kernel
theorem dX12_starAfter_31 : decode cX12_starAfter 31 = .ok (.lconst 0, 1) := by decide +kernel
theorem dX12_starAfter_32 : decode cX12_starAfter 32 = .ok (.lcmp, 1) := by decide +kernel
theorem dX12_starAfter_33 : decode cX12_starAfter 33 = .ok (.ifCond .eq 10, 3) := by decide +kernel
theorem dX12_starAfter_36 : decode cX12_starAfter 36 = .ok (.lload 4, 2) := by decide +kernel
theorem dX12_starAfter_38 : decode cX12_starAfter 38 = .ok (.lconst 1, 1) := by decide +kernel
theorem dX12_starAfter_39 : decode cX12_starAfter 39 = .ok (.lor, 1) := by decide +kernel
theorem dX12_starAfter_40 : decode cX12_starAfter 40 = .ok (.goto 5, 3) := by decide +kernel
theorem dX12_starAfter_43 : decode cX12_starAfter 43 = .ok (.lload 4, 2) := by decide +kernel
theorem dX12_starAfter_45 : decode cX12_starAfter 45 = .ok (.lreturn, 1) := by decide +kernel
theorem dX12_ledBack_0 : decode cX12_ledBack 0 = .ok (.lconst 0, 1) := by decide +kernel
theorem dX12_ledBack_1 : decode cX12_ledBack 1 = .ok (.lstore 4, 2) := by decide +kernel
theorem dX12_ledBack_3 : decode cX12_ledBack 3 = .ok (.iconst 0, 1) := by decide +kernel
theorem dX12_ledBack_4 : decode cX12_ledBack 4 = .ok (.istore 6, 2) := by decide +kernel
theorem dX12_ledBack_6 : decode cX12_ledBack 6 = .ok (.iload 6, 2) := by decide +kernel
theorem dX12_ledBack_8 : decode cX12_ledBack 8 = .ok (.aload_n 0, 1) := by decide +kernel
theorem dX12_ledBack_9 : decode cX12_ledBack 9 = .ok (.getfield 7, 3) := by decide +kernel
theorem dX12_ledBack_12 : decode cX12_ledBack 12 = .ok (.aload_n 0, 1) := by decide +kernel
theorem dX12_ledBack_13 : decode cX12_ledBack 13 = .ok (.getfield 173, 3) := by decide +kernel
theorem dX12_ledBack_16 : decode cX12_ledBack 16 = .ok (.iaload, 1) := by decide +kernel
theorem dX12_ledBack_17 : decode cX12_ledBack 17 = .ok (.if_icmp .ge 46, 3) := by decide +kernel
theorem dX12_ledBack_20 : decode cX12_ledBack 20 = .ok (.lload 4, 2) := by decide +kernel
theorem dX12_ledBack_22 : decode cX12_ledBack 22 = .ok (.lload_n 1, 1) := by decide +kernel
theorem dX12_ledBack_23 : decode cX12_ledBack 23 = .ok (.aload_n 0, 1) := by decide +kernel
theorem dX12_ledBack_24 : decode cX12_ledBack 24 = .ok (.getfield 13, 3) := by decide +kernel
theorem dX12_ledBack_27 : decode cX12_ledBack 27 = .ok (.aload_n 0, 1) := by decide +kernel
theorem dX12_ledBack_28 : decode cX12_ledBack 28 = .ok (.getfield 173, 3) := by decide +kernel
theorem dX12_ledBack_31 : decode cX12_ledBack 31 = .ok (.iload 6, 2) := by decide +kernel
theorem dX12_ledBack_33 : decode cX12_ledBack 33 = .ok (.iload_n 3, 1) := by decide +kernel
theorem dX12_ledBack_34 : decode cX12_ledBack 34 = .ok (.invokestatic 110, 3) := by decide +kernel
theorem dX12_ledBack_37 : decode cX12_ledBack 37 = .ok (.iaload, 1) := by decide +kernel
theorem dX12_ledBack_38 : decode cX12_ledBack 38 = .ok (.lshr, 1) := by decide +kernel
theorem dX12_ledBack_39 : decode cX12_ledBack 39 = .ok (.lconst 1, 1) := by decide +kernel
theorem dX12_ledBack_40 : decode cX12_ledBack 40 = .ok (.land, 1) := by decide +kernel
theorem dX12_ledBack_41 : decode cX12_ledBack 41 = .ok (.lconst 1, 1) := by decide +kernel
theorem dX12_ledBack_42 : decode cX12_ledBack 42 = .ok (.lcmp, 1) := by decide +kernel
theorem dX12_ledBack_43 : decode cX12_ledBack 43 = .ok (.ifCond .ne 10, 3) := by decide +kernel
theorem dX12_ledBack_46 : decode cX12_ledBack 46 = .ok (.lconst 1, 1) := by decide +kernel
theorem dX12_ledBack_47 : decode cX12_ledBack 47 = .ok (.iload 6, 2) := by decide +kernel
theorem dX12_ledBack_49 : decode cX12_ledBack 49 = .ok (.lshl, 1) := by decide +kernel
theorem dX12_ledBack_50 : decode cX12_ledBack 50 = .ok (.goto 4, 3) := by decide +kernel
theorem dX12_ledBack_53 : decode cX12_ledBack 53 = .ok (.lconst 0, 1) := by decide +kernel
theorem dX12_ledBack_54 : decode cX12_ledBack 54 = .ok (.lor, 1) := by decide +kernel
theorem dX12_ledBack_55 : decode cX12_ledBack 55 = .ok (.lstore 4, 2) := by decide +kernel
theorem dX12_ledBack_57 : decode cX12_ledBack 57 = .ok (.iinc 6 1, 3) := by decide +kernel
theorem dX12_ledBack_60 : decode cX12_ledBack 60 = .ok (.goto (-54), 3) := by decide +kernel
theorem dX12_ledBack_63 : decode cX12_ledBack 63 = .ok (.lload 4, 2) := by decide +kernel
theorem dX12_ledBack_65 : decode cX12_ledBack 65 = .ok (.lreturn, 1) := by decide +kernel
theorem dX12_atomsAfter_0 : decode cX12_atomsAfter 0 = .ok (.lconst 0, 1) := by decide +kernel
theorem dX12_atomsAfter_1 : decode cX12_atomsAfter 1 = .ok (.lstore 4, 2) := by decide +kernel
theorem dX12_atomsAfter_3 : decode cX12_atomsAfter 3 = .ok (.iconst 0, 1) := by decide +kernel
theorem dX12_atomsAfter_4 : decode cX12_atomsAfter 4 = .ok (.istore 6, 2) := by decide +kernel
theorem dX12_atomsAfter_6 : decode cX12_atomsAfter 6 = .ok (.iload 6, 2) := by decide +kernel
theorem dX12_atomsAfter_8 : decode cX12_atomsAfter 8 = .ok (.aload_n 0, 1) := by decide +kernel
theorem dX12_atomsAfter_9 : decode cX12_atomsAfter 9 = .ok (.getfield 195, 3) := by decide +kernel
theorem dX12_atomsAfter_12 : decode cX12_atomsAfter 12 = .ok (.if_icmp .ge 40, 3) := by decide +kernel
theorem dX12_atomsAfter_15 : decode cX12_atomsAfter 15 = .ok (.lload 4, 2) := by decide +kernel
theorem dX12_atomsAfter_17 : decode cX12_atomsAfter 17 = .ok (.lload_n 1, 1) := by decide +kernel
theorem dX12_atomsAfter_18 : decode cX12_atomsAfter 18 = .ok (.iload 6, 2) := by decide +kernel
theorem dX12_atomsAfter_20 : decode cX12_atomsAfter 20 = .ok (.lushr, 1) := by decide +kernel
theorem dX12_atomsAfter_21 : decode cX12_atomsAfter 21 = .ok (.lconst 1, 1) := by decide +kernel
theorem dX12_atomsAfter_22 : decode cX12_atomsAfter 22 = .ok (.land, 1) := by decide +kernel
theorem dX12_atomsAfter_23 : decode cX12_atomsAfter 23 = .ok (.lconst 1, 1) := by decide +kernel
theorem dX12_atomsAfter_24 : decode cX12_atomsAfter 24 = .ok (.lcmp, 1) := by decide +kernel
theorem dX12_atomsAfter_25 : decode cX12_atomsAfter 25 = .ok (.ifCond .ne 17, 3) := by decide +kernel
theorem dX12_atomsAfter_28 : decode cX12_atomsAfter 28 = .ok (.aload_n 0, 1) := by decide +kernel
theorem dX12_atomsAfter_29 : decode cX12_atomsAfter 29 = .ok (.getfield 80, 3) := by decide +kernel
theorem dX12_atomsAfter_32 : decode cX12_atomsAfter 32 = .ok (.iconst 3, 1) := by decide +kernel
theorem dX12_atomsAfter_33 : decode cX12_atomsAfter 33 = .ok (.iload 6, 2) := by decide +kernel
theorem dX12_atomsAfter_35 : decode cX12_atomsAfter 35 = .ok (.imul, 1) := by decide +kernel
theorem dX12_atomsAfter_36 : decode cX12_atomsAfter 36 = .ok (.iload_n 3, 1) := by decide +kernel
theorem dX12_atomsAfter_37 : decode cX12_atomsAfter 37 = .ok (.iadd, 1) := by decide +kernel
theorem dX12_atomsAfter_38 : decode cX12_atomsAfter 38 = .ok (.laload, 1) := by decide +kernel
theorem dX12_atomsAfter_39 : decode cX12_atomsAfter 39 = .ok (.goto 4, 3) := by decide +kernel
theorem dX12_atomsAfter_42 : decode cX12_atomsAfter 42 = .ok (.lconst 0, 1) := by decide +kernel
theorem dX12_atomsAfter_43 : decode cX12_atomsAfter 43 = .ok (.lor, 1) := by decide +kernel
theorem dX12_atomsAfter_44 : decode cX12_atomsAfter 44 = .ok (.lstore 4, 2) := by decide +kernel
theorem dX12_atomsAfter_46 : decode cX12_atomsAfter 46 = .ok (.iinc 6 1, 3) := by decide +kernel
theorem dX12_atomsAfter_49 : decode cX12_atomsAfter 49 = .ok (.goto (-43), 3) := by decide +kernel
theorem dX12_atomsAfter_52 : decode cX12_atomsAfter 52 = .ok (.lload 4, 2) := by decide +kernel
theorem dX12_atomsAfter_54 : decode cX12_atomsAfter 54 = .ok (.lreturn, 1) := by decide +kernel
theorem dX12_isEnd_0 : decode cX12_isEnd 0 = .ok (.aload_n 0, 1) := by decide +kernel
theorem dX12_isEnd_1 : decode cX12_isEnd 1 = .ok (.getfield 156, 3) := by decide +kernel
theorem dX12_isEnd_4 : decode cX12_isEnd 4 = .ok (.iconst 4, 1) := by decide +kernel
theorem dX12_isEnd_5 : decode cX12_isEnd 5 = .ok (.if_icmp .ge 29, 3) := by decide +kernel
theorem dX12_isEnd_8 : decode cX12_isEnd 8 = .ok (.aload_n 0, 1) := by decide +kernel
theorem dX12_isEnd_9 : decode cX12_isEnd 9 = .ok (.getfield 16, 3) := by decide +kernel
theorem dX12_isEnd_12 : decode cX12_isEnd 12 = .ok (.bipush 6, 2) := by decide +kernel
theorem dX12_isEnd_14 : decode cX12_isEnd 14 = .ok (.aload_n 0, 1) := by decide +kernel
theorem dX12_isEnd_15 : decode cX12_isEnd 15 = .ok (.getfield 173, 3) := by decide +kernel
theorem dX12_isEnd_18 : decode cX12_isEnd 18 = .ok (.imul, 1) := by decide +kernel
theorem dX12_isEnd_19 : decode cX12_isEnd 19 = .ok (.lload_n 1, 1) := by decide +kernel
theorem dX12_isEnd_20 : decode cX12_isEnd 20 = .ok (.ldc2_w 176, 3) := by decide +kernel
theorem dX12_isEnd_23 : decode cX12_isEnd 23 = .ok (.land, 1) := by decide +kernel
theorem dX12_isEnd_24 : decode cX12_isEnd 24 = .ok (.l2i, 1) := by decide +kernel
theorem dX12_isEnd_25 : decode cX12_isEnd 25 = .ok (.iadd, 1) := by decide +kernel
theorem dX12_isEnd_26 : decode cX12_isEnd 26 = .ok (.baload, 1) := by decide +kernel
theorem dX12_isEnd_27 : decode cX12_isEnd 27 = .ok (.ifCond .eq 7, 3) := by decide +kernel
theorem dX12_isEnd_30 : decode cX12_isEnd 30 = .ok (.iconst 1, 1) := by decide +kernel
theorem dX12_isEnd_31 : decode cX12_isEnd 31 = .ok (.goto 4, 3) := by decide +kernel
theorem dX12_isEnd_34 : decode cX12_isEnd 34 = .ok (.iconst 0, 1) := by decide +kernel
theorem dX12_isEnd_35 : decode cX12_isEnd 35 = .ok (.istore_n 3, 1) := by decide +kernel
theorem dX12_isEnd_36 : decode cX12_isEnd 36 = .ok (.aload_n 0, 1) := by decide +kernel
theorem dX12_isEnd_37 : decode cX12_isEnd 37 = .ok (.getfield 156, 3) := by decide +kernel
theorem dX12_isEnd_40 : decode cX12_isEnd 40 = .ok (.iconst 4, 1) := by decide +kernel
theorem dX12_isEnd_41 : decode cX12_isEnd 41 = .ok (.if_icmp .ge 27, 3) := by decide +kernel
theorem dX12_isEnd_44 : decode cX12_isEnd 44 = .ok (.aload_n 0, 1) := by decide +kernel
theorem dX12_isEnd_45 : decode cX12_isEnd 45 = .ok (.getfield 16, 3) := by decide +kernel
theorem dX12_isEnd_48 : decode cX12_isEnd 48 = .ok (.bipush 6, 2) := by decide +kernel
theorem dX12_isEnd_50 : decode cX12_isEnd 50 = .ok (.aload_n 0, 1) := by decide +kernel
theorem dX12_isEnd_51 : decode cX12_isEnd 51 = .ok (.getfield 178, 3) := by decide +kernel
theorem dX12_isEnd_54 : decode cX12_isEnd 54 = .ok (.imul, 1) := by decide +kernel
theorem dX12_isEnd_55 : decode cX12_isEnd 55 = .ok (.lload_n 1, 1) := by decide +kernel
theorem dX12_isEnd_56 : decode cX12_isEnd 56 = .ok (.iconst 3, 1) := by decide +kernel
theorem dX12_isEnd_57 : decode cX12_isEnd 57 = .ok (.lshr, 1) := by decide +kernel
theorem dX12_isEnd_58 : decode cX12_isEnd 58 = .ok (.l2i, 1) := by decide +kernel
theorem dX12_isEnd_59 : decode cX12_isEnd 59 = .ok (.iadd, 1) := by decide +kernel
theorem dX12_isEnd_60 : decode cX12_isEnd 60 = .ok (.baload, 1) := by decide +kernel
theorem dX12_isEnd_61 : decode cX12_isEnd 61 = .ok (.ifCond .eq 7, 3) := by decide +kernel
theorem dX12_isEnd_64 : decode cX12_isEnd 64 = .ok (.iconst 1, 1) := by decide +kernel
theorem dX12_isEnd_65 : decode cX12_isEnd 65 = .ok (.goto 4, 3) := by decide +kernel
theorem dX12_isEnd_68 : decode cX12_isEnd 68 = .ok (.iconst 0, 1) := by decide +kernel
theorem dX12_isEnd_69 : decode cX12_isEnd 69 = .ok (.istore 4, 2) := by decide +kernel
theorem dX12_isEnd_71 : decode cX12_isEnd 71 = .ok (.aload_n 0, 1) := by decide +kernel
theorem dX12_isEnd_72 : decode cX12_isEnd 72 = .ok (.getfield 156, 3) := by decide +kernel
theorem dX12_isEnd_75 : decode cX12_isEnd 75 = .ok (.tableswitch 172 0 7 #[45, 60, 75, 90, 102, 114, 139, 153], 45) := by decide +kernel
theorem dX12_isEnd_120 : decode cX12_isEnd 120 = .ok (.iload_n 3, 1) := by decide +kernel
theorem dX12_isEnd_121 : decode cX12_isEnd 121 = .ok (.ifCond .ne 8, 3) := by decide +kernel
theorem dX12_isEnd_124 : decode cX12_isEnd 124 = .ok (.iload 4, 2) := by decide +kernel
theorem dX12_isEnd_126 : decode cX12_isEnd 126 = .ok (.ifCond .eq 7, 3) := by decide +kernel
theorem dX12_isEnd_129 : decode cX12_isEnd 129 = .ok (.iconst 1, 1) := by decide +kernel
theorem dX12_isEnd_130 : decode cX12_isEnd 130 = .ok (.goto 4, 3) := by decide +kernel
theorem dX12_isEnd_133 : decode cX12_isEnd 133 = .ok (.iconst 0, 1) := by decide +kernel
theorem dX12_isEnd_134 : decode cX12_isEnd 134 = .ok (.ireturn, 1) := by decide +kernel
theorem dX12_isEnd_135 : decode cX12_isEnd 135 = .ok (.iload_n 3, 1) := by decide +kernel
theorem dX12_isEnd_136 : decode cX12_isEnd 136 = .ok (.ifCond .eq 12, 3) := by decide +kernel
theorem dX12_isEnd_139 : decode cX12_isEnd 139 = .ok (.iload 4, 2) := by decide +kernel
theorem dX12_isEnd_141 : decode cX12_isEnd 141 = .ok (.ifCond .eq 7, 3) := by decide +kernel
theorem dX12_isEnd_144 : decode cX12_isEnd 144 = .ok (.iconst 1, 1) := by decide +kernel
theorem dX12_isEnd_145 : decode cX12_isEnd 145 = .ok (.goto 4, 3) := by decide +kernel
theorem dX12_isEnd_148 : decode cX12_isEnd 148 = .ok (.iconst 0, 1) := by decide +kernel
theorem dX12_isEnd_149 : decode cX12_isEnd 149 = .ok (.ireturn, 1) := by decide +kernel
theorem dX12_isEnd_150 : decode cX12_isEnd 150 = .ok (.iload_n 3, 1) := by decide +kernel
theorem dX12_isEnd_151 : decode cX12_isEnd 151 = .ok (.ifCond .eq 12, 3) := by decide +kernel
theorem dX12_isEnd_154 : decode cX12_isEnd 154 = .ok (.iload 4, 2) := by decide +kernel
theorem dX12_isEnd_156 : decode cX12_isEnd 156 = .ok (.ifCond .ne 7, 3) := by decide +kernel
theorem dX12_isEnd_159 : decode cX12_isEnd 159 = .ok (.iconst 1, 1) := by decide +kernel
theorem dX12_isEnd_160 : decode cX12_isEnd 160 = .ok (.goto 4, 3) := by decide +kernel
theorem dX12_isEnd_163 : decode cX12_isEnd 163 = .ok (.iconst 0, 1) := by decide +kernel
theorem dX12_isEnd_164 : decode cX12_isEnd 164 = .ok (.ireturn, 1) := by decide +kernel
theorem dX12_isEnd_165 : decode cX12_isEnd 165 = .ok (.iload_n 3, 1) := by decide +kernel
theorem dX12_isEnd_166 : decode cX12_isEnd 166 = .ok (.iload 4, 2) := by decide +kernel
theorem dX12_isEnd_168 : decode cX12_isEnd 168 = .ok (.if_icmp .eq 7, 3) := by decide +kernel
theorem dX12_isEnd_171 : decode cX12_isEnd 171 = .ok (.iconst 1, 1) := by decide +kernel
theorem dX12_isEnd_172 : decode cX12_isEnd 172 = .ok (.goto 4, 3) := by decide +kernel
theorem dX12_isEnd_175 : decode cX12_isEnd 175 = .ok (.iconst 0, 1) := by decide +kernel
theorem dX12_isEnd_176 : decode cX12_isEnd 176 = .ok (.ireturn, 1) := by decide +kernel
theorem dX12_isEnd_177 : decode cX12_isEnd 177 = .ok (.aload_n 0, 1) := by decide +kernel
theorem dX12_isEnd_178 : decode cX12_isEnd 178 = .ok (.aload_n 0, 1) := by decide +kernel
theorem dX12_isEnd_179 : decode cX12_isEnd 179 = .ok (.getfield 178, 3) := by decide +kernel
theorem dX12_isEnd_182 : decode cX12_isEnd 182 = .ok (.lload_n 1, 1) := by decide +kernel
theorem dX12_isEnd_183 : decode cX12_isEnd 183 = .ok (.iconst 3, 1) := by decide +kernel
theorem dX12_isEnd_184 : decode cX12_isEnd 184 = .ok (.lshr, 1) := by decide +kernel
theorem dX12_isEnd_185 : decode cX12_isEnd 185 = .ok (.invokevirtual 198, 3) := by decide +kernel
theorem dX12_isEnd_188 : decode cX12_isEnd 188 = .ok (.ireturn, 1) := by decide +kernel
theorem dX12_isEnd_189 : decode cX12_isEnd 189 = .ok (.lload_n 1, 1) := by decide +kernel
theorem dX12_isEnd_190 : decode cX12_isEnd 190 = .ok (.ldc2_w 163, 3) := by decide +kernel
theorem dX12_isEnd_193 : decode cX12_isEnd 193 = .ok (.lcmp, 1) := by decide +kernel
theorem dX12_isEnd_194 : decode cX12_isEnd 194 = .ok (.ifCond .eq 14, 3) := by decide +kernel
theorem dX12_isEnd_197 : decode cX12_isEnd 197 = .ok (.lload_n 1, 1) := by decide +kernel
theorem dX12_isEnd_198 : decode cX12_isEnd 198 = .ok (.aload_n 0, 1) := by decide +kernel
theorem dX12_isEnd_199 : decode cX12_isEnd 199 = .ok (.invokevirtual 165, 3) := by decide +kernel
theorem dX12_isEnd_202 : decode cX12_isEnd 202 = .ok (.land, 1) := by decide +kernel
theorem dX12_isEnd_203 : decode cX12_isEnd 203 = .ok (.lconst 0, 1) := by decide +kernel
theorem dX12_isEnd_204 : decode cX12_isEnd 204 = .ok (.lcmp, 1) := by decide +kernel
theorem dX12_isEnd_205 : decode cX12_isEnd 205 = .ok (.ifCond .eq 7, 3) := by decide +kernel
theorem dX12_isEnd_208 : decode cX12_isEnd 208 = .ok (.iconst 1, 1) := by decide +kernel
theorem dX12_isEnd_209 : decode cX12_isEnd 209 = .ok (.goto 4, 3) := by decide +kernel
theorem dX12_isEnd_212 : decode cX12_isEnd 212 = .ok (.iconst 0, 1) := by decide +kernel
theorem dX12_isEnd_213 : decode cX12_isEnd 213 = .ok (.ireturn, 1) := by decide +kernel
theorem dX12_isEnd_214 : decode cX12_isEnd 214 = .ok (.lload_n 1, 1) := by decide +kernel
theorem dX12_isEnd_215 : decode cX12_isEnd 215 = .ok (.lconst 1, 1) := by decide +kernel
theorem dX12_isEnd_216 : decode cX12_isEnd 216 = .ok (.land, 1) := by decide +kernel
theorem dX12_isEnd_217 : decode cX12_isEnd 217 = .ok (.lconst 1, 1) := by decide +kernel
theorem dX12_isEnd_218 : decode cX12_isEnd 218 = .ok (.lcmp, 1) := by decide +kernel
theorem dX12_isEnd_219 : decode cX12_isEnd 219 = .ok (.ifCond .ne 7, 3) := by decide +kernel
theorem dX12_isEnd_222 : decode cX12_isEnd 222 = .ok (.iconst 1, 1) := by decide +kernel
theorem dX12_isEnd_223 : decode cX12_isEnd 223 = .ok (.goto 4, 3) := by decide +kernel
theorem dX12_isEnd_226 : decode cX12_isEnd 226 = .ok (.iconst 0, 1) := by decide +kernel
theorem dX12_isEnd_227 : decode cX12_isEnd 227 = .ok (.ireturn, 1) := by decide +kernel
theorem dX12_isEnd_228 : decode cX12_isEnd 228 = .ok (.lload_n 1, 1) := by decide +kernel
theorem dX12_isEnd_229 : decode cX12_isEnd 229 = .ok (.aload_n 0, 1) := by decide +kernel
theorem dX12_isEnd_230 : decode cX12_isEnd 230 = .ok (.getfield 202, 3) := by decide +kernel
theorem dX12_isEnd_233 : decode cX12_isEnd 233 = .ok (.lushr, 1) := by decide +kernel
theorem dX12_isEnd_234 : decode cX12_isEnd 234 = .ok (.lconst 1, 1) := by decide +kernel
theorem dX12_isEnd_235 : decode cX12_isEnd 235 = .ok (.land, 1) := by decide +kernel
theorem dX12_isEnd_236 : decode cX12_isEnd 236 = .ok (.lconst 1, 1) := by decide +kernel
theorem dX12_isEnd_237 : decode cX12_isEnd 237 = .ok (.lcmp, 1) := by decide +kernel
theorem dX12_isEnd_238 : decode cX12_isEnd 238 = .ok (.ifCond .ne 7, 3) := by decide +kernel
theorem dX12_isEnd_241 : decode cX12_isEnd 241 = .ok (.iconst 1, 1) := by decide +kernel
theorem dX12_isEnd_242 : decode cX12_isEnd 242 = .ok (.goto 4, 3) := by decide +kernel
theorem dX12_isEnd_245 : decode cX12_isEnd 245 = .ok (.iconst 0, 1) := by decide +kernel
theorem dX12_isEnd_246 : decode cX12_isEnd 246 = .ok (.ireturn, 1) := by decide +kernel
theorem dX12_isEnd_247 : decode cX12_isEnd 247 = .ok (.aload_n 0, 1) := by decide +kernel
theorem dX12_isEnd_248 : decode cX12_isEnd 248 = .ok (.getfield 16, 3) := by decide +kernel
theorem dX12_isEnd_251 : decode cX12_isEnd 251 = .ok (.bipush 6, 2) := by decide +kernel
theorem dX12_isEnd_253 : decode cX12_isEnd 253 = .ok (.aload_n 0, 1) := by decide +kernel
theorem dX12_isEnd_254 : decode cX12_isEnd 254 = .ok (.getfield 173, 3) := by decide +kernel
theorem dX12_isEnd_257 : decode cX12_isEnd 257 = .ok (.imul, 1) := by decide +kernel
theorem dX12_isEnd_258 : decode cX12_isEnd 258 = .ok (.lload_n 1, 1) := by decide +kernel
theorem dX12_isEnd_259 : decode cX12_isEnd 259 = .ok (.l2i, 1) := by decide +kernel
theorem dX12_isEnd_260 : decode cX12_isEnd 260 = .ok (.iadd, 1) := by decide +kernel
theorem dX12_isEnd_261 : decode cX12_isEnd 261 = .ok (.baload, 1) := by decide +kernel
theorem dX12_isEnd_262 : decode cX12_isEnd 262 = .ok (.ireturn, 1) := by decide +kernel
theorem dX12_hasFinal_0 : decode cX12_hasFinal 0 = .ok (.iconst 0, 1) := by decide +kernel
theorem dX12_hasFinal_1 : decode cX12_hasFinal 1 = .ok (.istore 4, 2) := by decide +kernel
theorem dX12_hasFinal_3 : decode cX12_hasFinal 3 = .ok (.iconst 0, 1) := by decide +kernel
theorem dX12_hasFinal_4 : decode cX12_hasFinal 4 = .ok (.istore 5, 2) := by decide +kernel
theorem dX12_hasFinal_6 : decode cX12_hasFinal 6 = .ok (.iload 5, 2) := by decide +kernel
theorem dX12_hasFinal_8 : decode cX12_hasFinal 8 = .ok (.aload_n 0, 1) := by decide +kernel
theorem dX12_hasFinal_9 : decode cX12_hasFinal 9 = .ok (.getfield 7, 3) := by decide +kernel
theorem dX12_hasFinal_12 : decode cX12_hasFinal 12 = .ok (.iload_n 1, 1) := by decide +kernel
theorem dX12_hasFinal_13 : decode cX12_hasFinal 13 = .ok (.iaload, 1) := by decide +kernel
theorem dX12_hasFinal_14 : decode cX12_hasFinal 14 = .ok (.if_icmp .ge 47, 3) := by decide +kernel
theorem dX12_hasFinal_17 : decode cX12_hasFinal 17 = .ok (.iload 4, 2) := by decide +kernel
theorem dX12_hasFinal_19 : decode cX12_hasFinal 19 = .ok (.ifCond .ne 29, 3) := by decide +kernel
theorem dX12_hasFinal_22 : decode cX12_hasFinal 22 = .ok (.lload_n 2, 1) := by decide +kernel
theorem dX12_hasFinal_23 : decode cX12_hasFinal 23 = .ok (.iload 5, 2) := by decide +kernel
theorem dX12_hasFinal_25 : decode cX12_hasFinal 25 = .ok (.lshr, 1) := by decide +kernel
theorem dX12_hasFinal_26 : decode cX12_hasFinal 26 = .ok (.lconst 1, 1) := by decide +kernel
theorem dX12_hasFinal_27 : decode cX12_hasFinal 27 = .ok (.land, 1) := by decide +kernel
theorem dX12_hasFinal_28 : decode cX12_hasFinal 28 = .ok (.lconst 1, 1) := by decide +kernel
theorem dX12_hasFinal_29 : decode cX12_hasFinal 29 = .ok (.lcmp, 1) := by decide +kernel
theorem dX12_hasFinal_30 : decode cX12_hasFinal 30 = .ok (.ifCond .ne 22, 3) := by decide +kernel
theorem dX12_hasFinal_33 : decode cX12_hasFinal 33 = .ok (.aload_n 0, 1) := by decide +kernel
theorem dX12_hasFinal_34 : decode cX12_hasFinal 34 = .ok (.getfield 16, 3) := by decide +kernel
theorem dX12_hasFinal_37 : decode cX12_hasFinal 37 = .ok (.bipush 6, 2) := by decide +kernel
theorem dX12_hasFinal_39 : decode cX12_hasFinal 39 = .ok (.iload_n 1, 1) := by decide +kernel
theorem dX12_hasFinal_40 : decode cX12_hasFinal 40 = .ok (.imul, 1) := by decide +kernel
theorem dX12_hasFinal_41 : decode cX12_hasFinal 41 = .ok (.iload 5, 2) := by decide +kernel
theorem dX12_hasFinal_43 : decode cX12_hasFinal 43 = .ok (.iadd, 1) := by decide +kernel
theorem dX12_hasFinal_44 : decode cX12_hasFinal 44 = .ok (.baload, 1) := by decide +kernel
theorem dX12_hasFinal_45 : decode cX12_hasFinal 45 = .ok (.ifCond .eq 7, 3) := by decide +kernel
theorem dX12_hasFinal_48 : decode cX12_hasFinal 48 = .ok (.iconst 1, 1) := by decide +kernel
theorem dX12_hasFinal_49 : decode cX12_hasFinal 49 = .ok (.goto 4, 3) := by decide +kernel
theorem dX12_hasFinal_52 : decode cX12_hasFinal 52 = .ok (.iconst 0, 1) := by decide +kernel
theorem dX12_hasFinal_53 : decode cX12_hasFinal 53 = .ok (.istore 4, 2) := by decide +kernel
theorem dX12_hasFinal_55 : decode cX12_hasFinal 55 = .ok (.iinc 5 1, 3) := by decide +kernel
theorem dX12_hasFinal_58 : decode cX12_hasFinal 58 = .ok (.goto (-52), 3) := by decide +kernel
theorem dX12_hasFinal_61 : decode cX12_hasFinal 61 = .ok (.iload 4, 2) := by decide +kernel
theorem dX12_hasFinal_63 : decode cX12_hasFinal 63 = .ok (.ireturn, 1) := by decide +kernel
theorem dX12_makes_0 : decode cX12_makes 0 = .ok (.aload_n 0, 1) := by decide +kernel
theorem dX12_makes_1 : decode cX12_makes 1 = .ok (.iload_n 1, 1) := by decide +kernel
theorem dX12_makes_2 : decode cX12_makes 2 = .ok (.putfield 156, 3) := by decide +kernel
theorem dX12_makes_5 : decode cX12_makes 5 = .ok (.aload_n 0, 1) := by decide +kernel
theorem dX12_makes_6 : decode cX12_makes 6 = .ok (.iload_n 2, 1) := by decide +kernel
theorem dX12_makes_7 : decode cX12_makes 7 = .ok (.putfield 173, 3) := by decide +kernel
theorem dX12_makes_10 : decode cX12_makes 10 = .ok (.aload_n 0, 1) := by decide +kernel
theorem dX12_makes_11 : decode cX12_makes 11 = .ok (.iload_n 3, 1) := by decide +kernel
theorem dX12_makes_12 : decode cX12_makes 12 = .ok (.putfield 178, 3) := by decide +kernel
theorem dX12_makes_15 : decode cX12_makes 15 = .ok (.aload_n 0, 1) := by decide +kernel
theorem dX12_makes_16 : decode cX12_makes 16 = .ok (.iconst 0, 1) := by decide +kernel
theorem dX12_makes_17 : decode cX12_makes 17 = .ok (.putfield 153, 3) := by decide +kernel
theorem dX12_makes_20 : decode cX12_makes 20 = .ok (.aload_n 0, 1) := by decide +kernel
theorem dX12_makes_21 : decode cX12_makes 21 = .ok (.aload_n 0, 1) := by decide +kernel
theorem dX12_makes_22 : decode cX12_makes 22 = .ok (.invokevirtual 205, 3) := by decide +kernel
theorem dX12_makes_25 : decode cX12_makes 25 = .ok (.invokevirtual 208, 3) := by decide +kernel
theorem dX12_makes_28 : decode cX12_makes 28 = .ok (.pop, 1) := by decide +kernel
theorem dX12_makes_29 : decode cX12_makes 29 = .ok (.iconst 0, 1) := by decide +kernel
theorem dX12_makes_30 : decode cX12_makes 30 = .ok (.istore 4, 2) := by decide +kernel
theorem dX12_makes_32 : decode cX12_makes 32 = .ok (.iload 4, 2) := by decide +kernel
theorem dX12_makes_34 : decode cX12_makes 34 = .ok (.aload_n 0, 1) := by decide +kernel
theorem dX12_makes_35 : decode cX12_makes 35 = .ok (.getfield 153, 3) := by decide +kernel
theorem dX12_makes_38 : decode cX12_makes 38 = .ok (.if_icmp .ge 115, 3) := by decide +kernel
theorem dX12_makes_41 : decode cX12_makes 41 = .ok (.iconst 0, 1) := by decide +kernel
theorem dX12_makes_42 : decode cX12_makes 42 = .ok (.istore 5, 2) := by decide +kernel
theorem dX12_makes_44 : decode cX12_makes 44 = .ok (.iload 5, 2) := by decide +kernel
theorem dX12_makes_46 : decode cX12_makes 46 = .ok (.iconst 3, 1) := by decide +kernel
theorem dX12_makes_47 : decode cX12_makes 47 = .ok (.if_icmp .ge 100, 3) := by decide +kernel
theorem dX12_makes_50 : decode cX12_makes 50 = .ok (.aload_n 0, 1) := by decide +kernel
theorem dX12_makes_51 : decode cX12_makes 51 = .ok (.getfield 153, 3) := by decide +kernel
theorem dX12_makes_54 : decode cX12_makes 54 = .ok (.istore 6, 2) := by decide +kernel
theorem dX12_makes_56 : decode cX12_makes 56 = .ok (.aload_n 0, 1) := by decide +kernel
theorem dX12_makes_57 : decode cX12_makes 57 = .ok (.aload_n 0, 1) := by decide +kernel
theorem dX12_makes_58 : decode cX12_makes 58 = .ok (.aload_n 0, 1) := by decide +kernel
theorem dX12_makes_59 : decode cX12_makes 59 = .ok (.getfield 49, 3) := by decide +kernel
theorem dX12_makes_62 : decode cX12_makes 62 = .ok (.iload 4, 2) := by decide +kernel
theorem dX12_makes_64 : decode cX12_makes 64 = .ok (.laload, 1) := by decide +kernel
theorem dX12_makes_65 : decode cX12_makes 65 = .ok (.iload 5, 2) := by decide +kernel
theorem dX12_makes_67 : decode cX12_makes 67 = .ok (.invokevirtual 212, 3) := by decide +kernel
theorem dX12_makes_70 : decode cX12_makes 70 = .ok (.invokevirtual 208, 3) := by decide +kernel
theorem dX12_makes_73 : decode cX12_makes 73 = .ok (.istore 7, 2) := by decide +kernel
theorem dX12_makes_75 : decode cX12_makes 75 = .ok (.aload_n 0, 1) := by decide +kernel
theorem dX12_makes_76 : decode cX12_makes 76 = .ok (.getfield 53, 3) := by decide +kernel
theorem dX12_makes_79 : decode cX12_makes 79 = .ok (.iconst 3, 1) := by decide +kernel
theorem dX12_makes_80 : decode cX12_makes 80 = .ok (.iload 4, 2) := by decide +kernel
theorem dX12_makes_82 : decode cX12_makes 82 = .ok (.imul, 1) := by decide +kernel
theorem dX12_makes_83 : decode cX12_makes 83 = .ok (.iload 5, 2) := by decide +kernel
theorem dX12_makes_85 : decode cX12_makes 85 = .ok (.iadd, 1) := by decide +kernel
theorem dX12_makes_86 : decode cX12_makes 86 = .ok (.iload 7, 2) := by decide +kernel
theorem dX12_makes_88 : decode cX12_makes 88 = .ok (.iastore, 1) := by decide +kernel
theorem dX12_makes_89 : decode cX12_makes 89 = .ok (.aload_n 0, 1) := by decide +kernel
theorem dX12_makes_90 : decode cX12_makes 90 = .ok (.getfield 59, 3) := by decide +kernel
theorem dX12_makes_93 : decode cX12_makes 93 = .ok (.iload 7, 2) := by decide +kernel
theorem dX12_makes_95 : decode cX12_makes 95 = .ok (.iload 7, 2) := by decide +kernel
theorem dX12_makes_97 : decode cX12_makes 97 = .ok (.iload 6, 2) := by decide +kernel
theorem dX12_makes_99 : decode cX12_makes 99 = .ok (.if_icmp .ne 8, 3) := by decide +kernel
theorem dX12_makes_102 : decode cX12_makes 102 = .ok (.iload 4, 2) := by decide +kernel
theorem dX12_makes_104 : decode cX12_makes 104 = .ok (.goto 10, 3) := by decide +kernel
theorem dX12_makes_107 : decode cX12_makes 107 = .ok (.aload_n 0, 1) := by decide +kernel
theorem dX12_makes_108 : decode cX12_makes 108 = .ok (.getfield 59, 3) := by decide +kernel
theorem dX12_makes_111 : decode cX12_makes 111 = .ok (.iload 7, 2) := by decide +kernel
theorem dX12_makes_113 : decode cX12_makes 113 = .ok (.iaload, 1) := by decide +kernel
theorem dX12_makes_114 : decode cX12_makes 114 = .ok (.iastore, 1) := by decide +kernel
theorem dX12_makes_115 : decode cX12_makes 115 = .ok (.aload_n 0, 1) := by decide +kernel
theorem dX12_makes_116 : decode cX12_makes 116 = .ok (.getfield 62, 3) := by decide +kernel
theorem dX12_makes_119 : decode cX12_makes 119 = .ok (.iload 7, 2) := by decide +kernel
theorem dX12_makes_121 : decode cX12_makes 121 = .ok (.iload 7, 2) := by decide +kernel
theorem dX12_makes_123 : decode cX12_makes 123 = .ok (.iload 6, 2) := by decide +kernel
theorem dX12_makes_125 : decode cX12_makes 125 = .ok (.if_icmp .ne 8, 3) := by decide +kernel
theorem dX12_makes_128 : decode cX12_makes 128 = .ok (.iload 5, 2) := by decide +kernel
theorem dX12_makes_130 : decode cX12_makes 130 = .ok (.goto 10, 3) := by decide +kernel
theorem dX12_makes_133 : decode cX12_makes 133 = .ok (.aload_n 0, 1) := by decide +kernel
theorem dX12_makes_134 : decode cX12_makes 134 = .ok (.getfield 62, 3) := by decide +kernel
theorem dX12_makes_137 : decode cX12_makes 137 = .ok (.iload 7, 2) := by decide +kernel
theorem dX12_makes_139 : decode cX12_makes 139 = .ok (.iaload, 1) := by decide +kernel
theorem dX12_makes_140 : decode cX12_makes 140 = .ok (.iastore, 1) := by decide +kernel
theorem dX12_makes_141 : decode cX12_makes 141 = .ok (.iinc 5 1, 3) := by decide +kernel
theorem dX12_makes_144 : decode cX12_makes 144 = .ok (.goto (-100), 3) := by decide +kernel
theorem dX12_makes_147 : decode cX12_makes 147 = .ok (.iinc 4 1, 3) := by decide +kernel
theorem dX12_makes_150 : decode cX12_makes 150 = .ok (.goto (-118), 3) := by decide +kernel
theorem dX12_makes_153 : decode cX12_makes 153 = .ok (.iconst 0, 1) := by decide +kernel
theorem dX12_makes_154 : decode cX12_makes 154 = .ok (.istore 4, 2) := by decide +kernel
theorem dX12_makes_156 : decode cX12_makes 156 = .ok (.iload 4, 2) := by decide +kernel
theorem dX12_makes_158 : decode cX12_makes 158 = .ok (.aload_n 0, 1) := by decide +kernel
theorem dX12_makes_159 : decode cX12_makes 159 = .ok (.getfield 153, 3) := by decide +kernel
theorem dX12_makes_162 : decode cX12_makes 162 = .ok (.if_icmp .ge 27, 3) := by decide +kernel
theorem dX12_makes_165 : decode cX12_makes 165 = .ok (.aload_n 0, 1) := by decide +kernel
theorem dX12_makes_166 : decode cX12_makes 166 = .ok (.getfield 56, 3) := by decide +kernel
theorem dX12_makes_169 : decode cX12_makes 169 = .ok (.iload 4, 2) := by decide +kernel
theorem dX12_makes_171 : decode cX12_makes 171 = .ok (.aload_n 0, 1) := by decide +kernel
theorem dX12_makes_172 : decode cX12_makes 172 = .ok (.aload_n 0, 1) := by decide +kernel
theorem dX12_makes_173 : decode cX12_makes 173 = .ok (.getfield 49, 3) := by decide +kernel
theorem dX12_makes_176 : decode cX12_makes 176 = .ok (.iload 4, 2) := by decide +kernel
theorem dX12_makes_178 : decode cX12_makes 178 = .ok (.laload, 1) := by decide +kernel
theorem dX12_makes_179 : decode cX12_makes 179 = .ok (.invokevirtual 215, 3) := by decide +kernel
theorem dX12_makes_182 : decode cX12_makes 182 = .ok (.bastore, 1) := by decide +kernel
theorem dX12_makes_183 : decode cX12_makes 183 = .ok (.iinc 4 1, 3) := by decide +kernel
theorem dX12_makes_186 : decode cX12_makes 186 = .ok (.goto (-30), 3) := by decide +kernel
theorem dX12_makes_189 : decode cX12_makes 189 = .ok (.aload_n 0, 1) := by decide +kernel
theorem dX12_makes_190 : decode cX12_makes 190 = .ok (.invokevirtual 219, 3) := by decide +kernel
theorem dX12_makes_193 : decode cX12_makes 193 = .ok (.return_, 1) := by decide +kernel
theorem dX12_isAlike_0 : decode cX12_isAlike 0 = .ok (.aload_n 0, 1) := by decide +kernel
theorem dX12_isAlike_1 : decode cX12_isAlike 1 = .ok (.getfield 65, 3) := by decide +kernel
theorem dX12_isAlike_4 : decode cX12_isAlike 4 = .ok (.iload_n 1, 1) := by decide +kernel
theorem dX12_isAlike_5 : decode cX12_isAlike 5 = .ok (.iaload, 1) := by decide +kernel
theorem dX12_isAlike_6 : decode cX12_isAlike 6 = .ok (.aload_n 0, 1) := by decide +kernel
theorem dX12_isAlike_7 : decode cX12_isAlike 7 = .ok (.getfield 65, 3) := by decide +kernel
theorem dX12_isAlike_10 : decode cX12_isAlike 10 = .ok (.iload_n 2, 1) := by decide +kernel
theorem dX12_isAlike_11 : decode cX12_isAlike 11 = .ok (.iaload, 1) := by decide +kernel
theorem dX12_isAlike_12 : decode cX12_isAlike 12 = .ok (.if_icmp .ne 7, 3) := by decide +kernel
theorem dX12_isAlike_15 : decode cX12_isAlike 15 = .ok (.iconst 1, 1) := by decide +kernel
theorem dX12_isAlike_16 : decode cX12_isAlike 16 = .ok (.goto 4, 3) := by decide +kernel
theorem dX12_isAlike_19 : decode cX12_isAlike 19 = .ok (.iconst 0, 1) := by decide +kernel
theorem dX12_isAlike_20 : decode cX12_isAlike 20 = .ok (.istore_n 3, 1) := by decide +kernel
theorem dX12_isAlike_21 : decode cX12_isAlike 21 = .ok (.iconst 0, 1) := by decide +kernel
theorem dX12_isAlike_22 : decode cX12_isAlike 22 = .ok (.istore 4, 2) := by decide +kernel
theorem dX12_isAlike_24 : decode cX12_isAlike 24 = .ok (.iload 4, 2) := by decide +kernel
theorem dX12_isAlike_26 : decode cX12_isAlike 26 = .ok (.iconst 3, 1) := by decide +kernel
theorem dX12_isAlike_27 : decode cX12_isAlike 27 = .ok (.if_icmp .ge 54, 3) := by decide +kernel
theorem dX12_isAlike_30 : decode cX12_isAlike 30 = .ok (.iload_n 3, 1) := by decide +kernel
theorem dX12_isAlike_31 : decode cX12_isAlike 31 = .ok (.ifCond .eq 42, 3) := by decide +kernel
theorem dX12_isAlike_34 : decode cX12_isAlike 34 = .ok (.aload_n 0, 1) := by decide +kernel
theorem dX12_isAlike_35 : decode cX12_isAlike 35 = .ok (.getfield 65, 3) := by decide +kernel
theorem dX12_isAlike_38 : decode cX12_isAlike 38 = .ok (.aload_n 0, 1) := by decide +kernel
theorem dX12_isAlike_39 : decode cX12_isAlike 39 = .ok (.getfield 53, 3) := by decide +kernel
theorem dX12_isAlike_42 : decode cX12_isAlike 42 = .ok (.iconst 3, 1) := by decide +kernel
theorem dX12_isAlike_43 : decode cX12_isAlike 43 = .ok (.iload_n 1, 1) := by decide +kernel
theorem dX12_isAlike_44 : decode cX12_isAlike 44 = .ok (.imul, 1) := by decide +kernel
theorem dX12_isAlike_45 : decode cX12_isAlike 45 = .ok (.iload 4, 2) := by decide +kernel
theorem dX12_isAlike_47 : decode cX12_isAlike 47 = .ok (.iadd, 1) := by decide +kernel
theorem dX12_isAlike_48 : decode cX12_isAlike 48 = .ok (.iaload, 1) := by decide +kernel
theorem dX12_isAlike_49 : decode cX12_isAlike 49 = .ok (.iaload, 1) := by decide +kernel
theorem dX12_isAlike_50 : decode cX12_isAlike 50 = .ok (.aload_n 0, 1) := by decide +kernel
theorem dX12_isAlike_51 : decode cX12_isAlike 51 = .ok (.getfield 65, 3) := by decide +kernel
theorem dX12_isAlike_54 : decode cX12_isAlike 54 = .ok (.aload_n 0, 1) := by decide +kernel
theorem dX12_isAlike_55 : decode cX12_isAlike 55 = .ok (.getfield 53, 3) := by decide +kernel
theorem dX12_isAlike_58 : decode cX12_isAlike 58 = .ok (.iconst 3, 1) := by decide +kernel
theorem dX12_isAlike_59 : decode cX12_isAlike 59 = .ok (.iload_n 2, 1) := by decide +kernel
theorem dX12_isAlike_60 : decode cX12_isAlike 60 = .ok (.imul, 1) := by decide +kernel
theorem dX12_isAlike_61 : decode cX12_isAlike 61 = .ok (.iload 4, 2) := by decide +kernel
theorem dX12_isAlike_63 : decode cX12_isAlike 63 = .ok (.iadd, 1) := by decide +kernel
theorem dX12_isAlike_64 : decode cX12_isAlike 64 = .ok (.iaload, 1) := by decide +kernel
theorem dX12_isAlike_65 : decode cX12_isAlike 65 = .ok (.iaload, 1) := by decide +kernel
theorem dX12_isAlike_66 : decode cX12_isAlike 66 = .ok (.if_icmp .ne 7, 3) := by decide +kernel
theorem dX12_isAlike_69 : decode cX12_isAlike 69 = .ok (.iconst 1, 1) := by decide +kernel
theorem dX12_isAlike_70 : decode cX12_isAlike 70 = .ok (.goto 4, 3) := by decide +kernel
theorem dX12_isAlike_73 : decode cX12_isAlike 73 = .ok (.iconst 0, 1) := by decide +kernel
theorem dX12_isAlike_74 : decode cX12_isAlike 74 = .ok (.istore_n 3, 1) := by decide +kernel
theorem dX12_isAlike_75 : decode cX12_isAlike 75 = .ok (.iinc 4 1, 3) := by decide +kernel
theorem dX12_isAlike_78 : decode cX12_isAlike 78 = .ok (.goto (-54), 3) := by decide +kernel
theorem dX12_isAlike_81 : decode cX12_isAlike 81 = .ok (.iload_n 3, 1) := by decide +kernel
theorem dX12_isAlike_82 : decode cX12_isAlike 82 = .ok (.ireturn, 1) := by decide +kernel
theorem dX12_parts_0 : decode cX12_parts 0 = .ok (.iconst 0, 1) := by decide +kernel
theorem dX12_parts_1 : decode cX12_parts 1 = .ok (.istore_n 1, 1) := by decide +kernel
theorem dX12_parts_2 : decode cX12_parts 2 = .ok (.iload_n 1, 1) := by decide +kernel
theorem dX12_parts_3 : decode cX12_parts 3 = .ok (.aload_n 0, 1) := by decide +kernel
theorem dX12_parts_4 : decode cX12_parts 4 = .ok (.getfield 153, 3) := by decide +kernel
theorem dX12_parts_7 : decode cX12_parts 7 = .ok (.if_icmp .ge 35, 3) := by decide +kernel
theorem dX12_parts_10 : decode cX12_parts 10 = .ok (.aload_n 0, 1) := by decide +kernel
theorem dX12_parts_11 : decode cX12_parts 11 = .ok (.getfield 65, 3) := by decide +kernel
theorem dX12_parts_14 : decode cX12_parts 14 = .ok (.iload_n 1, 1) := by decide +kernel
theorem dX12_parts_15 : decode cX12_parts 15 = .ok (.aload_n 0, 1) := by decide +kernel
theorem dX12_parts_16 : decode cX12_parts 16 = .ok (.getfield 56, 3) := by decide +kernel
theorem dX12_parts_19 : decode cX12_parts 19 = .ok (.iload_n 1, 1) := by decide +kernel
theorem dX12_parts_20 : decode cX12_parts 20 = .ok (.baload, 1) := by decide +kernel
theorem dX12_parts_21 : decode cX12_parts 21 = .ok (.aload_n 0, 1) := by decide +kernel
theorem dX12_parts_22 : decode cX12_parts 22 = .ok (.getfield 56, 3) := by decide +kernel
theorem dX12_parts_25 : decode cX12_parts 25 = .ok (.iconst 0, 1) := by decide +kernel
theorem dX12_parts_26 : decode cX12_parts 26 = .ok (.baload, 1) := by decide +kernel
theorem dX12_parts_27 : decode cX12_parts 27 = .ok (.if_icmp .ne 7, 3) := by decide +kernel
theorem dX12_parts_30 : decode cX12_parts 30 = .ok (.iconst 0, 1) := by decide +kernel
theorem dX12_parts_31 : decode cX12_parts 31 = .ok (.goto 4, 3) := by decide +kernel
theorem dX12_parts_34 : decode cX12_parts 34 = .ok (.iconst 1, 1) := by decide +kernel
theorem dX12_parts_35 : decode cX12_parts 35 = .ok (.iastore, 1) := by decide +kernel
theorem dX12_parts_36 : decode cX12_parts 36 = .ok (.iinc 1 1, 3) := by decide +kernel
theorem dX12_parts_39 : decode cX12_parts 39 = .ok (.goto (-37), 3) := by decide +kernel
theorem dX12_parts_42 : decode cX12_parts 42 = .ok (.iconst 0, 1) := by decide +kernel
theorem dX12_parts_43 : decode cX12_parts 43 = .ok (.istore_n 1, 1) := by decide +kernel
theorem dX12_parts_44 : decode cX12_parts 44 = .ok (.aload_n 0, 1) := by decide +kernel
theorem dX12_parts_45 : decode cX12_parts 45 = .ok (.iconst (-1), 1) := by decide +kernel
theorem dX12_parts_46 : decode cX12_parts 46 = .ok (.putfield 222, 3) := by decide +kernel
theorem dX12_parts_49 : decode cX12_parts 49 = .ok (.aload_n 0, 1) := by decide +kernel
theorem dX12_parts_50 : decode cX12_parts 50 = .ok (.getfield 222, 3) := by decide +kernel
theorem dX12_parts_53 : decode cX12_parts 53 = .ok (.iload_n 1, 1) := by decide +kernel
theorem dX12_parts_54 : decode cX12_parts 54 = .ok (.if_icmp .eq 125, 3) := by decide +kernel
theorem dX12_parts_57 : decode cX12_parts 57 = .ok (.aload_n 0, 1) := by decide +kernel
theorem dX12_parts_58 : decode cX12_parts 58 = .ok (.getfield 222, 3) := by decide +kernel
theorem dX12_parts_61 : decode cX12_parts 61 = .ok (.istore_n 1, 1) := by decide +kernel
theorem dX12_parts_62 : decode cX12_parts 62 = .ok (.aload_n 0, 1) := by decide +kernel
theorem dX12_parts_63 : decode cX12_parts 63 = .ok (.iconst 0, 1) := by decide +kernel
theorem dX12_parts_64 : decode cX12_parts 64 = .ok (.putfield 222, 3) := by decide +kernel
theorem dX12_parts_67 : decode cX12_parts 67 = .ok (.iconst 0, 1) := by decide +kernel
theorem dX12_parts_68 : decode cX12_parts 68 = .ok (.istore_n 2, 1) := by decide +kernel
theorem dX12_parts_69 : decode cX12_parts 69 = .ok (.iload_n 2, 1) := by decide +kernel
theorem dX12_parts_70 : decode cX12_parts 70 = .ok (.aload_n 0, 1) := by decide +kernel
theorem dX12_parts_71 : decode cX12_parts 71 = .ok (.getfield 153, 3) := by decide +kernel
theorem dX12_parts_74 : decode cX12_parts 74 = .ok (.if_icmp .ge 74, 3) := by decide +kernel
theorem dX12_parts_77 : decode cX12_parts 77 = .ok (.iconst 0, 1) := by decide +kernel
theorem dX12_parts_78 : decode cX12_parts 78 = .ok (.istore_n 3, 1) := by decide +kernel
theorem dX12_parts_79 : decode cX12_parts 79 = .ok (.iload_n 3, 1) := by decide +kernel
theorem dX12_parts_80 : decode cX12_parts 80 = .ok (.iload_n 2, 1) := by decide +kernel
theorem dX12_parts_81 : decode cX12_parts 81 = .ok (.if_icmp .ge 18, 3) := by decide +kernel
theorem dX12_parts_84 : decode cX12_parts 84 = .ok (.aload_n 0, 1) := by decide +kernel
theorem dX12_parts_85 : decode cX12_parts 85 = .ok (.iload_n 2, 1) := by decide +kernel
theorem dX12_parts_86 : decode cX12_parts 86 = .ok (.iload_n 3, 1) := by decide +kernel
theorem dX12_parts_87 : decode cX12_parts 87 = .ok (.invokevirtual 225, 3) := by decide +kernel
theorem dX12_parts_90 : decode cX12_parts 90 = .ok (.ifCond .ne 9, 3) := by decide +kernel
theorem dX12_parts_93 : decode cX12_parts 93 = .ok (.iinc 3 1, 3) := by decide +kernel
theorem dX12_parts_96 : decode cX12_parts 96 = .ok (.goto (-17), 3) := by decide +kernel
theorem dX12_parts_99 : decode cX12_parts 99 = .ok (.aload_n 0, 1) := by decide +kernel
theorem dX12_parts_100 : decode cX12_parts 100 = .ok (.getfield 68, 3) := by decide +kernel
theorem dX12_parts_103 : decode cX12_parts 103 = .ok (.iload_n 2, 1) := by decide +kernel
theorem dX12_parts_104 : decode cX12_parts 104 = .ok (.iload_n 3, 1) := by decide +kernel
theorem dX12_parts_105 : decode cX12_parts 105 = .ok (.iload_n 2, 1) := by decide +kernel
theorem dX12_parts_106 : decode cX12_parts 106 = .ok (.if_icmp .ge 12, 3) := by decide +kernel
theorem dX12_parts_109 : decode cX12_parts 109 = .ok (.aload_n 0, 1) := by decide +kernel
theorem dX12_parts_110 : decode cX12_parts 110 = .ok (.getfield 68, 3) := by decide +kernel
theorem dX12_parts_113 : decode cX12_parts 113 = .ok (.iload_n 3, 1) := by decide +kernel
theorem dX12_parts_114 : decode cX12_parts 114 = .ok (.iaload, 1) := by decide +kernel
theorem dX12_parts_115 : decode cX12_parts 115 = .ok (.goto 7, 3) := by decide +kernel
theorem dX12_parts_118 : decode cX12_parts 118 = .ok (.aload_n 0, 1) := by decide +kernel
theorem dX12_parts_119 : decode cX12_parts 119 = .ok (.getfield 222, 3) := by decide +kernel
theorem dX12_parts_122 : decode cX12_parts 122 = .ok (.iastore, 1) := by decide +kernel
theorem dX12_parts_123 : decode cX12_parts 123 = .ok (.aload_n 0, 1) := by decide +kernel
theorem dX12_parts_124 : decode cX12_parts 124 = .ok (.dup, 1) := by decide +kernel
theorem dX12_parts_125 : decode cX12_parts 125 = .ok (.getfield 222, 3) := by decide +kernel
theorem dX12_parts_128 : decode cX12_parts 128 = .ok (.iload_n 3, 1) := by decide +kernel
theorem dX12_parts_129 : decode cX12_parts 129 = .ok (.iload_n 2, 1) := by decide +kernel
theorem dX12_parts_130 : decode cX12_parts 130 = .ok (.if_icmp .ge 7, 3) := by decide +kernel
theorem dX12_parts_133 : decode cX12_parts 133 = .ok (.iconst 0, 1) := by decide +kernel
theorem dX12_parts_134 : decode cX12_parts 134 = .ok (.goto 4, 3) := by decide +kernel
theorem dX12_parts_137 : decode cX12_parts 137 = .ok (.iconst 1, 1) := by decide +kernel
theorem dX12_parts_138 : decode cX12_parts 138 = .ok (.iadd, 1) := by decide +kernel
theorem dX12_parts_139 : decode cX12_parts 139 = .ok (.putfield 222, 3) := by decide +kernel
theorem dX12_parts_142 : decode cX12_parts 142 = .ok (.iinc 2 1, 3) := by decide +kernel
theorem dX12_parts_145 : decode cX12_parts 145 = .ok (.goto (-76), 3) := by decide +kernel
theorem dX12_parts_148 : decode cX12_parts 148 = .ok (.iconst 0, 1) := by decide +kernel
theorem dX12_parts_149 : decode cX12_parts 149 = .ok (.istore_n 2, 1) := by decide +kernel
theorem dX12_parts_150 : decode cX12_parts 150 = .ok (.iload_n 2, 1) := by decide +kernel
theorem dX12_parts_151 : decode cX12_parts 151 = .ok (.aload_n 0, 1) := by decide +kernel
theorem dX12_parts_152 : decode cX12_parts 152 = .ok (.getfield 153, 3) := by decide +kernel
theorem dX12_parts_155 : decode cX12_parts 155 = .ok (.if_icmp .ge 21, 3) := by decide +kernel
theorem dX12_parts_158 : decode cX12_parts 158 = .ok (.aload_n 0, 1) := by decide +kernel
theorem dX12_parts_159 : decode cX12_parts 159 = .ok (.getfield 65, 3) := by decide +kernel
theorem dX12_parts_162 : decode cX12_parts 162 = .ok (.iload_n 2, 1) := by decide +kernel
theorem dX12_parts_163 : decode cX12_parts 163 = .ok (.aload_n 0, 1) := by decide +kernel
theorem dX12_parts_164 : decode cX12_parts 164 = .ok (.getfield 68, 3) := by decide +kernel
theorem dX12_parts_167 : decode cX12_parts 167 = .ok (.iload_n 2, 1) := by decide +kernel
theorem dX12_parts_168 : decode cX12_parts 168 = .ok (.iaload, 1) := by decide +kernel
theorem dX12_parts_169 : decode cX12_parts 169 = .ok (.iastore, 1) := by decide +kernel
theorem dX12_parts_170 : decode cX12_parts 170 = .ok (.iinc 2 1, 3) := by decide +kernel
theorem dX12_parts_173 : decode cX12_parts 173 = .ok (.goto (-23), 3) := by decide +kernel
theorem dX12_parts_176 : decode cX12_parts 176 = .ok (.goto (-127), 3) := by decide +kernel
theorem dX12_parts_179 : decode cX12_parts 179 = .ok (.return_, 1) := by decide +kernel
theorem dX12_nodeOfClass_0 : decode cX12_nodeOfClass 0 = .ok (.iconst 0, 1) := by decide +kernel
theorem dX12_nodeOfClass_1 : decode cX12_nodeOfClass 1 = .ok (.istore_n 2, 1) := by decide +kernel
theorem dX12_nodeOfClass_2 : decode cX12_nodeOfClass 2 = .ok (.aload_n 0, 1) := by decide +kernel
theorem dX12_nodeOfClass_3 : decode cX12_nodeOfClass 3 = .ok (.getfield 65, 3) := by decide +kernel
theorem dX12_nodeOfClass_6 : decode cX12_nodeOfClass 6 = .ok (.iload_n 2, 1) := by decide +kernel
theorem dX12_nodeOfClass_7 : decode cX12_nodeOfClass 7 = .ok (.iaload, 1) := by decide +kernel
theorem dX12_nodeOfClass_8 : decode cX12_nodeOfClass 8 = .ok (.iload_n 1, 1) := by decide +kernel
theorem dX12_nodeOfClass_9 : decode cX12_nodeOfClass 9 = .ok (.if_icmp .eq 9, 3) := by decide +kernel
theorem dX12_nodeOfClass_12 : decode cX12_nodeOfClass 12 = .ok (.iinc 2 1, 3) := by decide +kernel
theorem dX12_nodeOfClass_15 : decode cX12_nodeOfClass 15 = .ok (.goto (-13), 3) := by decide +kernel
theorem dX12_nodeOfClass_18 : decode cX12_nodeOfClass 18 = .ok (.iload_n 2, 1) := by decide +kernel
theorem dX12_nodeOfClass_19 : decode cX12_nodeOfClass 19 = .ok (.ireturn, 1) := by decide +kernel
theorem dX12_stores_0 : decode cX12_stores 0 = .ok (.aload_n 0, 1) := by decide +kernel
theorem dX12_stores_1 : decode cX12_stores 1 = .ok (.getfield 222, 3) := by decide +kernel
theorem dX12_stores_4 : decode cX12_stores 4 = .ok (.istore_n 2, 1) := by decide +kernel
theorem dX12_stores_5 : decode cX12_stores 5 = .ok (.iconst 0, 1) := by decide +kernel
theorem dX12_stores_6 : decode cX12_stores 6 = .ok (.istore_n 3, 1) := by decide +kernel
theorem dX12_stores_7 : decode cX12_stores 7 = .ok (.iload_n 3, 1) := by decide +kernel
theorem dX12_stores_8 : decode cX12_stores 8 = .ok (.iload_n 2, 1) := by decide +kernel
theorem dX12_stores_9 : decode cX12_stores 9 = .ok (.if_icmp .ge 78, 3) := by decide +kernel
theorem dX12_stores_12 : decode cX12_stores 12 = .ok (.aload_n 0, 1) := by decide +kernel
theorem dX12_stores_13 : decode cX12_stores 13 = .ok (.iload_n 3, 1) := by decide +kernel
theorem dX12_stores_14 : decode cX12_stores 14 = .ok (.invokevirtual 228, 3) := by decide +kernel
theorem dX12_stores_17 : decode cX12_stores 17 = .ok (.istore 4, 2) := by decide +kernel
theorem dX12_stores_19 : decode cX12_stores 19 = .ok (.aload_n 0, 1) := by decide +kernel
theorem dX12_stores_20 : decode cX12_stores 20 = .ok (.getfield 16, 3) := by decide +kernel
theorem dX12_stores_23 : decode cX12_stores 23 = .ok (.bipush 6, 2) := by decide +kernel
theorem dX12_stores_25 : decode cX12_stores 25 = .ok (.iload_n 1, 1) := by decide +kernel
theorem dX12_stores_26 : decode cX12_stores 26 = .ok (.imul, 1) := by decide +kernel
theorem dX12_stores_27 : decode cX12_stores 27 = .ok (.iload_n 3, 1) := by decide +kernel
theorem dX12_stores_28 : decode cX12_stores 28 = .ok (.iadd, 1) := by decide +kernel
theorem dX12_stores_29 : decode cX12_stores 29 = .ok (.aload_n 0, 1) := by decide +kernel
theorem dX12_stores_30 : decode cX12_stores 30 = .ok (.getfield 56, 3) := by decide +kernel
theorem dX12_stores_33 : decode cX12_stores 33 = .ok (.iload 4, 2) := by decide +kernel
theorem dX12_stores_35 : decode cX12_stores 35 = .ok (.baload, 1) := by decide +kernel
theorem dX12_stores_36 : decode cX12_stores 36 = .ok (.bastore, 1) := by decide +kernel
theorem dX12_stores_37 : decode cX12_stores 37 = .ok (.iconst 0, 1) := by decide +kernel
theorem dX12_stores_38 : decode cX12_stores 38 = .ok (.istore 5, 2) := by decide +kernel
theorem dX12_stores_40 : decode cX12_stores 40 = .ok (.iload 5, 2) := by decide +kernel
theorem dX12_stores_42 : decode cX12_stores 42 = .ok (.iconst 3, 1) := by decide +kernel
theorem dX12_stores_43 : decode cX12_stores 43 = .ok (.if_icmp .ge 38, 3) := by decide +kernel
theorem dX12_stores_46 : decode cX12_stores 46 = .ok (.aload_n 0, 1) := by decide +kernel
theorem dX12_stores_47 : decode cX12_stores 47 = .ok (.getfield 13, 3) := by decide +kernel
theorem dX12_stores_50 : decode cX12_stores 50 = .ok (.iload_n 1, 1) := by decide +kernel
theorem dX12_stores_51 : decode cX12_stores 51 = .ok (.iload_n 3, 1) := by decide +kernel
theorem dX12_stores_52 : decode cX12_stores 52 = .ok (.iload 5, 2) := by decide +kernel
theorem dX12_stores_54 : decode cX12_stores 54 = .ok (.invokestatic 110, 3) := by decide +kernel
theorem dX12_stores_57 : decode cX12_stores 57 = .ok (.aload_n 0, 1) := by decide +kernel
theorem dX12_stores_58 : decode cX12_stores 58 = .ok (.getfield 65, 3) := by decide +kernel
theorem dX12_stores_61 : decode cX12_stores 61 = .ok (.aload_n 0, 1) := by decide +kernel
theorem dX12_stores_62 : decode cX12_stores 62 = .ok (.getfield 53, 3) := by decide +kernel
theorem dX12_stores_65 : decode cX12_stores 65 = .ok (.iconst 3, 1) := by decide +kernel
theorem dX12_stores_66 : decode cX12_stores 66 = .ok (.iload 4, 2) := by decide +kernel
theorem dX12_stores_68 : decode cX12_stores 68 = .ok (.imul, 1) := by decide +kernel
theorem dX12_stores_69 : decode cX12_stores 69 = .ok (.iload 5, 2) := by decide +kernel
theorem dX12_stores_71 : decode cX12_stores 71 = .ok (.iadd, 1) := by decide +kernel
theorem dX12_stores_72 : decode cX12_stores 72 = .ok (.iaload, 1) := by decide +kernel
theorem dX12_stores_73 : decode cX12_stores 73 = .ok (.iaload, 1) := by decide +kernel
theorem dX12_stores_74 : decode cX12_stores 74 = .ok (.iastore, 1) := by decide +kernel
theorem dX12_stores_75 : decode cX12_stores 75 = .ok (.iinc 5 1, 3) := by decide +kernel
theorem dX12_stores_78 : decode cX12_stores 78 = .ok (.goto (-38), 3) := by decide +kernel
theorem dX12_stores_81 : decode cX12_stores 81 = .ok (.iinc 3 1, 3) := by decide +kernel
theorem dX12_stores_84 : decode cX12_stores 84 = .ok (.goto (-77), 3) := by decide +kernel
theorem dX12_stores_87 : decode cX12_stores 87 = .ok (.iload_n 2, 1) := by decide +kernel
theorem dX12_stores_88 : decode cX12_stores 88 = .ok (.istore_n 3, 1) := by decide +kernel
theorem dX12_stores_89 : decode cX12_stores 89 = .ok (.iload_n 3, 1) := by decide +kernel
theorem dX12_stores_90 : decode cX12_stores 90 = .ok (.bipush 6, 2) := by decide +kernel
theorem dX12_stores_92 : decode cX12_stores 92 = .ok (.if_icmp .ge 49, 3) := by decide +kernel
theorem dX12_stores_95 : decode cX12_stores 95 = .ok (.aload_n 0, 1) := by decide +kernel
theorem dX12_stores_96 : decode cX12_stores 96 = .ok (.getfield 16, 3) := by decide +kernel
theorem dX12_stores_99 : decode cX12_stores 99 = .ok (.bipush 6, 2) := by decide +kernel
theorem dX12_stores_101 : decode cX12_stores 101 = .ok (.iload_n 1, 1) := by decide +kernel
theorem dX12_stores_102 : decode cX12_stores 102 = .ok (.imul, 1) := by decide +kernel
theorem dX12_stores_103 : decode cX12_stores 103 = .ok (.iload_n 3, 1) := by decide +kernel
theorem dX12_stores_104 : decode cX12_stores 104 = .ok (.iadd, 1) := by decide +kernel
theorem dX12_stores_105 : decode cX12_stores 105 = .ok (.iconst 0, 1) := by decide +kernel
theorem dX12_stores_106 : decode cX12_stores 106 = .ok (.bastore, 1) := by decide +kernel
theorem dX12_stores_107 : decode cX12_stores 107 = .ok (.iconst 0, 1) := by decide +kernel
theorem dX12_stores_108 : decode cX12_stores 108 = .ok (.istore 4, 2) := by decide +kernel
theorem dX12_stores_110 : decode cX12_stores 110 = .ok (.iload 4, 2) := by decide +kernel
theorem dX12_stores_112 : decode cX12_stores 112 = .ok (.iconst 3, 1) := by decide +kernel
theorem dX12_stores_113 : decode cX12_stores 113 = .ok (.if_icmp .ge 22, 3) := by decide +kernel
theorem dX12_stores_116 : decode cX12_stores 116 = .ok (.aload_n 0, 1) := by decide +kernel
theorem dX12_stores_117 : decode cX12_stores 117 = .ok (.getfield 13, 3) := by decide +kernel
theorem dX12_stores_120 : decode cX12_stores 120 = .ok (.iload_n 1, 1) := by decide +kernel
theorem dX12_stores_121 : decode cX12_stores 121 = .ok (.iload_n 3, 1) := by decide +kernel
theorem dX12_stores_122 : decode cX12_stores 122 = .ok (.iload 4, 2) := by decide +kernel
theorem dX12_stores_124 : decode cX12_stores 124 = .ok (.invokestatic 110, 3) := by decide +kernel
theorem dX12_stores_127 : decode cX12_stores 127 = .ok (.iconst 0, 1) := by decide +kernel
theorem dX12_stores_128 : decode cX12_stores 128 = .ok (.iastore, 1) := by decide +kernel
theorem dX12_stores_129 : decode cX12_stores 129 = .ok (.iinc 4 1, 3) := by decide +kernel
theorem dX12_stores_132 : decode cX12_stores 132 = .ok (.goto (-22), 3) := by decide +kernel
theorem dX12_stores_135 : decode cX12_stores 135 = .ok (.iinc 3 1, 3) := by decide +kernel
theorem dX12_stores_138 : decode cX12_stores 138 = .ok (.goto (-49), 3) := by decide +kernel
theorem dX12_stores_141 : decode cX12_stores 141 = .ok (.aload_n 0, 1) := by decide +kernel
theorem dX12_stores_142 : decode cX12_stores 142 = .ok (.getfield 7, 3) := by decide +kernel
theorem dX12_stores_145 : decode cX12_stores 145 = .ok (.iload_n 1, 1) := by decide +kernel
theorem dX12_stores_146 : decode cX12_stores 146 = .ok (.iload_n 2, 1) := by decide +kernel
theorem dX12_stores_147 : decode cX12_stores 147 = .ok (.iastore, 1) := by decide +kernel
theorem dX12_stores_148 : decode cX12_stores 148 = .ok (.aload_n 0, 1) := by decide +kernel
theorem dX12_stores_149 : decode cX12_stores 149 = .ok (.iload_n 2, 1) := by decide +kernel
theorem dX12_stores_150 : decode cX12_stores 150 = .ok (.invokevirtual 132, 3) := by decide +kernel
theorem dX12_stores_153 : decode cX12_stores 153 = .ok (.ireturn, 1) := by decide +kernel
theorem dX12_size_0 : decode cX12_size 0 = .ok (.iload_n 1, 1) := by decide +kernel
theorem dX12_size_1 : decode cX12_size 1 = .ok (.invokestatic 106, 3) := by decide +kernel
theorem dX12_size_4 : decode cX12_size 4 = .ok (.ifCond .ne 9, 3) := by decide +kernel
theorem dX12_size_7 : decode cX12_size 7 = .ok (.aload_n 0, 1) := by decide +kernel
theorem dX12_size_8 : decode cX12_size 8 = .ok (.iconst 1, 1) := by decide +kernel
theorem dX12_size_9 : decode cX12_size 9 = .ok (.invokevirtual 136, 3) := by decide +kernel
theorem dX12_size_12 : decode cX12_size 12 = .ok (.ireturn, 1) := by decide +kernel
theorem dX12_size_13 : decode cX12_size 13 = .ok (.aload_n 0, 1) := by decide +kernel
theorem dX12_size_14 : decode cX12_size 14 = .ok (.bipush 8, 2) := by decide +kernel
theorem dX12_size_16 : decode cX12_size 16 = .ok (.iload_n 1, 1) := by decide +kernel
theorem dX12_size_17 : decode cX12_size 17 = .ok (.iload_n 1, 1) := by decide +kernel
theorem dX12_size_18 : decode cX12_size 18 = .ok (.invokevirtual 231, 3) := by decide +kernel
theorem dX12_size_21 : decode cX12_size 21 = .ok (.aload_n 0, 1) := by decide +kernel
theorem dX12_size_22 : decode cX12_size 22 = .ok (.aload_n 0, 1) := by decide +kernel
theorem dX12_size_23 : decode cX12_size 23 = .ok (.getfield 222, 3) := by decide +kernel
theorem dX12_size_26 : decode cX12_size 26 = .ok (.invokevirtual 132, 3) := by decide +kernel
theorem dX12_size_29 : decode cX12_size 29 = .ok (.ireturn, 1) := by decide +kernel
theorem dX12_minimize_0 : decode cX12_minimize 0 = .ok (.iload_n 1, 1) := by decide +kernel
theorem dX12_minimize_1 : decode cX12_minimize 1 = .ok (.invokestatic 106, 3) := by decide +kernel
theorem dX12_minimize_4 : decode cX12_minimize 4 = .ok (.ifCond .ne 9, 3) := by decide +kernel
theorem dX12_minimize_7 : decode cX12_minimize 7 = .ok (.aload_n 0, 1) := by decide +kernel
theorem dX12_minimize_8 : decode cX12_minimize 8 = .ok (.iconst 1, 1) := by decide +kernel
theorem dX12_minimize_9 : decode cX12_minimize 9 = .ok (.invokevirtual 136, 3) := by decide +kernel
theorem dX12_minimize_12 : decode cX12_minimize 12 = .ok (.ireturn, 1) := by decide +kernel
theorem dX12_minimize_13 : decode cX12_minimize 13 = .ok (.aload_n 0, 1) := by decide +kernel
theorem dX12_minimize_14 : decode cX12_minimize 14 = .ok (.bipush 8, 2) := by decide +kernel
theorem dX12_minimize_16 : decode cX12_minimize 16 = .ok (.iload_n 1, 1) := by decide +kernel
theorem dX12_minimize_17 : decode cX12_minimize 17 = .ok (.iload_n 1, 1) := by decide +kernel
theorem dX12_minimize_18 : decode cX12_minimize 18 = .ok (.invokevirtual 231, 3) := by decide +kernel
theorem dX12_minimize_21 : decode cX12_minimize 21 = .ok (.aload_n 0, 1) := by decide +kernel
theorem dX12_minimize_22 : decode cX12_minimize 22 = .ok (.iload_n 1, 1) := by decide +kernel
theorem dX12_minimize_23 : decode cX12_minimize 23 = .ok (.invokevirtual 235, 3) := by decide +kernel
theorem dX12_minimize_26 : decode cX12_minimize 26 = .ok (.ireturn, 1) := by decide +kernel
theorem dX12_quotientOfWord_0 : decode cX12_quotientOfWord 0 = .ok (.iload_n 1, 1) := by decide +kernel
theorem dX12_quotientOfWord_1 : decode cX12_quotientOfWord 1 = .ok (.invokestatic 106, 3) := by decide +kernel
theorem dX12_quotientOfWord_4 : decode cX12_quotientOfWord 4 = .ok (.ifCond .ne 9, 3) := by decide +kernel
theorem dX12_quotientOfWord_7 : decode cX12_quotientOfWord 7 = .ok (.aload_n 0, 1) := by decide +kernel
theorem dX12_quotientOfWord_8 : decode cX12_quotientOfWord 8 = .ok (.iconst 1, 1) := by decide +kernel
theorem dX12_quotientOfWord_9 : decode cX12_quotientOfWord 9 = .ok (.invokevirtual 136, 3) := by decide +kernel
theorem dX12_quotientOfWord_12 : decode cX12_quotientOfWord 12 = .ok (.ireturn, 1) := by decide +kernel
theorem dX12_quotientOfWord_13 : decode cX12_quotientOfWord 13 = .ok (.aload_n 0, 1) := by decide +kernel
theorem dX12_quotientOfWord_14 : decode cX12_quotientOfWord 14 = .ok (.bipush 8, 2) := by decide +kernel
theorem dX12_quotientOfWord_16 : decode cX12_quotientOfWord 16 = .ok (.iload_n 1, 1) := by decide +kernel
theorem dX12_quotientOfWord_17 : decode cX12_quotientOfWord 17 = .ok (.iload_n 1, 1) := by decide +kernel
theorem dX12_quotientOfWord_18 : decode cX12_quotientOfWord 18 = .ok (.invokevirtual 231, 3) := by decide +kernel
theorem dX12_quotientOfWord_21 : decode cX12_quotientOfWord 21 = .ok (.iconst 0, 1) := by decide +kernel
theorem dX12_quotientOfWord_22 : decode cX12_quotientOfWord 22 = .ok (.istore_n 2, 1) := by decide +kernel
theorem dX12_quotientOfWord_23 : decode cX12_quotientOfWord 23 = .ok (.iconst 0, 1) := by decide +kernel
theorem dX12_quotientOfWord_24 : decode cX12_quotientOfWord 24 = .ok (.istore_n 3, 1) := by decide +kernel
theorem dX12_quotientOfWord_25 : decode cX12_quotientOfWord 25 = .ok (.iload_n 3, 1) := by decide +kernel
theorem dX12_quotientOfWord_26 : decode cX12_quotientOfWord 26 = .ok (.aload_n 0, 1) := by decide +kernel
theorem dX12_quotientOfWord_27 : decode cX12_quotientOfWord 27 = .ok (.getfield 146, 3) := by decide +kernel
theorem dX12_quotientOfWord_30 : decode cX12_quotientOfWord 30 = .ok (.if_icmp .ge 25, 3) := by decide +kernel
theorem dX12_quotientOfWord_33 : decode cX12_quotientOfWord 33 = .ok (.aload_n 0, 1) := by decide +kernel
theorem dX12_quotientOfWord_34 : decode cX12_quotientOfWord 34 = .ok (.getfield 53, 3) := by decide +kernel
theorem dX12_quotientOfWord_37 : decode cX12_quotientOfWord 37 = .ok (.iconst 3, 1) := by decide +kernel
theorem dX12_quotientOfWord_38 : decode cX12_quotientOfWord 38 = .ok (.iload_n 2, 1) := by decide +kernel
theorem dX12_quotientOfWord_39 : decode cX12_quotientOfWord 39 = .ok (.imul, 1) := by decide +kernel
theorem dX12_quotientOfWord_40 : decode cX12_quotientOfWord 40 = .ok (.aload_n 0, 1) := by decide +kernel
theorem dX12_quotientOfWord_41 : decode cX12_quotientOfWord 41 = .ok (.getfield 20, 3) := by decide +kernel
theorem dX12_quotientOfWord_44 : decode cX12_quotientOfWord 44 = .ok (.iload_n 3, 1) := by decide +kernel
theorem dX12_quotientOfWord_45 : decode cX12_quotientOfWord 45 = .ok (.iaload, 1) := by decide +kernel
theorem dX12_quotientOfWord_46 : decode cX12_quotientOfWord 46 = .ok (.iadd, 1) := by decide +kernel
theorem dX12_quotientOfWord_47 : decode cX12_quotientOfWord 47 = .ok (.iaload, 1) := by decide +kernel
theorem dX12_quotientOfWord_48 : decode cX12_quotientOfWord 48 = .ok (.istore_n 2, 1) := by decide +kernel
theorem dX12_quotientOfWord_49 : decode cX12_quotientOfWord 49 = .ok (.iinc 3 1, 3) := by decide +kernel
theorem dX12_quotientOfWord_52 : decode cX12_quotientOfWord 52 = .ok (.goto (-27), 3) := by decide +kernel
theorem dX12_quotientOfWord_55 : decode cX12_quotientOfWord 55 = .ok (.aload_n 0, 1) := by decide +kernel
theorem dX12_quotientOfWord_56 : decode cX12_quotientOfWord 56 = .ok (.aload_n 0, 1) := by decide +kernel
theorem dX12_quotientOfWord_57 : decode cX12_quotientOfWord 57 = .ok (.getfield 65, 3) := by decide +kernel
theorem dX12_quotientOfWord_60 : decode cX12_quotientOfWord 60 = .ok (.iload_n 2, 1) := by decide +kernel
theorem dX12_quotientOfWord_61 : decode cX12_quotientOfWord 61 = .ok (.iaload, 1) := by decide +kernel
theorem dX12_quotientOfWord_62 : decode cX12_quotientOfWord 62 = .ok (.invokevirtual 132, 3) := by decide +kernel
theorem dX12_quotientOfWord_65 : decode cX12_quotientOfWord 65 = .ok (.ireturn, 1) := by decide +kernel
theorem dX12_tellAtoms_0 : decode cX12_tellAtoms 0 = .ok (.aload_n 0, 1) := by decide +kernel
theorem dX12_tellAtoms_1 : decode cX12_tellAtoms 1 = .ok (.bipush 8, 2) := by decide +kernel
theorem dX12_tellAtoms_3 : decode cX12_tellAtoms 3 = .ok (.iload_n 1, 1) := by decide +kernel
theorem dX12_tellAtoms_4 : decode cX12_tellAtoms 4 = .ok (.iload_n 1, 1) := by decide +kernel
theorem dX12_tellAtoms_5 : decode cX12_tellAtoms 5 = .ok (.invokevirtual 231, 3) := by decide +kernel
theorem dX12_tellAtoms_8 : decode cX12_tellAtoms 8 = .ok (.aload_n 0, 1) := by decide +kernel
theorem dX12_tellAtoms_9 : decode cX12_tellAtoms 9 = .ok (.aload_n 0, 1) := by decide +kernel
theorem dX12_tellAtoms_10 : decode cX12_tellAtoms 10 = .ok (.getfield 222, 3) := by decide +kernel
theorem dX12_tellAtoms_13 : decode cX12_tellAtoms 13 = .ok (.putfield 238, 3) := by decide +kernel
theorem dX12_tellAtoms_16 : decode cX12_tellAtoms 16 = .ok (.iconst 0, 1) := by decide +kernel
theorem dX12_tellAtoms_17 : decode cX12_tellAtoms 17 = .ok (.istore_n 2, 1) := by decide +kernel
theorem dX12_tellAtoms_18 : decode cX12_tellAtoms 18 = .ok (.iload_n 2, 1) := by decide +kernel
theorem dX12_tellAtoms_19 : decode cX12_tellAtoms 19 = .ok (.aload_n 0, 1) := by decide +kernel
theorem dX12_tellAtoms_20 : decode cX12_tellAtoms 20 = .ok (.getfield 238, 3) := by decide +kernel
theorem dX12_tellAtoms_23 : decode cX12_tellAtoms 23 = .ok (.if_icmp .ge 26, 3) := by decide +kernel
theorem dX12_tellAtoms_26 : decode cX12_tellAtoms 26 = .ok (.aload_n 0, 1) := by decide +kernel
theorem dX12_tellAtoms_27 : decode cX12_tellAtoms 27 = .ok (.getfield 71, 3) := by decide +kernel
theorem dX12_tellAtoms_30 : decode cX12_tellAtoms 30 = .ok (.iload_n 2, 1) := by decide +kernel
theorem dX12_tellAtoms_31 : decode cX12_tellAtoms 31 = .ok (.aload_n 0, 1) := by decide +kernel
theorem dX12_tellAtoms_32 : decode cX12_tellAtoms 32 = .ok (.getfield 49, 3) := by decide +kernel
theorem dX12_tellAtoms_35 : decode cX12_tellAtoms 35 = .ok (.aload_n 0, 1) := by decide +kernel
theorem dX12_tellAtoms_36 : decode cX12_tellAtoms 36 = .ok (.iload_n 2, 1) := by decide +kernel
theorem dX12_tellAtoms_37 : decode cX12_tellAtoms 37 = .ok (.invokevirtual 228, 3) := by decide +kernel
theorem dX12_tellAtoms_40 : decode cX12_tellAtoms 40 = .ok (.laload, 1) := by decide +kernel
theorem dX12_tellAtoms_41 : decode cX12_tellAtoms 41 = .ok (.l2i, 1) := by decide +kernel
theorem dX12_tellAtoms_42 : decode cX12_tellAtoms 42 = .ok (.iastore, 1) := by decide +kernel
theorem dX12_tellAtoms_43 : decode cX12_tellAtoms 43 = .ok (.iinc 2 1, 3) := by decide +kernel
theorem dX12_tellAtoms_46 : decode cX12_tellAtoms 46 = .ok (.goto (-28), 3) := by decide +kernel
theorem dX12_tellAtoms_49 : decode cX12_tellAtoms 49 = .ok (.aload_n 0, 1) := by decide +kernel
theorem dX12_tellAtoms_50 : decode cX12_tellAtoms 50 = .ok (.bipush 6, 2) := by decide +kernel
theorem dX12_tellAtoms_52 : decode cX12_tellAtoms 52 = .ok (.iload_n 1, 1) := by decide +kernel
theorem dX12_tellAtoms_53 : decode cX12_tellAtoms 53 = .ok (.iload_n 1, 1) := by decide +kernel
theorem dX12_tellAtoms_54 : decode cX12_tellAtoms 54 = .ok (.invokevirtual 231, 3) := by decide +kernel
theorem dX12_tellAtoms_57 : decode cX12_tellAtoms 57 = .ok (.iconst 0, 1) := by decide +kernel
theorem dX12_tellAtoms_58 : decode cX12_tellAtoms 58 = .ok (.istore_n 2, 1) := by decide +kernel
theorem dX12_tellAtoms_59 : decode cX12_tellAtoms 59 = .ok (.iload_n 2, 1) := by decide +kernel
theorem dX12_tellAtoms_60 : decode cX12_tellAtoms 60 = .ok (.bipush 64, 2) := by decide +kernel
theorem dX12_tellAtoms_62 : decode cX12_tellAtoms 62 = .ok (.if_icmp .ge 16, 3) := by decide +kernel
theorem dX12_tellAtoms_65 : decode cX12_tellAtoms 65 = .ok (.aload_n 0, 1) := by decide +kernel
theorem dX12_tellAtoms_66 : decode cX12_tellAtoms 66 = .ok (.getfield 77, 3) := by decide +kernel
theorem dX12_tellAtoms_69 : decode cX12_tellAtoms 69 = .ok (.iload_n 2, 1) := by decide +kernel
theorem dX12_tellAtoms_70 : decode cX12_tellAtoms 70 = .ok (.iconst 0, 1) := by decide +kernel
theorem dX12_tellAtoms_71 : decode cX12_tellAtoms 71 = .ok (.bastore, 1) := by decide +kernel
theorem dX12_tellAtoms_72 : decode cX12_tellAtoms 72 = .ok (.iinc 2 1, 3) := by decide +kernel
theorem dX12_tellAtoms_75 : decode cX12_tellAtoms 75 = .ok (.goto (-16), 3) := by decide +kernel
theorem dX12_tellAtoms_78 : decode cX12_tellAtoms 78 = .ok (.iconst 0, 1) := by decide +kernel
theorem dX12_tellAtoms_79 : decode cX12_tellAtoms 79 = .ok (.istore_n 2, 1) := by decide +kernel
theorem dX12_tellAtoms_80 : decode cX12_tellAtoms 80 = .ok (.iload_n 2, 1) := by decide +kernel
theorem dX12_tellAtoms_81 : decode cX12_tellAtoms 81 = .ok (.aload_n 0, 1) := by decide +kernel
theorem dX12_tellAtoms_82 : decode cX12_tellAtoms 82 = .ok (.getfield 153, 3) := by decide +kernel
theorem dX12_tellAtoms_85 : decode cX12_tellAtoms 85 = .ok (.if_icmp .ge 25, 3) := by decide +kernel
theorem dX12_tellAtoms_88 : decode cX12_tellAtoms 88 = .ok (.aload_n 0, 1) := by decide +kernel
theorem dX12_tellAtoms_89 : decode cX12_tellAtoms 89 = .ok (.getfield 77, 3) := by decide +kernel
theorem dX12_tellAtoms_92 : decode cX12_tellAtoms 92 = .ok (.aload_n 0, 1) := by decide +kernel
theorem dX12_tellAtoms_93 : decode cX12_tellAtoms 93 = .ok (.aload_n 0, 1) := by decide +kernel
theorem dX12_tellAtoms_94 : decode cX12_tellAtoms 94 = .ok (.getfield 49, 3) := by decide +kernel
theorem dX12_tellAtoms_97 : decode cX12_tellAtoms 97 = .ok (.iload_n 2, 1) := by decide +kernel
theorem dX12_tellAtoms_98 : decode cX12_tellAtoms 98 = .ok (.laload, 1) := by decide +kernel
theorem dX12_tellAtoms_99 : decode cX12_tellAtoms 99 = .ok (.invokevirtual 241, 3) := by decide +kernel
theorem dX12_tellAtoms_102 : decode cX12_tellAtoms 102 = .ok (.iconst 1, 1) := by decide +kernel
theorem dX12_tellAtoms_103 : decode cX12_tellAtoms 103 = .ok (.bastore, 1) := by decide +kernel
theorem dX12_tellAtoms_104 : decode cX12_tellAtoms 104 = .ok (.iinc 2 1, 3) := by decide +kernel
theorem dX12_tellAtoms_107 : decode cX12_tellAtoms 107 = .ok (.goto (-27), 3) := by decide +kernel
theorem dX12_tellAtoms_110 : decode cX12_tellAtoms 110 = .ok (.aload_n 0, 1) := by decide +kernel
theorem dX12_tellAtoms_111 : decode cX12_tellAtoms 111 = .ok (.iconst 0, 1) := by decide +kernel
theorem dX12_tellAtoms_112 : decode cX12_tellAtoms 112 = .ok (.putfield 195, 3) := by decide +kernel
theorem dX12_tellAtoms_115 : decode cX12_tellAtoms 115 = .ok (.iconst 0, 1) := by decide +kernel
theorem dX12_tellAtoms_116 : decode cX12_tellAtoms 116 = .ok (.istore_n 2, 1) := by decide +kernel
theorem dX12_tellAtoms_117 : decode cX12_tellAtoms 117 = .ok (.iload_n 2, 1) := by decide +kernel
theorem dX12_tellAtoms_118 : decode cX12_tellAtoms 118 = .ok (.bipush 64, 2) := by decide +kernel
theorem dX12_tellAtoms_120 : decode cX12_tellAtoms 120 = .ok (.if_icmp .ge 38, 3) := by decide +kernel
theorem dX12_tellAtoms_123 : decode cX12_tellAtoms 123 = .ok (.aload_n 0, 1) := by decide +kernel
theorem dX12_tellAtoms_124 : decode cX12_tellAtoms 124 = .ok (.getfield 77, 3) := by decide +kernel
theorem dX12_tellAtoms_127 : decode cX12_tellAtoms 127 = .ok (.iload_n 2, 1) := by decide +kernel
theorem dX12_tellAtoms_128 : decode cX12_tellAtoms 128 = .ok (.baload, 1) := by decide +kernel
theorem dX12_tellAtoms_129 : decode cX12_tellAtoms 129 = .ok (.ifCond .eq 23, 3) := by decide +kernel
theorem dX12_tellAtoms_132 : decode cX12_tellAtoms 132 = .ok (.aload_n 0, 1) := by decide +kernel
theorem dX12_tellAtoms_133 : decode cX12_tellAtoms 133 = .ok (.getfield 74, 3) := by decide +kernel
theorem dX12_tellAtoms_136 : decode cX12_tellAtoms 136 = .ok (.aload_n 0, 1) := by decide +kernel
theorem dX12_tellAtoms_137 : decode cX12_tellAtoms 137 = .ok (.getfield 195, 3) := by decide +kernel
theorem dX12_tellAtoms_140 : decode cX12_tellAtoms 140 = .ok (.iload_n 2, 1) := by decide +kernel
theorem dX12_tellAtoms_141 : decode cX12_tellAtoms 141 = .ok (.iastore, 1) := by decide +kernel
theorem dX12_tellAtoms_142 : decode cX12_tellAtoms 142 = .ok (.aload_n 0, 1) := by decide +kernel
theorem dX12_tellAtoms_143 : decode cX12_tellAtoms 143 = .ok (.dup, 1) := by decide +kernel
theorem dX12_tellAtoms_144 : decode cX12_tellAtoms 144 = .ok (.getfield 195, 3) := by decide +kernel
theorem dX12_tellAtoms_147 : decode cX12_tellAtoms 147 = .ok (.iconst 1, 1) := by decide +kernel
theorem dX12_tellAtoms_148 : decode cX12_tellAtoms 148 = .ok (.iadd, 1) := by decide +kernel
theorem dX12_tellAtoms_149 : decode cX12_tellAtoms 149 = .ok (.putfield 195, 3) := by decide +kernel
theorem dX12_tellAtoms_152 : decode cX12_tellAtoms 152 = .ok (.iinc 2 1, 3) := by decide +kernel
theorem dX12_tellAtoms_155 : decode cX12_tellAtoms 155 = .ok (.goto (-38), 3) := by decide +kernel
theorem dX12_tellAtoms_158 : decode cX12_tellAtoms 158 = .ok (.return_, 1) := by decide +kernel
theorem dX12_ofStates_0 : decode cX12_ofStates 0 = .ok (.iconst 0, 1) := by decide +kernel
theorem dX12_ofStates_1 : decode cX12_ofStates 1 = .ok (.istore_n 3, 1) := by decide +kernel
theorem dX12_ofStates_2 : decode cX12_ofStates 2 = .ok (.iconst 0, 1) := by decide +kernel
theorem dX12_ofStates_3 : decode cX12_ofStates 3 = .ok (.istore 4, 2) := by decide +kernel
theorem dX12_ofStates_5 : decode cX12_ofStates 5 = .ok (.iload 4, 2) := by decide +kernel
theorem dX12_ofStates_7 : decode cX12_ofStates 7 = .ok (.aload_n 0, 1) := by decide +kernel
theorem dX12_ofStates_8 : decode cX12_ofStates 8 = .ok (.getfield 238, 3) := by decide +kernel
theorem dX12_ofStates_11 : decode cX12_ofStates 11 = .ok (.if_icmp .ge 36, 3) := by decide +kernel
theorem dX12_ofStates_14 : decode cX12_ofStates 14 = .ok (.iload_n 3, 1) := by decide +kernel
theorem dX12_ofStates_15 : decode cX12_ofStates 15 = .ok (.lload_n 1, 1) := by decide +kernel
theorem dX12_ofStates_16 : decode cX12_ofStates 16 = .ok (.aload_n 0, 1) := by decide +kernel
theorem dX12_ofStates_17 : decode cX12_ofStates 17 = .ok (.getfield 71, 3) := by decide +kernel
theorem dX12_ofStates_20 : decode cX12_ofStates 20 = .ok (.iload 4, 2) := by decide +kernel
theorem dX12_ofStates_22 : decode cX12_ofStates 22 = .ok (.iaload, 1) := by decide +kernel
theorem dX12_ofStates_23 : decode cX12_ofStates 23 = .ok (.lshr, 1) := by decide +kernel
theorem dX12_ofStates_24 : decode cX12_ofStates 24 = .ok (.lconst 1, 1) := by decide +kernel
theorem dX12_ofStates_25 : decode cX12_ofStates 25 = .ok (.land, 1) := by decide +kernel
theorem dX12_ofStates_26 : decode cX12_ofStates 26 = .ok (.lconst 1, 1) := by decide +kernel
theorem dX12_ofStates_27 : decode cX12_ofStates 27 = .ok (.lcmp, 1) := by decide +kernel
theorem dX12_ofStates_28 : decode cX12_ofStates 28 = .ok (.ifCond .ne 10, 3) := by decide +kernel
theorem dX12_ofStates_31 : decode cX12_ofStates 31 = .ok (.iconst 1, 1) := by decide +kernel
theorem dX12_ofStates_32 : decode cX12_ofStates 32 = .ok (.iload 4, 2) := by decide +kernel
theorem dX12_ofStates_34 : decode cX12_ofStates 34 = .ok (.ishl, 1) := by decide +kernel
theorem dX12_ofStates_35 : decode cX12_ofStates 35 = .ok (.goto 4, 3) := by decide +kernel
theorem dX12_ofStates_38 : decode cX12_ofStates 38 = .ok (.iconst 0, 1) := by decide +kernel
theorem dX12_ofStates_39 : decode cX12_ofStates 39 = .ok (.ior, 1) := by decide +kernel
theorem dX12_ofStates_40 : decode cX12_ofStates 40 = .ok (.istore_n 3, 1) := by decide +kernel
theorem dX12_ofStates_41 : decode cX12_ofStates 41 = .ok (.iinc 4 1, 3) := by decide +kernel
theorem dX12_ofStates_44 : decode cX12_ofStates 44 = .ok (.goto (-39), 3) := by decide +kernel
theorem dX12_ofStates_47 : decode cX12_ofStates 47 = .ok (.iload_n 3, 1) := by decide +kernel
theorem dX12_ofStates_48 : decode cX12_ofStates 48 = .ok (.ireturn, 1) := by decide +kernel
theorem dX12_numberOf_0 : decode cX12_numberOf 0 = .ok (.iconst 0, 1) := by decide +kernel
theorem dX12_numberOf_1 : decode cX12_numberOf 1 = .ok (.istore_n 2, 1) := by decide +kernel
theorem dX12_numberOf_2 : decode cX12_numberOf 2 = .ok (.iload_n 2, 1) := by decide +kernel
theorem dX12_numberOf_3 : decode cX12_numberOf 3 = .ok (.aload_n 0, 1) := by decide +kernel
theorem dX12_numberOf_4 : decode cX12_numberOf 4 = .ok (.getfield 195, 3) := by decide +kernel
theorem dX12_numberOf_7 : decode cX12_numberOf 7 = .ok (.if_icmp .ge 19, 3) := by decide +kernel
theorem dX12_numberOf_10 : decode cX12_numberOf 10 = .ok (.aload_n 0, 1) := by decide +kernel
theorem dX12_numberOf_11 : decode cX12_numberOf 11 = .ok (.getfield 74, 3) := by decide +kernel
theorem dX12_numberOf_14 : decode cX12_numberOf 14 = .ok (.iload_n 2, 1) := by decide +kernel
theorem dX12_numberOf_15 : decode cX12_numberOf 15 = .ok (.iaload, 1) := by decide +kernel
theorem dX12_numberOf_16 : decode cX12_numberOf 16 = .ok (.iload_n 1, 1) := by decide +kernel
theorem dX12_numberOf_17 : decode cX12_numberOf 17 = .ok (.if_icmp .eq 9, 3) := by decide +kernel
theorem dX12_numberOf_20 : decode cX12_numberOf 20 = .ok (.iinc 2 1, 3) := by decide +kernel
theorem dX12_numberOf_23 : decode cX12_numberOf 23 = .ok (.goto (-21), 3) := by decide +kernel
theorem dX12_numberOf_26 : decode cX12_numberOf 26 = .ok (.iload_n 2, 1) := by decide +kernel
theorem dX12_numberOf_27 : decode cX12_numberOf 27 = .ok (.ireturn, 1) := by decide +kernel
theorem dX12_isAtom_0 : decode cX12_isAtom 0 = .ok (.iload_n 1, 1) := by decide +kernel
theorem dX12_isAtom_1 : decode cX12_isAtom 1 = .ok (.iconst 0, 1) := by decide +kernel
theorem dX12_isAtom_2 : decode cX12_isAtom 2 = .ok (.aload_n 0, 1) := by decide +kernel
theorem dX12_isAtom_3 : decode cX12_isAtom 3 = .ok (.getfield 195, 3) := by decide +kernel
theorem dX12_isAtom_6 : decode cX12_isAtom 6 = .ok (.iconst 1, 1) := by decide +kernel
theorem dX12_isAtom_7 : decode cX12_isAtom 7 = .ok (.isub, 1) := by decide +kernel
theorem dX12_isAtom_8 : decode cX12_isAtom 8 = .ok (.invokestatic 102, 3) := by decide +kernel
theorem dX12_isAtom_11 : decode cX12_isAtom 11 = .ok (.ireturn, 1) := by decide +kernel
theorem dX12_atomCount_0 : decode cX12_atomCount 0 = .ok (.iload_n 1, 1) := by decide +kernel
theorem dX12_atomCount_1 : decode cX12_atomCount 1 = .ok (.invokestatic 106, 3) := by decide +kernel
theorem dX12_atomCount_4 : decode cX12_atomCount 4 = .ok (.ifCond .ne 9, 3) := by decide +kernel
theorem dX12_atomCount_7 : decode cX12_atomCount 7 = .ok (.aload_n 0, 1) := by decide +kernel
theorem dX12_atomCount_8 : decode cX12_atomCount 8 = .ok (.iconst 1, 1) := by decide +kernel
theorem dX12_atomCount_9 : decode cX12_atomCount 9 = .ok (.invokevirtual 136, 3) := by decide +kernel
theorem dX12_atomCount_12 : decode cX12_atomCount 12 = .ok (.ireturn, 1) := by decide +kernel
theorem dX12_atomCount_13 : decode cX12_atomCount 13 = .ok (.aload_n 0, 1) := by decide +kernel
theorem dX12_atomCount_14 : decode cX12_atomCount 14 = .ok (.iload_n 1, 1) := by decide +kernel
theorem dX12_atomCount_15 : decode cX12_atomCount 15 = .ok (.invokevirtual 244, 3) := by decide +kernel
theorem dX12_atomCount_18 : decode cX12_atomCount 18 = .ok (.aload_n 0, 1) := by decide +kernel
theorem dX12_atomCount_19 : decode cX12_atomCount 19 = .ok (.aload_n 0, 1) := by decide +kernel
theorem dX12_atomCount_20 : decode cX12_atomCount 20 = .ok (.getfield 195, 3) := by decide +kernel
theorem dX12_atomCount_23 : decode cX12_atomCount 23 = .ok (.invokevirtual 132, 3) := by decide +kernel
theorem dX12_atomCount_26 : decode cX12_atomCount 26 = .ok (.ireturn, 1) := by decide +kernel
theorem dX12_atomSet_0 : decode cX12_atomSet 0 = .ok (.iload_n 1, 1) := by decide +kernel
theorem dX12_atomSet_1 : decode cX12_atomSet 1 = .ok (.invokestatic 106, 3) := by decide +kernel
theorem dX12_atomSet_4 : decode cX12_atomSet 4 = .ok (.ifCond .ne 9, 3) := by decide +kernel
theorem dX12_atomSet_7 : decode cX12_atomSet 7 = .ok (.aload_n 0, 1) := by decide +kernel
theorem dX12_atomSet_8 : decode cX12_atomSet 8 = .ok (.iconst 1, 1) := by decide +kernel
theorem dX12_atomSet_9 : decode cX12_atomSet 9 = .ok (.invokevirtual 136, 3) := by decide +kernel
theorem dX12_atomSet_12 : decode cX12_atomSet 12 = .ok (.ireturn, 1) := by decide +kernel
theorem dX12_atomSet_13 : decode cX12_atomSet 13 = .ok (.aload_n 0, 1) := by decide +kernel
theorem dX12_atomSet_14 : decode cX12_atomSet 14 = .ok (.iload_n 1, 1) := by decide +kernel
theorem dX12_atomSet_15 : decode cX12_atomSet 15 = .ok (.invokevirtual 244, 3) := by decide +kernel
theorem dX12_atomSet_18 : decode cX12_atomSet 18 = .ok (.aload_n 0, 1) := by decide +kernel
theorem dX12_atomSet_19 : decode cX12_atomSet 19 = .ok (.iload_n 2, 1) := by decide +kernel
theorem dX12_atomSet_20 : decode cX12_atomSet 20 = .ok (.invokevirtual 248, 3) := by decide +kernel
theorem dX12_atomSet_23 : decode cX12_atomSet 23 = .ok (.ifCond .eq 16, 3) := by decide +kernel
theorem dX12_atomSet_26 : decode cX12_atomSet 26 = .ok (.aload_n 0, 1) := by decide +kernel
theorem dX12_atomSet_27 : decode cX12_atomSet 27 = .ok (.aload_n 0, 1) := by decide +kernel
theorem dX12_atomSet_28 : decode cX12_atomSet 28 = .ok (.getfield 74, 3) := by decide +kernel
theorem dX12_atomSet_31 : decode cX12_atomSet 31 = .ok (.iload_n 2, 1) := by decide +kernel
theorem dX12_atomSet_32 : decode cX12_atomSet 32 = .ok (.iaload, 1) := by decide +kernel
theorem dX12_atomSet_33 : decode cX12_atomSet 33 = .ok (.invokevirtual 132, 3) := by decide +kernel
theorem dX12_atomSet_36 : decode cX12_atomSet 36 = .ok (.goto 8, 3) := by decide +kernel
theorem dX12_atomSet_39 : decode cX12_atomSet 39 = .ok (.aload_n 0, 1) := by decide +kernel
theorem dX12_atomSet_40 : decode cX12_atomSet 40 = .ok (.iconst 1, 1) := by decide +kernel
theorem dX12_atomSet_41 : decode cX12_atomSet 41 = .ok (.invokevirtual 136, 3) := by decide +kernel
theorem dX12_atomSet_44 : decode cX12_atomSet 44 = .ok (.ireturn, 1) := by decide +kernel
theorem dX12_atomOfWord_0 : decode cX12_atomOfWord 0 = .ok (.iload_n 1, 1) := by decide +kernel
theorem dX12_atomOfWord_1 : decode cX12_atomOfWord 1 = .ok (.invokestatic 106, 3) := by decide +kernel
theorem dX12_atomOfWord_4 : decode cX12_atomOfWord 4 = .ok (.ifCond .ne 9, 3) := by decide +kernel
theorem dX12_atomOfWord_7 : decode cX12_atomOfWord 7 = .ok (.aload_n 0, 1) := by decide +kernel
theorem dX12_atomOfWord_8 : decode cX12_atomOfWord 8 = .ok (.iconst 1, 1) := by decide +kernel
theorem dX12_atomOfWord_9 : decode cX12_atomOfWord 9 = .ok (.invokevirtual 136, 3) := by decide +kernel
theorem dX12_atomOfWord_12 : decode cX12_atomOfWord 12 = .ok (.ireturn, 1) := by decide +kernel
theorem dX12_atomOfWord_13 : decode cX12_atomOfWord 13 = .ok (.aload_n 0, 1) := by decide +kernel
theorem dX12_atomOfWord_14 : decode cX12_atomOfWord 14 = .ok (.iload_n 1, 1) := by decide +kernel
theorem dX12_atomOfWord_15 : decode cX12_atomOfWord 15 = .ok (.invokevirtual 244, 3) := by decide +kernel
theorem dX12_atomOfWord_18 : decode cX12_atomOfWord 18 = .ok (.iconst 0, 1) := by decide +kernel
theorem dX12_atomOfWord_19 : decode cX12_atomOfWord 19 = .ok (.istore_n 2, 1) := by decide +kernel
theorem dX12_atomOfWord_20 : decode cX12_atomOfWord 20 = .ok (.iconst 0, 1) := by decide +kernel
theorem dX12_atomOfWord_21 : decode cX12_atomOfWord 21 = .ok (.istore_n 3, 1) := by decide +kernel
theorem dX12_atomOfWord_22 : decode cX12_atomOfWord 22 = .ok (.iload_n 3, 1) := by decide +kernel
theorem dX12_atomOfWord_23 : decode cX12_atomOfWord 23 = .ok (.aload_n 0, 1) := by decide +kernel
theorem dX12_atomOfWord_24 : decode cX12_atomOfWord 24 = .ok (.getfield 238, 3) := by decide +kernel
theorem dX12_atomOfWord_27 : decode cX12_atomOfWord 27 = .ok (.if_icmp .ge 43, 3) := by decide +kernel
theorem dX12_atomOfWord_30 : decode cX12_atomOfWord 30 = .ok (.iload_n 2, 1) := by decide +kernel
theorem dX12_atomOfWord_31 : decode cX12_atomOfWord 31 = .ok (.aload_n 0, 1) := by decide +kernel
theorem dX12_atomOfWord_32 : decode cX12_atomOfWord 32 = .ok (.getfield 16, 3) := by decide +kernel
theorem dX12_atomOfWord_35 : decode cX12_atomOfWord 35 = .ok (.bipush 6, 2) := by decide +kernel
theorem dX12_atomOfWord_37 : decode cX12_atomOfWord 37 = .ok (.iload_n 1, 1) := by decide +kernel
theorem dX12_atomOfWord_38 : decode cX12_atomOfWord 38 = .ok (.imul, 1) := by decide +kernel
theorem dX12_atomOfWord_39 : decode cX12_atomOfWord 39 = .ok (.aload_n 0, 1) := by decide +kernel
theorem dX12_atomOfWord_40 : decode cX12_atomOfWord 40 = .ok (.iload_n 1, 1) := by decide +kernel
theorem dX12_atomOfWord_41 : decode cX12_atomOfWord 41 = .ok (.aload_n 0, 1) := by decide +kernel
theorem dX12_atomOfWord_42 : decode cX12_atomOfWord 42 = .ok (.getfield 71, 3) := by decide +kernel
theorem dX12_atomOfWord_45 : decode cX12_atomOfWord 45 = .ok (.iload_n 3, 1) := by decide +kernel
theorem dX12_atomOfWord_46 : decode cX12_atomOfWord 46 = .ok (.iaload, 1) := by decide +kernel
theorem dX12_atomOfWord_47 : decode cX12_atomOfWord 47 = .ok (.invokevirtual 149, 3) := by decide +kernel
theorem dX12_atomOfWord_50 : decode cX12_atomOfWord 50 = .ok (.iadd, 1) := by decide +kernel
theorem dX12_atomOfWord_51 : decode cX12_atomOfWord 51 = .ok (.baload, 1) := by decide +kernel
theorem dX12_atomOfWord_52 : decode cX12_atomOfWord 52 = .ok (.ifCond .eq 9, 3) := by decide +kernel
theorem dX12_atomOfWord_55 : decode cX12_atomOfWord 55 = .ok (.iconst 1, 1) := by decide +kernel
theorem dX12_atomOfWord_56 : decode cX12_atomOfWord 56 = .ok (.iload_n 3, 1) := by decide +kernel
theorem dX12_atomOfWord_57 : decode cX12_atomOfWord 57 = .ok (.ishl, 1) := by decide +kernel
theorem dX12_atomOfWord_58 : decode cX12_atomOfWord 58 = .ok (.goto 4, 3) := by decide +kernel
theorem dX12_atomOfWord_61 : decode cX12_atomOfWord 61 = .ok (.iconst 0, 1) := by decide +kernel
theorem dX12_atomOfWord_62 : decode cX12_atomOfWord 62 = .ok (.ior, 1) := by decide +kernel
theorem dX12_atomOfWord_63 : decode cX12_atomOfWord 63 = .ok (.istore_n 2, 1) := by decide +kernel
theorem dX12_atomOfWord_64 : decode cX12_atomOfWord 64 = .ok (.iinc 3 1, 3) := by decide +kernel
theorem dX12_atomOfWord_67 : decode cX12_atomOfWord 67 = .ok (.goto (-45), 3) := by decide +kernel
theorem dX12_atomOfWord_70 : decode cX12_atomOfWord 70 = .ok (.aload_n 0, 1) := by decide +kernel
theorem dX12_atomOfWord_71 : decode cX12_atomOfWord 71 = .ok (.aload_n 0, 1) := by decide +kernel
theorem dX12_atomOfWord_72 : decode cX12_atomOfWord 72 = .ok (.iload_n 2, 1) := by decide +kernel
theorem dX12_atomOfWord_73 : decode cX12_atomOfWord 73 = .ok (.invokevirtual 251, 3) := by decide +kernel
theorem dX12_atomOfWord_76 : decode cX12_atomOfWord 76 = .ok (.invokevirtual 132, 3) := by decide +kernel
theorem dX12_atomOfWord_79 : decode cX12_atomOfWord 79 = .ok (.ireturn, 1) := by decide +kernel
theorem dX12_setAhead_0 : decode cX12_setAhead 0 = .ok (.iconst 0, 1) := by decide +kernel
theorem dX12_setAhead_1 : decode cX12_setAhead 1 = .ok (.istore 4, 2) := by decide +kernel
theorem dX12_setAhead_3 : decode cX12_setAhead 3 = .ok (.iconst 0, 1) := by decide +kernel
theorem dX12_setAhead_4 : decode cX12_setAhead 4 = .ok (.istore 5, 2) := by decide +kernel
theorem dX12_setAhead_6 : decode cX12_setAhead 6 = .ok (.iload 5, 2) := by decide +kernel
theorem dX12_setAhead_8 : decode cX12_setAhead 8 = .ok (.aload_n 0, 1) := by decide +kernel
theorem dX12_setAhead_9 : decode cX12_setAhead 9 = .ok (.getfield 238, 3) := by decide +kernel
theorem dX12_setAhead_12 : decode cX12_setAhead 12 = .ok (.if_icmp .ge 56, 3) := by decide +kernel
theorem dX12_setAhead_15 : decode cX12_setAhead 15 = .ok (.aload_n 0, 1) := by decide +kernel
theorem dX12_setAhead_16 : decode cX12_setAhead 16 = .ok (.getfield 13, 3) := by decide +kernel
theorem dX12_setAhead_19 : decode cX12_setAhead 19 = .ok (.iload_n 1, 1) := by decide +kernel
theorem dX12_setAhead_20 : decode cX12_setAhead 20 = .ok (.aload_n 0, 1) := by decide +kernel
theorem dX12_setAhead_21 : decode cX12_setAhead 21 = .ok (.getfield 71, 3) := by decide +kernel
theorem dX12_setAhead_24 : decode cX12_setAhead 24 = .ok (.iload 5, 2) := by decide +kernel
theorem dX12_setAhead_26 : decode cX12_setAhead 26 = .ok (.iaload, 1) := by decide +kernel
theorem dX12_setAhead_27 : decode cX12_setAhead 27 = .ok (.iload_n 3, 1) := by decide +kernel
theorem dX12_setAhead_28 : decode cX12_setAhead 28 = .ok (.invokestatic 110, 3) := by decide +kernel
theorem dX12_setAhead_31 : decode cX12_setAhead 31 = .ok (.iaload, 1) := by decide +kernel
theorem dX12_setAhead_32 : decode cX12_setAhead 32 = .ok (.istore 6, 2) := by decide +kernel
theorem dX12_setAhead_34 : decode cX12_setAhead 34 = .ok (.iload 4, 2) := by decide +kernel
theorem dX12_setAhead_36 : decode cX12_setAhead 36 = .ok (.iload_n 2, 1) := by decide +kernel
theorem dX12_setAhead_37 : decode cX12_setAhead 37 = .ok (.aload_n 0, 1) := by decide +kernel
theorem dX12_setAhead_38 : decode cX12_setAhead 38 = .ok (.getfield 83, 3) := by decide +kernel
theorem dX12_setAhead_41 : decode cX12_setAhead 41 = .ok (.iload 6, 2) := by decide +kernel
theorem dX12_setAhead_43 : decode cX12_setAhead 43 = .ok (.iaload, 1) := by decide +kernel
theorem dX12_setAhead_44 : decode cX12_setAhead 44 = .ok (.ishr, 1) := by decide +kernel
theorem dX12_setAhead_45 : decode cX12_setAhead 45 = .ok (.iconst 1, 1) := by decide +kernel
theorem dX12_setAhead_46 : decode cX12_setAhead 46 = .ok (.iand, 1) := by decide +kernel
theorem dX12_setAhead_47 : decode cX12_setAhead 47 = .ok (.iconst 1, 1) := by decide +kernel
theorem dX12_setAhead_48 : decode cX12_setAhead 48 = .ok (.if_icmp .ne 10, 3) := by decide +kernel
theorem dX12_setAhead_51 : decode cX12_setAhead 51 = .ok (.iconst 1, 1) := by decide +kernel
theorem dX12_setAhead_52 : decode cX12_setAhead 52 = .ok (.iload 5, 2) := by decide +kernel
theorem dX12_setAhead_54 : decode cX12_setAhead 54 = .ok (.ishl, 1) := by decide +kernel
theorem dX12_setAhead_55 : decode cX12_setAhead 55 = .ok (.goto 4, 3) := by decide +kernel
theorem dX12_setAhead_58 : decode cX12_setAhead 58 = .ok (.iconst 0, 1) := by decide +kernel
theorem dX12_setAhead_59 : decode cX12_setAhead 59 = .ok (.ior, 1) := by decide +kernel
theorem dX12_setAhead_60 : decode cX12_setAhead 60 = .ok (.istore 4, 2) := by decide +kernel
theorem dX12_setAhead_62 : decode cX12_setAhead 62 = .ok (.iinc 5 1, 3) := by decide +kernel
theorem dX12_setAhead_65 : decode cX12_setAhead 65 = .ok (.goto (-59), 3) := by decide +kernel
theorem dX12_setAhead_68 : decode cX12_setAhead 68 = .ok (.iload 4, 2) := by decide +kernel
theorem dX12_setAhead_70 : decode cX12_setAhead 70 = .ok (.ireturn, 1) := by decide +kernel
theorem dX12_tellAtomMachine_0 : decode cX12_tellAtomMachine 0 = .ok (.aload_n 0, 1) := by decide +kernel
theorem dX12_tellAtomMachine_1 : decode cX12_tellAtomMachine 1 = .ok (.iload_n 1, 1) := by decide +kernel
theorem dX12_tellAtomMachine_2 : decode cX12_tellAtomMachine 2 = .ok (.invokevirtual 244, 3) := by decide +kernel
theorem dX12_tellAtomMachine_5 : decode cX12_tellAtomMachine 5 = .ok (.aload_n 0, 1) := by decide +kernel
theorem dX12_tellAtomMachine_6 : decode cX12_tellAtomMachine 6 = .ok (.bipush 8, 2) := by decide +kernel
theorem dX12_tellAtomMachine_8 : decode cX12_tellAtomMachine 8 = .ok (.iload_n 1, 1) := by decide +kernel
theorem dX12_tellAtomMachine_9 : decode cX12_tellAtomMachine 9 = .ok (.iload_n 1, 1) := by decide +kernel
theorem dX12_tellAtomMachine_10 : decode cX12_tellAtomMachine 10 = .ok (.invokevirtual 231, 3) := by decide +kernel
theorem dX12_tellAtomMachine_13 : decode cX12_tellAtomMachine 13 = .ok (.iconst 0, 1) := by decide +kernel
theorem dX12_tellAtomMachine_14 : decode cX12_tellAtomMachine 14 = .ok (.istore_n 2, 1) := by decide +kernel
theorem dX12_tellAtomMachine_15 : decode cX12_tellAtomMachine 15 = .ok (.iload_n 2, 1) := by decide +kernel
theorem dX12_tellAtomMachine_16 : decode cX12_tellAtomMachine 16 = .ok (.aload_n 0, 1) := by decide +kernel
theorem dX12_tellAtomMachine_17 : decode cX12_tellAtomMachine 17 = .ok (.getfield 153, 3) := by decide +kernel
theorem dX12_tellAtomMachine_20 : decode cX12_tellAtomMachine 20 = .ok (.if_icmp .ge 27, 3) := by decide +kernel
theorem dX12_tellAtomMachine_23 : decode cX12_tellAtomMachine 23 = .ok (.aload_n 0, 1) := by decide +kernel
theorem dX12_tellAtomMachine_24 : decode cX12_tellAtomMachine 24 = .ok (.getfield 83, 3) := by decide +kernel
theorem dX12_tellAtomMachine_27 : decode cX12_tellAtomMachine 27 = .ok (.aload_n 0, 1) := by decide +kernel
theorem dX12_tellAtomMachine_28 : decode cX12_tellAtomMachine 28 = .ok (.getfield 49, 3) := by decide +kernel
theorem dX12_tellAtomMachine_31 : decode cX12_tellAtomMachine 31 = .ok (.iload_n 2, 1) := by decide +kernel
theorem dX12_tellAtomMachine_32 : decode cX12_tellAtomMachine 32 = .ok (.laload, 1) := by decide +kernel
theorem dX12_tellAtomMachine_33 : decode cX12_tellAtomMachine 33 = .ok (.l2i, 1) := by decide +kernel
theorem dX12_tellAtomMachine_34 : decode cX12_tellAtomMachine 34 = .ok (.aload_n 0, 1) := by decide +kernel
theorem dX12_tellAtomMachine_35 : decode cX12_tellAtomMachine 35 = .ok (.getfield 65, 3) := by decide +kernel
theorem dX12_tellAtomMachine_38 : decode cX12_tellAtomMachine 38 = .ok (.iload_n 2, 1) := by decide +kernel
theorem dX12_tellAtomMachine_39 : decode cX12_tellAtomMachine 39 = .ok (.iaload, 1) := by decide +kernel
theorem dX12_tellAtomMachine_40 : decode cX12_tellAtomMachine 40 = .ok (.iastore, 1) := by decide +kernel
theorem dX12_tellAtomMachine_41 : decode cX12_tellAtomMachine 41 = .ok (.iinc 2 1, 3) := by decide +kernel
theorem dX12_tellAtomMachine_44 : decode cX12_tellAtomMachine 44 = .ok (.goto (-29), 3) := by decide +kernel
theorem dX12_tellAtomMachine_47 : decode cX12_tellAtomMachine 47 = .ok (.iconst 0, 1) := by decide +kernel
theorem dX12_tellAtomMachine_48 : decode cX12_tellAtomMachine 48 = .ok (.istore_n 2, 1) := by decide +kernel
theorem dX12_tellAtomMachine_49 : decode cX12_tellAtomMachine 49 = .ok (.iload_n 2, 1) := by decide +kernel
theorem dX12_tellAtomMachine_50 : decode cX12_tellAtomMachine 50 = .ok (.sipush 192, 3) := by decide +kernel
theorem dX12_tellAtomMachine_53 : decode cX12_tellAtomMachine 53 = .ok (.if_icmp .ge 16, 3) := by decide +kernel
theorem dX12_tellAtomMachine_56 : decode cX12_tellAtomMachine 56 = .ok (.aload_n 0, 1) := by decide +kernel
theorem dX12_tellAtomMachine_57 : decode cX12_tellAtomMachine 57 = .ok (.getfield 80, 3) := by decide +kernel
theorem dX12_tellAtomMachine_60 : decode cX12_tellAtomMachine 60 = .ok (.iload_n 2, 1) := by decide +kernel
theorem dX12_tellAtomMachine_61 : decode cX12_tellAtomMachine 61 = .ok (.lconst 0, 1) := by decide +kernel
theorem dX12_tellAtomMachine_62 : decode cX12_tellAtomMachine 62 = .ok (.lastore, 1) := by decide +kernel
theorem dX12_tellAtomMachine_63 : decode cX12_tellAtomMachine 63 = .ok (.iinc 2 1, 3) := by decide +kernel
theorem dX12_tellAtomMachine_66 : decode cX12_tellAtomMachine 66 = .ok (.goto (-17), 3) := by decide +kernel
theorem dX12_tellAtomMachine_69 : decode cX12_tellAtomMachine 69 = .ok (.iconst 0, 1) := by decide +kernel
theorem dX12_tellAtomMachine_70 : decode cX12_tellAtomMachine 70 = .ok (.istore_n 2, 1) := by decide +kernel
theorem dX12_tellAtomMachine_71 : decode cX12_tellAtomMachine 71 = .ok (.iload_n 2, 1) := by decide +kernel
theorem dX12_tellAtomMachine_72 : decode cX12_tellAtomMachine 72 = .ok (.aload_n 0, 1) := by decide +kernel
theorem dX12_tellAtomMachine_73 : decode cX12_tellAtomMachine 73 = .ok (.getfield 195, 3) := by decide +kernel
theorem dX12_tellAtomMachine_76 : decode cX12_tellAtomMachine 76 = .ok (.if_icmp .ge 53, 3) := by decide +kernel
theorem dX12_tellAtomMachine_79 : decode cX12_tellAtomMachine 79 = .ok (.iconst 0, 1) := by decide +kernel
theorem dX12_tellAtomMachine_80 : decode cX12_tellAtomMachine 80 = .ok (.istore_n 3, 1) := by decide +kernel
theorem dX12_tellAtomMachine_81 : decode cX12_tellAtomMachine 81 = .ok (.iload_n 3, 1) := by decide +kernel
theorem dX12_tellAtomMachine_82 : decode cX12_tellAtomMachine 82 = .ok (.iconst 3, 1) := by decide +kernel
theorem dX12_tellAtomMachine_83 : decode cX12_tellAtomMachine 83 = .ok (.if_icmp .ge 40, 3) := by decide +kernel
theorem dX12_tellAtomMachine_86 : decode cX12_tellAtomMachine 86 = .ok (.aload_n 0, 1) := by decide +kernel
theorem dX12_tellAtomMachine_87 : decode cX12_tellAtomMachine 87 = .ok (.getfield 80, 3) := by decide +kernel
theorem dX12_tellAtomMachine_90 : decode cX12_tellAtomMachine 90 = .ok (.iconst 3, 1) := by decide +kernel
theorem dX12_tellAtomMachine_91 : decode cX12_tellAtomMachine 91 = .ok (.aload_n 0, 1) := by decide +kernel
theorem dX12_tellAtomMachine_92 : decode cX12_tellAtomMachine 92 = .ok (.aload_n 0, 1) := by decide +kernel
theorem dX12_tellAtomMachine_93 : decode cX12_tellAtomMachine 93 = .ok (.iload_n 1, 1) := by decide +kernel
theorem dX12_tellAtomMachine_94 : decode cX12_tellAtomMachine 94 = .ok (.aload_n 0, 1) := by decide +kernel
theorem dX12_tellAtomMachine_95 : decode cX12_tellAtomMachine 95 = .ok (.getfield 74, 3) := by decide +kernel
theorem dX12_tellAtomMachine_98 : decode cX12_tellAtomMachine 98 = .ok (.iload_n 2, 1) := by decide +kernel
theorem dX12_tellAtomMachine_99 : decode cX12_tellAtomMachine 99 = .ok (.iaload, 1) := by decide +kernel
theorem dX12_tellAtomMachine_100 : decode cX12_tellAtomMachine 100 = .ok (.iload_n 3, 1) := by decide +kernel
theorem dX12_tellAtomMachine_101 : decode cX12_tellAtomMachine 101 = .ok (.invokevirtual 254, 3) := by decide +kernel
theorem dX12_tellAtomMachine_104 : decode cX12_tellAtomMachine 104 = .ok (.invokevirtual 251, 3) := by decide +kernel
theorem dX12_tellAtomMachine_107 : decode cX12_tellAtomMachine 107 = .ok (.imul, 1) := by decide +kernel
theorem dX12_tellAtomMachine_108 : decode cX12_tellAtomMachine 108 = .ok (.iload_n 3, 1) := by decide +kernel
theorem dX12_tellAtomMachine_109 : decode cX12_tellAtomMachine 109 = .ok (.iadd, 1) := by decide +kernel
theorem dX12_tellAtomMachine_110 : decode cX12_tellAtomMachine 110 = .ok (.dup2, 1) := by decide +kernel
theorem dX12_tellAtomMachine_111 : decode cX12_tellAtomMachine 111 = .ok (.laload, 1) := by decide +kernel
theorem dX12_tellAtomMachine_112 : decode cX12_tellAtomMachine 112 = .ok (.lconst 1, 1) := by decide +kernel
theorem dX12_tellAtomMachine_113 : decode cX12_tellAtomMachine 113 = .ok (.iload_n 2, 1) := by decide +kernel
theorem dX12_tellAtomMachine_114 : decode cX12_tellAtomMachine 114 = .ok (.lshl, 1) := by decide +kernel
theorem dX12_tellAtomMachine_115 : decode cX12_tellAtomMachine 115 = .ok (.lor, 1) := by decide +kernel
theorem dX12_tellAtomMachine_116 : decode cX12_tellAtomMachine 116 = .ok (.lastore, 1) := by decide +kernel
theorem dX12_tellAtomMachine_117 : decode cX12_tellAtomMachine 117 = .ok (.iinc 3 1, 3) := by decide +kernel
theorem dX12_tellAtomMachine_120 : decode cX12_tellAtomMachine 120 = .ok (.goto (-39), 3) := by decide +kernel
theorem dX12_tellAtomMachine_123 : decode cX12_tellAtomMachine 123 = .ok (.iinc 2 1, 3) := by decide +kernel
theorem dX12_tellAtomMachine_126 : decode cX12_tellAtomMachine 126 = .ok (.goto (-55), 3) := by decide +kernel
theorem dX12_tellAtomMachine_129 : decode cX12_tellAtomMachine 129 = .ok (.iconst 0, 1) := by decide +kernel
theorem dX12_tellAtomMachine_130 : decode cX12_tellAtomMachine 130 = .ok (.istore_n 2, 1) := by decide +kernel
theorem dX12_tellAtomMachine_131 : decode cX12_tellAtomMachine 131 = .ok (.iconst 0, 1) := by decide +kernel
theorem dX12_tellAtomMachine_132 : decode cX12_tellAtomMachine 132 = .ok (.istore_n 3, 1) := by decide +kernel
theorem dX12_tellAtomMachine_133 : decode cX12_tellAtomMachine 133 = .ok (.iload_n 3, 1) := by decide +kernel
theorem dX12_tellAtomMachine_134 : decode cX12_tellAtomMachine 134 = .ok (.aload_n 0, 1) := by decide +kernel
theorem dX12_tellAtomMachine_135 : decode cX12_tellAtomMachine 135 = .ok (.getfield 238, 3) := by decide +kernel
theorem dX12_tellAtomMachine_138 : decode cX12_tellAtomMachine 138 = .ok (.if_icmp .ge 38, 3) := by decide +kernel
theorem dX12_tellAtomMachine_141 : decode cX12_tellAtomMachine 141 = .ok (.iload_n 2, 1) := by decide +kernel
theorem dX12_tellAtomMachine_142 : decode cX12_tellAtomMachine 142 = .ok (.aload_n 0, 1) := by decide +kernel
theorem dX12_tellAtomMachine_143 : decode cX12_tellAtomMachine 143 = .ok (.getfield 16, 3) := by decide +kernel
theorem dX12_tellAtomMachine_146 : decode cX12_tellAtomMachine 146 = .ok (.bipush 6, 2) := by decide +kernel
theorem dX12_tellAtomMachine_148 : decode cX12_tellAtomMachine 148 = .ok (.iload_n 1, 1) := by decide +kernel
theorem dX12_tellAtomMachine_149 : decode cX12_tellAtomMachine 149 = .ok (.imul, 1) := by decide +kernel
theorem dX12_tellAtomMachine_150 : decode cX12_tellAtomMachine 150 = .ok (.aload_n 0, 1) := by decide +kernel
theorem dX12_tellAtomMachine_151 : decode cX12_tellAtomMachine 151 = .ok (.getfield 71, 3) := by decide +kernel
theorem dX12_tellAtomMachine_154 : decode cX12_tellAtomMachine 154 = .ok (.iload_n 3, 1) := by decide +kernel
theorem dX12_tellAtomMachine_155 : decode cX12_tellAtomMachine 155 = .ok (.iaload, 1) := by decide +kernel
theorem dX12_tellAtomMachine_156 : decode cX12_tellAtomMachine 156 = .ok (.iadd, 1) := by decide +kernel
theorem dX12_tellAtomMachine_157 : decode cX12_tellAtomMachine 157 = .ok (.baload, 1) := by decide +kernel
theorem dX12_tellAtomMachine_158 : decode cX12_tellAtomMachine 158 = .ok (.ifCond .eq 9, 3) := by decide +kernel
theorem dX12_tellAtomMachine_161 : decode cX12_tellAtomMachine 161 = .ok (.iconst 1, 1) := by decide +kernel
theorem dX12_tellAtomMachine_162 : decode cX12_tellAtomMachine 162 = .ok (.iload_n 3, 1) := by decide +kernel
theorem dX12_tellAtomMachine_163 : decode cX12_tellAtomMachine 163 = .ok (.ishl, 1) := by decide +kernel
theorem dX12_tellAtomMachine_164 : decode cX12_tellAtomMachine 164 = .ok (.goto 4, 3) := by decide +kernel
theorem dX12_tellAtomMachine_167 : decode cX12_tellAtomMachine 167 = .ok (.iconst 0, 1) := by decide +kernel
theorem dX12_tellAtomMachine_168 : decode cX12_tellAtomMachine 168 = .ok (.ior, 1) := by decide +kernel
theorem dX12_tellAtomMachine_169 : decode cX12_tellAtomMachine 169 = .ok (.istore_n 2, 1) := by decide +kernel
theorem dX12_tellAtomMachine_170 : decode cX12_tellAtomMachine 170 = .ok (.iinc 3 1, 3) := by decide +kernel
theorem dX12_tellAtomMachine_173 : decode cX12_tellAtomMachine 173 = .ok (.goto (-40), 3) := by decide +kernel
theorem dX12_tellAtomMachine_176 : decode cX12_tellAtomMachine 176 = .ok (.aload_n 0, 1) := by decide +kernel
theorem dX12_tellAtomMachine_177 : decode cX12_tellAtomMachine 177 = .ok (.aload_n 0, 1) := by decide +kernel
theorem dX12_tellAtomMachine_178 : decode cX12_tellAtomMachine 178 = .ok (.iload_n 2, 1) := by decide +kernel
theorem dX12_tellAtomMachine_179 : decode cX12_tellAtomMachine 179 = .ok (.invokevirtual 251, 3) := by decide +kernel
theorem dX12_tellAtomMachine_182 : decode cX12_tellAtomMachine 182 = .ok (.putfield 202, 3) := by decide +kernel
theorem dX12_tellAtomMachine_185 : decode cX12_tellAtomMachine 185 = .ok (.return_, 1) := by decide +kernel
theorem dX12_atomTargets_0 : decode cX12_atomTargets 0 = .ok (.aload_n 0, 1) := by decide +kernel
theorem dX12_atomTargets_1 : decode cX12_atomTargets 1 = .ok (.iconst 1, 1) := by decide +kernel
theorem dX12_atomTargets_2 : decode cX12_atomTargets 2 = .ok (.putfield 98, 3) := by decide +kernel
theorem dX12_atomTargets_5 : decode cX12_atomTargets 5 = .ok (.iload_n 1, 1) := by decide +kernel
theorem dX12_atomTargets_6 : decode cX12_atomTargets 6 = .ok (.invokestatic 106, 3) := by decide +kernel
theorem dX12_atomTargets_9 : decode cX12_atomTargets 9 = .ok (.ifCond .eq 10, 3) := by decide +kernel
theorem dX12_atomTargets_12 : decode cX12_atomTargets 12 = .ok (.iload_n 3, 1) := by decide +kernel
theorem dX12_atomTargets_13 : decode cX12_atomTargets 13 = .ok (.invokestatic 122, 3) := by decide +kernel
theorem dX12_atomTargets_16 : decode cX12_atomTargets 16 = .ok (.ifCond .ne 5, 3) := by decide +kernel
theorem dX12_atomTargets_19 : decode cX12_atomTargets 19 = .ok (.lconst 0, 1) := by decide +kernel
theorem dX12_atomTargets_20 : decode cX12_atomTargets 20 = .ok (.lreturn, 1) := by decide +kernel
theorem dX12_atomTargets_21 : decode cX12_atomTargets 21 = .ok (.aload_n 0, 1) := by decide +kernel
theorem dX12_atomTargets_22 : decode cX12_atomTargets 22 = .ok (.iload_n 1, 1) := by decide +kernel
theorem dX12_atomTargets_23 : decode cX12_atomTargets 23 = .ok (.invokevirtual 257, 3) := by decide +kernel
theorem dX12_atomTargets_26 : decode cX12_atomTargets 26 = .ok (.aload_n 0, 1) := by decide +kernel
theorem dX12_atomTargets_27 : decode cX12_atomTargets 27 = .ok (.iload_n 2, 1) := by decide +kernel
theorem dX12_atomTargets_28 : decode cX12_atomTargets 28 = .ok (.invokevirtual 248, 3) := by decide +kernel
theorem dX12_atomTargets_31 : decode cX12_atomTargets 31 = .ok (.ifCond .ne 5, 3) := by decide +kernel
theorem dX12_atomTargets_34 : decode cX12_atomTargets 34 = .ok (.lconst 0, 1) := by decide +kernel
theorem dX12_atomTargets_35 : decode cX12_atomTargets 35 = .ok (.lreturn, 1) := by decide +kernel
theorem dX12_atomTargets_36 : decode cX12_atomTargets 36 = .ok (.aload_n 0, 1) := by decide +kernel
theorem dX12_atomTargets_37 : decode cX12_atomTargets 37 = .ok (.iconst 0, 1) := by decide +kernel
theorem dX12_atomTargets_38 : decode cX12_atomTargets 38 = .ok (.putfield 98, 3) := by decide +kernel
theorem dX12_atomTargets_41 : decode cX12_atomTargets 41 = .ok (.aload_n 0, 1) := by decide +kernel
theorem dX12_atomTargets_42 : decode cX12_atomTargets 42 = .ok (.getfield 80, 3) := by decide +kernel
theorem dX12_atomTargets_45 : decode cX12_atomTargets 45 = .ok (.iconst 3, 1) := by decide +kernel
theorem dX12_atomTargets_46 : decode cX12_atomTargets 46 = .ok (.iload_n 2, 1) := by decide +kernel
theorem dX12_atomTargets_47 : decode cX12_atomTargets 47 = .ok (.imul, 1) := by decide +kernel
theorem dX12_atomTargets_48 : decode cX12_atomTargets 48 = .ok (.iload_n 3, 1) := by decide +kernel
theorem dX12_atomTargets_49 : decode cX12_atomTargets 49 = .ok (.iadd, 1) := by decide +kernel
theorem dX12_atomTargets_50 : decode cX12_atomTargets 50 = .ok (.laload, 1) := by decide +kernel
theorem dX12_atomTargets_51 : decode cX12_atomTargets 51 = .ok (.lreturn, 1) := by decide +kernel
theorem dX12_initialAtoms_0 : decode cX12_initialAtoms 0 = .ok (.aload_n 0, 1) := by decide +kernel
theorem dX12_initialAtoms_1 : decode cX12_initialAtoms 1 = .ok (.iload_n 1, 1) := by decide +kernel
theorem dX12_initialAtoms_2 : decode cX12_initialAtoms 2 = .ok (.invokestatic 106, 3) := by decide +kernel
theorem dX12_initialAtoms_5 : decode cX12_initialAtoms 5 = .ok (.ifCond .eq 7, 3) := by decide +kernel
theorem dX12_initialAtoms_8 : decode cX12_initialAtoms 8 = .ok (.iconst 0, 1) := by decide +kernel
theorem dX12_initialAtoms_9 : decode cX12_initialAtoms 9 = .ok (.goto 4, 3) := by decide +kernel
theorem dX12_initialAtoms_12 : decode cX12_initialAtoms 12 = .ok (.iconst 1, 1) := by decide +kernel
theorem dX12_initialAtoms_13 : decode cX12_initialAtoms 13 = .ok (.putfield 98, 3) := by decide +kernel
theorem dX12_initialAtoms_16 : decode cX12_initialAtoms 16 = .ok (.aload_n 0, 1) := by decide +kernel
theorem dX12_initialAtoms_17 : decode cX12_initialAtoms 17 = .ok (.getfield 98, 3) := by decide +kernel
theorem dX12_initialAtoms_20 : decode cX12_initialAtoms 20 = .ok (.ifCond .eq 5, 3) := by decide +kernel
theorem dX12_initialAtoms_23 : decode cX12_initialAtoms 23 = .ok (.lconst 0, 1) := by decide +kernel
theorem dX12_initialAtoms_24 : decode cX12_initialAtoms 24 = .ok (.lreturn, 1) := by decide +kernel
theorem dX12_initialAtoms_25 : decode cX12_initialAtoms 25 = .ok (.aload_n 0, 1) := by decide +kernel
theorem dX12_initialAtoms_26 : decode cX12_initialAtoms 26 = .ok (.iload_n 1, 1) := by decide +kernel
theorem dX12_initialAtoms_27 : decode cX12_initialAtoms 27 = .ok (.invokevirtual 244, 3) := by decide +kernel
theorem dX12_initialAtoms_30 : decode cX12_initialAtoms 30 = .ok (.lconst 0, 1) := by decide +kernel
theorem dX12_initialAtoms_31 : decode cX12_initialAtoms 31 = .ok (.lstore_n 2, 1) := by decide +kernel
theorem dX12_initialAtoms_32 : decode cX12_initialAtoms 32 = .ok (.iconst 0, 1) := by decide +kernel
theorem dX12_initialAtoms_33 : decode cX12_initialAtoms 33 = .ok (.istore 4, 2) := by decide +kernel
theorem dX12_initialAtoms_35 : decode cX12_initialAtoms 35 = .ok (.iload 4, 2) := by decide +kernel
theorem dX12_initialAtoms_37 : decode cX12_initialAtoms 37 = .ok (.aload_n 0, 1) := by decide +kernel
theorem dX12_initialAtoms_38 : decode cX12_initialAtoms 38 = .ok (.getfield 195, 3) := by decide +kernel
theorem dX12_initialAtoms_41 : decode cX12_initialAtoms 41 = .ok (.if_icmp .ge 33, 3) := by decide +kernel
theorem dX12_initialAtoms_44 : decode cX12_initialAtoms 44 = .ok (.lload_n 2, 1) := by decide +kernel
theorem dX12_initialAtoms_45 : decode cX12_initialAtoms 45 = .ok (.aload_n 0, 1) := by decide +kernel
theorem dX12_initialAtoms_46 : decode cX12_initialAtoms 46 = .ok (.getfield 74, 3) := by decide +kernel
theorem dX12_initialAtoms_49 : decode cX12_initialAtoms 49 = .ok (.iload 4, 2) := by decide +kernel
theorem dX12_initialAtoms_51 : decode cX12_initialAtoms 51 = .ok (.iaload, 1) := by decide +kernel
theorem dX12_initialAtoms_52 : decode cX12_initialAtoms 52 = .ok (.iconst 1, 1) := by decide +kernel
theorem dX12_initialAtoms_53 : decode cX12_initialAtoms 53 = .ok (.iand, 1) := by decide +kernel
theorem dX12_initialAtoms_54 : decode cX12_initialAtoms 54 = .ok (.iconst 1, 1) := by decide +kernel
theorem dX12_initialAtoms_55 : decode cX12_initialAtoms 55 = .ok (.if_icmp .ne 10, 3) := by decide +kernel
theorem dX12_initialAtoms_58 : decode cX12_initialAtoms 58 = .ok (.lconst 1, 1) := by decide +kernel
theorem dX12_initialAtoms_59 : decode cX12_initialAtoms 59 = .ok (.iload 4, 2) := by decide +kernel
theorem dX12_initialAtoms_61 : decode cX12_initialAtoms 61 = .ok (.lshl, 1) := by decide +kernel
theorem dX12_initialAtoms_62 : decode cX12_initialAtoms 62 = .ok (.goto 4, 3) := by decide +kernel
theorem dX12_initialAtoms_65 : decode cX12_initialAtoms 65 = .ok (.lconst 0, 1) := by decide +kernel
theorem dX12_initialAtoms_66 : decode cX12_initialAtoms 66 = .ok (.lor, 1) := by decide +kernel
theorem dX12_initialAtoms_67 : decode cX12_initialAtoms 67 = .ok (.lstore_n 2, 1) := by decide +kernel
theorem dX12_initialAtoms_68 : decode cX12_initialAtoms 68 = .ok (.iinc 4 1, 3) := by decide +kernel
theorem dX12_initialAtoms_71 : decode cX12_initialAtoms 71 = .ok (.goto (-36), 3) := by decide +kernel
theorem dX12_initialAtoms_74 : decode cX12_initialAtoms 74 = .ok (.lload_n 2, 1) := by decide +kernel
theorem dX12_initialAtoms_75 : decode cX12_initialAtoms 75 = .ok (.lreturn, 1) := by decide +kernel
theorem dX12_finalAtom_0 : decode cX12_finalAtom 0 = .ok (.iload_n 1, 1) := by decide +kernel
theorem dX12_finalAtom_1 : decode cX12_finalAtom 1 = .ok (.invokestatic 106, 3) := by decide +kernel
theorem dX12_finalAtom_4 : decode cX12_finalAtom 4 = .ok (.ifCond .ne 9, 3) := by decide +kernel
theorem dX12_finalAtom_7 : decode cX12_finalAtom 7 = .ok (.aload_n 0, 1) := by decide +kernel
theorem dX12_finalAtom_8 : decode cX12_finalAtom 8 = .ok (.iconst 1, 1) := by decide +kernel
theorem dX12_finalAtom_9 : decode cX12_finalAtom 9 = .ok (.invokevirtual 136, 3) := by decide +kernel
theorem dX12_finalAtom_12 : decode cX12_finalAtom 12 = .ok (.ireturn, 1) := by decide +kernel
theorem dX12_finalAtom_13 : decode cX12_finalAtom 13 = .ok (.aload_n 0, 1) := by decide +kernel
theorem dX12_finalAtom_14 : decode cX12_finalAtom 14 = .ok (.iload_n 1, 1) := by decide +kernel
theorem dX12_finalAtom_15 : decode cX12_finalAtom 15 = .ok (.invokevirtual 257, 3) := by decide +kernel
theorem dX12_finalAtom_18 : decode cX12_finalAtom 18 = .ok (.aload_n 0, 1) := by decide +kernel
theorem dX12_finalAtom_19 : decode cX12_finalAtom 19 = .ok (.aload_n 0, 1) := by decide +kernel
theorem dX12_finalAtom_20 : decode cX12_finalAtom 20 = .ok (.getfield 202, 3) := by decide +kernel
theorem dX12_finalAtom_23 : decode cX12_finalAtom 23 = .ok (.invokevirtual 132, 3) := by decide +kernel
theorem dX12_finalAtom_26 : decode cX12_finalAtom 26 = .ok (.ireturn, 1) := by decide +kernel
theorem dX12_firstWord_0 : decode cX12_firstWord 0 = .ok (.iconst 0, 1) := by decide +kernel
theorem dX12_firstWord_1 : decode cX12_firstWord 1 = .ok (.istore_n 1, 1) := by decide +kernel
theorem dX12_firstWord_2 : decode cX12_firstWord 2 = .ok (.iload_n 1, 1) := by decide +kernel
theorem dX12_firstWord_3 : decode cX12_firstWord 3 = .ok (.aload_n 0, 1) := by decide +kernel
theorem dX12_firstWord_4 : decode cX12_firstWord 4 = .ok (.getfield 153, 3) := by decide +kernel
theorem dX12_firstWord_7 : decode cX12_firstWord 7 = .ok (.if_icmp .ge 18, 3) := by decide +kernel
theorem dX12_firstWord_10 : decode cX12_firstWord 10 = .ok (.aload_n 0, 1) := by decide +kernel
theorem dX12_firstWord_11 : decode cX12_firstWord 11 = .ok (.getfield 56, 3) := by decide +kernel
theorem dX12_firstWord_14 : decode cX12_firstWord 14 = .ok (.iload_n 1, 1) := by decide +kernel
theorem dX12_firstWord_15 : decode cX12_firstWord 15 = .ok (.baload, 1) := by decide +kernel
theorem dX12_firstWord_16 : decode cX12_firstWord 16 = .ok (.ifCond .ne 9, 3) := by decide +kernel
theorem dX12_firstWord_19 : decode cX12_firstWord 19 = .ok (.iinc 1 1, 3) := by decide +kernel
theorem dX12_firstWord_22 : decode cX12_firstWord 22 = .ok (.goto (-20), 3) := by decide +kernel
theorem dX12_firstWord_25 : decode cX12_firstWord 25 = .ok (.iload_n 1, 1) := by decide +kernel
theorem dX12_firstWord_26 : decode cX12_firstWord 26 = .ok (.aload_n 0, 1) := by decide +kernel
theorem dX12_firstWord_27 : decode cX12_firstWord 27 = .ok (.getfield 153, 3) := by decide +kernel
theorem dX12_firstWord_30 : decode cX12_firstWord 30 = .ok (.if_icmp .ne 5, 3) := by decide +kernel
theorem dX12_firstWord_33 : decode cX12_firstWord 33 = .ok (.iconst (-1), 1) := by decide +kernel
theorem dX12_firstWord_34 : decode cX12_firstWord 34 = .ok (.ireturn, 1) := by decide +kernel
theorem dX12_firstWord_35 : decode cX12_firstWord 35 = .ok (.iconst 0, 1) := by decide +kernel
theorem dX12_firstWord_36 : decode cX12_firstWord 36 = .ok (.istore_n 2, 1) := by decide +kernel
theorem dX12_firstWord_37 : decode cX12_firstWord 37 = .ok (.iload_n 1, 1) := by decide +kernel
theorem dX12_firstWord_38 : decode cX12_firstWord 38 = .ok (.istore_n 3, 1) := by decide +kernel
theorem dX12_firstWord_39 : decode cX12_firstWord 39 = .ok (.iload_n 3, 1) := by decide +kernel
theorem dX12_firstWord_40 : decode cX12_firstWord 40 = .ok (.ifCond .eq 16, 3) := by decide +kernel
theorem dX12_firstWord_43 : decode cX12_firstWord 43 = .ok (.iinc 2 1, 3) := by decide +kernel
theorem dX12_firstWord_46 : decode cX12_firstWord 46 = .ok (.aload_n 0, 1) := by decide +kernel
theorem dX12_firstWord_47 : decode cX12_firstWord 47 = .ok (.getfield 59, 3) := by decide +kernel
theorem dX12_firstWord_50 : decode cX12_firstWord 50 = .ok (.iload_n 3, 1) := by decide +kernel
theorem dX12_firstWord_51 : decode cX12_firstWord 51 = .ok (.iaload, 1) := by decide +kernel
theorem dX12_firstWord_52 : decode cX12_firstWord 52 = .ok (.istore_n 3, 1) := by decide +kernel
theorem dX12_firstWord_53 : decode cX12_firstWord 53 = .ok (.goto (-14), 3) := by decide +kernel
theorem dX12_firstWord_56 : decode cX12_firstWord 56 = .ok (.iload_n 2, 1) := by decide +kernel
theorem dX12_firstWord_57 : decode cX12_firstWord 57 = .ok (.bipush 12, 2) := by decide +kernel
theorem dX12_firstWord_59 : decode cX12_firstWord 59 = .ok (.if_icmp .le 6, 3) := by decide +kernel
theorem dX12_firstWord_62 : decode cX12_firstWord 62 = .ok (.bipush (-2), 2) := by decide +kernel
theorem dX12_firstWord_64 : decode cX12_firstWord 64 = .ok (.ireturn, 1) := by decide +kernel
theorem dX12_firstWord_65 : decode cX12_firstWord 65 = .ok (.iload_n 2, 1) := by decide +kernel
theorem dX12_firstWord_66 : decode cX12_firstWord 66 = .ok (.istore_n 3, 1) := by decide +kernel
theorem dX12_firstWord_67 : decode cX12_firstWord 67 = .ok (.iload_n 1, 1) := by decide +kernel
theorem dX12_firstWord_68 : decode cX12_firstWord 68 = .ok (.istore 4, 2) := by decide +kernel
theorem dX12_firstWord_70 : decode cX12_firstWord 70 = .ok (.iload 4, 2) := by decide +kernel
theorem dX12_firstWord_72 : decode cX12_firstWord 72 = .ok (.ifCond .eq 31, 3) := by decide +kernel
theorem dX12_firstWord_75 : decode cX12_firstWord 75 = .ok (.iinc 3 (-1), 3) := by decide +kernel
theorem dX12_firstWord_78 : decode cX12_firstWord 78 = .ok (.aload_n 0, 1) := by decide +kernel
theorem dX12_firstWord_79 : decode cX12_firstWord 79 = .ok (.getfield 20, 3) := by decide +kernel
theorem dX12_firstWord_82 : decode cX12_firstWord 82 = .ok (.iload_n 3, 1) := by decide +kernel
theorem dX12_firstWord_83 : decode cX12_firstWord 83 = .ok (.aload_n 0, 1) := by decide +kernel
theorem dX12_firstWord_84 : decode cX12_firstWord 84 = .ok (.getfield 62, 3) := by decide +kernel
theorem dX12_firstWord_87 : decode cX12_firstWord 87 = .ok (.iload 4, 2) := by decide +kernel
theorem dX12_firstWord_89 : decode cX12_firstWord 89 = .ok (.iaload, 1) := by decide +kernel
theorem dX12_firstWord_90 : decode cX12_firstWord 90 = .ok (.iastore, 1) := by decide +kernel
theorem dX12_firstWord_91 : decode cX12_firstWord 91 = .ok (.aload_n 0, 1) := by decide +kernel
theorem dX12_firstWord_92 : decode cX12_firstWord 92 = .ok (.getfield 59, 3) := by decide +kernel
theorem dX12_firstWord_95 : decode cX12_firstWord 95 = .ok (.iload 4, 2) := by decide +kernel
theorem dX12_firstWord_97 : decode cX12_firstWord 97 = .ok (.iaload, 1) := by decide +kernel
theorem dX12_firstWord_98 : decode cX12_firstWord 98 = .ok (.istore 4, 2) := by decide +kernel
theorem dX12_firstWord_100 : decode cX12_firstWord 100 = .ok (.goto (-30), 3) := by decide +kernel
theorem dX12_firstWord_103 : decode cX12_firstWord 103 = .ok (.aload_n 0, 1) := by decide +kernel
theorem dX12_firstWord_104 : decode cX12_firstWord 104 = .ok (.iload_n 2, 1) := by decide +kernel
theorem dX12_firstWord_105 : decode cX12_firstWord 105 = .ok (.putfield 146, 3) := by decide +kernel
theorem dX12_firstWord_108 : decode cX12_firstWord 108 = .ok (.iload_n 2, 1) := by decide +kernel
theorem dX12_firstWord_109 : decode cX12_firstWord 109 = .ok (.ireturn, 1) := by decide +kernel
theorem dX12_takeAtomWord_0 : decode cX12_takeAtomWord 0 = .ok (.iload_n 1, 1) := by decide +kernel
theorem dX12_takeAtomWord_1 : decode cX12_takeAtomWord 1 = .ok (.invokestatic 106, 3) := by decide +kernel
theorem dX12_takeAtomWord_4 : decode cX12_takeAtomWord 4 = .ok (.ifCond .ne 9, 3) := by decide +kernel
theorem dX12_takeAtomWord_7 : decode cX12_takeAtomWord 7 = .ok (.aload_n 0, 1) := by decide +kernel
theorem dX12_takeAtomWord_8 : decode cX12_takeAtomWord 8 = .ok (.iconst 1, 1) := by decide +kernel
theorem dX12_takeAtomWord_9 : decode cX12_takeAtomWord 9 = .ok (.invokevirtual 136, 3) := by decide +kernel
theorem dX12_takeAtomWord_12 : decode cX12_takeAtomWord 12 = .ok (.ireturn, 1) := by decide +kernel
theorem dX12_takeAtomWord_13 : decode cX12_takeAtomWord 13 = .ok (.aload_n 0, 1) := by decide +kernel
theorem dX12_takeAtomWord_14 : decode cX12_takeAtomWord 14 = .ok (.iload_n 1, 1) := by decide +kernel
theorem dX12_takeAtomWord_15 : decode cX12_takeAtomWord 15 = .ok (.invokevirtual 257, 3) := by decide +kernel
theorem dX12_takeAtomWord_18 : decode cX12_takeAtomWord 18 = .ok (.aload_n 0, 1) := by decide +kernel
theorem dX12_takeAtomWord_19 : decode cX12_takeAtomWord 19 = .ok (.iload_n 2, 1) := by decide +kernel
theorem dX12_takeAtomWord_20 : decode cX12_takeAtomWord 20 = .ok (.invokevirtual 248, 3) := by decide +kernel
theorem dX12_takeAtomWord_23 : decode cX12_takeAtomWord 23 = .ok (.ifCond .ne 9, 3) := by decide +kernel
theorem dX12_takeAtomWord_26 : decode cX12_takeAtomWord 26 = .ok (.aload_n 0, 1) := by decide +kernel
theorem dX12_takeAtomWord_27 : decode cX12_takeAtomWord 27 = .ok (.iconst 1, 1) := by decide +kernel
theorem dX12_takeAtomWord_28 : decode cX12_takeAtomWord 28 = .ok (.invokevirtual 136, 3) := by decide +kernel
theorem dX12_takeAtomWord_31 : decode cX12_takeAtomWord 31 = .ok (.ireturn, 1) := by decide +kernel
theorem dX12_takeAtomWord_32 : decode cX12_takeAtomWord 32 = .ok (.aload_n 0, 1) := by decide +kernel
theorem dX12_takeAtomWord_33 : decode cX12_takeAtomWord 33 = .ok (.lconst 1, 1) := by decide +kernel
theorem dX12_takeAtomWord_34 : decode cX12_takeAtomWord 34 = .ok (.iload_n 2, 1) := by decide +kernel
theorem dX12_takeAtomWord_35 : decode cX12_takeAtomWord 35 = .ok (.lshl, 1) := by decide +kernel
theorem dX12_takeAtomWord_36 : decode cX12_takeAtomWord 36 = .ok (.putfield 169, 3) := by decide +kernel
theorem dX12_takeAtomWord_39 : decode cX12_takeAtomWord 39 = .ok (.aload_n 0, 1) := by decide +kernel
theorem dX12_takeAtomWord_40 : decode cX12_takeAtomWord 40 = .ok (.bipush 7, 2) := by decide +kernel
theorem dX12_takeAtomWord_42 : decode cX12_takeAtomWord 42 = .ok (.iload_n 1, 1) := by decide +kernel
theorem dX12_takeAtomWord_43 : decode cX12_takeAtomWord 43 = .ok (.iload_n 1, 1) := by decide +kernel
theorem dX12_takeAtomWord_44 : decode cX12_takeAtomWord 44 = .ok (.invokevirtual 231, 3) := by decide +kernel
theorem dX12_takeAtomWord_47 : decode cX12_takeAtomWord 47 = .ok (.aload_n 0, 1) := by decide +kernel
theorem dX12_takeAtomWord_48 : decode cX12_takeAtomWord 48 = .ok (.invokevirtual 260, 3) := by decide +kernel
theorem dX12_takeAtomWord_51 : decode cX12_takeAtomWord 51 = .ok (.istore_n 3, 1) := by decide +kernel
theorem dX12_takeAtomWord_52 : decode cX12_takeAtomWord 52 = .ok (.iload_n 3, 1) := by decide +kernel
theorem dX12_takeAtomWord_53 : decode cX12_takeAtomWord 53 = .ok (.ifCond .ge 11, 3) := by decide +kernel
theorem dX12_takeAtomWord_56 : decode cX12_takeAtomWord 56 = .ok (.aload_n 0, 1) := by decide +kernel
theorem dX12_takeAtomWord_57 : decode cX12_takeAtomWord 57 = .ok (.iconst 2, 1) := by decide +kernel
theorem dX12_takeAtomWord_58 : decode cX12_takeAtomWord 58 = .ok (.invokevirtual 136, 3) := by decide +kernel
theorem dX12_takeAtomWord_61 : decode cX12_takeAtomWord 61 = .ok (.goto 8, 3) := by decide +kernel
theorem dX12_takeAtomWord_64 : decode cX12_takeAtomWord 64 = .ok (.aload_n 0, 1) := by decide +kernel
theorem dX12_takeAtomWord_65 : decode cX12_takeAtomWord 65 = .ok (.iload_n 3, 1) := by decide +kernel
theorem dX12_takeAtomWord_66 : decode cX12_takeAtomWord 66 = .ok (.invokevirtual 132, 3) := by decide +kernel
theorem dX12_takeAtomWord_69 : decode cX12_takeAtomWord 69 = .ok (.ireturn, 1) := by decide +kernel
theorem dX12_atomSize_0 : decode cX12_atomSize 0 = .ok (.iload_n 1, 1) := by decide +kernel
theorem dX12_atomSize_1 : decode cX12_atomSize 1 = .ok (.invokestatic 106, 3) := by decide +kernel
theorem dX12_atomSize_4 : decode cX12_atomSize 4 = .ok (.ifCond .ne 9, 3) := by decide +kernel
theorem dX12_atomSize_7 : decode cX12_atomSize 7 = .ok (.aload_n 0, 1) := by decide +kernel
theorem dX12_atomSize_8 : decode cX12_atomSize 8 = .ok (.iconst 1, 1) := by decide +kernel
theorem dX12_atomSize_9 : decode cX12_atomSize 9 = .ok (.invokevirtual 136, 3) := by decide +kernel
theorem dX12_atomSize_12 : decode cX12_atomSize 12 = .ok (.ireturn, 1) := by decide +kernel
theorem dX12_atomSize_13 : decode cX12_atomSize 13 = .ok (.aload_n 0, 1) := by decide +kernel
theorem dX12_atomSize_14 : decode cX12_atomSize 14 = .ok (.iload_n 1, 1) := by decide +kernel
theorem dX12_atomSize_15 : decode cX12_atomSize 15 = .ok (.invokevirtual 257, 3) := by decide +kernel
theorem dX12_atomSize_18 : decode cX12_atomSize 18 = .ok (.aload_n 0, 1) := by decide +kernel
theorem dX12_atomSize_19 : decode cX12_atomSize 19 = .ok (.iload_n 2, 1) := by decide +kernel
theorem dX12_atomSize_20 : decode cX12_atomSize 20 = .ok (.invokevirtual 248, 3) := by decide +kernel
theorem dX12_atomSize_23 : decode cX12_atomSize 23 = .ok (.ifCond .ne 9, 3) := by decide +kernel
theorem dX12_atomSize_26 : decode cX12_atomSize 26 = .ok (.aload_n 0, 1) := by decide +kernel
theorem dX12_atomSize_27 : decode cX12_atomSize 27 = .ok (.iconst 1, 1) := by decide +kernel
theorem dX12_atomSize_28 : decode cX12_atomSize 28 = .ok (.invokevirtual 136, 3) := by decide +kernel
theorem dX12_atomSize_31 : decode cX12_atomSize 31 = .ok (.ireturn, 1) := by decide +kernel
theorem dX12_atomSize_32 : decode cX12_atomSize 32 = .ok (.aload_n 0, 1) := by decide +kernel
theorem dX12_atomSize_33 : decode cX12_atomSize 33 = .ok (.lconst 1, 1) := by decide +kernel
theorem dX12_atomSize_34 : decode cX12_atomSize 34 = .ok (.iload_n 2, 1) := by decide +kernel
theorem dX12_atomSize_35 : decode cX12_atomSize 35 = .ok (.lshl, 1) := by decide +kernel
theorem dX12_atomSize_36 : decode cX12_atomSize 36 = .ok (.putfield 169, 3) := by decide +kernel
theorem dX12_atomSize_39 : decode cX12_atomSize 39 = .ok (.aload_n 0, 1) := by decide +kernel
theorem dX12_atomSize_40 : decode cX12_atomSize 40 = .ok (.bipush 7, 2) := by decide +kernel
theorem dX12_atomSize_42 : decode cX12_atomSize 42 = .ok (.iload_n 1, 1) := by decide +kernel
theorem dX12_atomSize_43 : decode cX12_atomSize 43 = .ok (.iload_n 1, 1) := by decide +kernel
theorem dX12_atomSize_44 : decode cX12_atomSize 44 = .ok (.invokevirtual 231, 3) := by decide +kernel
theorem dX12_atomSize_47 : decode cX12_atomSize 47 = .ok (.aload_n 0, 1) := by decide +kernel
theorem dX12_atomSize_48 : decode cX12_atomSize 48 = .ok (.aload_n 0, 1) := by decide +kernel
theorem dX12_atomSize_49 : decode cX12_atomSize 49 = .ok (.getfield 222, 3) := by decide +kernel
theorem dX12_atomSize_52 : decode cX12_atomSize 52 = .ok (.invokevirtual 132, 3) := by decide +kernel
theorem dX12_atomSize_55 : decode cX12_atomSize 55 = .ok (.ireturn, 1) := by decide +kernel
theorem dX12_resultSize_0 : decode cX12_resultSize 0 = .ok (.iload_n 1, 1) := by decide +kernel
theorem dX12_resultSize_1 : decode cX12_resultSize 1 = .ok (.iconst 0, 1) := by decide +kernel
theorem dX12_resultSize_2 : decode cX12_resultSize 2 = .ok (.iconst 4, 1) := by decide +kernel
theorem dX12_resultSize_3 : decode cX12_resultSize 3 = .ok (.invokestatic 102, 3) := by decide +kernel
theorem dX12_resultSize_6 : decode cX12_resultSize 6 = .ok (.ifCond .ne 9, 3) := by decide +kernel
theorem dX12_resultSize_9 : decode cX12_resultSize 9 = .ok (.aload_n 0, 1) := by decide +kernel
theorem dX12_resultSize_10 : decode cX12_resultSize 10 = .ok (.iconst 1, 1) := by decide +kernel
theorem dX12_resultSize_11 : decode cX12_resultSize 11 = .ok (.invokevirtual 136, 3) := by decide +kernel
theorem dX12_resultSize_14 : decode cX12_resultSize 14 = .ok (.ireturn, 1) := by decide +kernel
theorem dX12_resultSize_15 : decode cX12_resultSize 15 = .ok (.iload_n 2, 1) := by decide +kernel
theorem dX12_resultSize_16 : decode cX12_resultSize 16 = .ok (.invokestatic 106, 3) := by decide +kernel
theorem dX12_resultSize_19 : decode cX12_resultSize 19 = .ok (.ifCond .eq 10, 3) := by decide +kernel
theorem dX12_resultSize_22 : decode cX12_resultSize 22 = .ok (.iload_n 3, 1) := by decide +kernel
theorem dX12_resultSize_23 : decode cX12_resultSize 23 = .ok (.invokestatic 106, 3) := by decide +kernel
theorem dX12_resultSize_26 : decode cX12_resultSize 26 = .ok (.ifCond .ne 9, 3) := by decide +kernel
theorem dX12_resultSize_29 : decode cX12_resultSize 29 = .ok (.aload_n 0, 1) := by decide +kernel
theorem dX12_resultSize_30 : decode cX12_resultSize 30 = .ok (.iconst 2, 1) := by decide +kernel
theorem dX12_resultSize_31 : decode cX12_resultSize 31 = .ok (.invokevirtual 136, 3) := by decide +kernel
theorem dX12_resultSize_34 : decode cX12_resultSize 34 = .ok (.ireturn, 1) := by decide +kernel
theorem dX12_resultSize_35 : decode cX12_resultSize 35 = .ok (.aload_n 0, 1) := by decide +kernel
theorem dX12_resultSize_36 : decode cX12_resultSize 36 = .ok (.iload_n 1, 1) := by decide +kernel
theorem dX12_resultSize_37 : decode cX12_resultSize 37 = .ok (.iload_n 2, 1) := by decide +kernel
theorem dX12_resultSize_38 : decode cX12_resultSize 38 = .ok (.iload_n 3, 1) := by decide +kernel
theorem dX12_resultSize_39 : decode cX12_resultSize 39 = .ok (.invokevirtual 231, 3) := by decide +kernel
theorem dX12_resultSize_42 : decode cX12_resultSize 42 = .ok (.aload_n 0, 1) := by decide +kernel
theorem dX12_resultSize_43 : decode cX12_resultSize 43 = .ok (.aload_n 0, 1) := by decide +kernel
theorem dX12_resultSize_44 : decode cX12_resultSize 44 = .ok (.getfield 222, 3) := by decide +kernel
theorem dX12_resultSize_47 : decode cX12_resultSize 47 = .ok (.invokevirtual 132, 3) := by decide +kernel
theorem dX12_resultSize_50 : decode cX12_resultSize 50 = .ok (.ireturn, 1) := by decide +kernel
theorem dX12_starSize_0 : decode cX12_starSize 0 = .ok (.iload_n 1, 1) := by decide +kernel
theorem dX12_starSize_1 : decode cX12_starSize 1 = .ok (.invokestatic 106, 3) := by decide +kernel
theorem dX12_starSize_4 : decode cX12_starSize 4 = .ok (.ifCond .ne 9, 3) := by decide +kernel
theorem dX12_starSize_7 : decode cX12_starSize 7 = .ok (.aload_n 0, 1) := by decide +kernel
theorem dX12_starSize_8 : decode cX12_starSize 8 = .ok (.iconst 1, 1) := by decide +kernel
theorem dX12_starSize_9 : decode cX12_starSize 9 = .ok (.invokevirtual 136, 3) := by decide +kernel
theorem dX12_starSize_12 : decode cX12_starSize 12 = .ok (.ireturn, 1) := by decide +kernel
theorem dX12_starSize_13 : decode cX12_starSize 13 = .ok (.aload_n 0, 1) := by decide +kernel
theorem dX12_starSize_14 : decode cX12_starSize 14 = .ok (.iconst 5, 1) := by decide +kernel
theorem dX12_starSize_15 : decode cX12_starSize 15 = .ok (.iload_n 1, 1) := by decide +kernel
theorem dX12_starSize_16 : decode cX12_starSize 16 = .ok (.iload_n 1, 1) := by decide +kernel
theorem dX12_starSize_17 : decode cX12_starSize 17 = .ok (.invokevirtual 231, 3) := by decide +kernel
theorem dX12_starSize_20 : decode cX12_starSize 20 = .ok (.aload_n 0, 1) := by decide +kernel
theorem dX12_starSize_21 : decode cX12_starSize 21 = .ok (.aload_n 0, 1) := by decide +kernel
theorem dX12_starSize_22 : decode cX12_starSize 22 = .ok (.getfield 222, 3) := by decide +kernel
theorem dX12_starSize_25 : decode cX12_starSize 25 = .ok (.invokevirtual 132, 3) := by decide +kernel
theorem dX12_starSize_28 : decode cX12_starSize 28 = .ok (.ireturn, 1) := by decide +kernel
theorem dX12_combine_0 : decode cX12_combine 0 = .ok (.iload_n 1, 1) := by decide +kernel
theorem dX12_combine_1 : decode cX12_combine 1 = .ok (.iconst 0, 1) := by decide +kernel
theorem dX12_combine_2 : decode cX12_combine 2 = .ok (.iconst 4, 1) := by decide +kernel
theorem dX12_combine_3 : decode cX12_combine 3 = .ok (.invokestatic 102, 3) := by decide +kernel
theorem dX12_combine_6 : decode cX12_combine 6 = .ok (.ifCond .ne 9, 3) := by decide +kernel
theorem dX12_combine_9 : decode cX12_combine 9 = .ok (.aload_n 0, 1) := by decide +kernel
theorem dX12_combine_10 : decode cX12_combine 10 = .ok (.iconst 1, 1) := by decide +kernel
theorem dX12_combine_11 : decode cX12_combine 11 = .ok (.invokevirtual 136, 3) := by decide +kernel
theorem dX12_combine_14 : decode cX12_combine 14 = .ok (.ireturn, 1) := by decide +kernel
theorem dX12_combine_15 : decode cX12_combine 15 = .ok (.iload_n 2, 1) := by decide +kernel
theorem dX12_combine_16 : decode cX12_combine 16 = .ok (.invokestatic 106, 3) := by decide +kernel
theorem dX12_combine_19 : decode cX12_combine 19 = .ok (.ifCond .eq 18, 3) := by decide +kernel
theorem dX12_combine_22 : decode cX12_combine 22 = .ok (.iload_n 3, 1) := by decide +kernel
theorem dX12_combine_23 : decode cX12_combine 23 = .ok (.invokestatic 106, 3) := by decide +kernel
theorem dX12_combine_26 : decode cX12_combine 26 = .ok (.ifCond .eq 11, 3) := by decide +kernel
theorem dX12_combine_29 : decode cX12_combine 29 = .ok (.iload 4, 2) := by decide +kernel
theorem dX12_combine_31 : decode cX12_combine 31 = .ok (.invokestatic 106, 3) := by decide +kernel
theorem dX12_combine_34 : decode cX12_combine 34 = .ok (.ifCond .ne 9, 3) := by decide +kernel
theorem dX12_combine_37 : decode cX12_combine 37 = .ok (.aload_n 0, 1) := by decide +kernel
theorem dX12_combine_38 : decode cX12_combine 38 = .ok (.iconst 2, 1) := by decide +kernel
theorem dX12_combine_39 : decode cX12_combine 39 = .ok (.invokevirtual 136, 3) := by decide +kernel
theorem dX12_combine_42 : decode cX12_combine 42 = .ok (.ireturn, 1) := by decide +kernel
theorem dX12_combine_43 : decode cX12_combine 43 = .ok (.aload_n 0, 1) := by decide +kernel
theorem dX12_combine_44 : decode cX12_combine 44 = .ok (.iload_n 1, 1) := by decide +kernel
theorem dX12_combine_45 : decode cX12_combine 45 = .ok (.iload_n 2, 1) := by decide +kernel
theorem dX12_combine_46 : decode cX12_combine 46 = .ok (.iload_n 3, 1) := by decide +kernel
theorem dX12_combine_47 : decode cX12_combine 47 = .ok (.invokevirtual 231, 3) := by decide +kernel
theorem dX12_combine_50 : decode cX12_combine 50 = .ok (.aload_n 0, 1) := by decide +kernel
theorem dX12_combine_51 : decode cX12_combine 51 = .ok (.getfield 222, 3) := by decide +kernel
theorem dX12_combine_54 : decode cX12_combine 54 = .ok (.bipush 6, 2) := by decide +kernel
theorem dX12_combine_56 : decode cX12_combine 56 = .ok (.if_icmp .le 11, 3) := by decide +kernel
theorem dX12_combine_59 : decode cX12_combine 59 = .ok (.aload_n 0, 1) := by decide +kernel
theorem dX12_combine_60 : decode cX12_combine 60 = .ok (.iconst 3, 1) := by decide +kernel
theorem dX12_combine_61 : decode cX12_combine 61 = .ok (.invokevirtual 136, 3) := by decide +kernel
theorem dX12_combine_64 : decode cX12_combine 64 = .ok (.goto 9, 3) := by decide +kernel
theorem dX12_combine_67 : decode cX12_combine 67 = .ok (.aload_n 0, 1) := by decide +kernel
theorem dX12_combine_68 : decode cX12_combine 68 = .ok (.iload 4, 2) := by decide +kernel
theorem dX12_combine_70 : decode cX12_combine 70 = .ok (.invokevirtual 235, 3) := by decide +kernel
theorem dX12_combine_73 : decode cX12_combine 73 = .ok (.ireturn, 1) := by decide +kernel
theorem dX12_star_0 : decode cX12_star 0 = .ok (.iload_n 1, 1) := by decide +kernel
theorem dX12_star_1 : decode cX12_star 1 = .ok (.invokestatic 106, 3) := by decide +kernel
theorem dX12_star_4 : decode cX12_star 4 = .ok (.ifCond .eq 10, 3) := by decide +kernel
theorem dX12_star_7 : decode cX12_star 7 = .ok (.iload_n 2, 1) := by decide +kernel
theorem dX12_star_8 : decode cX12_star 8 = .ok (.invokestatic 106, 3) := by decide +kernel
theorem dX12_star_11 : decode cX12_star 11 = .ok (.ifCond .ne 9, 3) := by decide +kernel
theorem dX12_star_14 : decode cX12_star 14 = .ok (.aload_n 0, 1) := by decide +kernel
theorem dX12_star_15 : decode cX12_star 15 = .ok (.iconst 1, 1) := by decide +kernel
theorem dX12_star_16 : decode cX12_star 16 = .ok (.invokevirtual 136, 3) := by decide +kernel
theorem dX12_star_19 : decode cX12_star 19 = .ok (.ireturn, 1) := by decide +kernel
theorem dX12_star_20 : decode cX12_star 20 = .ok (.aload_n 0, 1) := by decide +kernel
theorem dX12_star_21 : decode cX12_star 21 = .ok (.iconst 5, 1) := by decide +kernel
theorem dX12_star_22 : decode cX12_star 22 = .ok (.iload_n 1, 1) := by decide +kernel
theorem dX12_star_23 : decode cX12_star 23 = .ok (.iload_n 1, 1) := by decide +kernel
theorem dX12_star_24 : decode cX12_star 24 = .ok (.invokevirtual 231, 3) := by decide +kernel
theorem dX12_star_27 : decode cX12_star 27 = .ok (.aload_n 0, 1) := by decide +kernel
theorem dX12_star_28 : decode cX12_star 28 = .ok (.getfield 222, 3) := by decide +kernel
theorem dX12_star_31 : decode cX12_star 31 = .ok (.bipush 6, 2) := by decide +kernel
theorem dX12_star_33 : decode cX12_star 33 = .ok (.if_icmp .le 11, 3) := by decide +kernel
theorem dX12_star_36 : decode cX12_star 36 = .ok (.aload_n 0, 1) := by decide +kernel
theorem dX12_star_37 : decode cX12_star 37 = .ok (.iconst 2, 1) := by decide +kernel
theorem dX12_star_38 : decode cX12_star 38 = .ok (.invokevirtual 136, 3) := by decide +kernel
theorem dX12_star_41 : decode cX12_star 41 = .ok (.goto 8, 3) := by decide +kernel
theorem dX12_star_44 : decode cX12_star 44 = .ok (.aload_n 0, 1) := by decide +kernel
theorem dX12_star_45 : decode cX12_star 45 = .ok (.iload_n 2, 1) := by decide +kernel
theorem dX12_star_46 : decode cX12_star 46 = .ok (.invokevirtual 235, 3) := by decide +kernel
theorem dX12_star_49 : decode cX12_star 49 = .ok (.ireturn, 1) := by decide +kernel
theorem dX12_reverse_0 : decode cX12_reverse 0 = .ok (.iload_n 1, 1) := by decide +kernel
theorem dX12_reverse_1 : decode cX12_reverse 1 = .ok (.invokestatic 106, 3) := by decide +kernel
theorem dX12_reverse_4 : decode cX12_reverse 4 = .ok (.ifCond .eq 10, 3) := by decide +kernel
theorem dX12_reverse_7 : decode cX12_reverse 7 = .ok (.iload_n 2, 1) := by decide +kernel
theorem dX12_reverse_8 : decode cX12_reverse 8 = .ok (.invokestatic 106, 3) := by decide +kernel
theorem dX12_reverse_11 : decode cX12_reverse 11 = .ok (.ifCond .ne 9, 3) := by decide +kernel
theorem dX12_reverse_14 : decode cX12_reverse 14 = .ok (.aload_n 0, 1) := by decide +kernel
theorem dX12_reverse_15 : decode cX12_reverse 15 = .ok (.iconst 1, 1) := by decide +kernel
theorem dX12_reverse_16 : decode cX12_reverse 16 = .ok (.invokevirtual 136, 3) := by decide +kernel
theorem dX12_reverse_19 : decode cX12_reverse 19 = .ok (.ireturn, 1) := by decide +kernel
theorem dX12_reverse_20 : decode cX12_reverse 20 = .ok (.aload_n 0, 1) := by decide +kernel
theorem dX12_reverse_21 : decode cX12_reverse 21 = .ok (.bipush 6, 2) := by decide +kernel
theorem dX12_reverse_23 : decode cX12_reverse 23 = .ok (.iload_n 1, 1) := by decide +kernel
theorem dX12_reverse_24 : decode cX12_reverse 24 = .ok (.iload_n 1, 1) := by decide +kernel
theorem dX12_reverse_25 : decode cX12_reverse 25 = .ok (.invokevirtual 231, 3) := by decide +kernel
theorem dX12_reverse_28 : decode cX12_reverse 28 = .ok (.aload_n 0, 1) := by decide +kernel
theorem dX12_reverse_29 : decode cX12_reverse 29 = .ok (.getfield 222, 3) := by decide +kernel
theorem dX12_reverse_32 : decode cX12_reverse 32 = .ok (.bipush 6, 2) := by decide +kernel
theorem dX12_reverse_34 : decode cX12_reverse 34 = .ok (.if_icmp .le 11, 3) := by decide +kernel
theorem dX12_reverse_37 : decode cX12_reverse 37 = .ok (.aload_n 0, 1) := by decide +kernel
theorem dX12_reverse_38 : decode cX12_reverse 38 = .ok (.iconst 2, 1) := by decide +kernel
theorem dX12_reverse_39 : decode cX12_reverse 39 = .ok (.invokevirtual 136, 3) := by decide +kernel
theorem dX12_reverse_42 : decode cX12_reverse 42 = .ok (.goto 8, 3) := by decide +kernel
theorem dX12_reverse_45 : decode cX12_reverse 45 = .ok (.aload_n 0, 1) := by decide +kernel
theorem dX12_reverse_46 : decode cX12_reverse 46 = .ok (.iload_n 2, 1) := by decide +kernel
theorem dX12_reverse_47 : decode cX12_reverse 47 = .ok (.invokevirtual 235, 3) := by decide +kernel
theorem dX12_reverse_50 : decode cX12_reverse 50 = .ok (.ireturn, 1) := by decide +kernel
theorem dX12_uniteAtoms_0 : decode cX12_uniteAtoms 0 = .ok (.iload_n 1, 1) := by decide +kernel
theorem dX12_uniteAtoms_1 : decode cX12_uniteAtoms 1 = .ok (.invokestatic 106, 3) := by decide +kernel
theorem dX12_uniteAtoms_4 : decode cX12_uniteAtoms 4 = .ok (.ifCond .eq 11, 3) := by decide +kernel
theorem dX12_uniteAtoms_7 : decode cX12_uniteAtoms 7 = .ok (.iload 4, 2) := by decide +kernel
theorem dX12_uniteAtoms_9 : decode cX12_uniteAtoms 9 = .ok (.invokestatic 106, 3) := by decide +kernel
theorem dX12_uniteAtoms_12 : decode cX12_uniteAtoms 12 = .ok (.ifCond .ne 9, 3) := by decide +kernel
theorem dX12_uniteAtoms_15 : decode cX12_uniteAtoms 15 = .ok (.aload_n 0, 1) := by decide +kernel
theorem dX12_uniteAtoms_16 : decode cX12_uniteAtoms 16 = .ok (.iconst 1, 1) := by decide +kernel
theorem dX12_uniteAtoms_17 : decode cX12_uniteAtoms 17 = .ok (.invokevirtual 136, 3) := by decide +kernel
theorem dX12_uniteAtoms_20 : decode cX12_uniteAtoms 20 = .ok (.ireturn, 1) := by decide +kernel
theorem dX12_uniteAtoms_21 : decode cX12_uniteAtoms 21 = .ok (.aload_n 0, 1) := by decide +kernel
theorem dX12_uniteAtoms_22 : decode cX12_uniteAtoms 22 = .ok (.iload_n 1, 1) := by decide +kernel
theorem dX12_uniteAtoms_23 : decode cX12_uniteAtoms 23 = .ok (.invokevirtual 257, 3) := by decide +kernel
theorem dX12_uniteAtoms_26 : decode cX12_uniteAtoms 26 = .ok (.aload_n 0, 1) := by decide +kernel
theorem dX12_uniteAtoms_27 : decode cX12_uniteAtoms 27 = .ok (.getfield 195, 3) := by decide +kernel
theorem dX12_uniteAtoms_30 : decode cX12_uniteAtoms 30 = .ok (.bipush 64, 2) := by decide +kernel
theorem dX12_uniteAtoms_32 : decode cX12_uniteAtoms 32 = .ok (.if_icmp .ge 20, 3) := by decide +kernel
theorem dX12_uniteAtoms_35 : decode cX12_uniteAtoms 35 = .ok (.lload_n 2, 1) := by decide +kernel
theorem dX12_uniteAtoms_36 : decode cX12_uniteAtoms 36 = .ok (.aload_n 0, 1) := by decide +kernel
theorem dX12_uniteAtoms_37 : decode cX12_uniteAtoms 37 = .ok (.getfield 195, 3) := by decide +kernel
theorem dX12_uniteAtoms_40 : decode cX12_uniteAtoms 40 = .ok (.lushr, 1) := by decide +kernel
theorem dX12_uniteAtoms_41 : decode cX12_uniteAtoms 41 = .ok (.lconst 0, 1) := by decide +kernel
theorem dX12_uniteAtoms_42 : decode cX12_uniteAtoms 42 = .ok (.lcmp, 1) := by decide +kernel
theorem dX12_uniteAtoms_43 : decode cX12_uniteAtoms 43 = .ok (.ifCond .eq 9, 3) := by decide +kernel
theorem dX12_uniteAtoms_46 : decode cX12_uniteAtoms 46 = .ok (.aload_n 0, 1) := by decide +kernel
theorem dX12_uniteAtoms_47 : decode cX12_uniteAtoms 47 = .ok (.iconst 2, 1) := by decide +kernel
theorem dX12_uniteAtoms_48 : decode cX12_uniteAtoms 48 = .ok (.invokevirtual 136, 3) := by decide +kernel
theorem dX12_uniteAtoms_51 : decode cX12_uniteAtoms 51 = .ok (.ireturn, 1) := by decide +kernel
theorem dX12_uniteAtoms_52 : decode cX12_uniteAtoms 52 = .ok (.aload_n 0, 1) := by decide +kernel
theorem dX12_uniteAtoms_53 : decode cX12_uniteAtoms 53 = .ok (.lload_n 2, 1) := by decide +kernel
theorem dX12_uniteAtoms_54 : decode cX12_uniteAtoms 54 = .ok (.putfield 169, 3) := by decide +kernel
theorem dX12_uniteAtoms_57 : decode cX12_uniteAtoms 57 = .ok (.aload_n 0, 1) := by decide +kernel
theorem dX12_uniteAtoms_58 : decode cX12_uniteAtoms 58 = .ok (.bipush 7, 2) := by decide +kernel
theorem dX12_uniteAtoms_60 : decode cX12_uniteAtoms 60 = .ok (.putfield 156, 3) := by decide +kernel
theorem dX12_uniteAtoms_63 : decode cX12_uniteAtoms 63 = .ok (.aload_n 0, 1) := by decide +kernel
theorem dX12_uniteAtoms_64 : decode cX12_uniteAtoms 64 = .ok (.iload_n 1, 1) := by decide +kernel
theorem dX12_uniteAtoms_65 : decode cX12_uniteAtoms 65 = .ok (.putfield 173, 3) := by decide +kernel
theorem dX12_uniteAtoms_68 : decode cX12_uniteAtoms 68 = .ok (.aload_n 0, 1) := by decide +kernel
theorem dX12_uniteAtoms_69 : decode cX12_uniteAtoms 69 = .ok (.invokevirtual 264, 3) := by decide +kernel
theorem dX12_uniteAtoms_72 : decode cX12_uniteAtoms 72 = .ok (.ifCond .ne 9, 3) := by decide +kernel
theorem dX12_uniteAtoms_75 : decode cX12_uniteAtoms 75 = .ok (.aload_n 0, 1) := by decide +kernel
theorem dX12_uniteAtoms_76 : decode cX12_uniteAtoms 76 = .ok (.iconst 3, 1) := by decide +kernel
theorem dX12_uniteAtoms_77 : decode cX12_uniteAtoms 77 = .ok (.invokevirtual 136, 3) := by decide +kernel
theorem dX12_uniteAtoms_80 : decode cX12_uniteAtoms 80 = .ok (.ireturn, 1) := by decide +kernel
theorem dX12_uniteAtoms_81 : decode cX12_uniteAtoms 81 = .ok (.aload_n 0, 1) := by decide +kernel
theorem dX12_uniteAtoms_82 : decode cX12_uniteAtoms 82 = .ok (.bipush 7, 2) := by decide +kernel
theorem dX12_uniteAtoms_84 : decode cX12_uniteAtoms 84 = .ok (.iload_n 1, 1) := by decide +kernel
theorem dX12_uniteAtoms_85 : decode cX12_uniteAtoms 85 = .ok (.iload_n 1, 1) := by decide +kernel
theorem dX12_uniteAtoms_86 : decode cX12_uniteAtoms 86 = .ok (.invokevirtual 231, 3) := by decide +kernel
theorem dX12_uniteAtoms_89 : decode cX12_uniteAtoms 89 = .ok (.aload_n 0, 1) := by decide +kernel
theorem dX12_uniteAtoms_90 : decode cX12_uniteAtoms 90 = .ok (.iload 4, 2) := by decide +kernel
theorem dX12_uniteAtoms_92 : decode cX12_uniteAtoms 92 = .ok (.invokevirtual 235, 3) := by decide +kernel
theorem dX12_uniteAtoms_95 : decode cX12_uniteAtoms 95 = .ok (.ireturn, 1) := by decide +kernel
theorem dX12_isSmall_0 : decode cX12_isSmall 0 = .ok (.aload_n 0, 1) := by decide +kernel
theorem dX12_isSmall_1 : decode cX12_isSmall 1 = .ok (.iconst 0, 1) := by decide +kernel
theorem dX12_isSmall_2 : decode cX12_isSmall 2 = .ok (.putfield 153, 3) := by decide +kernel
theorem dX12_isSmall_5 : decode cX12_isSmall 5 = .ok (.aload_n 0, 1) := by decide +kernel
theorem dX12_isSmall_6 : decode cX12_isSmall 6 = .ok (.aload_n 0, 1) := by decide +kernel
theorem dX12_isSmall_7 : decode cX12_isSmall 7 = .ok (.getfield 169, 3) := by decide +kernel
theorem dX12_isSmall_10 : decode cX12_isSmall 10 = .ok (.invokevirtual 208, 3) := by decide +kernel
theorem dX12_isSmall_13 : decode cX12_isSmall 13 = .ok (.pop, 1) := by decide +kernel
theorem dX12_isSmall_14 : decode cX12_isSmall 14 = .ok (.iconst 0, 1) := by decide +kernel
theorem dX12_isSmall_15 : decode cX12_isSmall 15 = .ok (.istore_n 1, 1) := by decide +kernel
theorem dX12_isSmall_16 : decode cX12_isSmall 16 = .ok (.iload_n 1, 1) := by decide +kernel
theorem dX12_isSmall_17 : decode cX12_isSmall 17 = .ok (.aload_n 0, 1) := by decide +kernel
theorem dX12_isSmall_18 : decode cX12_isSmall 18 = .ok (.getfield 153, 3) := by decide +kernel
theorem dX12_isSmall_21 : decode cX12_isSmall 21 = .ok (.if_icmp .ge 47, 3) := by decide +kernel
theorem dX12_isSmall_24 : decode cX12_isSmall 24 = .ok (.aload_n 0, 1) := by decide +kernel
theorem dX12_isSmall_25 : decode cX12_isSmall 25 = .ok (.getfield 153, 3) := by decide +kernel
theorem dX12_isSmall_28 : decode cX12_isSmall 28 = .ok (.bipush 6, 2) := by decide +kernel
theorem dX12_isSmall_30 : decode cX12_isSmall 30 = .ok (.if_icmp .gt 38, 3) := by decide +kernel
theorem dX12_isSmall_33 : decode cX12_isSmall 33 = .ok (.iconst 0, 1) := by decide +kernel
theorem dX12_isSmall_34 : decode cX12_isSmall 34 = .ok (.istore_n 2, 1) := by decide +kernel
theorem dX12_isSmall_35 : decode cX12_isSmall 35 = .ok (.iload_n 2, 1) := by decide +kernel
theorem dX12_isSmall_36 : decode cX12_isSmall 36 = .ok (.iconst 3, 1) := by decide +kernel
theorem dX12_isSmall_37 : decode cX12_isSmall 37 = .ok (.if_icmp .ge 25, 3) := by decide +kernel
theorem dX12_isSmall_40 : decode cX12_isSmall 40 = .ok (.aload_n 0, 1) := by decide +kernel
theorem dX12_isSmall_41 : decode cX12_isSmall 41 = .ok (.aload_n 0, 1) := by decide +kernel
theorem dX12_isSmall_42 : decode cX12_isSmall 42 = .ok (.aload_n 0, 1) := by decide +kernel
theorem dX12_isSmall_43 : decode cX12_isSmall 43 = .ok (.getfield 49, 3) := by decide +kernel
theorem dX12_isSmall_46 : decode cX12_isSmall 46 = .ok (.iload_n 1, 1) := by decide +kernel
theorem dX12_isSmall_47 : decode cX12_isSmall 47 = .ok (.laload, 1) := by decide +kernel
theorem dX12_isSmall_48 : decode cX12_isSmall 48 = .ok (.iload_n 2, 1) := by decide +kernel
theorem dX12_isSmall_49 : decode cX12_isSmall 49 = .ok (.invokevirtual 192, 3) := by decide +kernel
theorem dX12_isSmall_52 : decode cX12_isSmall 52 = .ok (.invokevirtual 208, 3) := by decide +kernel
theorem dX12_isSmall_55 : decode cX12_isSmall 55 = .ok (.pop, 1) := by decide +kernel
theorem dX12_isSmall_56 : decode cX12_isSmall 56 = .ok (.iinc 2 1, 3) := by decide +kernel
theorem dX12_isSmall_59 : decode cX12_isSmall 59 = .ok (.goto (-24), 3) := by decide +kernel
theorem dX12_isSmall_62 : decode cX12_isSmall 62 = .ok (.iinc 1 1, 3) := by decide +kernel
theorem dX12_isSmall_65 : decode cX12_isSmall 65 = .ok (.goto (-49), 3) := by decide +kernel
theorem dX12_isSmall_68 : decode cX12_isSmall 68 = .ok (.aload_n 0, 1) := by decide +kernel
theorem dX12_isSmall_69 : decode cX12_isSmall 69 = .ok (.getfield 153, 3) := by decide +kernel
theorem dX12_isSmall_72 : decode cX12_isSmall 72 = .ok (.bipush 6, 2) := by decide +kernel
theorem dX12_isSmall_74 : decode cX12_isSmall 74 = .ok (.if_icmp .gt 7, 3) := by decide +kernel
theorem dX12_isSmall_77 : decode cX12_isSmall 77 = .ok (.iconst 1, 1) := by decide +kernel
theorem dX12_isSmall_78 : decode cX12_isSmall 78 = .ok (.goto 4, 3) := by decide +kernel
theorem dX12_isSmall_81 : decode cX12_isSmall 81 = .ok (.iconst 0, 1) := by decide +kernel
theorem dX12_isSmall_82 : decode cX12_isSmall 82 = .ok (.ireturn, 1) := by decide +kernel
theorem dX12_meets_0 : decode cX12_meets 0 = .ok (.iload_n 1, 1) := by decide +kernel
theorem dX12_meets_1 : decode cX12_meets 1 = .ok (.bipush 6, 2) := by decide +kernel
theorem dX12_meets_3 : decode cX12_meets 3 = .ok (.ishl, 1) := by decide +kernel
theorem dX12_meets_4 : decode cX12_meets 4 = .ok (.iload_n 2, 1) := by decide +kernel
theorem dX12_meets_5 : decode cX12_meets 5 = .ok (.ior, 1) := by decide +kernel
theorem dX12_meets_6 : decode cX12_meets 6 = .ok (.istore_n 3, 1) := by decide +kernel
theorem dX12_meets_7 : decode cX12_meets 7 = .ok (.aload_n 0, 1) := by decide +kernel
theorem dX12_meets_8 : decode cX12_meets 8 = .ok (.getfield 86, 3) := by decide +kernel
theorem dX12_meets_11 : decode cX12_meets 11 = .ok (.iload_n 3, 1) := by decide +kernel
theorem dX12_meets_12 : decode cX12_meets 12 = .ok (.baload, 1) := by decide +kernel
theorem dX12_meets_13 : decode cX12_meets 13 = .ok (.ifCond .ne 30, 3) := by decide +kernel
theorem dX12_meets_16 : decode cX12_meets 16 = .ok (.aload_n 0, 1) := by decide +kernel
theorem dX12_meets_17 : decode cX12_meets 17 = .ok (.getfield 86, 3) := by decide +kernel
theorem dX12_meets_20 : decode cX12_meets 20 = .ok (.iload_n 3, 1) := by decide +kernel
theorem dX12_meets_21 : decode cX12_meets 21 = .ok (.iconst 1, 1) := by decide +kernel
theorem dX12_meets_22 : decode cX12_meets 22 = .ok (.bastore, 1) := by decide +kernel
theorem dX12_meets_23 : decode cX12_meets 23 = .ok (.aload_n 0, 1) := by decide +kernel
theorem dX12_meets_24 : decode cX12_meets 24 = .ok (.getfield 89, 3) := by decide +kernel
theorem dX12_meets_27 : decode cX12_meets 27 = .ok (.aload_n 0, 1) := by decide +kernel
theorem dX12_meets_28 : decode cX12_meets 28 = .ok (.getfield 268, 3) := by decide +kernel
theorem dX12_meets_31 : decode cX12_meets 31 = .ok (.iload_n 3, 1) := by decide +kernel
theorem dX12_meets_32 : decode cX12_meets 32 = .ok (.iastore, 1) := by decide +kernel
theorem dX12_meets_33 : decode cX12_meets 33 = .ok (.aload_n 0, 1) := by decide +kernel
theorem dX12_meets_34 : decode cX12_meets 34 = .ok (.dup, 1) := by decide +kernel
theorem dX12_meets_35 : decode cX12_meets 35 = .ok (.getfield 268, 3) := by decide +kernel
theorem dX12_meets_38 : decode cX12_meets 38 = .ok (.iconst 1, 1) := by decide +kernel
theorem dX12_meets_39 : decode cX12_meets 39 = .ok (.iadd, 1) := by decide +kernel
theorem dX12_meets_40 : decode cX12_meets 40 = .ok (.putfield 268, 3) := by decide +kernel
theorem dX12_meets_43 : decode cX12_meets 43 = .ok (.return_, 1) := by decide +kernel
theorem dX12_backFrom_0 : decode cX12_backFrom 0 = .ok (.iconst 0, 1) := by decide +kernel
theorem dX12_backFrom_1 : decode cX12_backFrom 1 = .ok (.istore 4, 2) := by decide +kernel
theorem dX12_backFrom_3 : decode cX12_backFrom 3 = .ok (.iconst 0, 1) := by decide +kernel
theorem dX12_backFrom_4 : decode cX12_backFrom 4 = .ok (.istore 5, 2) := by decide +kernel
theorem dX12_backFrom_6 : decode cX12_backFrom 6 = .ok (.iload 5, 2) := by decide +kernel
theorem dX12_backFrom_8 : decode cX12_backFrom 8 = .ok (.aload_n 0, 1) := by decide +kernel
theorem dX12_backFrom_9 : decode cX12_backFrom 9 = .ok (.getfield 7, 3) := by decide +kernel
theorem dX12_backFrom_12 : decode cX12_backFrom 12 = .ok (.iload_n 1, 1) := by decide +kernel
theorem dX12_backFrom_13 : decode cX12_backFrom 13 = .ok (.iaload, 1) := by decide +kernel
theorem dX12_backFrom_14 : decode cX12_backFrom 14 = .ok (.if_icmp .ge 42, 3) := by decide +kernel
theorem dX12_backFrom_17 : decode cX12_backFrom 17 = .ok (.iload 4, 2) := by decide +kernel
theorem dX12_backFrom_19 : decode cX12_backFrom 19 = .ok (.iload_n 2, 1) := by decide +kernel
theorem dX12_backFrom_20 : decode cX12_backFrom 20 = .ok (.aload_n 0, 1) := by decide +kernel
theorem dX12_backFrom_21 : decode cX12_backFrom 21 = .ok (.getfield 13, 3) := by decide +kernel
theorem dX12_backFrom_24 : decode cX12_backFrom 24 = .ok (.iload_n 1, 1) := by decide +kernel
theorem dX12_backFrom_25 : decode cX12_backFrom 25 = .ok (.iload 5, 2) := by decide +kernel
theorem dX12_backFrom_27 : decode cX12_backFrom 27 = .ok (.iload_n 3, 1) := by decide +kernel
theorem dX12_backFrom_28 : decode cX12_backFrom 28 = .ok (.invokestatic 110, 3) := by decide +kernel
theorem dX12_backFrom_31 : decode cX12_backFrom 31 = .ok (.iaload, 1) := by decide +kernel
theorem dX12_backFrom_32 : decode cX12_backFrom 32 = .ok (.ishr, 1) := by decide +kernel
theorem dX12_backFrom_33 : decode cX12_backFrom 33 = .ok (.iconst 1, 1) := by decide +kernel
theorem dX12_backFrom_34 : decode cX12_backFrom 34 = .ok (.iand, 1) := by decide +kernel
theorem dX12_backFrom_35 : decode cX12_backFrom 35 = .ok (.iconst 1, 1) := by decide +kernel
theorem dX12_backFrom_36 : decode cX12_backFrom 36 = .ok (.if_icmp .ne 10, 3) := by decide +kernel
theorem dX12_backFrom_39 : decode cX12_backFrom 39 = .ok (.iconst 1, 1) := by decide +kernel
theorem dX12_backFrom_40 : decode cX12_backFrom 40 = .ok (.iload 5, 2) := by decide +kernel
theorem dX12_backFrom_42 : decode cX12_backFrom 42 = .ok (.ishl, 1) := by decide +kernel
theorem dX12_backFrom_43 : decode cX12_backFrom 43 = .ok (.goto 4, 3) := by decide +kernel
theorem dX12_backFrom_46 : decode cX12_backFrom 46 = .ok (.iconst 0, 1) := by decide +kernel
theorem dX12_backFrom_47 : decode cX12_backFrom 47 = .ok (.ior, 1) := by decide +kernel
theorem dX12_backFrom_48 : decode cX12_backFrom 48 = .ok (.istore 4, 2) := by decide +kernel
theorem dX12_backFrom_50 : decode cX12_backFrom 50 = .ok (.iinc 5 1, 3) := by decide +kernel
theorem dX12_backFrom_53 : decode cX12_backFrom 53 = .ok (.goto (-47), 3) := by decide +kernel
theorem dX12_backFrom_56 : decode cX12_backFrom 56 = .ok (.iload 4, 2) := by decide +kernel
theorem dX12_backFrom_58 : decode cX12_backFrom 58 = .ok (.ireturn, 1) := by decide +kernel
theorem dX12_finalsOf_0 : decode cX12_finalsOf 0 = .ok (.iconst 0, 1) := by decide +kernel
theorem dX12_finalsOf_1 : decode cX12_finalsOf 1 = .ok (.istore_n 2, 1) := by decide +kernel
theorem dX12_finalsOf_2 : decode cX12_finalsOf 2 = .ok (.iconst 0, 1) := by decide +kernel
theorem dX12_finalsOf_3 : decode cX12_finalsOf 3 = .ok (.istore_n 3, 1) := by decide +kernel
theorem dX12_finalsOf_4 : decode cX12_finalsOf 4 = .ok (.iload_n 3, 1) := by decide +kernel
theorem dX12_finalsOf_5 : decode cX12_finalsOf 5 = .ok (.aload_n 0, 1) := by decide +kernel
theorem dX12_finalsOf_6 : decode cX12_finalsOf 6 = .ok (.getfield 7, 3) := by decide +kernel
theorem dX12_finalsOf_9 : decode cX12_finalsOf 9 = .ok (.iload_n 1, 1) := by decide +kernel
theorem dX12_finalsOf_10 : decode cX12_finalsOf 10 = .ok (.iaload, 1) := by decide +kernel
theorem dX12_finalsOf_11 : decode cX12_finalsOf 11 = .ok (.if_icmp .ge 33, 3) := by decide +kernel
theorem dX12_finalsOf_14 : decode cX12_finalsOf 14 = .ok (.iload_n 2, 1) := by decide +kernel
theorem dX12_finalsOf_15 : decode cX12_finalsOf 15 = .ok (.aload_n 0, 1) := by decide +kernel
theorem dX12_finalsOf_16 : decode cX12_finalsOf 16 = .ok (.getfield 16, 3) := by decide +kernel
theorem dX12_finalsOf_19 : decode cX12_finalsOf 19 = .ok (.bipush 6, 2) := by decide +kernel
theorem dX12_finalsOf_21 : decode cX12_finalsOf 21 = .ok (.iload_n 1, 1) := by decide +kernel
theorem dX12_finalsOf_22 : decode cX12_finalsOf 22 = .ok (.imul, 1) := by decide +kernel
theorem dX12_finalsOf_23 : decode cX12_finalsOf 23 = .ok (.iload_n 3, 1) := by decide +kernel
theorem dX12_finalsOf_24 : decode cX12_finalsOf 24 = .ok (.iadd, 1) := by decide +kernel
theorem dX12_finalsOf_25 : decode cX12_finalsOf 25 = .ok (.baload, 1) := by decide +kernel
theorem dX12_finalsOf_26 : decode cX12_finalsOf 26 = .ok (.ifCond .eq 9, 3) := by decide +kernel
theorem dX12_finalsOf_29 : decode cX12_finalsOf 29 = .ok (.iconst 1, 1) := by decide +kernel
theorem dX12_finalsOf_30 : decode cX12_finalsOf 30 = .ok (.iload_n 3, 1) := by decide +kernel
theorem dX12_finalsOf_31 : decode cX12_finalsOf 31 = .ok (.ishl, 1) := by decide +kernel
theorem dX12_finalsOf_32 : decode cX12_finalsOf 32 = .ok (.goto 4, 3) := by decide +kernel
theorem dX12_finalsOf_35 : decode cX12_finalsOf 35 = .ok (.iconst 0, 1) := by decide +kernel
theorem dX12_finalsOf_36 : decode cX12_finalsOf 36 = .ok (.ior, 1) := by decide +kernel
theorem dX12_finalsOf_37 : decode cX12_finalsOf 37 = .ok (.istore_n 2, 1) := by decide +kernel
theorem dX12_finalsOf_38 : decode cX12_finalsOf 38 = .ok (.iinc 3 1, 3) := by decide +kernel
theorem dX12_finalsOf_41 : decode cX12_finalsOf 41 = .ok (.goto (-37), 3) := by decide +kernel
theorem dX12_finalsOf_44 : decode cX12_finalsOf 44 = .ok (.iload_n 2, 1) := by decide +kernel
theorem dX12_finalsOf_45 : decode cX12_finalsOf 45 = .ok (.ireturn, 1) := by decide +kernel
theorem dX12_isUnionOfAtoms_0 : decode cX12_isUnionOfAtoms 0 = .ok (.iload_n 1, 1) := by decide +kernel
theorem dX12_isUnionOfAtoms_1 : decode cX12_isUnionOfAtoms 1 = .ok (.invokestatic 106, 3) := by decide +kernel
theorem dX12_isUnionOfAtoms_4 : decode cX12_isUnionOfAtoms 4 = .ok (.ifCond .eq 10, 3) := by decide +kernel
theorem dX12_isUnionOfAtoms_7 : decode cX12_isUnionOfAtoms 7 = .ok (.iload_n 2, 1) := by decide +kernel
theorem dX12_isUnionOfAtoms_8 : decode cX12_isUnionOfAtoms 8 = .ok (.invokestatic 106, 3) := by decide +kernel
theorem dX12_isUnionOfAtoms_11 : decode cX12_isUnionOfAtoms 11 = .ok (.ifCond .ne 9, 3) := by decide +kernel
theorem dX12_isUnionOfAtoms_14 : decode cX12_isUnionOfAtoms 14 = .ok (.aload_n 0, 1) := by decide +kernel
theorem dX12_isUnionOfAtoms_15 : decode cX12_isUnionOfAtoms 15 = .ok (.iconst 1, 1) := by decide +kernel
theorem dX12_isUnionOfAtoms_16 : decode cX12_isUnionOfAtoms 16 = .ok (.invokevirtual 125, 3) := by decide +kernel
theorem dX12_isUnionOfAtoms_19 : decode cX12_isUnionOfAtoms 19 = .ok (.ireturn, 1) := by decide +kernel
theorem dX12_isUnionOfAtoms_20 : decode cX12_isUnionOfAtoms 20 = .ok (.aload_n 0, 1) := by decide +kernel
theorem dX12_isUnionOfAtoms_21 : decode cX12_isUnionOfAtoms 21 = .ok (.iload_n 1, 1) := by decide +kernel
theorem dX12_isUnionOfAtoms_22 : decode cX12_isUnionOfAtoms 22 = .ok (.invokevirtual 244, 3) := by decide +kernel
theorem dX12_isUnionOfAtoms_25 : decode cX12_isUnionOfAtoms 25 = .ok (.iconst 0, 1) := by decide +kernel
theorem dX12_isUnionOfAtoms_26 : decode cX12_isUnionOfAtoms 26 = .ok (.istore_n 3, 1) := by decide +kernel
theorem dX12_isUnionOfAtoms_27 : decode cX12_isUnionOfAtoms 27 = .ok (.iload_n 3, 1) := by decide +kernel
theorem dX12_isUnionOfAtoms_28 : decode cX12_isUnionOfAtoms 28 = .ok (.sipush 4096, 3) := by decide +kernel
theorem dX12_isUnionOfAtoms_31 : decode cX12_isUnionOfAtoms 31 = .ok (.if_icmp .ge 16, 3) := by decide +kernel
theorem dX12_isUnionOfAtoms_34 : decode cX12_isUnionOfAtoms 34 = .ok (.aload_n 0, 1) := by decide +kernel
theorem dX12_isUnionOfAtoms_35 : decode cX12_isUnionOfAtoms 35 = .ok (.getfield 86, 3) := by decide +kernel
theorem dX12_isUnionOfAtoms_38 : decode cX12_isUnionOfAtoms 38 = .ok (.iload_n 3, 1) := by decide +kernel
theorem dX12_isUnionOfAtoms_39 : decode cX12_isUnionOfAtoms 39 = .ok (.iconst 0, 1) := by decide +kernel
theorem dX12_isUnionOfAtoms_40 : decode cX12_isUnionOfAtoms 40 = .ok (.bastore, 1) := by decide +kernel
theorem dX12_isUnionOfAtoms_41 : decode cX12_isUnionOfAtoms 41 = .ok (.iinc 3 1, 3) := by decide +kernel
theorem dX12_isUnionOfAtoms_44 : decode cX12_isUnionOfAtoms 44 = .ok (.goto (-17), 3) := by decide +kernel
theorem dX12_isUnionOfAtoms_47 : decode cX12_isUnionOfAtoms 47 = .ok (.aload_n 0, 1) := by decide +kernel
theorem dX12_isUnionOfAtoms_48 : decode cX12_isUnionOfAtoms 48 = .ok (.iconst 0, 1) := by decide +kernel
theorem dX12_isUnionOfAtoms_49 : decode cX12_isUnionOfAtoms 49 = .ok (.putfield 268, 3) := by decide +kernel
theorem dX12_isUnionOfAtoms_52 : decode cX12_isUnionOfAtoms 52 = .ok (.aload_n 0, 1) := by decide +kernel
theorem dX12_isUnionOfAtoms_53 : decode cX12_isUnionOfAtoms 53 = .ok (.aload_n 0, 1) := by decide +kernel
theorem dX12_isUnionOfAtoms_54 : decode cX12_isUnionOfAtoms 54 = .ok (.iload_n 1, 1) := by decide +kernel
theorem dX12_isUnionOfAtoms_55 : decode cX12_isUnionOfAtoms 55 = .ok (.invokevirtual 271, 3) := by decide +kernel
theorem dX12_isUnionOfAtoms_58 : decode cX12_isUnionOfAtoms 58 = .ok (.aload_n 0, 1) := by decide +kernel
theorem dX12_isUnionOfAtoms_59 : decode cX12_isUnionOfAtoms 59 = .ok (.iload_n 2, 1) := by decide +kernel
theorem dX12_isUnionOfAtoms_60 : decode cX12_isUnionOfAtoms 60 = .ok (.invokevirtual 271, 3) := by decide +kernel
theorem dX12_isUnionOfAtoms_63 : decode cX12_isUnionOfAtoms 63 = .ok (.invokevirtual 274, 3) := by decide +kernel
theorem dX12_isUnionOfAtoms_66 : decode cX12_isUnionOfAtoms 66 = .ok (.iconst 0, 1) := by decide +kernel
theorem dX12_isUnionOfAtoms_67 : decode cX12_isUnionOfAtoms 67 = .ok (.istore_n 3, 1) := by decide +kernel
theorem dX12_isUnionOfAtoms_68 : decode cX12_isUnionOfAtoms 68 = .ok (.iload_n 3, 1) := by decide +kernel
theorem dX12_isUnionOfAtoms_69 : decode cX12_isUnionOfAtoms 69 = .ok (.aload_n 0, 1) := by decide +kernel
theorem dX12_isUnionOfAtoms_70 : decode cX12_isUnionOfAtoms 70 = .ok (.getfield 268, 3) := by decide +kernel
theorem dX12_isUnionOfAtoms_73 : decode cX12_isUnionOfAtoms 73 = .ok (.if_icmp .ge 60, 3) := by decide +kernel
theorem dX12_isUnionOfAtoms_76 : decode cX12_isUnionOfAtoms 76 = .ok (.iconst 0, 1) := by decide +kernel
theorem dX12_isUnionOfAtoms_77 : decode cX12_isUnionOfAtoms 77 = .ok (.istore 4, 2) := by decide +kernel
theorem dX12_isUnionOfAtoms_79 : decode cX12_isUnionOfAtoms 79 = .ok (.iload 4, 2) := by decide +kernel
theorem dX12_isUnionOfAtoms_81 : decode cX12_isUnionOfAtoms 81 = .ok (.iconst 3, 1) := by decide +kernel
theorem dX12_isUnionOfAtoms_82 : decode cX12_isUnionOfAtoms 82 = .ok (.if_icmp .ge 45, 3) := by decide +kernel
theorem dX12_isUnionOfAtoms_85 : decode cX12_isUnionOfAtoms 85 = .ok (.aload_n 0, 1) := by decide +kernel
theorem dX12_isUnionOfAtoms_86 : decode cX12_isUnionOfAtoms 86 = .ok (.aload_n 0, 1) := by decide +kernel
theorem dX12_isUnionOfAtoms_87 : decode cX12_isUnionOfAtoms 87 = .ok (.iload_n 1, 1) := by decide +kernel
theorem dX12_isUnionOfAtoms_88 : decode cX12_isUnionOfAtoms 88 = .ok (.aload_n 0, 1) := by decide +kernel
theorem dX12_isUnionOfAtoms_89 : decode cX12_isUnionOfAtoms 89 = .ok (.getfield 89, 3) := by decide +kernel
theorem dX12_isUnionOfAtoms_92 : decode cX12_isUnionOfAtoms 92 = .ok (.iload_n 3, 1) := by decide +kernel
theorem dX12_isUnionOfAtoms_93 : decode cX12_isUnionOfAtoms 93 = .ok (.iaload, 1) := by decide +kernel
theorem dX12_isUnionOfAtoms_94 : decode cX12_isUnionOfAtoms 94 = .ok (.bipush 6, 2) := by decide +kernel
theorem dX12_isUnionOfAtoms_96 : decode cX12_isUnionOfAtoms 96 = .ok (.ishr, 1) := by decide +kernel
theorem dX12_isUnionOfAtoms_97 : decode cX12_isUnionOfAtoms 97 = .ok (.iload 4, 2) := by decide +kernel
theorem dX12_isUnionOfAtoms_99 : decode cX12_isUnionOfAtoms 99 = .ok (.invokevirtual 277, 3) := by decide +kernel
theorem dX12_isUnionOfAtoms_102 : decode cX12_isUnionOfAtoms 102 = .ok (.aload_n 0, 1) := by decide +kernel
theorem dX12_isUnionOfAtoms_103 : decode cX12_isUnionOfAtoms 103 = .ok (.iload_n 2, 1) := by decide +kernel
theorem dX12_isUnionOfAtoms_104 : decode cX12_isUnionOfAtoms 104 = .ok (.aload_n 0, 1) := by decide +kernel
theorem dX12_isUnionOfAtoms_105 : decode cX12_isUnionOfAtoms 105 = .ok (.getfield 89, 3) := by decide +kernel
theorem dX12_isUnionOfAtoms_108 : decode cX12_isUnionOfAtoms 108 = .ok (.iload_n 3, 1) := by decide +kernel
theorem dX12_isUnionOfAtoms_109 : decode cX12_isUnionOfAtoms 109 = .ok (.iaload, 1) := by decide +kernel
theorem dX12_isUnionOfAtoms_110 : decode cX12_isUnionOfAtoms 110 = .ok (.bipush 63, 2) := by decide +kernel
theorem dX12_isUnionOfAtoms_112 : decode cX12_isUnionOfAtoms 112 = .ok (.iand, 1) := by decide +kernel
theorem dX12_isUnionOfAtoms_113 : decode cX12_isUnionOfAtoms 113 = .ok (.iload 4, 2) := by decide +kernel
theorem dX12_isUnionOfAtoms_115 : decode cX12_isUnionOfAtoms 115 = .ok (.invokevirtual 277, 3) := by decide +kernel
theorem dX12_isUnionOfAtoms_118 : decode cX12_isUnionOfAtoms 118 = .ok (.invokevirtual 274, 3) := by decide +kernel
theorem dX12_isUnionOfAtoms_121 : decode cX12_isUnionOfAtoms 121 = .ok (.iinc 4 1, 3) := by decide +kernel
theorem dX12_isUnionOfAtoms_124 : decode cX12_isUnionOfAtoms 124 = .ok (.goto (-45), 3) := by decide +kernel
theorem dX12_isUnionOfAtoms_127 : decode cX12_isUnionOfAtoms 127 = .ok (.iinc 3 1, 3) := by decide +kernel
theorem dX12_isUnionOfAtoms_130 : decode cX12_isUnionOfAtoms 130 = .ok (.goto (-62), 3) := by decide +kernel
theorem dX12_isUnionOfAtoms_133 : decode cX12_isUnionOfAtoms 133 = .ok (.lconst 0, 1) := by decide +kernel
theorem dX12_isUnionOfAtoms_134 : decode cX12_isUnionOfAtoms 134 = .ok (.lstore_n 3, 1) := by decide +kernel
theorem dX12_isUnionOfAtoms_135 : decode cX12_isUnionOfAtoms 135 = .ok (.lconst 0, 1) := by decide +kernel
theorem dX12_isUnionOfAtoms_136 : decode cX12_isUnionOfAtoms 136 = .ok (.lstore 5, 2) := by decide +kernel
theorem dX12_isUnionOfAtoms_138 : decode cX12_isUnionOfAtoms 138 = .ok (.iconst 0, 1) := by decide +kernel
theorem dX12_isUnionOfAtoms_139 : decode cX12_isUnionOfAtoms 139 = .ok (.istore 7, 2) := by decide +kernel
theorem dX12_isUnionOfAtoms_141 : decode cX12_isUnionOfAtoms 141 = .ok (.iload 7, 2) := by decide +kernel
theorem dX12_isUnionOfAtoms_143 : decode cX12_isUnionOfAtoms 143 = .ok (.aload_n 0, 1) := by decide +kernel
theorem dX12_isUnionOfAtoms_144 : decode cX12_isUnionOfAtoms 144 = .ok (.getfield 268, 3) := by decide +kernel
theorem dX12_isUnionOfAtoms_147 : decode cX12_isUnionOfAtoms 147 = .ok (.if_icmp .ge 78, 3) := by decide +kernel
theorem dX12_isUnionOfAtoms_150 : decode cX12_isUnionOfAtoms 150 = .ok (.lconst 1, 1) := by decide +kernel
theorem dX12_isUnionOfAtoms_151 : decode cX12_isUnionOfAtoms 151 = .ok (.aload_n 0, 1) := by decide +kernel
theorem dX12_isUnionOfAtoms_152 : decode cX12_isUnionOfAtoms 152 = .ok (.aload_n 0, 1) := by decide +kernel
theorem dX12_isUnionOfAtoms_153 : decode cX12_isUnionOfAtoms 153 = .ok (.aload_n 0, 1) := by decide +kernel
theorem dX12_isUnionOfAtoms_154 : decode cX12_isUnionOfAtoms 154 = .ok (.getfield 89, 3) := by decide +kernel
theorem dX12_isUnionOfAtoms_157 : decode cX12_isUnionOfAtoms 157 = .ok (.iload 7, 2) := by decide +kernel
theorem dX12_isUnionOfAtoms_159 : decode cX12_isUnionOfAtoms 159 = .ok (.iaload, 1) := by decide +kernel
theorem dX12_isUnionOfAtoms_160 : decode cX12_isUnionOfAtoms 160 = .ok (.bipush 6, 2) := by decide +kernel
theorem dX12_isUnionOfAtoms_162 : decode cX12_isUnionOfAtoms 162 = .ok (.ishr, 1) := by decide +kernel
theorem dX12_isUnionOfAtoms_163 : decode cX12_isUnionOfAtoms 163 = .ok (.i2l, 1) := by decide +kernel
theorem dX12_isUnionOfAtoms_164 : decode cX12_isUnionOfAtoms 164 = .ok (.invokevirtual 241, 3) := by decide +kernel
theorem dX12_isUnionOfAtoms_167 : decode cX12_isUnionOfAtoms 167 = .ok (.invokevirtual 251, 3) := by decide +kernel
theorem dX12_isUnionOfAtoms_170 : decode cX12_isUnionOfAtoms 170 = .ok (.lshl, 1) := by decide +kernel
theorem dX12_isUnionOfAtoms_171 : decode cX12_isUnionOfAtoms 171 = .ok (.lstore 8, 2) := by decide +kernel
theorem dX12_isUnionOfAtoms_173 : decode cX12_isUnionOfAtoms 173 = .ok (.lload_n 3, 1) := by decide +kernel
theorem dX12_isUnionOfAtoms_174 : decode cX12_isUnionOfAtoms 174 = .ok (.aload_n 0, 1) := by decide +kernel
theorem dX12_isUnionOfAtoms_175 : decode cX12_isUnionOfAtoms 175 = .ok (.getfield 89, 3) := by decide +kernel
theorem dX12_isUnionOfAtoms_178 : decode cX12_isUnionOfAtoms 178 = .ok (.iload 7, 2) := by decide +kernel
theorem dX12_isUnionOfAtoms_180 : decode cX12_isUnionOfAtoms 180 = .ok (.iaload, 1) := by decide +kernel
theorem dX12_isUnionOfAtoms_181 : decode cX12_isUnionOfAtoms 181 = .ok (.iconst 1, 1) := by decide +kernel
theorem dX12_isUnionOfAtoms_182 : decode cX12_isUnionOfAtoms 182 = .ok (.iand, 1) := by decide +kernel
theorem dX12_isUnionOfAtoms_183 : decode cX12_isUnionOfAtoms 183 = .ok (.iconst 1, 1) := by decide +kernel
theorem dX12_isUnionOfAtoms_184 : decode cX12_isUnionOfAtoms 184 = .ok (.if_icmp .ne 8, 3) := by decide +kernel
theorem dX12_isUnionOfAtoms_187 : decode cX12_isUnionOfAtoms 187 = .ok (.lload 8, 2) := by decide +kernel
theorem dX12_isUnionOfAtoms_189 : decode cX12_isUnionOfAtoms 189 = .ok (.goto 4, 3) := by decide +kernel
theorem dX12_isUnionOfAtoms_192 : decode cX12_isUnionOfAtoms 192 = .ok (.lconst 0, 1) := by decide +kernel
theorem dX12_isUnionOfAtoms_193 : decode cX12_isUnionOfAtoms 193 = .ok (.lor, 1) := by decide +kernel
theorem dX12_isUnionOfAtoms_194 : decode cX12_isUnionOfAtoms 194 = .ok (.lstore_n 3, 1) := by decide +kernel
theorem dX12_isUnionOfAtoms_195 : decode cX12_isUnionOfAtoms 195 = .ok (.lload 5, 2) := by decide +kernel
theorem dX12_isUnionOfAtoms_197 : decode cX12_isUnionOfAtoms 197 = .ok (.aload_n 0, 1) := by decide +kernel
theorem dX12_isUnionOfAtoms_198 : decode cX12_isUnionOfAtoms 198 = .ok (.getfield 89, 3) := by decide +kernel
theorem dX12_isUnionOfAtoms_201 : decode cX12_isUnionOfAtoms 201 = .ok (.iload 7, 2) := by decide +kernel
theorem dX12_isUnionOfAtoms_203 : decode cX12_isUnionOfAtoms 203 = .ok (.iaload, 1) := by decide +kernel
theorem dX12_isUnionOfAtoms_204 : decode cX12_isUnionOfAtoms 204 = .ok (.iconst 1, 1) := by decide +kernel
theorem dX12_isUnionOfAtoms_205 : decode cX12_isUnionOfAtoms 205 = .ok (.iand, 1) := by decide +kernel
theorem dX12_isUnionOfAtoms_206 : decode cX12_isUnionOfAtoms 206 = .ok (.iconst 1, 1) := by decide +kernel
theorem dX12_isUnionOfAtoms_207 : decode cX12_isUnionOfAtoms 207 = .ok (.if_icmp .ne 7, 3) := by decide +kernel
theorem dX12_isUnionOfAtoms_210 : decode cX12_isUnionOfAtoms 210 = .ok (.lconst 0, 1) := by decide +kernel
theorem dX12_isUnionOfAtoms_211 : decode cX12_isUnionOfAtoms 211 = .ok (.goto 5, 3) := by decide +kernel
theorem dX12_isUnionOfAtoms_214 : decode cX12_isUnionOfAtoms 214 = .ok (.lload 8, 2) := by decide +kernel
theorem dX12_isUnionOfAtoms_216 : decode cX12_isUnionOfAtoms 216 = .ok (.lor, 1) := by decide +kernel
theorem dX12_isUnionOfAtoms_217 : decode cX12_isUnionOfAtoms 217 = .ok (.lstore 5, 2) := by decide +kernel
theorem dX12_isUnionOfAtoms_219 : decode cX12_isUnionOfAtoms 219 = .ok (.iinc 7 1, 3) := by decide +kernel
theorem dX12_isUnionOfAtoms_222 : decode cX12_isUnionOfAtoms 222 = .ok (.goto (-81), 3) := by decide +kernel
theorem dX12_isUnionOfAtoms_225 : decode cX12_isUnionOfAtoms 225 = .ok (.aload_n 0, 1) := by decide +kernel
theorem dX12_isUnionOfAtoms_226 : decode cX12_isUnionOfAtoms 226 = .ok (.lload_n 3, 1) := by decide +kernel
theorem dX12_isUnionOfAtoms_227 : decode cX12_isUnionOfAtoms 227 = .ok (.lload 5, 2) := by decide +kernel
theorem dX12_isUnionOfAtoms_229 : decode cX12_isUnionOfAtoms 229 = .ok (.land, 1) := by decide +kernel
theorem dX12_isUnionOfAtoms_230 : decode cX12_isUnionOfAtoms 230 = .ok (.lconst 0, 1) := by decide +kernel
theorem dX12_isUnionOfAtoms_231 : decode cX12_isUnionOfAtoms 231 = .ok (.lcmp, 1) := by decide +kernel
theorem dX12_isUnionOfAtoms_232 : decode cX12_isUnionOfAtoms 232 = .ok (.ifCond .ne 7, 3) := by decide +kernel
theorem dX12_isUnionOfAtoms_235 : decode cX12_isUnionOfAtoms 235 = .ok (.iconst 1, 1) := by decide +kernel
theorem dX12_isUnionOfAtoms_236 : decode cX12_isUnionOfAtoms 236 = .ok (.goto 4, 3) := by decide +kernel
theorem dX12_isUnionOfAtoms_239 : decode cX12_isUnionOfAtoms 239 = .ok (.iconst 0, 1) := by decide +kernel
theorem dX12_isUnionOfAtoms_240 : decode cX12_isUnionOfAtoms 240 = .ok (.invokevirtual 128, 3) := by decide +kernel
theorem dX12_isUnionOfAtoms_243 : decode cX12_isUnionOfAtoms 243 = .ok (.ireturn, 1) := by decide +kernel
theorem dX12_takeDifference_0 : decode cX12_takeDifference 0 = .ok (.iload_n 1, 1) := by decide +kernel
theorem dX12_takeDifference_1 : decode cX12_takeDifference 1 = .ok (.invokestatic 106, 3) := by decide +kernel
theorem dX12_takeDifference_4 : decode cX12_takeDifference 4 = .ok (.ifCond .eq 10, 3) := by decide +kernel
theorem dX12_takeDifference_7 : decode cX12_takeDifference 7 = .ok (.iload_n 2, 1) := by decide +kernel
theorem dX12_takeDifference_8 : decode cX12_takeDifference 8 = .ok (.invokestatic 106, 3) := by decide +kernel
theorem dX12_takeDifference_11 : decode cX12_takeDifference 11 = .ok (.ifCond .ne 9, 3) := by decide +kernel
theorem dX12_takeDifference_14 : decode cX12_takeDifference 14 = .ok (.aload_n 0, 1) := by decide +kernel
theorem dX12_takeDifference_15 : decode cX12_takeDifference 15 = .ok (.iconst 1, 1) := by decide +kernel
theorem dX12_takeDifference_16 : decode cX12_takeDifference 16 = .ok (.invokevirtual 136, 3) := by decide +kernel
theorem dX12_takeDifference_19 : decode cX12_takeDifference 19 = .ok (.ireturn, 1) := by decide +kernel
theorem dX12_takeDifference_20 : decode cX12_takeDifference 20 = .ok (.aload_n 0, 1) := by decide +kernel
theorem dX12_takeDifference_21 : decode cX12_takeDifference 21 = .ok (.iconst 3, 1) := by decide +kernel
theorem dX12_takeDifference_22 : decode cX12_takeDifference 22 = .ok (.iload_n 1, 1) := by decide +kernel
theorem dX12_takeDifference_23 : decode cX12_takeDifference 23 = .ok (.iload_n 2, 1) := by decide +kernel
theorem dX12_takeDifference_24 : decode cX12_takeDifference 24 = .ok (.invokevirtual 231, 3) := by decide +kernel
theorem dX12_takeDifference_27 : decode cX12_takeDifference 27 = .ok (.aload_n 0, 1) := by decide +kernel
theorem dX12_takeDifference_28 : decode cX12_takeDifference 28 = .ok (.invokevirtual 260, 3) := by decide +kernel
theorem dX12_takeDifference_31 : decode cX12_takeDifference 31 = .ok (.istore_n 3, 1) := by decide +kernel
theorem dX12_takeDifference_32 : decode cX12_takeDifference 32 = .ok (.iload_n 3, 1) := by decide +kernel
theorem dX12_takeDifference_33 : decode cX12_takeDifference 33 = .ok (.ifCond .ge 20, 3) := by decide +kernel
theorem dX12_takeDifference_36 : decode cX12_takeDifference 36 = .ok (.aload_n 0, 1) := by decide +kernel
theorem dX12_takeDifference_37 : decode cX12_takeDifference 37 = .ok (.iload_n 3, 1) := by decide +kernel
theorem dX12_takeDifference_38 : decode cX12_takeDifference 38 = .ok (.iconst (-1), 1) := by decide +kernel
theorem dX12_takeDifference_39 : decode cX12_takeDifference 39 = .ok (.if_icmp .ne 7, 3) := by decide +kernel
theorem dX12_takeDifference_42 : decode cX12_takeDifference 42 = .ok (.iconst 2, 1) := by decide +kernel
theorem dX12_takeDifference_43 : decode cX12_takeDifference 43 = .ok (.goto 4, 3) := by decide +kernel
theorem dX12_takeDifference_46 : decode cX12_takeDifference 46 = .ok (.iconst 3, 1) := by decide +kernel
theorem dX12_takeDifference_47 : decode cX12_takeDifference 47 = .ok (.invokevirtual 136, 3) := by decide +kernel
theorem dX12_takeDifference_50 : decode cX12_takeDifference 50 = .ok (.goto 8, 3) := by decide +kernel
theorem dX12_takeDifference_53 : decode cX12_takeDifference 53 = .ok (.aload_n 0, 1) := by decide +kernel
theorem dX12_takeDifference_54 : decode cX12_takeDifference 54 = .ok (.iload_n 3, 1) := by decide +kernel
theorem dX12_takeDifference_55 : decode cX12_takeDifference 55 = .ok (.invokevirtual 132, 3) := by decide +kernel
theorem dX12_takeDifference_58 : decode cX12_takeDifference 58 = .ok (.ireturn, 1) := by decide +kernel
theorem dX12_shareOf_0 : decode cX12_shareOf 0 = .ok (.iconst 0, 1) := by decide +kernel
theorem dX12_shareOf_1 : decode cX12_shareOf 1 = .ok (.istore_n 3, 1) := by decide +kernel
theorem dX12_shareOf_2 : decode cX12_shareOf 2 = .ok (.iload_n 3, 1) := by decide +kernel
theorem dX12_shareOf_3 : decode cX12_shareOf 3 = .ok (.bipush 6, 2) := by decide +kernel
theorem dX12_shareOf_5 : decode cX12_shareOf 5 = .ok (.if_icmp .ge 24, 3) := by decide +kernel
theorem dX12_shareOf_8 : decode cX12_shareOf 8 = .ok (.aload_n 0, 1) := by decide +kernel
theorem dX12_shareOf_9 : decode cX12_shareOf 9 = .ok (.getfield 92, 3) := by decide +kernel
theorem dX12_shareOf_12 : decode cX12_shareOf 12 = .ok (.iload_n 3, 1) := by decide +kernel
theorem dX12_shareOf_13 : decode cX12_shareOf 13 = .ok (.iload_n 3, 1) := by decide +kernel
theorem dX12_shareOf_14 : decode cX12_shareOf 14 = .ok (.ifCond .ne 7, 3) := by decide +kernel
theorem dX12_shareOf_17 : decode cX12_shareOf 17 = .ok (.lconst 1, 1) := by decide +kernel
theorem dX12_shareOf_18 : decode cX12_shareOf 18 = .ok (.goto 4, 3) := by decide +kernel
theorem dX12_shareOf_21 : decode cX12_shareOf 21 = .ok (.lconst 0, 1) := by decide +kernel
theorem dX12_shareOf_22 : decode cX12_shareOf 22 = .ok (.lastore, 1) := by decide +kernel
theorem dX12_shareOf_23 : decode cX12_shareOf 23 = .ok (.iinc 3 1, 3) := by decide +kernel
theorem dX12_shareOf_26 : decode cX12_shareOf 26 = .ok (.goto (-24), 3) := by decide +kernel
theorem dX12_shareOf_29 : decode cX12_shareOf 29 = .ok (.lconst 1, 1) := by decide +kernel
theorem dX12_shareOf_30 : decode cX12_shareOf 30 = .ok (.lstore_n 3, 1) := by decide +kernel
theorem dX12_shareOf_31 : decode cX12_shareOf 31 = .ok (.iconst 0, 1) := by decide +kernel
theorem dX12_shareOf_32 : decode cX12_shareOf 32 = .ok (.istore 5, 2) := by decide +kernel
theorem dX12_shareOf_34 : decode cX12_shareOf 34 = .ok (.iload 5, 2) := by decide +kernel
theorem dX12_shareOf_36 : decode cX12_shareOf 36 = .ok (.iload_n 2, 1) := by decide +kernel
theorem dX12_shareOf_37 : decode cX12_shareOf 37 = .ok (.if_icmp .ge 132, 3) := by decide +kernel
theorem dX12_shareOf_40 : decode cX12_shareOf 40 = .ok (.iconst 0, 1) := by decide +kernel
theorem dX12_shareOf_41 : decode cX12_shareOf 41 = .ok (.istore 6, 2) := by decide +kernel
theorem dX12_shareOf_43 : decode cX12_shareOf 43 = .ok (.iload 6, 2) := by decide +kernel
theorem dX12_shareOf_45 : decode cX12_shareOf 45 = .ok (.bipush 6, 2) := by decide +kernel
theorem dX12_shareOf_47 : decode cX12_shareOf 47 = .ok (.if_icmp .ge 17, 3) := by decide +kernel
theorem dX12_shareOf_50 : decode cX12_shareOf 50 = .ok (.aload_n 0, 1) := by decide +kernel
theorem dX12_shareOf_51 : decode cX12_shareOf 51 = .ok (.getfield 95, 3) := by decide +kernel
theorem dX12_shareOf_54 : decode cX12_shareOf 54 = .ok (.iload 6, 2) := by decide +kernel
theorem dX12_shareOf_56 : decode cX12_shareOf 56 = .ok (.lconst 0, 1) := by decide +kernel
theorem dX12_shareOf_57 : decode cX12_shareOf 57 = .ok (.lastore, 1) := by decide +kernel
theorem dX12_shareOf_58 : decode cX12_shareOf 58 = .ok (.iinc 6 1, 3) := by decide +kernel
theorem dX12_shareOf_61 : decode cX12_shareOf 61 = .ok (.goto (-18), 3) := by decide +kernel
theorem dX12_shareOf_64 : decode cX12_shareOf 64 = .ok (.iconst 0, 1) := by decide +kernel
theorem dX12_shareOf_65 : decode cX12_shareOf 65 = .ok (.istore 6, 2) := by decide +kernel
theorem dX12_shareOf_67 : decode cX12_shareOf 67 = .ok (.iload 6, 2) := by decide +kernel
theorem dX12_shareOf_69 : decode cX12_shareOf 69 = .ok (.aload_n 0, 1) := by decide +kernel
theorem dX12_shareOf_70 : decode cX12_shareOf 70 = .ok (.getfield 7, 3) := by decide +kernel
theorem dX12_shareOf_73 : decode cX12_shareOf 73 = .ok (.iload_n 1, 1) := by decide +kernel
theorem dX12_shareOf_74 : decode cX12_shareOf 74 = .ok (.iaload, 1) := by decide +kernel
theorem dX12_shareOf_75 : decode cX12_shareOf 75 = .ok (.if_icmp .ge 52, 3) := by decide +kernel
theorem dX12_shareOf_78 : decode cX12_shareOf 78 = .ok (.iconst 0, 1) := by decide +kernel
theorem dX12_shareOf_79 : decode cX12_shareOf 79 = .ok (.istore 7, 2) := by decide +kernel
theorem dX12_shareOf_81 : decode cX12_shareOf 81 = .ok (.iload 7, 2) := by decide +kernel
theorem dX12_shareOf_83 : decode cX12_shareOf 83 = .ok (.iconst 3, 1) := by decide +kernel
theorem dX12_shareOf_84 : decode cX12_shareOf 84 = .ok (.if_icmp .ge 37, 3) := by decide +kernel
theorem dX12_shareOf_87 : decode cX12_shareOf 87 = .ok (.aload_n 0, 1) := by decide +kernel
theorem dX12_shareOf_88 : decode cX12_shareOf 88 = .ok (.getfield 95, 3) := by decide +kernel
theorem dX12_shareOf_91 : decode cX12_shareOf 91 = .ok (.aload_n 0, 1) := by decide +kernel
theorem dX12_shareOf_92 : decode cX12_shareOf 92 = .ok (.getfield 13, 3) := by decide +kernel
theorem dX12_shareOf_95 : decode cX12_shareOf 95 = .ok (.iload_n 1, 1) := by decide +kernel
theorem dX12_shareOf_96 : decode cX12_shareOf 96 = .ok (.iload 6, 2) := by decide +kernel
theorem dX12_shareOf_98 : decode cX12_shareOf 98 = .ok (.iload 7, 2) := by decide +kernel
theorem dX12_shareOf_100 : decode cX12_shareOf 100 = .ok (.invokestatic 110, 3) := by decide +kernel
theorem dX12_shareOf_103 : decode cX12_shareOf 103 = .ok (.iaload, 1) := by decide +kernel
theorem dX12_shareOf_104 : decode cX12_shareOf 104 = .ok (.dup2, 1) := by decide +kernel
theorem dX12_shareOf_105 : decode cX12_shareOf 105 = .ok (.laload, 1) := by decide +kernel
theorem dX12_shareOf_106 : decode cX12_shareOf 106 = .ok (.aload_n 0, 1) := by decide +kernel
theorem dX12_shareOf_107 : decode cX12_shareOf 107 = .ok (.getfield 92, 3) := by decide +kernel
theorem dX12_shareOf_110 : decode cX12_shareOf 110 = .ok (.iload 6, 2) := by decide +kernel
theorem dX12_shareOf_112 : decode cX12_shareOf 112 = .ok (.laload, 1) := by decide +kernel
theorem dX12_shareOf_113 : decode cX12_shareOf 113 = .ok (.ladd, 1) := by decide +kernel
theorem dX12_shareOf_114 : decode cX12_shareOf 114 = .ok (.lastore, 1) := by decide +kernel
theorem dX12_shareOf_115 : decode cX12_shareOf 115 = .ok (.iinc 7 1, 3) := by decide +kernel
theorem dX12_shareOf_118 : decode cX12_shareOf 118 = .ok (.goto (-37), 3) := by decide +kernel
theorem dX12_shareOf_121 : decode cX12_shareOf 121 = .ok (.iinc 6 1, 3) := by decide +kernel
theorem dX12_shareOf_124 : decode cX12_shareOf 124 = .ok (.goto (-57), 3) := by decide +kernel
theorem dX12_shareOf_127 : decode cX12_shareOf 127 = .ok (.iconst 0, 1) := by decide +kernel
theorem dX12_shareOf_128 : decode cX12_shareOf 128 = .ok (.istore 6, 2) := by decide +kernel
theorem dX12_shareOf_130 : decode cX12_shareOf 130 = .ok (.iload 6, 2) := by decide +kernel
theorem dX12_shareOf_132 : decode cX12_shareOf 132 = .ok (.bipush 6, 2) := by decide +kernel
theorem dX12_shareOf_134 : decode cX12_shareOf 134 = .ok (.if_icmp .ge 23, 3) := by decide +kernel
theorem dX12_shareOf_137 : decode cX12_shareOf 137 = .ok (.aload_n 0, 1) := by decide +kernel
theorem dX12_shareOf_138 : decode cX12_shareOf 138 = .ok (.getfield 92, 3) := by decide +kernel
theorem dX12_shareOf_141 : decode cX12_shareOf 141 = .ok (.iload 6, 2) := by decide +kernel
theorem dX12_shareOf_143 : decode cX12_shareOf 143 = .ok (.aload_n 0, 1) := by decide +kernel
theorem dX12_shareOf_144 : decode cX12_shareOf 144 = .ok (.getfield 95, 3) := by decide +kernel
theorem dX12_shareOf_147 : decode cX12_shareOf 147 = .ok (.iload 6, 2) := by decide +kernel
theorem dX12_shareOf_149 : decode cX12_shareOf 149 = .ok (.laload, 1) := by decide +kernel
theorem dX12_shareOf_150 : decode cX12_shareOf 150 = .ok (.lastore, 1) := by decide +kernel
theorem dX12_shareOf_151 : decode cX12_shareOf 151 = .ok (.iinc 6 1, 3) := by decide +kernel
theorem dX12_shareOf_154 : decode cX12_shareOf 154 = .ok (.goto (-24), 3) := by decide +kernel
theorem dX12_shareOf_157 : decode cX12_shareOf 157 = .ok (.lload_n 3, 1) := by decide +kernel
theorem dX12_shareOf_158 : decode cX12_shareOf 158 = .ok (.ldc2_w 280, 3) := by decide +kernel
theorem dX12_shareOf_161 : decode cX12_shareOf 161 = .ok (.lmul, 1) := by decide +kernel
theorem dX12_shareOf_162 : decode cX12_shareOf 162 = .ok (.lstore_n 3, 1) := by decide +kernel
theorem dX12_shareOf_163 : decode cX12_shareOf 163 = .ok (.iinc 5 1, 3) := by decide +kernel
theorem dX12_shareOf_166 : decode cX12_shareOf 166 = .ok (.goto (-132), 3) := by decide +kernel
theorem dX12_shareOf_169 : decode cX12_shareOf 169 = .ok (.lconst 0, 1) := by decide +kernel
theorem dX12_shareOf_170 : decode cX12_shareOf 170 = .ok (.lstore 5, 2) := by decide +kernel
theorem dX12_shareOf_172 : decode cX12_shareOf 172 = .ok (.iconst 0, 1) := by decide +kernel
theorem dX12_shareOf_173 : decode cX12_shareOf 173 = .ok (.istore 7, 2) := by decide +kernel
theorem dX12_shareOf_175 : decode cX12_shareOf 175 = .ok (.iload 7, 2) := by decide +kernel
theorem dX12_shareOf_177 : decode cX12_shareOf 177 = .ok (.aload_n 0, 1) := by decide +kernel
theorem dX12_shareOf_178 : decode cX12_shareOf 178 = .ok (.getfield 7, 3) := by decide +kernel
theorem dX12_shareOf_181 : decode cX12_shareOf 181 = .ok (.iload_n 1, 1) := by decide +kernel
theorem dX12_shareOf_182 : decode cX12_shareOf 182 = .ok (.iaload, 1) := by decide +kernel
theorem dX12_shareOf_183 : decode cX12_shareOf 183 = .ok (.if_icmp .ge 40, 3) := by decide +kernel
theorem dX12_shareOf_186 : decode cX12_shareOf 186 = .ok (.lload 5, 2) := by decide +kernel
theorem dX12_shareOf_188 : decode cX12_shareOf 188 = .ok (.aload_n 0, 1) := by decide +kernel
theorem dX12_shareOf_189 : decode cX12_shareOf 189 = .ok (.getfield 16, 3) := by decide +kernel
theorem dX12_shareOf_192 : decode cX12_shareOf 192 = .ok (.bipush 6, 2) := by decide +kernel
theorem dX12_shareOf_194 : decode cX12_shareOf 194 = .ok (.iload_n 1, 1) := by decide +kernel
theorem dX12_shareOf_195 : decode cX12_shareOf 195 = .ok (.imul, 1) := by decide +kernel
theorem dX12_shareOf_196 : decode cX12_shareOf 196 = .ok (.iload 7, 2) := by decide +kernel
theorem dX12_shareOf_198 : decode cX12_shareOf 198 = .ok (.iadd, 1) := by decide +kernel
theorem dX12_shareOf_199 : decode cX12_shareOf 199 = .ok (.baload, 1) := by decide +kernel
theorem dX12_shareOf_200 : decode cX12_shareOf 200 = .ok (.ifCond .eq 13, 3) := by decide +kernel
theorem dX12_shareOf_203 : decode cX12_shareOf 203 = .ok (.aload_n 0, 1) := by decide +kernel
theorem dX12_shareOf_204 : decode cX12_shareOf 204 = .ok (.getfield 92, 3) := by decide +kernel
theorem dX12_shareOf_207 : decode cX12_shareOf 207 = .ok (.iload 7, 2) := by decide +kernel
theorem dX12_shareOf_209 : decode cX12_shareOf 209 = .ok (.laload, 1) := by decide +kernel
theorem dX12_shareOf_210 : decode cX12_shareOf 210 = .ok (.goto 4, 3) := by decide +kernel
theorem dX12_shareOf_213 : decode cX12_shareOf 213 = .ok (.lconst 0, 1) := by decide +kernel
theorem dX12_shareOf_214 : decode cX12_shareOf 214 = .ok (.ladd, 1) := by decide +kernel
theorem dX12_shareOf_215 : decode cX12_shareOf 215 = .ok (.lstore 5, 2) := by decide +kernel
theorem dX12_shareOf_217 : decode cX12_shareOf 217 = .ok (.iinc 7 1, 3) := by decide +kernel
theorem dX12_shareOf_220 : decode cX12_shareOf 220 = .ok (.goto (-45), 3) := by decide +kernel
theorem dX12_shareOf_223 : decode cX12_shareOf 223 = .ok (.lload 5, 2) := by decide +kernel
theorem dX12_shareOf_225 : decode cX12_shareOf 225 = .ok (.l2d, 1) := by decide +kernel
theorem dX12_shareOf_226 : decode cX12_shareOf 226 = .ok (.lload_n 3, 1) := by decide +kernel
theorem dX12_shareOf_227 : decode cX12_shareOf 227 = .ok (.l2d, 1) := by decide +kernel
theorem dX12_shareOf_228 : decode cX12_shareOf 228 = .ok (.ddiv, 1) := by decide +kernel
theorem dX12_shareOf_229 : decode cX12_shareOf 229 = .ok (.dreturn, 1) := by decide +kernel
theorem dX12_share_0 : decode cX12_share 0 = .ok (.aload_n 0, 1) := by decide +kernel
theorem dX12_share_1 : decode cX12_share 1 = .ok (.iload_n 1, 1) := by decide +kernel
theorem dX12_share_2 : decode cX12_share 2 = .ok (.invokestatic 106, 3) := by decide +kernel
theorem dX12_share_5 : decode cX12_share 5 = .ok (.ifCond .ne 7, 3) := by decide +kernel
theorem dX12_share_8 : decode cX12_share 8 = .ok (.iconst 1, 1) := by decide +kernel
theorem dX12_share_9 : decode cX12_share 9 = .ok (.goto 18, 3) := by decide +kernel
theorem dX12_share_12 : decode cX12_share 12 = .ok (.iload_n 2, 1) := by decide +kernel
theorem dX12_share_13 : decode cX12_share 13 = .ok (.iconst 0, 1) := by decide +kernel
theorem dX12_share_14 : decode cX12_share 14 = .ok (.bipush 20, 2) := by decide +kernel
theorem dX12_share_16 : decode cX12_share 16 = .ok (.invokestatic 102, 3) := by decide +kernel
theorem dX12_share_19 : decode cX12_share 19 = .ok (.ifCond .ne 7, 3) := by decide +kernel
theorem dX12_share_22 : decode cX12_share 22 = .ok (.iconst 2, 1) := by decide +kernel
theorem dX12_share_23 : decode cX12_share 23 = .ok (.goto 4, 3) := by decide +kernel
theorem dX12_share_26 : decode cX12_share 26 = .ok (.iconst 0, 1) := by decide +kernel
theorem dX12_share_27 : decode cX12_share 27 = .ok (.putfield 98, 3) := by decide +kernel
theorem dX12_share_30 : decode cX12_share 30 = .ok (.aload_n 0, 1) := by decide +kernel
theorem dX12_share_31 : decode cX12_share 31 = .ok (.getfield 98, 3) := by decide +kernel
theorem dX12_share_34 : decode cX12_share 34 = .ok (.ifCond .eq 7, 3) := by decide +kernel
theorem dX12_share_37 : decode cX12_share 37 = .ok (.dconst 0, 1) := by decide +kernel
theorem dX12_share_38 : decode cX12_share 38 = .ok (.goto 9, 3) := by decide +kernel
theorem dX12_share_41 : decode cX12_share 41 = .ok (.aload_n 0, 1) := by decide +kernel
theorem dX12_share_42 : decode cX12_share 42 = .ok (.iload_n 1, 1) := by decide +kernel
theorem dX12_share_43 : decode cX12_share 43 = .ok (.iload_n 2, 1) := by decide +kernel
theorem dX12_share_44 : decode cX12_share 44 = .ok (.invokevirtual 282, 3) := by decide +kernel
theorem dX12_share_47 : decode cX12_share 47 = .ok (.dreturn, 1) := by decide +kernel
theorem dX12_keepShares_0 : decode cX12_keepShares 0 = .ok (.aload_n 0, 1) := by decide +kernel
theorem dX12_keepShares_1 : decode cX12_keepShares 1 = .ok (.iload_n 1, 1) := by decide +kernel
theorem dX12_keepShares_2 : decode cX12_keepShares 2 = .ok (.iconst 0, 1) := by decide +kernel
theorem dX12_keepShares_3 : decode cX12_keepShares 3 = .ok (.iconst 1, 1) := by decide +kernel
theorem dX12_keepShares_4 : decode cX12_keepShares 4 = .ok (.invokestatic 102, 3) := by decide +kernel
theorem dX12_keepShares_7 : decode cX12_keepShares 7 = .ok (.ifCond .eq 10, 3) := by decide +kernel
theorem dX12_keepShares_10 : decode cX12_keepShares 10 = .ok (.iload_n 2, 1) := by decide +kernel
theorem dX12_keepShares_11 : decode cX12_keepShares 11 = .ok (.invokestatic 106, 3) := by decide +kernel
theorem dX12_keepShares_14 : decode cX12_keepShares 14 = .ok (.ifCond .ne 7, 3) := by decide +kernel
theorem dX12_keepShares_17 : decode cX12_keepShares 17 = .ok (.iconst 1, 1) := by decide +kernel
theorem dX12_keepShares_18 : decode cX12_keepShares 18 = .ok (.goto 18, 3) := by decide +kernel
theorem dX12_keepShares_21 : decode cX12_keepShares 21 = .ok (.iload_n 3, 1) := by decide +kernel
theorem dX12_keepShares_22 : decode cX12_keepShares 22 = .ok (.iconst 0, 1) := by decide +kernel
theorem dX12_keepShares_23 : decode cX12_keepShares 23 = .ok (.bipush 20, 2) := by decide +kernel
theorem dX12_keepShares_25 : decode cX12_keepShares 25 = .ok (.invokestatic 102, 3) := by decide +kernel
theorem dX12_keepShares_28 : decode cX12_keepShares 28 = .ok (.ifCond .ne 7, 3) := by decide +kernel
theorem dX12_keepShares_31 : decode cX12_keepShares 31 = .ok (.iconst 2, 1) := by decide +kernel
theorem dX12_keepShares_32 : decode cX12_keepShares 32 = .ok (.goto 4, 3) := by decide +kernel
theorem dX12_keepShares_35 : decode cX12_keepShares 35 = .ok (.iconst 0, 1) := by decide +kernel
theorem dX12_keepShares_36 : decode cX12_keepShares 36 = .ok (.putfield 98, 3) := by decide +kernel
theorem dX12_keepShares_39 : decode cX12_keepShares 39 = .ok (.aload_n 0, 1) := by decide +kernel
theorem dX12_keepShares_40 : decode cX12_keepShares 40 = .ok (.getfield 98, 3) := by decide +kernel
theorem dX12_keepShares_43 : decode cX12_keepShares 43 = .ok (.ifCond .eq 4, 3) := by decide +kernel
theorem dX12_keepShares_46 : decode cX12_keepShares 46 = .ok (.return_, 1) := by decide +kernel
theorem dX12_keepShares_47 : decode cX12_keepShares 47 = .ok (.aload_n 0, 1) := by decide +kernel
theorem dX12_keepShares_48 : decode cX12_keepShares 48 = .ok (.getfield 23, 3) := by decide +kernel
theorem dX12_keepShares_51 : decode cX12_keepShares 51 = .ok (.iload_n 1, 1) := by decide +kernel
theorem dX12_keepShares_52 : decode cX12_keepShares 52 = .ok (.iload 4, 2) := by decide +kernel
theorem dX12_keepShares_54 : decode cX12_keepShares 54 = .ok (.ifCond .eq 7, 3) := by decide +kernel
theorem dX12_keepShares_57 : decode cX12_keepShares 57 = .ok (.iconst 1, 1) := by decide +kernel
theorem dX12_keepShares_58 : decode cX12_keepShares 58 = .ok (.goto 4, 3) := by decide +kernel
theorem dX12_keepShares_61 : decode cX12_keepShares 61 = .ok (.iconst 2, 1) := by decide +kernel
theorem dX12_keepShares_62 : decode cX12_keepShares 62 = .ok (.iastore, 1) := by decide +kernel
theorem dX12_keepShares_63 : decode cX12_keepShares 63 = .ok (.aload_n 0, 1) := by decide +kernel
theorem dX12_keepShares_64 : decode cX12_keepShares 64 = .ok (.getfield 26, 3) := by decide +kernel
theorem dX12_keepShares_67 : decode cX12_keepShares 67 = .ok (.iload_n 1, 1) := by decide +kernel
theorem dX12_keepShares_68 : decode cX12_keepShares 68 = .ok (.iload_n 3, 1) := by decide +kernel
theorem dX12_keepShares_69 : decode cX12_keepShares 69 = .ok (.iconst 1, 1) := by decide +kernel
theorem dX12_keepShares_70 : decode cX12_keepShares 70 = .ok (.iadd, 1) := by decide +kernel
theorem dX12_keepShares_71 : decode cX12_keepShares 71 = .ok (.iastore, 1) := by decide +kernel
theorem dX12_keepShares_72 : decode cX12_keepShares 72 = .ok (.iconst 0, 1) := by decide +kernel
theorem dX12_keepShares_73 : decode cX12_keepShares 73 = .ok (.istore 5, 2) := by decide +kernel
theorem dX12_keepShares_75 : decode cX12_keepShares 75 = .ok (.iload 5, 2) := by decide +kernel
theorem dX12_keepShares_77 : decode cX12_keepShares 77 = .ok (.iload_n 3, 1) := by decide +kernel
theorem dX12_keepShares_78 : decode cX12_keepShares 78 = .ok (.if_icmp .gt 53, 3) := by decide +kernel
theorem dX12_keepShares_81 : decode cX12_keepShares 81 = .ok (.aload_n 0, 1) := by decide +kernel
theorem dX12_keepShares_82 : decode cX12_keepShares 82 = .ok (.getfield 33, 3) := by decide +kernel
theorem dX12_keepShares_85 : decode cX12_keepShares 85 = .ok (.bipush 21, 2) := by decide +kernel
theorem dX12_keepShares_87 : decode cX12_keepShares 87 = .ok (.iload_n 1, 1) := by decide +kernel
theorem dX12_keepShares_88 : decode cX12_keepShares 88 = .ok (.imul, 1) := by decide +kernel
theorem dX12_keepShares_89 : decode cX12_keepShares 89 = .ok (.iload 5, 2) := by decide +kernel
theorem dX12_keepShares_91 : decode cX12_keepShares 91 = .ok (.iadd, 1) := by decide +kernel
theorem dX12_keepShares_92 : decode cX12_keepShares 92 = .ok (.aload_n 0, 1) := by decide +kernel
theorem dX12_keepShares_93 : decode cX12_keepShares 93 = .ok (.iload_n 2, 1) := by decide +kernel
theorem dX12_keepShares_94 : decode cX12_keepShares 94 = .ok (.iload 5, 2) := by decide +kernel
theorem dX12_keepShares_96 : decode cX12_keepShares 96 = .ok (.invokevirtual 282, 3) := by decide +kernel
theorem dX12_keepShares_99 : decode cX12_keepShares 99 = .ok (.dastore, 1) := by decide +kernel
theorem dX12_keepShares_100 : decode cX12_keepShares 100 = .ok (.aload_n 0, 1) := by decide +kernel
theorem dX12_keepShares_101 : decode cX12_keepShares 101 = .ok (.getfield 29, 3) := by decide +kernel
theorem dX12_keepShares_104 : decode cX12_keepShares 104 = .ok (.bipush 21, 2) := by decide +kernel
theorem dX12_keepShares_106 : decode cX12_keepShares 106 = .ok (.iload_n 1, 1) := by decide +kernel
theorem dX12_keepShares_107 : decode cX12_keepShares 107 = .ok (.imul, 1) := by decide +kernel
theorem dX12_keepShares_108 : decode cX12_keepShares 108 = .ok (.iload 5, 2) := by decide +kernel
theorem dX12_keepShares_110 : decode cX12_keepShares 110 = .ok (.iadd, 1) := by decide +kernel
theorem dX12_keepShares_111 : decode cX12_keepShares 111 = .ok (.aload_n 0, 1) := by decide +kernel
theorem dX12_keepShares_112 : decode cX12_keepShares 112 = .ok (.getfield 33, 3) := by decide +kernel
theorem dX12_keepShares_115 : decode cX12_keepShares 115 = .ok (.bipush 21, 2) := by decide +kernel
theorem dX12_keepShares_117 : decode cX12_keepShares 117 = .ok (.iload_n 1, 1) := by decide +kernel
theorem dX12_keepShares_118 : decode cX12_keepShares 118 = .ok (.imul, 1) := by decide +kernel
theorem dX12_keepShares_119 : decode cX12_keepShares 119 = .ok (.iload 5, 2) := by decide +kernel
theorem dX12_keepShares_121 : decode cX12_keepShares 121 = .ok (.iadd, 1) := by decide +kernel
theorem dX12_keepShares_122 : decode cX12_keepShares 122 = .ok (.daload, 1) := by decide +kernel
theorem dX12_keepShares_123 : decode cX12_keepShares 123 = .ok (.d2f, 1) := by decide +kernel
theorem dX12_keepShares_124 : decode cX12_keepShares 124 = .ok (.fastore, 1) := by decide +kernel
theorem dX12_keepShares_125 : decode cX12_keepShares 125 = .ok (.iinc 5 1, 3) := by decide +kernel
theorem dX12_keepShares_128 : decode cX12_keepShares 128 = .ok (.goto (-53), 3) := by decide +kernel
theorem dX12_keepShares_131 : decode cX12_keepShares 131 = .ok (.return_, 1) := by decide +kernel
theorem dX12_remainder_0 : decode cX12_remainder 0 = .ok (.aload_n 0, 1) := by decide +kernel
theorem dX12_remainder_1 : decode cX12_remainder 1 = .ok (.iload_n 1, 1) := by decide +kernel
theorem dX12_remainder_2 : decode cX12_remainder 2 = .ok (.iconst 0, 1) := by decide +kernel
theorem dX12_remainder_3 : decode cX12_remainder 3 = .ok (.iconst 1, 1) := by decide +kernel
theorem dX12_remainder_4 : decode cX12_remainder 4 = .ok (.invokestatic 102, 3) := by decide +kernel
theorem dX12_remainder_7 : decode cX12_remainder 7 = .ok (.ifCond .ne 7, 3) := by decide +kernel
theorem dX12_remainder_10 : decode cX12_remainder 10 = .ok (.iconst 1, 1) := by decide +kernel
theorem dX12_remainder_11 : decode cX12_remainder 11 = .ok (.goto 30, 3) := by decide +kernel
theorem dX12_remainder_14 : decode cX12_remainder 14 = .ok (.aload_n 0, 1) := by decide +kernel
theorem dX12_remainder_15 : decode cX12_remainder 15 = .ok (.getfield 23, 3) := by decide +kernel
theorem dX12_remainder_18 : decode cX12_remainder 18 = .ok (.iload_n 1, 1) := by decide +kernel
theorem dX12_remainder_19 : decode cX12_remainder 19 = .ok (.iconst 0, 1) := by decide +kernel
theorem dX12_remainder_20 : decode cX12_remainder 20 = .ok (.iconst 1, 1) := by decide +kernel
theorem dX12_remainder_21 : decode cX12_remainder 21 = .ok (.invokestatic 102, 3) := by decide +kernel
theorem dX12_remainder_24 : decode cX12_remainder 24 = .ok (.ifCond .eq 7, 3) := by decide +kernel
theorem dX12_remainder_27 : decode cX12_remainder 27 = .ok (.iload_n 1, 1) := by decide +kernel
theorem dX12_remainder_28 : decode cX12_remainder 28 = .ok (.goto 4, 3) := by decide +kernel
theorem dX12_remainder_31 : decode cX12_remainder 31 = .ok (.iconst 0, 1) := by decide +kernel
theorem dX12_remainder_32 : decode cX12_remainder 32 = .ok (.iaload, 1) := by decide +kernel
theorem dX12_remainder_33 : decode cX12_remainder 33 = .ok (.ifCond .ne 7, 3) := by decide +kernel
theorem dX12_remainder_36 : decode cX12_remainder 36 = .ok (.iconst 2, 1) := by decide +kernel
theorem dX12_remainder_37 : decode cX12_remainder 37 = .ok (.goto 4, 3) := by decide +kernel
theorem dX12_remainder_40 : decode cX12_remainder 40 = .ok (.iconst 0, 1) := by decide +kernel
theorem dX12_remainder_41 : decode cX12_remainder 41 = .ok (.putfield 98, 3) := by decide +kernel
theorem dX12_remainder_44 : decode cX12_remainder 44 = .ok (.aload_n 0, 1) := by decide +kernel
theorem dX12_remainder_45 : decode cX12_remainder 45 = .ok (.getfield 98, 3) := by decide +kernel
theorem dX12_remainder_48 : decode cX12_remainder 48 = .ok (.ifCond .eq 5, 3) := by decide +kernel
theorem dX12_remainder_51 : decode cX12_remainder 51 = .ok (.dconst 0, 1) := by decide +kernel
theorem dX12_remainder_52 : decode cX12_remainder 52 = .ok (.dreturn, 1) := by decide +kernel
theorem dX12_remainder_53 : decode cX12_remainder 53 = .ok (.iload_n 2, 1) := by decide +kernel
theorem dX12_remainder_54 : decode cX12_remainder 54 = .ok (.iconst 0, 1) := by decide +kernel
theorem dX12_remainder_55 : decode cX12_remainder 55 = .ok (.aload_n 0, 1) := by decide +kernel
theorem dX12_remainder_56 : decode cX12_remainder 56 = .ok (.getfield 26, 3) := by decide +kernel
theorem dX12_remainder_59 : decode cX12_remainder 59 = .ok (.iload_n 1, 1) := by decide +kernel
theorem dX12_remainder_60 : decode cX12_remainder 60 = .ok (.iaload, 1) := by decide +kernel
theorem dX12_remainder_61 : decode cX12_remainder 61 = .ok (.iconst 1, 1) := by decide +kernel
theorem dX12_remainder_62 : decode cX12_remainder 62 = .ok (.isub, 1) := by decide +kernel
theorem dX12_remainder_63 : decode cX12_remainder 63 = .ok (.invokestatic 102, 3) := by decide +kernel
theorem dX12_remainder_66 : decode cX12_remainder 66 = .ok (.ifCond .eq 19, 3) := by decide +kernel
theorem dX12_remainder_69 : decode cX12_remainder 69 = .ok (.iload_n 3, 1) := by decide +kernel
theorem dX12_remainder_70 : decode cX12_remainder 70 = .ok (.iconst 0, 1) := by decide +kernel
theorem dX12_remainder_71 : decode cX12_remainder 71 = .ok (.aload_n 0, 1) := by decide +kernel
theorem dX12_remainder_72 : decode cX12_remainder 72 = .ok (.getfield 26, 3) := by decide +kernel
theorem dX12_remainder_75 : decode cX12_remainder 75 = .ok (.iload_n 1, 1) := by decide +kernel
theorem dX12_remainder_76 : decode cX12_remainder 76 = .ok (.iaload, 1) := by decide +kernel
theorem dX12_remainder_77 : decode cX12_remainder 77 = .ok (.iconst 1, 1) := by decide +kernel
theorem dX12_remainder_78 : decode cX12_remainder 78 = .ok (.isub, 1) := by decide +kernel
theorem dX12_remainder_79 : decode cX12_remainder 79 = .ok (.invokestatic 102, 3) := by decide +kernel
theorem dX12_remainder_82 : decode cX12_remainder 82 = .ok (.ifCond .ne 10, 3) := by decide +kernel
theorem dX12_remainder_85 : decode cX12_remainder 85 = .ok (.aload_n 0, 1) := by decide +kernel
theorem dX12_remainder_86 : decode cX12_remainder 86 = .ok (.iconst 3, 1) := by decide +kernel
theorem dX12_remainder_87 : decode cX12_remainder 87 = .ok (.putfield 98, 3) := by decide +kernel
theorem dX12_remainder_90 : decode cX12_remainder 90 = .ok (.dconst 0, 1) := by decide +kernel
theorem dX12_remainder_91 : decode cX12_remainder 91 = .ok (.dreturn, 1) := by decide +kernel
theorem dX12_remainder_92 : decode cX12_remainder 92 = .ok (.bipush 21, 2) := by decide +kernel
theorem dX12_remainder_94 : decode cX12_remainder 94 = .ok (.iload_n 1, 1) := by decide +kernel
theorem dX12_remainder_95 : decode cX12_remainder 95 = .ok (.imul, 1) := by decide +kernel
theorem dX12_remainder_96 : decode cX12_remainder 96 = .ok (.iload_n 2, 1) := by decide +kernel
theorem dX12_remainder_97 : decode cX12_remainder 97 = .ok (.iadd, 1) := by decide +kernel
theorem dX12_remainder_98 : decode cX12_remainder 98 = .ok (.istore 4, 2) := by decide +kernel
theorem dX12_remainder_100 : decode cX12_remainder 100 = .ok (.bipush 21, 2) := by decide +kernel
theorem dX12_remainder_102 : decode cX12_remainder 102 = .ok (.iload_n 1, 1) := by decide +kernel
theorem dX12_remainder_103 : decode cX12_remainder 103 = .ok (.imul, 1) := by decide +kernel
theorem dX12_remainder_104 : decode cX12_remainder 104 = .ok (.iload_n 3, 1) := by decide +kernel
theorem dX12_remainder_105 : decode cX12_remainder 105 = .ok (.iadd, 1) := by decide +kernel
theorem dX12_remainder_106 : decode cX12_remainder 106 = .ok (.istore 5, 2) := by decide +kernel
theorem dX12_remainder_108 : decode cX12_remainder 108 = .ok (.aload_n 0, 1) := by decide +kernel
theorem dX12_remainder_109 : decode cX12_remainder 109 = .ok (.getfield 23, 3) := by decide +kernel
theorem dX12_remainder_112 : decode cX12_remainder 112 = .ok (.iload_n 1, 1) := by decide +kernel
theorem dX12_remainder_113 : decode cX12_remainder 113 = .ok (.iaload, 1) := by decide +kernel
theorem dX12_remainder_114 : decode cX12_remainder 114 = .ok (.iconst 1, 1) := by decide +kernel
theorem dX12_remainder_115 : decode cX12_remainder 115 = .ok (.if_icmp .ne 18, 3) := by decide +kernel
theorem dX12_remainder_118 : decode cX12_remainder 118 = .ok (.aload_n 0, 1) := by decide +kernel
theorem dX12_remainder_119 : decode cX12_remainder 119 = .ok (.getfield 29, 3) := by decide +kernel
theorem dX12_remainder_122 : decode cX12_remainder 122 = .ok (.iload 5, 2) := by decide +kernel
theorem dX12_remainder_124 : decode cX12_remainder 124 = .ok (.faload, 1) := by decide +kernel
theorem dX12_remainder_125 : decode cX12_remainder 125 = .ok (.fconst 0, 1) := by decide +kernel
theorem dX12_remainder_126 : decode cX12_remainder 126 = .ok (.fcmp .l, 1) := by decide +kernel
theorem dX12_remainder_127 : decode cX12_remainder 127 = .ok (.ifCond .ne 25, 3) := by decide +kernel
theorem dX12_remainder_130 : decode cX12_remainder 130 = .ok (.goto 15, 3) := by decide +kernel
theorem dX12_remainder_133 : decode cX12_remainder 133 = .ok (.aload_n 0, 1) := by decide +kernel
theorem dX12_remainder_134 : decode cX12_remainder 134 = .ok (.getfield 33, 3) := by decide +kernel
theorem dX12_remainder_137 : decode cX12_remainder 137 = .ok (.iload 5, 2) := by decide +kernel
theorem dX12_remainder_139 : decode cX12_remainder 139 = .ok (.daload, 1) := by decide +kernel
theorem dX12_remainder_140 : decode cX12_remainder 140 = .ok (.dconst 0, 1) := by decide +kernel
theorem dX12_remainder_141 : decode cX12_remainder 141 = .ok (.dcmp .l, 1) := by decide +kernel
theorem dX12_remainder_142 : decode cX12_remainder 142 = .ok (.ifCond .ne 10, 3) := by decide +kernel
theorem dX12_remainder_145 : decode cX12_remainder 145 = .ok (.aload_n 0, 1) := by decide +kernel
theorem dX12_remainder_146 : decode cX12_remainder 146 = .ok (.iconst 4, 1) := by decide +kernel
theorem dX12_remainder_147 : decode cX12_remainder 147 = .ok (.putfield 98, 3) := by decide +kernel
theorem dX12_remainder_150 : decode cX12_remainder 150 = .ok (.dconst 0, 1) := by decide +kernel
theorem dX12_remainder_151 : decode cX12_remainder 151 = .ok (.dreturn, 1) := by decide +kernel
theorem dX12_remainder_152 : decode cX12_remainder 152 = .ok (.aload_n 0, 1) := by decide +kernel
theorem dX12_remainder_153 : decode cX12_remainder 153 = .ok (.getfield 23, 3) := by decide +kernel
theorem dX12_remainder_156 : decode cX12_remainder 156 = .ok (.iload_n 1, 1) := by decide +kernel
theorem dX12_remainder_157 : decode cX12_remainder 157 = .ok (.iaload, 1) := by decide +kernel
theorem dX12_remainder_158 : decode cX12_remainder 158 = .ok (.iconst 1, 1) := by decide +kernel
theorem dX12_remainder_159 : decode cX12_remainder 159 = .ok (.if_icmp .ne 22, 3) := by decide +kernel
theorem dX12_remainder_162 : decode cX12_remainder 162 = .ok (.aload_n 0, 1) := by decide +kernel
theorem dX12_remainder_163 : decode cX12_remainder 163 = .ok (.getfield 29, 3) := by decide +kernel
theorem dX12_remainder_166 : decode cX12_remainder 166 = .ok (.iload 4, 2) := by decide +kernel
theorem dX12_remainder_168 : decode cX12_remainder 168 = .ok (.faload, 1) := by decide +kernel
theorem dX12_remainder_169 : decode cX12_remainder 169 = .ok (.aload_n 0, 1) := by decide +kernel
theorem dX12_remainder_170 : decode cX12_remainder 170 = .ok (.getfield 29, 3) := by decide +kernel
theorem dX12_remainder_173 : decode cX12_remainder 173 = .ok (.iload 5, 2) := by decide +kernel
theorem dX12_remainder_175 : decode cX12_remainder 175 = .ok (.faload, 1) := by decide +kernel
theorem dX12_remainder_176 : decode cX12_remainder 176 = .ok (.frem, 1) := by decide +kernel
theorem dX12_remainder_177 : decode cX12_remainder 177 = .ok (.f2d, 1) := by decide +kernel
theorem dX12_remainder_178 : decode cX12_remainder 178 = .ok (.goto 18, 3) := by decide +kernel
theorem dX12_remainder_181 : decode cX12_remainder 181 = .ok (.aload_n 0, 1) := by decide +kernel
theorem dX12_remainder_182 : decode cX12_remainder 182 = .ok (.getfield 33, 3) := by decide +kernel
theorem dX12_remainder_185 : decode cX12_remainder 185 = .ok (.iload 4, 2) := by decide +kernel
theorem dX12_remainder_187 : decode cX12_remainder 187 = .ok (.daload, 1) := by decide +kernel
theorem dX12_remainder_188 : decode cX12_remainder 188 = .ok (.aload_n 0, 1) := by decide +kernel
theorem dX12_remainder_189 : decode cX12_remainder 189 = .ok (.getfield 33, 3) := by decide +kernel
theorem dX12_remainder_192 : decode cX12_remainder 192 = .ok (.iload 5, 2) := by decide +kernel
theorem dX12_remainder_194 : decode cX12_remainder 194 = .ok (.daload, 1) := by decide +kernel
theorem dX12_remainder_195 : decode cX12_remainder 195 = .ok (.drem, 1) := by decide +kernel
theorem dX12_remainder_196 : decode cX12_remainder 196 = .ok (.dreturn, 1) := by decide +kernel
theorem dX12_save_0 : decode cX12_save 0 = .ok (.aload_n 0, 1) := by decide +kernel
theorem dX12_save_1 : decode cX12_save 1 = .ok (.iconst 0, 1) := by decide +kernel
theorem dX12_save_2 : decode cX12_save 2 = .ok (.putfield 98, 3) := by decide +kernel
theorem dX12_save_5 : decode cX12_save 5 = .ok (.aload_n 0, 1) := by decide +kernel
theorem dX12_save_6 : decode cX12_save 6 = .ok (.iconst 1, 1) := by decide +kernel
theorem dX12_save_7 : decode cX12_save 7 = .ok (.putfield 286, 3) := by decide +kernel
theorem dX12_save_10 : decode cX12_save 10 = .ok (.iconst 0, 1) := by decide +kernel
theorem dX12_save_11 : decode cX12_save 11 = .ok (.istore_n 1, 1) := by decide +kernel
theorem dX12_save_12 : decode cX12_save 12 = .ok (.iload_n 1, 1) := by decide +kernel
theorem dX12_save_13 : decode cX12_save 13 = .ok (.bipush 54, 2) := by decide +kernel
theorem dX12_save_15 : decode cX12_save 15 = .ok (.if_icmp .ge 21, 3) := by decide +kernel
theorem dX12_save_18 : decode cX12_save 18 = .ok (.aload_n 0, 1) := by decide +kernel
theorem dX12_save_19 : decode cX12_save 19 = .ok (.getfield 40, 3) := by decide +kernel
theorem dX12_save_22 : decode cX12_save 22 = .ok (.iload_n 1, 1) := by decide +kernel
theorem dX12_save_23 : decode cX12_save 23 = .ok (.aload_n 0, 1) := by decide +kernel
theorem dX12_save_24 : decode cX12_save 24 = .ok (.getfield 13, 3) := by decide +kernel
theorem dX12_save_27 : decode cX12_save 27 = .ok (.iload_n 1, 1) := by decide +kernel
theorem dX12_save_28 : decode cX12_save 28 = .ok (.iaload, 1) := by decide +kernel
theorem dX12_save_29 : decode cX12_save 29 = .ok (.iastore, 1) := by decide +kernel
theorem dX12_save_30 : decode cX12_save 30 = .ok (.iinc 1 1, 3) := by decide +kernel
theorem dX12_save_33 : decode cX12_save 33 = .ok (.goto (-21), 3) := by decide +kernel
theorem dX12_save_36 : decode cX12_save 36 = .ok (.iconst 0, 1) := by decide +kernel
theorem dX12_save_37 : decode cX12_save 37 = .ok (.istore_n 1, 1) := by decide +kernel
theorem dX12_save_38 : decode cX12_save 38 = .ok (.iload_n 1, 1) := by decide +kernel
theorem dX12_save_39 : decode cX12_save 39 = .ok (.bipush 18, 2) := by decide +kernel
theorem dX12_save_41 : decode cX12_save 41 = .ok (.if_icmp .ge 21, 3) := by decide +kernel
theorem dX12_save_44 : decode cX12_save 44 = .ok (.aload_n 0, 1) := by decide +kernel
theorem dX12_save_45 : decode cX12_save 45 = .ok (.getfield 43, 3) := by decide +kernel
theorem dX12_save_48 : decode cX12_save 48 = .ok (.iload_n 1, 1) := by decide +kernel
theorem dX12_save_49 : decode cX12_save 49 = .ok (.aload_n 0, 1) := by decide +kernel
theorem dX12_save_50 : decode cX12_save 50 = .ok (.getfield 16, 3) := by decide +kernel
theorem dX12_save_53 : decode cX12_save 53 = .ok (.iload_n 1, 1) := by decide +kernel
theorem dX12_save_54 : decode cX12_save 54 = .ok (.baload, 1) := by decide +kernel
theorem dX12_save_55 : decode cX12_save 55 = .ok (.bastore, 1) := by decide +kernel
theorem dX12_save_56 : decode cX12_save 56 = .ok (.iinc 1 1, 3) := by decide +kernel
theorem dX12_save_59 : decode cX12_save 59 = .ok (.goto (-21), 3) := by decide +kernel
theorem dX12_save_62 : decode cX12_save 62 = .ok (.iconst 0, 1) := by decide +kernel
theorem dX12_save_63 : decode cX12_save 63 = .ok (.istore_n 1, 1) := by decide +kernel
theorem dX12_save_64 : decode cX12_save 64 = .ok (.iload_n 1, 1) := by decide +kernel
theorem dX12_save_65 : decode cX12_save 65 = .ok (.iconst 3, 1) := by decide +kernel
theorem dX12_save_66 : decode cX12_save 66 = .ok (.if_icmp .ge 21, 3) := by decide +kernel
theorem dX12_save_69 : decode cX12_save 69 = .ok (.aload_n 0, 1) := by decide +kernel
theorem dX12_save_70 : decode cX12_save 70 = .ok (.getfield 37, 3) := by decide +kernel
theorem dX12_save_73 : decode cX12_save 73 = .ok (.iload_n 1, 1) := by decide +kernel
theorem dX12_save_74 : decode cX12_save 74 = .ok (.aload_n 0, 1) := by decide +kernel
theorem dX12_save_75 : decode cX12_save 75 = .ok (.getfield 7, 3) := by decide +kernel
theorem dX12_save_78 : decode cX12_save 78 = .ok (.iload_n 1, 1) := by decide +kernel
theorem dX12_save_79 : decode cX12_save 79 = .ok (.iaload, 1) := by decide +kernel
theorem dX12_save_80 : decode cX12_save 80 = .ok (.iastore, 1) := by decide +kernel
theorem dX12_save_81 : decode cX12_save 81 = .ok (.iinc 1 1, 3) := by decide +kernel
theorem dX12_save_84 : decode cX12_save 84 = .ok (.goto (-20), 3) := by decide +kernel
theorem dX12_save_87 : decode cX12_save 87 = .ok (.aload_n 0, 1) := by decide +kernel
theorem dX12_save_88 : decode cX12_save 88 = .ok (.aload_n 0, 1) := by decide +kernel
theorem dX12_save_89 : decode cX12_save 89 = .ok (.getfield 146, 3) := by decide +kernel
theorem dX12_save_92 : decode cX12_save 92 = .ok (.putfield 290, 3) := by decide +kernel
theorem dX12_save_95 : decode cX12_save 95 = .ok (.iconst 0, 1) := by decide +kernel
theorem dX12_save_96 : decode cX12_save 96 = .ok (.istore_n 1, 1) := by decide +kernel
theorem dX12_save_97 : decode cX12_save 97 = .ok (.iload_n 1, 1) := by decide +kernel
theorem dX12_save_98 : decode cX12_save 98 = .ok (.bipush 12, 2) := by decide +kernel
theorem dX12_save_100 : decode cX12_save 100 = .ok (.if_icmp .ge 21, 3) := by decide +kernel
theorem dX12_save_103 : decode cX12_save 103 = .ok (.aload_n 0, 1) := by decide +kernel
theorem dX12_save_104 : decode cX12_save 104 = .ok (.getfield 46, 3) := by decide +kernel
theorem dX12_save_107 : decode cX12_save 107 = .ok (.iload_n 1, 1) := by decide +kernel
theorem dX12_save_108 : decode cX12_save 108 = .ok (.aload_n 0, 1) := by decide +kernel
theorem dX12_save_109 : decode cX12_save 109 = .ok (.getfield 20, 3) := by decide +kernel
theorem dX12_save_112 : decode cX12_save 112 = .ok (.iload_n 1, 1) := by decide +kernel
theorem dX12_save_113 : decode cX12_save 113 = .ok (.iaload, 1) := by decide +kernel
theorem dX12_save_114 : decode cX12_save 114 = .ok (.iastore, 1) := by decide +kernel
theorem dX12_save_115 : decode cX12_save 115 = .ok (.iinc 1 1, 3) := by decide +kernel
theorem dX12_save_118 : decode cX12_save 118 = .ok (.goto (-21), 3) := by decide +kernel
theorem dX12_save_121 : decode cX12_save 121 = .ok (.return_, 1) := by decide +kernel
theorem dX12_restore_0 : decode cX12_restore 0 = .ok (.aload_n 0, 1) := by decide +kernel
theorem dX12_restore_1 : decode cX12_restore 1 = .ok (.aload_n 0, 1) := by decide +kernel
theorem dX12_restore_2 : decode cX12_restore 2 = .ok (.getfield 286, 3) := by decide +kernel
theorem dX12_restore_5 : decode cX12_restore 5 = .ok (.ifCond .eq 7, 3) := by decide +kernel
theorem dX12_restore_8 : decode cX12_restore 8 = .ok (.iconst 0, 1) := by decide +kernel
theorem dX12_restore_9 : decode cX12_restore 9 = .ok (.goto 4, 3) := by decide +kernel
theorem dX12_restore_12 : decode cX12_restore 12 = .ok (.iconst 1, 1) := by decide +kernel
theorem dX12_restore_13 : decode cX12_restore 13 = .ok (.putfield 98, 3) := by decide +kernel
theorem dX12_restore_16 : decode cX12_restore 16 = .ok (.aload_n 0, 1) := by decide +kernel
theorem dX12_restore_17 : decode cX12_restore 17 = .ok (.getfield 98, 3) := by decide +kernel
theorem dX12_restore_20 : decode cX12_restore 20 = .ok (.ifCond .eq 4, 3) := by decide +kernel
theorem dX12_restore_23 : decode cX12_restore 23 = .ok (.return_, 1) := by decide +kernel
theorem dX12_restore_24 : decode cX12_restore 24 = .ok (.iconst 0, 1) := by decide +kernel
theorem dX12_restore_25 : decode cX12_restore 25 = .ok (.istore_n 1, 1) := by decide +kernel
theorem dX12_restore_26 : decode cX12_restore 26 = .ok (.iload_n 1, 1) := by decide +kernel
theorem dX12_restore_27 : decode cX12_restore 27 = .ok (.bipush 54, 2) := by decide +kernel
theorem dX12_restore_29 : decode cX12_restore 29 = .ok (.if_icmp .ge 21, 3) := by decide +kernel
theorem dX12_restore_32 : decode cX12_restore 32 = .ok (.aload_n 0, 1) := by decide +kernel
theorem dX12_restore_33 : decode cX12_restore 33 = .ok (.getfield 13, 3) := by decide +kernel
theorem dX12_restore_36 : decode cX12_restore 36 = .ok (.iload_n 1, 1) := by decide +kernel
theorem dX12_restore_37 : decode cX12_restore 37 = .ok (.aload_n 0, 1) := by decide +kernel
theorem dX12_restore_38 : decode cX12_restore 38 = .ok (.getfield 40, 3) := by decide +kernel
theorem dX12_restore_41 : decode cX12_restore 41 = .ok (.iload_n 1, 1) := by decide +kernel
theorem dX12_restore_42 : decode cX12_restore 42 = .ok (.iaload, 1) := by decide +kernel
theorem dX12_restore_43 : decode cX12_restore 43 = .ok (.iastore, 1) := by decide +kernel
theorem dX12_restore_44 : decode cX12_restore 44 = .ok (.iinc 1 1, 3) := by decide +kernel
theorem dX12_restore_47 : decode cX12_restore 47 = .ok (.goto (-21), 3) := by decide +kernel
theorem dX12_restore_50 : decode cX12_restore 50 = .ok (.iconst 0, 1) := by decide +kernel
theorem dX12_restore_51 : decode cX12_restore 51 = .ok (.istore_n 1, 1) := by decide +kernel
theorem dX12_restore_52 : decode cX12_restore 52 = .ok (.iload_n 1, 1) := by decide +kernel
theorem dX12_restore_53 : decode cX12_restore 53 = .ok (.bipush 18, 2) := by decide +kernel
theorem dX12_restore_55 : decode cX12_restore 55 = .ok (.if_icmp .ge 21, 3) := by decide +kernel
theorem dX12_restore_58 : decode cX12_restore 58 = .ok (.aload_n 0, 1) := by decide +kernel
theorem dX12_restore_59 : decode cX12_restore 59 = .ok (.getfield 16, 3) := by decide +kernel
theorem dX12_restore_62 : decode cX12_restore 62 = .ok (.iload_n 1, 1) := by decide +kernel
theorem dX12_restore_63 : decode cX12_restore 63 = .ok (.aload_n 0, 1) := by decide +kernel
theorem dX12_restore_64 : decode cX12_restore 64 = .ok (.getfield 43, 3) := by decide +kernel
theorem dX12_restore_67 : decode cX12_restore 67 = .ok (.iload_n 1, 1) := by decide +kernel
theorem dX12_restore_68 : decode cX12_restore 68 = .ok (.baload, 1) := by decide +kernel
theorem dX12_restore_69 : decode cX12_restore 69 = .ok (.bastore, 1) := by decide +kernel
theorem dX12_restore_70 : decode cX12_restore 70 = .ok (.iinc 1 1, 3) := by decide +kernel
theorem dX12_restore_73 : decode cX12_restore 73 = .ok (.goto (-21), 3) := by decide +kernel
theorem dX12_restore_76 : decode cX12_restore 76 = .ok (.iconst 0, 1) := by decide +kernel
theorem dX12_restore_77 : decode cX12_restore 77 = .ok (.istore_n 1, 1) := by decide +kernel
theorem dX12_restore_78 : decode cX12_restore 78 = .ok (.iload_n 1, 1) := by decide +kernel
theorem dX12_restore_79 : decode cX12_restore 79 = .ok (.iconst 3, 1) := by decide +kernel
theorem dX12_restore_80 : decode cX12_restore 80 = .ok (.if_icmp .ge 21, 3) := by decide +kernel
theorem dX12_restore_83 : decode cX12_restore 83 = .ok (.aload_n 0, 1) := by decide +kernel
theorem dX12_restore_84 : decode cX12_restore 84 = .ok (.getfield 7, 3) := by decide +kernel
theorem dX12_restore_87 : decode cX12_restore 87 = .ok (.iload_n 1, 1) := by decide +kernel
theorem dX12_restore_88 : decode cX12_restore 88 = .ok (.aload_n 0, 1) := by decide +kernel
theorem dX12_restore_89 : decode cX12_restore 89 = .ok (.getfield 37, 3) := by decide +kernel
theorem dX12_restore_92 : decode cX12_restore 92 = .ok (.iload_n 1, 1) := by decide +kernel
theorem dX12_restore_93 : decode cX12_restore 93 = .ok (.iaload, 1) := by decide +kernel
theorem dX12_restore_94 : decode cX12_restore 94 = .ok (.iastore, 1) := by decide +kernel
theorem dX12_restore_95 : decode cX12_restore 95 = .ok (.iinc 1 1, 3) := by decide +kernel
theorem dX12_restore_98 : decode cX12_restore 98 = .ok (.goto (-20), 3) := by decide +kernel
theorem dX12_restore_101 : decode cX12_restore 101 = .ok (.aload_n 0, 1) := by decide +kernel
theorem dX12_restore_102 : decode cX12_restore 102 = .ok (.aload_n 0, 1) := by decide +kernel
theorem dX12_restore_103 : decode cX12_restore 103 = .ok (.getfield 290, 3) := by decide +kernel
theorem dX12_restore_106 : decode cX12_restore 106 = .ok (.putfield 146, 3) := by decide +kernel
theorem dX12_restore_109 : decode cX12_restore 109 = .ok (.iconst 0, 1) := by decide +kernel
theorem dX12_restore_110 : decode cX12_restore 110 = .ok (.istore_n 1, 1) := by decide +kernel
theorem dX12_restore_111 : decode cX12_restore 111 = .ok (.iload_n 1, 1) := by decide +kernel
theorem dX12_restore_112 : decode cX12_restore 112 = .ok (.bipush 12, 2) := by decide +kernel
theorem dX12_restore_114 : decode cX12_restore 114 = .ok (.if_icmp .ge 21, 3) := by decide +kernel
theorem dX12_restore_117 : decode cX12_restore 117 = .ok (.aload_n 0, 1) := by decide +kernel
theorem dX12_restore_118 : decode cX12_restore 118 = .ok (.getfield 20, 3) := by decide +kernel
theorem dX12_restore_121 : decode cX12_restore 121 = .ok (.iload_n 1, 1) := by decide +kernel
theorem dX12_restore_122 : decode cX12_restore 122 = .ok (.aload_n 0, 1) := by decide +kernel
theorem dX12_restore_123 : decode cX12_restore 123 = .ok (.getfield 46, 3) := by decide +kernel
theorem dX12_restore_126 : decode cX12_restore 126 = .ok (.iload_n 1, 1) := by decide +kernel
theorem dX12_restore_127 : decode cX12_restore 127 = .ok (.iaload, 1) := by decide +kernel
theorem dX12_restore_128 : decode cX12_restore 128 = .ok (.iastore, 1) := by decide +kernel
theorem dX12_restore_129 : decode cX12_restore 129 = .ok (.iinc 1 1, 3) := by decide +kernel
theorem dX12_restore_132 : decode cX12_restore 132 = .ok (.goto (-21), 3) := by decide +kernel
theorem dX12_restore_135 : decode cX12_restore 135 = .ok (.return_, 1) := by decide +kernel
end
section
/-! THE PURE STATE: cells are numbered 0 .. in the order of their making; what a cell is never changes (pv_sh); what it holds is four tables of numbers and one of references, each by cell and slot. -/
abbrev pv_M : Type := (Nat → Nat → Int32) × (Nat → Nat → Int64) × (Nat → Nat → UInt32) × (Nat → Nat → UInt64) × (Nat → Nat → Option Nat)
abbrev mI (S : pv_M) : Nat → Nat → Int32 := S.1
abbrev mJ (S : pv_M) : Nat → Nat → Int64 := S.2.1
abbrev mF (S : pv_M) : Nat → Nat → UInt32 := S.2.2.1
abbrev mD (S : pv_M) : Nat → Nat → UInt64 := S.2.2.2.1
abbrev mR (S : pv_M) : Nat → Nat → Option Nat := S.2.2.2.2
def wI (S : pv_M) (i : Nat) (f : Nat → Int32) : pv_M := (va_up S.1 i f, S.2)
def wJ (S : pv_M) (i : Nat) (f : Nat → Int64) : pv_M := (S.1, va_up S.2.1 i f, S.2.2)
def wF (S : pv_M) (i : Nat) (f : Nat → UInt32) : pv_M := (S.1, S.2.1, va_up S.2.2.1 i f, S.2.2.2)
def wD (S : pv_M) (i : Nat) (f : Nat → UInt64) : pv_M := (S.1, S.2.1, S.2.2.1, va_up S.2.2.2.1 i f, S.2.2.2.2)
def wR (S : pv_M) (i : Nat) (f : Nat → Option Nat) : pv_M := (S.1, S.2.1, S.2.2.1, S.2.2.2.1, va_up S.2.2.2.2 i f)
/-- the classes whose objects there are -/
def pv_cl : List vw_C := [(RX0, TX0, 14), (RX1, TX1, 3), (RX2, TX2, 3), (RX3, TX3, 4), (RX5, TX5, 10), (RX6, TX6, 3), (RX7, TX7, 6), (RX8, TX8, 1), (RX9, TX9, 2), (RX10, TX10, 2), (RX11, TX11, 13), (RX12, TX12, 43)]
def pv_nf (ci : Nat) : Nat := match ci with
  | 0 => 14 | 1 => 3 | 2 => 3 | 3 => 4 | 4 => 10 | 5 => 3 | 6 => 6 | 7 => 1 | 8 => 2 | 9 => 2 | 10 => 13 | _ => 43
def pv_ft (ci k : Nat) : FieldType := match ci with
  | 0 => tyX0 k | 1 => tyX1 k | 2 => tyX2 k | 3 => tyX3 k | 4 => tyX5 k | 5 => tyX6 k | 6 => tyX7 k | 7 => tyX8 k | 8 => tyX9 k | 9 => tyX10 k | 10 => tyX11 k | _ => tyX12 k
/-- what each cell is: an object of a class, or an array of a kind (0 int, 1 long, 2 float, 3 double, 4 boolean, 5 Automaton, 6 Row) with its length -/
def pv_shl : List (Nat ⊕ (Nat × Nat)) := [
  .inl 10, .inr (5, 3), .inr (5, 3), .inl 9, .inr (0, 12), .inl 9, .inr (0, 12), .inr (6, 2),
  .inl 5, .inl 1, .inr (0, 18), .inl 2, .inl 1, .inr (0, 18), .inl 7, .inr (0, 192), .inl 8, .inl 7, .inr (0, 192), .inl 1, .inr (0, 18),
  .inl 6, .inr (2, 21), .inr (3, 21), .inr (1, 6), .inr (1, 6),
  .inl 3, .inr (1, 730), .inr (0, 1024),
  .inl 4, .inr (0, 384), .inr (0, 384), .inr (0, 1152), .inr (0, 384), .inr (4, 384), .inr (0, 384), .inr (0, 384),
  .inl 0, .inl 1, .inr (0, 18), .inl 7, .inr (0, 192), .inl 7, .inr (0, 192), .inl 7, .inr (0, 192),
  .inr (0, 64), .inr (0, 64), .inr (0, 64), .inr (1, 64), .inr (1, 64), .inr (0, 730), .inr (0, 64),
  .inl 1, .inr (0, 18), .inl 1, .inr (0, 18), .inl 1, .inr (0, 18), .inl 1, .inr (0, 18), .inl 1, .inr (0, 18), .inl 1, .inr (0, 18),
  .inl 6, .inr (2, 21), .inr (3, 21), .inr (1, 6), .inr (1, 6), .inl 6, .inr (2, 21), .inr (3, 21), .inr (1, 6), .inr (1, 6),
  .inl 11, .inr (0, 3), .inr (0, 54), .inr (4, 18), .inr (0, 12), .inr (0, 2), .inr (0, 2), .inr (2, 42), .inr (3, 42), .inr (0, 3), .inr (0, 54), .inr (4, 18), .inr (0, 12),
  .inr (1, 740), .inr (0, 2220), .inr (4, 740), .inr (0, 740), .inr (0, 740), .inr (0, 740), .inr (0, 740), .inr (0, 6), .inr (0, 64), .inr (4, 64), .inr (1, 192), .inr (0, 6), .inr (4, 4096), .inr (0, 4096), .inr (1, 6), .inr (1, 6),
  .inr (1, 1), .inr (3, 1)]
def pv_sh (i : Nat) : Nat ⊕ (Nat × Nat) := pv_shl.getD i (.inr (99, 0))
def pv_v (α : Nat → Nat) (S : pv_M) (i k : Nat) (ty : FieldType) : Value := match ty with
  | .int => .int (mI S i k)
  | .boolean => .int (mI S i k)
  | .long => .long (mJ S i k)
  | .float => .float (mF S i k)
  | .double => .double (mD S i k)
  | _ => va_rf ((mR S i k).map α)
def pv_arr (α : Nat → Nat) (S : pv_M) (i t : Nat) : (Nat → Int32) ⊕ (Nat → Int64) ⊕ (Nat → UInt32) ⊕ (Nat → UInt64) ⊕ (Nat → Option Nat) := match t with
  | 0 => .inl (mI S i)
  | 1 => .inr (.inl (mJ S i))
  | 2 => .inr (.inr (.inl (mF S i)))
  | 3 => .inr (.inr (.inr (.inl (mD S i))))
  | 4 => .inl (mI S i)
  | _ => .inr (.inr (.inr (.inr (fun k => (mR S i k).map α))))
def pv_cell (ay : Nat → ClassId) (α : Nat → Nat) (S : pv_M) (i : Nat) : va_E := match pv_sh i with
  | .inl ci => .inr (ci, (List.range (pv_nf ci)).map fun k => pv_v α S i k (pv_ft ci k))
  | .inr q => .inl (ay q.1, q.2, pv_arr α S i q.1)
def pv_wd (ay : Nat → ClassId) (α : Nat → Nat) (N : Nat) (S : pv_M) : va_W := (List.range N).map fun i => (α i, pv_cell ay α S i)
def pv_tys (ay : Nat → ClassId) : List (ClassId × FieldType) := [(ay 0, .int), (ay 1, .long), (ay 2, .float), (ay 3, .double), (ay 4, .boolean), (ay 5, .object RX1), (ay 6, .object RX7)]
/-- references are to cells that are there -/
def pv_ok (N : Nat) (S : pv_M) : Prop := ∀ i, i < N → ∀ k r, mR S i k = some r → r < N
/-- an unknown local; the law's own script; else a reference is a cell's number -/
abbrev unk : Value := .retAddr 0
def tv (b : Nat) (α : Nat → Nat) (v : Value) : Value := match v with
  | .ref i => .ref (α i)
  | .retAddr k => if k = 1 then .ref b else .retAddr k
  | v => v
theorem pv_wd_at (ay : Nat → ClassId) (α : Nat → Nat) (S : pv_M) {N i : Nat} (h : i < N) : (pv_wd ay α N S)[i]? = some (α i, pv_cell ay α S i) := by
  simp [pv_wd, h]
theorem pv_wd_set (ay : Nat → ClassId) (α : Nat → Nat) {S S' : pv_M} {N i : Nat} (h : i < N) (hs : ∀ j, j ≠ i → pv_cell ay α S' j = pv_cell ay α S j) {c : va_E} (hc : pv_cell ay α S' i = c) : (pv_wd ay α N S).set i (α i, c) = pv_wd ay α N S' := by
  apply List.ext_getElem?
  intro j
  by_cases hj : j = i
  · subst hj
    rw [List.getElem?_set_self (by simp [pv_wd, h]), pv_wd_at ay α S' h, hc]
  · rw [List.getElem?_set_ne (fun q => hj q.symm)]
    by_cases hN : j < N
    · rw [pv_wd_at ay α S hN, pv_wd_at ay α S' hN, hs j hj]
    · simp [pv_wd, hN]
theorem pv_cell_wI (ay : Nat → ClassId) (α : Nat → Nat) (S : pv_M) (i : Nat) (f : Nat → Int32) : ∀ j, j ≠ i → pv_cell ay α (wI S i f) j = pv_cell ay α S j := by
  intro j hj
  simp only [pv_cell, pv_v, pv_arr, mI, mJ, mF, mD, mR, wI, va_up_ne _ _ hj]
theorem pv_cell_wJ (ay : Nat → ClassId) (α : Nat → Nat) (S : pv_M) (i : Nat) (f : Nat → Int64) : ∀ j, j ≠ i → pv_cell ay α (wJ S i f) j = pv_cell ay α S j := by
  intro j hj
  simp only [pv_cell, pv_v, pv_arr, mI, mJ, mF, mD, mR, wJ, va_up_ne _ _ hj]
theorem pv_cell_wF (ay : Nat → ClassId) (α : Nat → Nat) (S : pv_M) (i : Nat) (f : Nat → UInt32) : ∀ j, j ≠ i → pv_cell ay α (wF S i f) j = pv_cell ay α S j := by
  intro j hj
  simp only [pv_cell, pv_v, pv_arr, mI, mJ, mF, mD, mR, wF, va_up_ne _ _ hj]
theorem pv_cell_wD (ay : Nat → ClassId) (α : Nat → Nat) (S : pv_M) (i : Nat) (f : Nat → UInt64) : ∀ j, j ≠ i → pv_cell ay α (wD S i f) j = pv_cell ay α S j := by
  intro j hj
  simp only [pv_cell, pv_v, pv_arr, mI, mJ, mF, mD, mR, wD, va_up_ne _ _ hj]
theorem pv_cell_wR (ay : Nat → ClassId) (α : Nat → Nat) (S : pv_M) (i : Nat) (f : Nat → Option Nat) : ∀ j, j ≠ i → pv_cell ay α (wR S i f) j = pv_cell ay α S j := by
  intro j hj
  simp only [pv_cell, pv_v, pv_arr, mI, mJ, mF, mD, mR, wR, va_up_ne _ _ hj]
/-! the words: one list for all methods -/
def TB : List Cond := lw_tbl.filter goodWord
theorem tb_in {w : Cond} (i : Nat) (h : lw_tbl[i]? = some w) (hg : goodWord w = true) : w ∈ TB := List.mem_filter.mpr ⟨List.mem_of_getElem? h, hg⟩
theorem tb_good {w : Cond} (h : w ∈ TB) : (w.onTables && w.keeps) = true ∨ ∃ ty, w = .arrayClass ty := good_of_word (List.mem_filter.mp h).2
theorem tb_goodIn {y : MethodName} {cc : ByteArray} {n : Nat} {r : Option FieldType} {ws : List Cond} (h : ∀ w ∈ ws, w ∈ TB) : GoodIn (.code y cc n r :: TB) ws := fun w hw => ⟨List.mem_cons_of_mem _ (h w hw), tb_good (h w hw)⟩
end
section
/-! THE WALK OVER THE PURE STATE. Cx: machine, method, tables, script, goal; GG: from this point the goal is reached, whatever the addresses are. -/
abbrev Cx : Type := (Program × Launch × Env × Room) × (State × MethodId × Array Value × List Frame) × (Method × Code) × (va_G × (Nat → ClassId) × (Nat → Prop) × (Nat → Nat) × Nat) × (Nat × Nat × (Nat → Int32)) × (State → Prop)
abbrev xR (x : Cx) : Room := x.1.2.2.2
abbrev xs (x : Cx) : State := x.2.1.1
abbrev xm (x : Cx) : MethodId := x.2.1.2.1
abbrev xa (x : Cx) : Array Value := x.2.1.2.2.1
abbrev xc (x : Cx) : Code := x.2.2.1.2
abbrev xD (x : Cx) : va_G := x.2.2.2.1.1
abbrev xy (x : Cx) : Nat → ClassId := x.2.2.2.1.2.1
abbrev xA (x : Cx) : Nat → Prop := x.2.2.2.1.2.2.1
abbrev xal (x : Cx) : Nat → Nat := x.2.2.2.1.2.2.2.1
abbrev xN (x : Cx) : Nat := x.2.2.2.1.2.2.2.2
abbrev xb (x : Cx) : Nat := x.2.2.2.2.1.1
abbrev xL (x : Cx) : Nat := x.2.2.2.2.1.2.1
abbrev xS (x : Cx) : Nat → Int32 := x.2.2.2.2.1.2.2
abbrev xQ (x : Cx) : State → Prop := x.2.2.2.2.2
abbrev WW (x : Cx) (H : Heap) (locs : List Loc) (cs sl : Nat) (g : JFrame) : Prop := W x.1.1 x.1.2.1 x.1.2.2.1 (xR x) (xs x) (xm x) (xa x) x.2.1.2.2.2 x.2.2.1.1 (xc x) H locs cs sl (xQ x) g
def RW (x : Cx) (N : Nat) (α : Nat → Nat) (S : pv_M) (H : Heap) (locs : List Loc) : Prop := va_P (xD x) pv_cl (pv_wd (xy x) α N S) H ∧ va_D (xA x) (pv_wd (xy x) α N S) ∧ va_S (xA x) (xs x).heap H locs ∧ pv_ok N S ∧ ∀ i, i < xN x → α i = xal x i
def LR (x : Cx) (α : Nat → Nat) (lv : List Value) (ls : Array Slot) : Prop := ls.size = (xc x).maxLocals ∧ lv_wf ls ∧ ∀ (i : Nat) (v : Value), lv[i]? = some v → v ≠ unk → ls[i]? = some (Slot.val (tv (xb x) α v))
def GG (x : Cx) (N cs sl : Nat) (lv st : List Value) (S : pv_M) (pc : Nat) : Prop := ∀ (α : Nat → Nat) (H : Heap) (locs : List Loc) (ls : Array Slot), RW x N α S H locs → LR x α lv ls → WW x H locs cs sl (F0 (xm x) pc ls (st.map (tv (xb x) α)))
/-- the texts of the exceptions, by their places in the table of LanguageAtoms -/
def pv_strs : List (Nat × String) := [(237, "the languages are equal"), (257, "no such row"), (263, "the row is missing"), (271, "the divisor is 0"), (281, "nothing was saved"), (285, "no such number"), (288, "the number of states is out of range"), (290, "no such operation"), (292, "the length is out of range"), (294, "the set contains an atom that does not exist"), (296, "the word would have more than 12 letters"), (298, "the result has more than 6 quotients")]
/-- words that aren't good ones, and are carried by hand -/
def nbw : Cond → Bool
  | .fieldLinkNest .. => true
  | .methodLinkNest .. => true
  | .declares _ => true
  | .castable .. => true
  | _ => false
def NB : List Cond := lw_tbl.filter nbw
theorem nb_in {w : Cond} (i : Nat) (h : lw_tbl[i]? = some w) (hg : nbw w = true) : w ∈ NB := List.mem_filter.mpr ⟨List.mem_of_getElem? h, hg⟩
theorem nb_on {w : Cond} (h : w ∈ NB) : w.onTables = true := by
  have h1 := (List.mem_filter.mp h).2
  cases w <;> first | rfl | exact (Bool.false_ne_true h1).elim
theorem nb_warm {w : Cond} (h : w ∈ NB) {s U : State} (hW : s.WarmedH U.vm) (hz : va_Nw w s) : va_Nw w U := by
  have h1 := (List.mem_filter.mp h).2
  cases w <;> first | exact (Bool.false_ne_true h1).elim | exact va_Nw.warmF hW hz | exact va_Nw.warmM hW hz | exact va_Nw.warmD hW hz | exact va_Nw.warmC hW hz
/-- what a throw, and a nest mate, need of the machine -/
def BU (A : Nat → Prop) (U : State) (H : Heap) : Prop := vx_Zq Bundle.tN "UNASSIGNED_STACK" Bundle.steD A U H ∧ vx_Zq Bundle.tN "SUPPRESSED_SENTINEL" Bundle.listD A U H ∧ (∀ q ∈ pv_strs, ∃ a, vk_R RX11 q.1 q.2 a U) ∧ (∀ w ∈ NB, va_Nw w U) ∧ va_AO RX1 U ∧ va_AO RX7 U
def BX (x : Cx) (cc : ByteArray) (own : String) : Prop := x.1.1.tables.exec = Jvm.exec ∧ (xc x).code = cc ∧ (xs x).vm.findClass own = some (xm x).cls ∧ (∀ w ∈ TB, w.before (xa x) (xs x) = true) ∧ va_K (xD x) pv_cl (pv_tys (xy x)) (xs x) ∧ (∀ q, (xs x).heap.size ≤ q → xA x q) ∧ BU (xA x) (xs x) (xs x).heap
/-- a store into the locals: a long or double that it cuts in two is unknown from now on -/
def sv (lv : List Value) (i : Nat) (v : Value) : List Value := ((lv.zipIdx).map fun q => if q.2 + 1 = i ∧ q.1.category = 2 then unk else q.1).set i v
def sv2 (lv : List Value) (i : Nat) (v : Value) : List Value := (sv lv i v).set (i + 1) unk
theorem tv_cat (b : Nat) (α : Nat → Nat) (v : Value) : (tv b α v).category = v.category := by
  cases v with
  | retAddr k => by_cases h : k = 1 <;> simp [tv, h, Value.category]
  | _ => rfl

theorem g_iadd {x : Cx} {cc : ByteArray} {own : String} {N cs sl : Nat} {lv st : List Value} {S : pv_M} {pc : Nat} (C : BX x cc own) {a b : Int32} (d : decode cc pc = .ok (.iadd, 1))  (k : GG x N cs sl lv (.int (a + b) :: st) S (pc + 1)) : GG x N cs sl lv (.int b :: .int a :: st) S pc :=
  fun α H locs ls h1 h2 => lv_iadd C.1 C.2.1 d (k α H locs ls h1 h2)
theorem g_isub {x : Cx} {cc : ByteArray} {own : String} {N cs sl : Nat} {lv st : List Value} {S : pv_M} {pc : Nat} (C : BX x cc own) {a b : Int32} (d : decode cc pc = .ok (.isub, 1))  (k : GG x N cs sl lv (.int (a - b) :: st) S (pc + 1)) : GG x N cs sl lv (.int b :: .int a :: st) S pc :=
  fun α H locs ls h1 h2 => lv_isub C.1 C.2.1 d (k α H locs ls h1 h2)
theorem g_imul {x : Cx} {cc : ByteArray} {own : String} {N cs sl : Nat} {lv st : List Value} {S : pv_M} {pc : Nat} (C : BX x cc own) {a b : Int32} (d : decode cc pc = .ok (.imul, 1))  (k : GG x N cs sl lv (.int (a * b) :: st) S (pc + 1)) : GG x N cs sl lv (.int b :: .int a :: st) S pc :=
  fun α H locs ls h1 h2 => lv_imul C.1 C.2.1 d (k α H locs ls h1 h2)
theorem g_iand {x : Cx} {cc : ByteArray} {own : String} {N cs sl : Nat} {lv st : List Value} {S : pv_M} {pc : Nat} (C : BX x cc own) {a b : Int32} (d : decode cc pc = .ok (.iand, 1))  (k : GG x N cs sl lv (.int (a &&& b) :: st) S (pc + 1)) : GG x N cs sl lv (.int b :: .int a :: st) S pc :=
  fun α H locs ls h1 h2 => lv_iand C.1 C.2.1 d (k α H locs ls h1 h2)
theorem g_ior {x : Cx} {cc : ByteArray} {own : String} {N cs sl : Nat} {lv st : List Value} {S : pv_M} {pc : Nat} (C : BX x cc own) {a b : Int32} (d : decode cc pc = .ok (.ior, 1))  (k : GG x N cs sl lv (.int (a ||| b) :: st) S (pc + 1)) : GG x N cs sl lv (.int b :: .int a :: st) S pc :=
  fun α H locs ls h1 h2 => lv_ior C.1 C.2.1 d (k α H locs ls h1 h2)
theorem g_ixor {x : Cx} {cc : ByteArray} {own : String} {N cs sl : Nat} {lv st : List Value} {S : pv_M} {pc : Nat} (C : BX x cc own) {a b : Int32} (d : decode cc pc = .ok (.ixor, 1))  (k : GG x N cs sl lv (.int (a ^^^ b) :: st) S (pc + 1)) : GG x N cs sl lv (.int b :: .int a :: st) S pc :=
  fun α H locs ls h1 h2 => lv_ixor C.1 C.2.1 d (k α H locs ls h1 h2)
theorem g_ishl {x : Cx} {cc : ByteArray} {own : String} {N cs sl : Nat} {lv st : List Value} {S : pv_M} {pc : Nat} (C : BX x cc own) {a b : Int32} (d : decode cc pc = .ok (.ishl, 1))  (k : GG x N cs sl lv (.int (a <<< (b &&& 31)) :: st) S (pc + 1)) : GG x N cs sl lv (.int b :: .int a :: st) S pc :=
  fun α H locs ls h1 h2 => lv_ishl C.1 C.2.1 d (k α H locs ls h1 h2)
theorem g_ishr {x : Cx} {cc : ByteArray} {own : String} {N cs sl : Nat} {lv st : List Value} {S : pv_M} {pc : Nat} (C : BX x cc own) {a b : Int32} (d : decode cc pc = .ok (.ishr, 1))  (k : GG x N cs sl lv (.int (a >>> (b &&& 31)) :: st) S (pc + 1)) : GG x N cs sl lv (.int b :: .int a :: st) S pc :=
  fun α H locs ls h1 h2 => lv_ishr C.1 C.2.1 d (k α H locs ls h1 h2)
theorem g_iushr {x : Cx} {cc : ByteArray} {own : String} {N cs sl : Nat} {lv st : List Value} {S : pv_M} {pc : Nat} (C : BX x cc own) {a b : Int32} (d : decode cc pc = .ok (.iushr, 1))  (k : GG x N cs sl lv (.int ((a.toUInt32 >>> (b.toUInt32 &&& Int32.toUInt32 31)).toInt32) :: st) S (pc + 1)) : GG x N cs sl lv (.int b :: .int a :: st) S pc :=
  fun α H locs ls h1 h2 => lv_iushr C.1 C.2.1 d rfl (k α H locs ls h1 h2)
theorem g_idiv {x : Cx} {cc : ByteArray} {own : String} {N cs sl : Nat} {lv st : List Value} {S : pv_M} {pc : Nat} (C : BX x cc own) {a b : Int32} (d : decode cc pc = .ok (.idiv, 1)) (hne : ¬ b = 0) (k : GG x N cs sl lv (.int (a / b) :: st) S (pc + 1)) : GG x N cs sl lv (.int b :: .int a :: st) S pc :=
  fun α H locs ls h1 h2 => lv_idiv C.1 C.2.1 d hne (k α H locs ls h1 h2)
theorem g_irem {x : Cx} {cc : ByteArray} {own : String} {N cs sl : Nat} {lv st : List Value} {S : pv_M} {pc : Nat} (C : BX x cc own) {a b : Int32} (d : decode cc pc = .ok (.irem, 1)) (hne : ¬ b = 0) (k : GG x N cs sl lv (.int (a - a / b * b) :: st) S (pc + 1)) : GG x N cs sl lv (.int b :: .int a :: st) S pc :=
  fun α H locs ls h1 h2 => lv_irem C.1 C.2.1 d hne (k α H locs ls h1 h2)
theorem g_ineg {x : Cx} {cc : ByteArray} {own : String} {N cs sl : Nat} {lv st : List Value} {S : pv_M} {pc : Nat} (C : BX x cc own) {a : Int32} (d : decode cc pc = .ok (.ineg, 1))  (k : GG x N cs sl lv (.int (-a) :: st) S (pc + 1)) : GG x N cs sl lv (.int a :: st) S pc :=
  fun α H locs ls h1 h2 => lv_ineg C.1 C.2.1 d (k α H locs ls h1 h2)
theorem g_ladd {x : Cx} {cc : ByteArray} {own : String} {N cs sl : Nat} {lv st : List Value} {S : pv_M} {pc : Nat} (C : BX x cc own) {a b : Int64} (d : decode cc pc = .ok (.ladd, 1))  (k : GG x N cs sl lv (.long (a + b) :: st) S (pc + 1)) : GG x N cs sl lv (.long b :: .long a :: st) S pc :=
  fun α H locs ls h1 h2 => lv_ladd C.1 C.2.1 d (k α H locs ls h1 h2)
theorem g_lsub {x : Cx} {cc : ByteArray} {own : String} {N cs sl : Nat} {lv st : List Value} {S : pv_M} {pc : Nat} (C : BX x cc own) {a b : Int64} (d : decode cc pc = .ok (.lsub, 1))  (k : GG x N cs sl lv (.long (a - b) :: st) S (pc + 1)) : GG x N cs sl lv (.long b :: .long a :: st) S pc :=
  fun α H locs ls h1 h2 => lv_lsub C.1 C.2.1 d (k α H locs ls h1 h2)
theorem g_lmul {x : Cx} {cc : ByteArray} {own : String} {N cs sl : Nat} {lv st : List Value} {S : pv_M} {pc : Nat} (C : BX x cc own) {a b : Int64} (d : decode cc pc = .ok (.lmul, 1))  (k : GG x N cs sl lv (.long (a * b) :: st) S (pc + 1)) : GG x N cs sl lv (.long b :: .long a :: st) S pc :=
  fun α H locs ls h1 h2 => lv_lmul C.1 C.2.1 d (k α H locs ls h1 h2)
theorem g_land {x : Cx} {cc : ByteArray} {own : String} {N cs sl : Nat} {lv st : List Value} {S : pv_M} {pc : Nat} (C : BX x cc own) {a b : Int64} (d : decode cc pc = .ok (.land, 1))  (k : GG x N cs sl lv (.long (a &&& b) :: st) S (pc + 1)) : GG x N cs sl lv (.long b :: .long a :: st) S pc :=
  fun α H locs ls h1 h2 => lv_land C.1 C.2.1 d (k α H locs ls h1 h2)
theorem g_lor {x : Cx} {cc : ByteArray} {own : String} {N cs sl : Nat} {lv st : List Value} {S : pv_M} {pc : Nat} (C : BX x cc own) {a b : Int64} (d : decode cc pc = .ok (.lor, 1))  (k : GG x N cs sl lv (.long (a ||| b) :: st) S (pc + 1)) : GG x N cs sl lv (.long b :: .long a :: st) S pc :=
  fun α H locs ls h1 h2 => lv_lor C.1 C.2.1 d (k α H locs ls h1 h2)
theorem g_lxor {x : Cx} {cc : ByteArray} {own : String} {N cs sl : Nat} {lv st : List Value} {S : pv_M} {pc : Nat} (C : BX x cc own) {a b : Int64} (d : decode cc pc = .ok (.lxor, 1))  (k : GG x N cs sl lv (.long (a ^^^ b) :: st) S (pc + 1)) : GG x N cs sl lv (.long b :: .long a :: st) S pc :=
  fun α H locs ls h1 h2 => lv_lxor C.1 C.2.1 d (k α H locs ls h1 h2)
theorem g_lshl {x : Cx} {cc : ByteArray} {own : String} {N cs sl : Nat} {lv st : List Value} {S : pv_M} {pc : Nat} (C : BX x cc own) {a : Int64} {b : Int32} (d : decode cc pc = .ok (.lshl, 1))  (k : GG x N cs sl lv (.long (a <<< (b.toInt64 &&& 63)) :: st) S (pc + 1)) : GG x N cs sl lv (.int b :: .long a :: st) S pc :=
  fun α H locs ls h1 h2 => lv_lshl C.1 C.2.1 d rfl (k α H locs ls h1 h2)
theorem g_lshr {x : Cx} {cc : ByteArray} {own : String} {N cs sl : Nat} {lv st : List Value} {S : pv_M} {pc : Nat} (C : BX x cc own) {a : Int64} {b : Int32} (d : decode cc pc = .ok (.lshr, 1))  (k : GG x N cs sl lv (.long (a >>> (b.toInt64 &&& 63)) :: st) S (pc + 1)) : GG x N cs sl lv (.int b :: .long a :: st) S pc :=
  fun α H locs ls h1 h2 => lv_lshr C.1 C.2.1 d rfl (k α H locs ls h1 h2)
theorem g_lushr {x : Cx} {cc : ByteArray} {own : String} {N cs sl : Nat} {lv st : List Value} {S : pv_M} {pc : Nat} (C : BX x cc own) {a : Int64} {b : Int32} (d : decode cc pc = .ok (.lushr, 1))  (k : GG x N cs sl lv (.long ((a.toUInt64 >>> (b.toInt64.toUInt64 &&& Int64.toUInt64 63)).toInt64) :: st) S (pc + 1)) : GG x N cs sl lv (.int b :: .long a :: st) S pc :=
  fun α H locs ls h1 h2 => lv_lushr C.1 C.2.1 d rfl (k α H locs ls h1 h2)
theorem g_i2l {x : Cx} {cc : ByteArray} {own : String} {N cs sl : Nat} {lv st : List Value} {S : pv_M} {pc : Nat} (C : BX x cc own) {a : Int32} (d : decode cc pc = .ok (.i2l, 1))  (k : GG x N cs sl lv (.long a.toInt64 :: st) S (pc + 1)) : GG x N cs sl lv (.int a :: st) S pc :=
  fun α H locs ls h1 h2 => lv_i2l C.1 C.2.1 d rfl (k α H locs ls h1 h2)
theorem g_l2i {x : Cx} {cc : ByteArray} {own : String} {N cs sl : Nat} {lv st : List Value} {S : pv_M} {pc : Nat} (C : BX x cc own) {a : Int64} (d : decode cc pc = .ok (.l2i, 1))  (k : GG x N cs sl lv (.int a.toInt32 :: st) S (pc + 1)) : GG x N cs sl lv (.long a :: st) S pc :=
  fun α H locs ls h1 h2 => lv_l2i C.1 C.2.1 d rfl (k α H locs ls h1 h2)
theorem g_l2d {x : Cx} {cc : ByteArray} {own : String} {N cs sl : Nat} {lv st : List Value} {S : pv_M} {pc : Nat} (C : BX x cc own) {a : Int64} (d : decode cc pc = .ok (.l2d, 1))  (k : GG x N cs sl lv (.double (FP.l2d a) :: st) S (pc + 1)) : GG x N cs sl lv (.long a :: st) S pc :=
  fun α H locs ls h1 h2 => lv_l2d C.1 C.2.1 d (k α H locs ls h1 h2)
theorem g_lcmp {x : Cx} {cc : ByteArray} {own : String} {N cs sl : Nat} {lv st : List Value} {S : pv_M} {pc : Nat} (C : BX x cc own) {a b : Int64} (d : decode cc pc = .ok (.lcmp, 1))  (k : GG x N cs sl lv (.int (lg_cmp a b) :: st) S (pc + 1)) : GG x N cs sl lv (.long b :: .long a :: st) S pc :=
  fun α H locs ls h1 h2 => W.lcmp C.1 C.2.1 d (k α H locs ls h1 h2)
theorem g_fadd {x : Cx} {cc : ByteArray} {own : String} {N cs sl : Nat} {lv st : List Value} {S : pv_M} {pc : Nat} (C : BX x cc own) {a b : UInt32} (d : decode cc pc = .ok (.fadd, 1)) (hne : vf_n32 (FP.fadd a b)) (k : GG x N cs sl lv (.float (FP.fadd a b) :: st) S (pc + 1)) : GG x N cs sl lv (.float b :: .float a :: st) S pc :=
  fun α H locs ls h1 h2 => lv_fadd C.1 C.2.1 d hne (k α H locs ls h1 h2)
theorem g_fsub {x : Cx} {cc : ByteArray} {own : String} {N cs sl : Nat} {lv st : List Value} {S : pv_M} {pc : Nat} (C : BX x cc own) {a b : UInt32} (d : decode cc pc = .ok (.fsub, 1)) (hne : vf_n32 (FP.fsub a b)) (k : GG x N cs sl lv (.float (FP.fsub a b) :: st) S (pc + 1)) : GG x N cs sl lv (.float b :: .float a :: st) S pc :=
  fun α H locs ls h1 h2 => lv_fsub C.1 C.2.1 d hne (k α H locs ls h1 h2)
theorem g_frem {x : Cx} {cc : ByteArray} {own : String} {N cs sl : Nat} {lv st : List Value} {S : pv_M} {pc : Nat} (C : BX x cc own) {a b : UInt32} (d : decode cc pc = .ok (.frem, 1)) (hne : vf_n32 (FP.frem a b)) (k : GG x N cs sl lv (.float (FP.frem a b) :: st) S (pc + 1)) : GG x N cs sl lv (.float b :: .float a :: st) S pc :=
  fun α H locs ls h1 h2 => lv_frem C.1 C.2.1 d hne (k α H locs ls h1 h2)
theorem g_dadd {x : Cx} {cc : ByteArray} {own : String} {N cs sl : Nat} {lv st : List Value} {S : pv_M} {pc : Nat} (C : BX x cc own) {a b : UInt64} (d : decode cc pc = .ok (.dadd, 1)) (hne : vf_n64 (FP.dadd a b)) (k : GG x N cs sl lv (.double (FP.dadd a b) :: st) S (pc + 1)) : GG x N cs sl lv (.double b :: .double a :: st) S pc :=
  fun α H locs ls h1 h2 => lv_dadd C.1 C.2.1 d hne (k α H locs ls h1 h2)
theorem g_dsub {x : Cx} {cc : ByteArray} {own : String} {N cs sl : Nat} {lv st : List Value} {S : pv_M} {pc : Nat} (C : BX x cc own) {a b : UInt64} (d : decode cc pc = .ok (.dsub, 1)) (hne : vf_n64 (FP.dsub a b)) (k : GG x N cs sl lv (.double (FP.dsub a b) :: st) S (pc + 1)) : GG x N cs sl lv (.double b :: .double a :: st) S pc :=
  fun α H locs ls h1 h2 => lv_dsub C.1 C.2.1 d hne (k α H locs ls h1 h2)
theorem g_ddiv {x : Cx} {cc : ByteArray} {own : String} {N cs sl : Nat} {lv st : List Value} {S : pv_M} {pc : Nat} (C : BX x cc own) {a b : UInt64} (d : decode cc pc = .ok (.ddiv, 1)) (hne : vf_n64 (FP.ddiv a b)) (k : GG x N cs sl lv (.double (FP.ddiv a b) :: st) S (pc + 1)) : GG x N cs sl lv (.double b :: .double a :: st) S pc :=
  fun α H locs ls h1 h2 => lv_ddiv C.1 C.2.1 d hne (k α H locs ls h1 h2)
theorem g_drem {x : Cx} {cc : ByteArray} {own : String} {N cs sl : Nat} {lv st : List Value} {S : pv_M} {pc : Nat} (C : BX x cc own) {a b : UInt64} (d : decode cc pc = .ok (.drem, 1)) (hne : vf_n64 (FP.drem a b)) (k : GG x N cs sl lv (.double (FP.drem a b) :: st) S (pc + 1)) : GG x N cs sl lv (.double b :: .double a :: st) S pc :=
  fun α H locs ls h1 h2 => lv_drem C.1 C.2.1 d hne (k α H locs ls h1 h2)
theorem g_f2d {x : Cx} {cc : ByteArray} {own : String} {N cs sl : Nat} {lv st : List Value} {S : pv_M} {pc : Nat} (C : BX x cc own) {a : UInt32} (d : decode cc pc = .ok (.f2d, 1)) (hne : vf_n64 (FP.f2d a)) (k : GG x N cs sl lv (.double (FP.f2d a) :: st) S (pc + 1)) : GG x N cs sl lv (.float a :: st) S pc :=
  fun α H locs ls h1 h2 => lv_f2d C.1 C.2.1 d hne (k α H locs ls h1 h2)
theorem g_d2f {x : Cx} {cc : ByteArray} {own : String} {N cs sl : Nat} {lv st : List Value} {S : pv_M} {pc : Nat} (C : BX x cc own) {a : UInt64} (d : decode cc pc = .ok (.d2f, 1)) (hne : vf_n32 (FP.d2f a)) (k : GG x N cs sl lv (.float (FP.d2f a) :: st) S (pc + 1)) : GG x N cs sl lv (.double a :: st) S pc :=
  fun α H locs ls h1 h2 => lv_d2f C.1 C.2.1 d hne (k α H locs ls h1 h2)
theorem g_fcmp {x : Cx} {cc : ByteArray} {own : String} {N cs sl : Nat} {lv st : List Value} {S : pv_M} {pc : Nat} (C : BX x cc own) {a b : UInt32} {op : CmpOp} (d : decode cc pc = .ok (.fcmp op, 1))  (k : GG x N cs sl lv (.int (Op.cmpValue (FP.fcmp a b) op) :: st) S (pc + 1)) : GG x N cs sl lv (.float b :: .float a :: st) S pc :=
  fun α H locs ls h1 h2 => lv_fcmp C.1 C.2.1 d (k α H locs ls h1 h2)
theorem g_dcmp {x : Cx} {cc : ByteArray} {own : String} {N cs sl : Nat} {lv st : List Value} {S : pv_M} {pc : Nat} (C : BX x cc own) {a b : UInt64} {op : CmpOp} (d : decode cc pc = .ok (.dcmp op, 1))  (k : GG x N cs sl lv (.int (Op.cmpValue (FP.dcmp a b) op) :: st) S (pc + 1)) : GG x N cs sl lv (.double b :: .double a :: st) S pc :=
  fun α H locs ls h1 h2 => lv_dcmp C.1 C.2.1 d (k α H locs ls h1 h2)
theorem g_fconst0 {x : Cx} {cc : ByteArray} {own : String} {N cs sl : Nat} {lv st : List Value} {S : pv_M} {pc : Nat} (C : BX x cc own)  (d : decode cc pc = .ok (.fconst 0, 1))  (k : GG x N cs sl lv (.float FP.fconst0 :: st) S (pc + 1)) : GG x N cs sl lv (st) S pc :=
  fun α H locs ls h1 h2 => lv_fconst0 C.1 C.2.1 d (k α H locs ls h1 h2)
theorem g_dconst0 {x : Cx} {cc : ByteArray} {own : String} {N cs sl : Nat} {lv st : List Value} {S : pv_M} {pc : Nat} (C : BX x cc own)  (d : decode cc pc = .ok (.dconst 0, 1))  (k : GG x N cs sl lv (.double FP.dconst0 :: st) S (pc + 1)) : GG x N cs sl lv (st) S pc :=
  fun α H locs ls h1 h2 => lv_dconst0 C.1 C.2.1 d (k α H locs ls h1 h2)
theorem g_iconst {x : Cx} {cc : ByteArray} {own : String} {N cs sl : Nat} {lv st : List Value} {S : pv_M} {pc : Nat} (C : BX x cc own) {n : Int} (v : Int32) (d : decode cc pc = .ok (.iconst n, 1)) (hv : Int32.ofInt n = v := by decide) (k : GG x N cs sl lv (.int v :: st) S (pc + 1)) : GG x N cs sl lv (st) S pc :=
  fun α H locs ls h1 h2 => lv_iconst C.1 C.2.1 d hv (k α H locs ls h1 h2)
theorem g_bipush {x : Cx} {cc : ByteArray} {own : String} {N cs sl : Nat} {lv st : List Value} {S : pv_M} {pc : Nat} (C : BX x cc own) {n : Int} (v : Int32) (d : decode cc pc = .ok (.bipush n, 2)) (hv : (Int8.ofInt n).toInt32 = v := by decide) (k : GG x N cs sl lv (.int v :: st) S (pc + 2)) : GG x N cs sl lv (st) S pc :=
  fun α H locs ls h1 h2 => lv_bipush C.1 C.2.1 d hv (k α H locs ls h1 h2)
theorem g_sipush {x : Cx} {cc : ByteArray} {own : String} {N cs sl : Nat} {lv st : List Value} {S : pv_M} {pc : Nat} (C : BX x cc own) {n : Int} (v : Int32) (d : decode cc pc = .ok (.sipush n, 3)) (hv : (Int16.ofInt n).toInt32 = v := by decide) (k : GG x N cs sl lv (.int v :: st) S (pc + 3)) : GG x N cs sl lv (st) S pc :=
  fun α H locs ls h1 h2 => lv_sipush C.1 C.2.1 d hv (k α H locs ls h1 h2)
theorem g_lconst {x : Cx} {cc : ByteArray} {own : String} {N cs sl : Nat} {lv st : List Value} {S : pv_M} {pc : Nat} (C : BX x cc own) {n : Fin 2} (v : Int64) (d : decode cc pc = .ok (.lconst n, 1)) (hv : Int64.ofNat (n : Nat) = v := by decide) (k : GG x N cs sl lv (.long v :: st) S (pc + 1)) : GG x N cs sl lv (st) S pc :=
  fun α H locs ls h1 h2 => lv_lconst C.1 C.2.1 d hv (k α H locs ls h1 h2)
theorem g_ldc {x : Cx} {cc : ByteArray} {own : String} {N cs sl : Nat} {lv st : List Value} {S : pv_M} {pc : Nat} (C : BX x cc own) {index : Nat} {v : Int32} (d : decode cc pc = .ok (.ldc index, 2)) (hc : Cond.constant own index v ∈ TB) (k : GG x N cs sl lv (.int v :: st) S (pc + 2)) : GG x N cs sl lv (st) S pc :=
  fun α H locs ls h1 h2 => lv_ldc C.1 C.2.1 C.2.2.1 (C.2.2.2.1 _ hc) d (k α H locs ls h1 h2)
theorem g_ldcw {x : Cx} {cc : ByteArray} {own : String} {N cs sl : Nat} {lv st : List Value} {S : pv_M} {pc : Nat} (C : BX x cc own) {index : Nat} {v : Int32} (d : decode cc pc = .ok (.ldc_w index, 3)) (hc : Cond.constant own index v ∈ TB) (k : GG x N cs sl lv (.int v :: st) S (pc + 3)) : GG x N cs sl lv (st) S pc :=
  fun α H locs ls h1 h2 => lv_ldcw C.1 C.2.1 C.2.2.1 (C.2.2.2.1 _ hc) d (k α H locs ls h1 h2)
theorem g_ldc2 {x : Cx} {cc : ByteArray} {own : String} {N cs sl : Nat} {lv st : List Value} {S : pv_M} {pc : Nat} (C : BX x cc own) {index : Nat} {v : Int64} (d : decode cc pc = .ok (.ldc2_w index, 3)) (hc : Cond.constantLong own index v ∈ TB) (k : GG x N cs sl lv (.long v :: st) S (pc + 3)) : GG x N cs sl lv (st) S pc :=
  fun α H locs ls h1 h2 => lv_ldc2 C.1 C.2.1 C.2.2.1 (C.2.2.2.1 _ hc) d (k α H locs ls h1 h2)
theorem g_dup {x : Cx} {cc : ByteArray} {own : String} {N cs sl : Nat} {lv st : List Value} {S : pv_M} {pc : Nat} (C : BX x cc own) {v : Value} (d : decode cc pc = .ok (.dup, 1)) (hv : v.category = 1 := by rfl) (k : GG x N cs sl lv (v :: v :: st) S (pc + 1)) : GG x N cs sl lv (v :: st) S pc :=
  fun α H locs ls h1 h2 => lv_dup C.1 C.2.1 d (by rw [tv_cat]; exact hv) (k α H locs ls h1 h2)
theorem g_pop {x : Cx} {cc : ByteArray} {own : String} {N cs sl : Nat} {lv st : List Value} {S : pv_M} {pc : Nat} (C : BX x cc own) {v : Value} (d : decode cc pc = .ok (.pop, 1)) (hv : v.category = 1 := by rfl) (k : GG x N cs sl lv st S (pc + 1)) : GG x N cs sl lv (v :: st) S pc :=
  fun α H locs ls h1 h2 => lv_pop C.1 C.2.1 d (by rw [tv_cat]; exact hv) (k α H locs ls h1 h2)
theorem g_dup2 {x : Cx} {cc : ByteArray} {own : String} {N cs sl : Nat} {lv st : List Value} {S : pv_M} {pc : Nat} (C : BX x cc own) {v w : Value} (d : decode cc pc = .ok (.dup2, 1)) (hv : v.category = 1 := by rfl) (hw : w.category = 1 := by rfl) (k : GG x N cs sl lv (v :: w :: v :: w :: st) S (pc + 1)) : GG x N cs sl lv (v :: w :: st) S pc :=
  fun α H locs ls h1 h2 => lv_dup2_11 C.1 C.2.1 d (by rw [tv_cat]; exact hv) (by rw [tv_cat]; exact hw) (k α H locs ls h1 h2)
theorem g_goto {x : Cx} {cc : ByteArray} {own : String} {N cs sl : Nat} {lv st : List Value} {S : pv_M} {pc : Nat} (C : BX x cc own) {off : Int} (tgt : Nat) (d : decode cc pc = .ok (.goto off, 3)) (ht : (pc : Int) + off = (tgt : Int) := by decide) (k : GG x N cs sl lv st S tgt) : GG x N cs sl lv st S pc :=
  fun α H locs ls h1 h2 => lv_goto C.1 C.2.1 d ht (k α H locs ls h1 h2)
theorem g_table {x : Cx} {cc : ByteArray} {own : String} {N cs sl : Nat} {lv st : List Value} {S : pv_M} {pc : Nat} (C : BX x cc own) {dflt lo hi : Int} {offs : Array Int} {len : Nat} {a : Int32} {off : Int} (tgt : Nat) (d : decode cc pc = .ok (.tableswitch dflt lo hi offs, len)) (q1 : ¬ a.toInt < lo) (q2 : ¬ hi < a.toInt) (ho : offs[(a.toInt - lo).toNat]? = some off) (ht : (pc : Int) + off = (tgt : Int)) (k : GG x N cs sl lv st S tgt) : GG x N cs sl lv (.int a :: st) S pc :=
  fun α H locs ls h1 h2 => lv_tableIn C.1 C.2.1 d q1 q2 ho ht (k α H locs ls h1 h2)
theorem g_tableX {x : Cx} {cc : ByteArray} {own : String} {N cs sl : Nat} {lv st : List Value} {S : pv_M} {pc : Nat} (C : BX x cc own) {dflt lo hi : Int} {offs : Array Int} {len : Nat} {a : Int32} (tgt : Nat) (d : decode cc pc = .ok (.tableswitch dflt lo hi offs, len)) (q1 : a.toInt < lo ∨ hi < a.toInt) (ht : (pc : Int) + dflt = (tgt : Int)) (k : GG x N cs sl lv st S tgt) : GG x N cs sl lv (.int a :: st) S pc :=
  fun α H locs ls h1 h2 => lv_tableOut C.1 C.2.1 d q1 ht (k α H locs ls h1 h2)
theorem g_if_eq {x : Cx} {cc : ByteArray} {own : String} {N cs sl : Nat} {lv st : List Value} {S : pv_M} {pc : Nat} (C : BX x cc own) {a : Int32} {off : Int} (tgt : Nat) (d : decode cc pc = .ok (.ifCond .eq off, 3)) (ht : (pc : Int) + off = (tgt : Int) := by decide) (kt : a = 0 → GG x N cs sl lv st S tgt) (kf : ¬ a = 0 → GG x N cs sl lv st S (pc + 3)) : GG x N cs sl lv (.int a :: st) S pc :=
  fun α H locs ls h1 h2 => lv_if_eq C.1 C.2.1 d ht (fun h => kt h α H locs ls h1 h2) (fun h => kf h α H locs ls h1 h2)
theorem g_if_ne {x : Cx} {cc : ByteArray} {own : String} {N cs sl : Nat} {lv st : List Value} {S : pv_M} {pc : Nat} (C : BX x cc own) {a : Int32} {off : Int} (tgt : Nat) (d : decode cc pc = .ok (.ifCond .ne off, 3)) (ht : (pc : Int) + off = (tgt : Int) := by decide) (kt : ¬ a = 0 → GG x N cs sl lv st S tgt) (kf : a = 0 → GG x N cs sl lv st S (pc + 3)) : GG x N cs sl lv (.int a :: st) S pc :=
  fun α H locs ls h1 h2 => lv_if_ne C.1 C.2.1 d ht (fun h => kt h α H locs ls h1 h2) (fun h => kf h α H locs ls h1 h2)
theorem g_if_lt {x : Cx} {cc : ByteArray} {own : String} {N cs sl : Nat} {lv st : List Value} {S : pv_M} {pc : Nat} (C : BX x cc own) {a : Int32} {off : Int} (tgt : Nat) (d : decode cc pc = .ok (.ifCond .lt off, 3)) (ht : (pc : Int) + off = (tgt : Int) := by decide) (kt : a < 0 → GG x N cs sl lv st S tgt) (kf : ¬ a < 0 → GG x N cs sl lv st S (pc + 3)) : GG x N cs sl lv (.int a :: st) S pc :=
  fun α H locs ls h1 h2 => lv_if_lt C.1 C.2.1 d ht (fun h => kt h α H locs ls h1 h2) (fun h => kf h α H locs ls h1 h2)
theorem g_if_ge {x : Cx} {cc : ByteArray} {own : String} {N cs sl : Nat} {lv st : List Value} {S : pv_M} {pc : Nat} (C : BX x cc own) {a : Int32} {off : Int} (tgt : Nat) (d : decode cc pc = .ok (.ifCond .ge off, 3)) (ht : (pc : Int) + off = (tgt : Int) := by decide) (kt : 0 ≤ a → GG x N cs sl lv st S tgt) (kf : ¬ 0 ≤ a → GG x N cs sl lv st S (pc + 3)) : GG x N cs sl lv (.int a :: st) S pc :=
  fun α H locs ls h1 h2 => lv_if_ge C.1 C.2.1 d ht (fun h => kt h α H locs ls h1 h2) (fun h => kf h α H locs ls h1 h2)
theorem g_if_gt {x : Cx} {cc : ByteArray} {own : String} {N cs sl : Nat} {lv st : List Value} {S : pv_M} {pc : Nat} (C : BX x cc own) {a : Int32} {off : Int} (tgt : Nat) (d : decode cc pc = .ok (.ifCond .gt off, 3)) (ht : (pc : Int) + off = (tgt : Int) := by decide) (kt : 0 < a → GG x N cs sl lv st S tgt) (kf : ¬ 0 < a → GG x N cs sl lv st S (pc + 3)) : GG x N cs sl lv (.int a :: st) S pc :=
  fun α H locs ls h1 h2 => lv_if_gt C.1 C.2.1 d ht (fun h => kt h α H locs ls h1 h2) (fun h => kf h α H locs ls h1 h2)
theorem g_if_le {x : Cx} {cc : ByteArray} {own : String} {N cs sl : Nat} {lv st : List Value} {S : pv_M} {pc : Nat} (C : BX x cc own) {a : Int32} {off : Int} (tgt : Nat) (d : decode cc pc = .ok (.ifCond .le off, 3)) (ht : (pc : Int) + off = (tgt : Int) := by decide) (kt : a ≤ 0 → GG x N cs sl lv st S tgt) (kf : ¬ a ≤ 0 → GG x N cs sl lv st S (pc + 3)) : GG x N cs sl lv (.int a :: st) S pc :=
  fun α H locs ls h1 h2 => lv_if_le C.1 C.2.1 d ht (fun h => kt h α H locs ls h1 h2) (fun h => kf h α H locs ls h1 h2)
theorem g_ic_eq {x : Cx} {cc : ByteArray} {own : String} {N cs sl : Nat} {lv st : List Value} {S : pv_M} {pc : Nat} (C : BX x cc own) {a b : Int32} {off : Int} (tgt : Nat) (d : decode cc pc = .ok (.if_icmp .eq off, 3)) (ht : (pc : Int) + off = (tgt : Int) := by decide) (kt : a = b → GG x N cs sl lv st S tgt) (kf : ¬ a = b → GG x N cs sl lv st S (pc + 3)) : GG x N cs sl lv (.int b :: .int a :: st) S pc :=
  fun α H locs ls h1 h2 => lv_icmp_eq C.1 C.2.1 d ht (fun h => kt h α H locs ls h1 h2) (fun h => kf h α H locs ls h1 h2)
theorem g_ic_ne {x : Cx} {cc : ByteArray} {own : String} {N cs sl : Nat} {lv st : List Value} {S : pv_M} {pc : Nat} (C : BX x cc own) {a b : Int32} {off : Int} (tgt : Nat) (d : decode cc pc = .ok (.if_icmp .ne off, 3)) (ht : (pc : Int) + off = (tgt : Int) := by decide) (kt : ¬ a = b → GG x N cs sl lv st S tgt) (kf : a = b → GG x N cs sl lv st S (pc + 3)) : GG x N cs sl lv (.int b :: .int a :: st) S pc :=
  fun α H locs ls h1 h2 => lv_icmp_ne C.1 C.2.1 d ht (fun h => kt h α H locs ls h1 h2) (fun h => kf h α H locs ls h1 h2)
theorem g_ic_lt {x : Cx} {cc : ByteArray} {own : String} {N cs sl : Nat} {lv st : List Value} {S : pv_M} {pc : Nat} (C : BX x cc own) {a b : Int32} {off : Int} (tgt : Nat) (d : decode cc pc = .ok (.if_icmp .lt off, 3)) (ht : (pc : Int) + off = (tgt : Int) := by decide) (kt : a < b → GG x N cs sl lv st S tgt) (kf : ¬ a < b → GG x N cs sl lv st S (pc + 3)) : GG x N cs sl lv (.int b :: .int a :: st) S pc :=
  fun α H locs ls h1 h2 => lv_icmp_lt C.1 C.2.1 d ht (fun h => kt h α H locs ls h1 h2) (fun h => kf h α H locs ls h1 h2)
theorem g_ic_ge {x : Cx} {cc : ByteArray} {own : String} {N cs sl : Nat} {lv st : List Value} {S : pv_M} {pc : Nat} (C : BX x cc own) {a b : Int32} {off : Int} (tgt : Nat) (d : decode cc pc = .ok (.if_icmp .ge off, 3)) (ht : (pc : Int) + off = (tgt : Int) := by decide) (kt : b ≤ a → GG x N cs sl lv st S tgt) (kf : ¬ b ≤ a → GG x N cs sl lv st S (pc + 3)) : GG x N cs sl lv (.int b :: .int a :: st) S pc :=
  fun α H locs ls h1 h2 => lv_icmp_ge C.1 C.2.1 d ht (fun h => kt h α H locs ls h1 h2) (fun h => kf h α H locs ls h1 h2)
theorem g_ic_gt {x : Cx} {cc : ByteArray} {own : String} {N cs sl : Nat} {lv st : List Value} {S : pv_M} {pc : Nat} (C : BX x cc own) {a b : Int32} {off : Int} (tgt : Nat) (d : decode cc pc = .ok (.if_icmp .gt off, 3)) (ht : (pc : Int) + off = (tgt : Int) := by decide) (kt : b < a → GG x N cs sl lv st S tgt) (kf : ¬ b < a → GG x N cs sl lv st S (pc + 3)) : GG x N cs sl lv (.int b :: .int a :: st) S pc :=
  fun α H locs ls h1 h2 => lv_icmp_gt C.1 C.2.1 d ht (fun h => kt h α H locs ls h1 h2) (fun h => kf h α H locs ls h1 h2)
theorem g_ic_le {x : Cx} {cc : ByteArray} {own : String} {N cs sl : Nat} {lv st : List Value} {S : pv_M} {pc : Nat} (C : BX x cc own) {a b : Int32} {off : Int} (tgt : Nat) (d : decode cc pc = .ok (.if_icmp .le off, 3)) (ht : (pc : Int) + off = (tgt : Int) := by decide) (kt : a ≤ b → GG x N cs sl lv st S tgt) (kf : ¬ a ≤ b → GG x N cs sl lv st S (pc + 3)) : GG x N cs sl lv (.int b :: .int a :: st) S pc :=
  fun α H locs ls h1 h2 => lv_icmp_le C.1 C.2.1 d ht (fun h => kt h α H locs ls h1 h2) (fun h => kf h α H locs ls h1 h2)
theorem g_iload_n {x : Cx} {cc : ByteArray} {own : String} {N cs sl : Nat} {lv st : List Value} {S : pv_M} {pc : Nat} (C : BX x cc own) {q : Fin 4} {a : Int32} (d : decode cc pc = .ok (.iload_n q, 1)) (hl : lv[(q : Nat)]? = some (.int a)) (k : GG x N cs sl lv (.int a :: st) S (pc + 1)) : GG x N cs sl lv st S pc :=
  fun α H locs ls h1 h2 => lv_iload_n C.1 C.2.1 d rfl (h2.2.2 _ _ hl (by intro h; cases h)) (k α H locs ls h1 h2)
theorem g_iload {x : Cx} {cc : ByteArray} {own : String} {N cs sl : Nat} {lv st : List Value} {S : pv_M} {pc : Nat} (C : BX x cc own) {q : Nat} {a : Int32} (d : decode cc pc = .ok (.iload q, 2)) (hl : lv[q]? = some (.int a)) (k : GG x N cs sl lv (.int a :: st) S (pc + 2)) : GG x N cs sl lv st S pc :=
  fun α H locs ls h1 h2 => lv_iload C.1 C.2.1 d (h2.2.2 _ _ hl (by intro h; cases h)) (k α H locs ls h1 h2)
theorem g_lload_n {x : Cx} {cc : ByteArray} {own : String} {N cs sl : Nat} {lv st : List Value} {S : pv_M} {pc : Nat} (C : BX x cc own) {q : Fin 4} {a : Int64} (d : decode cc pc = .ok (.lload_n q, 1)) (hl : lv[(q : Nat)]? = some (.long a)) (k : GG x N cs sl lv (.long a :: st) S (pc + 1)) : GG x N cs sl lv st S pc :=
  fun α H locs ls h1 h2 => lv_lload_n C.1 C.2.1 d rfl (h2.2.2 _ _ hl (by intro h; cases h)) (k α H locs ls h1 h2)
theorem g_lload {x : Cx} {cc : ByteArray} {own : String} {N cs sl : Nat} {lv st : List Value} {S : pv_M} {pc : Nat} (C : BX x cc own) {q : Nat} {a : Int64} (d : decode cc pc = .ok (.lload q, 2)) (hl : lv[q]? = some (.long a)) (k : GG x N cs sl lv (.long a :: st) S (pc + 2)) : GG x N cs sl lv st S pc :=
  fun α H locs ls h1 h2 => lv_lload C.1 C.2.1 d (h2.2.2 _ _ hl (by intro h; cases h)) (k α H locs ls h1 h2)
theorem g_fload_n {x : Cx} {cc : ByteArray} {own : String} {N cs sl : Nat} {lv st : List Value} {S : pv_M} {pc : Nat} (C : BX x cc own) {q : Fin 4} {a : UInt32} (d : decode cc pc = .ok (.fload_n q, 1)) (hl : lv[(q : Nat)]? = some (.float a)) (k : GG x N cs sl lv (.float a :: st) S (pc + 1)) : GG x N cs sl lv st S pc :=
  fun α H locs ls h1 h2 => lv_fload_n C.1 C.2.1 d rfl (h2.2.2 _ _ hl (by intro h; cases h)) (k α H locs ls h1 h2)
theorem g_fload {x : Cx} {cc : ByteArray} {own : String} {N cs sl : Nat} {lv st : List Value} {S : pv_M} {pc : Nat} (C : BX x cc own) {q : Nat} {a : UInt32} (d : decode cc pc = .ok (.fload q, 2)) (hl : lv[q]? = some (.float a)) (k : GG x N cs sl lv (.float a :: st) S (pc + 2)) : GG x N cs sl lv st S pc :=
  fun α H locs ls h1 h2 => lv_fload C.1 C.2.1 d (h2.2.2 _ _ hl (by intro h; cases h)) (k α H locs ls h1 h2)
theorem g_dload_n {x : Cx} {cc : ByteArray} {own : String} {N cs sl : Nat} {lv st : List Value} {S : pv_M} {pc : Nat} (C : BX x cc own) {q : Fin 4} {a : UInt64} (d : decode cc pc = .ok (.dload_n q, 1)) (hl : lv[(q : Nat)]? = some (.double a)) (k : GG x N cs sl lv (.double a :: st) S (pc + 1)) : GG x N cs sl lv st S pc :=
  fun α H locs ls h1 h2 => lv_dload_n C.1 C.2.1 d rfl (h2.2.2 _ _ hl (by intro h; cases h)) (k α H locs ls h1 h2)
theorem g_dload {x : Cx} {cc : ByteArray} {own : String} {N cs sl : Nat} {lv st : List Value} {S : pv_M} {pc : Nat} (C : BX x cc own) {q : Nat} {a : UInt64} (d : decode cc pc = .ok (.dload q, 2)) (hl : lv[q]? = some (.double a)) (k : GG x N cs sl lv (.double a :: st) S (pc + 2)) : GG x N cs sl lv st S pc :=
  fun α H locs ls h1 h2 => lv_dload C.1 C.2.1 d (h2.2.2 _ _ hl (by intro h; cases h)) (k α H locs ls h1 h2)
theorem g_aload_n {x : Cx} {cc : ByteArray} {own : String} {N cs sl : Nat} {lv st : List Value} {S : pv_M} {pc : Nat} (C : BX x cc own) {q : Fin 4} {a : Nat} (d : decode cc pc = .ok (.aload_n q, 1)) (hl : lv[(q : Nat)]? = some (.ref a)) (k : GG x N cs sl lv (.ref a :: st) S (pc + 1)) : GG x N cs sl lv st S pc :=
  fun α H locs ls h1 h2 => lv_aload_n C.1 C.2.1 d rfl (h2.2.2 _ _ hl (by intro h; cases h)) (k α H locs ls h1 h2)
theorem g_aload {x : Cx} {cc : ByteArray} {own : String} {N cs sl : Nat} {lv st : List Value} {S : pv_M} {pc : Nat} (C : BX x cc own) {q : Nat} {a : Nat} (d : decode cc pc = .ok (.aload q, 2)) (hl : lv[q]? = some (.ref a)) (k : GG x N cs sl lv (.ref a :: st) S (pc + 2)) : GG x N cs sl lv st S pc :=
  fun α H locs ls h1 h2 => lv_aload C.1 C.2.1 d (h2.2.2 _ _ hl (by intro h; cases h)) (k α H locs ls h1 h2)
theorem g_sload_n {x : Cx} {cc : ByteArray} {own : String} {N cs sl : Nat} {lv st : List Value} {S : pv_M} {pc : Nat} (C : BX x cc own) {q : Fin 4} (d : decode cc pc = .ok (.aload_n q, 1)) (hl : lv[(q : Nat)]? = some (.retAddr 1)) (k : GG x N cs sl lv (.retAddr 1 :: st) S (pc + 1)) : GG x N cs sl lv st S pc :=
  fun α H locs ls h1 h2 => lv_aload_n (x := xb x) C.1 C.2.1 d rfl (h2.2.2 _ _ hl (by intro h; cases h)) (k α H locs ls h1 h2)
/-- the locals as the kit has them -/
def lp (b : Nat) (α : Nat → Nat) (lv : List Value) : List (Nat × Value) := (lv.zipIdx).filterMap fun q => if q.1 = unk then none else some (q.2, tv b α q.1)
theorem lp_mem {b : Nat} {α : Nat → Nat} {lv : List Value} {q : Nat × Value} : q ∈ lp b α lv ↔ ∃ v, lv[q.1]? = some v ∧ v ≠ unk ∧ q.2 = tv b α v := by
  unfold lp
  rw [List.mem_filterMap]
  constructor
  · rintro ⟨⟨v, i⟩, h1, h2⟩
    have h3 := List.mem_zipIdx_iff_getElem?.mp h1
    by_cases hu : v = unk
    · simp [hu] at h2
    · simp only [hu, if_false] at h2
      cases h2
      exact ⟨v, by simpa using h3, hu, rfl⟩
  · rintro ⟨v, h1, h2, h3⟩
    refine ⟨(v, q.1), List.mem_zipIdx_iff_getElem?.mpr (by simpa using h1), ?_⟩
    simp only [h2, if_false]
    rw [← h3]
theorem LR.has {x : Cx} {α : Nat → Nat} {lv : List Value} {ls : Array Slot} (h : LR x α lv ls) : lv_has ls (xc x).maxLocals (lp (xb x) α lv) := by
  refine ⟨h.1, h.2.1, fun q hq => ?_⟩
  obtain ⟨v, h1, h2, h3⟩ := lp_mem.mp hq
  rw [h3]
  exact h.2.2 _ _ h1 h2
theorem sv_at {lv : List Value} {i j : Nat} {v w : Value} (h : (sv lv i v)[j]? = some w) (hw : w ≠ unk) : (j = i ∧ w = v) ∨ (j ≠ i ∧ lv[j]? = some w ∧ ¬ (j + 1 = i ∧ w.category = 2)) := by
  unfold sv at h
  by_cases hj : j = i
  · subst hj
    rw [List.getElem?_set_self' ] at h
    cases h9 : (List.map (fun q => if q.2 + 1 = j ∧ q.1.category = 2 then unk else q.1) lv.zipIdx)[j]? with
    | none => rw [h9] at h; cases h
    | some z => rw [h9] at h; cases h; exact Or.inl ⟨rfl, rfl⟩
  · rw [List.getElem?_set_ne (fun q => hj q.symm), List.getElem?_map, List.getElem?_zipIdx] at h
    cases h9 : lv[j]? with
    | none => rw [h9] at h; cases h
    | some z =>
      rw [h9] at h
      simp only [Option.map_some, Nat.zero_add] at h
      by_cases hc : j + 1 = i ∧ z.category = 2
      · rw [if_pos hc] at h
        exact absurd (Option.some.inj h).symm hw
      · rw [if_neg hc] at h
        cases h
        exact Or.inr ⟨hj, rfl, hc⟩
theorem LR.st1 {x : Cx} {α : Nat → Nat} {lv : List Value} {ls' : Array Slot} {i : Nat} {v : Value} (h : lv_has ls' (xc x).maxLocals ((i, tv (xb x) α v) :: (lp (xb x) α lv).filter (fun q => !(q.1 == i) && !(q.1 + 1 == i && q.2.category == 2)))) : LR x α (sv lv i v) ls' := by
  refine ⟨h.1, h.2.1, fun j w hj hw => ?_⟩
  rcases sv_at hj hw with ⟨rfl, rfl⟩ | ⟨h1, h2, h3⟩
  · exact h.2.2 _ List.mem_cons_self
  · refine h.2.2 (j, tv (xb x) α w) (List.mem_cons_of_mem _ (List.mem_filter.mpr ⟨lp_mem.mpr ⟨w, h2, hw, rfl⟩, ?_⟩))
    simp only [Bool.and_eq_true, Bool.not_eq_true', beq_eq_false_iff_ne, ne_eq, Bool.and_eq_false_iff]
    refine ⟨h1, ?_⟩
    by_cases q : j + 1 = i
    · exact Or.inr (fun z => h3 ⟨q, (tv_cat (xb x) α w).symm.trans z⟩)
    · exact Or.inl q
theorem LR.st2 {x : Cx} {α : Nat → Nat} {lv : List Value} {ls' : Array Slot} {i : Nat} {v : Value} (h : lv_has ls' (xc x).maxLocals ((i, tv (xb x) α v) :: (lp (xb x) α lv).filter (fun q => !(q.1 == i) && (!(q.1 == i + 1) && !(q.1 + 1 == i && q.2.category == 2))))) : LR x α (sv2 lv i v) ls' := by
  refine ⟨h.1, h.2.1, fun j w hj hw => ?_⟩
  unfold sv2 at hj
  by_cases hj2 : j = i + 1
  · subst hj2
    rw [List.getElem?_set_self'] at hj
    cases h9 : (sv lv i v)[i + 1]? with
    | none => rw [h9] at hj; cases hj
    | some z => rw [h9] at hj; exact absurd (Option.some.inj hj).symm hw
  · rw [List.getElem?_set_ne (fun q => hj2 q.symm)] at hj
    rcases sv_at hj hw with ⟨rfl, rfl⟩ | ⟨h1, h2, h3⟩
    · exact h.2.2 _ List.mem_cons_self
    · refine h.2.2 (j, tv (xb x) α w) (List.mem_cons_of_mem _ (List.mem_filter.mpr ⟨lp_mem.mpr ⟨w, h2, hw, rfl⟩, ?_⟩))
      simp only [Bool.and_eq_true, Bool.not_eq_true', beq_eq_false_iff_ne, ne_eq, Bool.and_eq_false_iff]
      refine ⟨h1, hj2, ?_⟩
      by_cases q : j + 1 = i
      · exact Or.inr (fun z => h3 ⟨q, (tv_cat (xb x) α w).symm.trans z⟩)
      · exact Or.inl q
theorem g_istore_n {x : Cx} {cc : ByteArray} {own : String} {N cs sl : Nat} {lv st : List Value} {S : pv_M} {pc : Nat} (C : BX x cc own) {q : Fin 4} {a : Int32} (hm : (q : Nat) < (xc x).maxLocals) (d : decode cc pc = .ok (.istore_n q, 1)) (lv' : List Value) (hl : sv lv q (.int a) = lv' := by rfl) (k : GG x N cs sl lv' st S (pc + 1)) : GG x N cs sl lv (.int a :: st) S pc := by
  intro α H locs ls h1 h2
  subst hl
  exact lv_istore_n C.1 C.2.1 d rfl h2.has hm rfl fun ls' h9 => k α H locs ls' h1 (LR.st1 (v := .int a) h9)
theorem g_istore {x : Cx} {cc : ByteArray} {own : String} {N cs sl : Nat} {lv st : List Value} {S : pv_M} {pc : Nat} (C : BX x cc own) {q : Nat} {a : Int32} (hm : q < (xc x).maxLocals) (d : decode cc pc = .ok (.istore q, 2)) (lv' : List Value) (hl : sv lv q (.int a) = lv' := by rfl) (k : GG x N cs sl lv' st S (pc + 2)) : GG x N cs sl lv (.int a :: st) S pc := by
  intro α H locs ls h1 h2
  subst hl
  exact lv_istore C.1 C.2.1 d h2.has hm rfl fun ls' h9 => k α H locs ls' h1 (LR.st1 (v := .int a) h9)
theorem g_fstore_n {x : Cx} {cc : ByteArray} {own : String} {N cs sl : Nat} {lv st : List Value} {S : pv_M} {pc : Nat} (C : BX x cc own) {q : Fin 4} {a : UInt32} (hm : (q : Nat) < (xc x).maxLocals) (d : decode cc pc = .ok (.fstore_n q, 1)) (lv' : List Value) (hl : sv lv q (.float a) = lv' := by rfl) (k : GG x N cs sl lv' st S (pc + 1)) : GG x N cs sl lv (.float a :: st) S pc := by
  intro α H locs ls h1 h2
  subst hl
  exact lv_fstore_n C.1 C.2.1 d rfl h2.has hm rfl fun ls' h9 => k α H locs ls' h1 (LR.st1 (v := .float a) h9)
theorem g_fstore {x : Cx} {cc : ByteArray} {own : String} {N cs sl : Nat} {lv st : List Value} {S : pv_M} {pc : Nat} (C : BX x cc own) {q : Nat} {a : UInt32} (hm : q < (xc x).maxLocals) (d : decode cc pc = .ok (.fstore q, 2)) (lv' : List Value) (hl : sv lv q (.float a) = lv' := by rfl) (k : GG x N cs sl lv' st S (pc + 2)) : GG x N cs sl lv (.float a :: st) S pc := by
  intro α H locs ls h1 h2
  subst hl
  exact lv_fstore C.1 C.2.1 d h2.has hm rfl fun ls' h9 => k α H locs ls' h1 (LR.st1 (v := .float a) h9)
theorem g_astore_n {x : Cx} {cc : ByteArray} {own : String} {N cs sl : Nat} {lv st : List Value} {S : pv_M} {pc : Nat} (C : BX x cc own) {q : Fin 4} {a : Nat} (hm : (q : Nat) < (xc x).maxLocals) (d : decode cc pc = .ok (.astore_n q, 1)) (lv' : List Value) (hl : sv lv q (.ref a) = lv' := by rfl) (k : GG x N cs sl lv' st S (pc + 1)) : GG x N cs sl lv (.ref a :: st) S pc := by
  intro α H locs ls h1 h2
  subst hl
  exact lv_astore_n C.1 C.2.1 d rfl h2.has hm rfl fun ls' h9 => k α H locs ls' h1 (LR.st1 (v := .ref a) h9)
theorem g_astore {x : Cx} {cc : ByteArray} {own : String} {N cs sl : Nat} {lv st : List Value} {S : pv_M} {pc : Nat} (C : BX x cc own) {q : Nat} {a : Nat} (hm : q < (xc x).maxLocals) (d : decode cc pc = .ok (.astore q, 2)) (lv' : List Value) (hl : sv lv q (.ref a) = lv' := by rfl) (k : GG x N cs sl lv' st S (pc + 2)) : GG x N cs sl lv (.ref a :: st) S pc := by
  intro α H locs ls h1 h2
  subst hl
  exact lv_astore C.1 C.2.1 d h2.has hm rfl fun ls' h9 => k α H locs ls' h1 (LR.st1 (v := .ref a) h9)
theorem g_lstore_n {x : Cx} {cc : ByteArray} {own : String} {N cs sl : Nat} {lv st : List Value} {S : pv_M} {pc : Nat} (C : BX x cc own) {q : Fin 4} {a : Int64} (hm : (q : Nat) + 1 < (xc x).maxLocals) (d : decode cc pc = .ok (.lstore_n q, 1)) (lv' : List Value) (hl : sv2 lv q (.long a) = lv' := by rfl) (k : GG x N cs sl lv' st S (pc + 1)) : GG x N cs sl lv (.long a :: st) S pc := by
  intro α H locs ls h1 h2
  subst hl
  exact lv_lstore_n C.1 C.2.1 d rfl h2.has hm rfl fun ls' h9 => k α H locs ls' h1 (LR.st2 (v := .long a) h9)
theorem g_lstore {x : Cx} {cc : ByteArray} {own : String} {N cs sl : Nat} {lv st : List Value} {S : pv_M} {pc : Nat} (C : BX x cc own) {q : Nat} {a : Int64} (hm : q + 1 < (xc x).maxLocals) (d : decode cc pc = .ok (.lstore q, 2)) (lv' : List Value) (hl : sv2 lv q (.long a) = lv' := by rfl) (k : GG x N cs sl lv' st S (pc + 2)) : GG x N cs sl lv (.long a :: st) S pc := by
  intro α H locs ls h1 h2
  subst hl
  exact lv_lstore C.1 C.2.1 d h2.has hm rfl fun ls' h9 => k α H locs ls' h1 (LR.st2 (v := .long a) h9)
theorem g_dstore_n {x : Cx} {cc : ByteArray} {own : String} {N cs sl : Nat} {lv st : List Value} {S : pv_M} {pc : Nat} (C : BX x cc own) {q : Fin 4} {a : UInt64} (hm : (q : Nat) + 1 < (xc x).maxLocals) (d : decode cc pc = .ok (.dstore_n q, 1)) (lv' : List Value) (hl : sv2 lv q (.double a) = lv' := by rfl) (k : GG x N cs sl lv' st S (pc + 1)) : GG x N cs sl lv (.double a :: st) S pc := by
  intro α H locs ls h1 h2
  subst hl
  exact lv_dstore_n C.1 C.2.1 d rfl h2.has hm rfl fun ls' h9 => k α H locs ls' h1 (LR.st2 (v := .double a) h9)
theorem g_dstore {x : Cx} {cc : ByteArray} {own : String} {N cs sl : Nat} {lv st : List Value} {S : pv_M} {pc : Nat} (C : BX x cc own) {q : Nat} {a : UInt64} (hm : q + 1 < (xc x).maxLocals) (d : decode cc pc = .ok (.dstore q, 2)) (lv' : List Value) (hl : sv2 lv q (.double a) = lv' := by rfl) (k : GG x N cs sl lv' st S (pc + 2)) : GG x N cs sl lv (.double a :: st) S pc := by
  intro α H locs ls h1 h2
  subst hl
  exact lv_dstore C.1 C.2.1 d h2.has hm rfl fun ls' h9 => k α H locs ls' h1 (LR.st2 (v := .double a) h9)
theorem g_iinc {x : Cx} {cc : ByteArray} {own : String} {N cs sl : Nat} {lv st : List Value} {S : pv_M} {pc : Nat} (C : BX x cc own) {q : Nat} {n : Int} {a : Int32} (hm : q < (xc x).maxLocals) (d : decode cc pc = .ok (.iinc q n, 3)) (h : lv[q]? = some (.int a)) (lv' : List Value) (hl : sv lv q (.int (a + Int32.ofInt n)) = lv' := by rfl) (k : GG x N cs sl lv' st S (pc + 3)) : GG x N cs sl lv st S pc := by
  intro α H locs ls h1 h2
  subst hl
  obtain ⟨z, hz⟩ := List.getElem?_of_mem (lp_mem (b := xb x) (α := α) (q := (q, .int a)) |>.mpr ⟨_, h, (by intro h; cases h), rfl⟩)
  exact lv_iinc C.1 C.2.1 d h2.has hz rfl hm rfl fun ls' h9 => k α H locs ls' h1 (LR.st1 (v := .int (a + Int32.ofInt n)) h9)
/-- fewer locals are known -/
theorem g_less {x : Cx} {N cs sl : Nat} {lv st : List Value} {S : pv_M} {pc : Nat} (lv' : List Value) (h : ∀ (i : Nat) (v : Value), lv'[i]? = some v → v = unk ∨ lv[i]? = some v) (k : GG x N cs sl lv' st S pc) : GG x N cs sl lv st S pc :=
  fun α H locs ls h1 h2 => k α H locs ls h1 ⟨h2.1, h2.2.1, fun i v hi hv => by
    rcases h i v hi with h | h
    · exact absurd h hv
    · exact h2.2.2 i v h hv⟩
def lessB : List Value → List Value → Bool
  | [], _ => true
  | a :: l, [] => decide (a = unk) && lessB l []
  | a :: l, b :: r => (decide (a = unk) || decide (a = b)) && lessB l r
theorem g_widen {x : Cx} {N cs sl : Nat} {lv st : List Value} {S : pv_M} {pc : Nat} {cs' sl' : Nat} (h1 : cs ≤ cs') (h2 : sl ≤ sl') (k : GG x N cs' sl' lv st S pc) : GG x N cs sl lv st S pc :=
  fun α H locs ls q1 q2 => W.widen h1 h2 (k α H locs ls q1 q2)
end
section
/-! rows that read and write cells -/
theorem pv_small {r t n : Nat} (h : pv_sh r = .inr (t, n)) : n < 2 ^ 31 := by
  have key : ∀ q ∈ pv_shl, (match q with | .inl _ => true | .inr (_, n) => decide (n < 2 ^ 31)) = true := by decide +kernel
  unfold pv_sh at h
  rw [List.getD_eq_getElem?_getD] at h
  cases h9 : pv_shl[r]? with
  | none =>
    rw [h9] at h
    cases h
    decide
  | some z =>
    rw [h9] at h
    have h1 := key _ (List.mem_of_getElem? h9)
    simp only [Option.getD_some] at h
    rw [h] at h1
    simpa using h1
theorem pv_cell_a {ay : Nat → ClassId} {α : Nat → Nat} {S : pv_M} {r t n : Nat} (h : pv_sh r = .inr (t, n)) : pv_cell ay α S r = .inl (ay t, n, pv_arr α S r t) := by simp [pv_cell, h]
theorem pv_cell_o {ay : Nat → ClassId} {α : Nat → Nat} {S : pv_M} {r ci : Nat} (h : pv_sh r = .inl ci) : pv_cell ay α S r = .inr (ci, (List.range (pv_nf ci)).map fun k => pv_v α S r k (pv_ft ci k)) := by simp [pv_cell, h]
theorem pv_wd_a {ay : Nat → ClassId} {α : Nat → Nat} {S : pv_M} {N r t n : Nat} (hr : r < N) (h : pv_sh r = .inr (t, n)) : (pv_wd ay α N S)[r]? = some (α r, .inl (ay t, n, pv_arr α S r t)) := by rw [pv_wd_at ay α S hr, pv_cell_a h]
theorem pv_wd_o {ay : Nat → ClassId} {α : Nat → Nat} {S : pv_M} {N r ci : Nat} (hr : r < N) (h : pv_sh r = .inl ci) : (pv_wd ay α N S)[r]? = some (α r, .inr (ci, (List.range (pv_nf ci)).map fun k => pv_v α S r k (pv_ft ci k))) := by rw [pv_wd_at ay α S hr, pv_cell_o h]
section HR
variable {x : Cx} {cc : ByteArray} {own : String} {N cs sl : Nat} {lv st : List Value} {S : pv_M} {pc : Nat}
theorem g_iald (C : BX x cc own) {r n j : Nat} {i : Int32} (d : decode cc pc = .ok (.iaload, 1)) (hs : pv_sh r = .inr (0, n)) (hr : r < N) (hj : j < n) (hi : i = nI j) (k : GG x N cs sl lv (.int (mI S r j) :: st) S (pc + 1)) : GG x N cs sl lv (.int i :: .ref r :: st) S pc := by
  intro α H locs ls h1 h2
  subst hi
  refine va_iald C.1 C.2.1 C.2.2.2.2.1 h1.1 r 0 (pv_wd_a hr hs) rfl (vp_in_nI hj (pv_small hs)) d ?_
  rw [nI_clamp (Nat.lt_trans hj (pv_small hs))]
  exact k α H locs ls h1 h2
theorem g_zald (C : BX x cc own) {r n j : Nat} {i : Int32} (d : decode cc pc = .ok (.baload, 1)) (hs : pv_sh r = .inr (4, n)) (hr : r < N) (hj : j < n) (hi : i = nI j) (k : GG x N cs sl lv (.int (mI S r j) :: st) S (pc + 1)) : GG x N cs sl lv (.int i :: .ref r :: st) S pc := by
  intro α H locs ls h1 h2
  subst hi
  refine va_zald C.1 C.2.1 C.2.2.2.2.1 h1.1 r 4 (pv_wd_a hr hs) rfl (vp_in_nI hj (pv_small hs)) d ?_
  rw [nI_clamp (Nat.lt_trans hj (pv_small hs))]
  exact k α H locs ls h1 h2
theorem g_lald (C : BX x cc own) {r n j : Nat} {i : Int32} (d : decode cc pc = .ok (.laload, 1)) (hs : pv_sh r = .inr (1, n)) (hr : r < N) (hj : j < n) (hi : i = nI j) (k : GG x N cs sl lv (.long (mJ S r j) :: st) S (pc + 1)) : GG x N cs sl lv (.int i :: .ref r :: st) S pc := by
  intro α H locs ls h1 h2
  subst hi
  refine va_lald C.1 C.2.1 C.2.2.2.2.1 h1.1 r 1 (pv_wd_a hr hs) rfl (vp_in_nI hj (pv_small hs)) d ?_
  rw [nI_clamp (Nat.lt_trans hj (pv_small hs))]
  exact k α H locs ls h1 h2
theorem g_fald (C : BX x cc own) {r n j : Nat} {i : Int32} (d : decode cc pc = .ok (.faload, 1)) (hs : pv_sh r = .inr (2, n)) (hr : r < N) (hj : j < n) (hi : i = nI j) (k : GG x N cs sl lv (.float (mF S r j) :: st) S (pc + 1)) : GG x N cs sl lv (.int i :: .ref r :: st) S pc := by
  intro α H locs ls h1 h2
  subst hi
  refine va_fald C.1 C.2.1 C.2.2.2.2.1 h1.1 r 2 (pv_wd_a hr hs) rfl (vp_in_nI hj (pv_small hs)) d ?_
  rw [nI_clamp (Nat.lt_trans hj (pv_small hs))]
  exact k α H locs ls h1 h2
theorem g_dald (C : BX x cc own) {r n j : Nat} {i : Int32} (d : decode cc pc = .ok (.daload, 1)) (hs : pv_sh r = .inr (3, n)) (hr : r < N) (hj : j < n) (hi : i = nI j) (k : GG x N cs sl lv (.double (mD S r j) :: st) S (pc + 1)) : GG x N cs sl lv (.int i :: .ref r :: st) S pc := by
  intro α H locs ls h1 h2
  subst hi
  refine va_dald C.1 C.2.1 C.2.2.2.2.1 h1.1 r 3 (pv_wd_a hr hs) rfl (vp_in_nI hj (pv_small hs)) d ?_
  rw [nI_clamp (Nat.lt_trans hj (pv_small hs))]
  exact k α H locs ls h1 h2
theorem g_aald (C : BX x cc own) {r n j t q : Nat} {i : Int32} (d : decode cc pc = .ok (.aaload, 1)) (hs : pv_sh r = .inr (t, n)) (ht : t = 5 ∨ t = 6) (hr : r < N) (hj : j < n) (hi : i = nI j) (hq : mR S r j = some q) (k : GG x N cs sl lv (.ref q :: st) S (pc + 1)) : GG x N cs sl lv (.int i :: .ref r :: st) S pc := by
  intro α H locs ls h1 h2
  subst hi
  have h9 : va_rf ((fun k => (mR S r k).map α) (nI j).toNatClampNeg) = .ref (α q) := by
    rw [nI_clamp (Nat.lt_trans hj (pv_small hs))]
    simp only [hq]
    rfl
  rcases ht with rfl | rfl
  · refine va_aldq (f := fun k => (mR S r k).map α) C.1 C.2.1 C.2.2.2.2.1 h1.1 r 5 (pv_wd_a hr hs) rfl (vp_in_nI hj (pv_small hs)) d ?_
    rw [h9]
    exact k α H locs ls h1 h2
  · refine va_aldq (f := fun k => (mR S r k).map α) C.1 C.2.1 C.2.2.2.2.1 h1.1 r 6 (pv_wd_a hr hs) rfl (vp_in_nI hj (pv_small hs)) d ?_
    rw [h9]
    exact k α H locs ls h1 h2
/-- a change of one cell's contents: the world behind it -/
theorem RW.set {α : Nat → Nat} {H H1 : Heap} {locs locs1 : List Loc} {S S' : pv_M} {r : Nat} {c : va_E} (h1 : RW x N α S H locs) (hr : r < N) (hs : ∀ j, j ≠ r → pv_cell (xy x) α S' j = pv_cell (xy x) α S j) (hc : pv_cell (xy x) α S' r = c) (hok : pv_ok N S') (hP : va_P (xD x) pv_cl ((pv_wd (xy x) α N S).set r (α r, c)) H1) (hD : va_D (xA x) ((pv_wd (xy x) α N S).set r (α r, c))) (hS : va_S (xA x) (xs x).heap H1 locs1) : RW x N α S' H1 locs1 := by
  rw [pv_wd_set (xy x) α hr hs hc] at hP hD
  exact ⟨hP, hD, hS, hok, h1.2.2.2.2⟩
theorem upd_up {f : Nat → Int32} {k : Nat} {a : Int32} : upd f k a = va_up f k a := rfl
theorem updL_up {f : Nat → Int64} {k : Nat} {a : Int64} : vp_updL f k a = va_up f k a := rfl
theorem updF_up {α : Type} {f : Nat → α} {k : Nat} {a : α} : vf_upd f k a = va_up f k a := rfl
theorem up_same {α : Type} {f : Nat → α} {k : Nat} {a : α} : va_up f k a k = a := by simp [va_up]
theorem g_iast (C : BX x cc own) {r n j : Nat} {i a : Int32} (d : decode cc pc = .ok (.iastore, 1)) (hs : pv_sh r = .inr (0, n)) (hr : r < N) (hj : j < n) (hi : i = nI j) (k : GG x N cs sl lv st (wI S r (va_up (mI S r) j a)) (pc + 1)) : GG x N cs sl lv (.int a :: .int i :: .ref r :: st) S pc := by
  intro α H locs ls h1 h2
  subst hi
  refine va_iast C.1 C.2.1 C.2.2.2.2.1 h1.1 h1.2.1 h1.2.2.1 r 0 (pv_wd_a hr hs) rfl (vp_in_nI hj (pv_small hs)) d (fun H1 locs1 hP hD hS => ?_)
  rw [nI_clamp (Nat.lt_trans hj (pv_small hs))] at hP hD
  exact k α H1 locs1 ls (h1.set hr (pv_cell_wI _ _ _ _ _) (by rw [pv_cell_a hs]; simp only [pv_arr, mI, wI, up_same]; rfl) h1.2.2.2.1 hP hD hS) h2
theorem g_zast (C : BX x cc own) {r n j : Nat} {i a : Int32} (d : decode cc pc = .ok (.bastore, 1)) (hs : pv_sh r = .inr (4, n)) (hr : r < N) (hj : j < n) (hi : i = nI j) (ha : vp_nar .boolean a = a) (k : GG x N cs sl lv st (wI S r (va_up (mI S r) j a)) (pc + 1)) : GG x N cs sl lv (.int a :: .int i :: .ref r :: st) S pc := by
  intro α H locs ls h1 h2
  subst hi
  refine va_zast C.1 C.2.1 C.2.2.2.2.1 h1.1 h1.2.1 h1.2.2.1 r 4 (pv_wd_a hr hs) rfl (vp_in_nI hj (pv_small hs)) d (fun H1 locs1 hP hD hS => ?_)
  rw [nI_clamp (Nat.lt_trans hj (pv_small hs)), ha] at hP hD
  exact k α H1 locs1 ls (h1.set hr (pv_cell_wI _ _ _ _ _) (by rw [pv_cell_a hs]; simp only [pv_arr, mI, wI, up_same]; rfl) h1.2.2.2.1 hP hD hS) h2
theorem g_last (C : BX x cc own) {r n j : Nat} {i : Int32} {a : Int64} (d : decode cc pc = .ok (.lastore, 1)) (hs : pv_sh r = .inr (1, n)) (hr : r < N) (hj : j < n) (hi : i = nI j) (k : GG x N cs sl lv st (wJ S r (va_up (mJ S r) j a)) (pc + 1)) : GG x N cs sl lv (.long a :: .int i :: .ref r :: st) S pc := by
  intro α H locs ls h1 h2
  subst hi
  refine va_last C.1 C.2.1 C.2.2.2.2.1 h1.1 h1.2.1 h1.2.2.1 r 1 (pv_wd_a hr hs) rfl (vp_in_nI hj (pv_small hs)) d (fun H1 locs1 hP hD hS => ?_)
  rw [nI_clamp (Nat.lt_trans hj (pv_small hs))] at hP hD
  exact k α H1 locs1 ls (h1.set hr (pv_cell_wJ _ _ _ _ _) (by rw [pv_cell_a hs]; simp only [pv_arr, mJ, wJ, up_same]; rfl) h1.2.2.2.1 hP hD hS) h2
theorem g_fast (C : BX x cc own) {r n j : Nat} {i : Int32} {a : UInt32} (d : decode cc pc = .ok (.fastore, 1)) (hs : pv_sh r = .inr (2, n)) (hr : r < N) (hj : j < n) (hi : i = nI j) (k : GG x N cs sl lv st (wF S r (va_up (mF S r) j a)) (pc + 1)) : GG x N cs sl lv (.float a :: .int i :: .ref r :: st) S pc := by
  intro α H locs ls h1 h2
  subst hi
  refine va_fast C.1 C.2.1 C.2.2.2.2.1 h1.1 h1.2.1 h1.2.2.1 r 2 (pv_wd_a hr hs) rfl (vp_in_nI hj (pv_small hs)) d (fun H1 locs1 hP hD hS => ?_)
  rw [nI_clamp (Nat.lt_trans hj (pv_small hs))] at hP hD
  exact k α H1 locs1 ls (h1.set hr (pv_cell_wF _ _ _ _ _) (by rw [pv_cell_a hs]; simp only [pv_arr, mF, wF, up_same]; rfl) h1.2.2.2.1 hP hD hS) h2
theorem g_dast (C : BX x cc own) {r n j : Nat} {i : Int32} {a : UInt64} (d : decode cc pc = .ok (.dastore, 1)) (hs : pv_sh r = .inr (3, n)) (hr : r < N) (hj : j < n) (hi : i = nI j) (k : GG x N cs sl lv st (wD S r (va_up (mD S r) j a)) (pc + 1)) : GG x N cs sl lv (.double a :: .int i :: .ref r :: st) S pc := by
  intro α H locs ls h1 h2
  subst hi
  refine va_dast C.1 C.2.1 C.2.2.2.2.1 h1.1 h1.2.1 h1.2.2.1 r 3 (pv_wd_a hr hs) rfl (vp_in_nI hj (pv_small hs)) d (fun H1 locs1 hP hD hS => ?_)
  rw [nI_clamp (Nat.lt_trans hj (pv_small hs))] at hP hD
  exact k α H1 locs1 ls (h1.set hr (pv_cell_wD _ _ _ _ _) (by rw [pv_cell_a hs]; simp only [pv_arr, mD, wD, up_same]; rfl) h1.2.2.2.1 hP hD hS) h2
end HR
/-! fields -/
def KO (ci : Nat) (q : vw_C) : Prop := pv_cl[ci]? = some q ∧ q.2.2 = pv_nf ci ∧ (∀ w ∈ u_ws q.1 q.2.1 q.2.2, w ∈ TB) ∧ (∀ j, j < q.2.2 → parseFieldDescriptor (q.2.1 j).2.2.1 = some (pv_ft ci j)) ∧ ∀ a, a < q.2.2 → ∀ b, b < q.2.2 → a ≠ b → (q.2.1 a).2.1 ≠ (q.2.1 b).2.1
/-- the field k of class ci, by the number idx in the table of constants of the class own -/
def FO (own : String) (idx ci k : Nat) (fin : Bool) : Prop := ∃ q : vw_C, KO ci q ∧ k < q.2.2 ∧ (Cond.fieldLink own idx (q.2.1 k).1 (q.2.1 k).2.1 (q.2.1 k).2.2.1 ∈ TB ∨ ∃ host, Cond.fieldLinkNest own idx (q.2.1 k).1 (q.2.1 k).2.1 (q.2.1 k).2.2.1 host ∈ NB) ∧ (q.2.1 k).2.2.2 = fin ∧ (q.2.1 k).1 = q.1
theorem tb_all (ws : List Cond) (ps : List Nat) (hp : ws = ps.filterMap (fun i => lw_tbl[i]?)) (h : ws.all goodWord = true) : ∀ w ∈ ws, w ∈ TB := by
  intro w hw
  have h1 := List.all_eq_true.mp h w hw
  rw [hp] at hw
  obtain ⟨i, -, hi⟩ := List.mem_filterMap.mp hw
  exact tb_in i hi h1
theorem pv_fs {α : Nat → Nat} {S S' : pv_M} {r ci kk n : Nat} {v : Value} (h1 : ∀ j, j ≠ kk → pv_v α S' r j (pv_ft ci j) = pv_v α S r j (pv_ft ci j)) (h2 : pv_v α S' r kk (pv_ft ci kk) = v) : ((List.range n).map fun j => pv_v α S r j (pv_ft ci j)).set kk v = (List.range n).map fun j => pv_v α S' r j (pv_ft ci j) := by
  apply List.ext_getElem?
  intro j
  by_cases hj : j = kk
  · subst hj
    by_cases hn : j < n
    · rw [List.getElem?_set_self (by simpa using hn)]
      simp [hn, h2]
    · rw [List.getElem?_eq_none (by simpa using hn), List.getElem?_eq_none (by simpa using hn)]
  · rw [List.getElem?_set_ne (fun q => hj q.symm), List.getElem?_map, List.getElem?_map]
    cases h9 : (List.range n)[j]? with
    | none => rfl
    | some z =>
      obtain ⟨h10, h11⟩ := List.getElem?_eq_some_iff.mp h9
      rw [List.getElem_range] at h11
      subst h11
      simp only [Option.map_some, h1 j hj]
section HF
variable {x : Cx} {cc : ByteArray} {own : String} {N cs sl : Nat} {lv st : List Value} {S : pv_M} {pc : Nat}
theorem g_get (C : BX x cc own) {idx ci kk r : Nat} {fin : Bool} (F : FO own idx ci kk fin) {v : Value} (d : decode cc pc = .ok (.getfield idx, 3)) (hs : pv_sh r = .inl ci) (hr : r < N) (hv : ∀ α, pv_v α S r kk (pv_ft ci kk) = tv (xb x) α v) (k : GG x N cs sl lv (v :: st) S (pc + 3)) : GG x N cs sl lv (.ref r :: st) S pc := by
  intro α H locs ls h1 h2
  obtain ⟨⟨Cn, T, n⟩, ⟨k1, k2, k3, k4, k5⟩, hk, hl, -, -⟩ := F
  have hfs : ((List.range (pv_nf ci)).map fun j => pv_v α S r j (pv_ft ci j))[kk]? = some (tv (xb x) α v) := by
    have hk' : kk < pv_nf ci := by rw [← k2]; exact hk
    simp [hk', hv α]
  rcases hl with hl | ⟨host, hl⟩
  · exact va_get C.1 C.2.1 C.2.2.2.1 k3 C.2.2.1 C.2.2.2.2.1 h1.1 r (pv_wd_o hr hs) k1 kk hk (C.2.2.2.1 _ hl) (fun _ h9 => h9) hfs d (k α H locs ls h1 h2)
  · exact va_getN C.1 C.2.1 C.2.2.2.1 k3 C.2.2.1 C.2.2.2.2.1 h1.1 r (pv_wd_o hr hs) k1 kk hk (va_Nw.use (nb_on hl) (C.2.2.2.2.2.2.2.2.2.1 _ hl)) (fun _ h9 => h9) hfs d (k α H locs ls h1 h2)
theorem g_getR (C : BX x cc own) {idx ci kk r : Nat} {fin : Bool} (F : FO own idx ci kk fin) {q : Nat} (d : decode cc pc = .ok (.getfield idx, 3)) (hs : pv_sh r = .inl ci) (hr : r < N) (ht : ∀ α, pv_v α S r kk (pv_ft ci kk) = va_rf ((mR S r kk).map α)) (hq : mR S r kk = some q) (k : GG x N cs sl lv (.ref q :: st) S (pc + 3)) : GG x N cs sl lv (.ref r :: st) S pc :=
  g_get C F (v := .ref q) d hs hr (fun α => by rw [ht, hq]; rfl) k
theorem g_put (C : BX x cc own) {idx ci kk r : Nat} (F : FO own idx ci kk false) {v : Value} {S' : pv_M} (d : decode cc pc = .ok (.putfield idx, 3)) (hs : pv_sh r = .inl ci) (hr : r < N) (hn : ∀ α, narrow (pv_ft ci kk) (tv (xb x) α v) = tv (xb x) α v) (hfit : ∀ α, fits (pv_ft ci kk) (tv (xb x) α v) = true)
    (q1 : ∀ α j, j ≠ r → pv_cell (xy x) α S' j = pv_cell (xy x) α S j) (q2 : ∀ α j, j ≠ kk → pv_v α S' r j (pv_ft ci j) = pv_v α S r j (pv_ft ci j)) (q3 : ∀ α, pv_v α S' r kk (pv_ft ci kk) = tv (xb x) α v) (hok : pv_ok N S → pv_ok N S') (k : GG x N cs sl lv st S' (pc + 3)) : GG x N cs sl lv (v :: .ref r :: st) S pc := by
  intro α H locs ls h1 h2
  obtain ⟨⟨Cn, T, n⟩, ⟨k1, k2, k3, k4, k5⟩, hk, hl, hfin, -⟩ := F
  have hlen : kk < ((List.range (pv_nf ci)).map fun j => pv_v α S r j (pv_ft ci j)).length := by
    simp only [List.length_map, List.length_range]
    rw [← k2]; exact hk
  have hc : pv_cell (xy x) α S' r = .inr (ci, ((List.range (pv_nf ci)).map fun j => pv_v α S r j (pv_ft ci j)).set kk (tv (xb x) α v)) := by
    rw [pv_cell_o hs, pv_fs (q2 α) (q3 α)]
  rcases hl with hl | ⟨host, hl⟩
  · exact va_put C.1 C.2.1 C.2.2.2.1 k3 (pv_ft ci) k4 k5 C.2.2.1 C.2.2.2.2.1 h1.1 h1.2.1 h1.2.2.1 r (pv_wd_o hr hs) k1 kk hk (C.2.2.2.1 _ hl) (fun _ h9 => h9) hfin (k4 kk hk) (hn α) (hfit α) hlen d (fun H1 locs1 hP hD hS => k α H1 locs1 ls (h1.set hr (q1 α) hc (hok h1.2.2.2.1) hP hD hS) h2)
  · exact va_putN C.1 C.2.1 C.2.2.2.1 k3 (pv_ft ci) k4 k5 C.2.2.1 C.2.2.2.2.1 h1.1 h1.2.1 h1.2.2.1 r (pv_wd_o hr hs) k1 kk hk (va_Nw.use (nb_on hl) (C.2.2.2.2.2.2.2.2.2.1 _ hl)) (fun _ h9 => h9) hfin (k4 kk hk) (hn α) (hfit α) hlen d (fun H1 locs1 hP hD hS => k α H1 locs1 ls (h1.set hr (q1 α) hc (hok h1.2.2.2.1) hP hD hS) h2)
theorem pv_v_wI {α : Nat → Nat} {r kk : Nat} {a : Int32} {ty : FieldType} {j : Nat} (hj : j ≠ kk) : pv_v α (wI S r (va_up (mI S r) kk a)) r j ty = pv_v α S r j ty := by
  cases ty <;> simp [pv_v, mI, mJ, mF, mD, mR, wI, va_up, hj]
theorem pv_v_wJ {α : Nat → Nat} {r kk : Nat} {a : Int64} {ty : FieldType} {j : Nat} (hj : j ≠ kk) : pv_v α (wJ S r (va_up (mJ S r) kk a)) r j ty = pv_v α S r j ty := by
  cases ty <;> simp [pv_v, mI, mJ, mF, mD, mR, wJ, va_up, hj]
theorem pv_v_wR {α : Nat → Nat} {r kk : Nat} {a : Option Nat} {ty : FieldType} {j : Nat} (hj : j ≠ kk) : pv_v α (wR S r (va_up (mR S r) kk a)) r j ty = pv_v α S r j ty := by
  cases ty <;> simp [pv_v, mI, mJ, mF, mD, mR, wR, va_up, hj]
theorem g_putI (C : BX x cc own) {idx ci kk r : Nat} (F : FO own idx ci kk false) {a : Int32} (d : decode cc pc = .ok (.putfield idx, 3)) (hs : pv_sh r = .inl ci) (hr : r < N) (ht : pv_ft ci kk = .int) (k : GG x N cs sl lv st (wI S r (va_up (mI S r) kk a)) (pc + 3)) : GG x N cs sl lv (.int a :: .ref r :: st) S pc :=
  g_put C F d hs hr (fun α => by rw [ht]; rfl) (fun α => by rw [ht]; rfl) (fun α => pv_cell_wI _ _ _ _ _) (fun α j hj => pv_v_wI hj) (fun α => by rw [ht]; simp [pv_v, mI, wI, va_up, tv]) (fun h => h) k
theorem g_putZ (C : BX x cc own) {idx ci kk r : Nat} (F : FO own idx ci kk false) {a : Int32} (d : decode cc pc = .ok (.putfield idx, 3)) (hs : pv_sh r = .inl ci) (hr : r < N) (ht : pv_ft ci kk = .boolean) (ha : a = 0 ∨ a = 1) (k : GG x N cs sl lv st (wI S r (va_up (mI S r) kk a)) (pc + 3)) : GG x N cs sl lv (.int a :: .ref r :: st) S pc :=
  g_put C F d hs hr (fun α => by rw [ht]; rcases ha with rfl | rfl <;> rfl) (fun α => by rw [ht]; rcases ha with rfl | rfl <;> rfl) (fun α => pv_cell_wI _ _ _ _ _) (fun α j hj => pv_v_wI hj) (fun α => by rw [ht]; simp [pv_v, mI, wI, va_up, tv]) (fun h => h) k
theorem g_putJ (C : BX x cc own) {idx ci kk r : Nat} (F : FO own idx ci kk false) {a : Int64} (d : decode cc pc = .ok (.putfield idx, 3)) (hs : pv_sh r = .inl ci) (hr : r < N) (ht : pv_ft ci kk = .long) (k : GG x N cs sl lv st (wJ S r (va_up (mJ S r) kk a)) (pc + 3)) : GG x N cs sl lv (.long a :: .ref r :: st) S pc :=
  g_put C F d hs hr (fun α => by rw [ht]; rfl) (fun α => by rw [ht]; rfl) (fun α => pv_cell_wJ _ _ _ _ _) (fun α j hj => pv_v_wJ hj) (fun α => by rw [ht]; simp [pv_v, mJ, wJ, va_up, tv]) (fun h => h) k
theorem pv_ok_wR {r kk q : Nat} (hq : q < N) (h : pv_ok N S) : pv_ok N (wR S r (va_up (mR S r) kk (some q))) := by
  intro i hi k' r' h'
  simp only [mR, wR, va_up] at h'
  by_cases h1 : i = r
  · rw [if_pos h1] at h'
    by_cases h2 : k' = kk
    · simp only [va_up] at h'
      rw [if_pos h2] at h'
      cases h'
      exact hq
    · simp only [va_up] at h'
      rw [if_neg h2] at h'
      exact h r (by rw [← h1]; exact hi) k' r' h'
  · rw [if_neg h1] at h'
    exact h i hi k' r' h'
theorem g_putR (C : BX x cc own) {idx ci kk r q : Nat} (F : FO own idx ci kk false) (d : decode cc pc = .ok (.putfield idx, 3)) (hs : pv_sh r = .inl ci) (hr : r < N) (hq : q < N) (ht : (∃ cn, pv_ft ci kk = .object cn) ∨ ∃ ty, pv_ft ci kk = .array ty) (k : GG x N cs sl lv st (wR S r (va_up (mR S r) kk (some q))) (pc + 3)) : GG x N cs sl lv (.ref q :: .ref r :: st) S pc :=
  g_put C F d hs hr (fun α => by rcases ht with ⟨cn, ht⟩ | ⟨ty, ht⟩ <;> rw [ht] <;> rfl) (fun α => by rcases ht with ⟨cn, ht⟩ | ⟨ty, ht⟩ <;> rw [ht] <;> rfl) (fun α => pv_cell_wR _ _ _ _ _) (fun α j hj => pv_v_wR hj) (fun α => by rcases ht with ⟨cn, ht⟩ | ⟨ty, ht⟩ <;> rw [ht] <;> simp [pv_v, mR, wR, va_up, tv, va_rf]) (pv_ok_wR hq) k
end HF
end
section
/-! contracts over the pure state, and calls -/
abbrev Me : Type := MethodName × ByteArray × Nat × Option FieldType × Room
abbrev Me.y (M : Me) : MethodName := M.1
abbrev Me.cc (M : Me) : ByteArray := M.2.1
abbrev Me.nL (M : Me) : Nat := M.2.2.1
abbrev Me.ret (M : Me) : Option FieldType := M.2.2.2.1
abbrev Me.rm (M : Me) : Room := M.2.2.2.2
abbrev Me.ws (M : Me) : List Cond := .code M.y M.cc M.nL M.ret :: TB
def PU (D : va_G) (ay : Nat → ClassId) (α : Nat → Nat) (N : Nat) (S : pv_M) (U : State) : Prop := va_P D pv_cl (pv_wd ay α N S) U.heap ∧ va_K D pv_cl (pv_tys ay) U ∧ va_D (fun _ => True) (pv_wd ay α N S) ∧ pv_ok N S ∧ BU (va_A (pv_wd ay α N S) U.heap.size) U U.heap
def QcX (D : va_G) (ay : Nat → ClassId) (b : Nat) (α : Nat → Nat) (N : Nat) (A : Nat → Prop) (post : Option Value → pv_M → Prop) : Array Value → State → Outcome → State → Prop := fun _ st o t =>
  (∃ (r : Option Value) (S' : pv_M), o = .returned (r.map (tv b α)) ∧ post r S' ∧ va_P D pv_cl (pv_wd ay α N S') t.heap ∧ va_D A (pv_wd ay α N S') ∧ pv_ok N S') ∧ va_F A st t
/-- a method's contract: called with As at the state S it returns, with an answer and a state that post allows; no cell comes -/
def mt (l : Launch) (M : Me) (N : Nat) (As : List Value) (S : pv_M) (post : Option Value → pv_M → Prop) : Prop :=
  ∀ (D : va_G) (ay : Nat → ClassId) (b : Nat) (α : Nat → Nat) (sz : Nat), Met l M.y M.ws M.rm (va_Pc (As.map (tv b α)) (fun U => U.heap.size = sz ∧ PU D ay α N S U)) (QcX D ay b α N (va_A (pv_wd ay α N S) sz) post) M.rm.cells M.rm.slots (va_A (pv_wd ay α N S) sz)
/-- the end that a body owes -/
def EX (x : Cx) (N : Nat) (ret : Option FieldType) (post : Option Value → pv_M → Prop) : Prop :=
  x.2.2.1.1.sig.returnType = ret ∧ x.2.2.1.1.locks = false ∧ xQ x = MQ x.2.1.2.2.2 (QcX (xD x) (xy x) (xb x) (xal x) N (xA x) post) (xa x) (xs x) (xR x).cells (xR x).slots (xA x) ∧ xN x = N
def lv0 : List Value → List Value
  | [] => []
  | v :: r => if v.category = 2 then v :: unk :: lv0 r else v :: lv0 r
def lvN (n : Nat) (As : List Value) : List Value := lv0 As ++ List.replicate (n - (lv0 As).length) unk
theorem lv0_at (b : Nat) (α : Nat → Nat) : ∀ (As : List Value) (o i : Nat) (v : Value), (lv0 As)[i]? = some v → v ≠ unk → (o + i, tv b α v) ∈ lv_args o (As.map (tv b α))
  | [], o, i, v, h, _ => by simp [lv0] at h
  | w :: r, o, i, v, h, hu => by
    unfold lv0 at h
    by_cases hc : w.category = 2
    · rw [if_pos hc] at h
      cases i with
      | zero =>
        simp at h
        subst h
        exact List.mem_cons_self
      | succ i =>
        cases i with
        | zero => simp at h; exact absurd h.symm hu
        | succ i =>
          simp only [List.getElem?_cons_succ] at h
          have := lv0_at b α r (o + 2) i v h hu
          simp only [List.map_cons, lv_args, tv_cat, hc, if_true]
          rw [show o + (i + 1 + 1) = o + 2 + i by omega]
          exact List.mem_cons_of_mem _ this
    · rw [if_neg hc] at h
      cases i with
      | zero =>
        simp at h
        subst h
        exact List.mem_cons_self
      | succ i =>
        simp only [List.getElem?_cons_succ] at h
        have := lv0_at b α r (o + 1) i v h hu
        simp only [List.map_cons, lv_args, tv_cat, hc, if_false]
        rw [show o + (i + 1) = o + 1 + i by omega]
        exact List.mem_cons_of_mem _ this
theorem lg_sl_tv (b : Nat) (α : Nat → Nat) : ∀ As : List Value, (lg_sl (As.map (tv b α))).length = (lg_sl As).length
  | [] => rfl
  | v :: r => by
    have := lg_sl_tv b α r
    simp only [lg_sl, List.map_cons, List.flatMap_cons, List.length_append, tv_cat] at this ⊢
    rw [this]
    by_cases hc : v.category = 2 <;> simp [hc]
theorem pv_wd_congr {ay : Nat → ClassId} {α β : Nat → Nat} {N : Nat} {S : pv_M} (h : ∀ i, i < N → α i = β i) (hok : pv_ok N S) : pv_wd ay α N S = pv_wd ay β N S := by
  have hr : ∀ i, i < N → ∀ k, (mR S i k).map α = (mR S i k).map β := by
    intro i hi k
    cases h9 : mR S i k with
    | none => rfl
    | some r => simp only [Option.map_some, h r (hok i hi k r h9)]
  unfold pv_wd
  apply List.map_congr_left
  intro i hi
  have hi := List.mem_range.mp hi
  rw [h i hi]
  congr 1
  unfold pv_cell
  cases pv_sh i with
  | inl ci =>
    simp only
    congr 2
    apply List.map_congr_left
    intro k _
    cases pv_ft ci k <;> simp only [pv_v, hr i hi k]
  | inr q =>
    simp only
    congr 2
    unfold pv_arr
    split <;> try rfl
    simp only [hr i hi]
theorem BU.go {A B : Nat → Prop} {s U : State} {H0 H : Heap} {locs : List Loc} (h : BU A s H0) (hS : va_S A H0 H locs) (hW : s.WarmedH U.vm) (hAB : ∀ q, B q → A q) : BU B U H := by
  obtain ⟨h1, h2, h3, h4, h5, h6⟩ := h
  refine ⟨((h1.kept (fun q q1 q2 => hS.2.1 q q1 q2)).moved hW.alike).narrow hAB, ((h2.kept (fun q q1 q2 => hS.2.1 q q1 q2)).moved hW.alike).narrow hAB, fun q hq => ?_, fun w hw => nb_warm hw hW (h4 w hw), h5.moved hW.alike, h6.moved hW.alike⟩
  obtain ⟨a, ha⟩ := h3 q hq
  exact ⟨a, vk_R.warm hW ha⟩
theorem PU.blind (D : va_G) (ay : Nat → ClassId) (α : Nat → Nat) (N : Nat) (S : pv_M) (av : List Value) (sz : Nat) : FrameBlind (va_Pc av (fun U => U.heap.size = sz ∧ PU D ay α N S U)) := by
  intro a U g mk q
  obtain ⟨q0, q1, qP, qK, qD, qo, z1, z2, z3, z4, z5, z6⟩ := q
  refine ⟨q0, q1, qP, va_K.moved (u := U) (U := U.calling g mk a) (Vm.Alike.refl U.vm) qK, qD, qo, z1.moved (u := U) (U := U.calling g mk a) (Vm.Alike.refl U.vm), z2.moved (u := U) (U := U.calling g mk a) (Vm.Alike.refl U.vm), fun q hq => ?_, fun w hw => va_Nw.same (nb_on hw) (u := U) rfl (z4 w hw), z5.moved (u := U) (U := U.calling g mk a) (Vm.Alike.refl U.vm), z6.moved (u := U) (U := U.calling g mk a) (Vm.Alike.refl U.vm)⟩
  obtain ⟨a, ha⟩ := z3 q hq
  exact ⟨a, vk_R.same (u := U) rfl ha⟩
section CO
variable {x : Cx} {cc : ByteArray} {own : String} {N cs sl : Nat} {lv st : List Value} {S : pv_M} {pc : Nat}
theorem RW.A {α : Nat → Nat} {H : Heap} {locs : List Loc} (C : BX x cc own) (h1 : RW x N α S H locs) : ∀ q, va_A (pv_wd (xy x) α N S) H.size q → xA x q := by
  intro q h
  rcases h with ⟨k, e, h⟩ | h
  · exact h1.2.1.2 k _ h
  · exact C.2.2.2.2.2.1 q (Nat.le_trans h1.2.2.1.1 h)
theorem RW.PU {α : Nat → Nat} {H : Heap} {locs : List Loc} (C : BX x cc own) (h1 : RW x N α S H locs) {U : State} (hU : U.heap = H) (hW : (xs x).WarmedH U.vm) : U.heap.size = H.size ∧ PU (xD x) (xy x) α N S U := by
  refine ⟨by rw [hU], by rw [hU]; exact h1.1, va_K.moved hW.alike C.2.2.2.2.1, ⟨h1.2.1.1, fun _ _ _ => trivial⟩, h1.2.2.2.1, ?_⟩
  rw [hU]
  exact C.2.2.2.2.2.2.go h1.2.2.1 hW (h1.A C)
theorem run_go {p : Program} {l : Launch} {e : Env} {R : Room} {s : State} {m : MethodId} {args : Array Value} {below : List Frame} {meth : Method} {c : Code} {H : Heap} {locs : List Loc} {cells slots : Nat} {Q : State → Prop} {mc ms : Nat} {ls : Array Slot} {st0 rest : List Value} {a : Array Value} {A0 A1 : Nat → Prop} {H0 : Heap} {free : Addr → Prop} {D : va_G} {ay : Nat → ClassId} {b : Nat} {α : Nat → Nat} {post : Option Value → pv_M → Prop}
    (hr : va_Run p l e R s m args below meth c H locs cells slots mc ms (F0 m pc ls st0) rest (QcX D ay b α N A1 post a) free) (hS : va_S A0 H0 H locs) (hA : ∀ q, A1 q → A0 q) (hf : ∀ q, free q → A0 q)
    (kk : ∀ (r : Option Value) (S' : pv_M) (H1 : Heap) (locs1 : List Loc), post r S' → va_P D pv_cl (pv_wd ay α N S') H1 → va_D A1 (pv_wd ay α N S') → pv_ok N S' → va_S A0 H0 H1 locs1 → W p l e R s m args below meth c H1 locs1 (cells + mc) (slots + ms) Q (F0 m (pc + 3) ls ((r.map (tv b α)).toList ++ rest))) : W p l e R s m args below meth c H locs cells slots Q (F0 m pc ls st0) := by
  intro T hT X
  obtain ⟨v, st₀, t, T', L, h0, X', hL, e1, e2, ⟨⟨r, S', hv, hp, hP, hD, hok⟩, hz, hk⟩, st⟩ := hr T hT X
  cases hv
  rw [h0] at hz hk
  obtain ⟨t2, a1, b1⟩ := kk r S' T'.heap (locs ++ L) hp (by rw [e1]; exact hP) hD hok
    ⟨Nat.le_trans hS.1 (by rw [e1]; exact hz), fun q h1 h2 => by rw [e1, hk q (Nat.lt_of_lt_of_le h1 hS.1) (fun z => h2 (hA q z))]; exact hS.2.1 q h1 h2, fun q hq => by
      rcases List.mem_append.mp hq with h | h
      · exact hS.2.2 q h
      · exact hf _ (hL q h)⟩ T' rfl X'
  exact ⟨t2, st t2 a1, b1⟩
/-- a virtual call of a method of the very class of the receiver -/
def VO (own : String) (idx ci : Nat) (M : Me) (n : Nat) : Prop := ∃ q : vw_C, pv_cl[ci]? = some q ∧ (∀ w ∈ ([.methodLink own idx M.y, .instanceMethod M.y, .selects q.1 M.y M.y, .initialized q.1, .code M.y M.cc M.nL M.ret] : List Cond), w ∈ TB) ∧ (M.y.cls = q.1 ∧ M.y.cls ≠ "java/lang/invoke/MethodHandle" ∧ M.y.cls ≠ "java/lang/invoke/VarHandle" ∧ (parseMethodDescriptor M.y.desc).map (fun d => d.parameters.length) = some n)
def SO (own : String) (idx : Nat) (M : Me) (n : Nat) : Prop := (∀ w ∈ ([.methodLink own idx M.y, .static M.y, .initialized M.y.cls, .code M.y M.cc M.nL M.ret] : List Cond), w ∈ TB) ∧ (M.y.cls ≠ "java/lang/invoke/MethodHandle" ∧ M.y.cls ≠ "java/lang/invoke/VarHandle" ∧ (parseMethodDescriptor M.y.desc).map (fun d => d.parameters.length) = some n)
/-- a call through the abstract class: z is the method as it is named there -/
def UO (own : String) (idx ci : Nat) (z : MethodName) (M : Me) (n : Nat) : Prop := ∃ q : vw_C, pv_cl[ci]? = some q ∧ (∀ w ∈ ([.methodLink own idx z, .sameMethod z.cls z.cls z.name z.desc, .selects q.1 z M.y, .instanceMethod M.y, .initialized M.y.cls, .code M.y M.cc M.nL M.ret] : List Cond), w ∈ TB) ∧ Cond.declares ⟨z.cls, z.name, z.desc⟩ ∈ NB ∧ (z.cls ≠ "java/lang/invoke/MethodHandle" ∧ z.cls ≠ "java/lang/invoke/VarHandle" ∧ (parseMethodDescriptor z.desc).map (fun d => d.parameters.length) = some n)
def rmOk (M : Me) (x : Cx) (cs sl : Nat) : Prop := (M.rm.frames + 1 ≤ (xR x).frames ∧ 8 + (M.nL + 11) + M.rm.locals ≤ (xR x).locals) ∧ cs + M.rm.cells ≤ (xR x).cells ∧ sl + M.rm.slots ≤ (xR x).slots
theorem tb_code {w : Cond} {Ts : List Cond} {args : Array Value} {s : State} (h : ∀ w ∈ TB, w.before args s = true) (hw : w ∈ TB) : w.before args s = true := h w hw
theorem tb_gi {ws : List Cond} (h : ∀ w ∈ ws, w ∈ TB) : GoodIn TB ws := fun w hw => ⟨h w hw, tb_good (h w hw)⟩
theorem Me.gi {M : Me} (h : Cond.code M.y M.cc M.nL M.ret ∈ TB) : ∀ w ∈ M.ws, w ∈ TB := fun w hw => (List.mem_cons.mp hw).elim (fun e => by rw [e]; exact h) id
theorem tv_cats (b : Nat) (α : Nat → Nat) (st : List Value) : ((st.map (tv b α)).map fun v => v.category) = st.map fun v => v.category := by
  rw [List.map_map]
  exact List.map_congr_left fun v _ => tv_cat b α v
theorem g_callV (C : BX x cc own) {M : Me} {idx ci r n : Nat} {As stk : List Value} {post : Option Value → pv_M → Prop} (hM : mt x.1.2.1 M N (.ref r :: As) S post) (L : VO own idx ci M n) (d : decode cc pc = .ok (.invokevirtual idx, 3)) (hstk : stk = As.reverse ++ .ref r :: st) (hs : pv_sh r = .inl ci) (hr : r < N) (hn : As.length = n) (hrm : rmOk M x cs sl) (hst : (st.map fun v => v.category).sum ≤ 8)
    (k : ∀ (v : Option Value) (S' : pv_M), post v S' → GG x N (cs + M.rm.cells) (sl + M.rm.slots) lv (v.toList ++ st) S' (pc + 3)) : GG x N cs sl lv stk S pc := by
  intro α H locs ls h1 h2
  obtain ⟨⟨Cn, T, nn⟩, hcl, hw, hd⟩ := L
  have hG : GoodIn TB (wsV own idx Cn M.y M.ws) := tb_gi fun w h => by
    rcases List.mem_append.mp h with h | h
    · exact hw w (by simp only [List.mem_cons, List.not_mem_nil, or_false] at h ⊢; rcases h with h | h | h | h <;> simp [h])
    · exact Me.gi (hw _ (by simp)) w h
  have e0 : stk.map (tv (xb x) α) = (As.map (tv (xb x) α)).reverse ++ .ref (α r) :: st.map (tv (xb x) α) := by
    rw [hstk, List.map_append, List.map_reverse]
    rfl
  refine run_go (N := N) (D := xD x) (ay := xy x) (b := xb x) (α := α) (post := post) (va_runV (C := Cn) (b := α r) (As := As.map (tv (xb x) α)) (rest := st.map (tv (xb x) α)) ⟨C.1, C.2.1, h2.1.symm, C.2.2.1, C.2.2.2.1⟩ (hM (xD x) (xy x) (xb x) α H.size) (cwV n C.2.2.2.1 hG rfl rfl rfl hd hrm.1) ⟨PU.blind _ _ _ _ _ _ _, va_recv C.2.2.2.2.1 h1.1 hcl (pv_wd_o hr hs), fun U hU hW => ⟨rfl, h1.PU C hU hW⟩⟩ rfl (by rw [List.length_map]; exact hn) rfl e0 (lv_room (by rw [tv_cats]; exact hst)) d hrm.2) h1.2.2.1 (h1.A C) (h1.A C) (fun v S' H1 locs1 hp hP hD hok hS => ?_)
  have e1 : (v.map (tv (xb x) α)).toList ++ st.map (tv (xb x) α) = (v.toList ++ st).map (tv (xb x) α) := by cases v <;> simp
  rw [e1]
  exact k v S' hp α H1 locs1 ls ⟨hP, hD.weaken (fun _ _ _ h => h1.A C _ h), hS, hok, h1.2.2.2.2⟩ h2
theorem g_callS (C : BX x cc own) {M : Me} {idx n : Nat} {As stk : List Value} {post : Option Value → pv_M → Prop} (hM : mt x.1.2.1 M N As S post) (L : SO own idx M n) (d : decode cc pc = .ok (.invokestatic idx, 3)) (hstk : stk = As.reverse ++ st) (hn : As.length = n) (hrm : rmOk M x cs sl) (hst : (st.map fun v => v.category).sum ≤ 8)
    (k : ∀ (v : Option Value) (S' : pv_M), post v S' → GG x N (cs + M.rm.cells) (sl + M.rm.slots) lv (v.toList ++ st) S' (pc + 3)) : GG x N cs sl lv stk S pc := by
  intro α H locs ls h1 h2
  obtain ⟨hw, hd⟩ := L
  have hG : GoodIn TB (va_wsS own idx M.y M.ws) := tb_gi fun w h => by
    rcases List.mem_append.mp h with h | h
    · exact hw w (by simp only [List.mem_cons, List.not_mem_nil, or_false] at h ⊢; rcases h with h | h | h <;> simp [h])
    · exact Me.gi (hw _ (by simp)) w h
  have e0 : stk.map (tv (xb x) α) = (As.map (tv (xb x) α)).reverse ++ st.map (tv (xb x) α) := by
    rw [hstk, List.map_append, List.map_reverse]
  refine run_go (N := N) (D := xD x) (ay := xy x) (b := xb x) (α := α) (post := post) (va_runS (As := As.map (tv (xb x) α)) (rest := st.map (tv (xb x) α)) ⟨C.1, C.2.1, h2.1.symm, C.2.2.1, C.2.2.2.1⟩ (hM (xD x) (xy x) (xb x) α H.size) (va_cwS n C.2.2.2.1 hG rfl rfl rfl hd hrm.1) ⟨PU.blind _ _ _ _ _ _ _, fun U hU hW => ⟨rfl, h1.PU C hU hW⟩⟩ rfl (by rw [List.length_map]; exact hn) rfl e0 (lv_room (by rw [tv_cats]; exact hst)) d hrm.2) h1.2.2.1 (h1.A C) (h1.A C) (fun v S' H1 locs1 hp hP hD hok hS => ?_)
  have e1 : (v.map (tv (xb x) α)).toList ++ st.map (tv (xb x) α) = (v.toList ++ st).map (tv (xb x) α) := by cases v <;> simp
  rw [e1]
  exact k v S' hp α H1 locs1 ls ⟨hP, hD.weaken (fun _ _ _ h => h1.A C _ h), hS, hok, h1.2.2.2.2⟩ h2
theorem g_callU (C : BX x cc own) {M : Me} {z : MethodName} {idx ci r n : Nat} {As stk : List Value} {post : Option Value → pv_M → Prop} (hM : mt x.1.2.1 M N (.ref r :: As) S post) (L : UO own idx ci z M n) (d : decode cc pc = .ok (.invokevirtual idx, 3)) (hstk : stk = As.reverse ++ .ref r :: st) (hs : pv_sh r = .inl ci) (hr : r < N) (hn : As.length = n) (hrm : rmOk M x cs sl) (hst : (st.map fun v => v.category).sum ≤ 8)
    (k : ∀ (v : Option Value) (S' : pv_M), post v S' → GG x N (cs + M.rm.cells) (sl + M.rm.slots) lv (v.toList ++ st) S' (pc + 3)) : GG x N cs sl lv stk S pc := by
  intro α H locs ls h1 h2
  obtain ⟨⟨Cn, T, nn⟩, hcl, hw, hdc, hd⟩ := L
  have hG : GoodIn TB (va_wsU own idx Cn z.cls z M.y M.ws) := tb_gi fun w h => by
    rcases List.mem_append.mp h with h | h
    · exact hw w (by simp only [List.mem_cons, List.not_mem_nil, or_false] at h ⊢; rcases h with h | h | h | h | h <;> simp [h])
    · exact Me.gi (hw _ (by simp)) w h
  have e0 : stk.map (tv (xb x) α) = (As.map (tv (xb x) α)).reverse ++ .ref (α r) :: st.map (tv (xb x) α) := by
    rw [hstk, List.map_append, List.map_reverse]
    rfl
  refine run_go (N := N) (D := xD x) (ay := xy x) (b := xb x) (α := α) (post := post) (va_runU (C := Cn) (b := α r) (As := As.map (tv (xb x) α)) (rest := st.map (tv (xb x) α)) ⟨C.1, C.2.1, h2.1.symm, C.2.2.1, C.2.2.2.1⟩ (hM (xD x) (xy x) (xb x) α H.size) (va_cwA n C.2.2.2.1 hG rfl rfl rfl (C.2.2.2.2.2.2.2.2.2.1 _ hdc) hd hrm.1) ⟨PU.blind _ _ _ _ _ _ _, va_recv C.2.2.2.2.1 h1.1 hcl (pv_wd_o hr hs), fun U hU hW => ⟨rfl, h1.PU C hU hW⟩⟩ rfl (by rw [List.length_map]; exact hn) rfl e0 (lv_room (by rw [tv_cats]; exact hst)) d hrm.2) h1.2.2.1 (h1.A C) (h1.A C) (fun v S' H1 locs1 hp hP hD hok hS => ?_)
  have e1 : (v.map (tv (xb x) α)).toList ++ st.map (tv (xb x) α) = (v.toList ++ st).map (tv (xb x) α) := by cases v <;> simp
  rw [e1]
  exact k v S' hp α H1 locs1 ls ⟨hP, hD.weaken (fun _ _ _ h => h1.A C _ h), hS, hok, h1.2.2.2.2⟩ h2
theorem RW.end {α : Nat → Nat} {H : Heap} {locs : List Loc} (h1 : RW x N α S H locs) (hN : xN x = N) : va_P (xD x) pv_cl (pv_wd (xy x) (xal x) N S) H ∧ va_D (xA x) (pv_wd (xy x) (xal x) N S) := by
  rw [← pv_wd_congr (fun i hi => h1.2.2.2.2 i (by rw [hN]; exact hi)) h1.2.2.2.1]
  exact ⟨h1.1, h1.2.1⟩
theorem g_iret {post : Option Value → pv_M → Prop} (C : BX x cc own) (E : EX x N (some .int) post) {v : Int32} (d : decode cc pc = .ok (.ireturn, 1)) (hc : cs ≤ (xR x).cells) (hs : sl ≤ (xR x).slots) (h : post (some (.int v)) S) : GG x N cs sl lv [.int v] S pc := by
  intro α H locs ls h1 h2
  obtain ⟨e1, e2, e3, e4⟩ := E
  have z := h1.end e4
  show W _ _ _ _ _ _ _ _ _ _ _ _ _ _ (xQ x) _
  rw [e3]
  refine W.widen hc hs ?_
  exact W.iret (hlocks := e2) C.1 C.2.1 e1 (fun t ht hW => ⟨⟨some (.int v), S, rfl, h, by rw [ht]; exact z.1, z.2, h1.2.2.2.1⟩, h1.2.2.1.F ht⟩) h1.2.2.1.2.2 d
theorem g_zret {post : Option Value → pv_M → Prop} (C : BX x cc own) (E : EX x N (some .boolean) post) {v : Int32} (d : decode cc pc = .ok (.ireturn, 1)) (hv : v = 0 ∨ v = 1) (hc : cs ≤ (xR x).cells) (hs : sl ≤ (xR x).slots) (h : post (some (.int v)) S) : GG x N cs sl lv [.int v] S pc := by
  intro α H locs ls h1 h2
  obtain ⟨e1, e2, e3, e4⟩ := E
  have z := h1.end e4
  show W _ _ _ _ _ _ _ _ _ _ _ _ _ _ (xQ x) _
  rw [e3]
  refine W.widen hc hs ?_
  exact W.zret (hlocks := e2) C.1 C.2.1 e1 (by rcases hv with rfl | rfl <;> rfl) (fun t ht hW => ⟨⟨some (.int v), S, rfl, h, by rw [ht]; exact z.1, z.2, h1.2.2.2.1⟩, h1.2.2.1.F ht⟩) h1.2.2.1.2.2 d
theorem g_lret {post : Option Value → pv_M → Prop} (C : BX x cc own) (E : EX x N (some .long) post) {v : Int64} (d : decode cc pc = .ok (.lreturn, 1)) (hc : cs ≤ (xR x).cells) (hs : sl ≤ (xR x).slots) (h : post (some (.long v)) S) : GG x N cs sl lv [.long v] S pc := by
  intro α H locs ls h1 h2
  obtain ⟨e1, e2, e3, e4⟩ := E
  have z := h1.end e4
  show W _ _ _ _ _ _ _ _ _ _ _ _ _ _ (xQ x) _
  rw [e3]
  refine W.widen hc hs ?_
  exact W.lret (hlocks := e2) C.1 C.2.1 e1 (fun t ht hW => ⟨⟨some (.long v), S, rfl, h, by rw [ht]; exact z.1, z.2, h1.2.2.2.1⟩, h1.2.2.1.F ht⟩) h1.2.2.1.2.2 d
theorem g_dret {post : Option Value → pv_M → Prop} (C : BX x cc own) (E : EX x N (some .double) post) {v : UInt64} (d : decode cc pc = .ok (.dreturn, 1)) (hc : cs ≤ (xR x).cells) (hs : sl ≤ (xR x).slots) (h : post (some (.double v)) S) : GG x N cs sl lv [.double v] S pc := by
  intro α H locs ls h1 h2
  obtain ⟨e1, e2, e3, e4⟩ := E
  have z := h1.end e4
  show W _ _ _ _ _ _ _ _ _ _ _ _ _ _ (xQ x) _
  rw [e3]
  refine W.widen hc hs ?_
  exact W.dret (hlocks := e2) C.1 C.2.1 e1 (fun t ht hW => ⟨⟨some (.double v), S, rfl, h, by rw [ht]; exact z.1, z.2, h1.2.2.2.1⟩, h1.2.2.1.F ht⟩) h1.2.2.1.2.2 d
theorem g_fret {post : Option Value → pv_M → Prop} (C : BX x cc own) (E : EX x N (some .float) post) {v : UInt32} (d : decode cc pc = .ok (.freturn, 1)) (hc : cs ≤ (xR x).cells) (hs : sl ≤ (xR x).slots) (h : post (some (.float v)) S) : GG x N cs sl lv [.float v] S pc := by
  intro α H locs ls h1 h2
  obtain ⟨e1, e2, e3, e4⟩ := E
  have z := h1.end e4
  show W _ _ _ _ _ _ _ _ _ _ _ _ _ _ (xQ x) _
  rw [e3]
  refine W.widen hc hs ?_
  exact W.fret (hlocks := e2) C.1 C.2.1 e1 (fun t ht hW => ⟨⟨some (.float v), S, rfl, h, by rw [ht]; exact z.1, z.2, h1.2.2.2.1⟩, h1.2.2.1.F ht⟩) h1.2.2.1.2.2 d
theorem g_vret {post : Option Value → pv_M → Prop} (C : BX x cc own) (E : EX x N none post) (d : decode cc pc = .ok (.return_, 1)) (hc : cs ≤ (xR x).cells) (hs : sl ≤ (xR x).slots) (h : post none S) : GG x N cs sl lv [] S pc := by
  intro α H locs ls h1 h2
  obtain ⟨e1, e2, e3, e4⟩ := E
  have z := h1.end e4
  show W _ _ _ _ _ _ _ _ _ _ _ _ _ _ (xQ x) _
  rw [e3]
  refine W.widen hc hs ?_
  exact W.vret (hlocks := e2) C.1 C.2.1 e1 (fun t ht hW => ⟨⟨none, S, rfl, h, by rw [ht]; exact z.1, z.2, h1.2.2.2.1⟩, h1.2.2.1.F ht⟩) h1.2.2.1.2.2 d
end CO
/-- a contract out of a walk of the body -/
theorem mt_of {l : Launch} {M : Me} {N : Nat} {As : List Value} {S : pv_M} {post : Option Value → pv_M → Prop} (hy : plainName M.y.cls = true) (hlen : (lg_sl As).length ≤ M.nL)
    (body : ∀ x : Cx, x.1.2.1 = l → xR x = M.rm → (xc x).maxLocals = M.nL → BX x M.cc M.y.cls → EX x N M.ret post → GG x N 0 0 (lvN M.nL As) [] S 0) : mt l M N As S post := by
  intro D ay b α sz
  refine Met.ofW (cc := M.cc) (maxL := M.nL) (ret := M.ret) hy rfl ?_
  intro p e s m args below meth c s₁ B hml hv
  obtain ⟨rfl, hsz, hP, hK, hD, hok, hBU⟩ := hv
  subst hsz
  have hts := atoms_spec (ws := M.ws) B.pre
  have hown : s.vm.findClass M.y.cls = some m.cls := findClass_of_methodNamed B.named
  have hl := lv_entry (As.map (tv b α)) (n := M.nL) (by rw [lg_sl_tv]; exact hlen)
  rw [lg_entry_eq]
  generalize (lg_sl (As.map (tv b α)) ++ List.replicate (M.nL - (lg_sl (As.map (tv b α))).length) Slot.unset).toArray = ls at hl ⊢
  have key := body ((p, l, e, (headSpec M.ws M.rm).room), (s, m, (As.map (tv b α)).toArray, below), (meth, c), (D, ay, va_A (pv_wd ay α N S) s.heap.size, α, N), (b, 0, fun _ => 0), MQ below (QcX D ay b α N (va_A (pv_wd ay α N S) s.heap.size) post) (As.map (tv b α)).toArray s M.rm.cells M.rm.slots (va_A (pv_wd ay α N S) s.heap.size)) rfl rfl hml
    ⟨B.exec, B.bytes, hown, fun w hw => hts w (List.mem_cons_of_mem _ hw), hK, fun q hq => Or.inr hq, hBU⟩ ⟨B.returns, B.notSynchronized, rfl, rfl⟩
  refine key α s.heap [] ls ⟨hP, hD.self, va_S.rf, hok, fun _ _ => rfl⟩ ⟨hl.1.trans hml.symm, hl.2.1, fun i v hi hv => ?_⟩
  refine hl.2.2 (i, tv b α v) ?_
  have h9 : (lv0 As)[i]? = some v := by
    unfold lvN at hi
    by_cases hlt : i < (lv0 As).length
    · rw [List.getElem?_append_left hlt] at hi
      exact hi
    · rw [List.getElem?_append_right (Nat.not_lt.mp hlt)] at hi
      have := List.mem_of_getElem? hi
      rw [List.mem_replicate] at this
      exact absurd this.2 hv
  have := lv0_at b α As 0 i v h9 hv
  rwa [Nat.zero_add] at this
end
section
theorem ko_X0 : KO 0 (RX0, TX0, 14) := ⟨rfl, rfl, tb_all _ [315, 317, 319, 321, 323, 325, 327, 329, 331, 333, 335, 337, 339, 341] (by decide +kernel) (by decide +kernel), tyX0_ok, nmX0⟩
theorem ko_X1 : KO 1 (RX1, TX1, 3) := ⟨rfl, rfl, tb_all _ [139, 141, 143] (by decide +kernel) (by decide +kernel), tyX1_ok, nmX1⟩
theorem ko_X2 : KO 2 (RX2, TX2, 3) := ⟨rfl, rfl, tb_all _ [177, 179, 181] (by decide +kernel) (by decide +kernel), tyX2_ok, nmX2⟩
theorem ko_X3 : KO 3 (RX3, TX3, 4) := ⟨rfl, rfl, tb_all _ [242, 244, 246, 248] (by decide +kernel) (by decide +kernel), tyX3_ok, nmX3⟩
theorem ko_X5 : KO 4 (RX5, TX5, 10) := ⟨rfl, rfl, tb_all _ [267, 269, 271, 273, 275, 277, 279, 281, 283, 285] (by decide +kernel) (by decide +kernel), tyX5_ok, nmX5⟩
theorem ko_X6 : KO 5 (RX6, TX6, 3) := ⟨rfl, rfl, tb_all _ [149, 151, 153] (by decide +kernel) (by decide +kernel), tyX6_ok, nmX6⟩
theorem ko_X7 : KO 6 (RX7, TX7, 6) := ⟨rfl, rfl, tb_all _ [213, 215, 217, 219, 221, 223] (by decide +kernel) (by decide +kernel), tyX7_ok, nmX7⟩
theorem ko_X8 : KO 7 (RX8, TX8, 1) := ⟨rfl, rfl, tb_all _ [171] (by decide +kernel) (by decide +kernel), tyX8_ok, nmX8⟩
theorem ko_X9 : KO 8 (RX9, TX9, 2) := ⟨rfl, rfl, tb_all _ [194, 196] (by decide +kernel) (by decide +kernel), tyX9_ok, nmX9⟩
theorem ko_X10 : KO 9 (RX10, TX10, 2) := ⟨rfl, rfl, tb_all _ [106, 108] (by decide +kernel) (by decide +kernel), tyX10_ok, nmX10⟩
theorem ko_X11 : KO 10 (RX11, TX11, 13) := ⟨rfl, rfl, tb_all _ [357, 359, 361, 363, 365, 367, 369, 371, 373, 375, 377, 379, 381] (by decide +kernel) (by decide +kernel), tyX11_ok, nmX11⟩
theorem ko_X12 : KO 11 (RX12, TX12, 43) := ⟨rfl, rfl, tb_all _ [1229, 1231, 1233, 1235, 1237, 1239, 1241, 1243, 1245, 1247, 1249, 1251, 1253, 1255, 1257, 1259, 1261, 1263, 1265, 1267, 1269, 1271, 1273, 1275, 1277, 1279, 1281, 1283, 1285, 1287, 1289, 1291, 1293, 1295, 1297, 1299, 1301, 1303, 1305, 1307, 1309, 1311, 1313] (by decide +kernel) (by decide +kernel), tyX12_ok, nmX12⟩
theorem fo_X0_12 : FO RX0 12 0 0 true := ⟨_, ko_X0, by decide, Or.inl (tb_in 299 (by decide +kernel) (by decide +kernel)), rfl, rfl⟩
theorem fo_X0_21 : FO RX0 21 0 2 true := ⟨_, ko_X0, by decide, Or.inl (tb_in 302 (by decide +kernel) (by decide +kernel)), rfl, rfl⟩
theorem fo_X0_25 : FO RX0 25 0 3 true := ⟨_, ko_X0, by decide, Or.inl (tb_in 303 (by decide +kernel) (by decide +kernel)), rfl, rfl⟩
theorem fo_X0_28 : FO RX0 28 0 4 true := ⟨_, ko_X0, by decide, Or.inl (tb_in 304 (by decide +kernel) (by decide +kernel)), rfl, rfl⟩
theorem fo_X0_31 : FO RX0 31 0 5 false := ⟨_, ko_X0, by decide, Or.inl (tb_in 305 (by decide +kernel) (by decide +kernel)), rfl, rfl⟩
theorem fo_X0_35 : FO RX0 35 0 6 true := ⟨_, ko_X0, by decide, Or.inl (tb_in 307 (by decide +kernel) (by decide +kernel)), rfl, rfl⟩
theorem fo_X0_39 : FO RX0 39 0 7 false := ⟨_, ko_X0, by decide, Or.inl (tb_in 308 (by decide +kernel) (by decide +kernel)), rfl, rfl⟩
theorem fo_X0_43 : FO RX0 43 0 8 true := ⟨_, ko_X0, by decide, Or.inl (tb_in 309 (by decide +kernel) (by decide +kernel)), rfl, rfl⟩
theorem fo_X0_46 : FO RX0 46 0 9 true := ⟨_, ko_X0, by decide, Or.inl (tb_in 310 (by decide +kernel) (by decide +kernel)), rfl, rfl⟩
theorem fo_X0_49 : FO RX0 49 0 10 true := ⟨_, ko_X0, by decide, Or.inl (tb_in 311 (by decide +kernel) (by decide +kernel)), rfl, rfl⟩
theorem fo_X0_53 : FO RX0 53 0 11 true := ⟨_, ko_X0, by decide, Or.inl (tb_in 312 (by decide +kernel) (by decide +kernel)), rfl, rfl⟩
theorem fo_X0_56 : FO RX0 56 0 12 true := ⟨_, ko_X0, by decide, Or.inl (tb_in 313 (by decide +kernel) (by decide +kernel)), rfl, rfl⟩
theorem fo_X0_59 : FO RX0 59 0 13 true := ⟨_, ko_X0, by decide, Or.inl (tb_in 314 (by decide +kernel) (by decide +kernel)), rfl, rfl⟩
theorem fo_X0_62 : FO RX0 62 0 1 true := ⟨_, ko_X0, by decide, Or.inl (tb_in 301 (by decide +kernel) (by decide +kernel)), rfl, rfl⟩
theorem fo_X0_66 : FO RX0 66 1 2 false := ⟨_, ko_X1, by decide, Or.inr ⟨_, nb_in (w := .fieldLinkNest _ _ _ _ _ "LanguageAtoms") 138 (by decide +kernel) rfl⟩, rfl, rfl⟩
theorem fo_X0_98 : FO RX0 98 9 0 false := ⟨_, ko_X10, by decide, Or.inr ⟨_, nb_in (w := .fieldLinkNest _ _ _ _ _ "LanguageAtoms") 100 (by decide +kernel) rfl⟩, rfl, rfl⟩
theorem fo_X0_103 : FO RX0 103 9 1 true := ⟨_, ko_X10, by decide, Or.inr ⟨_, nb_in (w := .fieldLinkNest _ _ _ _ _ "LanguageAtoms") 104 (by decide +kernel) rfl⟩, rfl, rfl⟩
theorem fo_X0_132 : FO RX0 132 1 0 false := ⟨_, ko_X1, by decide, Or.inr ⟨_, nb_in (w := .fieldLinkNest _ _ _ _ _ "LanguageAtoms") 133 (by decide +kernel) rfl⟩, rfl, rfl⟩
theorem fo_X0_139 : FO RX0 139 3 0 false := ⟨_, ko_X3, by decide, Or.inr ⟨_, nb_in (w := .fieldLinkNest _ _ _ _ _ "LanguageAtoms") 237 (by decide +kernel) rfl⟩, rfl, rfl⟩
theorem fo_X0_156 : FO RX0 156 3 1 true := ⟨_, ko_X3, by decide, Or.inr ⟨_, nb_in (w := .fieldLinkNest _ _ _ _ _ "LanguageAtoms") 239 (by decide +kernel) rfl⟩, rfl, rfl⟩
theorem fo_X1_9 : FO RX1 9 1 0 false := ⟨_, ko_X1, by decide, Or.inl (tb_in 129 (by decide +kernel) (by decide +kernel)), rfl, rfl⟩
theorem fo_X1_15 : FO RX1 15 1 1 true := ⟨_, ko_X1, by decide, Or.inl (tb_in 134 (by decide +kernel) (by decide +kernel)), rfl, rfl⟩
theorem fo_X1_19 : FO RX1 19 1 2 false := ⟨_, ko_X1, by decide, Or.inl (tb_in 135 (by decide +kernel) (by decide +kernel)), rfl, rfl⟩
theorem fo_X1_28 : FO RX1 28 9 0 false := ⟨_, ko_X10, by decide, Or.inr ⟨_, nb_in (w := .fieldLinkNest _ _ _ _ _ "LanguageAtoms") 97 (by decide +kernel) rfl⟩, rfl, rfl⟩
theorem fo_X1_33 : FO RX1 33 9 1 true := ⟨_, ko_X10, by decide, Or.inr ⟨_, nb_in (w := .fieldLinkNest _ _ _ _ _ "LanguageAtoms") 102 (by decide +kernel) rfl⟩, rfl, rfl⟩
theorem fo_X10_9 : FO RX10 9 9 0 false := ⟨_, ko_X10, by decide, Or.inl (tb_in 96 (by decide +kernel) (by decide +kernel)), rfl, rfl⟩
theorem fo_X10_15 : FO RX10 15 9 1 true := ⟨_, ko_X10, by decide, Or.inl (tb_in 101 (by decide +kernel) (by decide +kernel)), rfl, rfl⟩
theorem fo_X11_11 : FO RX11 11 10 0 true := ⟨_, ko_X11, by decide, Or.inl (tb_in 344 (by decide +kernel) (by decide +kernel)), rfl, rfl⟩
theorem fo_X11_15 : FO RX11 15 10 1 true := ⟨_, ko_X11, by decide, Or.inl (tb_in 345 (by decide +kernel) (by decide +kernel)), rfl, rfl⟩
theorem fo_X11_21 : FO RX11 21 10 2 true := ⟨_, ko_X11, by decide, Or.inl (tb_in 346 (by decide +kernel) (by decide +kernel)), rfl, rfl⟩
theorem fo_X11_25 : FO RX11 25 10 3 true := ⟨_, ko_X11, by decide, Or.inl (tb_in 347 (by decide +kernel) (by decide +kernel)), rfl, rfl⟩
theorem fo_X11_28 : FO RX11 28 10 4 false := ⟨_, ko_X11, by decide, Or.inl (tb_in 348 (by decide +kernel) (by decide +kernel)), rfl, rfl⟩
theorem fo_X11_34 : FO RX11 34 10 5 true := ⟨_, ko_X11, by decide, Or.inl (tb_in 349 (by decide +kernel) (by decide +kernel)), rfl, rfl⟩
theorem fo_X11_41 : FO RX11 41 10 7 true := ⟨_, ko_X11, by decide, Or.inl (tb_in 351 (by decide +kernel) (by decide +kernel)), rfl, rfl⟩
theorem fo_X11_48 : FO RX11 48 10 8 true := ⟨_, ko_X11, by decide, Or.inl (tb_in 352 (by decide +kernel) (by decide +kernel)), rfl, rfl⟩
theorem fo_X11_55 : FO RX11 55 10 9 true := ⟨_, ko_X11, by decide, Or.inl (tb_in 353 (by decide +kernel) (by decide +kernel)), rfl, rfl⟩
theorem fo_X11_60 : FO RX11 60 10 11 true := ⟨_, ko_X11, by decide, Or.inl (tb_in 355 (by decide +kernel) (by decide +kernel)), rfl, rfl⟩
theorem fo_X11_65 : FO RX11 65 10 12 true := ⟨_, ko_X11, by decide, Or.inl (tb_in 356 (by decide +kernel) (by decide +kernel)), rfl, rfl⟩
theorem fo_X11_77 : FO RX11 77 10 6 true := ⟨_, ko_X11, by decide, Or.inl (tb_in 350 (by decide +kernel) (by decide +kernel)), rfl, rfl⟩
theorem fo_X11_84 : FO RX11 84 10 10 true := ⟨_, ko_X11, by decide, Or.inl (tb_in 354 (by decide +kernel) (by decide +kernel)), rfl, rfl⟩
theorem fo_X11_117 : FO RX11 117 1 0 false := ⟨_, ko_X1, by decide, Or.inr ⟨_, nb_in (w := .fieldLinkNest _ _ _ _ _ "LanguageAtoms") 132 (by decide +kernel) rfl⟩, rfl, rfl⟩
theorem fo_X11_131 : FO RX11 131 9 0 false := ⟨_, ko_X10, by decide, Or.inr ⟨_, nb_in (w := .fieldLinkNest _ _ _ _ _ "LanguageAtoms") 99 (by decide +kernel) rfl⟩, rfl, rfl⟩
theorem fo_X11_143 : FO RX11 143 9 1 true := ⟨_, ko_X10, by decide, Or.inr ⟨_, nb_in (w := .fieldLinkNest _ _ _ _ _ "LanguageAtoms") 105 (by decide +kernel) rfl⟩, rfl, rfl⟩
theorem fo_X11_162 : FO RX11 162 0 5 false := ⟨_, ko_X0, by decide, Or.inr ⟨_, nb_in (w := .fieldLinkNest _ _ _ _ _ "LanguageAtoms") 306 (by decide +kernel) rfl⟩, rfl, rfl⟩
theorem fo_X11_251 : FO RX11 251 6 3 true := ⟨_, ko_X7, by decide, Or.inr ⟨_, nb_in (w := .fieldLinkNest _ _ _ _ _ "LanguageAtoms") 210 (by decide +kernel) rfl⟩, rfl, rfl⟩
theorem fo_X11_260 : FO RX11 260 6 1 false := ⟨_, ko_X7, by decide, Or.inr ⟨_, nb_in (w := .fieldLinkNest _ _ _ _ _ "LanguageAtoms") 207 (by decide +kernel) rfl⟩, rfl, rfl⟩
theorem fo_X11_300 : FO RX11 300 0 0 true := ⟨_, ko_X0, by decide, Or.inr ⟨_, nb_in (w := .fieldLinkNest _ _ _ _ _ "LanguageAtoms") 300 (by decide +kernel) rfl⟩, rfl, rfl⟩
theorem fo_X12_7 : FO RX12 7 11 1 true := ⟨_, ko_X12, by decide, Or.inl (tb_in 1187 (by decide +kernel) (by decide +kernel)), rfl, rfl⟩
theorem fo_X12_13 : FO RX12 13 11 2 true := ⟨_, ko_X12, by decide, Or.inl (tb_in 1188 (by decide +kernel) (by decide +kernel)), rfl, rfl⟩
theorem fo_X12_16 : FO RX12 16 11 3 true := ⟨_, ko_X12, by decide, Or.inl (tb_in 1189 (by decide +kernel) (by decide +kernel)), rfl, rfl⟩
theorem fo_X12_20 : FO RX12 20 11 5 true := ⟨_, ko_X12, by decide, Or.inl (tb_in 1191 (by decide +kernel) (by decide +kernel)), rfl, rfl⟩
theorem fo_X12_23 : FO RX12 23 11 6 true := ⟨_, ko_X12, by decide, Or.inl (tb_in 1192 (by decide +kernel) (by decide +kernel)), rfl, rfl⟩
theorem fo_X12_26 : FO RX12 26 11 7 true := ⟨_, ko_X12, by decide, Or.inl (tb_in 1193 (by decide +kernel) (by decide +kernel)), rfl, rfl⟩
theorem fo_X12_29 : FO RX12 29 11 8 true := ⟨_, ko_X12, by decide, Or.inl (tb_in 1194 (by decide +kernel) (by decide +kernel)), rfl, rfl⟩
theorem fo_X12_33 : FO RX12 33 11 9 true := ⟨_, ko_X12, by decide, Or.inl (tb_in 1195 (by decide +kernel) (by decide +kernel)), rfl, rfl⟩
theorem fo_X12_37 : FO RX12 37 11 11 true := ⟨_, ko_X12, by decide, Or.inl (tb_in 1197 (by decide +kernel) (by decide +kernel)), rfl, rfl⟩
theorem fo_X12_40 : FO RX12 40 11 12 true := ⟨_, ko_X12, by decide, Or.inl (tb_in 1198 (by decide +kernel) (by decide +kernel)), rfl, rfl⟩
theorem fo_X12_43 : FO RX12 43 11 13 true := ⟨_, ko_X12, by decide, Or.inl (tb_in 1199 (by decide +kernel) (by decide +kernel)), rfl, rfl⟩
theorem fo_X12_46 : FO RX12 46 11 15 true := ⟨_, ko_X12, by decide, Or.inl (tb_in 1201 (by decide +kernel) (by decide +kernel)), rfl, rfl⟩
theorem fo_X12_49 : FO RX12 49 11 18 true := ⟨_, ko_X12, by decide, Or.inl (tb_in 1204 (by decide +kernel) (by decide +kernel)), rfl, rfl⟩
theorem fo_X12_53 : FO RX12 53 11 19 true := ⟨_, ko_X12, by decide, Or.inl (tb_in 1205 (by decide +kernel) (by decide +kernel)), rfl, rfl⟩
theorem fo_X12_56 : FO RX12 56 11 20 true := ⟨_, ko_X12, by decide, Or.inl (tb_in 1206 (by decide +kernel) (by decide +kernel)), rfl, rfl⟩
theorem fo_X12_59 : FO RX12 59 11 25 true := ⟨_, ko_X12, by decide, Or.inl (tb_in 1211 (by decide +kernel) (by decide +kernel)), rfl, rfl⟩
theorem fo_X12_62 : FO RX12 62 11 26 true := ⟨_, ko_X12, by decide, Or.inl (tb_in 1212 (by decide +kernel) (by decide +kernel)), rfl, rfl⟩
theorem fo_X12_65 : FO RX12 65 11 27 true := ⟨_, ko_X12, by decide, Or.inl (tb_in 1213 (by decide +kernel) (by decide +kernel)), rfl, rfl⟩
theorem fo_X12_68 : FO RX12 68 11 28 true := ⟨_, ko_X12, by decide, Or.inl (tb_in 1214 (by decide +kernel) (by decide +kernel)), rfl, rfl⟩
theorem fo_X12_71 : FO RX12 71 11 31 true := ⟨_, ko_X12, by decide, Or.inl (tb_in 1217 (by decide +kernel) (by decide +kernel)), rfl, rfl⟩
theorem fo_X12_74 : FO RX12 74 11 32 true := ⟨_, ko_X12, by decide, Or.inl (tb_in 1218 (by decide +kernel) (by decide +kernel)), rfl, rfl⟩
theorem fo_X12_77 : FO RX12 77 11 34 true := ⟨_, ko_X12, by decide, Or.inl (tb_in 1220 (by decide +kernel) (by decide +kernel)), rfl, rfl⟩
theorem fo_X12_80 : FO RX12 80 11 35 true := ⟨_, ko_X12, by decide, Or.inl (tb_in 1221 (by decide +kernel) (by decide +kernel)), rfl, rfl⟩
theorem fo_X12_83 : FO RX12 83 11 37 true := ⟨_, ko_X12, by decide, Or.inl (tb_in 1223 (by decide +kernel) (by decide +kernel)), rfl, rfl⟩
theorem fo_X12_86 : FO RX12 86 11 38 true := ⟨_, ko_X12, by decide, Or.inl (tb_in 1224 (by decide +kernel) (by decide +kernel)), rfl, rfl⟩
theorem fo_X12_89 : FO RX12 89 11 39 true := ⟨_, ko_X12, by decide, Or.inl (tb_in 1225 (by decide +kernel) (by decide +kernel)), rfl, rfl⟩
theorem fo_X12_92 : FO RX12 92 11 41 true := ⟨_, ko_X12, by decide, Or.inl (tb_in 1227 (by decide +kernel) (by decide +kernel)), rfl, rfl⟩
theorem fo_X12_95 : FO RX12 95 11 42 true := ⟨_, ko_X12, by decide, Or.inl (tb_in 1228 (by decide +kernel) (by decide +kernel)), rfl, rfl⟩
theorem fo_X12_98 : FO RX12 98 11 0 false := ⟨_, ko_X12, by decide, Or.inl (tb_in 1186 (by decide +kernel) (by decide +kernel)), rfl, rfl⟩
theorem fo_X12_139 : FO RX12 139 11 16 false := ⟨_, ko_X12, by decide, Or.inl (tb_in 1202 (by decide +kernel) (by decide +kernel)), rfl, rfl⟩
theorem fo_X12_146 : FO RX12 146 11 4 false := ⟨_, ko_X12, by decide, Or.inl (tb_in 1190 (by decide +kernel) (by decide +kernel)), rfl, rfl⟩
theorem fo_X12_153 : FO RX12 153 11 17 false := ⟨_, ko_X12, by decide, Or.inl (tb_in 1203 (by decide +kernel) (by decide +kernel)), rfl, rfl⟩
theorem fo_X12_156 : FO RX12 156 11 21 false := ⟨_, ko_X12, by decide, Or.inl (tb_in 1207 (by decide +kernel) (by decide +kernel)), rfl, rfl⟩
theorem fo_X12_169 : FO RX12 169 11 24 false := ⟨_, ko_X12, by decide, Or.inl (tb_in 1210 (by decide +kernel) (by decide +kernel)), rfl, rfl⟩
theorem fo_X12_173 : FO RX12 173 11 22 false := ⟨_, ko_X12, by decide, Or.inl (tb_in 1208 (by decide +kernel) (by decide +kernel)), rfl, rfl⟩
theorem fo_X12_178 : FO RX12 178 11 23 false := ⟨_, ko_X12, by decide, Or.inl (tb_in 1209 (by decide +kernel) (by decide +kernel)), rfl, rfl⟩
theorem fo_X12_195 : FO RX12 195 11 33 false := ⟨_, ko_X12, by decide, Or.inl (tb_in 1219 (by decide +kernel) (by decide +kernel)), rfl, rfl⟩
theorem fo_X12_202 : FO RX12 202 11 36 false := ⟨_, ko_X12, by decide, Or.inl (tb_in 1222 (by decide +kernel) (by decide +kernel)), rfl, rfl⟩
theorem fo_X12_222 : FO RX12 222 11 29 false := ⟨_, ko_X12, by decide, Or.inl (tb_in 1215 (by decide +kernel) (by decide +kernel)), rfl, rfl⟩
theorem fo_X12_238 : FO RX12 238 11 30 false := ⟨_, ko_X12, by decide, Or.inl (tb_in 1216 (by decide +kernel) (by decide +kernel)), rfl, rfl⟩
theorem fo_X12_268 : FO RX12 268 11 40 false := ⟨_, ko_X12, by decide, Or.inl (tb_in 1226 (by decide +kernel) (by decide +kernel)), rfl, rfl⟩
theorem fo_X12_286 : FO RX12 286 11 10 false := ⟨_, ko_X12, by decide, Or.inl (tb_in 1196 (by decide +kernel) (by decide +kernel)), rfl, rfl⟩
theorem fo_X12_290 : FO RX12 290 11 14 false := ⟨_, ko_X12, by decide, Or.inl (tb_in 1200 (by decide +kernel) (by decide +kernel)), rfl, rfl⟩
theorem fo_X2_12 : FO RX2 12 2 0 false := ⟨_, ko_X2, by decide, Or.inl (tb_in 174 (by decide +kernel) (by decide +kernel)), rfl, rfl⟩
theorem fo_X2_18 : FO RX2 18 2 1 false := ⟨_, ko_X2, by decide, Or.inl (tb_in 175 (by decide +kernel) (by decide +kernel)), rfl, rfl⟩
theorem fo_X2_25 : FO RX2 25 2 2 true := ⟨_, ko_X2, by decide, Or.inl (tb_in 176 (by decide +kernel) (by decide +kernel)), rfl, rfl⟩
theorem fo_X2_29 : FO RX2 29 1 2 false := ⟨_, ko_X1, by decide, Or.inr ⟨_, nb_in (w := .fieldLinkNest _ _ _ _ _ "LanguageAtoms") 137 (by decide +kernel) rfl⟩, rfl, rfl⟩
theorem fo_X3_9 : FO RX3 9 3 0 false := ⟨_, ko_X3, by decide, Or.inl (tb_in 235 (by decide +kernel) (by decide +kernel)), rfl, rfl⟩
theorem fo_X3_15 : FO RX3 15 3 1 true := ⟨_, ko_X3, by decide, Or.inl (tb_in 238 (by decide +kernel) (by decide +kernel)), rfl, rfl⟩
theorem fo_X3_19 : FO RX3 19 3 2 true := ⟨_, ko_X3, by decide, Or.inl (tb_in 240 (by decide +kernel) (by decide +kernel)), rfl, rfl⟩
theorem fo_X3_23 : FO RX3 23 3 3 false := ⟨_, ko_X3, by decide, Or.inl (tb_in 241 (by decide +kernel) (by decide +kernel)), rfl, rfl⟩
theorem fo_X5_9 : FO RX5 9 4 1 false := ⟨_, ko_X5, by decide, Or.inl (tb_in 258 (by decide +kernel) (by decide +kernel)), rfl, rfl⟩
theorem fo_X5_15 : FO RX5 15 4 2 true := ⟨_, ko_X5, by decide, Or.inl (tb_in 259 (by decide +kernel) (by decide +kernel)), rfl, rfl⟩
theorem fo_X5_19 : FO RX5 19 4 3 true := ⟨_, ko_X5, by decide, Or.inl (tb_in 260 (by decide +kernel) (by decide +kernel)), rfl, rfl⟩
theorem fo_X5_22 : FO RX5 22 4 4 true := ⟨_, ko_X5, by decide, Or.inl (tb_in 261 (by decide +kernel) (by decide +kernel)), rfl, rfl⟩
theorem fo_X5_25 : FO RX5 25 4 5 true := ⟨_, ko_X5, by decide, Or.inl (tb_in 262 (by decide +kernel) (by decide +kernel)), rfl, rfl⟩
theorem fo_X5_28 : FO RX5 28 4 6 true := ⟨_, ko_X5, by decide, Or.inl (tb_in 263 (by decide +kernel) (by decide +kernel)), rfl, rfl⟩
theorem fo_X5_32 : FO RX5 32 4 7 false := ⟨_, ko_X5, by decide, Or.inl (tb_in 264 (by decide +kernel) (by decide +kernel)), rfl, rfl⟩
theorem fo_X5_35 : FO RX5 35 4 8 false := ⟨_, ko_X5, by decide, Or.inl (tb_in 265 (by decide +kernel) (by decide +kernel)), rfl, rfl⟩
theorem fo_X5_38 : FO RX5 38 4 9 false := ⟨_, ko_X5, by decide, Or.inl (tb_in 266 (by decide +kernel) (by decide +kernel)), rfl, rfl⟩
theorem fo_X5_41 : FO RX5 41 4 0 true := ⟨_, ko_X5, by decide, Or.inl (tb_in 257 (by decide +kernel) (by decide +kernel)), rfl, rfl⟩
theorem fo_X5_88 : FO RX5 88 3 0 false := ⟨_, ko_X3, by decide, Or.inr ⟨_, nb_in (w := .fieldLinkNest _ _ _ _ _ "LanguageAtoms") 236 (by decide +kernel) rfl⟩, rfl, rfl⟩
theorem fo_X5_106 : FO RX5 106 9 0 false := ⟨_, ko_X10, by decide, Or.inr ⟨_, nb_in (w := .fieldLinkNest _ _ _ _ _ "LanguageAtoms") 98 (by decide +kernel) rfl⟩, rfl, rfl⟩
theorem fo_X5_111 : FO RX5 111 9 1 true := ⟨_, ko_X10, by decide, Or.inr ⟨_, nb_in (w := .fieldLinkNest _ _ _ _ _ "LanguageAtoms") 103 (by decide +kernel) rfl⟩, rfl, rfl⟩
theorem fo_X6_9 : FO RX6 9 5 0 false := ⟨_, ko_X6, by decide, Or.inl (tb_in 146 (by decide +kernel) (by decide +kernel)), rfl, rfl⟩
theorem fo_X6_18 : FO RX6 18 5 1 false := ⟨_, ko_X6, by decide, Or.inl (tb_in 147 (by decide +kernel) (by decide +kernel)), rfl, rfl⟩
theorem fo_X6_22 : FO RX6 22 5 2 false := ⟨_, ko_X6, by decide, Or.inl (tb_in 148 (by decide +kernel) (by decide +kernel)), rfl, rfl⟩
theorem fo_X7_9 : FO RX7 9 6 0 false := ⟨_, ko_X7, by decide, Or.inl (tb_in 205 (by decide +kernel) (by decide +kernel)), rfl, rfl⟩
theorem fo_X7_15 : FO RX7 15 6 1 false := ⟨_, ko_X7, by decide, Or.inl (tb_in 206 (by decide +kernel) (by decide +kernel)), rfl, rfl⟩
theorem fo_X7_19 : FO RX7 19 6 2 true := ⟨_, ko_X7, by decide, Or.inl (tb_in 208 (by decide +kernel) (by decide +kernel)), rfl, rfl⟩
theorem fo_X7_23 : FO RX7 23 6 3 true := ⟨_, ko_X7, by decide, Or.inl (tb_in 209 (by decide +kernel) (by decide +kernel)), rfl, rfl⟩
theorem fo_X7_27 : FO RX7 27 6 4 false := ⟨_, ko_X7, by decide, Or.inl (tb_in 211 (by decide +kernel) (by decide +kernel)), rfl, rfl⟩
theorem fo_X7_31 : FO RX7 31 6 5 false := ⟨_, ko_X7, by decide, Or.inl (tb_in 212 (by decide +kernel) (by decide +kernel)), rfl, rfl⟩
theorem fo_X7_34 : FO RX7 34 1 0 false := ⟨_, ko_X1, by decide, Or.inr ⟨_, nb_in (w := .fieldLinkNest _ _ _ _ _ "LanguageAtoms") 130 (by decide +kernel) rfl⟩, rfl, rfl⟩
theorem fo_X8_9 : FO RX8 9 7 0 true := ⟨_, ko_X8, by decide, Or.inl (tb_in 170 (by decide +kernel) (by decide +kernel)), rfl, rfl⟩
theorem fo_X8_15 : FO RX8 15 1 0 false := ⟨_, ko_X1, by decide, Or.inr ⟨_, nb_in (w := .fieldLinkNest _ _ _ _ _ "LanguageAtoms") 131 (by decide +kernel) rfl⟩, rfl, rfl⟩
theorem fo_X9_9 : FO RX9 9 8 0 false := ⟨_, ko_X9, by decide, Or.inl (tb_in 192 (by decide +kernel) (by decide +kernel)), rfl, rfl⟩
theorem fo_X9_18 : FO RX9 18 8 1 true := ⟨_, ko_X9, by decide, Or.inl (tb_in 193 (by decide +kernel) (by decide +kernel)), rfl, rfl⟩
theorem fo_X9_22 : FO RX9 22 1 2 false := ⟨_, ko_X1, by decide, Or.inr ⟨_, nb_in (w := .fieldLinkNest _ _ _ _ _ "LanguageAtoms") 136 (by decide +kernel) rfl⟩, rfl, rfl⟩
abbrev MX0_init : Me := (yX0_init, cX0_init, 2, none, { frames := 3, cells := 0, slots := 0, locals := 80 })
abbrev MX0_codeBound : Me := (yX0_codeBound, cX0_codeBound, 1, some .int, { frames := 1, cells := 0, slots := 0, locals := 40 })
abbrev MX0_startCode : Me := (yX0_startCode, cX0_startCode, 1, some .int, { frames := 1, cells := 0, slots := 0, locals := 40 })
abbrev MX0_follow : Me := (yX0_follow, cX0_follow, 3, some .int, { frames := 2, cells := 0, slots := 0, locals := 62 })
abbrev MX0_isAccepting : Me := (yX0_isAccepting, cX0_isAccepting, 2, some .boolean, { frames := 1, cells := 0, slots := 0, locals := 40 })
abbrev MX0_find : Me := (yX0_find, cX0_find, 6, none, { frames := 4, cells := 0, slots := 0, locals := 109 })
abbrev MX0_addAtom : Me := (yX0_addAtom, cX0_addAtom, 4, none, { frames := 2, cells := 0, slots := 0, locals := 62 })
abbrev MX0_holds : Me := (yX0_holds, cX0_holds, 3, some .boolean, { frames := 1, cells := 0, slots := 0, locals := 40 })
abbrev MX0_numberOf : Me := (yX0_numberOf, cX0_numberOf, 2, some .int, { frames := 2, cells := 0, slots := 0, locals := 61 })
abbrev MX0_setOf : Me := (yX0_setOf, cX0_setOf, 4, some .int, { frames := 2, cells := 0, slots := 0, locals := 62 })
abbrev MX0_setOfWord : Me := (yX0_setOfWord, cX0_setOfWord, 4, some .int, { frames := 3, cells := 0, slots := 0, locals := 84 })
abbrev MX0_targetsOf : Me := (yX0_targetsOf, cX0_targetsOf, 6, some .long, { frames := 3, cells := 0, slots := 0, locals := 84 })
abbrev MX0_initialOnes : Me := (yX0_initialOnes, cX0_initialOnes, 4, some .long, { frames := 3, cells := 0, slots := 0, locals := 82 })
abbrev MX0_firstWordLength : Me := (yX0_firstWordLength, cX0_firstWordLength, 4, some .int, { frames := 2, cells := 0, slots := 0, locals := 60 })
abbrev MX0_writeFirstWord : Me := (yX0_writeFirstWord, cX0_writeFirstWord, 6, none, { frames := 3, cells := 0, slots := 0, locals := 83 })
abbrev MX0_countQuotients : Me := (yX0_countQuotients, cX0_countQuotients, 6, some .int, { frames := 4, cells := 0, slots := 0, locals := 111 })
abbrev MX0_addPair : Me := (yX0_addPair, cX0_addPair, 4, none, { frames := 3, cells := 0, slots := 0, locals := 88 })
abbrev MX0_fillLanguages : Me := (yX0_fillLanguages, cX0_fillLanguages, 4, none, { frames := 2, cells := 0, slots := 0, locals := 64 })
abbrev MX0_atomsWith : Me := (yX0_atomsWith, cX0_atomsWith, 5, some .long, { frames := 1, cells := 0, slots := 0, locals := 40 })
abbrev MX0_writeUnion : Me := (yX0_writeUnion, cX0_writeUnion, 9, some .int, { frames := 4, cells := 0, slots := 0, locals := 110 })
abbrev MX0_languageOf : Me := (yX0_languageOf, cX0_languageOf, 6, some .long, { frames := 3, cells := 0, slots := 0, locals := 82 })
abbrev MX0_quotient : Me := (yX0_quotient, cX0_quotient, 7, some .long, { frames := 3, cells := 0, slots := 0, locals := 84 })
abbrev MX0_determine : Me := (yX0_determine, cX0_determine, 6, some .boolean, { frames := 4, cells := 0, slots := 0, locals := 109 })
abbrev MX1_init : Me := (yX1_init, cX1_init, 1, none, { frames := 2, cells := 0, slots := 0, locals := 60 })
abbrev MX1_codeBound : Me := (yX1_codeBound, cX1_codeBound, 1, some .int, { frames := 1, cells := 0, slots := 0, locals := 40 })
abbrev MX1_startCode : Me := (yX1_startCode, cX1_startCode, 1, some .int, { frames := 1, cells := 0, slots := 0, locals := 40 })
abbrev MX1_follow : Me := (yX1_follow, cX1_follow, 3, some .int, { frames := 1, cells := 0, slots := 0, locals := 40 })
abbrev MX1_isAccepting : Me := (yX1_isAccepting, cX1_isAccepting, 2, some .boolean, { frames := 1, cells := 0, slots := 0, locals := 40 })
abbrev MX1_clear : Me := (yX1_clear, cX1_clear, 3, none, { frames := 1, cells := 0, slots := 0, locals := 40 })
abbrev MX1_lead : Me := (yX1_lead, cX1_lead, 4, none, { frames := 1, cells := 0, slots := 0, locals := 40 })
abbrev MX1_mark : Me := (yX1_mark, cX1_mark, 3, none, { frames := 1, cells := 0, slots := 0, locals := 40 })
abbrev MX1_copyFrom : Me := (yX1_copyFrom, cX1_copyFrom, 2, none, { frames := 1, cells := 0, slots := 0, locals := 40 })
abbrev MX1_stateAfter : Me := (yX1_stateAfter, cX1_stateAfter, 4, some .int, { frames := 2, cells := 0, slots := 0, locals := 62 })
abbrev MX1_drawAll : Me := (yX1_drawAll, cX1_drawAll, 4, none, { frames := 2, cells := 0, slots := 0, locals := 62 })
abbrev MX1_nextValue : Me := (yX1_nextValue, cX1_nextValue, 1, some .int, { frames := 1, cells := 0, slots := 0, locals := 40 })
abbrev MX1_draw : Me := (yX1_draw, cX1_draw, 2, some .int, { frames := 1, cells := 0, slots := 0, locals := 40 })
abbrev MX1_becomeWitness : Me := (yX1_becomeWitness, cX1_becomeWitness, 4, none, { frames := 2, cells := 0, slots := 0, locals := 63 })
abbrev MX2_init : Me := (yX2_init, cX2_init, 1, none, { frames := 3, cells := 0, slots := 0, locals := 80 })
abbrev MX2_prepare : Me := (yX2_prepare, cX2_prepare, 3, none, { frames := 4, cells := 0, slots := 0, locals := 109 })
abbrev MX2_codeBound : Me := (yX2_codeBound, cX2_codeBound, 1, some .int, { frames := 1, cells := 0, slots := 0, locals := 40 })
abbrev MX2_startCode : Me := (yX2_startCode, cX2_startCode, 1, some .int, { frames := 3, cells := 0, slots := 0, locals := 83 })
abbrev MX2_follow : Me := (yX2_follow, cX2_follow, 3, some .int, { frames := 3, cells := 0, slots := 0, locals := 83 })
abbrev MX2_isAccepting : Me := (yX2_isAccepting, cX2_isAccepting, 2, some .boolean, { frames := 1, cells := 0, slots := 0, locals := 40 })
abbrev MX2_enter : Me := (yX2_enter, cX2_enter, 3, some .int, { frames := 2, cells := 0, slots := 0, locals := 61 })
abbrev MX3_init : Me := (yX3_init, cX3_init, 1, none, { frames := 1, cells := 0, slots := 0, locals := 40 })
abbrev MX3_begin : Me := (yX3_begin, cX3_begin, 4, none, { frames := 1, cells := 0, slots := 0, locals := 40 })
abbrev MX3_place : Me := (yX3_place, cX3_place, 6, some .int, { frames := 2, cells := 0, slots := 0, locals := 63 })
abbrev MX3_insert : Me := (yX3_insert, cX3_insert, 4, some .int, { frames := 1, cells := 0, slots := 0, locals := 40 })
abbrev MX4_init : Me := (yX4_init, cX4_init, 1, none, { frames := 1, cells := 0, slots := 0, locals := 40 })
abbrev MX5_init : Me := (yX5_init, cX5_init, 2, none, { frames := 1, cells := 0, slots := 0, locals := 40 })
abbrev MX5_run : Me := (yX5_run, cX5_run, 4, some .int, { frames := 5, cells := 0, slots := 0, locals := 130 })
abbrev MX5_explore : Me := (yX5_explore, cX5_explore, 6, none, { frames := 4, cells := 0, slots := 0, locals := 105 })
abbrev MX5_numberOf : Me := (yX5_numberOf, cX5_numberOf, 3, some .int, { frames := 1, cells := 0, slots := 0, locals := 40 })
abbrev MX5_splitByAcceptance : Me := (yX5_splitByAcceptance, cX5_splitByAcceptance, 3, none, { frames := 1, cells := 0, slots := 0, locals := 40 })
abbrev MX5_splitByTargets : Me := (yX5_splitByTargets, cX5_splitByTargets, 5, some .boolean, { frames := 3, cells := 0, slots := 0, locals := 88 })
abbrev MX5_storeIn : Me := (yX5_storeIn, cX5_storeIn, 5, none, { frames := 2, cells := 0, slots := 0, locals := 63 })
abbrev MX5_firstAccepting : Me := (yX5_firstAccepting, cX5_firstAccepting, 2, some .int, { frames := 1, cells := 0, slots := 0, locals := 40 })
abbrev MX5_firstWordLength : Me := (yX5_firstWordLength, cX5_firstWordLength, 4, some .int, { frames := 1, cells := 0, slots := 0, locals := 40 })
abbrev MX5_writeFirstWord : Me := (yX5_writeFirstWord, cX5_writeFirstWord, 5, none, { frames := 2, cells := 0, slots := 0, locals := 63 })
abbrev MX6_init : Me := (yX6_init, cX6_init, 1, none, { frames := 3, cells := 0, slots := 0, locals := 80 })
abbrev MX6_prepare : Me := (yX6_prepare, cX6_prepare, 4, none, { frames := 1, cells := 0, slots := 0, locals := 40 })
abbrev MX6_codeBound : Me := (yX6_codeBound, cX6_codeBound, 1, some .int, { frames := 1, cells := 0, slots := 0, locals := 40 })
abbrev MX6_startCode : Me := (yX6_startCode, cX6_startCode, 1, some .int, { frames := 1, cells := 0, slots := 0, locals := 40 })
abbrev MX6_follow : Me := (yX6_follow, cX6_follow, 5, some .int, { frames := 2, cells := 0, slots := 0, locals := 62 })
abbrev MX6_isAccepting : Me := (yX6_isAccepting, cX6_isAccepting, 4, some .boolean, { frames := 2, cells := 0, slots := 0, locals := 61 })
abbrev MX7_init : Me := (yX7_init, cX7_init, 1, none, { frames := 1, cells := 0, slots := 0, locals := 40 })
abbrev MX7_fill : Me := (yX7_fill, cX7_fill, 7, none, { frames := 3, cells := 0, slots := 0, locals := 87 })
abbrev MX7_add : Me := (yX7_add, cX7_add, 3, none, { frames := 1, cells := 0, slots := 0, locals := 40 })
abbrev MX7_lengthen : Me := (yX7_lengthen, cX7_lengthen, 6, none, { frames := 2, cells := 0, slots := 0, locals := 62 })
abbrev MX7_isZero : Me := (yX7_isZero, cX7_isZero, 2, some .boolean, { frames := 1, cells := 0, slots := 0, locals := 40 })
abbrev MX7_rest : Me := (yX7_rest, cX7_rest, 3, some .double, { frames := 2, cells := 0, slots := 0, locals := 69 })
abbrev MX7_doubleRest : Me := (yX7_doubleRest, cX7_doubleRest, 10, some .double, { frames := 1, cells := 0, slots := 0, locals := 40 })
abbrev MX7_floatRest : Me := (yX7_floatRest, cX7_floatRest, 6, some .float, { frames := 1, cells := 0, slots := 0, locals := 40 })
abbrev MX8_init : Me := (yX8_init, cX8_init, 1, none, { frames := 1, cells := 0, slots := 0, locals := 40 })
abbrev MX8_of : Me := (yX8_of, cX8_of, 3, some .int, { frames := 1, cells := 0, slots := 0, locals := 40 })
abbrev MX8_fillForward : Me := (yX8_fillForward, cX8_fillForward, 4, none, { frames := 3, cells := 0, slots := 0, locals := 86 })
abbrev MX8_fillBackward : Me := (yX8_fillBackward, cX8_fillBackward, 4, none, { frames := 3, cells := 0, slots := 0, locals := 86 })
abbrev MX8_joinSingles : Me := (yX8_joinSingles, cX8_joinSingles, 5, none, { frames := 2, cells := 0, slots := 0, locals := 62 })
abbrev MX9_init : Me := (yX9_init, cX9_init, 1, none, { frames := 2, cells := 0, slots := 0, locals := 60 })
abbrev MX9_prepare : Me := (yX9_prepare, cX9_prepare, 2, none, { frames := 4, cells := 0, slots := 0, locals := 109 })
abbrev MX9_codeBound : Me := (yX9_codeBound, cX9_codeBound, 1, some .int, { frames := 1, cells := 0, slots := 0, locals := 40 })
abbrev MX9_startCode : Me := (yX9_startCode, cX9_startCode, 1, some .int, { frames := 1, cells := 0, slots := 0, locals := 40 })
abbrev MX9_follow : Me := (yX9_follow, cX9_follow, 4, some .int, { frames := 2, cells := 0, slots := 0, locals := 62 })
abbrev MX9_isAccepting : Me := (yX9_isAccepting, cX9_isAccepting, 2, some .boolean, { frames := 1, cells := 0, slots := 0, locals := 40 })
abbrev MX10_init : Me := (yX10_init, cX10_init, 1, none, { frames := 1, cells := 0, slots := 0, locals := 40 })
abbrev MX10_add : Me := (yX10_add, cX10_add, 2, none, { frames := 1, cells := 0, slots := 0, locals := 40 })
abbrev MX10_copyFrom : Me := (yX10_copyFrom, cX10_copyFrom, 2, none, { frames := 1, cells := 0, slots := 0, locals := 40 })
abbrev MX11_init : Me := (yX11_init, cX11_init, 3, none, { frames := 4, cells := 0, slots := 0, locals := 101 })
abbrev MX11_reset : Me := (yX11_reset, cX11_reset, 3, none, { frames := 10, cells := 0, slots := 0, locals := 201 })
abbrev MX11_setTarget : Me := (yX11_setTarget, cX11_setTarget, 5, none, { frames := 11, cells := 0, slots := 0, locals := 223 })
abbrev MX11_setFinal : Me := (yX11_setFinal, cX11_setFinal, 5, some .boolean, { frames := 11, cells := 0, slots := 0, locals := 223 })
abbrev MX11_stateCount : Me := (yX11_stateCount, cX11_stateCount, 2, some .int, { frames := 10, cells := 0, slots := 0, locals := 201 })
abbrev MX11_target : Me := (yX11_target, cX11_target, 4, some .int, { frames := 11, cells := 0, slots := 0, locals := 223 })
abbrev MX11_isFinal : Me := (yX11_isFinal, cX11_isFinal, 3, some .boolean, { frames := 11, cells := 0, slots := 0, locals := 223 })
abbrev MX11_randomize : Me := (yX11_randomize, cX11_randomize, 3, none, { frames := 10, cells := 0, slots := 0, locals := 201 })
abbrev MX11_makeWitness : Me := (yX11_makeWitness, cX11_makeWitness, 3, none, { frames := 10, cells := 0, slots := 0, locals := 201 })
abbrev MX11_appendLetter : Me := (yX11_appendLetter, cX11_appendLetter, 2, some .int, { frames := 10, cells := 0, slots := 0, locals := 201 })
abbrev MX11_clearWord : Me := (yX11_clearWord, cX11_clearWord, 2, some .int, { frames := 1, cells := 0, slots := 0, locals := 40 })
abbrev MX11_wordLetter : Me := (yX11_wordLetter, cX11_wordLetter, 2, some .int, { frames := 9, cells := 0, slots := 0, locals := 181 })
abbrev MX11_accepts : Me := (yX11_accepts, cX11_accepts, 3, some .boolean, { frames := 10, cells := 0, slots := 0, locals := 201 })
abbrev MX11_size : Me := (yX11_size, cX11_size, 2, some .int, { frames := 10, cells := 0, slots := 0, locals := 201 })
abbrev MX11_minimize : Me := (yX11_minimize, cX11_minimize, 2, some .int, { frames := 10, cells := 0, slots := 0, locals := 201 })
abbrev MX11_quotientOfWord : Me := (yX11_quotientOfWord, cX11_quotientOfWord, 2, some .int, { frames := 10, cells := 0, slots := 0, locals := 201 })
abbrev MX11_atomCount : Me := (yX11_atomCount, cX11_atomCount, 2, some .int, { frames := 11, cells := 0, slots := 0, locals := 222 })
abbrev MX11_atomSet : Me := (yX11_atomSet, cX11_atomSet, 3, some .int, { frames := 11, cells := 0, slots := 0, locals := 222 })
abbrev MX11_atomOfWord : Me := (yX11_atomOfWord, cX11_atomOfWord, 2, some .int, { frames := 11, cells := 0, slots := 0, locals := 222 })
abbrev MX11_atomTargets : Me := (yX11_atomTargets, cX11_atomTargets, 4, some .long, { frames := 11, cells := 0, slots := 0, locals := 222 })
abbrev MX11_initialAtoms : Me := (yX11_initialAtoms, cX11_initialAtoms, 2, some .long, { frames := 11, cells := 0, slots := 0, locals := 222 })
abbrev MX11_finalAtom : Me := (yX11_finalAtom, cX11_finalAtom, 2, some .int, { frames := 11, cells := 0, slots := 0, locals := 222 })
abbrev MX11_takeAtomWord : Me := (yX11_takeAtomWord, cX11_takeAtomWord, 4, some .int, { frames := 11, cells := 0, slots := 0, locals := 222 })
abbrev MX11_atomSize : Me := (yX11_atomSize, cX11_atomSize, 3, some .int, { frames := 11, cells := 0, slots := 0, locals := 222 })
abbrev MX11_resultSize : Me := (yX11_resultSize, cX11_resultSize, 4, some .int, { frames := 10, cells := 0, slots := 0, locals := 201 })
abbrev MX11_starSize : Me := (yX11_starSize, cX11_starSize, 2, some .int, { frames := 10, cells := 0, slots := 0, locals := 201 })
abbrev MX11_combine : Me := (yX11_combine, cX11_combine, 5, some .int, { frames := 10, cells := 0, slots := 0, locals := 201 })
abbrev MX11_star : Me := (yX11_star, cX11_star, 3, some .int, { frames := 10, cells := 0, slots := 0, locals := 201 })
abbrev MX11_reverse : Me := (yX11_reverse, cX11_reverse, 3, some .int, { frames := 11, cells := 0, slots := 0, locals := 222 })
abbrev MX11_uniteAtoms : Me := (yX11_uniteAtoms, cX11_uniteAtoms, 5, some .int, { frames := 11, cells := 0, slots := 0, locals := 222 })
abbrev MX11_isUnionOfAtoms : Me := (yX11_isUnionOfAtoms, cX11_isUnionOfAtoms, 3, some .boolean, { frames := 11, cells := 0, slots := 0, locals := 222 })
abbrev MX11_takeDifference : Me := (yX11_takeDifference, cX11_takeDifference, 4, some .int, { frames := 10, cells := 0, slots := 0, locals := 201 })
abbrev MX11_share : Me := (yX11_share, cX11_share, 3, some .double, { frames := 10, cells := 0, slots := 0, locals := 201 })
abbrev MX11_keepShares : Me := (yX11_keepShares, cX11_keepShares, 5, none, { frames := 10, cells := 0, slots := 0, locals := 201 })
abbrev MX11_remainder : Me := (yX11_remainder, cX11_remainder, 4, some .double, { frames := 9, cells := 0, slots := 0, locals := 181 })
abbrev MX11_save : Me := (yX11_save, cX11_save, 2, none, { frames := 2, cells := 0, slots := 0, locals := 61 })
abbrev MX11_restore : Me := (yX11_restore, cX11_restore, 2, none, { frames := 8, cells := 0, slots := 0, locals := 160 })
abbrev MX11_checkIndex : Me := (yX11_checkIndex, cX11_checkIndex, 2, none, { frames := 8, cells := 0, slots := 0, locals := 160 })
abbrev MX11_checkRegister : Me := (yX11_checkRegister, cX11_checkRegister, 1, none, { frames := 9, cells := 0, slots := 0, locals := 181 })
abbrev MX11_checkLetter : Me := (yX11_checkLetter, cX11_checkLetter, 1, none, { frames := 9, cells := 0, slots := 0, locals := 181 })
abbrev MX11_checkState : Me := (yX11_checkState, cX11_checkState, 3, none, { frames := 10, cells := 0, slots := 0, locals := 201 })
abbrev MX11_checkStates : Me := (yX11_checkStates, cX11_checkStates, 1, none, { frames := 8, cells := 0, slots := 0, locals := 160 })
abbrev MX11_checkOperation : Me := (yX11_checkOperation, cX11_checkOperation, 1, none, { frames := 8, cells := 0, slots := 0, locals := 160 })
abbrev MX11_checkLength : Me := (yX11_checkLength, cX11_checkLength, 1, none, { frames := 8, cells := 0, slots := 0, locals := 160 })
abbrev MX11_checkAtoms : Me := (yX11_checkAtoms, cX11_checkAtoms, 3, none, { frames := 8, cells := 0, slots := 0, locals := 160 })
abbrev MX11_checkWordLength : Me := (yX11_checkWordLength, cX11_checkWordLength, 1, none, { frames := 8, cells := 0, slots := 0, locals := 160 })
abbrev MX11_checkResult : Me := (yX11_checkResult, cX11_checkResult, 1, none, { frames := 8, cells := 0, slots := 0, locals := 160 })
abbrev MX11_findAtoms : Me := (yX11_findAtoms, cX11_findAtoms, 2, none, { frames := 10, cells := 0, slots := 0, locals := 201 })
abbrev MX11_operate : Me := (yX11_operate, cX11_operate, 4, some .int, { frames := 6, cells := 0, slots := 0, locals := 153 })
abbrev MX12_init : Me := (yX12_init, cX12_init, 1, none, { frames := 1, cells := 0, slots := 0, locals := 40 })
abbrev MX12_thrown : Me := (yX12_thrown, cX12_thrown, 1, some .int, { frames := 1, cells := 0, slots := 0, locals := 40 })
abbrev MX12_in : Me := (yX12_in, cX12_in, 3, some .boolean, { frames := 1, cells := 0, slots := 0, locals := 40 })
abbrev MX12_fails : Me := (yX12_fails, cX12_fails, 2, some .int, { frames := 1, cells := 0, slots := 0, locals := 40 })
abbrev MX12_done : Me := (yX12_done, cX12_done, 2, some .int, { frames := 1, cells := 0, slots := 0, locals := 40 })
abbrev MX12_so : Me := (yX12_so, cX12_so, 2, some .boolean, { frames := 1, cells := 0, slots := 0, locals := 40 })
abbrev MX12_not : Me := (yX12_not, cX12_not, 2, some .boolean, { frames := 1, cells := 0, slots := 0, locals := 40 })
abbrev MX12_isRegister : Me := (yX12_isRegister, cX12_isRegister, 1, some .boolean, { frames := 2, cells := 0, slots := 0, locals := 62 })
abbrev MX12_isState : Me := (yX12_isState, cX12_isState, 3, some .boolean, { frames := 3, cells := 0, slots := 0, locals := 82 })
abbrev MX12_isLetter : Me := (yX12_isLetter, cX12_isLetter, 1, some .boolean, { frames := 2, cells := 0, slots := 0, locals := 62 })
abbrev MX12_place : Me := (yX12_place, cX12_place, 3, some .int, { frames := 1, cells := 0, slots := 0, locals := 40 })
abbrev MX12_clears : Me := (yX12_clears, cX12_clears, 5, none, { frames := 2, cells := 0, slots := 0, locals := 62 })
abbrev MX12_reset : Me := (yX12_reset, cX12_reset, 3, none, { frames := 3, cells := 0, slots := 0, locals := 86 })
abbrev MX12_setTarget : Me := (yX12_setTarget, cX12_setTarget, 5, none, { frames := 4, cells := 0, slots := 0, locals := 104 })
abbrev MX12_setFinal : Me := (yX12_setFinal, cX12_setFinal, 5, some .boolean, { frames := 4, cells := 0, slots := 0, locals := 104 })
abbrev MX12_stateCount : Me := (yX12_stateCount, cX12_stateCount, 2, some .int, { frames := 3, cells := 0, slots := 0, locals := 82 })
abbrev MX12_target : Me := (yX12_target, cX12_target, 4, some .int, { frames := 4, cells := 0, slots := 0, locals := 104 })
abbrev MX12_isFinal : Me := (yX12_isFinal, cX12_isFinal, 3, some .boolean, { frames := 4, cells := 0, slots := 0, locals := 104 })
abbrev MX12_draw : Me := (yX12_draw, cX12_draw, 2, some .int, { frames := 1, cells := 0, slots := 0, locals := 40 })
abbrev MX12_randomize : Me := (yX12_randomize, cX12_randomize, 5, none, { frames := 3, cells := 0, slots := 0, locals := 82 })
abbrev MX12_makeWitness : Me := (yX12_makeWitness, cX12_makeWitness, 4, none, { frames := 3, cells := 0, slots := 0, locals := 86 })
abbrev MX12_appendLetter : Me := (yX12_appendLetter, cX12_appendLetter, 2, some .int, { frames := 3, cells := 0, slots := 0, locals := 82 })
abbrev MX12_clearWord : Me := (yX12_clearWord, cX12_clearWord, 2, some .int, { frames := 2, cells := 0, slots := 0, locals := 61 })
abbrev MX12_wordLetter : Me := (yX12_wordLetter, cX12_wordLetter, 2, some .int, { frames := 2, cells := 0, slots := 0, locals := 62 })
abbrev MX12_stateBy : Me := (yX12_stateBy, cX12_stateBy, 5, some .int, { frames := 2, cells := 0, slots := 0, locals := 62 })
abbrev MX12_accepts : Me := (yX12_accepts, cX12_accepts, 2, some .boolean, { frames := 3, cells := 0, slots := 0, locals := 86 })
abbrev MX12_nodeOf : Me := (yX12_nodeOf, cX12_nodeOf, 4, some .int, { frames := 1, cells := 0, slots := 0, locals := 40 })
abbrev MX12_firstKey : Me := (yX12_firstKey, cX12_firstKey, 1, some .long, { frames := 2, cells := 0, slots := 0, locals := 63 })
abbrev MX12_finalStates : Me := (yX12_finalStates, cX12_finalStates, 4, some .long, { frames := 1, cells := 0, slots := 0, locals := 40 })
abbrev MX12_concatenated : Me := (yX12_concatenated, cX12_concatenated, 4, some .long, { frames := 1, cells := 0, slots := 0, locals := 40 })
abbrev MX12_led : Me := (yX12_led, cX12_led, 8, some .long, { frames := 2, cells := 0, slots := 0, locals := 62 })
abbrev MX12_keyAfter : Me := (yX12_keyAfter, cX12_keyAfter, 4, some .long, { frames := 4, cells := 0, slots := 0, locals := 114 })
abbrev MX12_starAfter : Me := (yX12_starAfter, cX12_starAfter, 6, some .long, { frames := 3, cells := 0, slots := 0, locals := 89 })
abbrev MX12_ledBack : Me := (yX12_ledBack, cX12_ledBack, 7, some .long, { frames := 2, cells := 0, slots := 0, locals := 62 })
abbrev MX12_atomsAfter : Me := (yX12_atomsAfter, cX12_atomsAfter, 7, some .long, { frames := 1, cells := 0, slots := 0, locals := 40 })
abbrev MX12_isEnd : Me := (yX12_isEnd, cX12_isEnd, 5, some .boolean, { frames := 2, cells := 0, slots := 0, locals := 65 })
abbrev MX12_hasFinal : Me := (yX12_hasFinal, cX12_hasFinal, 6, some .boolean, { frames := 1, cells := 0, slots := 0, locals := 40 })
abbrev MX12_makes : Me := (yX12_makes, cX12_makes, 8, none, { frames := 5, cells := 0, slots := 0, locals := 137 })
abbrev MX12_isAlike : Me := (yX12_isAlike, cX12_isAlike, 5, some .boolean, { frames := 1, cells := 0, slots := 0, locals := 40 })
abbrev MX12_parts : Me := (yX12_parts, cX12_parts, 4, none, { frames := 2, cells := 0, slots := 0, locals := 64 })
abbrev MX12_nodeOfClass : Me := (yX12_nodeOfClass, cX12_nodeOfClass, 3, some .int, { frames := 1, cells := 0, slots := 0, locals := 40 })
abbrev MX12_stores : Me := (yX12_stores, cX12_stores, 6, some .int, { frames := 2, cells := 0, slots := 0, locals := 62 })
abbrev MX12_size : Me := (yX12_size, cX12_size, 2, some .int, { frames := 6, cells := 0, slots := 0, locals := 164 })
abbrev MX12_minimize : Me := (yX12_minimize, cX12_minimize, 2, some .int, { frames := 6, cells := 0, slots := 0, locals := 164 })
abbrev MX12_quotientOfWord : Me := (yX12_quotientOfWord, cX12_quotientOfWord, 4, some .int, { frames := 6, cells := 0, slots := 0, locals := 164 })
abbrev MX12_tellAtoms : Me := (yX12_tellAtoms, cX12_tellAtoms, 3, none, { frames := 6, cells := 0, slots := 0, locals := 164 })
abbrev MX12_ofStates : Me := (yX12_ofStates, cX12_ofStates, 5, some .int, { frames := 1, cells := 0, slots := 0, locals := 40 })
abbrev MX12_numberOf : Me := (yX12_numberOf, cX12_numberOf, 3, some .int, { frames := 1, cells := 0, slots := 0, locals := 40 })
abbrev MX12_isAtom : Me := (yX12_isAtom, cX12_isAtom, 2, some .boolean, { frames := 2, cells := 0, slots := 0, locals := 62 })
abbrev MX12_atomCount : Me := (yX12_atomCount, cX12_atomCount, 2, some .int, { frames := 7, cells := 0, slots := 0, locals := 186 })
abbrev MX12_atomSet : Me := (yX12_atomSet, cX12_atomSet, 3, some .int, { frames := 7, cells := 0, slots := 0, locals := 186 })
abbrev MX12_atomOfWord : Me := (yX12_atomOfWord, cX12_atomOfWord, 4, some .int, { frames := 7, cells := 0, slots := 0, locals := 186 })
abbrev MX12_setAhead : Me := (yX12_setAhead, cX12_setAhead, 7, some .int, { frames := 2, cells := 0, slots := 0, locals := 62 })
abbrev MX12_tellAtomMachine : Me := (yX12_tellAtomMachine, cX12_tellAtomMachine, 4, none, { frames := 7, cells := 0, slots := 0, locals := 186 })
abbrev MX12_atomTargets : Me := (yX12_atomTargets, cX12_atomTargets, 4, some .long, { frames := 8, cells := 0, slots := 0, locals := 209 })
abbrev MX12_initialAtoms : Me := (yX12_initialAtoms, cX12_initialAtoms, 5, some .long, { frames := 7, cells := 0, slots := 0, locals := 186 })
abbrev MX12_finalAtom : Me := (yX12_finalAtom, cX12_finalAtom, 2, some .int, { frames := 8, cells := 0, slots := 0, locals := 209 })
abbrev MX12_firstWord : Me := (yX12_firstWord, cX12_firstWord, 5, some .int, { frames := 1, cells := 0, slots := 0, locals := 40 })
abbrev MX12_takeAtomWord : Me := (yX12_takeAtomWord, cX12_takeAtomWord, 4, some .int, { frames := 8, cells := 0, slots := 0, locals := 209 })
abbrev MX12_atomSize : Me := (yX12_atomSize, cX12_atomSize, 3, some .int, { frames := 8, cells := 0, slots := 0, locals := 209 })
abbrev MX12_resultSize : Me := (yX12_resultSize, cX12_resultSize, 4, some .int, { frames := 6, cells := 0, slots := 0, locals := 164 })
abbrev MX12_starSize : Me := (yX12_starSize, cX12_starSize, 2, some .int, { frames := 6, cells := 0, slots := 0, locals := 164 })
abbrev MX12_combine : Me := (yX12_combine, cX12_combine, 5, some .int, { frames := 6, cells := 0, slots := 0, locals := 164 })
abbrev MX12_star : Me := (yX12_star, cX12_star, 3, some .int, { frames := 6, cells := 0, slots := 0, locals := 164 })
abbrev MX12_reverse : Me := (yX12_reverse, cX12_reverse, 3, some .int, { frames := 6, cells := 0, slots := 0, locals := 164 })
abbrev MX12_uniteAtoms : Me := (yX12_uniteAtoms, cX12_uniteAtoms, 5, some .int, { frames := 8, cells := 0, slots := 0, locals := 209 })
abbrev MX12_isSmall : Me := (yX12_isSmall, cX12_isSmall, 3, some .boolean, { frames := 2, cells := 0, slots := 0, locals := 66 })
abbrev MX12_meets : Me := (yX12_meets, cX12_meets, 4, none, { frames := 1, cells := 0, slots := 0, locals := 40 })
abbrev MX12_backFrom : Me := (yX12_backFrom, cX12_backFrom, 6, some .int, { frames := 2, cells := 0, slots := 0, locals := 62 })
abbrev MX12_finalsOf : Me := (yX12_finalsOf, cX12_finalsOf, 4, some .int, { frames := 1, cells := 0, slots := 0, locals := 40 })
abbrev MX12_isUnionOfAtoms : Me := (yX12_isUnionOfAtoms, cX12_isUnionOfAtoms, 10, some .boolean, { frames := 7, cells := 0, slots := 0, locals := 186 })
abbrev MX12_takeDifference : Me := (yX12_takeDifference, cX12_takeDifference, 4, some .int, { frames := 6, cells := 0, slots := 0, locals := 164 })
abbrev MX12_shareOf : Me := (yX12_shareOf, cX12_shareOf, 8, some .double, { frames := 2, cells := 0, slots := 0, locals := 62 })
abbrev MX12_share : Me := (yX12_share, cX12_share, 3, some .double, { frames := 3, cells := 0, slots := 0, locals := 89 })
abbrev MX12_keepShares : Me := (yX12_keepShares, cX12_keepShares, 6, none, { frames := 3, cells := 0, slots := 0, locals := 89 })
abbrev MX12_remainder : Me := (yX12_remainder, cX12_remainder, 6, some .double, { frames := 2, cells := 0, slots := 0, locals := 62 })
abbrev MX12_save : Me := (yX12_save, cX12_save, 2, none, { frames := 1, cells := 0, slots := 0, locals := 40 })
abbrev MX12_restore : Me := (yX12_restore, cX12_restore, 2, none, { frames := 1, cells := 0, slots := 0, locals := 40 })
abbrev MJx00060_init_a7421 : Me := (yJx00060_init_a7421, cJx00060_init_a7421, 2, none, { frames := 1, cells := 0, slots := 0, locals := 40 })
abbrev MJ13_bitCount_95d88 : Me := (yJ13_bitCount_95d88, cJ13_bitCount_95d88, 2, some .int, { frames := 1, cells := 0, slots := 0, locals := 40 })
theorem vo_X0_69 : VO RX0 69 7 MX8_of 2 := ⟨_, ko_X8.1, tb_all _ [756, 757, 758, 61, 759] (by decide +kernel) (by decide +kernel), by decide +kernel⟩
theorem vo_X0_73 : VO RX0 73 7 MX8_fillBackward 1 := ⟨_, ko_X8.1, tb_all _ [832, 833, 834, 61, 835] (by decide +kernel) (by decide +kernel), by decide +kernel⟩
theorem vo_X0_77 : VO RX0 77 0 MX0_startCode 0 := ⟨_, ko_X0.1, tb_all _ [842, 710, 1625, 66, 711] (by decide +kernel) (by decide +kernel), by decide +kernel⟩
theorem vo_X0_81 : VO RX0 81 0 MX0_addAtom 3 := ⟨_, ko_X0.1, tb_all _ [843, 845, 9, 66, 846] (by decide +kernel) (by decide +kernel), by decide +kernel⟩
theorem vo_X0_85 : VO RX0 85 0 MX0_follow 2 := ⟨_, ko_X0.1, tb_all _ [850, 754, 1626, 66, 755] (by decide +kernel) (by decide +kernel), by decide +kernel⟩
theorem so_X0_88 : SO RX0 88 MX0_holds 2 := ⟨tb_all _ [847, 848, 66, 849] (by decide +kernel) (by decide +kernel), by decide +kernel⟩
theorem so_X0_92 : SO RX0 92 MJ13_bitCount_95d88 1 := ⟨tb_all _ [877, 878, 76, 879] (by decide +kernel) (by decide +kernel), by decide +kernel⟩
theorem vo_X0_106 : VO RX0 106 0 MX0_numberOf 1 := ⟨_, ko_X0.1, tb_all _ [894, 874, 875, 66, 876] (by decide +kernel) (by decide +kernel), by decide +kernel⟩
theorem vo_X0_110 : VO RX0 110 0 MX0_isAccepting 1 := ⟨_, ko_X0.1, tb_all _ [906, 737, 1627, 66, 738] (by decide +kernel) (by decide +kernel), by decide +kernel⟩
theorem vo_X0_114 : VO RX0 114 0 MX0_firstWordLength 1 := ⟨_, ko_X0.1, tb_all _ [930, 923, 924, 66, 925] (by decide +kernel) (by decide +kernel), by decide +kernel⟩
theorem vo_X0_117 : VO RX0 117 9 MX10_add 1 := ⟨_, ko_X10.1, tb_all _ [931, 651, 652, 56, 653] (by decide +kernel) (by decide +kernel), by decide +kernel⟩
theorem vo_X0_121 : VO RX0 121 7 MX8_fillForward 1 := ⟨_, ko_X8.1, tb_all _ [943, 944, 945, 61, 946] (by decide +kernel) (by decide +kernel), by decide +kernel⟩
theorem vo_X0_124 : VO RX0 124 0 MX0_fillLanguages 0 := ⟨_, ko_X0.1, tb_all _ [947, 949, 10, 66, 950] (by decide +kernel) (by decide +kernel), by decide +kernel⟩
theorem vo_X0_127 : VO RX0 127 3 MX3_begin 1 := ⟨_, ko_X3.1, tb_all _ [956, 783, 784, 64, 785] (by decide +kernel) (by decide +kernel), by decide +kernel⟩
theorem vo_X0_135 : VO RX0 135 0 MX0_addPair 2 := ⟨_, ko_X0.1, tb_all _ [957, 959, 12, 66, 960] (by decide +kernel) (by decide +kernel), by decide +kernel⟩
theorem vo_X0_140 : VO RX0 140 3 MX3_place 1 := ⟨_, ko_X3.1, tb_all _ [961, 788, 789, 64, 790] (by decide +kernel) (by decide +kernel), by decide +kernel⟩
theorem vo_X0_143 : VO RX0 143 0 MX0_atomsWith 1 := ⟨_, ko_X0.1, tb_all _ [951, 953, 11, 66, 954] (by decide +kernel) (by decide +kernel), by decide +kernel⟩
theorem vo_X0_149 : VO RX0 149 0 MX0_languageOf 1 := ⟨_, ko_X0.1, tb_all _ [1039, 1041, 15, 66, 1042] (by decide +kernel) (by decide +kernel), by decide +kernel⟩
theorem vo_X0_153 : VO RX0 153 1 MX1_clear 1 := ⟨_, ko_X1.1, tb_all _ [1043, 530, 531, 59, 532] (by decide +kernel) (by decide +kernel), by decide +kernel⟩
theorem vo_X0_158 : VO RX0 158 1 MX1_mark 2 := ⟨_, ko_X1.1, tb_all _ [1044, 563, 564, 59, 565] (by decide +kernel) (by decide +kernel), by decide +kernel⟩
theorem vo_X0_162 : VO RX0 162 0 MX0_quotient 2 := ⟨_, ko_X0.1, tb_all _ [1045, 1047, 16, 66, 1048] (by decide +kernel) (by decide +kernel), by decide +kernel⟩
theorem vo_X0_166 : VO RX0 166 1 MX1_lead 3 := ⟨_, ko_X1.1, tb_all _ [1049, 548, 549, 59, 550] (by decide +kernel) (by decide +kernel), by decide +kernel⟩
theorem vo_X1_36 : VO RX1 36 1 MX1_follow 2 := ⟨_, ko_X1.1, tb_all _ [672, 581, 582, 59, 583] (by decide +kernel) (by decide +kernel), by decide +kernel⟩
theorem so_X1_40 : SO RX1 40 MX1_nextValue 1 := ⟨tb_all _ [602, 603, 59, 604] (by decide +kernel) (by decide +kernel), by decide +kernel⟩
theorem so_X1_44 : SO RX1 44 MX1_draw 2 := ⟨tb_all _ [606, 607, 59, 608] (by decide +kernel) (by decide +kernel), by decide +kernel⟩
theorem vo_X1_47 : VO RX1 47 1 MX1_mark 2 := ⟨_, ko_X1.1, tb_all _ [609, 563, 564, 59, 565] (by decide +kernel) (by decide +kernel), by decide +kernel⟩
theorem vo_X1_52 : VO RX1 52 1 MX1_clear 1 := ⟨_, ko_X1.1, tb_all _ [621, 530, 531, 59, 532] (by decide +kernel) (by decide +kernel), by decide +kernel⟩
theorem vo_X1_56 : VO RX1 56 1 MX1_lead 3 := ⟨_, ko_X1.1, tb_all _ [622, 548, 549, 59, 550] (by decide +kernel) (by decide +kernel), by decide +kernel⟩
theorem so_X11_88 : SO RX11 88 MX11_checkRegister 1 := ⟨tb_all _ [491, 492, 55, 493] (by decide +kernel) (by decide +kernel), by decide +kernel⟩
theorem so_X11_92 : SO RX11 92 MX11_checkStates 1 := ⟨tb_all _ [510, 511, 55, 512] (by decide +kernel) (by decide +kernel), by decide +kernel⟩
theorem vo_X11_95 : VO RX11 95 1 MX1_clear 1 := ⟨_, ko_X1.1, tb_all _ [529, 530, 531, 59, 532] (by decide +kernel) (by decide +kernel), by decide +kernel⟩
theorem vo_X11_98 : VO RX11 98 10 MX11_checkState 2 := ⟨_, ko_X11.1, tb_all _ [540, 542, 1, 55, 543] (by decide +kernel) (by decide +kernel), by decide +kernel⟩
theorem so_X11_102 : SO RX11 102 MX11_checkLetter 1 := ⟨tb_all _ [544, 545, 55, 546] (by decide +kernel) (by decide +kernel), by decide +kernel⟩
theorem vo_X11_105 : VO RX11 105 1 MX1_lead 3 := ⟨_, ko_X1.1, tb_all _ [547, 548, 549, 59, 550] (by decide +kernel) (by decide +kernel), by decide +kernel⟩
theorem vo_X11_109 : VO RX11 109 1 MX1_isAccepting 1 := ⟨_, ko_X1.1, tb_all _ [558, 559, 560, 59, 561] (by decide +kernel) (by decide +kernel), by decide +kernel⟩
theorem vo_X11_113 : VO RX11 113 1 MX1_mark 2 := ⟨_, ko_X1.1, tb_all _ [562, 563, 564, 59, 565] (by decide +kernel) (by decide +kernel), by decide +kernel⟩
theorem vo_X11_121 : VO RX11 121 1 MX1_follow 2 := ⟨_, ko_X1.1, tb_all _ [580, 581, 582, 59, 583] (by decide +kernel) (by decide +kernel), by decide +kernel⟩
theorem vo_X11_125 : VO RX11 125 1 MX1_drawAll 1 := ⟨_, ko_X1.1, tb_all _ [598, 599, 600, 59, 601] (by decide +kernel) (by decide +kernel), by decide +kernel⟩
theorem vo_X11_128 : VO RX11 128 1 MX1_becomeWitness 1 := ⟨_, ko_X1.1, tb_all _ [617, 618, 619, 59, 620] (by decide +kernel) (by decide +kernel), by decide +kernel⟩
theorem so_X11_134 : SO RX11 134 MX11_checkWordLength 1 := ⟨tb_all _ [631, 632, 55, 633] (by decide +kernel) (by decide +kernel), by decide +kernel⟩
theorem vo_X11_137 : VO RX11 137 9 MX10_add 1 := ⟨_, ko_X10.1, tb_all _ [650, 651, 652, 56, 653] (by decide +kernel) (by decide +kernel), by decide +kernel⟩
theorem so_X11_140 : SO RX11 140 MX11_checkIndex 2 := ⟨tb_all _ [494, 495, 55, 496] (by decide +kernel) (by decide +kernel), by decide +kernel⟩
theorem vo_X11_147 : VO RX11 147 1 MX1_stateAfter 1 := ⟨_, ko_X1.1, tb_all _ [668, 669, 670, 59, 671] (by decide +kernel) (by decide +kernel), by decide +kernel⟩
theorem vo_X11_151 : VO RX11 151 4 MX5_run 1 := ⟨_, ko_X5.1, tb_all _ [680, 681, 682, 65, 683] (by decide +kernel) (by decide +kernel), by decide +kernel⟩
theorem vo_X11_155 : VO RX11 155 4 MX5_storeIn 1 := ⟨_, ko_X5.1, tb_all _ [803, 804, 805, 65, 806] (by decide +kernel) (by decide +kernel), by decide +kernel⟩
theorem vo_X11_159 : VO RX11 159 10 MX11_findAtoms 1 := ⟨_, ko_X11.1, tb_all _ [824, 826, 7, 55, 827] (by decide +kernel) (by decide +kernel), by decide +kernel⟩
theorem vo_X11_165 : VO RX11 165 0 MX0_setOf 1 := ⟨_, ko_X0.1, tb_all _ [858, 859, 860, 66, 861] (by decide +kernel) (by decide +kernel), by decide +kernel⟩
theorem vo_X11_169 : VO RX11 169 0 MX0_setOfWord 1 := ⟨_, ko_X0.1, tb_all _ [869, 870, 871, 66, 872] (by decide +kernel) (by decide +kernel), by decide +kernel⟩
theorem vo_X11_172 : VO RX11 172 0 MX0_numberOf 1 := ⟨_, ko_X0.1, tb_all _ [873, 874, 875, 66, 876] (by decide +kernel) (by decide +kernel), by decide +kernel⟩
theorem vo_X11_175 : VO RX11 175 0 MX0_targetsOf 2 := ⟨_, ko_X0.1, tb_all _ [890, 891, 892, 66, 893] (by decide +kernel) (by decide +kernel), by decide +kernel⟩
theorem vo_X11_179 : VO RX11 179 0 MX0_initialOnes 0 := ⟨_, ko_X0.1, tb_all _ [902, 903, 904, 66, 905] (by decide +kernel) (by decide +kernel), by decide +kernel⟩
theorem vo_X11_183 : VO RX11 183 0 MX0_startCode 0 := ⟨_, ko_X0.1, tb_all _ [914, 710, 1625, 66, 711] (by decide +kernel) (by decide +kernel), by decide +kernel⟩
theorem vo_X11_187 : VO RX11 187 0 MX0_firstWordLength 1 := ⟨_, ko_X0.1, tb_all _ [922, 923, 924, 66, 925] (by decide +kernel) (by decide +kernel), by decide +kernel⟩
theorem vo_X11_190 : VO RX11 190 0 MX0_writeFirstWord 2 := ⟨_, ko_X0.1, tb_all _ [926, 927, 928, 66, 929] (by decide +kernel) (by decide +kernel), by decide +kernel⟩
theorem vo_X11_194 : VO RX11 194 0 MX0_countQuotients 1 := ⟨_, ko_X0.1, tb_all _ [939, 940, 941, 66, 942] (by decide +kernel) (by decide +kernel), by decide +kernel⟩
theorem so_X11_197 : SO RX11 197 MX11_checkOperation 1 := ⟨tb_all _ [969, 970, 55, 971] (by decide +kernel) (by decide +kernel), by decide +kernel⟩
theorem vo_X11_200 : VO RX11 200 10 MX11_operate 3 := ⟨_, ko_X11.1, tb_all _ [973, 975, 13, 55, 976] (by decide +kernel) (by decide +kernel), by decide +kernel⟩
theorem vo_X11_204 : VO RX11 204 8 MX9_prepare 1 := ⟨_, ko_X9.1, tb_all _ [993, 994, 995, 62, 996] (by decide +kernel) (by decide +kernel), by decide +kernel⟩
theorem so_X11_207 : SO RX11 207 MX11_checkResult 1 := ⟨tb_all _ [1005, 1006, 55, 1007] (by decide +kernel) (by decide +kernel), by decide +kernel⟩
theorem vo_X11_210 : VO RX11 210 10 MX11_checkAtoms 1 := ⟨_, ko_X11.1, tb_all _ [1030, 1032, 14, 55, 1033] (by decide +kernel) (by decide +kernel), by decide +kernel⟩
theorem vo_X11_214 : VO RX11 214 0 MX0_writeUnion 2 := ⟨_, ko_X0.1, tb_all _ [1035, 1036, 1037, 66, 1038] (by decide +kernel) (by decide +kernel), by decide +kernel⟩
theorem vo_X11_218 : VO RX11 218 1 MX1_copyFrom 1 := ⟨_, ko_X1.1, tb_all _ [392, 393, 394, 59, 395] (by decide +kernel) (by decide +kernel), by decide +kernel⟩
theorem vo_X11_221 : VO RX11 221 0 MX0_determine 1 := ⟨_, ko_X0.1, tb_all _ [1057, 1058, 1059, 66, 1060] (by decide +kernel) (by decide +kernel), by decide +kernel⟩
theorem vo_X11_225 : VO RX11 225 5 MX6_prepare 3 := ⟨_, ko_X6.1, tb_all _ [982, 983, 984, 58, 985] (by decide +kernel) (by decide +kernel), by decide +kernel⟩
theorem vo_X11_228 : VO RX11 228 4 MX5_explore 1 := ⟨_, ko_X5.1, tb_all _ [1069, 685, 686, 65, 687] (by decide +kernel) (by decide +kernel), by decide +kernel⟩
theorem vo_X11_232 : VO RX11 232 4 MX5_firstAccepting 0 := ⟨_, ko_X5.1, tb_all _ [1070, 1071, 1072, 65, 1073] (by decide +kernel) (by decide +kernel), by decide +kernel⟩
theorem vo_X11_242 : VO RX11 242 4 MX5_firstWordLength 1 := ⟨_, ko_X5.1, tb_all _ [1090, 1091, 1092, 65, 1093] (by decide +kernel) (by decide +kernel), by decide +kernel⟩
theorem vo_X11_243 : VO RX11 243 4 MX5_writeFirstWord 2 := ⟨_, ko_X5.1, tb_all _ [1094, 1095, 1096, 65, 1097] (by decide +kernel) (by decide +kernel), by decide +kernel⟩
theorem so_X11_244 : SO RX11 244 MX11_checkLength 1 := ⟨tb_all _ [1106, 1107, 55, 1108] (by decide +kernel) (by decide +kernel), by decide +kernel⟩
theorem vo_X11_247 : VO RX11 247 6 MX7_fill 3 := ⟨_, ko_X7.1, tb_all _ [1110, 1111, 1112, 63, 1113] (by decide +kernel) (by decide +kernel), by decide +kernel⟩
theorem vo_X11_266 : VO RX11 266 6 MX7_isZero 1 := ⟨_, ko_X7.1, tb_all _ [1155, 1156, 1157, 63, 1158] (by decide +kernel) (by decide +kernel), by decide +kernel⟩
theorem vo_X11_274 : VO RX11 274 6 MX7_rest 2 := ⟨_, ko_X7.1, tb_all _ [1162, 1163, 1164, 63, 1165] (by decide +kernel) (by decide +kernel), by decide +kernel⟩
theorem vo_X11_278 : VO RX11 278 9 MX10_copyFrom 1 := ⟨_, ko_X10.1, tb_all _ [399, 400, 401, 56, 402] (by decide +kernel) (by decide +kernel), by decide +kernel⟩
theorem vo_X11_303 : VO RX11 303 0 MX0_find 0 := ⟨_, ko_X0.1, tb_all _ [828, 829, 830, 66, 831] (by decide +kernel) (by decide +kernel), by decide +kernel⟩
theorem vo_X11_306 : VO RX11 306 2 MX2_prepare 2 := ⟨_, ko_X2.1, tb_all _ [977, 978, 979, 60, 980] (by decide +kernel) (by decide +kernel), by decide +kernel⟩
theorem vo_X2_32 : VO RX2 32 7 MX8_fillForward 1 := ⟨_, ko_X8.1, tb_all _ [981, 944, 945, 61, 946] (by decide +kernel) (by decide +kernel), by decide +kernel⟩
theorem vo_X2_36 : VO RX2 36 2 MX2_enter 2 := ⟨_, ko_X2.1, tb_all _ [718, 720, 2, 60, 721] (by decide +kernel) (by decide +kernel), by decide +kernel⟩
theorem vo_X2_40 : VO RX2 40 1 MX1_follow 2 := ⟨_, ko_X1.1, tb_all _ [764, 581, 582, 59, 583] (by decide +kernel) (by decide +kernel), by decide +kernel⟩
theorem vo_X2_43 : VO RX2 43 7 MX8_of 2 := ⟨_, ko_X8.1, tb_all _ [765, 757, 758, 61, 759] (by decide +kernel) (by decide +kernel), by decide +kernel⟩
theorem vo_X2_46 : VO RX2 46 1 MX1_isAccepting 1 := ⟨_, ko_X1.1, tb_all _ [722, 559, 560, 59, 561] (by decide +kernel) (by decide +kernel), by decide +kernel⟩
theorem vo_X3_28 : VO RX3 28 3 MX3_insert 2 := ⟨_, ko_X3.1, tb_all _ [792, 794, 6, 64, 795] (by decide +kernel) (by decide +kernel), by decide +kernel⟩
theorem vo_X5_45 : VO RX5 45 4 MX5_explore 1 := ⟨_, ko_X5.1, tb_all _ [684, 685, 686, 65, 687] (by decide +kernel) (by decide +kernel), by decide +kernel⟩
theorem vo_X5_49 : VO RX5 49 4 MX5_splitByAcceptance 0 := ⟨_, ko_X5.1, tb_all _ [774, 776, 4, 65, 777] (by decide +kernel) (by decide +kernel), by decide +kernel⟩
theorem vo_X5_52 : VO RX5 52 4 MX5_splitByTargets 0 := ⟨_, ko_X5.1, tb_all _ [778, 780, 5, 65, 781] (by decide +kernel) (by decide +kernel), by decide +kernel⟩
theorem uo_X5_56_X0 : UO RX5 56 0 ⟨"LanguageAtoms$Machine", "codeBound", "()I"⟩ MX0_codeBound 0 := ⟨_, ko_X0.1, tb_all _ [688, 690, 691, 692, 66, 693] (by decide +kernel) (by decide +kernel), nb_in 689 (by decide +kernel) rfl, by decide +kernel⟩
theorem uo_X5_56_X1 : UO RX5 56 1 ⟨"LanguageAtoms$Machine", "codeBound", "()I"⟩ MX1_codeBound 0 := ⟨_, ko_X1.1, tb_all _ [688, 690, 694, 695, 59, 696] (by decide +kernel) (by decide +kernel), nb_in 689 (by decide +kernel) rfl, by decide +kernel⟩
theorem uo_X5_56_X2 : UO RX5 56 2 ⟨"LanguageAtoms$Machine", "codeBound", "()I"⟩ MX2_codeBound 0 := ⟨_, ko_X2.1, tb_all _ [688, 690, 697, 698, 60, 699] (by decide +kernel) (by decide +kernel), nb_in 689 (by decide +kernel) rfl, by decide +kernel⟩
theorem uo_X5_56_X6 : UO RX5 56 5 ⟨"LanguageAtoms$Machine", "codeBound", "()I"⟩ MX6_codeBound 0 := ⟨_, ko_X6.1, tb_all _ [688, 690, 700, 701, 58, 702] (by decide +kernel) (by decide +kernel), nb_in 689 (by decide +kernel) rfl, by decide +kernel⟩
theorem uo_X5_56_X9 : UO RX5 56 8 ⟨"LanguageAtoms$Machine", "codeBound", "()I"⟩ MX9_codeBound 0 := ⟨_, ko_X9.1, tb_all _ [688, 690, 703, 704, 62, 705] (by decide +kernel) (by decide +kernel), nb_in 689 (by decide +kernel) rfl, by decide +kernel⟩
theorem uo_X5_62_X0 : UO RX5 62 0 ⟨"LanguageAtoms$Machine", "startCode", "()I"⟩ MX0_startCode 0 := ⟨_, ko_X0.1, tb_all _ [706, 708, 709, 710, 66, 711] (by decide +kernel) (by decide +kernel), nb_in 707 (by decide +kernel) rfl, by decide +kernel⟩
theorem uo_X5_62_X1 : UO RX5 62 1 ⟨"LanguageAtoms$Machine", "startCode", "()I"⟩ MX1_startCode 0 := ⟨_, ko_X1.1, tb_all _ [706, 708, 712, 713, 59, 714] (by decide +kernel) (by decide +kernel), nb_in 707 (by decide +kernel) rfl, by decide +kernel⟩
theorem uo_X5_62_X2 : UO RX5 62 2 ⟨"LanguageAtoms$Machine", "startCode", "()I"⟩ MX2_startCode 0 := ⟨_, ko_X2.1, tb_all _ [706, 708, 715, 716, 60, 717] (by decide +kernel) (by decide +kernel), nb_in 707 (by decide +kernel) rfl, by decide +kernel⟩
theorem uo_X5_62_X6 : UO RX5 62 5 ⟨"LanguageAtoms$Machine", "startCode", "()I"⟩ MX6_startCode 0 := ⟨_, ko_X6.1, tb_all _ [706, 708, 723, 724, 58, 725] (by decide +kernel) (by decide +kernel), nb_in 707 (by decide +kernel) rfl, by decide +kernel⟩
theorem uo_X5_62_X9 : UO RX5 62 8 ⟨"LanguageAtoms$Machine", "startCode", "()I"⟩ MX9_startCode 0 := ⟨_, ko_X9.1, tb_all _ [706, 708, 726, 727, 62, 728] (by decide +kernel) (by decide +kernel), nb_in 707 (by decide +kernel) rfl, by decide +kernel⟩
theorem vo_X5_65 : VO RX5 65 4 MX5_numberOf 2 := ⟨_, ko_X5.1, tb_all _ [729, 731, 3, 65, 732] (by decide +kernel) (by decide +kernel), by decide +kernel⟩
theorem uo_X5_69_X0 : UO RX5 69 0 ⟨"LanguageAtoms$Machine", "isAccepting", "(I)Z"⟩ MX0_isAccepting 1 := ⟨_, ko_X0.1, tb_all _ [733, 735, 736, 737, 66, 738] (by decide +kernel) (by decide +kernel), nb_in 734 (by decide +kernel) rfl, by decide +kernel⟩
theorem uo_X5_69_X1 : UO RX5 69 1 ⟨"LanguageAtoms$Machine", "isAccepting", "(I)Z"⟩ MX1_isAccepting 1 := ⟨_, ko_X1.1, tb_all _ [733, 735, 739, 559, 59, 561] (by decide +kernel) (by decide +kernel), nb_in 734 (by decide +kernel) rfl, by decide +kernel⟩
theorem uo_X5_69_X2 : UO RX5 69 2 ⟨"LanguageAtoms$Machine", "isAccepting", "(I)Z"⟩ MX2_isAccepting 1 := ⟨_, ko_X2.1, tb_all _ [733, 735, 740, 741, 60, 742] (by decide +kernel) (by decide +kernel), nb_in 734 (by decide +kernel) rfl, by decide +kernel⟩
theorem uo_X5_69_X6 : UO RX5 69 5 ⟨"LanguageAtoms$Machine", "isAccepting", "(I)Z"⟩ MX6_isAccepting 1 := ⟨_, ko_X6.1, tb_all _ [733, 735, 743, 744, 58, 745] (by decide +kernel) (by decide +kernel), nb_in 734 (by decide +kernel) rfl, by decide +kernel⟩
theorem uo_X5_69_X9 : UO RX5 69 8 ⟨"LanguageAtoms$Machine", "isAccepting", "(I)Z"⟩ MX9_isAccepting 1 := ⟨_, ko_X9.1, tb_all _ [733, 735, 747, 748, 62, 749] (by decide +kernel) (by decide +kernel), nb_in 734 (by decide +kernel) rfl, by decide +kernel⟩
theorem uo_X5_73_X0 : UO RX5 73 0 ⟨"LanguageAtoms$Machine", "follow", "(II)I"⟩ MX0_follow 2 := ⟨_, ko_X0.1, tb_all _ [750, 752, 753, 754, 66, 755] (by decide +kernel) (by decide +kernel), nb_in 751 (by decide +kernel) rfl, by decide +kernel⟩
theorem uo_X5_73_X1 : UO RX5 73 1 ⟨"LanguageAtoms$Machine", "follow", "(II)I"⟩ MX1_follow 2 := ⟨_, ko_X1.1, tb_all _ [750, 752, 760, 581, 59, 583] (by decide +kernel) (by decide +kernel), nb_in 751 (by decide +kernel) rfl, by decide +kernel⟩
theorem uo_X5_73_X2 : UO RX5 73 2 ⟨"LanguageAtoms$Machine", "follow", "(II)I"⟩ MX2_follow 2 := ⟨_, ko_X2.1, tb_all _ [750, 752, 761, 762, 60, 763] (by decide +kernel) (by decide +kernel), nb_in 751 (by decide +kernel) rfl, by decide +kernel⟩
theorem uo_X5_73_X6 : UO RX5 73 5 ⟨"LanguageAtoms$Machine", "follow", "(II)I"⟩ MX6_follow 2 := ⟨_, ko_X6.1, tb_all _ [750, 752, 766, 767, 58, 768] (by decide +kernel) (by decide +kernel), nb_in 751 (by decide +kernel) rfl, by decide +kernel⟩
theorem uo_X5_73_X9 : UO RX5 73 8 ⟨"LanguageAtoms$Machine", "follow", "(II)I"⟩ MX9_follow 2 := ⟨_, ko_X9.1, tb_all _ [750, 752, 770, 771, 62, 772] (by decide +kernel) (by decide +kernel), nb_in 751 (by decide +kernel) rfl, by decide +kernel⟩
theorem vo_X5_76 : VO RX5 76 3 MX3_begin 1 := ⟨_, ko_X3.1, tb_all _ [782, 783, 784, 64, 785] (by decide +kernel) (by decide +kernel), by decide +kernel⟩
theorem vo_X5_84 : VO RX5 84 3 MX3_place 1 := ⟨_, ko_X3.1, tb_all _ [787, 788, 789, 64, 790] (by decide +kernel) (by decide +kernel), by decide +kernel⟩
theorem vo_X5_89 : VO RX5 89 1 MX1_clear 1 := ⟨_, ko_X1.1, tb_all _ [807, 530, 531, 59, 532] (by decide +kernel) (by decide +kernel), by decide +kernel⟩
theorem vo_X5_94 : VO RX5 94 1 MX1_lead 3 := ⟨_, ko_X1.1, tb_all _ [808, 548, 549, 59, 550] (by decide +kernel) (by decide +kernel), by decide +kernel⟩
theorem vo_X5_98 : VO RX5 98 1 MX1_mark 2 := ⟨_, ko_X1.1, tb_all _ [809, 563, 564, 59, 565] (by decide +kernel) (by decide +kernel), by decide +kernel⟩
theorem vo_X5_102 : VO RX5 102 4 MX5_firstWordLength 1 := ⟨_, ko_X5.1, tb_all _ [1098, 1091, 1092, 65, 1093] (by decide +kernel) (by decide +kernel), by decide +kernel⟩
theorem vo_X6_25 : VO RX6 25 1 MX1_follow 2 := ⟨_, ko_X1.1, tb_all _ [769, 581, 582, 59, 583] (by decide +kernel) (by decide +kernel), by decide +kernel⟩
theorem vo_X6_29 : VO RX6 29 1 MX1_isAccepting 1 := ⟨_, ko_X1.1, tb_all _ [746, 559, 560, 59, 561] (by decide +kernel) (by decide +kernel), by decide +kernel⟩
theorem vo_X7_39 : VO RX7 39 1 MX1_isAccepting 1 := ⟨_, ko_X1.1, tb_all _ [1114, 559, 560, 59, 561] (by decide +kernel) (by decide +kernel), by decide +kernel⟩
theorem vo_X7_43 : VO RX7 43 6 MX7_add 1 := ⟨_, ko_X7.1, tb_all _ [1115, 1117, 17, 63, 1118] (by decide +kernel) (by decide +kernel), by decide +kernel⟩
theorem vo_X7_47 : VO RX7 47 6 MX7_lengthen 1 := ⟨_, ko_X7.1, tb_all _ [1119, 1121, 18, 63, 1122] (by decide +kernel) (by decide +kernel), by decide +kernel⟩
theorem vo_X7_53 : VO RX7 53 1 MX1_follow 2 := ⟨_, ko_X1.1, tb_all _ [1123, 581, 582, 59, 583] (by decide +kernel) (by decide +kernel), by decide +kernel⟩
theorem so_X7_57 : SO RX7 57 MX7_floatRest 2 := ⟨tb_all _ [1166, 1167, 63, 1168] (by decide +kernel) (by decide +kernel), by decide +kernel⟩
theorem so_X7_61 : SO RX7 61 MX7_doubleRest 2 := ⟨tb_all _ [1169, 1170, 63, 1171] (by decide +kernel) (by decide +kernel), by decide +kernel⟩
theorem vo_X8_21 : VO RX8 21 1 MX1_follow 2 := ⟨_, ko_X1.1, tb_all _ [836, 581, 582, 59, 583] (by decide +kernel) (by decide +kernel), by decide +kernel⟩
theorem vo_X8_25 : VO RX8 25 7 MX8_joinSingles 2 := ⟨_, ko_X8.1, tb_all _ [837, 839, 8, 61, 840] (by decide +kernel) (by decide +kernel), by decide +kernel⟩
theorem vo_X8_29 : VO RX8 29 7 MX8_of 2 := ⟨_, ko_X8.1, tb_all _ [841, 757, 758, 61, 759] (by decide +kernel) (by decide +kernel), by decide +kernel⟩
theorem vo_X9_25 : VO RX9 25 7 MX8_fillForward 1 := ⟨_, ko_X8.1, tb_all _ [997, 944, 945, 61, 946] (by decide +kernel) (by decide +kernel), by decide +kernel⟩
theorem vo_X9_29 : VO RX9 29 7 MX8_of 2 := ⟨_, ko_X8.1, tb_all _ [773, 757, 758, 61, 759] (by decide +kernel) (by decide +kernel), by decide +kernel⟩
theorem so_X12_102 : SO RX12 102 MX12_in 3 := ⟨tb_all _ [1327, 1328, 67, 1329] (by decide +kernel) (by decide +kernel), by decide +kernel⟩
theorem so_X12_106 : SO RX12 106 MX12_isRegister 1 := ⟨tb_all _ [1324, 1325, 67, 1326] (by decide +kernel) (by decide +kernel), by decide +kernel⟩
theorem so_X12_110 : SO RX12 110 MX12_place 3 := ⟨tb_all _ [1334, 1335, 67, 1336] (by decide +kernel) (by decide +kernel), by decide +kernel⟩
theorem vo_X12_114 : VO RX12 114 11 MX12_clears 2 := ⟨_, ko_X12.1, tb_all _ [1330, 1332, 19, 67, 1333] (by decide +kernel) (by decide +kernel), by decide +kernel⟩
theorem vo_X12_118 : VO RX12 118 11 MX12_isState 2 := ⟨_, ko_X12.1, tb_all _ [1341, 1343, 20, 67, 1344] (by decide +kernel) (by decide +kernel), by decide +kernel⟩
theorem so_X12_122 : SO RX12 122 MX12_isLetter 1 := ⟨tb_all _ [1345, 1346, 67, 1347] (by decide +kernel) (by decide +kernel), by decide +kernel⟩
theorem vo_X12_125 : VO RX12 125 11 MX12_not 1 := ⟨_, ko_X12.1, tb_all _ [1352, 1354, 21, 67, 1355] (by decide +kernel) (by decide +kernel), by decide +kernel⟩
theorem vo_X12_128 : VO RX12 128 11 MX12_so 1 := ⟨_, ko_X12.1, tb_all _ [1356, 1358, 22, 67, 1359] (by decide +kernel) (by decide +kernel), by decide +kernel⟩
theorem vo_X12_132 : VO RX12 132 11 MX12_done 1 := ⟨_, ko_X12.1, tb_all _ [1364, 1366, 23, 67, 1367] (by decide +kernel) (by decide +kernel), by decide +kernel⟩
theorem vo_X12_136 : VO RX12 136 11 MX12_fails 1 := ⟨_, ko_X12.1, tb_all _ [1368, 1370, 24, 67, 1371] (by decide +kernel) (by decide +kernel), by decide +kernel⟩
theorem vo_X12_143 : VO RX12 143 11 MX12_draw 1 := ⟨_, ko_X12.1, tb_all _ [1384, 1386, 25, 67, 1387] (by decide +kernel) (by decide +kernel), by decide +kernel⟩
theorem vo_X12_149 : VO RX12 149 11 MX12_stateBy 2 := ⟨_, ko_X12.1, tb_all _ [1409, 1411, 26, 67, 1412] (by decide +kernel) (by decide +kernel), by decide +kernel⟩
theorem vo_X12_159 : VO RX12 159 11 MX12_concatenated 2 := ⟨_, ko_X12.1, tb_all _ [1425, 1427, 29, 67, 1428] (by decide +kernel) (by decide +kernel), by decide +kernel⟩
theorem vo_X12_165 : VO RX12 165 11 MX12_finalStates 0 := ⟨_, ko_X12.1, tb_all _ [1430, 1432, 30, 67, 1433] (by decide +kernel) (by decide +kernel), by decide +kernel⟩
theorem so_X12_181 : SO RX12 181 MX12_led 4 := ⟨tb_all _ [1443, 1444, 67, 1445] (by decide +kernel) (by decide +kernel), by decide +kernel⟩
theorem vo_X12_185 : VO RX12 185 11 MX12_starAfter 2 := ⟨_, ko_X12.1, tb_all _ [1446, 1448, 33, 67, 1449] (by decide +kernel) (by decide +kernel), by decide +kernel⟩
theorem vo_X12_189 : VO RX12 189 11 MX12_ledBack 2 := ⟨_, ko_X12.1, tb_all _ [1450, 1452, 34, 67, 1453] (by decide +kernel) (by decide +kernel), by decide +kernel⟩
theorem vo_X12_192 : VO RX12 192 11 MX12_atomsAfter 2 := ⟨_, ko_X12.1, tb_all _ [1454, 1456, 35, 67, 1457] (by decide +kernel) (by decide +kernel), by decide +kernel⟩
theorem vo_X12_198 : VO RX12 198 11 MX12_hasFinal 2 := ⟨_, ko_X12.1, tb_all _ [1462, 1464, 37, 67, 1465] (by decide +kernel) (by decide +kernel), by decide +kernel⟩
theorem vo_X12_205 : VO RX12 205 11 MX12_firstKey 0 := ⟨_, ko_X12.1, tb_all _ [1421, 1423, 28, 67, 1424] (by decide +kernel) (by decide +kernel), by decide +kernel⟩
theorem vo_X12_208 : VO RX12 208 11 MX12_nodeOf 1 := ⟨_, ko_X12.1, tb_all _ [1434, 1436, 31, 67, 1437] (by decide +kernel) (by decide +kernel), by decide +kernel⟩
theorem vo_X12_212 : VO RX12 212 11 MX12_keyAfter 2 := ⟨_, ko_X12.1, tb_all _ [1438, 1440, 32, 67, 1441] (by decide +kernel) (by decide +kernel), by decide +kernel⟩
theorem vo_X12_215 : VO RX12 215 11 MX12_isEnd 1 := ⟨_, ko_X12.1, tb_all _ [1458, 1460, 36, 67, 1461] (by decide +kernel) (by decide +kernel), by decide +kernel⟩
theorem vo_X12_219 : VO RX12 219 11 MX12_parts 0 := ⟨_, ko_X12.1, tb_all _ [1466, 1468, 38, 67, 1469] (by decide +kernel) (by decide +kernel), by decide +kernel⟩
theorem vo_X12_225 : VO RX12 225 11 MX12_isAlike 2 := ⟨_, ko_X12.1, tb_all _ [1470, 1472, 39, 67, 1473] (by decide +kernel) (by decide +kernel), by decide +kernel⟩
theorem vo_X12_228 : VO RX12 228 11 MX12_nodeOfClass 1 := ⟨_, ko_X12.1, tb_all _ [1482, 1484, 41, 67, 1485] (by decide +kernel) (by decide +kernel), by decide +kernel⟩
theorem vo_X12_231 : VO RX12 231 11 MX12_makes 3 := ⟨_, ko_X12.1, tb_all _ [1417, 1419, 27, 67, 1420] (by decide +kernel) (by decide +kernel), by decide +kernel⟩
theorem vo_X12_235 : VO RX12 235 11 MX12_stores 1 := ⟨_, ko_X12.1, tb_all _ [1478, 1480, 40, 67, 1481] (by decide +kernel) (by decide +kernel), by decide +kernel⟩
theorem vo_X12_241 : VO RX12 241 11 MX12_ofStates 1 := ⟨_, ko_X12.1, tb_all _ [1498, 1500, 43, 67, 1501] (by decide +kernel) (by decide +kernel), by decide +kernel⟩
theorem vo_X12_244 : VO RX12 244 11 MX12_tellAtoms 1 := ⟨_, ko_X12.1, tb_all _ [1494, 1496, 42, 67, 1497] (by decide +kernel) (by decide +kernel), by decide +kernel⟩
theorem vo_X12_248 : VO RX12 248 11 MX12_isAtom 1 := ⟨_, ko_X12.1, tb_all _ [1506, 1508, 44, 67, 1509] (by decide +kernel) (by decide +kernel), by decide +kernel⟩
theorem vo_X12_251 : VO RX12 251 11 MX12_numberOf 1 := ⟨_, ko_X12.1, tb_all _ [1514, 1516, 45, 67, 1517] (by decide +kernel) (by decide +kernel), by decide +kernel⟩
theorem vo_X12_254 : VO RX12 254 11 MX12_setAhead 3 := ⟨_, ko_X12.1, tb_all _ [1526, 1528, 47, 67, 1529] (by decide +kernel) (by decide +kernel), by decide +kernel⟩
theorem vo_X12_257 : VO RX12 257 11 MX12_tellAtomMachine 1 := ⟨_, ko_X12.1, tb_all _ [1522, 1524, 46, 67, 1525] (by decide +kernel) (by decide +kernel), by decide +kernel⟩
theorem vo_X12_260 : VO RX12 260 11 MX12_firstWord 0 := ⟨_, ko_X12.1, tb_all _ [1542, 1544, 48, 67, 1545] (by decide +kernel) (by decide +kernel), by decide +kernel⟩
theorem vo_X12_264 : VO RX12 264 11 MX12_isSmall 0 := ⟨_, ko_X12.1, tb_all _ [1574, 1576, 49, 67, 1577] (by decide +kernel) (by decide +kernel), by decide +kernel⟩
theorem vo_X12_271 : VO RX12 271 11 MX12_finalsOf 1 := ⟨_, ko_X12.1, tb_all _ [1582, 1584, 50, 67, 1585] (by decide +kernel) (by decide +kernel), by decide +kernel⟩
theorem vo_X12_274 : VO RX12 274 11 MX12_meets 2 := ⟨_, ko_X12.1, tb_all _ [1586, 1588, 51, 67, 1589] (by decide +kernel) (by decide +kernel), by decide +kernel⟩
theorem vo_X12_277 : VO RX12 277 11 MX12_backFrom 3 := ⟨_, ko_X12.1, tb_all _ [1590, 1592, 52, 67, 1593] (by decide +kernel) (by decide +kernel), by decide +kernel⟩
theorem vo_X12_282 : VO RX12 282 11 MX12_shareOf 2 := ⟨_, ko_X12.1, tb_all _ [1602, 1604, 53, 67, 1605] (by decide +kernel) (by decide +kernel), by decide +kernel⟩
theorem kc_X1_51 : Cond.constant RX1 51 (1103515245) ∈ TB := tb_in 605 (by decide +kernel) (by decide +kernel)
theorem kc_X5_82 : Cond.constantLong RX5 82 (384) ∈ TB := tb_in 786 (by decide +kernel) (by decide +kernel)
theorem kc_X3_26 : Cond.constantLong RX3 26 (-7046029254386353131) ∈ TB := tb_in 791 (by decide +kernel) (by decide +kernel)
theorem kc_J13_314 : Cond.constantLong RJ13 314 (6148914691236517205) ∈ TB := tb_in 880 (by decide +kernel) (by decide +kernel)
theorem kc_J13_316 : Cond.constantLong RJ13 316 (3689348814741910323) ∈ TB := tb_in 881 (by decide +kernel) (by decide +kernel)
theorem kc_J13_318 : Cond.constantLong RJ13 318 (1085102592571150095) ∈ TB := tb_in 882 (by decide +kernel) (by decide +kernel)
theorem kc_X0_147 : Cond.constantLong RX0 147 (-1) ∈ TB := tb_in 955 (by decide +kernel) (by decide +kernel)
theorem kc_X7_51 : Cond.constantLong RX7 51 (3) ∈ TB := tb_in 1124 (by decide +kernel) (by decide +kernel)
theorem kc_X12_142 : Cond.constant RX12 142 (1103515245) ∈ TB := tb_in 1388 (by decide +kernel) (by decide +kernel)
theorem kc_X12_163 : Cond.constantLong RX12 163 (64) ∈ TB := tb_in 1429 (by decide +kernel) (by decide +kernel)
theorem kc_X12_176 : Cond.constantLong RX12 176 (7) ∈ TB := tb_in 1442 (by decide +kernel) (by decide +kernel)
theorem kc_X12_280 : Cond.constantLong RX12 280 (3) ∈ TB := tb_in 1606 (by decide +kernel) (by decide +kernel)
theorem kc_L_238 : Cond.constantLong RL 238 (4294967295) ∈ TB := tb_in 1623 (by decide +kernel) (by decide +kernel)
end
