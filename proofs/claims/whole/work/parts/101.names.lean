-- ===== PART A: goes FIRST, ahead of the names: the tables' words, and 'selects' of the private methods out of them =====
/-- a private method of a class that the tables say can be made, by its rows of tables_1 -/
def lw_okq (q : MethodName × Nat) : Prop := (q.1.cls ≠ "java/lang/invoke/MethodHandle" ∧ q.1.cls ≠ "java/lang/invoke/VarHandle") ∧ Cond.instantiable q.1.cls q.2 ∈ tables_1 ∧ Cond.privateMethod q.1 ∈ tables_1 ∧ Cond.instanceMethod q.1 ∈ tables_1
theorem lw_p0 : lw_okq (⟨"MiddleUnseen", "oddsOf", "(I)J"⟩, 15) := ⟨⟨by decide +kernel, by decide +kernel⟩, List.mem_of_getElem? (i := 24) (by decide +kernel), List.mem_of_getElem? (i := 434) (by decide +kernel), List.mem_of_getElem? (i := 435) (by decide +kernel)⟩
theorem lw_p1 : lw_okq (⟨"MiddleUnseen", "isHeard", "(I)Z"⟩, 15) := ⟨⟨by decide +kernel, by decide +kernel⟩, List.mem_of_getElem? (i := 24) (by decide +kernel), List.mem_of_getElem? (i := 438) (by decide +kernel), List.mem_of_getElem? (i := 439) (by decide +kernel)⟩
theorem lw_p2 : lw_okq (⟨"MiddleUnseen", "sceneFor", "(I)LMiddleUnseen$Scene;"⟩, 15) := ⟨⟨by decide +kernel, by decide +kernel⟩, List.mem_of_getElem? (i := 24) (by decide +kernel), List.mem_of_getElem? (i := 442) (by decide +kernel), List.mem_of_getElem? (i := 443) (by decide +kernel)⟩
theorem lw_p3 : lw_okq (⟨"MiddleUnseen", "stateOf", "(II)I"⟩, 15) := ⟨⟨by decide +kernel, by decide +kernel⟩, List.mem_of_getElem? (i := 24) (by decide +kernel), List.mem_of_getElem? (i := 454) (by decide +kernel), List.mem_of_getElem? (i := 455) (by decide +kernel)⟩
theorem lw_p4 : lw_okq (⟨"MiddleUnseen", "lookAs", "(II)V"⟩, 15) := ⟨⟨by decide +kernel, by decide +kernel⟩, List.mem_of_getElem? (i := 24) (by decide +kernel), List.mem_of_getElem? (i := 458) (by decide +kernel), List.mem_of_getElem? (i := 459) (by decide +kernel)⟩
theorem lw_p5 : lw_okq (⟨"MiddleUnseen$View", "follow", "(I)V"⟩, 10) := ⟨⟨by decide +kernel, by decide +kernel⟩, List.mem_of_getElem? (i := 202) (by decide +kernel), List.mem_of_getElem? (i := 470) (by decide +kernel), List.mem_of_getElem? (i := 471) (by decide +kernel)⟩
theorem lw_p6 : lw_okq (⟨"MiddleUnseen$View", "clearLatest", "(I)V"⟩, 10) := ⟨⟨by decide +kernel, by decide +kernel⟩, List.mem_of_getElem? (i := 202) (by decide +kernel), List.mem_of_getElem? (i := 474) (by decide +kernel), List.mem_of_getElem? (i := 475) (by decide +kernel)⟩
theorem lw_p7 : lw_okq (⟨"MiddleUnseen$Scene", "isCell", "(II)Z"⟩, 14) := ⟨⟨by decide +kernel, by decide +kernel⟩, List.mem_of_getElem? (i := 208) (by decide +kernel), List.mem_of_getElem? (i := 486) (by decide +kernel), List.mem_of_getElem? (i := 487) (by decide +kernel)⟩
theorem lw_p8 : lw_okq (⟨"MiddleUnseen$View", "shut", "(II)V"⟩, 10) := ⟨⟨by decide +kernel, by decide +kernel⟩, List.mem_of_getElem? (i := 202) (by decide +kernel), List.mem_of_getElem? (i := 497) (by decide +kernel), List.mem_of_getElem? (i := 498) (by decide +kernel)⟩
theorem lw_p9 : lw_okq (⟨"MiddleUnseen$Sight", "work", "(LMiddleUnseen$Law;II)I"⟩, 6) := ⟨⟨by decide +kernel, by decide +kernel⟩, List.mem_of_getElem? (i := 339) (by decide +kernel), List.mem_of_getElem? (i := 537) (by decide +kernel), List.mem_of_getElem? (i := 538) (by decide +kernel)⟩
theorem lw_p10 : lw_okq (⟨"MiddleUnseen$Sight", "drawNow", "()I"⟩, 6) := ⟨⟨by decide +kernel, by decide +kernel⟩, List.mem_of_getElem? (i := 339) (by decide +kernel), List.mem_of_getElem? (i := 548) (by decide +kernel), List.mem_of_getElem? (i := 549) (by decide +kernel)⟩
theorem lw_p11 : lw_okq (⟨"MiddleUnseen$Sight", "lastOf", "(LMiddleUnseen$Law;IIII)I"⟩, 6) := ⟨⟨by decide +kernel, by decide +kernel⟩, List.mem_of_getElem? (i := 339) (by decide +kernel), List.mem_of_getElem? (i := 554) (by decide +kernel), List.mem_of_getElem? (i := 555) (by decide +kernel)⟩
theorem lw_p12 : lw_okq (⟨"MiddleUnseen$Sight", "addFrom", "(LMiddleUnseen$Law;III)V"⟩, 6) := ⟨⟨by decide +kernel, by decide +kernel⟩, List.mem_of_getElem? (i := 339) (by decide +kernel), List.mem_of_getElem? (i := 558) (by decide +kernel), List.mem_of_getElem? (i := 559) (by decide +kernel)⟩
theorem lw_p13 : lw_okq (⟨"MiddleUnseen", "lesserOdds", "(II)J"⟩, 15) := ⟨⟨by decide +kernel, by decide +kernel⟩, List.mem_of_getElem? (i := 24) (by decide +kernel), List.mem_of_getElem? (i := 569) (by decide +kernel), List.mem_of_getElem? (i := 570) (by decide +kernel)⟩
theorem lw_p14 : lw_okq (⟨"MiddleUnseen", "stateOfNew", "(III)I"⟩, 15) := ⟨⟨by decide +kernel, by decide +kernel⟩, List.mem_of_getElem? (i := 24) (by decide +kernel), List.mem_of_getElem? (i := 573) (by decide +kernel), List.mem_of_getElem? (i := 574) (by decide +kernel)⟩
theorem lw_p15 : lw_okq (⟨"MiddleUnseen", "forgetStates", "(I)V"⟩, 15) := ⟨⟨by decide +kernel, by decide +kernel⟩, List.mem_of_getElem? (i := 24) (by decide +kernel), List.mem_of_getElem? (i := 595) (by decide +kernel), List.mem_of_getElem? (i := 596) (by decide +kernel)⟩
def lw_privs_1 : List (MethodName × Nat) := [(⟨"MiddleUnseen", "oddsOf", "(I)J"⟩, 15), (⟨"MiddleUnseen", "isHeard", "(I)Z"⟩, 15), (⟨"MiddleUnseen", "sceneFor", "(I)LMiddleUnseen$Scene;"⟩, 15), (⟨"MiddleUnseen", "stateOf", "(II)I"⟩, 15), (⟨"MiddleUnseen", "lookAs", "(II)V"⟩, 15), (⟨"MiddleUnseen$View", "follow", "(I)V"⟩, 10), (⟨"MiddleUnseen$View", "clearLatest", "(I)V"⟩, 10), (⟨"MiddleUnseen$Scene", "isCell", "(II)Z"⟩, 14), (⟨"MiddleUnseen$View", "shut", "(II)V"⟩, 10), (⟨"MiddleUnseen$Sight", "work", "(LMiddleUnseen$Law;II)I"⟩, 6), (⟨"MiddleUnseen$Sight", "drawNow", "()I"⟩, 6), (⟨"MiddleUnseen$Sight", "lastOf", "(LMiddleUnseen$Law;IIII)I"⟩, 6), (⟨"MiddleUnseen$Sight", "addFrom", "(LMiddleUnseen$Law;III)V"⟩, 6), (⟨"MiddleUnseen", "lesserOdds", "(II)J"⟩, 15), (⟨"MiddleUnseen", "stateOfNew", "(III)I"⟩, 15), (⟨"MiddleUnseen", "forgetStates", "(I)V"⟩, 15)]
theorem lw_r1 : ∀ q ∈ lw_privs_1, lw_okq q := List.forall_mem_cons.mpr ⟨lw_p0, List.forall_mem_cons.mpr ⟨lw_p1, List.forall_mem_cons.mpr ⟨lw_p2, List.forall_mem_cons.mpr ⟨lw_p3, List.forall_mem_cons.mpr ⟨lw_p4, List.forall_mem_cons.mpr ⟨lw_p5, List.forall_mem_cons.mpr ⟨lw_p6, List.forall_mem_cons.mpr ⟨lw_p7, List.forall_mem_cons.mpr ⟨lw_p8, List.forall_mem_cons.mpr ⟨lw_p9, List.forall_mem_cons.mpr ⟨lw_p10, List.forall_mem_cons.mpr ⟨lw_p11, List.forall_mem_cons.mpr ⟨lw_p12, List.forall_mem_cons.mpr ⟨lw_p13, List.forall_mem_cons.mpr ⟨lw_p14, List.forall_mem_cons.mpr ⟨lw_p15, fun _ h => absurd h List.not_mem_nil⟩⟩⟩⟩⟩⟩⟩⟩⟩⟩⟩⟩⟩⟩⟩⟩
theorem lw_p16 : lw_okq (⟨"java/lang/Throwable", "fillInStackTrace", "(I)Ljava/lang/Throwable;"⟩, 6) := ⟨⟨by decide +kernel, by decide +kernel⟩, List.mem_of_getElem? (i := 652) (by decide +kernel), List.mem_of_getElem? (i := 650) (by decide +kernel), List.mem_of_getElem? (i := 651) (by decide +kernel)⟩
theorem lw_p17 : lw_okq (⟨"MiddleUnseen$Tape", "skipBlanks", "()V"⟩, 7) := ⟨⟨by decide +kernel, by decide +kernel⟩, List.mem_of_getElem? (i := 32) (by decide +kernel), List.mem_of_getElem? (i := 694) (by decide +kernel), List.mem_of_getElem? (i := 695) (by decide +kernel)⟩
theorem lw_p18 : lw_okq (⟨"MiddleUnseen$Tape", "isAt", "(ICC)Z"⟩, 7) := ⟨⟨by decide +kernel, by decide +kernel⟩, List.mem_of_getElem? (i := 32) (by decide +kernel), List.mem_of_getElem? (i := 698) (by decide +kernel), List.mem_of_getElem? (i := 699) (by decide +kernel)⟩
theorem lw_p19 : lw_okq (⟨"MiddleUnseen$Tape", "wordIn", "(Ljava/lang/String;I)I"⟩, 7) := ⟨⟨by decide +kernel, by decide +kernel⟩, List.mem_of_getElem? (i := 32) (by decide +kernel), List.mem_of_getElem? (i := 702) (by decide +kernel), List.mem_of_getElem? (i := 703) (by decide +kernel)⟩
theorem lw_p20 : lw_okq (⟨"MiddleUnseen$Scene", "readClause", "(ILMiddleUnseen$Tape;)V"⟩, 14) := ⟨⟨by decide +kernel, by decide +kernel⟩, List.mem_of_getElem? (i := 208) (by decide +kernel), List.mem_of_getElem? (i := 758) (by decide +kernel), List.mem_of_getElem? (i := 759) (by decide +kernel)⟩
theorem lw_p21 : lw_okq (⟨"MiddleUnseen$Scene", "readThing", "(LMiddleUnseen$Tape;)V"⟩, 14) := ⟨⟨by decide +kernel, by decide +kernel⟩, List.mem_of_getElem? (i := 208) (by decide +kernel), List.mem_of_getElem? (i := 762) (by decide +kernel), List.mem_of_getElem? (i := 763) (by decide +kernel)⟩
theorem lw_p22 : lw_okq (⟨"MiddleUnseen$Scene", "readWay", "(LMiddleUnseen$Tape;)V"⟩, 14) := ⟨⟨by decide +kernel, by decide +kernel⟩, List.mem_of_getElem? (i := 208) (by decide +kernel), List.mem_of_getElem? (i := 777) (by decide +kernel), List.mem_of_getElem? (i := 778) (by decide +kernel)⟩
theorem lw_p23 : lw_okq (⟨"MiddleUnseen$Scene", "readThrow", "(LMiddleUnseen$Tape;)V"⟩, 14) := ⟨⟨by decide +kernel, by decide +kernel⟩, List.mem_of_getElem? (i := 208) (by decide +kernel), List.mem_of_getElem? (i := 782) (by decide +kernel), List.mem_of_getElem? (i := 783) (by decide +kernel)⟩
theorem lw_p24 : lw_okq (⟨"MiddleUnseen$Scene", "readTurn", "(LMiddleUnseen$Tape;)V"⟩, 14) := ⟨⟨by decide +kernel, by decide +kernel⟩, List.mem_of_getElem? (i := 208) (by decide +kernel), List.mem_of_getElem? (i := 786) (by decide +kernel), List.mem_of_getElem? (i := 787) (by decide +kernel)⟩
theorem lw_p25 : lw_okq (⟨"MiddleUnseen$Scene", "settleWay", "(I)V"⟩, 14) := ⟨⟨by decide +kernel, by decide +kernel⟩, List.mem_of_getElem? (i := 208) (by decide +kernel), List.mem_of_getElem? (i := 803) (by decide +kernel), List.mem_of_getElem? (i := 804) (by decide +kernel)⟩
theorem lw_p26 : lw_okq (⟨"MiddleUnseen$Scene", "settleTints", "(I)V"⟩, 14) := ⟨⟨by decide +kernel, by decide +kernel⟩, List.mem_of_getElem? (i := 208) (by decide +kernel), List.mem_of_getElem? (i := 810) (by decide +kernel), List.mem_of_getElem? (i := 811) (by decide +kernel)⟩
theorem lw_p27 : lw_okq (⟨"MiddleUnseen$Task", "put", "(II)V"⟩, 5) := ⟨⟨by decide +kernel, by decide +kernel⟩, List.mem_of_getElem? (i := 271) (by decide +kernel), List.mem_of_getElem? (i := 829) (by decide +kernel), List.mem_of_getElem? (i := 830) (by decide +kernel)⟩
theorem lw_p28 : lw_okq (⟨"MiddleUnseen$LawReader", "readClause", "(II)V"⟩, 2) := ⟨⟨by decide +kernel, by decide +kernel⟩, List.mem_of_getElem? (i := 72) (by decide +kernel), List.mem_of_getElem? (i := 848) (by decide +kernel), List.mem_of_getElem? (i := 849) (by decide +kernel)⟩
theorem lw_p29 : lw_okq (⟨"MiddleUnseen$LawReader", "readSum", "(I)V"⟩, 2) := ⟨⟨by decide +kernel, by decide +kernel⟩, List.mem_of_getElem? (i := 72) (by decide +kernel), List.mem_of_getElem? (i := 852) (by decide +kernel), List.mem_of_getElem? (i := 853) (by decide +kernel)⟩
theorem lw_p30 : lw_okq (⟨"MiddleUnseen$LawReader", "readProduct", "(I)V"⟩, 2) := ⟨⟨by decide +kernel, by decide +kernel⟩, List.mem_of_getElem? (i := 72) (by decide +kernel), List.mem_of_getElem? (i := 856) (by decide +kernel), List.mem_of_getElem? (i := 857) (by decide +kernel)⟩
theorem lw_p31 : lw_okq (⟨"MiddleUnseen$LawReader", "readUnit", "(I)V"⟩, 2) := ⟨⟨by decide +kernel, by decide +kernel⟩, List.mem_of_getElem? (i := 72) (by decide +kernel), List.mem_of_getElem? (i := 860) (by decide +kernel), List.mem_of_getElem? (i := 861) (by decide +kernel)⟩
def lw_privs_2 : List (MethodName × Nat) := [(⟨"java/lang/Throwable", "fillInStackTrace", "(I)Ljava/lang/Throwable;"⟩, 6), (⟨"MiddleUnseen$Tape", "skipBlanks", "()V"⟩, 7), (⟨"MiddleUnseen$Tape", "isAt", "(ICC)Z"⟩, 7), (⟨"MiddleUnseen$Tape", "wordIn", "(Ljava/lang/String;I)I"⟩, 7), (⟨"MiddleUnseen$Scene", "readClause", "(ILMiddleUnseen$Tape;)V"⟩, 14), (⟨"MiddleUnseen$Scene", "readThing", "(LMiddleUnseen$Tape;)V"⟩, 14), (⟨"MiddleUnseen$Scene", "readWay", "(LMiddleUnseen$Tape;)V"⟩, 14), (⟨"MiddleUnseen$Scene", "readThrow", "(LMiddleUnseen$Tape;)V"⟩, 14), (⟨"MiddleUnseen$Scene", "readTurn", "(LMiddleUnseen$Tape;)V"⟩, 14), (⟨"MiddleUnseen$Scene", "settleWay", "(I)V"⟩, 14), (⟨"MiddleUnseen$Scene", "settleTints", "(I)V"⟩, 14), (⟨"MiddleUnseen$Task", "put", "(II)V"⟩, 5), (⟨"MiddleUnseen$LawReader", "readClause", "(II)V"⟩, 2), (⟨"MiddleUnseen$LawReader", "readSum", "(I)V"⟩, 2), (⟨"MiddleUnseen$LawReader", "readProduct", "(I)V"⟩, 2), (⟨"MiddleUnseen$LawReader", "readUnit", "(I)V"⟩, 2)]
theorem lw_r2 : ∀ q ∈ lw_privs_2, lw_okq q := List.forall_mem_cons.mpr ⟨lw_p16, List.forall_mem_cons.mpr ⟨lw_p17, List.forall_mem_cons.mpr ⟨lw_p18, List.forall_mem_cons.mpr ⟨lw_p19, List.forall_mem_cons.mpr ⟨lw_p20, List.forall_mem_cons.mpr ⟨lw_p21, List.forall_mem_cons.mpr ⟨lw_p22, List.forall_mem_cons.mpr ⟨lw_p23, List.forall_mem_cons.mpr ⟨lw_p24, List.forall_mem_cons.mpr ⟨lw_p25, List.forall_mem_cons.mpr ⟨lw_p26, List.forall_mem_cons.mpr ⟨lw_p27, List.forall_mem_cons.mpr ⟨lw_p28, List.forall_mem_cons.mpr ⟨lw_p29, List.forall_mem_cons.mpr ⟨lw_p30, List.forall_mem_cons.mpr ⟨lw_p31, fun _ h => absurd h List.not_mem_nil⟩⟩⟩⟩⟩⟩⟩⟩⟩⟩⟩⟩⟩⟩⟩⟩
theorem lw_p32 : lw_okq (⟨"MiddleUnseen$LawReader", "isTooDeep", "(I)Z"⟩, 2) := ⟨⟨by decide +kernel, by decide +kernel⟩, List.mem_of_getElem? (i := 72) (by decide +kernel), List.mem_of_getElem? (i := 875) (by decide +kernel), List.mem_of_getElem? (i := 876) (by decide +kernel)⟩
theorem lw_p33 : lw_okq (⟨"MiddleUnseen$LawReader", "readEither", "(I)V"⟩, 2) := ⟨⟨by decide +kernel, by decide +kernel⟩, List.mem_of_getElem? (i := 72) (by decide +kernel), List.mem_of_getElem? (i := 886) (by decide +kernel), List.mem_of_getElem? (i := 887) (by decide +kernel)⟩
theorem lw_p34 : lw_okq (⟨"MiddleUnseen$LawReader", "readBoth", "(I)V"⟩, 2) := ⟨⟨by decide +kernel, by decide +kernel⟩, List.mem_of_getElem? (i := 72) (by decide +kernel), List.mem_of_getElem? (i := 890) (by decide +kernel), List.mem_of_getElem? (i := 891) (by decide +kernel)⟩
theorem lw_p35 : lw_okq (⟨"MiddleUnseen$LawReader", "readOne", "(I)V"⟩, 2) := ⟨⟨by decide +kernel, by decide +kernel⟩, List.mem_of_getElem? (i := 72) (by decide +kernel), List.mem_of_getElem? (i := 894) (by decide +kernel), List.mem_of_getElem? (i := 895) (by decide +kernel)⟩
theorem lw_p36 : lw_okq (⟨"MiddleUnseen", "requireScene", "(I)V"⟩, 15) := ⟨⟨by decide +kernel, by decide +kernel⟩, List.mem_of_getElem? (i := 24) (by decide +kernel), List.mem_of_getElem? (i := 914) (by decide +kernel), List.mem_of_getElem? (i := 915) (by decide +kernel)⟩
theorem lw_p37 : lw_okq (⟨"MiddleUnseen", "requireTask", "(I)V"⟩, 15) := ⟨⟨by decide +kernel, by decide +kernel⟩, List.mem_of_getElem? (i := 24) (by decide +kernel), List.mem_of_getElem? (i := 960) (by decide +kernel), List.mem_of_getElem? (i := 961) (by decide +kernel)⟩
theorem lw_p38 : lw_okq (⟨"MiddleUnseen", "requireLooker", "(I)V"⟩, 15) := ⟨⟨by decide +kernel, by decide +kernel⟩, List.mem_of_getElem? (i := 24) (by decide +kernel), List.mem_of_getElem? (i := 1009) (by decide +kernel), List.mem_of_getElem? (i := 1010) (by decide +kernel)⟩
theorem lw_p39 : lw_okq (⟨"MiddleUnseen$View", "nearInTenth", "(II)I"⟩, 10) := ⟨⟨by decide +kernel, by decide +kernel⟩, List.mem_of_getElem? (i := 202) (by decide +kernel), List.mem_of_getElem? (i := 1046) (by decide +kernel), List.mem_of_getElem? (i := 1047) (by decide +kernel)⟩
theorem lw_p40 : lw_okq (⟨"MiddleUnseen", "requireLaw", "(I)V"⟩, 15) := ⟨⟨by decide +kernel, by decide +kernel⟩, List.mem_of_getElem? (i := 24) (by decide +kernel), List.mem_of_getElem? (i := 1065) (by decide +kernel), List.mem_of_getElem? (i := 1066) (by decide +kernel)⟩
theorem lw_p41 : lw_okq (⟨"MiddleUnseen$View", "isDropped", "()Z"⟩, 10) := ⟨⟨by decide +kernel, by decide +kernel⟩, List.mem_of_getElem? (i := 202) (by decide +kernel), List.mem_of_getElem? (i := 1107) (by decide +kernel), List.mem_of_getElem? (i := 1108) (by decide +kernel)⟩
theorem lw_p42 : lw_okq (⟨"MiddleUnseen", "changeSeen", "(II)I"⟩, 15) := ⟨⟨by decide +kernel, by decide +kernel⟩, List.mem_of_getElem? (i := 24) (by decide +kernel), List.mem_of_getElem? (i := 1130) (by decide +kernel), List.mem_of_getElem? (i := 1131) (by decide +kernel)⟩
theorem lw_p43 : lw_okq (⟨"MiddleUnseen", "wasOnIt", "(I)Z"⟩, 15) := ⟨⟨by decide +kernel, by decide +kernel⟩, List.mem_of_getElem? (i := 24) (by decide +kernel), List.mem_of_getElem? (i := 1145) (by decide +kernel), List.mem_of_getElem? (i := 1146) (by decide +kernel)⟩
theorem lw_p44 : lw_okq (⟨"MiddleUnseen", "lostBy", "(I)I"⟩, 15) := ⟨⟨by decide +kernel, by decide +kernel⟩, List.mem_of_getElem? (i := 24) (by decide +kernel), List.mem_of_getElem? (i := 1246) (by decide +kernel), List.mem_of_getElem? (i := 1247) (by decide +kernel)⟩
theorem lw_p45 : lw_okq (⟨"MiddleUnseen", "lostTogether", "(II)I"⟩, 15) := ⟨⟨by decide +kernel, by decide +kernel⟩, List.mem_of_getElem? (i := 24) (by decide +kernel), List.mem_of_getElem? (i := 1260) (by decide +kernel), List.mem_of_getElem? (i := 1261) (by decide +kernel)⟩
theorem lw_p46 : lw_okq (⟨"MiddleUnseen", "fitting", "(I)I"⟩, 15) := ⟨⟨by decide +kernel, by decide +kernel⟩, List.mem_of_getElem? (i := 24) (by decide +kernel), List.mem_of_getElem? (i := 1312) (by decide +kernel), List.mem_of_getElem? (i := 1313) (by decide +kernel)⟩
theorem lw_p47 : lw_okq (⟨"MiddleUnseenModel", "bad", "(ZI)Z"⟩, 43) := ⟨⟨by decide +kernel, by decide +kernel⟩, List.mem_of_getElem? (i := 1330) (by decide +kernel), List.mem_of_getElem? (i := 1483) (by decide +kernel), List.mem_of_getElem? (i := 1484) (by decide +kernel)⟩
def lw_privs_3 : List (MethodName × Nat) := [(⟨"MiddleUnseen$LawReader", "isTooDeep", "(I)Z"⟩, 2), (⟨"MiddleUnseen$LawReader", "readEither", "(I)V"⟩, 2), (⟨"MiddleUnseen$LawReader", "readBoth", "(I)V"⟩, 2), (⟨"MiddleUnseen$LawReader", "readOne", "(I)V"⟩, 2), (⟨"MiddleUnseen", "requireScene", "(I)V"⟩, 15), (⟨"MiddleUnseen", "requireTask", "(I)V"⟩, 15), (⟨"MiddleUnseen", "requireLooker", "(I)V"⟩, 15), (⟨"MiddleUnseen$View", "nearInTenth", "(II)I"⟩, 10), (⟨"MiddleUnseen", "requireLaw", "(I)V"⟩, 15), (⟨"MiddleUnseen$View", "isDropped", "()Z"⟩, 10), (⟨"MiddleUnseen", "changeSeen", "(II)I"⟩, 15), (⟨"MiddleUnseen", "wasOnIt", "(I)Z"⟩, 15), (⟨"MiddleUnseen", "lostBy", "(I)I"⟩, 15), (⟨"MiddleUnseen", "lostTogether", "(II)I"⟩, 15), (⟨"MiddleUnseen", "fitting", "(I)I"⟩, 15), (⟨"MiddleUnseenModel", "bad", "(ZI)Z"⟩, 43)]
theorem lw_r3 : ∀ q ∈ lw_privs_3, lw_okq q := List.forall_mem_cons.mpr ⟨lw_p32, List.forall_mem_cons.mpr ⟨lw_p33, List.forall_mem_cons.mpr ⟨lw_p34, List.forall_mem_cons.mpr ⟨lw_p35, List.forall_mem_cons.mpr ⟨lw_p36, List.forall_mem_cons.mpr ⟨lw_p37, List.forall_mem_cons.mpr ⟨lw_p38, List.forall_mem_cons.mpr ⟨lw_p39, List.forall_mem_cons.mpr ⟨lw_p40, List.forall_mem_cons.mpr ⟨lw_p41, List.forall_mem_cons.mpr ⟨lw_p42, List.forall_mem_cons.mpr ⟨lw_p43, List.forall_mem_cons.mpr ⟨lw_p44, List.forall_mem_cons.mpr ⟨lw_p45, List.forall_mem_cons.mpr ⟨lw_p46, List.forall_mem_cons.mpr ⟨lw_p47, fun _ h => absurd h List.not_mem_nil⟩⟩⟩⟩⟩⟩⟩⟩⟩⟩⟩⟩⟩⟩⟩⟩
theorem lw_p48 : lw_okq (⟨"MiddleUnseenModel", "isRead", "(IZ)Z"⟩, 43) := ⟨⟨by decide +kernel, by decide +kernel⟩, List.mem_of_getElem? (i := 1330) (by decide +kernel), List.mem_of_getElem? (i := 1487) (by decide +kernel), List.mem_of_getElem? (i := 1488) (by decide +kernel)⟩
theorem lw_p49 : lw_okq (⟨"MiddleUnseenModel", "begins", "(I)V"⟩, 43) := ⟨⟨by decide +kernel, by decide +kernel⟩, List.mem_of_getElem? (i := 1330) (by decide +kernel), List.mem_of_getElem? (i := 1491) (by decide +kernel), List.mem_of_getElem? (i := 1492) (by decide +kernel)⟩
theorem lw_p50 : lw_okq (⟨"MiddleUnseenModel", "blanks", "()V"⟩, 43) := ⟨⟨by decide +kernel, by decide +kernel⟩, List.mem_of_getElem? (i := 1330) (by decide +kernel), List.mem_of_getElem? (i := 1495) (by decide +kernel), List.mem_of_getElem? (i := 1496) (by decide +kernel)⟩
theorem lw_p51 : lw_okq (⟨"MiddleUnseenModel", "byteAt", "(I)I"⟩, 43) := ⟨⟨by decide +kernel, by decide +kernel⟩, List.mem_of_getElem? (i := 1330) (by decide +kernel), List.mem_of_getElem? (i := 1499) (by decide +kernel), List.mem_of_getElem? (i := 1500) (by decide +kernel)⟩
theorem lw_p52 : lw_okq (⟨"MiddleUnseenModel", "sceneClause", "()V"⟩, 43) := ⟨⟨by decide +kernel, by decide +kernel⟩, List.mem_of_getElem? (i := 1330) (by decide +kernel), List.mem_of_getElem? (i := 1503) (by decide +kernel), List.mem_of_getElem? (i := 1504) (by decide +kernel)⟩
theorem lw_p53 : lw_okq (⟨"MiddleUnseenModel", "sceneHere", "()I"⟩, 43) := ⟨⟨by decide +kernel, by decide +kernel⟩, List.mem_of_getElem? (i := 1330) (by decide +kernel), List.mem_of_getElem? (i := 1507) (by decide +kernel), List.mem_of_getElem? (i := 1508) (by decide +kernel)⟩
theorem lw_p54 : lw_okq (⟨"MiddleUnseenModel", "isWord", "(IIIIII)Z"⟩, 43) := ⟨⟨by decide +kernel, by decide +kernel⟩, List.mem_of_getElem? (i := 1330) (by decide +kernel), List.mem_of_getElem? (i := 1511) (by decide +kernel), List.mem_of_getElem? (i := 1512) (by decide +kernel)⟩
theorem lw_p55 : lw_okq (⟨"MiddleUnseenModel", "wordHere", "()I"⟩, 43) := ⟨⟨by decide +kernel, by decide +kernel⟩, List.mem_of_getElem? (i := 1330) (by decide +kernel), List.mem_of_getElem? (i := 1515) (by decide +kernel), List.mem_of_getElem? (i := 1516) (by decide +kernel)⟩
theorem lw_p56 : lw_okq (⟨"MiddleUnseenModel", "needs", "(II)V"⟩, 43) := ⟨⟨by decide +kernel, by decide +kernel⟩, List.mem_of_getElem? (i := 1330) (by decide +kernel), List.mem_of_getElem? (i := 1522) (by decide +kernel), List.mem_of_getElem? (i := 1523) (by decide +kernel)⟩
theorem lw_p57 : lw_okq (⟨"MiddleUnseenModel", "wrongAt", "(II)V"⟩, 43) := ⟨⟨by decide +kernel, by decide +kernel⟩, List.mem_of_getElem? (i := 1330) (by decide +kernel), List.mem_of_getElem? (i := 1526) (by decide +kernel), List.mem_of_getElem? (i := 1527) (by decide +kernel)⟩
theorem lw_p58 : lw_okq (⟨"MiddleUnseenModel", "skipWord", "()V"⟩, 43) := ⟨⟨by decide +kernel, by decide +kernel⟩, List.mem_of_getElem? (i := 1330) (by decide +kernel), List.mem_of_getElem? (i := 1530) (by decide +kernel), List.mem_of_getElem? (i := 1531) (by decide +kernel)⟩
theorem lw_p59 : lw_okq (⟨"MiddleUnseenModel", "number", "(III)I"⟩, 43) := ⟨⟨by decide +kernel, by decide +kernel⟩, List.mem_of_getElem? (i := 1330) (by decide +kernel), List.mem_of_getElem? (i := 1534) (by decide +kernel), List.mem_of_getElem? (i := 1535) (by decide +kernel)⟩
theorem lw_p60 : lw_okq (⟨"MiddleUnseenModel", "readsWay", "([I)V"⟩, 43) := ⟨⟨by decide +kernel, by decide +kernel⟩, List.mem_of_getElem? (i := 1330) (by decide +kernel), List.mem_of_getElem? (i := 1542) (by decide +kernel), List.mem_of_getElem? (i := 1543) (by decide +kernel)⟩
theorem lw_p61 : lw_okq (⟨"MiddleUnseenModel", "sign", "(I)V"⟩, 43) := ⟨⟨by decide +kernel, by decide +kernel⟩, List.mem_of_getElem? (i := 1330) (by decide +kernel), List.mem_of_getElem? (i := 1546) (by decide +kernel), List.mem_of_getElem? (i := 1547) (by decide +kernel)⟩
theorem lw_p62 : lw_okq (⟨"MiddleUnseenModel", "taskClause", "()V"⟩, 43) := ⟨⟨by decide +kernel, by decide +kernel⟩, List.mem_of_getElem? (i := 1330) (by decide +kernel), List.mem_of_getElem? (i := 1557) (by decide +kernel), List.mem_of_getElem? (i := 1558) (by decide +kernel)⟩
theorem lw_p63 : lw_okq (⟨"MiddleUnseenModel", "taskHere", "()I"⟩, 43) := ⟨⟨by decide +kernel, by decide +kernel⟩, List.mem_of_getElem? (i := 1330) (by decide +kernel), List.mem_of_getElem? (i := 1561) (by decide +kernel), List.mem_of_getElem? (i := 1562) (by decide +kernel)⟩
def lw_privs_4 : List (MethodName × Nat) := [(⟨"MiddleUnseenModel", "isRead", "(IZ)Z"⟩, 43), (⟨"MiddleUnseenModel", "begins", "(I)V"⟩, 43), (⟨"MiddleUnseenModel", "blanks", "()V"⟩, 43), (⟨"MiddleUnseenModel", "byteAt", "(I)I"⟩, 43), (⟨"MiddleUnseenModel", "sceneClause", "()V"⟩, 43), (⟨"MiddleUnseenModel", "sceneHere", "()I"⟩, 43), (⟨"MiddleUnseenModel", "isWord", "(IIIIII)Z"⟩, 43), (⟨"MiddleUnseenModel", "wordHere", "()I"⟩, 43), (⟨"MiddleUnseenModel", "needs", "(II)V"⟩, 43), (⟨"MiddleUnseenModel", "wrongAt", "(II)V"⟩, 43), (⟨"MiddleUnseenModel", "skipWord", "()V"⟩, 43), (⟨"MiddleUnseenModel", "number", "(III)I"⟩, 43), (⟨"MiddleUnseenModel", "readsWay", "([I)V"⟩, 43), (⟨"MiddleUnseenModel", "sign", "(I)V"⟩, 43), (⟨"MiddleUnseenModel", "taskClause", "()V"⟩, 43), (⟨"MiddleUnseenModel", "taskHere", "()I"⟩, 43)]
theorem lw_r4 : ∀ q ∈ lw_privs_4, lw_okq q := List.forall_mem_cons.mpr ⟨lw_p48, List.forall_mem_cons.mpr ⟨lw_p49, List.forall_mem_cons.mpr ⟨lw_p50, List.forall_mem_cons.mpr ⟨lw_p51, List.forall_mem_cons.mpr ⟨lw_p52, List.forall_mem_cons.mpr ⟨lw_p53, List.forall_mem_cons.mpr ⟨lw_p54, List.forall_mem_cons.mpr ⟨lw_p55, List.forall_mem_cons.mpr ⟨lw_p56, List.forall_mem_cons.mpr ⟨lw_p57, List.forall_mem_cons.mpr ⟨lw_p58, List.forall_mem_cons.mpr ⟨lw_p59, List.forall_mem_cons.mpr ⟨lw_p60, List.forall_mem_cons.mpr ⟨lw_p61, List.forall_mem_cons.mpr ⟨lw_p62, List.forall_mem_cons.mpr ⟨lw_p63, fun _ h => absurd h List.not_mem_nil⟩⟩⟩⟩⟩⟩⟩⟩⟩⟩⟩⟩⟩⟩⟩⟩
theorem lw_p64 : lw_okq (⟨"MiddleUnseenModel", "lawClauseHere", "()V"⟩, 43) := ⟨⟨by decide +kernel, by decide +kernel⟩, List.mem_of_getElem? (i := 1330) (by decide +kernel), List.mem_of_getElem? (i := 1569) (by decide +kernel), List.mem_of_getElem? (i := 1570) (by decide +kernel)⟩
theorem lw_p65 : lw_okq (⟨"MiddleUnseenModel", "lawHere", "()I"⟩, 43) := ⟨⟨by decide +kernel, by decide +kernel⟩, List.mem_of_getElem? (i := 1330) (by decide +kernel), List.mem_of_getElem? (i := 1573) (by decide +kernel), List.mem_of_getElem? (i := 1574) (by decide +kernel)⟩
theorem lw_p66 : lw_okq (⟨"MiddleUnseenModel", "sum", "()V"⟩, 43) := ⟨⟨by decide +kernel, by decide +kernel⟩, List.mem_of_getElem? (i := 1330) (by decide +kernel), List.mem_of_getElem? (i := 1577) (by decide +kernel), List.mem_of_getElem? (i := 1578) (by decide +kernel)⟩
theorem lw_p67 : lw_okq (⟨"MiddleUnseenModel", "product", "()V"⟩, 43) := ⟨⟨by decide +kernel, by decide +kernel⟩, List.mem_of_getElem? (i := 1330) (by decide +kernel), List.mem_of_getElem? (i := 1581) (by decide +kernel), List.mem_of_getElem? (i := 1582) (by decide +kernel)⟩
theorem lw_p68 : lw_okq (⟨"MiddleUnseenModel", "unit", "()V"⟩, 43) := ⟨⟨by decide +kernel, by decide +kernel⟩, List.mem_of_getElem? (i := 1330) (by decide +kernel), List.mem_of_getElem? (i := 1585) (by decide +kernel), List.mem_of_getElem? (i := 1586) (by decide +kernel)⟩
theorem lw_p69 : lw_okq (⟨"MiddleUnseenModel", "tells", "(I)V"⟩, 43) := ⟨⟨by decide +kernel, by decide +kernel⟩, List.mem_of_getElem? (i := 1330) (by decide +kernel), List.mem_of_getElem? (i := 1589) (by decide +kernel), List.mem_of_getElem? (i := 1590) (by decide +kernel)⟩
theorem lw_p70 : lw_okq (⟨"MiddleUnseenModel", "nameHere", "()I"⟩, 43) := ⟨⟨by decide +kernel, by decide +kernel⟩, List.mem_of_getElem? (i := 1330) (by decide +kernel), List.mem_of_getElem? (i := 1593) (by decide +kernel), List.mem_of_getElem? (i := 1594) (by decide +kernel)⟩
theorem lw_p71 : lw_okq (⟨"MiddleUnseenModel", "opens", "(I)V"⟩, 43) := ⟨⟨by decide +kernel, by decide +kernel⟩, List.mem_of_getElem? (i := 1330) (by decide +kernel), List.mem_of_getElem? (i := 1597) (by decide +kernel), List.mem_of_getElem? (i := 1598) (by decide +kernel)⟩
theorem lw_p72 : lw_okq (⟨"MiddleUnseenModel", "ors", "()V"⟩, 43) := ⟨⟨by decide +kernel, by decide +kernel⟩, List.mem_of_getElem? (i := 1330) (by decide +kernel), List.mem_of_getElem? (i := 1601) (by decide +kernel), List.mem_of_getElem? (i := 1602) (by decide +kernel)⟩
theorem lw_p73 : lw_okq (⟨"MiddleUnseenModel", "ands", "()V"⟩, 43) := ⟨⟨by decide +kernel, by decide +kernel⟩, List.mem_of_getElem? (i := 1330) (by decide +kernel), List.mem_of_getElem? (i := 1605) (by decide +kernel), List.mem_of_getElem? (i := 1606) (by decide +kernel)⟩
theorem lw_p74 : lw_okq (⟨"MiddleUnseenModel", "test", "()V"⟩, 43) := ⟨⟨by decide +kernel, by decide +kernel⟩, List.mem_of_getElem? (i := 1330) (by decide +kernel), List.mem_of_getElem? (i := 1609) (by decide +kernel), List.mem_of_getElem? (i := 1610) (by decide +kernel)⟩
theorem lw_p75 : lw_okq (⟨"MiddleUnseenModel", "isScene", "(I)Z"⟩, 43) := ⟨⟨by decide +kernel, by decide +kernel⟩, List.mem_of_getElem? (i := 1330) (by decide +kernel), List.mem_of_getElem? (i := 1621) (by decide +kernel), List.mem_of_getElem? (i := 1622) (by decide +kernel)⟩
theorem lw_p76 : lw_okq (⟨"MiddleUnseenModel", "countOf", "(II)I"⟩, 43) := ⟨⟨by decide +kernel, by decide +kernel⟩, List.mem_of_getElem? (i := 1330) (by decide +kernel), List.mem_of_getElem? (i := 1625) (by decide +kernel), List.mem_of_getElem? (i := 1626) (by decide +kernel)⟩
theorem lw_p77 : lw_okq (⟨"MiddleUnseenModel", "endOf", "(I)I"⟩, 43) := ⟨⟨by decide +kernel, by decide +kernel⟩, List.mem_of_getElem? (i := 1330) (by decide +kernel), List.mem_of_getElem? (i := 1629) (by decide +kernel), List.mem_of_getElem? (i := 1630) (by decide +kernel)⟩
theorem lw_p78 : lw_okq (⟨"MiddleUnseenModel", "oddOf", "(I)I"⟩, 43) := ⟨⟨by decide +kernel, by decide +kernel⟩, List.mem_of_getElem? (i := 1330) (by decide +kernel), List.mem_of_getElem? (i := 1636) (by decide +kernel), List.mem_of_getElem? (i := 1637) (by decide +kernel)⟩
theorem lw_p79 : lw_okq (⟨"MiddleUnseenModel", "turnsOf", "(I)I"⟩, 43) := ⟨⟨by decide +kernel, by decide +kernel⟩, List.mem_of_getElem? (i := 1330) (by decide +kernel), List.mem_of_getElem? (i := 1640) (by decide +kernel), List.mem_of_getElem? (i := 1641) (by decide +kernel)⟩
def lw_privs_5 : List (MethodName × Nat) := [(⟨"MiddleUnseenModel", "lawClauseHere", "()V"⟩, 43), (⟨"MiddleUnseenModel", "lawHere", "()I"⟩, 43), (⟨"MiddleUnseenModel", "sum", "()V"⟩, 43), (⟨"MiddleUnseenModel", "product", "()V"⟩, 43), (⟨"MiddleUnseenModel", "unit", "()V"⟩, 43), (⟨"MiddleUnseenModel", "tells", "(I)V"⟩, 43), (⟨"MiddleUnseenModel", "nameHere", "()I"⟩, 43), (⟨"MiddleUnseenModel", "opens", "(I)V"⟩, 43), (⟨"MiddleUnseenModel", "ors", "()V"⟩, 43), (⟨"MiddleUnseenModel", "ands", "()V"⟩, 43), (⟨"MiddleUnseenModel", "test", "()V"⟩, 43), (⟨"MiddleUnseenModel", "isScene", "(I)Z"⟩, 43), (⟨"MiddleUnseenModel", "countOf", "(II)I"⟩, 43), (⟨"MiddleUnseenModel", "endOf", "(I)I"⟩, 43), (⟨"MiddleUnseenModel", "oddOf", "(I)I"⟩, 43), (⟨"MiddleUnseenModel", "turnsOf", "(I)I"⟩, 43)]
theorem lw_r5 : ∀ q ∈ lw_privs_5, lw_okq q := List.forall_mem_cons.mpr ⟨lw_p64, List.forall_mem_cons.mpr ⟨lw_p65, List.forall_mem_cons.mpr ⟨lw_p66, List.forall_mem_cons.mpr ⟨lw_p67, List.forall_mem_cons.mpr ⟨lw_p68, List.forall_mem_cons.mpr ⟨lw_p69, List.forall_mem_cons.mpr ⟨lw_p70, List.forall_mem_cons.mpr ⟨lw_p71, List.forall_mem_cons.mpr ⟨lw_p72, List.forall_mem_cons.mpr ⟨lw_p73, List.forall_mem_cons.mpr ⟨lw_p74, List.forall_mem_cons.mpr ⟨lw_p75, List.forall_mem_cons.mpr ⟨lw_p76, List.forall_mem_cons.mpr ⟨lw_p77, List.forall_mem_cons.mpr ⟨lw_p78, List.forall_mem_cons.mpr ⟨lw_p79, fun _ h => absurd h List.not_mem_nil⟩⟩⟩⟩⟩⟩⟩⟩⟩⟩⟩⟩⟩⟩⟩⟩
theorem lw_p80 : lw_okq (⟨"MiddleUnseenModel", "placeOf", "(IIII)I"⟩, 43) := ⟨⟨by decide +kernel, by decide +kernel⟩, List.mem_of_getElem? (i := 1330) (by decide +kernel), List.mem_of_getElem? (i := 1648) (by decide +kernel), List.mem_of_getElem? (i := 1649) (by decide +kernel)⟩
theorem lw_p81 : lw_okq (⟨"MiddleUnseenModel", "wayOf", "(III)I"⟩, 43) := ⟨⟨by decide +kernel, by decide +kernel⟩, List.mem_of_getElem? (i := 1330) (by decide +kernel), List.mem_of_getElem? (i := 1652) (by decide +kernel), List.mem_of_getElem? (i := 1653) (by decide +kernel)⟩
theorem lw_p82 : lw_okq (⟨"MiddleUnseenModel", "colourOf", "(III)I"⟩, 43) := ⟨⟨by decide +kernel, by decide +kernel⟩, List.mem_of_getElem? (i := 1330) (by decide +kernel), List.mem_of_getElem? (i := 1656) (by decide +kernel), List.mem_of_getElem? (i := 1657) (by decide +kernel)⟩
theorem lw_p83 : lw_okq (⟨"MiddleUnseenModel", "paceOf", "(III)I"⟩, 43) := ⟨⟨by decide +kernel, by decide +kernel⟩, List.mem_of_getElem? (i := 1330) (by decide +kernel), List.mem_of_getElem? (i := 1660) (by decide +kernel), List.mem_of_getElem? (i := 1661) (by decide +kernel)⟩
theorem lw_p84 : lw_okq (⟨"MiddleUnseenModel", "isThere", "(III)Z"⟩, 43) := ⟨⟨by decide +kernel, by decide +kernel⟩, List.mem_of_getElem? (i := 1330) (by decide +kernel), List.mem_of_getElem? (i := 1664) (by decide +kernel), List.mem_of_getElem? (i := 1665) (by decide +kernel)⟩
theorem lw_p85 : lw_okq (⟨"MiddleUnseenModel", "isChanged", "(III)Z"⟩, 43) := ⟨⟨by decide +kernel, by decide +kernel⟩, List.mem_of_getElem? (i := 1330) (by decide +kernel), List.mem_of_getElem? (i := 1671) (by decide +kernel), List.mem_of_getElem? (i := 1672) (by decide +kernel)⟩
theorem lw_p86 : lw_okq (⟨"MiddleUnseenModel", "isTask", "(I)Z"⟩, 43) := ⟨⟨by decide +kernel, by decide +kernel⟩, List.mem_of_getElem? (i := 1330) (by decide +kernel), List.mem_of_getElem? (i := 1679) (by decide +kernel), List.mem_of_getElem? (i := 1680) (by decide +kernel)⟩
theorem lw_p87 : lw_okq (⟨"MiddleUnseenModel", "throwsBy", "(II)I"⟩, 43) := ⟨⟨by decide +kernel, by decide +kernel⟩, List.mem_of_getElem? (i := 1330) (by decide +kernel), List.mem_of_getElem? (i := 1687) (by decide +kernel), List.mem_of_getElem? (i := 1688) (by decide +kernel)⟩
theorem lw_p88 : lw_okq (⟨"MiddleUnseenModel", "isCounted", "(II[I)Z"⟩, 43) := ⟨⟨by decide +kernel, by decide +kernel⟩, List.mem_of_getElem? (i := 1330) (by decide +kernel), List.mem_of_getElem? (i := 1691) (by decide +kernel), List.mem_of_getElem? (i := 1692) (by decide +kernel)⟩
theorem lw_p89 : lw_okq (⟨"MiddleUnseenModel", "comes", "(IIIZ)V"⟩, 43) := ⟨⟨by decide +kernel, by decide +kernel⟩, List.mem_of_getElem? (i := 1330) (by decide +kernel), List.mem_of_getElem? (i := 1699) (by decide +kernel), List.mem_of_getElem? (i := 1700) (by decide +kernel)⟩
theorem lw_p90 : lw_okq (⟨"MiddleUnseenModel", "isLooker", "(I)Z"⟩, 43) := ⟨⟨by decide +kernel, by decide +kernel⟩, List.mem_of_getElem? (i := 1330) (by decide +kernel), List.mem_of_getElem? (i := 1707) (by decide +kernel), List.mem_of_getElem? (i := 1708) (by decide +kernel)⟩
theorem lw_p91 : lw_okq (⟨"MiddleUnseenModel", "eyeOf", "(II)I"⟩, 43) := ⟨⟨by decide +kernel, by decide +kernel⟩, List.mem_of_getElem? (i := 1330) (by decide +kernel), List.mem_of_getElem? (i := 1719) (by decide +kernel), List.mem_of_getElem? (i := 1720) (by decide +kernel)⟩
theorem lw_p92 : lw_okq (⟨"MiddleUnseenModel", "isShut", "(II)Z"⟩, 43) := ⟨⟨by decide +kernel, by decide +kernel⟩, List.mem_of_getElem? (i := 1330) (by decide +kernel), List.mem_of_getElem? (i := 1723) (by decide +kernel), List.mem_of_getElem? (i := 1724) (by decide +kernel)⟩
theorem lw_p93 : lw_okq (⟨"MiddleUnseenModel", "looks", "(II)I"⟩, 43) := ⟨⟨by decide +kernel, by decide +kernel⟩, List.mem_of_getElem? (i := 1330) (by decide +kernel), List.mem_of_getElem? (i := 1727) (by decide +kernel), List.mem_of_getElem? (i := 1728) (by decide +kernel)⟩
theorem lw_p94 : lw_okq (⟨"MiddleUnseenModel", "isThing", "(II)Z"⟩, 43) := ⟨⟨by decide +kernel, by decide +kernel⟩, List.mem_of_getElem? (i := 1330) (by decide +kernel), List.mem_of_getElem? (i := 1735) (by decide +kernel), List.mem_of_getElem? (i := 1736) (by decide +kernel)⟩
theorem lw_p95 : lw_okq (⟨"MiddleUnseenModel", "tellsNames", "(III)V"⟩, 43) := ⟨⟨by decide +kernel, by decide +kernel⟩, List.mem_of_getElem? (i := 1330) (by decide +kernel), List.mem_of_getElem? (i := 1739) (by decide +kernel), List.mem_of_getElem? (i := 1740) (by decide +kernel)⟩
def lw_privs_6 : List (MethodName × Nat) := [(⟨"MiddleUnseenModel", "placeOf", "(IIII)I"⟩, 43), (⟨"MiddleUnseenModel", "wayOf", "(III)I"⟩, 43), (⟨"MiddleUnseenModel", "colourOf", "(III)I"⟩, 43), (⟨"MiddleUnseenModel", "paceOf", "(III)I"⟩, 43), (⟨"MiddleUnseenModel", "isThere", "(III)Z"⟩, 43), (⟨"MiddleUnseenModel", "isChanged", "(III)Z"⟩, 43), (⟨"MiddleUnseenModel", "isTask", "(I)Z"⟩, 43), (⟨"MiddleUnseenModel", "throwsBy", "(II)I"⟩, 43), (⟨"MiddleUnseenModel", "isCounted", "(II[I)Z"⟩, 43), (⟨"MiddleUnseenModel", "comes", "(IIIZ)V"⟩, 43), (⟨"MiddleUnseenModel", "isLooker", "(I)Z"⟩, 43), (⟨"MiddleUnseenModel", "eyeOf", "(II)I"⟩, 43), (⟨"MiddleUnseenModel", "isShut", "(II)Z"⟩, 43), (⟨"MiddleUnseenModel", "looks", "(II)I"⟩, 43), (⟨"MiddleUnseenModel", "isThing", "(II)Z"⟩, 43), (⟨"MiddleUnseenModel", "tellsNames", "(III)V"⟩, 43)]
theorem lw_r6 : ∀ q ∈ lw_privs_6, lw_okq q := List.forall_mem_cons.mpr ⟨lw_p80, List.forall_mem_cons.mpr ⟨lw_p81, List.forall_mem_cons.mpr ⟨lw_p82, List.forall_mem_cons.mpr ⟨lw_p83, List.forall_mem_cons.mpr ⟨lw_p84, List.forall_mem_cons.mpr ⟨lw_p85, List.forall_mem_cons.mpr ⟨lw_p86, List.forall_mem_cons.mpr ⟨lw_p87, List.forall_mem_cons.mpr ⟨lw_p88, List.forall_mem_cons.mpr ⟨lw_p89, List.forall_mem_cons.mpr ⟨lw_p90, List.forall_mem_cons.mpr ⟨lw_p91, List.forall_mem_cons.mpr ⟨lw_p92, List.forall_mem_cons.mpr ⟨lw_p93, List.forall_mem_cons.mpr ⟨lw_p94, List.forall_mem_cons.mpr ⟨lw_p95, fun _ h => absurd h List.not_mem_nil⟩⟩⟩⟩⟩⟩⟩⟩⟩⟩⟩⟩⟩⟩⟩⟩
theorem lw_p96 : lw_okq (⟨"MiddleUnseenModel", "nearOf", "(III)I"⟩, 43) := ⟨⟨by decide +kernel, by decide +kernel⟩, List.mem_of_getElem? (i := 1330) (by decide +kernel), List.mem_of_getElem? (i := 1743) (by decide +kernel), List.mem_of_getElem? (i := 1744) (by decide +kernel)⟩
theorem lw_p97 : lw_okq (⟨"MiddleUnseenModel", "fullOf", "(II)I"⟩, 43) := ⟨⟨by decide +kernel, by decide +kernel⟩, List.mem_of_getElem? (i := 1330) (by decide +kernel), List.mem_of_getElem? (i := 1747) (by decide +kernel), List.mem_of_getElem? (i := 1748) (by decide +kernel)⟩
theorem lw_p98 : lw_okq (⟨"MiddleUnseenModel", "isLaw", "(I)Z"⟩, 43) := ⟨⟨by decide +kernel, by decide +kernel⟩, List.mem_of_getElem? (i := 1330) (by decide +kernel), List.mem_of_getElem? (i := 1759) (by decide +kernel), List.mem_of_getElem? (i := 1760) (by decide +kernel)⟩
theorem lw_p99 : lw_okq (⟨"MiddleUnseenModel", "getsIn", "(IIII)I"⟩, 43) := ⟨⟨by decide +kernel, by decide +kernel⟩, List.mem_of_getElem? (i := 1330) (by decide +kernel), List.mem_of_getElem? (i := 1763) (by decide +kernel), List.mem_of_getElem? (i := 1764) (by decide +kernel)⟩
theorem lw_p100 : lw_okq (⟨"MiddleUnseenModel", "getsNow", "(I)I"⟩, 43) := ⟨⟨by decide +kernel, by decide +kernel⟩, List.mem_of_getElem? (i := 1330) (by decide +kernel), List.mem_of_getElem? (i := 1767) (by decide +kernel), List.mem_of_getElem? (i := 1768) (by decide +kernel)⟩
theorem lw_p101 : lw_okq (⟨"MiddleUnseenModel", "holds", "(I[I)Z"⟩, 43) := ⟨⟨by decide +kernel, by decide +kernel⟩, List.mem_of_getElem? (i := 1330) (by decide +kernel), List.mem_of_getElem? (i := 1771) (by decide +kernel), List.mem_of_getElem? (i := 1772) (by decide +kernel)⟩
theorem lw_p102 : lw_okq (⟨"MiddleUnseenModel", "work", "(III)I"⟩, 43) := ⟨⟨by decide +kernel, by decide +kernel⟩, List.mem_of_getElem? (i := 1330) (by decide +kernel), List.mem_of_getElem? (i := 1775) (by decide +kernel), List.mem_of_getElem? (i := 1776) (by decide +kernel)⟩
theorem lw_p103 : lw_okq (⟨"MiddleUnseenModel", "lineNow", "(I)I"⟩, 43) := ⟨⟨by decide +kernel, by decide +kernel⟩, List.mem_of_getElem? (i := 1330) (by decide +kernel), List.mem_of_getElem? (i := 1785) (by decide +kernel), List.mem_of_getElem? (i := 1786) (by decide +kernel)⟩
theorem lw_p104 : lw_okq (⟨"MiddleUnseenModel", "lastOf", "(IIIII)I"⟩, 43) := ⟨⟨by decide +kernel, by decide +kernel⟩, List.mem_of_getElem? (i := 1330) (by decide +kernel), List.mem_of_getElem? (i := 1789) (by decide +kernel), List.mem_of_getElem? (i := 1790) (by decide +kernel)⟩
theorem lw_p105 : lw_okq (⟨"MiddleUnseenModel", "seenOf", "(III)I"⟩, 43) := ⟨⟨by decide +kernel, by decide +kernel⟩, List.mem_of_getElem? (i := 1330) (by decide +kernel), List.mem_of_getElem? (i := 1797) (by decide +kernel), List.mem_of_getElem? (i := 1798) (by decide +kernel)⟩
theorem lw_p106 : lw_okq (⟨"MiddleUnseenModel", "goes", "(IIIIIZ)V"⟩, 43) := ⟨⟨by decide +kernel, by decide +kernel⟩, List.mem_of_getElem? (i := 1330) (by decide +kernel), List.mem_of_getElem? (i := 1801) (by decide +kernel), List.mem_of_getElem? (i := 1802) (by decide +kernel)⟩
theorem lw_p107 : lw_okq (⟨"MiddleUnseenModel", "saysBy", "(III)Z"⟩, 43) := ⟨⟨by decide +kernel, by decide +kernel⟩, List.mem_of_getElem? (i := 1330) (by decide +kernel), List.mem_of_getElem? (i := 1810) (by decide +kernel), List.mem_of_getElem? (i := 1811) (by decide +kernel)⟩
theorem lw_p108 : lw_okq (⟨"MiddleUnseenModel", "isUnsure", "(II)Z"⟩, 43) := ⟨⟨by decide +kernel, by decide +kernel⟩, List.mem_of_getElem? (i := 1330) (by decide +kernel), List.mem_of_getElem? (i := 1814) (by decide +kernel), List.mem_of_getElem? (i := 1815) (by decide +kernel)⟩
theorem lw_p109 : lw_okq (⟨"MiddleUnseenModel", "isForgotten", "(II)Z"⟩, 43) := ⟨⟨by decide +kernel, by decide +kernel⟩, List.mem_of_getElem? (i := 1330) (by decide +kernel), List.mem_of_getElem? (i := 1818) (by decide +kernel), List.mem_of_getElem? (i := 1819) (by decide +kernel)⟩
theorem lw_p110 : lw_okq (⟨"MiddleUnseenModel", "isDropped", "(II)Z"⟩, 43) := ⟨⟨by decide +kernel, by decide +kernel⟩, List.mem_of_getElem? (i := 1330) (by decide +kernel), List.mem_of_getElem? (i := 1826) (by decide +kernel), List.mem_of_getElem? (i := 1827) (by decide +kernel)⟩
theorem lw_p111 : lw_okq (⟨"MiddleUnseenModel", "nearest", "(II)I"⟩, 43) := ⟨⟨by decide +kernel, by decide +kernel⟩, List.mem_of_getElem? (i := 1330) (by decide +kernel), List.mem_of_getElem? (i := 1830) (by decide +kernel), List.mem_of_getElem? (i := 1831) (by decide +kernel)⟩
def lw_privs_7 : List (MethodName × Nat) := [(⟨"MiddleUnseenModel", "nearOf", "(III)I"⟩, 43), (⟨"MiddleUnseenModel", "fullOf", "(II)I"⟩, 43), (⟨"MiddleUnseenModel", "isLaw", "(I)Z"⟩, 43), (⟨"MiddleUnseenModel", "getsIn", "(IIII)I"⟩, 43), (⟨"MiddleUnseenModel", "getsNow", "(I)I"⟩, 43), (⟨"MiddleUnseenModel", "holds", "(I[I)Z"⟩, 43), (⟨"MiddleUnseenModel", "work", "(III)I"⟩, 43), (⟨"MiddleUnseenModel", "lineNow", "(I)I"⟩, 43), (⟨"MiddleUnseenModel", "lastOf", "(IIIII)I"⟩, 43), (⟨"MiddleUnseenModel", "seenOf", "(III)I"⟩, 43), (⟨"MiddleUnseenModel", "goes", "(IIIIIZ)V"⟩, 43), (⟨"MiddleUnseenModel", "saysBy", "(III)Z"⟩, 43), (⟨"MiddleUnseenModel", "isUnsure", "(II)Z"⟩, 43), (⟨"MiddleUnseenModel", "isForgotten", "(II)Z"⟩, 43), (⟨"MiddleUnseenModel", "isDropped", "(II)Z"⟩, 43), (⟨"MiddleUnseenModel", "nearest", "(II)I"⟩, 43)]
theorem lw_r7 : ∀ q ∈ lw_privs_7, lw_okq q := List.forall_mem_cons.mpr ⟨lw_p96, List.forall_mem_cons.mpr ⟨lw_p97, List.forall_mem_cons.mpr ⟨lw_p98, List.forall_mem_cons.mpr ⟨lw_p99, List.forall_mem_cons.mpr ⟨lw_p100, List.forall_mem_cons.mpr ⟨lw_p101, List.forall_mem_cons.mpr ⟨lw_p102, List.forall_mem_cons.mpr ⟨lw_p103, List.forall_mem_cons.mpr ⟨lw_p104, List.forall_mem_cons.mpr ⟨lw_p105, List.forall_mem_cons.mpr ⟨lw_p106, List.forall_mem_cons.mpr ⟨lw_p107, List.forall_mem_cons.mpr ⟨lw_p108, List.forall_mem_cons.mpr ⟨lw_p109, List.forall_mem_cons.mpr ⟨lw_p110, List.forall_mem_cons.mpr ⟨lw_p111, fun _ h => absurd h List.not_mem_nil⟩⟩⟩⟩⟩⟩⟩⟩⟩⟩⟩⟩⟩⟩⟩⟩
theorem lw_p112 : lw_okq (⟨"MiddleUnseenModel", "changeOf", "(II)I"⟩, 43) := ⟨⟨by decide +kernel, by decide +kernel⟩, List.mem_of_getElem? (i := 1330) (by decide +kernel), List.mem_of_getElem? (i := 1842) (by decide +kernel), List.mem_of_getElem? (i := 1843) (by decide +kernel)⟩
theorem lw_p113 : lw_okq (⟨"MiddleUnseenModel", "asked", "(III)I"⟩, 43) := ⟨⟨by decide +kernel, by decide +kernel⟩, List.mem_of_getElem? (i := 1330) (by decide +kernel), List.mem_of_getElem? (i := 1870) (by decide +kernel), List.mem_of_getElem? (i := 1871) (by decide +kernel)⟩
theorem lw_p114 : lw_okq (⟨"MiddleUnseenModel", "isInGroup", "(IIII)Z"⟩, 43) := ⟨⟨by decide +kernel, by decide +kernel⟩, List.mem_of_getElem? (i := 1330) (by decide +kernel), List.mem_of_getElem? (i := 1874) (by decide +kernel), List.mem_of_getElem? (i := 1875) (by decide +kernel)⟩
theorem lw_p115 : lw_okq (⟨"MiddleUnseenModel", "isOf", "(III)Z"⟩, 43) := ⟨⟨by decide +kernel, by decide +kernel⟩, List.mem_of_getElem? (i := 1330) (by decide +kernel), List.mem_of_getElem? (i := 1878) (by decide +kernel), List.mem_of_getElem? (i := 1879) (by decide +kernel)⟩
theorem lw_p116 : lw_okq (⟨"MiddleUnseenModel", "yes", "(III)I"⟩, 43) := ⟨⟨by decide +kernel, by decide +kernel⟩, List.mem_of_getElem? (i := 1330) (by decide +kernel), List.mem_of_getElem? (i := 1882) (by decide +kernel), List.mem_of_getElem? (i := 1883) (by decide +kernel)⟩
theorem lw_p117 : lw_okq (⟨"MiddleUnseenModel", "lostOf", "(I)I"⟩, 43) := ⟨⟨by decide +kernel, by decide +kernel⟩, List.mem_of_getElem? (i := 1330) (by decide +kernel), List.mem_of_getElem? (i := 1908) (by decide +kernel), List.mem_of_getElem? (i := 1909) (by decide +kernel)⟩
theorem lw_p118 : lw_okq (⟨"MiddleUnseenModel", "lostBy", "(IIZ)I"⟩, 43) := ⟨⟨by decide +kernel, by decide +kernel⟩, List.mem_of_getElem? (i := 1330) (by decide +kernel), List.mem_of_getElem? (i := 1916) (by decide +kernel), List.mem_of_getElem? (i := 1917) (by decide +kernel)⟩
theorem lw_p119 : lw_okq (⟨"MiddleUnseenModel", "oddsOf", "(I)J"⟩, 43) := ⟨⟨by decide +kernel, by decide +kernel⟩, List.mem_of_getElem? (i := 1330) (by decide +kernel), List.mem_of_getElem? (i := 1936) (by decide +kernel), List.mem_of_getElem? (i := 1937) (by decide +kernel)⟩
theorem lw_p120 : lw_okq (⟨"MiddleUnseenModel", "isAsked", "(I)Z"⟩, 43) := ⟨⟨by decide +kernel, by decide +kernel⟩, List.mem_of_getElem? (i := 1330) (by decide +kernel), List.mem_of_getElem? (i := 1940) (by decide +kernel), List.mem_of_getElem? (i := 1941) (by decide +kernel)⟩
theorem lw_p121 : lw_okq (⟨"MiddleUnseenModel", "isAlike", "(II)Z"⟩, 43) := ⟨⟨by decide +kernel, by decide +kernel⟩, List.mem_of_getElem? (i := 1330) (by decide +kernel), List.mem_of_getElem? (i := 1944) (by decide +kernel), List.mem_of_getElem? (i := 1945) (by decide +kernel)⟩
theorem lw_p122 : lw_okq (⟨"MiddleUnseenModel", "fitting", "(I)I"⟩, 43) := ⟨⟨by decide +kernel, by decide +kernel⟩, List.mem_of_getElem? (i := 1330) (by decide +kernel), List.mem_of_getElem? (i := 1956) (by decide +kernel), List.mem_of_getElem? (i := 1957) (by decide +kernel)⟩
theorem lw_p123 : lw_okq (⟨"MiddleUnseenModel", "movesAll", "(IZ)V"⟩, 43) := ⟨⟨by decide +kernel, by decide +kernel⟩, List.mem_of_getElem? (i := 1330) (by decide +kernel), List.mem_of_getElem? (i := 1976) (by decide +kernel), List.mem_of_getElem? (i := 1977) (by decide +kernel)⟩
theorem lw_p124 : lw_okq (⟨"MiddleUnseenModel", "moves", "(IIZ)I"⟩, 43) := ⟨⟨by decide +kernel, by decide +kernel⟩, List.mem_of_getElem? (i := 1330) (by decide +kernel), List.mem_of_getElem? (i := 1980) (by decide +kernel), List.mem_of_getElem? (i := 1981) (by decide +kernel)⟩
theorem lw_p125 : lw_okq (⟨"MiddleUnseenModel", "movesRow", "(I[IZ)V"⟩, 43) := ⟨⟨by decide +kernel, by decide +kernel⟩, List.mem_of_getElem? (i := 1330) (by decide +kernel), List.mem_of_getElem? (i := 1984) (by decide +kernel), List.mem_of_getElem? (i := 1985) (by decide +kernel)⟩
def lw_privs_8 : List (MethodName × Nat) := [(⟨"MiddleUnseenModel", "changeOf", "(II)I"⟩, 43), (⟨"MiddleUnseenModel", "asked", "(III)I"⟩, 43), (⟨"MiddleUnseenModel", "isInGroup", "(IIII)Z"⟩, 43), (⟨"MiddleUnseenModel", "isOf", "(III)Z"⟩, 43), (⟨"MiddleUnseenModel", "yes", "(III)I"⟩, 43), (⟨"MiddleUnseenModel", "lostOf", "(I)I"⟩, 43), (⟨"MiddleUnseenModel", "lostBy", "(IIZ)I"⟩, 43), (⟨"MiddleUnseenModel", "oddsOf", "(I)J"⟩, 43), (⟨"MiddleUnseenModel", "isAsked", "(I)Z"⟩, 43), (⟨"MiddleUnseenModel", "isAlike", "(II)Z"⟩, 43), (⟨"MiddleUnseenModel", "fitting", "(I)I"⟩, 43), (⟨"MiddleUnseenModel", "movesAll", "(IZ)V"⟩, 43), (⟨"MiddleUnseenModel", "moves", "(IIZ)I"⟩, 43), (⟨"MiddleUnseenModel", "movesRow", "(I[IZ)V"⟩, 43)]
theorem lw_r8 : ∀ q ∈ lw_privs_8, lw_okq q := List.forall_mem_cons.mpr ⟨lw_p112, List.forall_mem_cons.mpr ⟨lw_p113, List.forall_mem_cons.mpr ⟨lw_p114, List.forall_mem_cons.mpr ⟨lw_p115, List.forall_mem_cons.mpr ⟨lw_p116, List.forall_mem_cons.mpr ⟨lw_p117, List.forall_mem_cons.mpr ⟨lw_p118, List.forall_mem_cons.mpr ⟨lw_p119, List.forall_mem_cons.mpr ⟨lw_p120, List.forall_mem_cons.mpr ⟨lw_p121, List.forall_mem_cons.mpr ⟨lw_p122, List.forall_mem_cons.mpr ⟨lw_p123, List.forall_mem_cons.mpr ⟨lw_p124, List.forall_mem_cons.mpr ⟨lw_p125, fun _ h => absurd h List.not_mem_nil⟩⟩⟩⟩⟩⟩⟩⟩⟩⟩⟩⟩⟩⟩
def lw_privs : List (MethodName × Nat) := lw_privs_1 ++ (lw_privs_2 ++ (lw_privs_3 ++ (lw_privs_4 ++ (lw_privs_5 ++ (lw_privs_6 ++ (lw_privs_7 ++ (lw_privs_8)))))))
def lw_tbl : List Cond := k2_sels lw_privs ++ tables_1
theorem lw_privs_ok : ∀ q ∈ lw_privs, lw_okq q := by
  show ∀ q ∈ lw_privs_1 ++ (lw_privs_2 ++ (lw_privs_3 ++ (lw_privs_4 ++ (lw_privs_5 ++ (lw_privs_6 ++ (lw_privs_7 ++ (lw_privs_8))))))), lw_okq q
  exact List.forall_mem_append.mpr ⟨lw_r1, List.forall_mem_append.mpr ⟨lw_r2, List.forall_mem_append.mpr ⟨lw_r3, List.forall_mem_append.mpr ⟨lw_r4, List.forall_mem_append.mpr ⟨lw_r5, List.forall_mem_append.mpr ⟨lw_r6, List.forall_mem_append.mpr ⟨lw_r7, lw_r8⟩⟩⟩⟩⟩⟩⟩
def RX0 : String := "MiddleUnseen$Hall"
def TX0 : u_T := fun k => match k with
  | 0 => ("MiddleUnseen$Hall", "lookers", "I", false)
  | 1 => ("MiddleUnseen$Hall", "sceneOf", "[I", true)
  | 2 => ("MiddleUnseen$Hall", "taskOf", "[I", true)
  | 3 => ("MiddleUnseen$Hall", "knowers", "I", false)
  | 4 => ("MiddleUnseen$Hall", "replies", "[I", true)
  | 5 => ("MiddleUnseen$Hall", "tallies", "[I", true)
  | 6 => ("MiddleUnseen$Hall", "hopes", "[I", true)
  | 7 => ("MiddleUnseen$Hall", "eyeRows", "I", false)
  | 8 => ("MiddleUnseen$Hall", "eyeLookers", "[I", true)
  | 9 => ("MiddleUnseen$Hall", "eyeTenths", "[I", true)
  | 10 => ("MiddleUnseen$Hall", "eyePlaces", "[I", true)
  | 11 => ("MiddleUnseen$Hall", "blinks", "I", false)
  | 12 => ("MiddleUnseen$Hall", "blinkLookers", "[I", true)
  | 13 => ("MiddleUnseen$Hall", "blinkStarts", "[I", true)
  | 14 => ("MiddleUnseen$Hall", "blinkEnds", "[I", true)
  | 15 => ("MiddleUnseen$Hall", "weights", "[I", true)
  | _ => ("MiddleUnseen$Hall", "slip", "I", false)
def tyX0 : Nat → FieldType := fun k => match k with
  | 0 => .int
  | 1 => .array .int
  | 2 => .array .int
  | 3 => .int
  | 4 => .array .int
  | 5 => .array .int
  | 6 => .array .int
  | 7 => .int
  | 8 => .array .int
  | 9 => .array .int
  | 10 => .array .int
  | 11 => .int
  | 12 => .array .int
  | 13 => .array .int
  | 14 => .array .int
  | 15 => .array .int
  | _ => .int
abbrev wsX00 : List Cond := u_ws RX0 TX0 17
theorem nmX0 : ∀ a, a < 17 → ∀ b, b < 17 → a ≠ b → (TX0 a).2.1 ≠ (TX0 b).2.1 := by decide +kernel
theorem tyX0_ok : ∀ k, k < 17 → parseFieldDescriptor (TX0 k).2.2.1 = some (tyX0 k) := by decide +kernel
abbrev cX0_init : ByteArray := prog_2_method_1_code
def yX0_init : MethodName := ⟨RX0, "<init>", "()V"⟩
abbrev cX0_addLooker : ByteArray := prog_2_method_2_code
def yX0_addLooker : MethodName := ⟨RX0, "addLooker", "(IIZ)I"⟩
abbrev cX0_addEyes : ByteArray := prog_2_method_3_code
def yX0_addEyes : MethodName := ⟨RX0, "addEyes", "(III)I"⟩
abbrev cX0_addBlink : ByteArray := prog_2_method_4_code
def yX0_addBlink : MethodName := ⟨RX0, "addBlink", "(III)I"⟩
abbrev cX0_isKnowing : ByteArray := prog_2_method_5_code
def yX0_isKnowing : MethodName := ⟨RX0, "isKnowing", "(I)Z"⟩
abbrev cX0_reply : ByteArray := prog_2_method_6_code
def yX0_reply : MethodName := ⟨RX0, "reply", "(II)I"⟩
abbrev cX0_inGroup : ByteArray := prog_2_method_7_code
def yX0_inGroup : MethodName := ⟨RX0, "inGroup", "(IIII)Z"⟩
abbrev cX0_repliedAll : ByteArray := prog_2_method_8_code
def yX0_repliedAll : MethodName := ⟨RX0, "repliedAll", "(III)Z"⟩
abbrev cX0_isLostTo : ByteArray := prog_2_method_9_code
def yX0_isLostTo : MethodName := ⟨RX0, "isLostTo", "(IZ)Z"⟩
abbrev cX0_askedOf : ByteArray := prog_2_method_10_code
def yX0_askedOf : MethodName := ⟨RX0, "askedOf", "(III)I"⟩
abbrev cX0_yesOf : ByteArray := prog_2_method_11_code
def yX0_yesOf : MethodName := ⟨RX0, "yesOf", "(III)I"⟩
abbrev cX0_hasTallied : ByteArray := prog_2_method_12_code
def yX0_hasTallied : MethodName := ⟨RX0, "hasTallied", "(III)Z"⟩
abbrev cX0_talliedOf : ByteArray := prog_2_method_13_code
def yX0_talliedOf : MethodName := ⟨RX0, "talliedOf", "(II)I"⟩
abbrev cX0_copyFrom : ByteArray := prog_2_method_14_code
def yX0_copyFrom : MethodName := ⟨RX0, "copyFrom", "(LMiddleUnseen$Hall;)V"⟩
def RX1 : String := "MiddleUnseen$Law"
def TX1 : u_T := fun k => match k with
  | 0 => ("MiddleUnseen$Law", "code", "[I", true)
  | 1 => ("MiddleUnseen$Law", "length", "I", false)
  | 2 => ("MiddleUnseen$Law", "clauses", "I", false)
  | 3 => ("MiddleUnseen$Law", "kinds", "[I", true)
  | 4 => ("MiddleUnseen$Law", "starts", "[I", true)
  | 5 => ("MiddleUnseen$Law", "conditions", "[I", true)
  | _ => ("MiddleUnseen$Law", "ends", "[I", true)
def tyX1 : Nat → FieldType := fun k => match k with
  | 0 => .array .int
  | 1 => .int
  | 2 => .int
  | 3 => .array .int
  | 4 => .array .int
  | 5 => .array .int
  | _ => .array .int
abbrev wsX10 : List Cond := u_ws RX1 TX1 7
theorem nmX1 : ∀ a, a < 7 → ∀ b, b < 7 → a ≠ b → (TX1 a).2.1 ≠ (TX1 b).2.1 := by decide +kernel
theorem tyX1_ok : ∀ k, k < 7 → parseFieldDescriptor (TX1 k).2.2.1 = some (tyX1 k) := by decide +kernel
abbrev cX1_init : ByteArray := prog_3_method_1_code
def yX1_init : MethodName := ⟨RX1, "<init>", "()V"⟩
abbrev cX1_emit : ByteArray := prog_3_method_2_code
def yX1_emit : MethodName := ⟨RX1, "emit", "(I)V"⟩
def RX2 : String := "MiddleUnseen$LawReader"
def TX2 : u_T := fun k => match k with
  | 0 => ("MiddleUnseen$LawReader", "tape", "LMiddleUnseen$Tape;", true)
  | _ => ("MiddleUnseen$LawReader", "law", "LMiddleUnseen$Law;", false)
def tyX2 : Nat → FieldType := fun k => match k with
  | 0 => .object "MiddleUnseen$Tape"
  | _ => .object "MiddleUnseen$Law"
abbrev wsX20 : List Cond := u_ws RX2 TX2 2
theorem nmX2 : ∀ a, a < 2 → ∀ b, b < 2 → a ≠ b → (TX2 a).2.1 ≠ (TX2 b).2.1 := by decide +kernel
theorem tyX2_ok : ∀ k, k < 2 → parseFieldDescriptor (TX2 k).2.2.1 = some (tyX2 k) := by decide +kernel
abbrev cX2_init : ByteArray := prog_4_method_1_code
def yX2_init : MethodName := ⟨RX2, "<init>", "(LMiddleUnseen$Tape;)V"⟩
abbrev cX2_read : ByteArray := prog_4_method_2_code
def yX2_read : MethodName := ⟨RX2, "read", "(LMiddleUnseen$Law;)V"⟩
abbrev cX2_readClause : ByteArray := prog_4_method_3_code
def yX2_readClause : MethodName := ⟨RX2, "readClause", "(II)V"⟩
abbrev cX2_readSum : ByteArray := prog_4_method_4_code
def yX2_readSum : MethodName := ⟨RX2, "readSum", "(I)V"⟩
abbrev cX2_readProduct : ByteArray := prog_4_method_5_code
def yX2_readProduct : MethodName := ⟨RX2, "readProduct", "(I)V"⟩
abbrev cX2_readUnit : ByteArray := prog_4_method_6_code
def yX2_readUnit : MethodName := ⟨RX2, "readUnit", "(I)V"⟩
abbrev cX2_readEither : ByteArray := prog_4_method_7_code
def yX2_readEither : MethodName := ⟨RX2, "readEither", "(I)V"⟩
abbrev cX2_readBoth : ByteArray := prog_4_method_8_code
def yX2_readBoth : MethodName := ⟨RX2, "readBoth", "(I)V"⟩
abbrev cX2_readOne : ByteArray := prog_4_method_9_code
def yX2_readOne : MethodName := ⟨RX2, "readOne", "(I)V"⟩
abbrev cX2_isTooDeep : ByteArray := prog_4_method_10_code
def yX2_isTooDeep : MethodName := ⟨RX2, "isTooDeep", "(I)Z"⟩
def RX3 : String := "MiddleUnseen$Scene"
def TX3 : u_T := fun k => match k with
  | 0 => ("MiddleUnseen$Scene", "things", "I", false)
  | 1 => ("MiddleUnseen$Scene", "ownTints", "[I", true)
  | 2 => ("MiddleUnseen$Scene", "sizes", "[I", true)
  | 3 => ("MiddleUnseen$Scene", "ways", "I", false)
  | 4 => ("MiddleUnseen$Scene", "wayRows", "[I", true)
  | 5 => ("MiddleUnseen$Scene", "throwCount", "I", false)
  | 6 => ("MiddleUnseen$Scene", "throwRows", "[I", true)
  | 7 => ("MiddleUnseen$Scene", "turns", "I", false)
  | 8 => ("MiddleUnseen$Scene", "turnRows", "[I", true)
  | 9 => ("MiddleUnseen$Scene", "oddOne", "I", false)
  | 10 => ("MiddleUnseen$Scene", "turner", "I", false)
  | 11 => ("MiddleUnseen$Scene", "end", "I", false)
  | 12 => ("MiddleUnseen$Scene", "places", "[I", false)
  | _ => ("MiddleUnseen$Scene", "tints", "[I", false)
def tyX3 : Nat → FieldType := fun k => match k with
  | 0 => .int
  | 1 => .array .int
  | 2 => .array .int
  | 3 => .int
  | 4 => .array .int
  | 5 => .int
  | 6 => .array .int
  | 7 => .int
  | 8 => .array .int
  | 9 => .int
  | 10 => .int
  | 11 => .int
  | 12 => .array .int
  | _ => .array .int
abbrev wsX30 : List Cond := u_ws RX3 TX3 14
theorem nmX3 : ∀ a, a < 14 → ∀ b, b < 14 → a ≠ b → (TX3 a).2.1 ≠ (TX3 b).2.1 := by decide +kernel
theorem tyX3_ok : ∀ k, k < 14 → parseFieldDescriptor (TX3 k).2.2.1 = some (tyX3 k) := by decide +kernel
abbrev cX3_init : ByteArray := prog_5_method_1_code
def yX3_init : MethodName := ⟨RX3, "<init>", "()V"⟩
abbrev cX3_read : ByteArray := prog_5_method_2_code
def yX3_read : MethodName := ⟨RX3, "read", "(LMiddleUnseen$Tape;)V"⟩
abbrev cX3_readClause : ByteArray := prog_5_method_3_code
def yX3_readClause : MethodName := ⟨RX3, "readClause", "(ILMiddleUnseen$Tape;)V"⟩
abbrev cX3_readThing : ByteArray := prog_5_method_4_code
def yX3_readThing : MethodName := ⟨RX3, "readThing", "(LMiddleUnseen$Tape;)V"⟩
abbrev cX3_readWay : ByteArray := prog_5_method_5_code
def yX3_readWay : MethodName := ⟨RX3, "readWay", "(LMiddleUnseen$Tape;)V"⟩
abbrev cX3_readThrow : ByteArray := prog_5_method_6_code
def yX3_readThrow : MethodName := ⟨RX3, "readThrow", "(LMiddleUnseen$Tape;)V"⟩
abbrev cX3_readTurn : ByteArray := prog_5_method_7_code
def yX3_readTurn : MethodName := ⟨RX3, "readTurn", "(LMiddleUnseen$Tape;)V"⟩
abbrev cX3_settle : ByteArray := prog_5_method_8_code
def yX3_settle : MethodName := ⟨RX3, "settle", "()V"⟩
abbrev cX3_settleWay : ByteArray := prog_5_method_9_code
def yX3_settleWay : MethodName := ⟨RX3, "settleWay", "(I)V"⟩
abbrev cX3_onTheWay : ByteArray := prog_5_method_10_code
def yX3_onTheWay : MethodName := ⟨RX3, "onTheWay", "(III)I"⟩
abbrev cX3_settleTints : ByteArray := prog_5_method_11_code
def yX3_settleTints : MethodName := ⟨RX3, "settleTints", "(I)V"⟩
abbrev cX3_isCell : ByteArray := prog_5_method_12_code
def yX3_isCell : MethodName := ⟨RX3, "isCell", "(II)Z"⟩
abbrev cX3_placeAt : ByteArray := prog_5_method_13_code
def yX3_placeAt : MethodName := ⟨RX3, "placeAt", "(II)I"⟩
abbrev cX3_tintAt : ByteArray := prog_5_method_14_code
def yX3_tintAt : MethodName := ⟨RX3, "tintAt", "(II)I"⟩
abbrev cX3_paceAt : ByteArray := prog_5_method_15_code
def yX3_paceAt : MethodName := ⟨RX3, "paceAt", "(II)I"⟩
abbrev cX3_turned : ByteArray := prog_5_method_16_code
def yX3_turned : MethodName := ⟨RX3, "turned", "(II)Z"⟩
abbrev cX3_crowd : ByteArray := prog_5_method_17_code
def yX3_crowd : MethodName := ⟨RX3, "crowd", "(II)I"⟩
abbrev cX3_isThrownFrom : ByteArray := prog_5_method_18_code
def yX3_isThrownFrom : MethodName := ⟨RX3, "isThrownFrom", "(II)Z"⟩
abbrev cX3_throwsFrom : ByteArray := prog_5_method_19_code
def yX3_throwsFrom : MethodName := ⟨RX3, "throwsFrom", "(I)I"⟩
def RX4 : String := "MiddleUnseen$Sight"
def TX4 : u_T := fun k => match k with
  | 0 => ("MiddleUnseen$Sight", "view", "LMiddleUnseen$View;", true)
  | 1 => ("MiddleUnseen$Sight", "stack", "[I", true)
  | 2 => ("MiddleUnseen$Sight", "sum", "I", false)
  | 3 => ("MiddleUnseen$Sight", "noise", "I", false)
  | 4 => ("MiddleUnseen$Sight", "seed", "I", false)
  | _ => ("MiddleUnseen$Sight", "changesAlone", "Z", false)
def tyX4 : Nat → FieldType := fun k => match k with
  | 0 => .object "MiddleUnseen$View"
  | 1 => .array .int
  | 2 => .int
  | 3 => .int
  | 4 => .int
  | _ => .boolean
abbrev wsX40 : List Cond := u_ws RX4 TX4 6
theorem nmX4 : ∀ a, a < 6 → ∀ b, b < 6 → a ≠ b → (TX4 a).2.1 ≠ (TX4 b).2.1 := by decide +kernel
theorem tyX4_ok : ∀ k, k < 6 → parseFieldDescriptor (TX4 k).2.2.1 = some (tyX4 k) := by decide +kernel
abbrev cX4_init : ByteArray := prog_6_method_1_code
def yX4_init : MethodName := ⟨RX4, "<init>", "(LMiddleUnseen$View;)V"⟩
abbrev cX4_plain : ByteArray := prog_6_method_2_code
def yX4_plain : MethodName := ⟨RX4, "plain", "()V"⟩
abbrev cX4_drawBy : ByteArray := prog_6_method_3_code
def yX4_drawBy : MethodName := ⟨RX4, "drawBy", "(II)V"⟩
abbrev cX4_heedChangesAlone : ByteArray := prog_6_method_4_code
def yX4_heedChangesAlone : MethodName := ⟨RX4, "heedChangesAlone", "()V"⟩
abbrev cX4_work : ByteArray := prog_6_method_5_code
def yX4_work : MethodName := ⟨RX4, "work", "(LMiddleUnseen$Law;II)I"⟩
abbrev cX4_joined : ByteArray := prog_6_method_6_code
def yX4_joined : MethodName := ⟨RX4, "joined", "(III)I"⟩
abbrev cX4_getsNow : ByteArray := prog_6_method_7_code
def yX4_getsNow : MethodName := ⟨RX4, "getsNow", "(LMiddleUnseen$Law;)I"⟩
abbrev cX4_lineNow : ByteArray := prog_6_method_8_code
def yX4_lineNow : MethodName := ⟨RX4, "lineNow", "(LMiddleUnseen$Law;)I"⟩
abbrev cX4_lastOf : ByteArray := prog_6_method_9_code
def yX4_lastOf : MethodName := ⟨RX4, "lastOf", "(LMiddleUnseen$Law;IIII)I"⟩
abbrev cX4_drawNow : ByteArray := prog_6_method_10_code
def yX4_drawNow : MethodName := ⟨RX4, "drawNow", "()I"⟩
abbrev cX4_sumTo : ByteArray := prog_6_method_11_code
def yX4_sumTo : MethodName := ⟨RX4, "sumTo", "(LMiddleUnseen$Law;II)I"⟩
abbrev cX4_addFrom : ByteArray := prog_6_method_12_code
def yX4_addFrom : MethodName := ⟨RX4, "addFrom", "(LMiddleUnseen$Law;III)V"⟩
abbrev cX4_firstSeen : ByteArray := prog_6_method_13_code
def yX4_firstSeen : MethodName := ⟨RX4, "firstSeen", "(LMiddleUnseen$Law;I)I"⟩
abbrev cX4_judge : ByteArray := prog_6_method_14_code
def yX4_judge : MethodName := ⟨RX4, "judge", "(LMiddleUnseen$Law;)I"⟩
def RX5 : String := "MiddleUnseen$Tape"
def TX5 : u_T := fun k => match k with
  | 0 => ("MiddleUnseen$Tape", "bytes", "[I", true)
  | 1 => ("MiddleUnseen$Tape", "held", "I", false)
  | 2 => ("MiddleUnseen$Tape", "end", "I", false)
  | 3 => ("MiddleUnseen$Tape", "place", "I", false)
  | 4 => ("MiddleUnseen$Tape", "token", "I", false)
  | 5 => ("MiddleUnseen$Tape", "fault", "I", false)
  | _ => ("MiddleUnseen$Tape", "faultPlace", "I", false)
def tyX5 : Nat → FieldType := fun k => match k with
  | 0 => .array .int
  | 1 => .int
  | 2 => .int
  | 3 => .int
  | 4 => .int
  | 5 => .int
  | _ => .int
abbrev wsX50 : List Cond := u_ws RX5 TX5 7
theorem nmX5 : ∀ a, a < 7 → ∀ b, b < 7 → a ≠ b → (TX5 a).2.1 ≠ (TX5 b).2.1 := by decide +kernel
theorem tyX5_ok : ∀ k, k < 7 → parseFieldDescriptor (TX5 k).2.2.1 = some (tyX5 k) := by decide +kernel
abbrev cX5_init : ByteArray := prog_7_method_1_code
def yX5_init : MethodName := ⟨RX5, "<init>", "()V"⟩
abbrev cX5_hasRoom : ByteArray := prog_7_method_2_code
def yX5_hasRoom : MethodName := ⟨RX5, "hasRoom", "()Z"⟩
abbrev cX5_put : ByteArray := prog_7_method_3_code
def yX5_put : MethodName := ⟨RX5, "put", "(I)V"⟩
abbrev cX5_open : ByteArray := prog_7_method_4_code
def yX5_open : MethodName := ⟨RX5, "open", "(I)V"⟩
abbrev cX5_blame : ByteArray := prog_7_method_5_code
def yX5_blame : MethodName := ⟨RX5, "blame", "(II)V"⟩
abbrev cX5_skipBlanks : ByteArray := prog_7_method_6_code
def yX5_skipBlanks : MethodName := ⟨RX5, "skipBlanks", "()V"⟩
abbrev cX5_isAt : ByteArray := prog_7_method_7_code
def yX5_isAt : MethodName := ⟨RX5, "isAt", "(ICC)Z"⟩
abbrev cX5_clauseWord : ByteArray := prog_7_method_8_code
def yX5_clauseWord : MethodName := ⟨RX5, "clauseWord", "(Ljava/lang/String;II)I"⟩
abbrev cX5_takeWord : ByteArray := prog_7_method_9_code
def yX5_takeWord : MethodName := ⟨RX5, "takeWord", "(Ljava/lang/String;)I"⟩
abbrev cX5_wordIn : ByteArray := prog_7_method_10_code
def yX5_wordIn : MethodName := ⟨RX5, "wordIn", "(Ljava/lang/String;I)I"⟩
abbrev cX5_takeSign : ByteArray := prog_7_method_11_code
def yX5_takeSign : MethodName := ⟨RX5, "takeSign", "(Ljava/lang/String;)I"⟩
abbrev cX5_demandSign : ByteArray := prog_7_method_12_code
def yX5_demandSign : MethodName := ⟨RX5, "demandSign", "(Ljava/lang/String;)I"⟩
abbrev cX5_isNumberNext : ByteArray := prog_7_method_13_code
def yX5_isNumberNext : MethodName := ⟨RX5, "isNumberNext", "()Z"⟩
abbrev cX5_demandNumber : ByteArray := prog_7_method_14_code
def yX5_demandNumber : MethodName := ⟨RX5, "demandNumber", "(II)I"⟩
def RX6 : String := "MiddleUnseen$Task"
def TX6 : u_T := fun k => match k with
  | 0 => ("MiddleUnseen$Task", "keeps", "I", false)
  | 1 => ("MiddleUnseen$Task", "drops", "I", false)
  | 2 => ("MiddleUnseen$Task", "tallied", "I", false)
  | 3 => ("MiddleUnseen$Task", "room", "I", false)
  | _ => ("MiddleUnseen$Task", "watch", "I", false)
def tyX6 : Nat → FieldType := fun k => match k with
  | 0 => .int
  | 1 => .int
  | 2 => .int
  | 3 => .int
  | _ => .int
abbrev wsX60 : List Cond := u_ws RX6 TX6 5
theorem nmX6 : ∀ a, a < 5 → ∀ b, b < 5 → a ≠ b → (TX6 a).2.1 ≠ (TX6 b).2.1 := by decide +kernel
theorem tyX6_ok : ∀ k, k < 5 → parseFieldDescriptor (TX6 k).2.2.1 = some (tyX6 k) := by decide +kernel
abbrev cX6_init : ByteArray := prog_8_method_1_code
def yX6_init : MethodName := ⟨RX6, "<init>", "()V"⟩
abbrev cX6_read : ByteArray := prog_8_method_2_code
def yX6_read : MethodName := ⟨RX6, "read", "(LMiddleUnseen$Tape;)V"⟩
abbrev cX6_put : ByteArray := prog_8_method_3_code
def yX6_put : MethodName := ⟨RX6, "put", "(II)V"⟩
def RX7 : String := "MiddleUnseen$View"
def TX7 : u_T := fun k => match k with
  | 0 => ("MiddleUnseen$View", "scene", "LMiddleUnseen$Scene;", false)
  | 1 => ("MiddleUnseen$View", "task", "LMiddleUnseen$Task;", false)
  | 2 => ("MiddleUnseen$View", "knows", "Z", false)
  | 3 => ("MiddleUnseen$View", "eyes", "[I", true)
  | 4 => ("MiddleUnseen$View", "latest", "[I", true)
  | 5 => ("MiddleUnseen$View", "names", "[I", true)
  | 6 => ("MiddleUnseen$View", "here", "Z", false)
  | 7 => ("MiddleUnseen$View", "size", "I", false)
  | 8 => ("MiddleUnseen$View", "nearer", "I", false)
  | _ => ("MiddleUnseen$View", "slower", "I", false)
def tyX7 : Nat → FieldType := fun k => match k with
  | 0 => .object "MiddleUnseen$Scene"
  | 1 => .object "MiddleUnseen$Task"
  | 2 => .boolean
  | 3 => .array .int
  | 4 => .array .int
  | 5 => .array .int
  | 6 => .boolean
  | 7 => .int
  | 8 => .int
  | _ => .int
abbrev wsX70 : List Cond := u_ws RX7 TX7 10
theorem nmX7 : ∀ a, a < 10 → ∀ b, b < 10 → a ≠ b → (TX7 a).2.1 ≠ (TX7 b).2.1 := by decide +kernel
theorem tyX7_ok : ∀ k, k < 10 → parseFieldDescriptor (TX7 k).2.2.1 = some (tyX7 k) := by decide +kernel
abbrev cX7_init : ByteArray := prog_9_method_1_code
def yX7_init : MethodName := ⟨RX7, "<init>", "()V"⟩
abbrev cX7_open : ByteArray := prog_9_method_2_code
def yX7_open : MethodName := ⟨RX7, "open", "(LMiddleUnseen$Scene;LMiddleUnseen$Task;ZI)V"⟩
abbrev cX7_bend : ByteArray := prog_9_method_3_code
def yX7_bend : MethodName := ⟨RX7, "bend", "(II)V"⟩
abbrev cX7_clearLatest : ByteArray := prog_9_method_4_code
def yX7_clearLatest : MethodName := ⟨RX7, "clearLatest", "(I)V"⟩
abbrev cX7_follow : ByteArray := prog_9_method_5_code
def yX7_follow : MethodName := ⟨RX7, "follow", "(I)V"⟩
abbrev cX7_heed : ByteArray := prog_9_method_6_code
def yX7_heed : MethodName := ⟨RX7, "heed", "(LMiddleUnseen$Hall;II)V"⟩
abbrev cX7_shut : ByteArray := prog_9_method_7_code
def yX7_shut : MethodName := ⟨RX7, "shut", "(II)V"⟩
abbrev cX7_farther : ByteArray := prog_9_method_8_code
def yX7_farther : MethodName := ⟨RX7, "farther", "(III)I"⟩
abbrev cX7_regard : ByteArray := prog_9_method_9_code
def yX7_regard : MethodName := ⟨RX7, "regard", "(II)V"⟩
abbrev cX7_nearInTenth : ByteArray := prog_9_method_10_code
def yX7_nearInTenth : MethodName := ⟨RX7, "nearInTenth", "(II)I"⟩
abbrev cX7_tenthsWithin : ByteArray := prog_9_method_11_code
def yX7_tenthsWithin : MethodName := ⟨RX7, "tenthsWithin", "(I)I"⟩
abbrev cX7_isDropped : ByteArray := prog_9_method_12_code
def yX7_isDropped : MethodName := ⟨RX7, "isDropped", "()Z"⟩
abbrev cX7_blindness : ByteArray := prog_9_method_13_code
def yX7_blindness : MethodName := ⟨RX7, "blindness", "(I)I"⟩
def RX8 : String := "MiddleUnseen"
def TX8 : u_T := fun k => match k with
  | 0 => ("MiddleUnseen", "tape", "LMiddleUnseen$Tape;", true)
  | 1 => ("MiddleUnseen", "scenes", "[LMiddleUnseen$Scene;", true)
  | 2 => ("MiddleUnseen", "sceneCount", "I", false)
  | 3 => ("MiddleUnseen", "tasks", "[LMiddleUnseen$Task;", true)
  | 4 => ("MiddleUnseen", "taskCount", "I", false)
  | 5 => ("MiddleUnseen", "laws", "[LMiddleUnseen$Law;", true)
  | 6 => ("MiddleUnseen", "lawCount", "I", false)
  | 7 => ("MiddleUnseen", "lawReader", "LMiddleUnseen$LawReader;", true)
  | 8 => ("MiddleUnseen", "hall", "LMiddleUnseen$Hall;", true)
  | 9 => ("MiddleUnseen", "images", "[LMiddleUnseen$Hall;", true)
  | 10 => ("MiddleUnseen", "imageCount", "I", false)
  | 11 => ("MiddleUnseen", "view", "LMiddleUnseen$View;", true)
  | 12 => ("MiddleUnseen", "sight", "LMiddleUnseen$Sight;", true)
  | 13 => ("MiddleUnseen", "states", "[I", true)
  | _ => ("MiddleUnseen", "oddsRow", "[J", true)
def tyX8 : Nat → FieldType := fun k => match k with
  | 0 => .object "MiddleUnseen$Tape"
  | 1 => .array (.object "MiddleUnseen$Scene")
  | 2 => .int
  | 3 => .array (.object "MiddleUnseen$Task")
  | 4 => .int
  | 5 => .array (.object "MiddleUnseen$Law")
  | 6 => .int
  | 7 => .object "MiddleUnseen$LawReader"
  | 8 => .object "MiddleUnseen$Hall"
  | 9 => .array (.object "MiddleUnseen$Hall")
  | 10 => .int
  | 11 => .object "MiddleUnseen$View"
  | 12 => .object "MiddleUnseen$Sight"
  | 13 => .array .int
  | _ => .array .long
abbrev wsX80 : List Cond := u_ws RX8 TX8 15
theorem nmX8 : ∀ a, a < 15 → ∀ b, b < 15 → a ≠ b → (TX8 a).2.1 ≠ (TX8 b).2.1 := by decide +kernel
theorem tyX8_ok : ∀ k, k < 15 → parseFieldDescriptor (TX8 k).2.2.1 = some (tyX8 k) := by decide +kernel
abbrev cX8_init : ByteArray := prog_1_method_1_code
def yX8_init : MethodName := ⟨RX8, "<init>", "()V"⟩
abbrev cX8_feed : ByteArray := prog_1_method_2_code
def yX8_feed : MethodName := ⟨RX8, "feed", "(IIIII)I"⟩
abbrev cX8_scene : ByteArray := prog_1_method_3_code
def yX8_scene : MethodName := ⟨RX8, "scene", "(I)I"⟩
abbrev cX8_task : ByteArray := prog_1_method_4_code
def yX8_task : MethodName := ⟨RX8, "task", "(I)I"⟩
abbrev cX8_law : ByteArray := prog_1_method_5_code
def yX8_law : MethodName := ⟨RX8, "law", "(I)I"⟩
abbrev cX8_fault : ByteArray := prog_1_method_6_code
def yX8_fault : MethodName := ⟨RX8, "fault", "()I"⟩
abbrev cX8_told : ByteArray := prog_1_method_7_code
def yX8_told : MethodName := ⟨RX8, "told", "(II)I"⟩
abbrev cX8_thing : ByteArray := prog_1_method_8_code
def yX8_thing : MethodName := ⟨RX8, "thing", "(IIII)I"⟩
abbrev cX8_kept : ByteArray := prog_1_method_9_code
def yX8_kept : MethodName := ⟨RX8, "kept", "(II)I"⟩
abbrev cX8_throwsOf : ByteArray := prog_1_method_10_code
def yX8_throwsOf : MethodName := ⟨RX8, "throwsOf", "(II)I"⟩
abbrev cX8_looker : ByteArray := prog_1_method_11_code
def yX8_looker : MethodName := ⟨RX8, "looker", "(IIZ)I"⟩
abbrev cX8_eyes : ByteArray := prog_1_method_12_code
def yX8_eyes : MethodName := ⟨RX8, "eyes", "(IIII)I"⟩
abbrev cX8_blink : ByteArray := prog_1_method_13_code
def yX8_blink : MethodName := ⟨RX8, "blink", "(III)I"⟩
abbrev cX8_eye : ByteArray := prog_1_method_14_code
def yX8_eye : MethodName := ⟨RX8, "eye", "(II)I"⟩
abbrev cX8_on : ByteArray := prog_1_method_15_code
def yX8_on : MethodName := ⟨RX8, "on", "(II)I"⟩
abbrev cX8_name : ByteArray := prog_1_method_16_code
def yX8_name : MethodName := ⟨RX8, "name", "(IIII)I"⟩
abbrev cX8_gets : ByteArray := prog_1_method_17_code
def yX8_gets : MethodName := ⟨RX8, "gets", "(IIIII)I"⟩
abbrev cX8_seen : ByteArray := prog_1_method_18_code
def yX8_seen : MethodName := ⟨RX8, "seen", "(III)I"⟩
abbrev cX8_says : ByteArray := prog_1_method_19_code
def yX8_says : MethodName := ⟨RX8, "says", "(III)Z"⟩
abbrev cX8_miss : ByteArray := prog_1_method_20_code
def yX8_miss : MethodName := ⟨RX8, "miss", "(III)I"⟩
abbrev cX8_drawn : ByteArray := prog_1_method_21_code
def yX8_drawn : MethodName := ⟨RX8, "drawn", "(IIII)I"⟩
abbrev cX8_change : ByteArray := prog_1_method_22_code
def yX8_change : MethodName := ⟨RX8, "change", "(II)I"⟩
abbrev cX8_yet : ByteArray := prog_1_method_23_code
def yX8_yet : MethodName := ⟨RX8, "yet", "(I)I"⟩
abbrev cX8_least : ByteArray := prog_1_method_24_code
def yX8_least : MethodName := ⟨RX8, "least", "(III)I"⟩
abbrev cX8_answer : ByteArray := prog_1_method_25_code
def yX8_answer : MethodName := ⟨RX8, "answer", "(IIZ)I"⟩
abbrev cX8_counted : ByteArray := prog_1_method_26_code
def yX8_counted : MethodName := ⟨RX8, "counted", "(II)I"⟩
abbrev cX8_sure : ByteArray := prog_1_method_27_code
def yX8_sure : MethodName := ⟨RX8, "sure", "(II)I"⟩
abbrev cX8_share : ByteArray := prog_1_method_28_code
def yX8_share : MethodName := ⟨RX8, "share", "(IIII)I"⟩
abbrev cX8_guessed : ByteArray := prog_1_method_29_code
def yX8_guessed : MethodName := ⟨RX8, "guessed", "(IIII)I"⟩
abbrev cX8_apart : ByteArray := prog_1_method_30_code
def yX8_apart : MethodName := ⟨RX8, "apart", "(IIIIII)I"⟩
abbrev cX8_gone : ByteArray := prog_1_method_31_code
def yX8_gone : MethodName := ⟨RX8, "gone", "(III)I"⟩
abbrev cX8_lost : ByteArray := prog_1_method_32_code
def yX8_lost : MethodName := ⟨RX8, "lost", "(I)I"⟩
abbrev cX8_cost : ByteArray := prog_1_method_33_code
def yX8_cost : MethodName := ⟨RX8, "cost", "(III)I"⟩
abbrev cX8_off : ByteArray := prog_1_method_34_code
def yX8_off : MethodName := ⟨RX8, "off", "(III)I"⟩
abbrev cX8_weigh : ByteArray := prog_1_method_35_code
def yX8_weigh : MethodName := ⟨RX8, "weigh", "(II)I"⟩
abbrev cX8_wrong : ByteArray := prog_1_method_36_code
def yX8_wrong : MethodName := ⟨RX8, "wrong", "(I)I"⟩
abbrev cX8_odds : ByteArray := prog_1_method_37_code
def yX8_odds : MethodName := ⟨RX8, "odds", "(I)J"⟩
abbrev cX8_best : ByteArray := prog_1_method_38_code
def yX8_best : MethodName := ⟨RX8, "best", "()I"⟩
abbrev cX8_fits : ByteArray := prog_1_method_39_code
def yX8_fits : MethodName := ⟨RX8, "fits", "(I)I"⟩
abbrev cX8_next : ByteArray := prog_1_method_40_code
def yX8_next : MethodName := ⟨RX8, "next", "()I"⟩
abbrev cX8_knowing : ByteArray := prog_1_method_41_code
def yX8_knowing : MethodName := ⟨RX8, "knowing", "(II)I"⟩
abbrev cX8_crossing : ByteArray := prog_1_method_42_code
def yX8_crossing : MethodName := ⟨RX8, "crossing", "(IIII)I"⟩
abbrev cX8_image : ByteArray := prog_1_method_43_code
def yX8_image : MethodName := ⟨RX8, "image", "()I"⟩
abbrev cX8_restore : ByteArray := prog_1_method_44_code
def yX8_restore : MethodName := ⟨RX8, "restore", "()I"⟩
abbrev cX8_count : ByteArray := prog_1_method_45_code
def yX8_count : MethodName := ⟨RX8, "count", "(I)I"⟩
abbrev cX8_require : ByteArray := prog_1_method_46_code
def yX8_require : MethodName := ⟨RX8, "require", "(Z)V"⟩
abbrev cX8_requireScene : ByteArray := prog_1_method_47_code
def yX8_requireScene : MethodName := ⟨RX8, "requireScene", "(I)V"⟩
abbrev cX8_requireTask : ByteArray := prog_1_method_48_code
def yX8_requireTask : MethodName := ⟨RX8, "requireTask", "(I)V"⟩
abbrev cX8_requireLaw : ByteArray := prog_1_method_49_code
def yX8_requireLaw : MethodName := ⟨RX8, "requireLaw", "(I)V"⟩
abbrev cX8_requireLooker : ByteArray := prog_1_method_50_code
def yX8_requireLooker : MethodName := ⟨RX8, "requireLooker", "(I)V"⟩
abbrev cX8_isTenth : ByteArray := prog_1_method_51_code
def yX8_isTenth : MethodName := ⟨RX8, "isTenth", "(I)Z"⟩
abbrev cX8_isAsking : ByteArray := prog_1_method_52_code
def yX8_isAsking : MethodName := ⟨RX8, "isAsking", "(I)Z"⟩
abbrev cX8_isFit : ByteArray := prog_1_method_53_code
def yX8_isFit : MethodName := ⟨RX8, "isFit", "(I)Z"⟩
abbrev cX8_sceneFor : ByteArray := prog_1_method_54_code
def yX8_sceneFor : MethodName := ⟨RX8, "sceneFor", "(I)LMiddleUnseen$Scene;"⟩
abbrev cX8_lookAs : ByteArray := prog_1_method_55_code
def yX8_lookAs : MethodName := ⟨RX8, "lookAs", "(II)V"⟩
abbrev cX8_stateOf : ByteArray := prog_1_method_56_code
def yX8_stateOf : MethodName := ⟨RX8, "stateOf", "(II)I"⟩
abbrev cX8_stateOfNew : ByteArray := prog_1_method_57_code
def yX8_stateOfNew : MethodName := ⟨RX8, "stateOfNew", "(III)I"⟩
abbrev cX8_forgetStates : ByteArray := prog_1_method_58_code
def yX8_forgetStates : MethodName := ⟨RX8, "forgetStates", "(I)V"⟩
abbrev cX8_isYes : ByteArray := prog_1_method_59_code
def yX8_isYes : MethodName := ⟨RX8, "isYes", "(II)Z"⟩
abbrev cX8_changeSeen : ByteArray := prog_1_method_60_code
def yX8_changeSeen : MethodName := ⟨RX8, "changeSeen", "(II)I"⟩
abbrev cX8_wasOnIt : ByteArray := prog_1_method_61_code
def yX8_wasOnIt : MethodName := ⟨RX8, "wasOnIt", "(I)Z"⟩
abbrev cX8_lostBy : ByteArray := prog_1_method_62_code
def yX8_lostBy : MethodName := ⟨RX8, "lostBy", "(I)I"⟩
abbrev cX8_lostTogether : ByteArray := prog_1_method_63_code
def yX8_lostTogether : MethodName := ⟨RX8, "lostTogether", "(II)I"⟩
abbrev cX8_root : ByteArray := prog_1_method_64_code
def yX8_root : MethodName := ⟨RX8, "root", "(I)I"⟩
abbrev cX8_choose : ByteArray := prog_1_method_65_code
def yX8_choose : MethodName := ⟨RX8, "choose", "(II)I"⟩
abbrev cX8_waysOf : ByteArray := prog_1_method_66_code
def yX8_waysOf : MethodName := ⟨RX8, "waysOf", "(IIII)I"⟩
abbrev cX8_isHeard : ByteArray := prog_1_method_67_code
def yX8_isHeard : MethodName := ⟨RX8, "isHeard", "(I)Z"⟩
abbrev cX8_oddsOf : ByteArray := prog_1_method_68_code
def yX8_oddsOf : MethodName := ⟨RX8, "oddsOf", "(I)J"⟩
abbrev cX8_fitting : ByteArray := prog_1_method_69_code
def yX8_fitting : MethodName := ⟨RX8, "fitting", "(I)I"⟩
abbrev cX8_lesserOdds : ByteArray := prog_1_method_70_code
def yX8_lesserOdds : MethodName := ⟨RX8, "lesserOdds", "(II)J"⟩
def RX9 : String := "MiddleUnseenModel"
def TX9 : u_T := fun k => match k with
  | 0 => ("MiddleUnseenModel", "thrown", "I", false)
  | 1 => ("MiddleUnseenModel", "tape", "I", false)
  | 2 => ("MiddleUnseenModel", "size", "I", false)
  | 3 => ("MiddleUnseenModel", "place", "I", false)
  | 4 => ("MiddleUnseenModel", "at", "I", false)
  | 5 => ("MiddleUnseenModel", "open", "I", false)
  | 6 => ("MiddleUnseenModel", "fault", "I", false)
  | 7 => ("MiddleUnseenModel", "faultAt", "I", false)
  | 8 => ("MiddleUnseenModel", "codes", "I", false)
  | 9 => ("MiddleUnseenModel", "clauses", "I", false)
  | 10 => ("MiddleUnseenModel", "newThings", "I", false)
  | 11 => ("MiddleUnseenModel", "fed", "[I", true)
  | 12 => ("MiddleUnseenModel", "code", "[I", true)
  | 13 => ("MiddleUnseenModel", "row", "[[I", true)
  | 14 => ("MiddleUnseenModel", "scenes", "I", false)
  | 15 => ("MiddleUnseenModel", "tasks", "I", false)
  | 16 => ("MiddleUnseenModel", "laws", "I", false)
  | 17 => ("MiddleUnseenModel", "clause", "[[I", true)
  | 18 => ("MiddleUnseenModel", "many", "[I", true)
  | 19 => ("MiddleUnseenModel", "things", "[I", true)
  | 20 => ("MiddleUnseenModel", "thing", "[[I", true)
  | 21 => ("MiddleUnseenModel", "task", "[[I", true)
  | 22 => ("MiddleUnseenModel", "lawCode", "[[I", true)
  | 23 => ("MiddleUnseenModel", "lawClause", "[[I", true)
  | 24 => ("MiddleUnseenModel", "lawMany", "[I", true)
  | 25 => ("MiddleUnseenModel", "weight", "[I", true)
  | 26 => ("MiddleUnseenModel", "stack", "[I", true)
  | 27 => ("MiddleUnseenModel", "names", "[I", true)
  | 28 => ("MiddleUnseenModel", "lookers", "I", false)
  | 29 => ("MiddleUnseenModel", "rows", "I", false)
  | 30 => ("MiddleUnseenModel", "blinks", "I", false)
  | 31 => ("MiddleUnseenModel", "wrong", "I", false)
  | 32 => ("MiddleUnseenModel", "images", "I", false)
  | 33 => ("MiddleUnseenModel", "looker", "[[I", true)
  | 34 => ("MiddleUnseenModel", "eye", "[[I", true)
  | 35 => ("MiddleUnseenModel", "blink", "[[I", true)
  | 36 => ("MiddleUnseenModel", "keptRows", "[[I", true)
  | 37 => ("MiddleUnseenModel", "spot", "I", false)
  | 38 => ("MiddleUnseenModel", "sizeThen", "I", false)
  | 39 => ("MiddleUnseenModel", "nearer", "I", false)
  | 40 => ("MiddleUnseenModel", "slower", "I", false)
  | 41 => ("MiddleUnseenModel", "seenAt", "I", false)
  | _ => ("MiddleUnseenModel", "gotAll", "I", false)
def tyX9 : Nat → FieldType := fun k => match k with
  | 0 => .int
  | 1 => .int
  | 2 => .int
  | 3 => .int
  | 4 => .int
  | 5 => .int
  | 6 => .int
  | 7 => .int
  | 8 => .int
  | 9 => .int
  | 10 => .int
  | 11 => .array .int
  | 12 => .array .int
  | 13 => .array (.array .int)
  | 14 => .int
  | 15 => .int
  | 16 => .int
  | 17 => .array (.array .int)
  | 18 => .array .int
  | 19 => .array .int
  | 20 => .array (.array .int)
  | 21 => .array (.array .int)
  | 22 => .array (.array .int)
  | 23 => .array (.array .int)
  | 24 => .array .int
  | 25 => .array .int
  | 26 => .array .int
  | 27 => .array .int
  | 28 => .int
  | 29 => .int
  | 30 => .int
  | 31 => .int
  | 32 => .int
  | 33 => .array (.array .int)
  | 34 => .array (.array .int)
  | 35 => .array (.array .int)
  | 36 => .array (.array .int)
  | 37 => .int
  | 38 => .int
  | 39 => .int
  | 40 => .int
  | 41 => .int
  | _ => .int
abbrev wsX90 : List Cond := u_ws RX9 TX9 43
theorem nmX9 : ∀ a, a < 43 → ∀ b, b < 43 → a ≠ b → (TX9 a).2.1 ≠ (TX9 b).2.1 := by decide +kernel
theorem tyX9_ok : ∀ k, k < 43 → parseFieldDescriptor (TX9 k).2.2.1 = some (tyX9 k) := by decide +kernel
abbrev cX9_init : ByteArray := prog_11_method_1_code
def yX9_init : MethodName := ⟨RX9, "<init>", "()V"⟩
abbrev cX9_thrown : ByteArray := prog_11_method_2_code
def yX9_thrown : MethodName := ⟨RX9, "thrown", "()I"⟩
abbrev cX9_bad : ByteArray := prog_11_method_3_code
def yX9_bad : MethodName := ⟨RX9, "bad", "(ZI)Z"⟩
abbrev cX9_in : ByteArray := prog_11_method_4_code
def yX9_in : MethodName := ⟨RX9, "in", "(III)Z"⟩
abbrev cX9_within : ByteArray := prog_11_method_5_code
def yX9_within : MethodName := ⟨RX9, "within", "(III)I"⟩
abbrev cX9_more : ByteArray := prog_11_method_6_code
def yX9_more : MethodName := ⟨RX9, "more", "(II)I"⟩
abbrev cX9_less : ByteArray := prog_11_method_7_code
def yX9_less : MethodName := ⟨RX9, "less", "(II)I"⟩
abbrev cX9_amount : ByteArray := prog_11_method_8_code
def yX9_amount : MethodName := ⟨RX9, "amount", "(I)I"⟩
abbrev cX9_feed : ByteArray := prog_11_method_9_code
def yX9_feed : MethodName := ⟨RX9, "feed", "(IIIII)I"⟩
abbrev cX9_byteAt : ByteArray := prog_11_method_10_code
def yX9_byteAt : MethodName := ⟨RX9, "byteAt", "(I)I"⟩
abbrev cX9_blanks : ByteArray := prog_11_method_11_code
def yX9_blanks : MethodName := ⟨RX9, "blanks", "()V"⟩
abbrev cX9_wrongAt : ByteArray := prog_11_method_12_code
def yX9_wrongAt : MethodName := ⟨RX9, "wrongAt", "(II)V"⟩
abbrev cX9_tells : ByteArray := prog_11_method_13_code
def yX9_tells : MethodName := ⟨RX9, "tells", "(I)V"⟩
abbrev cX9_isDigit : ByteArray := prog_11_method_14_code
def yX9_isDigit : MethodName := ⟨RX9, "isDigit", "(I)Z"⟩
abbrev cX9_number : ByteArray := prog_11_method_15_code
def yX9_number : MethodName := ⟨RX9, "number", "(III)I"⟩
abbrev cX9_wordHere : ByteArray := prog_11_method_16_code
def yX9_wordHere : MethodName := ⟨RX9, "wordHere", "()I"⟩
abbrev cX9_word : ByteArray := prog_11_method_17_code
def yX9_word : MethodName := ⟨RX9, "word", "(IIIIII)I"⟩
abbrev cX9_isWord : ByteArray := prog_11_method_18_code
def yX9_isWord : MethodName := ⟨RX9, "isWord", "(IIIIII)Z"⟩
abbrev cX9_skipWord : ByteArray := prog_11_method_19_code
def yX9_skipWord : MethodName := ⟨RX9, "skipWord", "()V"⟩
abbrev cX9_sign : ByteArray := prog_11_method_20_code
def yX9_sign : MethodName := ⟨RX9, "sign", "(I)V"⟩
abbrev cX9_opens : ByteArray := prog_11_method_21_code
def yX9_opens : MethodName := ⟨RX9, "opens", "(I)V"⟩
abbrev cX9_begins : ByteArray := prog_11_method_22_code
def yX9_begins : MethodName := ⟨RX9, "begins", "(I)V"⟩
abbrev cX9_needs : ByteArray := prog_11_method_23_code
def yX9_needs : MethodName := ⟨RX9, "needs", "(II)V"⟩
abbrev cX9_sceneHere : ByteArray := prog_11_method_24_code
def yX9_sceneHere : MethodName := ⟨RX9, "sceneHere", "()I"⟩
abbrev cX9_sceneClause : ByteArray := prog_11_method_25_code
def yX9_sceneClause : MethodName := ⟨RX9, "sceneClause", "()V"⟩
abbrev cX9_readsWay : ByteArray := prog_11_method_26_code
def yX9_readsWay : MethodName := ⟨RX9, "readsWay", "([I)V"⟩
abbrev cX9_isRead : ByteArray := prog_11_method_27_code
def yX9_isRead : MethodName := ⟨RX9, "isRead", "(IZ)Z"⟩
abbrev cX9_scene : ByteArray := prog_11_method_28_code
def yX9_scene : MethodName := ⟨RX9, "scene", "(I)I"⟩
abbrev cX9_taskHere : ByteArray := prog_11_method_29_code
def yX9_taskHere : MethodName := ⟨RX9, "taskHere", "()I"⟩
abbrev cX9_taskClause : ByteArray := prog_11_method_30_code
def yX9_taskClause : MethodName := ⟨RX9, "taskClause", "()V"⟩
abbrev cX9_task : ByteArray := prog_11_method_31_code
def yX9_task : MethodName := ⟨RX9, "task", "(I)I"⟩
abbrev cX9_nameHere : ByteArray := prog_11_method_32_code
def yX9_nameHere : MethodName := ⟨RX9, "nameHere", "()I"⟩
abbrev cX9_unit : ByteArray := prog_11_method_33_code
def yX9_unit : MethodName := ⟨RX9, "unit", "()V"⟩
abbrev cX9_product : ByteArray := prog_11_method_34_code
def yX9_product : MethodName := ⟨RX9, "product", "()V"⟩
abbrev cX9_sum : ByteArray := prog_11_method_35_code
def yX9_sum : MethodName := ⟨RX9, "sum", "()V"⟩
abbrev cX9_test : ByteArray := prog_11_method_36_code
def yX9_test : MethodName := ⟨RX9, "test", "()V"⟩
abbrev cX9_ands : ByteArray := prog_11_method_37_code
def yX9_ands : MethodName := ⟨RX9, "ands", "()V"⟩
abbrev cX9_ors : ByteArray := prog_11_method_38_code
def yX9_ors : MethodName := ⟨RX9, "ors", "()V"⟩
abbrev cX9_lawHere : ByteArray := prog_11_method_39_code
def yX9_lawHere : MethodName := ⟨RX9, "lawHere", "()I"⟩
abbrev cX9_lawClauseHere : ByteArray := prog_11_method_40_code
def yX9_lawClauseHere : MethodName := ⟨RX9, "lawClauseHere", "()V"⟩
abbrev cX9_law : ByteArray := prog_11_method_41_code
def yX9_law : MethodName := ⟨RX9, "law", "(I)I"⟩
abbrev cX9_fault : ByteArray := prog_11_method_42_code
def yX9_fault : MethodName := ⟨RX9, "fault", "()I"⟩
abbrev cX9_worked : ByteArray := prog_11_method_43_code
def yX9_worked : MethodName := ⟨RX9, "worked", "(III)I"⟩
abbrev cX9_work : ByteArray := prog_11_method_44_code
def yX9_work : MethodName := ⟨RX9, "work", "(III)I"⟩
abbrev cX9_holds : ByteArray := prog_11_method_45_code
def yX9_holds : MethodName := ⟨RX9, "holds", "(I[I)Z"⟩
abbrev cX9_lastOf : ByteArray := prog_11_method_46_code
def yX9_lastOf : MethodName := ⟨RX9, "lastOf", "(IIIII)I"⟩
abbrev cX9_getsNow : ByteArray := prog_11_method_47_code
def yX9_getsNow : MethodName := ⟨RX9, "getsNow", "(I)I"⟩
abbrev cX9_isScene : ByteArray := prog_11_method_48_code
def yX9_isScene : MethodName := ⟨RX9, "isScene", "(I)Z"⟩
abbrev cX9_isTask : ByteArray := prog_11_method_49_code
def yX9_isTask : MethodName := ⟨RX9, "isTask", "(I)Z"⟩
abbrev cX9_isLaw : ByteArray := prog_11_method_50_code
def yX9_isLaw : MethodName := ⟨RX9, "isLaw", "(I)Z"⟩
abbrev cX9_wayOf : ByteArray := prog_11_method_51_code
def yX9_wayOf : MethodName := ⟨RX9, "wayOf", "(III)I"⟩
abbrev cX9_placeOf : ByteArray := prog_11_method_52_code
def yX9_placeOf : MethodName := ⟨RX9, "placeOf", "(IIII)I"⟩
abbrev cX9_isThere : ByteArray := prog_11_method_53_code
def yX9_isThere : MethodName := ⟨RX9, "isThere", "(III)Z"⟩
abbrev cX9_paceOf : ByteArray := prog_11_method_54_code
def yX9_paceOf : MethodName := ⟨RX9, "paceOf", "(III)I"⟩
abbrev cX9_colourOf : ByteArray := prog_11_method_55_code
def yX9_colourOf : MethodName := ⟨RX9, "colourOf", "(III)I"⟩
abbrev cX9_isChanged : ByteArray := prog_11_method_56_code
def yX9_isChanged : MethodName := ⟨RX9, "isChanged", "(III)Z"⟩
abbrev cX9_countOf : ByteArray := prog_11_method_57_code
def yX9_countOf : MethodName := ⟨RX9, "countOf", "(II)I"⟩
abbrev cX9_endOf : ByteArray := prog_11_method_58_code
def yX9_endOf : MethodName := ⟨RX9, "endOf", "(I)I"⟩
abbrev cX9_oddOf : ByteArray := prog_11_method_59_code
def yX9_oddOf : MethodName := ⟨RX9, "oddOf", "(I)I"⟩
abbrev cX9_turnsOf : ByteArray := prog_11_method_60_code
def yX9_turnsOf : MethodName := ⟨RX9, "turnsOf", "(I)I"⟩
abbrev cX9_told : ByteArray := prog_11_method_61_code
def yX9_told : MethodName := ⟨RX9, "told", "(II)I"⟩
abbrev cX9_thing : ByteArray := prog_11_method_62_code
def yX9_thing : MethodName := ⟨RX9, "thing", "(IIII)I"⟩
abbrev cX9_kept : ByteArray := prog_11_method_63_code
def yX9_kept : MethodName := ⟨RX9, "kept", "(II)I"⟩
abbrev cX9_isCounted : ByteArray := prog_11_method_64_code
def yX9_isCounted : MethodName := ⟨RX9, "isCounted", "(II[I)Z"⟩
abbrev cX9_throwsBy : ByteArray := prog_11_method_65_code
def yX9_throwsBy : MethodName := ⟨RX9, "throwsBy", "(II)I"⟩
abbrev cX9_throwsOf : ByteArray := prog_11_method_66_code
def yX9_throwsOf : MethodName := ⟨RX9, "throwsOf", "(II)I"⟩
abbrev cX9_comes : ByteArray := prog_11_method_67_code
def yX9_comes : MethodName := ⟨RX9, "comes", "(IIIZ)V"⟩
abbrev cX9_looker : ByteArray := prog_11_method_68_code
def yX9_looker : MethodName := ⟨RX9, "looker", "(IIZ)I"⟩
abbrev cX9_isLooker : ByteArray := prog_11_method_69_code
def yX9_isLooker : MethodName := ⟨RX9, "isLooker", "(I)Z"⟩
abbrev cX9_eyes : ByteArray := prog_11_method_70_code
def yX9_eyes : MethodName := ⟨RX9, "eyes", "(IIII)I"⟩
abbrev cX9_blink : ByteArray := prog_11_method_71_code
def yX9_blink : MethodName := ⟨RX9, "blink", "(III)I"⟩
abbrev cX9_isShut : ByteArray := prog_11_method_72_code
def yX9_isShut : MethodName := ⟨RX9, "isShut", "(II)Z"⟩
abbrev cX9_looks : ByteArray := prog_11_method_73_code
def yX9_looks : MethodName := ⟨RX9, "looks", "(II)I"⟩
abbrev cX9_eyeOf : ByteArray := prog_11_method_74_code
def yX9_eyeOf : MethodName := ⟨RX9, "eyeOf", "(II)I"⟩
abbrev cX9_eye : ByteArray := prog_11_method_75_code
def yX9_eye : MethodName := ⟨RX9, "eye", "(II)I"⟩
abbrev cX9_nearOf : ByteArray := prog_11_method_76_code
def yX9_nearOf : MethodName := ⟨RX9, "nearOf", "(III)I"⟩
abbrev cX9_fullOf : ByteArray := prog_11_method_77_code
def yX9_fullOf : MethodName := ⟨RX9, "fullOf", "(II)I"⟩
abbrev cX9_tellsNames : ByteArray := prog_11_method_78_code
def yX9_tellsNames : MethodName := ⟨RX9, "tellsNames", "(III)V"⟩
abbrev cX9_isThing : ByteArray := prog_11_method_79_code
def yX9_isThing : MethodName := ⟨RX9, "isThing", "(II)Z"⟩
abbrev cX9_name : ByteArray := prog_11_method_80_code
def yX9_name : MethodName := ⟨RX9, "name", "(IIII)I"⟩
abbrev cX9_on : ByteArray := prog_11_method_81_code
def yX9_on : MethodName := ⟨RX9, "on", "(II)I"⟩
abbrev cX9_getsIn : ByteArray := prog_11_method_82_code
def yX9_getsIn : MethodName := ⟨RX9, "getsIn", "(IIII)I"⟩
abbrev cX9_lineNow : ByteArray := prog_11_method_83_code
def yX9_lineNow : MethodName := ⟨RX9, "lineNow", "(I)I"⟩
abbrev cX9_goes : ByteArray := prog_11_method_84_code
def yX9_goes : MethodName := ⟨RX9, "goes", "(IIIIIZ)V"⟩
abbrev cX9_seenOf : ByteArray := prog_11_method_85_code
def yX9_seenOf : MethodName := ⟨RX9, "seenOf", "(III)I"⟩
abbrev cX9_gets : ByteArray := prog_11_method_86_code
def yX9_gets : MethodName := ⟨RX9, "gets", "(IIIII)I"⟩
abbrev cX9_seen : ByteArray := prog_11_method_87_code
def yX9_seen : MethodName := ⟨RX9, "seen", "(III)I"⟩
abbrev cX9_isForgotten : ByteArray := prog_11_method_88_code
def yX9_isForgotten : MethodName := ⟨RX9, "isForgotten", "(II)Z"⟩
abbrev cX9_isUnsure : ByteArray := prog_11_method_89_code
def yX9_isUnsure : MethodName := ⟨RX9, "isUnsure", "(II)Z"⟩
abbrev cX9_saysBy : ByteArray := prog_11_method_90_code
def yX9_saysBy : MethodName := ⟨RX9, "saysBy", "(III)Z"⟩
abbrev cX9_says : ByteArray := prog_11_method_91_code
def yX9_says : MethodName := ⟨RX9, "says", "(III)Z"⟩
abbrev cX9_isDropped : ByteArray := prog_11_method_92_code
def yX9_isDropped : MethodName := ⟨RX9, "isDropped", "(II)Z"⟩
abbrev cX9_nearest : ByteArray := prog_11_method_93_code
def yX9_nearest : MethodName := ⟨RX9, "nearest", "(II)I"⟩
abbrev cX9_miss : ByteArray := prog_11_method_94_code
def yX9_miss : MethodName := ⟨RX9, "miss", "(III)I"⟩
abbrev cX9_drawn : ByteArray := prog_11_method_95_code
def yX9_drawn : MethodName := ⟨RX9, "drawn", "(IIII)I"⟩
abbrev cX9_changeOf : ByteArray := prog_11_method_96_code
def yX9_changeOf : MethodName := ⟨RX9, "changeOf", "(II)I"⟩
abbrev cX9_change : ByteArray := prog_11_method_97_code
def yX9_change : MethodName := ⟨RX9, "change", "(II)I"⟩
abbrev cX9_yet : ByteArray := prog_11_method_98_code
def yX9_yet : MethodName := ⟨RX9, "yet", "(I)I"⟩
abbrev cX9_least : ByteArray := prog_11_method_99_code
def yX9_least : MethodName := ⟨RX9, "least", "(III)I"⟩
abbrev cX9_answer : ByteArray := prog_11_method_100_code
def yX9_answer : MethodName := ⟨RX9, "answer", "(IIZ)I"⟩
abbrev cX9_counted : ByteArray := prog_11_method_101_code
def yX9_counted : MethodName := ⟨RX9, "counted", "(II)I"⟩
abbrev cX9_sure : ByteArray := prog_11_method_102_code
def yX9_sure : MethodName := ⟨RX9, "sure", "(II)I"⟩
abbrev cX9_isOf : ByteArray := prog_11_method_103_code
def yX9_isOf : MethodName := ⟨RX9, "isOf", "(III)Z"⟩
abbrev cX9_isInGroup : ByteArray := prog_11_method_104_code
def yX9_isInGroup : MethodName := ⟨RX9, "isInGroup", "(IIII)Z"⟩
abbrev cX9_asked : ByteArray := prog_11_method_105_code
def yX9_asked : MethodName := ⟨RX9, "asked", "(III)I"⟩
abbrev cX9_yes : ByteArray := prog_11_method_106_code
def yX9_yes : MethodName := ⟨RX9, "yes", "(III)I"⟩
abbrev cX9_root : ByteArray := prog_11_method_107_code
def yX9_root : MethodName := ⟨RX9, "root", "(I)I"⟩
abbrev cX9_share : ByteArray := prog_11_method_108_code
def yX9_share : MethodName := ⟨RX9, "share", "(IIII)I"⟩
abbrev cX9_guessed : ByteArray := prog_11_method_109_code
def yX9_guessed : MethodName := ⟨RX9, "guessed", "(IIII)I"⟩
abbrev cX9_choose : ByteArray := prog_11_method_110_code
def yX9_choose : MethodName := ⟨RX9, "choose", "(II)I"⟩
abbrev cX9_apart : ByteArray := prog_11_method_111_code
def yX9_apart : MethodName := ⟨RX9, "apart", "(IIIIII)I"⟩
abbrev cX9_gone : ByteArray := prog_11_method_112_code
def yX9_gone : MethodName := ⟨RX9, "gone", "(III)I"⟩
abbrev cX9_lostOf : ByteArray := prog_11_method_113_code
def yX9_lostOf : MethodName := ⟨RX9, "lostOf", "(I)I"⟩
abbrev cX9_lost : ByteArray := prog_11_method_114_code
def yX9_lost : MethodName := ⟨RX9, "lost", "(I)I"⟩
abbrev cX9_lostBy : ByteArray := prog_11_method_115_code
def yX9_lostBy : MethodName := ⟨RX9, "lostBy", "(IIZ)I"⟩
abbrev cX9_cost : ByteArray := prog_11_method_116_code
def yX9_cost : MethodName := ⟨RX9, "cost", "(III)I"⟩
abbrev cX9_off : ByteArray := prog_11_method_117_code
def yX9_off : MethodName := ⟨RX9, "off", "(III)I"⟩
abbrev cX9_weigh : ByteArray := prog_11_method_118_code
def yX9_weigh : MethodName := ⟨RX9, "weigh", "(II)I"⟩
abbrev cX9_wrong : ByteArray := prog_11_method_119_code
def yX9_wrong : MethodName := ⟨RX9, "wrong", "(I)I"⟩
abbrev cX9_isAsked : ByteArray := prog_11_method_120_code
def yX9_isAsked : MethodName := ⟨RX9, "isAsked", "(I)Z"⟩
abbrev cX9_isAlike : ByteArray := prog_11_method_121_code
def yX9_isAlike : MethodName := ⟨RX9, "isAlike", "(II)Z"⟩
abbrev cX9_oddsOf : ByteArray := prog_11_method_122_code
def yX9_oddsOf : MethodName := ⟨RX9, "oddsOf", "(I)J"⟩
abbrev cX9_odds : ByteArray := prog_11_method_123_code
def yX9_odds : MethodName := ⟨RX9, "odds", "(I)J"⟩
abbrev cX9_best : ByteArray := prog_11_method_124_code
def yX9_best : MethodName := ⟨RX9, "best", "()I"⟩
abbrev cX9_fitting : ByteArray := prog_11_method_125_code
def yX9_fitting : MethodName := ⟨RX9, "fitting", "(I)I"⟩
abbrev cX9_fits : ByteArray := prog_11_method_126_code
def yX9_fits : MethodName := ⟨RX9, "fits", "(I)I"⟩
abbrev cX9_next : ByteArray := prog_11_method_127_code
def yX9_next : MethodName := ⟨RX9, "next", "()I"⟩
abbrev cX9_knowing : ByteArray := prog_11_method_128_code
def yX9_knowing : MethodName := ⟨RX9, "knowing", "(II)I"⟩
abbrev cX9_crossing : ByteArray := prog_11_method_129_code
def yX9_crossing : MethodName := ⟨RX9, "crossing", "(IIII)I"⟩
abbrev cX9_moves : ByteArray := prog_11_method_130_code
def yX9_moves : MethodName := ⟨RX9, "moves", "(IIZ)I"⟩
abbrev cX9_movesRow : ByteArray := prog_11_method_131_code
def yX9_movesRow : MethodName := ⟨RX9, "movesRow", "(I[IZ)V"⟩
abbrev cX9_movesAll : ByteArray := prog_11_method_132_code
def yX9_movesAll : MethodName := ⟨RX9, "movesAll", "(IZ)V"⟩
abbrev cX9_image : ByteArray := prog_11_method_133_code
def yX9_image : MethodName := ⟨RX9, "image", "()I"⟩
abbrev cX9_restore : ByteArray := prog_11_method_134_code
def yX9_restore : MethodName := ⟨RX9, "restore", "()I"⟩
abbrev cX9_count : ByteArray := prog_11_method_135_code
def yX9_count : MethodName := ⟨RX9, "count", "(I)I"⟩
def RJx145de : String := "java/io/Serializable"
def TJx145de : u_T := fun k => match k with
  | _ => ("", "", "", false)
def tyJx145de : Nat → FieldType := fun k => match k with
  | _ => .int
abbrev wsJx145de0 : List Cond := u_ws RJx145de TJx145de 0
theorem nmJx145de : ∀ a, a < 0 → ∀ b, b < 0 → a ≠ b → (TJx145de a).2.1 ≠ (TJx145de b).2.1 := by decide +kernel
theorem tyJx145de_ok : ∀ k, k < 0 → parseFieldDescriptor (TJx145de k).2.2.1 = some (tyJx145de k) := by decide +kernel
def RJx9f9b0 : String := "java/lang/CharSequence"
def TJx9f9b0 : u_T := fun k => match k with
  | _ => ("", "", "", false)
def tyJx9f9b0 : Nat → FieldType := fun k => match k with
  | _ => .int
abbrev wsJx9f9b00 : List Cond := u_ws RJx9f9b0 TJx9f9b0 0
theorem nmJx9f9b0 : ∀ a, a < 0 → ∀ b, b < 0 → a ≠ b → (TJx9f9b0 a).2.1 ≠ (TJx9f9b0 b).2.1 := by decide +kernel
theorem tyJx9f9b0_ok : ∀ k, k < 0 → parseFieldDescriptor (TJx9f9b0 k).2.2.1 = some (tyJx9f9b0 k) := by decide +kernel
def RJxb160c : String := "java/lang/Comparable"
def TJxb160c : u_T := fun k => match k with
  | _ => ("", "", "", false)
def tyJxb160c : Nat → FieldType := fun k => match k with
  | _ => .int
abbrev wsJxb160c0 : List Cond := u_ws RJxb160c TJxb160c 0
theorem nmJxb160c : ∀ a, a < 0 → ∀ b, b < 0 → a ≠ b → (TJxb160c a).2.1 ≠ (TJxb160c b).2.1 := by decide +kernel
theorem tyJxb160c_ok : ∀ k, k < 0 → parseFieldDescriptor (TJxb160c k).2.2.1 = some (tyJxb160c k) := by decide +kernel
def RJ9 : String := "java/lang/Math"
def TJ9 : u_T := fun k => match k with
  | _ => ("", "", "", false)
def tyJ9 : Nat → FieldType := fun k => match k with
  | _ => .int
abbrev wsJ90 : List Cond := u_ws RJ9 TJ9 0
theorem nmJ9 : ∀ a, a < 0 → ∀ b, b < 0 → a ≠ b → (TJ9 a).2.1 ≠ (TJ9 b).2.1 := by decide +kernel
theorem tyJ9_ok : ∀ k, k < 0 → parseFieldDescriptor (TJ9 k).2.2.1 = some (tyJ9 k) := by decide +kernel
abbrev cJ9_abs_0f7a4 : ByteArray := prog_18_method_59_code
def yJ9_abs_0f7a4 : MethodName := ⟨RJ9, "abs", "(I)I"⟩
abbrev cJ9_max_7cf53 : ByteArray := prog_18_method_65_code
def yJ9_max_7cf53 : MethodName := ⟨RJ9, "max", "(II)I"⟩
abbrev cJ9_min_7cf53 : ByteArray := prog_18_method_69_code
def yJ9_min_7cf53 : MethodName := ⟨RJ9, "min", "(II)I"⟩
abbrev cJ9_min_f86c9 : ByteArray := prog_18_method_70_code
def yJ9_min_f86c9 : MethodName := ⟨RJ9, "min", "(JJ)J"⟩
def RJ0 : String := "java/lang/String"
def TJ0 : u_T := fun k => match k with
  | _ => ("", "", "", false)
def tyJ0 : Nat → FieldType := fun k => match k with
  | _ => .int
abbrev wsJ00 : List Cond := u_ws RJ0 TJ0 0
theorem nmJ0 : ∀ a, a < 0 → ∀ b, b < 0 → a ≠ b → (TJ0 a).2.1 ≠ (TJ0 b).2.1 := by decide +kernel
theorem tyJ0_ok : ∀ k, k < 0 → parseFieldDescriptor (TJ0 k).2.2.1 = some (tyJ0 k) := by decide +kernel
abbrev cJ0_length_8abf5 : ByteArray := prog_20_method_54_code
def yJ0_length_8abf5 : MethodName := ⟨RJ0, "length", "()I"⟩
abbrev cJ0_charAt_5068e : ByteArray := prog_20_method_56_code
def yJ0_charAt_5068e : MethodName := ⟨RJ0, "charAt", "(I)C"⟩
abbrev cJ0_coder_7d493 : ByteArray := prog_20_method_152_code
def yJ0_coder_7d493 : MethodName := ⟨RJ0, "coder", "()B"⟩
abbrev cJ0_isLatin1_aae02 : ByteArray := prog_20_method_154_code
def yJ0_isLatin1_aae02 : MethodName := ⟨RJ0, "isLatin1", "()Z"⟩
abbrev cJ0_checkIndex_df160 : ByteArray := prog_20_method_155_code
def yJ0_checkIndex_df160 : MethodName := ⟨RJ0, "checkIndex", "(II)V"⟩
def RJ1 : String := "java/lang/StringLatin1"
def TJ1 : u_T := fun k => match k with
  | _ => ("", "", "", false)
def tyJ1 : Nat → FieldType := fun k => match k with
  | _ => .int
abbrev wsJ10 : List Cond := u_ws RJ1 TJ1 0
theorem nmJ1 : ∀ a, a < 0 → ∀ b, b < 0 → a ≠ b → (TJ1 a).2.1 ≠ (TJ1 b).2.1 := by decide +kernel
theorem tyJ1_ok : ∀ k, k < 0 → parseFieldDescriptor (TJ1 k).2.2.1 = some (tyJ1 k) := by decide +kernel
abbrev cJ1_charAt_3b067 : ByteArray := prog_21_method_2_code
def yJ1_charAt_3b067 : MethodName := ⟨RJ1, "charAt", "([BI)C"⟩
def RJ2 : String := "java/lang/StringUTF16"
def TJ2 : u_T := fun k => match k with
  | _ => ("", "", "", false)
def tyJ2 : Nat → FieldType := fun k => match k with
  | _ => .int
abbrev wsJ20 : List Cond := u_ws RJ2 TJ2 0
theorem nmJ2 : ∀ a, a < 0 → ∀ b, b < 0 → a ≠ b → (TJ2 a).2.1 ≠ (TJ2 b).2.1 := by decide +kernel
theorem tyJ2_ok : ∀ k, k < 0 → parseFieldDescriptor (TJ2 k).2.2.1 = some (tyJ2 k) := by decide +kernel
abbrev cJ2_getChar_3b067 : ByteArray := prog_22_method_5_code
def yJ2_getChar_3b067 : MethodName := ⟨RJ2, "getChar", "([BI)C"⟩
abbrev cJ2_length_9d52b : ByteArray := prog_22_method_6_code
def yJ2_length_9d52b : MethodName := ⟨RJ2, "length", "([B)I"⟩
abbrev cJ2_charAt_3b067 : ByteArray := prog_22_method_83_code
def yJ2_charAt_3b067 : MethodName := ⟨RJ2, "charAt", "([BI)C"⟩
abbrev cJ2_checkIndex_2214a : ByteArray := prog_22_method_91_code
def yJ2_checkIndex_2214a : MethodName := ⟨RJ2, "checkIndex", "(I[B)V"⟩
def RJ10 : String := "java/lang/System"
def TJ10 : u_T := fun k => match k with
  | _ => ("", "", "", false)
def tyJ10 : Nat → FieldType := fun k => match k with
  | _ => .int
abbrev wsJ100 : List Cond := u_ws RJ10 TJ10 0
theorem nmJ10 : ∀ a, a < 0 → ∀ b, b < 0 → a ≠ b → (TJ10 a).2.1 ≠ (TJ10 b).2.1 := by decide +kernel
theorem tyJ10_ok : ∀ k, k < 0 → parseFieldDescriptor (TJ10 k).2.2.1 = some (tyJ10 k) := by decide +kernel
def RJxfd54e : String := "java/lang/constant/Constable"
def TJxfd54e : u_T := fun k => match k with
  | _ => ("", "", "", false)
def tyJxfd54e : Nat → FieldType := fun k => match k with
  | _ => .int
abbrev wsJxfd54e0 : List Cond := u_ws RJxfd54e TJxfd54e 0
theorem nmJxfd54e : ∀ a, a < 0 → ∀ b, b < 0 → a ≠ b → (TJxfd54e a).2.1 ≠ (TJxfd54e b).2.1 := by decide +kernel
theorem tyJxfd54e_ok : ∀ k, k < 0 → parseFieldDescriptor (TJxfd54e k).2.2.1 = some (tyJxfd54e k) := by decide +kernel
def RJx3cf43 : String := "java/lang/constant/ConstantDesc"
def TJx3cf43 : u_T := fun k => match k with
  | _ => ("", "", "", false)
def tyJx3cf43 : Nat → FieldType := fun k => match k with
  | _ => .int
abbrev wsJx3cf430 : List Cond := u_ws RJx3cf43 TJx3cf43 0
theorem nmJx3cf43 : ∀ a, a < 0 → ∀ b, b < 0 → a ≠ b → (TJx3cf43 a).2.1 ≠ (TJx3cf43 b).2.1 := by decide +kernel
theorem tyJx3cf43_ok : ∀ k, k < 0 → parseFieldDescriptor (TJx3cf43 k).2.2.1 = some (tyJx3cf43 k) := by decide +kernel
def RJ3 : String := "jdk/internal/util/Preconditions"
def TJ3 : u_T := fun k => match k with
  | _ => ("", "", "", false)
def tyJ3 : Nat → FieldType := fun k => match k with
  | _ => .int
abbrev wsJ30 : List Cond := u_ws RJ3 TJ3 0
theorem nmJ3 : ∀ a, a < 0 → ∀ b, b < 0 → a ≠ b → (TJ3 a).2.1 ≠ (TJ3 b).2.1 := by decide +kernel
theorem tyJ3_ok : ∀ k, k < 0 → parseFieldDescriptor (TJ3 k).2.2.1 = some (tyJ3 k) := by decide +kernel
abbrev cJ3_checkIndex_8e157 : ByteArray := prog_28_method_11_code
def yJ3_checkIndex_8e157 : MethodName := ⟨RJ3, "checkIndex", "(IILjava/util/function/BiFunction;)I"⟩
def RL : String := "MiddleUnseenLaw"
abbrev cL_scene : ByteArray := method_3_code
def yL_scene : MethodName := ⟨RL, "scene", "(LMiddleUnseen;I[J)I"⟩
abbrev cL_task : ByteArray := method_4_code
def yL_task : MethodName := ⟨RL, "task", "(LMiddleUnseen;I[J)I"⟩
abbrev cL_law : ByteArray := method_5_code
def yL_law : MethodName := ⟨RL, "law", "(LMiddleUnseen;I[J)I"⟩
abbrev cL_told : ByteArray := method_6_code
def yL_told : MethodName := ⟨RL, "told", "(LMiddleUnseen;II[J)I"⟩
abbrev cL_thing : ByteArray := method_7_code
def yL_thing : MethodName := ⟨RL, "thing", "(LMiddleUnseen;IIII[J)I"⟩
abbrev cL_kept : ByteArray := method_8_code
def yL_kept : MethodName := ⟨RL, "kept", "(LMiddleUnseen;II[J)I"⟩
abbrev cL_throwsOf : ByteArray := method_9_code
def yL_throwsOf : MethodName := ⟨RL, "throwsOf", "(LMiddleUnseen;II[J)I"⟩
abbrev cL_looker : ByteArray := method_10_code
def yL_looker : MethodName := ⟨RL, "looker", "(LMiddleUnseen;IIZ[J)I"⟩
abbrev cL_eyes : ByteArray := method_11_code
def yL_eyes : MethodName := ⟨RL, "eyes", "(LMiddleUnseen;IIII[J)I"⟩
abbrev cL_blink : ByteArray := method_12_code
def yL_blink : MethodName := ⟨RL, "blink", "(LMiddleUnseen;III[J)I"⟩
abbrev cL_eye : ByteArray := method_13_code
def yL_eye : MethodName := ⟨RL, "eye", "(LMiddleUnseen;II[J)I"⟩
abbrev cL_on : ByteArray := method_14_code
def yL_on : MethodName := ⟨RL, "on", "(LMiddleUnseen;II[J)I"⟩
abbrev cL_name : ByteArray := method_15_code
def yL_name : MethodName := ⟨RL, "name", "(LMiddleUnseen;IIII[J)I"⟩
abbrev cL_gets : ByteArray := method_16_code
def yL_gets : MethodName := ⟨RL, "gets", "(LMiddleUnseen;IIIII[J)I"⟩
abbrev cL_seen : ByteArray := method_17_code
def yL_seen : MethodName := ⟨RL, "seen", "(LMiddleUnseen;III[J)I"⟩
abbrev cL_says : ByteArray := method_18_code
def yL_says : MethodName := ⟨RL, "says", "(LMiddleUnseen;III[J)I"⟩
abbrev cL_miss : ByteArray := method_19_code
def yL_miss : MethodName := ⟨RL, "miss", "(LMiddleUnseen;III[J)I"⟩
abbrev cL_drawn : ByteArray := method_20_code
def yL_drawn : MethodName := ⟨RL, "drawn", "(LMiddleUnseen;IIII[J)I"⟩
abbrev cL_change : ByteArray := method_21_code
def yL_change : MethodName := ⟨RL, "change", "(LMiddleUnseen;II[J)I"⟩
abbrev cL_yet : ByteArray := method_22_code
def yL_yet : MethodName := ⟨RL, "yet", "(LMiddleUnseen;I[J)I"⟩
abbrev cL_least : ByteArray := method_23_code
def yL_least : MethodName := ⟨RL, "least", "(LMiddleUnseen;III[J)I"⟩
abbrev cL_answer : ByteArray := method_24_code
def yL_answer : MethodName := ⟨RL, "answer", "(LMiddleUnseen;IIZ[J)I"⟩
abbrev cL_counted : ByteArray := method_25_code
def yL_counted : MethodName := ⟨RL, "counted", "(LMiddleUnseen;II[J)I"⟩
abbrev cL_sure : ByteArray := method_26_code
def yL_sure : MethodName := ⟨RL, "sure", "(LMiddleUnseen;II[J)I"⟩
abbrev cL_share : ByteArray := method_27_code
def yL_share : MethodName := ⟨RL, "share", "(LMiddleUnseen;IIII[J)I"⟩
abbrev cL_guessed : ByteArray := method_28_code
def yL_guessed : MethodName := ⟨RL, "guessed", "(LMiddleUnseen;IIII[J)I"⟩
abbrev cL_apart : ByteArray := method_29_code
def yL_apart : MethodName := ⟨RL, "apart", "(LMiddleUnseen;IIIIII[J)I"⟩
abbrev cL_gone : ByteArray := method_30_code
def yL_gone : MethodName := ⟨RL, "gone", "(LMiddleUnseen;III[J)I"⟩
abbrev cL_lost : ByteArray := method_31_code
def yL_lost : MethodName := ⟨RL, "lost", "(LMiddleUnseen;I[J)I"⟩
abbrev cL_cost : ByteArray := method_32_code
def yL_cost : MethodName := ⟨RL, "cost", "(LMiddleUnseen;III[J)I"⟩
abbrev cL_off : ByteArray := method_33_code
def yL_off : MethodName := ⟨RL, "off", "(LMiddleUnseen;III[J)I"⟩
abbrev cL_weigh : ByteArray := method_34_code
def yL_weigh : MethodName := ⟨RL, "weigh", "(LMiddleUnseen;II[J)I"⟩
abbrev cL_wrong : ByteArray := method_35_code
def yL_wrong : MethodName := ⟨RL, "wrong", "(LMiddleUnseen;I[J)I"⟩
abbrev cL_odds : ByteArray := method_36_code
def yL_odds : MethodName := ⟨RL, "odds", "(LMiddleUnseen;I[J)I"⟩
abbrev cL_fits : ByteArray := method_37_code
def yL_fits : MethodName := ⟨RL, "fits", "(LMiddleUnseen;I[J)I"⟩
abbrev cL_knowing : ByteArray := method_38_code
def yL_knowing : MethodName := ⟨RL, "knowing", "(LMiddleUnseen;II[J)I"⟩
abbrev cL_crossing : ByteArray := method_39_code
def yL_crossing : MethodName := ⟨RL, "crossing", "(LMiddleUnseen;IIII[J)I"⟩
abbrev cL_law_ : ByteArray := code
def yL_law_ : MethodName := ⟨RL, "law", "([I)Z"⟩
abbrev vwCl : List vw_C := [(RX0, TX0, 17), (RX1, TX1, 7), (RX2, TX2, 2), (RX3, TX3, 14), (RX4, TX4, 6), (RX5, TX5, 7), (RX6, TX6, 5), (RX7, TX7, 10), (RX8, TX8, 15), (RX9, TX9, 43)]
