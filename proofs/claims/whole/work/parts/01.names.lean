-- ===== PART A: goes FIRST, ahead of the names: the tables' words, and 'selects' of the private methods out of them =====
/-- a private method of a class that the tables say can be made, by its rows of tables_1 -/
def lw_okq (q : MethodName × Nat) : Prop := (q.1.cls ≠ "java/lang/invoke/MethodHandle" ∧ q.1.cls ≠ "java/lang/invoke/VarHandle") ∧ Cond.instantiable q.1.cls q.2 ∈ tables_1 ∧ Cond.privateMethod q.1 ∈ tables_1 ∧ Cond.instanceMethod q.1 ∈ tables_1
theorem lw_p0 : lw_okq (⟨"DependencyQueue$Witness", "drawRings", "(LDependencyQueue$Queue;II)I"⟩, 3) := ⟨⟨by decide +kernel, by decide +kernel⟩, List.mem_of_getElem? (i := 123) (by decide +kernel), List.mem_of_getElem? (i := 302) (by decide +kernel), List.mem_of_getElem? (i := 303) (by decide +kernel)⟩
theorem lw_p1 : lw_okq (⟨"DependencyQueue$Queue", "settleItem", "(I)Z"⟩, 18) := ⟨⟨by decide +kernel, by decide +kernel⟩, List.mem_of_getElem? (i := 23) (by decide +kernel), List.mem_of_getElem? (i := 330) (by decide +kernel), List.mem_of_getElem? (i := 331) (by decide +kernel)⟩
theorem lw_p2 : lw_okq (⟨"DependencyQueue$Queue", "stateByEdges", "(I)I"⟩, 18) := ⟨⟨by decide +kernel, by decide +kernel⟩, List.mem_of_getElem? (i := 23) (by decide +kernel), List.mem_of_getElem? (i := 335) (by decide +kernel), List.mem_of_getElem? (i := 336) (by decide +kernel)⟩
theorem lw_p3 : lw_okq (⟨"DependencyQueue$Paths", "raisePredecessors", "(I)Z"⟩, 4) := ⟨⟨by decide +kernel, by decide +kernel⟩, List.mem_of_getElem? (i := 104) (by decide +kernel), List.mem_of_getElem? (i := 407) (by decide +kernel), List.mem_of_getElem? (i := 408) (by decide +kernel)⟩
theorem lw_p4 : lw_okq (⟨"DependencyQueue$Queue", "canBeReceived", "(I)Z"⟩, 18) := ⟨⟨by decide +kernel, by decide +kernel⟩, List.mem_of_getElem? (i := 23) (by decide +kernel), List.mem_of_getElem? (i := 415) (by decide +kernel), List.mem_of_getElem? (i := 416) (by decide +kernel)⟩
theorem lw_p5 : lw_okq (⟨"DependencyQueue$Queue", "inFlightOf", "(I)I"⟩, 18) := ⟨⟨by decide +kernel, by decide +kernel⟩, List.mem_of_getElem? (i := 23) (by decide +kernel), List.mem_of_getElem? (i := 419) (by decide +kernel), List.mem_of_getElem? (i := 420) (by decide +kernel)⟩
theorem lw_p6 : lw_okq (⟨"DependencyQueue$Plan", "endCompleted", "(I)V"⟩, 8) := ⟨⟨by decide +kernel, by decide +kernel⟩, List.mem_of_getElem? (i := 141) (by decide +kernel), List.mem_of_getElem? (i := 562) (by decide +kernel), List.mem_of_getElem? (i := 563) (by decide +kernel)⟩
theorem lw_p7 : lw_okq (⟨"DependencyQueue$Plan", "findStartable", "(LDependencyQueue$Queue;)V"⟩, 8) := ⟨⟨by decide +kernel, by decide +kernel⟩, List.mem_of_getElem? (i := 141) (by decide +kernel), List.mem_of_getElem? (i := 567) (by decide +kernel), List.mem_of_getElem? (i := 568) (by decide +kernel)⟩
theorem lw_p8 : lw_okq (⟨"DependencyQueue$Plan", "startItems", "(LDependencyQueue$Queue;[II)V"⟩, 8) := ⟨⟨by decide +kernel, by decide +kernel⟩, List.mem_of_getElem? (i := 141) (by decide +kernel), List.mem_of_getElem? (i := 572) (by decide +kernel), List.mem_of_getElem? (i := 573) (by decide +kernel)⟩
theorem lw_p9 : lw_okq (⟨"DependencyQueue$Plan", "bestStartable", "(LDependencyQueue$Queue;[II)I"⟩, 8) := ⟨⟨by decide +kernel, by decide +kernel⟩, List.mem_of_getElem? (i := 141) (by decide +kernel), List.mem_of_getElem? (i := 576) (by decide +kernel), List.mem_of_getElem? (i := 577) (by decide +kernel)⟩
theorem lw_p10 : lw_okq (⟨"DependencyQueue$Plan", "nextEnd", "(I)I"⟩, 8) := ⟨⟨by decide +kernel, by decide +kernel⟩, List.mem_of_getElem? (i := 141) (by decide +kernel), List.mem_of_getElem? (i := 582) (by decide +kernel), List.mem_of_getElem? (i := 583) (by decide +kernel)⟩
theorem lw_p11 : lw_okq (⟨"DependencyQueue$Paths", "raiseLead", "(I)Z"⟩, 4) := ⟨⟨by decide +kernel, by decide +kernel⟩, List.mem_of_getElem? (i := 104) (by decide +kernel), List.mem_of_getElem? (i := 605) (by decide +kernel), List.mem_of_getElem? (i := 606) (by decide +kernel)⟩
theorem lw_p12 : lw_okq (⟨"DependencyQueue$ChainCover", "findNext", "(II[I)Z"⟩, 3) := ⟨⟨by decide +kernel, by decide +kernel⟩, List.mem_of_getElem? (i := 174) (by decide +kernel), List.mem_of_getElem? (i := 620) (by decide +kernel), List.mem_of_getElem? (i := 621) (by decide +kernel)⟩
theorem lw_p13 : lw_okq (⟨"DependencyQueue$ChainCover", "pairAlong", "(I)V"⟩, 3) := ⟨⟨by decide +kernel, by decide +kernel⟩, List.mem_of_getElem? (i := 174) (by decide +kernel), List.mem_of_getElem? (i := 627) (by decide +kernel), List.mem_of_getElem? (i := 628) (by decide +kernel)⟩
theorem lw_p14 : lw_okq (⟨"DependencyQueue$OrderCount", "listMembers", "(I)I"⟩, 3) := ⟨⟨by decide +kernel, by decide +kernel⟩, List.mem_of_getElem? (i := 190) (by decide +kernel), List.mem_of_getElem? (i := 640) (by decide +kernel), List.mem_of_getElem? (i := 641) (by decide +kernel)⟩
theorem lw_p15 : lw_okq (⟨"DependencyQueue$OrderCount", "listNeeds", "(I[I)V"⟩, 3) := ⟨⟨by decide +kernel, by decide +kernel⟩, List.mem_of_getElem? (i := 190) (by decide +kernel), List.mem_of_getElem? (i := 645) (by decide +kernel), List.mem_of_getElem? (i := 646) (by decide +kernel)⟩
def lw_privs_1 : List (MethodName × Nat) := [(⟨"DependencyQueue$Witness", "drawRings", "(LDependencyQueue$Queue;II)I"⟩, 3), (⟨"DependencyQueue$Queue", "settleItem", "(I)Z"⟩, 18), (⟨"DependencyQueue$Queue", "stateByEdges", "(I)I"⟩, 18), (⟨"DependencyQueue$Paths", "raisePredecessors", "(I)Z"⟩, 4), (⟨"DependencyQueue$Queue", "canBeReceived", "(I)Z"⟩, 18), (⟨"DependencyQueue$Queue", "inFlightOf", "(I)I"⟩, 18), (⟨"DependencyQueue$Plan", "endCompleted", "(I)V"⟩, 8), (⟨"DependencyQueue$Plan", "findStartable", "(LDependencyQueue$Queue;)V"⟩, 8), (⟨"DependencyQueue$Plan", "startItems", "(LDependencyQueue$Queue;[II)V"⟩, 8), (⟨"DependencyQueue$Plan", "bestStartable", "(LDependencyQueue$Queue;[II)I"⟩, 8), (⟨"DependencyQueue$Plan", "nextEnd", "(I)I"⟩, 8), (⟨"DependencyQueue$Paths", "raiseLead", "(I)Z"⟩, 4), (⟨"DependencyQueue$ChainCover", "findNext", "(II[I)Z"⟩, 3), (⟨"DependencyQueue$ChainCover", "pairAlong", "(I)V"⟩, 3), (⟨"DependencyQueue$OrderCount", "listMembers", "(I)I"⟩, 3), (⟨"DependencyQueue$OrderCount", "listNeeds", "(I[I)V"⟩, 3)]
theorem lw_r1 : ∀ q ∈ lw_privs_1, lw_okq q := List.forall_mem_cons.mpr ⟨lw_p0, List.forall_mem_cons.mpr ⟨lw_p1, List.forall_mem_cons.mpr ⟨lw_p2, List.forall_mem_cons.mpr ⟨lw_p3, List.forall_mem_cons.mpr ⟨lw_p4, List.forall_mem_cons.mpr ⟨lw_p5, List.forall_mem_cons.mpr ⟨lw_p6, List.forall_mem_cons.mpr ⟨lw_p7, List.forall_mem_cons.mpr ⟨lw_p8, List.forall_mem_cons.mpr ⟨lw_p9, List.forall_mem_cons.mpr ⟨lw_p10, List.forall_mem_cons.mpr ⟨lw_p11, List.forall_mem_cons.mpr ⟨lw_p12, List.forall_mem_cons.mpr ⟨lw_p13, List.forall_mem_cons.mpr ⟨lw_p14, List.forall_mem_cons.mpr ⟨lw_p15, fun _ h => absurd h List.not_mem_nil⟩⟩⟩⟩⟩⟩⟩⟩⟩⟩⟩⟩⟩⟩⟩⟩
theorem lw_p16 : lw_okq (⟨"DependencyQueue$OrderCount", "goOnFrom", "(II)V"⟩, 3) := ⟨⟨by decide +kernel, by decide +kernel⟩, List.mem_of_getElem? (i := 190) (by decide +kernel), List.mem_of_getElem? (i := 649) (by decide +kernel), List.mem_of_getElem? (i := 650) (by decide +kernel)⟩
theorem lw_p17 : lw_okq (⟨"DependencyQueue$Text", "readItem", "()I"⟩, 4) := ⟨⟨by decide +kernel, by decide +kernel⟩, List.mem_of_getElem? (i := 207) (by decide +kernel), List.mem_of_getElem? (i := 674) (by decide +kernel), List.mem_of_getElem? (i := 675) (by decide +kernel)⟩
theorem lw_p18 : lw_okq (⟨"DependencyQueue$Text", "codeHere", "()I"⟩, 4) := ⟨⟨by decide +kernel, by decide +kernel⟩, List.mem_of_getElem? (i := 207) (by decide +kernel), List.mem_of_getElem? (i := 679) (by decide +kernel), List.mem_of_getElem? (i := 680) (by decide +kernel)⟩
theorem lw_p19 : lw_okq (⟨"DependencyQueue$Text", "readNumber", "()I"⟩, 4) := ⟨⟨by decide +kernel, by decide +kernel⟩, List.mem_of_getElem? (i := 207) (by decide +kernel), List.mem_of_getElem? (i := 686) (by decide +kernel), List.mem_of_getElem? (i := 687) (by decide +kernel)⟩
theorem lw_p20 : lw_okq (⟨"DependencyQueue$Text", "readEdges", "(I)I"⟩, 4) := ⟨⟨by decide +kernel, by decide +kernel⟩, List.mem_of_getElem? (i := 207) (by decide +kernel), List.mem_of_getElem? (i := 692) (by decide +kernel), List.mem_of_getElem? (i := 693) (by decide +kernel)⟩
theorem lw_p21 : lw_okq (⟨"DependencyQueueModel", "append", "(IIIII)I"⟩, 26) := ⟨⟨by decide +kernel, by decide +kernel⟩, List.mem_of_getElem? (i := 726) (by decide +kernel), List.mem_of_getElem? (i := 818) (by decide +kernel), List.mem_of_getElem? (i := 819) (by decide +kernel)⟩
theorem lw_p22 : lw_okq (⟨"DependencyQueueModel", "set", "(III)V"⟩, 26) := ⟨⟨by decide +kernel, by decide +kernel⟩, List.mem_of_getElem? (i := 726) (by decide +kernel), List.mem_of_getElem? (i := 822) (by decide +kernel), List.mem_of_getElem? (i := 823) (by decide +kernel)⟩
theorem lw_p23 : lw_okq (⟨"DependencyQueueModel", "settle", "()V"⟩, 26) := ⟨⟨by decide +kernel, by decide +kernel⟩, List.mem_of_getElem? (i := 726) (by decide +kernel), List.mem_of_getElem? (i := 826) (by decide +kernel), List.mem_of_getElem? (i := 827) (by decide +kernel)⟩
theorem lw_p24 : lw_okq (⟨"DependencyQueueModel", "of", "(II)I"⟩, 26) := ⟨⟨by decide +kernel, by decide +kernel⟩, List.mem_of_getElem? (i := 726) (by decide +kernel), List.mem_of_getElem? (i := 830) (by decide +kernel), List.mem_of_getElem? (i := 831) (by decide +kernel)⟩
theorem lw_p25 : lw_okq (⟨"DependencyQueueModel", "due", "(I)I"⟩, 26) := ⟨⟨by decide +kernel, by decide +kernel⟩, List.mem_of_getElem? (i := 726) (by decide +kernel), List.mem_of_getElem? (i := 834) (by decide +kernel), List.mem_of_getElem? (i := 835) (by decide +kernel)⟩
theorem lw_p26 : lw_okq (⟨"DependencyQueueModel", "kindOf", "(II)I"⟩, 26) := ⟨⟨by decide +kernel, by decide +kernel⟩, List.mem_of_getElem? (i := 726) (by decide +kernel), List.mem_of_getElem? (i := 838) (by decide +kernel), List.mem_of_getElem? (i := 839) (by decide +kernel)⟩
theorem lw_p27 : lw_okq (⟨"DependencyQueueModel", "hasEnded", "(I)Z"⟩, 26) := ⟨⟨by decide +kernel, by decide +kernel⟩, List.mem_of_getElem? (i := 726) (by decide +kernel), List.mem_of_getElem? (i := 842) (by decide +kernel), List.mem_of_getElem? (i := 843) (by decide +kernel)⟩
theorem lw_p28 : lw_okq (⟨"DependencyQueueModel", "becomesReady", "(II)V"⟩, 26) := ⟨⟨by decide +kernel, by decide +kernel⟩, List.mem_of_getElem? (i := 726) (by decide +kernel), List.mem_of_getElem? (i := 846) (by decide +kernel), List.mem_of_getElem? (i := 847) (by decide +kernel)⟩
theorem lw_p29 : lw_okq (⟨"DependencyQueueModel", "isItem", "(I)Z"⟩, 26) := ⟨⟨by decide +kernel, by decide +kernel⟩, List.mem_of_getElem? (i := 726) (by decide +kernel), List.mem_of_getElem? (i := 854) (by decide +kernel), List.mem_of_getElem? (i := 855) (by decide +kernel)⟩
theorem lw_p30 : lw_okq (⟨"DependencyQueueModel", "measureTo", "(I)V"⟩, 26) := ⟨⟨by decide +kernel, by decide +kernel⟩, List.mem_of_getElem? (i := 726) (by decide +kernel), List.mem_of_getElem? (i := 858) (by decide +kernel), List.mem_of_getElem? (i := 859) (by decide +kernel)⟩
theorem lw_p31 : lw_okq (⟨"DependencyQueueModel", "keepPath", "(II)V"⟩, 26) := ⟨⟨by decide +kernel, by decide +kernel⟩, List.mem_of_getElem? (i := 726) (by decide +kernel), List.mem_of_getElem? (i := 862) (by decide +kernel), List.mem_of_getElem? (i := 863) (by decide +kernel)⟩
def lw_privs_2 : List (MethodName × Nat) := [(⟨"DependencyQueue$OrderCount", "goOnFrom", "(II)V"⟩, 3), (⟨"DependencyQueue$Text", "readItem", "()I"⟩, 4), (⟨"DependencyQueue$Text", "codeHere", "()I"⟩, 4), (⟨"DependencyQueue$Text", "readNumber", "()I"⟩, 4), (⟨"DependencyQueue$Text", "readEdges", "(I)I"⟩, 4), (⟨"DependencyQueueModel", "append", "(IIIII)I"⟩, 26), (⟨"DependencyQueueModel", "set", "(III)V"⟩, 26), (⟨"DependencyQueueModel", "settle", "()V"⟩, 26), (⟨"DependencyQueueModel", "of", "(II)I"⟩, 26), (⟨"DependencyQueueModel", "due", "(I)I"⟩, 26), (⟨"DependencyQueueModel", "kindOf", "(II)I"⟩, 26), (⟨"DependencyQueueModel", "hasEnded", "(I)Z"⟩, 26), (⟨"DependencyQueueModel", "becomesReady", "(II)V"⟩, 26), (⟨"DependencyQueueModel", "isItem", "(I)Z"⟩, 26), (⟨"DependencyQueueModel", "measureTo", "(I)V"⟩, 26), (⟨"DependencyQueueModel", "keepPath", "(II)V"⟩, 26)]
theorem lw_r2 : ∀ q ∈ lw_privs_2, lw_okq q := List.forall_mem_cons.mpr ⟨lw_p16, List.forall_mem_cons.mpr ⟨lw_p17, List.forall_mem_cons.mpr ⟨lw_p18, List.forall_mem_cons.mpr ⟨lw_p19, List.forall_mem_cons.mpr ⟨lw_p20, List.forall_mem_cons.mpr ⟨lw_p21, List.forall_mem_cons.mpr ⟨lw_p22, List.forall_mem_cons.mpr ⟨lw_p23, List.forall_mem_cons.mpr ⟨lw_p24, List.forall_mem_cons.mpr ⟨lw_p25, List.forall_mem_cons.mpr ⟨lw_p26, List.forall_mem_cons.mpr ⟨lw_p27, List.forall_mem_cons.mpr ⟨lw_p28, List.forall_mem_cons.mpr ⟨lw_p29, List.forall_mem_cons.mpr ⟨lw_p30, List.forall_mem_cons.mpr ⟨lw_p31, fun _ h => absurd h List.not_mem_nil⟩⟩⟩⟩⟩⟩⟩⟩⟩⟩⟩⟩⟩⟩⟩⟩
theorem lw_p32 : lw_okq (⟨"DependencyQueueModel", "measure", "()V"⟩, 26) := ⟨⟨by decide +kernel, by decide +kernel⟩, List.mem_of_getElem? (i := 726) (by decide +kernel), List.mem_of_getElem? (i := 898) (by decide +kernel), List.mem_of_getElem? (i := 899) (by decide +kernel)⟩
theorem lw_p33 : lw_okq (⟨"DependencyQueueModel", "ownWork", "(I)I"⟩, 26) := ⟨⟨by decide +kernel, by decide +kernel⟩, List.mem_of_getElem? (i := 726) (by decide +kernel), List.mem_of_getElem? (i := 902) (by decide +kernel), List.mem_of_getElem? (i := 903) (by decide +kernel)⟩
theorem lw_p34 : lw_okq (⟨"DependencyQueueModel", "canReceive", "(I)Z"⟩, 26) := ⟨⟨by decide +kernel, by decide +kernel⟩, List.mem_of_getElem? (i := 726) (by decide +kernel), List.mem_of_getElem? (i := 906) (by decide +kernel), List.mem_of_getElem? (i := 907) (by decide +kernel)⟩
theorem lw_p35 : lw_okq (⟨"DependencyQueueModel", "rankOf", "(I)I"⟩, 26) := ⟨⟨by decide +kernel, by decide +kernel⟩, List.mem_of_getElem? (i := 726) (by decide +kernel), List.mem_of_getElem? (i := 910) (by decide +kernel), List.mem_of_getElem? (i := 911) (by decide +kernel)⟩
theorem lw_p36 : lw_okq (⟨"DependencyQueueModel", "isValid", "(II)Z"⟩, 26) := ⟨⟨by decide +kernel, by decide +kernel⟩, List.mem_of_getElem? (i := 726) (by decide +kernel), List.mem_of_getElem? (i := 922) (by decide +kernel), List.mem_of_getElem? (i := 923) (by decide +kernel)⟩
theorem lw_p37 : lw_okq (⟨"DependencyQueueModel", "comeBack", "(II)V"⟩, 26) := ⟨⟨by decide +kernel, by decide +kernel⟩, List.mem_of_getElem? (i := 726) (by decide +kernel), List.mem_of_getElem? (i := 930) (by decide +kernel), List.mem_of_getElem? (i := 931) (by decide +kernel)⟩
theorem lw_p38 : lw_okq (⟨"DependencyQueueModel", "layAhead", "()V"⟩, 26) := ⟨⟨by decide +kernel, by decide +kernel⟩, List.mem_of_getElem? (i := 726) (by decide +kernel), List.mem_of_getElem? (i := 987) (by decide +kernel), List.mem_of_getElem? (i := 988) (by decide +kernel)⟩
theorem lw_p39 : lw_okq (⟨"DependencyQueueModel", "planned", "(II)I"⟩, 26) := ⟨⟨by decide +kernel, by decide +kernel⟩, List.mem_of_getElem? (i := 726) (by decide +kernel), List.mem_of_getElem? (i := 1003) (by decide +kernel), List.mem_of_getElem? (i := 1004) (by decide +kernel)⟩
theorem lw_p40 : lw_okq (⟨"DependencyQueueModel", "possibleAt", "(II)I"⟩, 26) := ⟨⟨by decide +kernel, by decide +kernel⟩, List.mem_of_getElem? (i := 726) (by decide +kernel), List.mem_of_getElem? (i := 1007) (by decide +kernel), List.mem_of_getElem? (i := 1008) (by decide +kernel)⟩
theorem lw_p41 : lw_okq (⟨"DependencyQueueModel", "planRank", "(III)I"⟩, 26) := ⟨⟨by decide +kernel, by decide +kernel⟩, List.mem_of_getElem? (i := 726) (by decide +kernel), List.mem_of_getElem? (i := 1011) (by decide +kernel), List.mem_of_getElem? (i := 1012) (by decide +kernel)⟩
theorem lw_p42 : lw_okq (⟨"DependencyQueueModel", "isMatched", "(I)Z"⟩, 26) := ⟨⟨by decide +kernel, by decide +kernel⟩, List.mem_of_getElem? (i := 726) (by decide +kernel), List.mem_of_getElem? (i := 1031) (by decide +kernel), List.mem_of_getElem? (i := 1032) (by decide +kernel)⟩
theorem lw_p43 : lw_okq (⟨"DependencyQueueModel", "changePartners", "(II)V"⟩, 26) := ⟨⟨by decide +kernel, by decide +kernel⟩, List.mem_of_getElem? (i := 726) (by decide +kernel), List.mem_of_getElem? (i := 1035) (by decide +kernel), List.mem_of_getElem? (i := 1036) (by decide +kernel)⟩
theorem lw_p44 : lw_okq (⟨"DependencyQueueModel", "isLast", "(III)Z"⟩, 26) := ⟨⟨by decide +kernel, by decide +kernel⟩, List.mem_of_getElem? (i := 726) (by decide +kernel), List.mem_of_getElem? (i := 1044) (by decide +kernel), List.mem_of_getElem? (i := 1045) (by decide +kernel)⟩
theorem lw_p45 : lw_okq (⟨"DependencyQueueModel", "readItem", "()V"⟩, 26) := ⟨⟨by decide +kernel, by decide +kernel⟩, List.mem_of_getElem? (i := 726) (by decide +kernel), List.mem_of_getElem? (i := 1060) (by decide +kernel), List.mem_of_getElem? (i := 1061) (by decide +kernel)⟩
theorem lw_p46 : lw_okq (⟨"DependencyQueueModel", "isDigit", "()Z"⟩, 26) := ⟨⟨by decide +kernel, by decide +kernel⟩, List.mem_of_getElem? (i := 726) (by decide +kernel), List.mem_of_getElem? (i := 1064) (by decide +kernel), List.mem_of_getElem? (i := 1065) (by decide +kernel)⟩
theorem lw_p47 : lw_okq (⟨"DependencyQueueModel", "fails", "(I)V"⟩, 26) := ⟨⟨by decide +kernel, by decide +kernel⟩, List.mem_of_getElem? (i := 726) (by decide +kernel), List.mem_of_getElem? (i := 1068) (by decide +kernel), List.mem_of_getElem? (i := 1069) (by decide +kernel)⟩
def lw_privs_3 : List (MethodName × Nat) := [(⟨"DependencyQueueModel", "measure", "()V"⟩, 26), (⟨"DependencyQueueModel", "ownWork", "(I)I"⟩, 26), (⟨"DependencyQueueModel", "canReceive", "(I)Z"⟩, 26), (⟨"DependencyQueueModel", "rankOf", "(I)I"⟩, 26), (⟨"DependencyQueueModel", "isValid", "(II)Z"⟩, 26), (⟨"DependencyQueueModel", "comeBack", "(II)V"⟩, 26), (⟨"DependencyQueueModel", "layAhead", "()V"⟩, 26), (⟨"DependencyQueueModel", "planned", "(II)I"⟩, 26), (⟨"DependencyQueueModel", "possibleAt", "(II)I"⟩, 26), (⟨"DependencyQueueModel", "planRank", "(III)I"⟩, 26), (⟨"DependencyQueueModel", "isMatched", "(I)Z"⟩, 26), (⟨"DependencyQueueModel", "changePartners", "(II)V"⟩, 26), (⟨"DependencyQueueModel", "isLast", "(III)Z"⟩, 26), (⟨"DependencyQueueModel", "readItem", "()V"⟩, 26), (⟨"DependencyQueueModel", "isDigit", "()Z"⟩, 26), (⟨"DependencyQueueModel", "fails", "(I)V"⟩, 26)]
theorem lw_r3 : ∀ q ∈ lw_privs_3, lw_okq q := List.forall_mem_cons.mpr ⟨lw_p32, List.forall_mem_cons.mpr ⟨lw_p33, List.forall_mem_cons.mpr ⟨lw_p34, List.forall_mem_cons.mpr ⟨lw_p35, List.forall_mem_cons.mpr ⟨lw_p36, List.forall_mem_cons.mpr ⟨lw_p37, List.forall_mem_cons.mpr ⟨lw_p38, List.forall_mem_cons.mpr ⟨lw_p39, List.forall_mem_cons.mpr ⟨lw_p40, List.forall_mem_cons.mpr ⟨lw_p41, List.forall_mem_cons.mpr ⟨lw_p42, List.forall_mem_cons.mpr ⟨lw_p43, List.forall_mem_cons.mpr ⟨lw_p44, List.forall_mem_cons.mpr ⟨lw_p45, List.forall_mem_cons.mpr ⟨lw_p46, List.forall_mem_cons.mpr ⟨lw_p47, fun _ h => absurd h List.not_mem_nil⟩⟩⟩⟩⟩⟩⟩⟩⟩⟩⟩⟩⟩⟩⟩⟩
theorem lw_p48 : lw_okq (⟨"DependencyQueueModel", "number", "()I"⟩, 26) := ⟨⟨by decide +kernel, by decide +kernel⟩, List.mem_of_getElem? (i := 726) (by decide +kernel), List.mem_of_getElem? (i := 1072) (by decide +kernel), List.mem_of_getElem? (i := 1073) (by decide +kernel)⟩
def lw_privs_4 : List (MethodName × Nat) := [(⟨"DependencyQueueModel", "number", "()I"⟩, 26)]
theorem lw_r4 : ∀ q ∈ lw_privs_4, lw_okq q := List.forall_mem_cons.mpr ⟨lw_p48, fun _ h => absurd h List.not_mem_nil⟩
def lw_privs : List (MethodName × Nat) := lw_privs_1 ++ (lw_privs_2 ++ (lw_privs_3 ++ (lw_privs_4)))
def lw_tbl : List Cond := k2_sels lw_privs ++ tables_1
theorem lw_privs_ok : ∀ q ∈ lw_privs, lw_okq q := by
  show ∀ q ∈ lw_privs_1 ++ (lw_privs_2 ++ (lw_privs_3 ++ (lw_privs_4))), lw_okq q
  exact List.forall_mem_append.mpr ⟨lw_r1, List.forall_mem_append.mpr ⟨lw_r2, List.forall_mem_append.mpr ⟨lw_r3, lw_r4⟩⟩⟩
-- names: classes RXk, fields TXk, types tyXk, methods yX.., bytes cX.. (as printed)
def RX0 : String := "DependencyQueue$Bits"
def TX0 : u_T := fun k => match k with
  | _ => ("", "", "", false)
def tyX0 : Nat → FieldType := fun k => match k with
  | _ => .int
theorem nmX0 : ∀ a, a < 0 → ∀ b, b < 0 → a ≠ b → (TX0 a).2.1 ≠ (TX0 b).2.1 := by decide +kernel
theorem tyX0_ok : ∀ k, k < 0 → parseFieldDescriptor (TX0 k).2.2.1 = some (tyX0 k) := by decide +kernel
abbrev cX0_has : ByteArray := prog_2_method_2_code
def yX0_has : MethodName := ⟨RX0, "has", "(II)Z"⟩
def RX1 : String := "DependencyQueue$ChainCover"
def TX1 : u_T := fun k => match k with
  | 0 => ("DependencyQueue$ChainCover", "next", "[I", true)
  | 1 => ("DependencyQueue$ChainCover", "previous", "[I", true)
  | _ => ("DependencyQueue$ChainCover", "origin", "[I", true)
def tyX1 : Nat → FieldType := fun k => match k with
  | 0 => .array .int
  | 1 => .array .int
  | _ => .array .int
theorem nmX1 : ∀ a, a < 3 → ∀ b, b < 3 → a ≠ b → (TX1 a).2.1 ≠ (TX1 b).2.1 := by decide +kernel
theorem tyX1_ok : ∀ k, k < 3 → parseFieldDescriptor (TX1 k).2.2.1 = some (tyX1 k) := by decide +kernel
abbrev cX1_init : ByteArray := prog_3_method_1_code
def yX1_init : MethodName := ⟨RX1, "<init>", "()V"⟩
abbrev cX1_countPairs : ByteArray := prog_3_method_2_code
def yX1_countPairs : MethodName := ⟨RX1, "countPairs", "(I[I)I"⟩
abbrev cX1_findNext : ByteArray := prog_3_method_3_code
def yX1_findNext : MethodName := ⟨RX1, "findNext", "(II[I)Z"⟩
abbrev cX1_lowestOf : ByteArray := prog_3_method_4_code
def yX1_lowestOf : MethodName := ⟨RX1, "lowestOf", "(I)I"⟩
abbrev cX1_pairAlong : ByteArray := prog_3_method_5_code
def yX1_pairAlong : MethodName := ⟨RX1, "pairAlong", "(I)V"⟩
def RX2 : String := "DependencyQueue$OrderCount"
def TX2 : u_T := fun k => match k with
  | 0 => ("DependencyQueue$OrderCount", "ways", "[J", true)
  | 1 => ("DependencyQueue$OrderCount", "member", "[I", true)
  | _ => ("DependencyQueue$OrderCount", "need", "[I", true)
def tyX2 : Nat → FieldType := fun k => match k with
  | 0 => .array .long
  | 1 => .array .int
  | _ => .array .int
theorem nmX2 : ∀ a, a < 3 → ∀ b, b < 3 → a ≠ b → (TX2 a).2.1 ≠ (TX2 b).2.1 := by decide +kernel
theorem tyX2_ok : ∀ k, k < 3 → parseFieldDescriptor (TX2 k).2.2.1 = some (tyX2 k) := by decide +kernel
abbrev cX2_init : ByteArray := prog_4_method_1_code
def yX2_init : MethodName := ⟨RX2, "<init>", "()V"⟩
abbrev cX2_countFor : ByteArray := prog_4_method_2_code
def yX2_countFor : MethodName := ⟨RX2, "countFor", "(I[I)J"⟩
abbrev cX2_listMembers : ByteArray := prog_4_method_3_code
def yX2_listMembers : MethodName := ⟨RX2, "listMembers", "(I)I"⟩
abbrev cX2_listNeeds : ByteArray := prog_4_method_4_code
def yX2_listNeeds : MethodName := ⟨RX2, "listNeeds", "(I[I)V"⟩
abbrev cX2_goOnFrom : ByteArray := prog_4_method_5_code
def yX2_goOnFrom : MethodName := ⟨RX2, "goOnFrom", "(II)V"⟩
def RX3 : String := "DependencyQueue$Paths"
def TX3 : u_T := fun k => match k with
  | 0 => ("DependencyQueue$Paths", "queue", "LDependencyQueue$Queue;", true)
  | 1 => ("DependencyQueue$Paths", "beforeRow", "[I", true)
  | 2 => ("DependencyQueue$Paths", "heightRow", "[I", true)
  | _ => ("DependencyQueue$Paths", "leadRow", "[I", true)
def tyX3 : Nat → FieldType := fun k => match k with
  | 0 => .object "DependencyQueue$Queue"
  | 1 => .array .int
  | 2 => .array .int
  | _ => .array .int
theorem nmX3 : ∀ a, a < 4 → ∀ b, b < 4 → a ≠ b → (TX3 a).2.1 ≠ (TX3 b).2.1 := by decide +kernel
theorem tyX3_ok : ∀ k, k < 4 → parseFieldDescriptor (TX3 k).2.2.1 = some (tyX3 k) := by decide +kernel
abbrev cX3_init : ByteArray := prog_5_method_1_code
def yX3_init : MethodName := ⟨RX3, "<init>", "(LDependencyQueue$Queue;)V"⟩
abbrev cX3_beforeSets : ByteArray := prog_5_method_2_code
def yX3_beforeSets : MethodName := ⟨RX3, "beforeSets", "()[I"⟩
abbrev cX3_hasDetour : ByteArray := prog_5_method_3_code
def yX3_hasDetour : MethodName := ⟨RX3, "hasDetour", "(II)Z"⟩
abbrev cX3_heights : ByteArray := prog_5_method_4_code
def yX3_heights : MethodName := ⟨RX3, "heights", "()[I"⟩
abbrev cX3_raisePredecessors : ByteArray := prog_5_method_5_code
def yX3_raisePredecessors : MethodName := ⟨RX3, "raisePredecessors", "(I)Z"⟩
abbrev cX3_leads : ByteArray := prog_5_method_6_code
def yX3_leads : MethodName := ⟨RX3, "leads", "()[I"⟩
abbrev cX3_raiseLead : ByteArray := prog_5_method_7_code
def yX3_raiseLead : MethodName := ⟨RX3, "raiseLead", "(I)Z"⟩
def RX4 : String := "DependencyQueue$Plan"
def TX4 : u_T := fun k => match k with
  | 0 => ("DependencyQueue$Plan", "length", "I", false)
  | 1 => ("DependencyQueue$Plan", "start", "[I", true)
  | 2 => ("DependencyQueue$Plan", "end", "[I", true)
  | 3 => ("DependencyQueue$Plan", "since", "[I", true)
  | 4 => ("DependencyQueue$Plan", "unstarted", "I", false)
  | 5 => ("DependencyQueue$Plan", "startable", "I", false)
  | 6 => ("DependencyQueue$Plan", "running", "I", false)
  | _ => ("DependencyQueue$Plan", "free", "I", false)
def tyX4 : Nat → FieldType := fun k => match k with
  | 0 => .int
  | 1 => .array .int
  | 2 => .array .int
  | 3 => .array .int
  | 4 => .int
  | 5 => .int
  | 6 => .int
  | _ => .int
theorem nmX4 : ∀ a, a < 8 → ∀ b, b < 8 → a ≠ b → (TX4 a).2.1 ≠ (TX4 b).2.1 := by decide +kernel
theorem tyX4_ok : ∀ k, k < 8 → parseFieldDescriptor (TX4 k).2.2.1 = some (tyX4 k) := by decide +kernel
abbrev cX4_init : ByteArray := prog_6_method_1_code
def yX4_init : MethodName := ⟨RX4, "<init>", "()V"⟩
abbrev cX4_make : ByteArray := prog_6_method_2_code
def yX4_make : MethodName := ⟨RX4, "make", "(LDependencyQueue$Queue;[III)V"⟩
abbrev cX4_endCompleted : ByteArray := prog_6_method_3_code
def yX4_endCompleted : MethodName := ⟨RX4, "endCompleted", "(I)V"⟩
abbrev cX4_findStartable : ByteArray := prog_6_method_4_code
def yX4_findStartable : MethodName := ⟨RX4, "findStartable", "(LDependencyQueue$Queue;)V"⟩
abbrev cX4_startItems : ByteArray := prog_6_method_5_code
def yX4_startItems : MethodName := ⟨RX4, "startItems", "(LDependencyQueue$Queue;[II)V"⟩
abbrev cX4_bestStartable : ByteArray := prog_6_method_6_code
def yX4_bestStartable : MethodName := ⟨RX4, "bestStartable", "(LDependencyQueue$Queue;[II)I"⟩
abbrev cX4_nextEnd : ByteArray := prog_6_method_7_code
def yX4_nextEnd : MethodName := ⟨RX4, "nextEnd", "(I)I"⟩
def RX5 : String := "DependencyQueue$Queue"
def TX5 : u_T := fun k => match k with
  | 0 => ("DependencyQueue$Queue", "count", "I", false)
  | 1 => ("DependencyQueue$Queue", "now", "I", false)
  | 2 => ("DependencyQueue$Queue", "policy", "I", false)
  | 3 => ("DependencyQueue$Queue", "groupLimit", "I", false)
  | 4 => ("DependencyQueue$Queue", "receipts", "I", false)
  | 5 => ("DependencyQueue$Queue", "priority", "[I", true)
  | 6 => ("DependencyQueue$Queue", "work", "[I", true)
  | 7 => ("DependencyQueue$Queue", "attempts", "[I", true)
  | 8 => ("DependencyQueue$Queue", "group", "[I", true)
  | 9 => ("DependencyQueue$Queue", "delay", "[I", true)
  | 10 => ("DependencyQueue$Queue", "state", "[I", true)
  | 11 => ("DependencyQueue$Queue", "readyTime", "[I", true)
  | 12 => ("DependencyQueue$Queue", "readySince", "[I", true)
  | 13 => ("DependencyQueue$Queue", "deadline", "[I", true)
  | 14 => ("DependencyQueue$Queue", "receives", "[I", true)
  | 15 => ("DependencyQueue$Queue", "receipt", "[I", true)
  | 16 => ("DependencyQueue$Queue", "needDone", "[I", true)
  | _ => ("DependencyQueue$Queue", "needEnd", "[I", true)
def tyX5 : Nat → FieldType := fun k => match k with
  | 0 => .int
  | 1 => .int
  | 2 => .int
  | 3 => .int
  | 4 => .int
  | 5 => .array .int
  | 6 => .array .int
  | 7 => .array .int
  | 8 => .array .int
  | 9 => .array .int
  | 10 => .array .int
  | 11 => .array .int
  | 12 => .array .int
  | 13 => .array .int
  | 14 => .array .int
  | 15 => .array .int
  | 16 => .array .int
  | _ => .array .int
theorem nmX5 : ∀ a, a < 18 → ∀ b, b < 18 → a ≠ b → (TX5 a).2.1 ≠ (TX5 b).2.1 := by decide +kernel
theorem tyX5_ok : ∀ k, k < 18 → parseFieldDescriptor (TX5 k).2.2.1 = some (tyX5 k) := by decide +kernel
abbrev cX5_init : ByteArray := prog_7_method_1_code
def yX5_init : MethodName := ⟨RX5, "<init>", "()V"⟩
abbrev cX5_holds : ByteArray := prog_7_method_2_code
def yX5_holds : MethodName := ⟨RX5, "holds", "(I)Z"⟩
abbrev cX5_isFull : ByteArray := prog_7_method_3_code
def yX5_isFull : MethodName := ⟨RX5, "isFull", "()Z"⟩
abbrev cX5_hasEnded : ByteArray := prog_7_method_4_code
def yX5_hasEnded : MethodName := ⟨RX5, "hasEnded", "(I)Z"⟩
abbrev cX5_hasFailed : ByteArray := prog_7_method_5_code
def yX5_hasFailed : MethodName := ⟨RX5, "hasFailed", "(I)Z"⟩
abbrev cX5_followsEdges : ByteArray := prog_7_method_6_code
def yX5_followsEdges : MethodName := ⟨RX5, "followsEdges", "(I)Z"⟩
abbrev cX5_isValid : ByteArray := prog_7_method_7_code
def yX5_isValid : MethodName := ⟨RX5, "isValid", "(II)Z"⟩
abbrev cX5_workLeft : ByteArray := prog_7_method_8_code
def yX5_workLeft : MethodName := ⟨RX5, "workLeft", "(I)I"⟩
abbrev cX5_setIn : ByteArray := prog_7_method_9_code
def yX5_setIn : MethodName := ⟨RX5, "setIn", "(I)I"⟩
abbrev cX5_unendedSet : ByteArray := prog_7_method_10_code
def yX5_unendedSet : MethodName := ⟨RX5, "unendedSet", "()I"⟩
abbrev cX5_append : ByteArray := prog_7_method_11_code
def yX5_append : MethodName := ⟨RX5, "append", "(IIIII)I"⟩
abbrev cX5_startAnew : ByteArray := prog_7_method_12_code
def yX5_startAnew : MethodName := ⟨RX5, "startAnew", "(I)V"⟩
abbrev cX5_makeReady : ByteArray := prog_7_method_13_code
def yX5_makeReady : MethodName := ⟨RX5, "makeReady", "(II)V"⟩
abbrev cX5_removeItems : ByteArray := prog_7_method_14_code
def yX5_removeItems : MethodName := ⟨RX5, "removeItems", "()V"⟩
abbrev cX5_predecessors : ByteArray := prog_7_method_15_code
def yX5_predecessors : MethodName := ⟨RX5, "predecessors", "(I)I"⟩
abbrev cX5_edgeCount : ByteArray := prog_7_method_16_code
def yX5_edgeCount : MethodName := ⟨RX5, "edgeCount", "()I"⟩
abbrev cX5_edgeKind : ByteArray := prog_7_method_17_code
def yX5_edgeKind : MethodName := ⟨RX5, "edgeKind", "(II)I"⟩
abbrev cX5_putEdge : ByteArray := prog_7_method_18_code
def yX5_putEdge : MethodName := ⟨RX5, "putEdge", "(III)V"⟩
abbrev cX5_dropEdge : ByteArray := prog_7_method_19_code
def yX5_dropEdge : MethodName := ⟨RX5, "dropEdge", "(II)V"⟩
abbrev cX5_settle : ByteArray := prog_7_method_20_code
def yX5_settle : MethodName := ⟨RX5, "settle", "()V"⟩
abbrev cX5_settleItem : ByteArray := prog_7_method_21_code
def yX5_settleItem : MethodName := ⟨RX5, "settleItem", "(I)Z"⟩
abbrev cX5_stateByEdges : ByteArray := prog_7_method_22_code
def yX5_stateByEdges : MethodName := ⟨RX5, "stateByEdges", "(I)I"⟩
abbrev cX5_endAs : ByteArray := prog_7_method_23_code
def yX5_endAs : MethodName := ⟨RX5, "endAs", "(III)I"⟩
abbrev cX5_comeBack : ByteArray := prog_7_method_24_code
def yX5_comeBack : MethodName := ⟨RX5, "comeBack", "(II)V"⟩
abbrev cX5_passTick : ByteArray := prog_7_method_25_code
def yX5_passTick : MethodName := ⟨RX5, "passTick", "()I"⟩
abbrev cX5_rankFor : ByteArray := prog_7_method_26_code
def yX5_rankFor : MethodName := ⟨RX5, "rankFor", "(IIII)I"⟩
abbrev cX5_rankNow : ByteArray := prog_7_method_27_code
def yX5_rankNow : MethodName := ⟨RX5, "rankNow", "(II)I"⟩
abbrev cX5_nextToReceive : ByteArray := prog_7_method_28_code
def yX5_nextToReceive : MethodName := ⟨RX5, "nextToReceive", "([I)I"⟩
abbrev cX5_canBeReceived : ByteArray := prog_7_method_29_code
def yX5_canBeReceived : MethodName := ⟨RX5, "canBeReceived", "(I)Z"⟩
abbrev cX5_inFlightOf : ByteArray := prog_7_method_30_code
def yX5_inFlightOf : MethodName := ⟨RX5, "inFlightOf", "(I)I"⟩
abbrev cX5_takeOut : ByteArray := prog_7_method_31_code
def yX5_takeOut : MethodName := ⟨RX5, "takeOut", "(II)V"⟩
abbrev cX5_doomedBy : ByteArray := prog_7_method_32_code
def yX5_doomedBy : MethodName := ⟨RX5, "doomedBy", "(I)I"⟩
abbrev cX5_copyAll : ByteArray := prog_7_method_33_code
def yX5_copyAll : MethodName := ⟨RX5, "copyAll", "(LDependencyQueue$Queue;)V"⟩
abbrev cX5_copyItems : ByteArray := prog_7_method_34_code
def yX5_copyItems : MethodName := ⟨RX5, "copyItems", "(LDependencyQueue$Queue;)V"⟩
abbrev cX5_copyRow : ByteArray := prog_7_method_35_code
def yX5_copyRow : MethodName := ⟨RX5, "copyRow", "([I[I)V"⟩
def RX6 : String := "DependencyQueue$Text"
def TX6 : u_T := fun k => match k with
  | 0 => ("DependencyQueue$Text", "length", "I", false)
  | 1 => ("DependencyQueue$Text", "draft", "LDependencyQueue$Queue;", true)
  | 2 => ("DependencyQueue$Text", "codes", "[I", true)
  | _ => ("DependencyQueue$Text", "at", "I", false)
def tyX6 : Nat → FieldType := fun k => match k with
  | 0 => .int
  | 1 => .object "DependencyQueue$Queue"
  | 2 => .array .int
  | _ => .int
theorem nmX6 : ∀ a, a < 4 → ∀ b, b < 4 → a ≠ b → (TX6 a).2.1 ≠ (TX6 b).2.1 := by decide +kernel
theorem tyX6_ok : ∀ k, k < 4 → parseFieldDescriptor (TX6 k).2.2.1 = some (tyX6 k) := by decide +kernel
abbrev cX6_init : ByteArray := prog_8_method_1_code
def yX6_init : MethodName := ⟨RX6, "<init>", "()V"⟩
abbrev cX6_append : ByteArray := prog_8_method_2_code
def yX6_append : MethodName := ⟨RX6, "append", "(I)V"⟩
abbrev cX6_read : ByteArray := prog_8_method_3_code
def yX6_read : MethodName := ⟨RX6, "read", "()I"⟩
abbrev cX6_readItem : ByteArray := prog_8_method_4_code
def yX6_readItem : MethodName := ⟨RX6, "readItem", "()I"⟩
abbrev cX6_readEdges : ByteArray := prog_8_method_5_code
def yX6_readEdges : MethodName := ⟨RX6, "readEdges", "(I)I"⟩
abbrev cX6_readNumber : ByteArray := prog_8_method_6_code
def yX6_readNumber : MethodName := ⟨RX6, "readNumber", "()I"⟩
abbrev cX6_codeHere : ByteArray := prog_8_method_7_code
def yX6_codeHere : MethodName := ⟨RX6, "codeHere", "()I"⟩
abbrev cX6_isDigit : ByteArray := prog_8_method_8_code
def yX6_isDigit : MethodName := ⟨RX6, "isDigit", "(I)Z"⟩
def RX7 : String := "DependencyQueue$Witness"
def TX7 : u_T := fun k => match k with
  | 0 => ("DependencyQueue$Witness", "length", "I", false)
  | 1 => ("DependencyQueue$Witness", "path", "[I", true)
  | _ => ("DependencyQueue$Witness", "ring", "[I", true)
def tyX7 : Nat → FieldType := fun k => match k with
  | 0 => .int
  | 1 => .array .int
  | _ => .array .int
theorem nmX7 : ∀ a, a < 3 → ∀ b, b < 3 → a ≠ b → (TX7 a).2.1 ≠ (TX7 b).2.1 := by decide +kernel
theorem tyX7_ok : ∀ k, k < 3 → parseFieldDescriptor (TX7 k).2.2.1 = some (tyX7 k) := by decide +kernel
abbrev cX7_init : ByteArray := prog_9_method_1_code
def yX7_init : MethodName := ⟨RX7, "<init>", "()V"⟩
abbrev cX7_forget : ByteArray := prog_9_method_2_code
def yX7_forget : MethodName := ⟨RX7, "forget", "()V"⟩
abbrev cX7_remember : ByteArray := prog_9_method_3_code
def yX7_remember : MethodName := ⟨RX7, "remember", "(LDependencyQueue$Queue;II)V"⟩
abbrev cX7_drawRings : ByteArray := prog_9_method_4_code
def yX7_drawRings : MethodName := ⟨RX7, "drawRings", "(LDependencyQueue$Queue;II)I"⟩
abbrev cX7_predecessorsOfAll : ByteArray := prog_9_method_5_code
def yX7_predecessorsOfAll : MethodName := ⟨RX7, "predecessorsOfAll", "(LDependencyQueue$Queue;I)I"⟩
abbrev cX7_lowestSuccessor : ByteArray := prog_9_method_6_code
def yX7_lowestSuccessor : MethodName := ⟨RX7, "lowestSuccessor", "(LDependencyQueue$Queue;II)I"⟩
def RX8 : String := "DependencyQueue"
def TX8 : u_T := fun k => match k with
  | 0 => ("DependencyQueue", "queue", "LDependencyQueue$Queue;", true)
  | 1 => ("DependencyQueue", "saved", "[LDependencyQueue$Queue;", true)
  | 2 => ("DependencyQueue", "paths", "LDependencyQueue$Paths;", true)
  | 3 => ("DependencyQueue", "cyclePath", "LDependencyQueue$Witness;", true)
  | 4 => ("DependencyQueue", "plan", "LDependencyQueue$Plan;", true)
  | 5 => ("DependencyQueue", "cover", "LDependencyQueue$ChainCover;", true)
  | 6 => ("DependencyQueue", "orderCount", "LDependencyQueue$OrderCount;", true)
  | _ => ("DependencyQueue", "text", "LDependencyQueue$Text;", true)
def tyX8 : Nat → FieldType := fun k => match k with
  | 0 => .object "DependencyQueue$Queue"
  | 1 => .array (.object "DependencyQueue$Queue")
  | 2 => .object "DependencyQueue$Paths"
  | 3 => .object "DependencyQueue$Witness"
  | 4 => .object "DependencyQueue$Plan"
  | 5 => .object "DependencyQueue$ChainCover"
  | 6 => .object "DependencyQueue$OrderCount"
  | _ => .object "DependencyQueue$Text"
theorem nmX8 : ∀ a, a < 8 → ∀ b, b < 8 → a ≠ b → (TX8 a).2.1 ≠ (TX8 b).2.1 := by decide +kernel
theorem tyX8_ok : ∀ k, k < 8 → parseFieldDescriptor (TX8 k).2.2.1 = some (tyX8 k) := by decide +kernel
abbrev cX8_init : ByteArray := prog_1_method_1_code
def yX8_init : MethodName := ⟨RX8, "<init>", "()V"⟩
abbrev cX8_add : ByteArray := prog_1_method_2_code
def yX8_add : MethodName := ⟨RX8, "add", "(IIIII)I"⟩
abbrev cX8_link : ByteArray := prog_1_method_3_code
def yX8_link : MethodName := ⟨RX8, "link", "(III)I"⟩
abbrev cX8_witness : ByteArray := prog_1_method_4_code
def yX8_witness : MethodName := ⟨RX8, "witness", "(I)I"⟩
abbrev cX8_unlink : ByteArray := prog_1_method_5_code
def yX8_unlink : MethodName := ⟨RX8, "unlink", "(II)I"⟩
abbrev cX8_setPriority : ByteArray := prog_1_method_6_code
def yX8_setPriority : MethodName := ⟨RX8, "setPriority", "(II)I"⟩
abbrev cX8_setPolicy : ByteArray := prog_1_method_7_code
def yX8_setPolicy : MethodName := ⟨RX8, "setPolicy", "(I)I"⟩
abbrev cX8_setGroupLimit : ByteArray := prog_1_method_8_code
def yX8_setGroupLimit : MethodName := ⟨RX8, "setGroupLimit", "(I)I"⟩
abbrev cX8_clear : ByteArray := prog_1_method_9_code
def yX8_clear : MethodName := ⟨RX8, "clear", "()I"⟩
abbrev cX8_receive : ByteArray := prog_1_method_10_code
def yX8_receive : MethodName := ⟨RX8, "receive", "(I)I"⟩
abbrev cX8_receipt : ByteArray := prog_1_method_11_code
def yX8_receipt : MethodName := ⟨RX8, "receipt", "(I)I"⟩
abbrev cX8_finish : ByteArray := prog_1_method_12_code
def yX8_finish : MethodName := ⟨RX8, "finish", "(II)I"⟩
abbrev cX8_giveBack : ByteArray := prog_1_method_13_code
def yX8_giveBack : MethodName := ⟨RX8, "giveBack", "(III)I"⟩
abbrev cX8_extend : ByteArray := prog_1_method_14_code
def yX8_extend : MethodName := ⟨RX8, "extend", "(III)I"⟩
abbrev cX8_cancel : ByteArray := prog_1_method_15_code
def yX8_cancel : MethodName := ⟨RX8, "cancel", "(I)I"⟩
abbrev cX8_revive : ByteArray := prog_1_method_16_code
def yX8_revive : MethodName := ⟨RX8, "revive", "(I)I"⟩
abbrev cX8_tick : ByteArray := prog_1_method_17_code
def yX8_tick : MethodName := ⟨RX8, "tick", "(I)I"⟩
abbrev cX8_items : ByteArray := prog_1_method_18_code
def yX8_items : MethodName := ⟨RX8, "items", "()I"⟩
abbrev cX8_edges : ByteArray := prog_1_method_19_code
def yX8_edges : MethodName := ⟨RX8, "edges", "()I"⟩
abbrev cX8_time : ByteArray := prog_1_method_20_code
def yX8_time : MethodName := ⟨RX8, "time", "()I"⟩
abbrev cX8_state : ByteArray := prog_1_method_21_code
def yX8_state : MethodName := ⟨RX8, "state", "(I)I"⟩
abbrev cX8_itemsIn : ByteArray := prog_1_method_22_code
def yX8_itemsIn : MethodName := ⟨RX8, "itemsIn", "(I)I"⟩
abbrev cX8_property : ByteArray := prog_1_method_23_code
def yX8_property : MethodName := ⟨RX8, "property", "(II)I"⟩
abbrev cX8_edge : ByteArray := prog_1_method_24_code
def yX8_edge : MethodName := ⟨RX8, "edge", "(II)I"⟩
abbrev cX8_rank : ByteArray := prog_1_method_25_code
def yX8_rank : MethodName := ⟨RX8, "rank", "(I)I"⟩
abbrev cX8_height : ByteArray := prog_1_method_26_code
def yX8_height : MethodName := ⟨RX8, "height", "(I)I"⟩
abbrev cX8_before : ByteArray := prog_1_method_27_code
def yX8_before : MethodName := ⟨RX8, "before", "(I)I"⟩
abbrev cX8_wouldDoom : ByteArray := prog_1_method_28_code
def yX8_wouldDoom : MethodName := ⟨RX8, "wouldDoom", "(I)I"⟩
abbrev cX8_isSuperfluous : ByteArray := prog_1_method_29_code
def yX8_isSuperfluous : MethodName := ⟨RX8, "isSuperfluous", "(II)I"⟩
abbrev cX8_planLength : ByteArray := prog_1_method_30_code
def yX8_planLength : MethodName := ⟨RX8, "planLength", "(II)I"⟩
abbrev cX8_planStart : ByteArray := prog_1_method_31_code
def yX8_planStart : MethodName := ⟨RX8, "planStart", "(III)I"⟩
abbrev cX8_bestWorkers : ByteArray := prog_1_method_32_code
def yX8_bestWorkers : MethodName := ⟨RX8, "bestWorkers", "(I)I"⟩
abbrev cX8_slack : ByteArray := prog_1_method_33_code
def yX8_slack : MethodName := ⟨RX8, "slack", "(I)I"⟩
abbrev cX8_width : ByteArray := prog_1_method_34_code
def yX8_width : MethodName := ⟨RX8, "width", "()I"⟩
abbrev cX8_orders : ByteArray := prog_1_method_35_code
def yX8_orders : MethodName := ⟨RX8, "orders", "()J"⟩
abbrev cX8_write : ByteArray := prog_1_method_36_code
def yX8_write : MethodName := ⟨RX8, "write", "(I)I"⟩
abbrev cX8_wipe : ByteArray := prog_1_method_37_code
def yX8_wipe : MethodName := ⟨RX8, "wipe", "()I"⟩
abbrev cX8_fault : ByteArray := prog_1_method_38_code
def yX8_fault : MethodName := ⟨RX8, "fault", "()I"⟩
abbrev cX8_load : ByteArray := prog_1_method_39_code
def yX8_load : MethodName := ⟨RX8, "load", "()I"⟩
abbrev cX8_save : ByteArray := prog_1_method_40_code
def yX8_save : MethodName := ⟨RX8, "save", "(I)I"⟩
abbrev cX8_restore : ByteArray := prog_1_method_41_code
def yX8_restore : MethodName := ⟨RX8, "restore", "(I)I"⟩
abbrev cX8_isWithin : ByteArray := prog_1_method_42_code
def yX8_isWithin : MethodName := ⟨RX8, "isWithin", "(III)Z"⟩
def RX9 : String := "DependencyQueueModel"
def TX9 : u_T := fun k => match k with
  | 0 => ("DependencyQueueModel", "w", "[I", true)
  | 1 => ("DependencyQueueModel", "slots", "[I", true)
  | 2 => ("DependencyQueueModel", "filled", "I", false)
  | 3 => ("DependencyQueueModel", "path", "[I", true)
  | 4 => ("DependencyQueueModel", "pathLength", "I", false)
  | 5 => ("DependencyQueueModel", "text", "[I", true)
  | 6 => ("DependencyQueueModel", "length", "I", false)
  | 7 => ("DependencyQueueModel", "becameReady", "I", false)
  | 8 => ("DependencyQueueModel", "becameDoomed", "I", false)
  | 9 => ("DependencyQueueModel", "steps", "[I", true)
  | 10 => ("DependencyQueueModel", "heights", "[I", true)
  | 11 => ("DependencyQueueModel", "depths", "[I", true)
  | 12 => ("DependencyQueueModel", "ahead", "[I", true)
  | 13 => ("DependencyQueueModel", "startAt", "[I", true)
  | 14 => ("DependencyQueueModel", "endAt", "[I", true)
  | 15 => ("DependencyQueueModel", "partner", "[I", true)
  | 16 => ("DependencyQueueModel", "from", "[I", true)
  | 17 => ("DependencyQueueModel", "waits", "[I", true)
  | 18 => ("DependencyQueueModel", "ways", "[J", true)
  | 19 => ("DependencyQueueModel", "open", "[I", true)
  | 20 => ("DependencyQueueModel", "at", "I", false)
  | 21 => ("DependencyQueueModel", "wrong", "I", false)
  | 22 => ("DependencyQueueModel", "priorities", "[I", true)
  | 23 => ("DependencyQueueModel", "works", "[I", true)
  | 24 => ("DependencyQueueModel", "found", "[I", true)
  | _ => ("DependencyQueueModel", "described", "I", false)
def tyX9 : Nat → FieldType := fun k => match k with
  | 0 => .array .int
  | 1 => .array .int
  | 2 => .int
  | 3 => .array .int
  | 4 => .int
  | 5 => .array .int
  | 6 => .int
  | 7 => .int
  | 8 => .int
  | 9 => .array .int
  | 10 => .array .int
  | 11 => .array .int
  | 12 => .array .int
  | 13 => .array .int
  | 14 => .array .int
  | 15 => .array .int
  | 16 => .array .int
  | 17 => .array .int
  | 18 => .array .long
  | 19 => .array .int
  | 20 => .int
  | 21 => .int
  | 22 => .array .int
  | 23 => .array .int
  | 24 => .array .int
  | _ => .int
theorem nmX9 : ∀ a, a < 26 → ∀ b, b < 26 → a ≠ b → (TX9 a).2.1 ≠ (TX9 b).2.1 := by decide +kernel
theorem tyX9_ok : ∀ k, k < 26 → parseFieldDescriptor (TX9 k).2.2.1 = some (tyX9 k) := by decide +kernel
abbrev cX9_init : ByteArray := prog_11_method_1_code
def yX9_init : MethodName := ⟨RX9, "<init>", "()V"⟩
abbrev cX9_isIn : ByteArray := prog_11_method_2_code
def yX9_isIn : MethodName := ⟨RX9, "isIn", "(III)Z"⟩
abbrev cX9_isItem : ByteArray := prog_11_method_3_code
def yX9_isItem : MethodName := ⟨RX9, "isItem", "(I)Z"⟩
abbrev cX9_of : ByteArray := prog_11_method_4_code
def yX9_of : MethodName := ⟨RX9, "of", "(II)I"⟩
abbrev cX9_set : ByteArray := prog_11_method_5_code
def yX9_set : MethodName := ⟨RX9, "set", "(III)V"⟩
abbrev cX9_kindOf : ByteArray := prog_11_method_6_code
def yX9_kindOf : MethodName := ⟨RX9, "kindOf", "(II)I"⟩
abbrev cX9_hasEnded : ByteArray := prog_11_method_7_code
def yX9_hasEnded : MethodName := ⟨RX9, "hasEnded", "(I)Z"⟩
abbrev cX9_append : ByteArray := prog_11_method_8_code
def yX9_append : MethodName := ⟨RX9, "append", "(IIIII)I"⟩
abbrev cX9_due : ByteArray := prog_11_method_9_code
def yX9_due : MethodName := ⟨RX9, "due", "(I)I"⟩
abbrev cX9_becomesReady : ByteArray := prog_11_method_10_code
def yX9_becomesReady : MethodName := ⟨RX9, "becomesReady", "(II)V"⟩
abbrev cX9_settle : ByteArray := prog_11_method_11_code
def yX9_settle : MethodName := ⟨RX9, "settle", "()V"⟩
abbrev cX9_add : ByteArray := prog_11_method_12_code
def yX9_add : MethodName := ⟨RX9, "add", "(IIIII)I"⟩
abbrev cX9_measureTo : ByteArray := prog_11_method_13_code
def yX9_measureTo : MethodName := ⟨RX9, "measureTo", "(I)V"⟩
abbrev cX9_keepPath : ByteArray := prog_11_method_14_code
def yX9_keepPath : MethodName := ⟨RX9, "keepPath", "(II)V"⟩
abbrev cX9_link : ByteArray := prog_11_method_15_code
def yX9_link : MethodName := ⟨RX9, "link", "(III)I"⟩
abbrev cX9_witness : ByteArray := prog_11_method_16_code
def yX9_witness : MethodName := ⟨RX9, "witness", "(I)I"⟩
abbrev cX9_unlink : ByteArray := prog_11_method_17_code
def yX9_unlink : MethodName := ⟨RX9, "unlink", "(II)I"⟩
abbrev cX9_setPriority : ByteArray := prog_11_method_18_code
def yX9_setPriority : MethodName := ⟨RX9, "setPriority", "(II)I"⟩
abbrev cX9_setPolicy : ByteArray := prog_11_method_19_code
def yX9_setPolicy : MethodName := ⟨RX9, "setPolicy", "(I)I"⟩
abbrev cX9_setGroupLimit : ByteArray := prog_11_method_20_code
def yX9_setGroupLimit : MethodName := ⟨RX9, "setGroupLimit", "(I)I"⟩
abbrev cX9_clear : ByteArray := prog_11_method_21_code
def yX9_clear : MethodName := ⟨RX9, "clear", "()I"⟩
abbrev cX9_ownWork : ByteArray := prog_11_method_22_code
def yX9_ownWork : MethodName := ⟨RX9, "ownWork", "(I)I"⟩
abbrev cX9_measure : ByteArray := prog_11_method_23_code
def yX9_measure : MethodName := ⟨RX9, "measure", "()V"⟩
abbrev cX9_rankOf : ByteArray := prog_11_method_24_code
def yX9_rankOf : MethodName := ⟨RX9, "rankOf", "(I)I"⟩
abbrev cX9_canReceive : ByteArray := prog_11_method_25_code
def yX9_canReceive : MethodName := ⟨RX9, "canReceive", "(I)Z"⟩
abbrev cX9_receive : ByteArray := prog_11_method_26_code
def yX9_receive : MethodName := ⟨RX9, "receive", "(I)I"⟩
abbrev cX9_receipt : ByteArray := prog_11_method_27_code
def yX9_receipt : MethodName := ⟨RX9, "receipt", "(I)I"⟩
abbrev cX9_isValid : ByteArray := prog_11_method_28_code
def yX9_isValid : MethodName := ⟨RX9, "isValid", "(II)Z"⟩
abbrev cX9_finish : ByteArray := prog_11_method_29_code
def yX9_finish : MethodName := ⟨RX9, "finish", "(II)I"⟩
abbrev cX9_comeBack : ByteArray := prog_11_method_30_code
def yX9_comeBack : MethodName := ⟨RX9, "comeBack", "(II)V"⟩
abbrev cX9_giveBack : ByteArray := prog_11_method_31_code
def yX9_giveBack : MethodName := ⟨RX9, "giveBack", "(III)I"⟩
abbrev cX9_extend : ByteArray := prog_11_method_32_code
def yX9_extend : MethodName := ⟨RX9, "extend", "(III)I"⟩
abbrev cX9_cancel : ByteArray := prog_11_method_33_code
def yX9_cancel : MethodName := ⟨RX9, "cancel", "(I)I"⟩
abbrev cX9_revive : ByteArray := prog_11_method_34_code
def yX9_revive : MethodName := ⟨RX9, "revive", "(I)I"⟩
abbrev cX9_tick : ByteArray := prog_11_method_35_code
def yX9_tick : MethodName := ⟨RX9, "tick", "(I)I"⟩
abbrev cX9_items : ByteArray := prog_11_method_36_code
def yX9_items : MethodName := ⟨RX9, "items", "()I"⟩
abbrev cX9_edges : ByteArray := prog_11_method_37_code
def yX9_edges : MethodName := ⟨RX9, "edges", "()I"⟩
abbrev cX9_time : ByteArray := prog_11_method_38_code
def yX9_time : MethodName := ⟨RX9, "time", "()I"⟩
abbrev cX9_state : ByteArray := prog_11_method_39_code
def yX9_state : MethodName := ⟨RX9, "state", "(I)I"⟩
abbrev cX9_itemsIn : ByteArray := prog_11_method_40_code
def yX9_itemsIn : MethodName := ⟨RX9, "itemsIn", "(I)I"⟩
abbrev cX9_property : ByteArray := prog_11_method_41_code
def yX9_property : MethodName := ⟨RX9, "property", "(II)I"⟩
abbrev cX9_edge : ByteArray := prog_11_method_42_code
def yX9_edge : MethodName := ⟨RX9, "edge", "(II)I"⟩
abbrev cX9_rank : ByteArray := prog_11_method_43_code
def yX9_rank : MethodName := ⟨RX9, "rank", "(I)I"⟩
abbrev cX9_height : ByteArray := prog_11_method_44_code
def yX9_height : MethodName := ⟨RX9, "height", "(I)I"⟩
abbrev cX9_layAhead : ByteArray := prog_11_method_45_code
def yX9_layAhead : MethodName := ⟨RX9, "layAhead", "()V"⟩
abbrev cX9_before : ByteArray := prog_11_method_46_code
def yX9_before : MethodName := ⟨RX9, "before", "(I)I"⟩
abbrev cX9_wouldDoom : ByteArray := prog_11_method_47_code
def yX9_wouldDoom : MethodName := ⟨RX9, "wouldDoom", "(I)I"⟩
abbrev cX9_isSuperfluous : ByteArray := prog_11_method_48_code
def yX9_isSuperfluous : MethodName := ⟨RX9, "isSuperfluous", "(II)I"⟩
abbrev cX9_possibleAt : ByteArray := prog_11_method_49_code
def yX9_possibleAt : MethodName := ⟨RX9, "possibleAt", "(II)I"⟩
abbrev cX9_planRank : ByteArray := prog_11_method_50_code
def yX9_planRank : MethodName := ⟨RX9, "planRank", "(III)I"⟩
abbrev cX9_planned : ByteArray := prog_11_method_51_code
def yX9_planned : MethodName := ⟨RX9, "planned", "(II)I"⟩
abbrev cX9_planLength : ByteArray := prog_11_method_52_code
def yX9_planLength : MethodName := ⟨RX9, "planLength", "(II)I"⟩
abbrev cX9_planStart : ByteArray := prog_11_method_53_code
def yX9_planStart : MethodName := ⟨RX9, "planStart", "(III)I"⟩
abbrev cX9_bestWorkers : ByteArray := prog_11_method_54_code
def yX9_bestWorkers : MethodName := ⟨RX9, "bestWorkers", "(I)I"⟩
abbrev cX9_slack : ByteArray := prog_11_method_55_code
def yX9_slack : MethodName := ⟨RX9, "slack", "(I)I"⟩
abbrev cX9_isMatched : ByteArray := prog_11_method_56_code
def yX9_isMatched : MethodName := ⟨RX9, "isMatched", "(I)Z"⟩
abbrev cX9_changePartners : ByteArray := prog_11_method_57_code
def yX9_changePartners : MethodName := ⟨RX9, "changePartners", "(II)V"⟩
abbrev cX9_width : ByteArray := prog_11_method_58_code
def yX9_width : MethodName := ⟨RX9, "width", "()I"⟩
abbrev cX9_orders : ByteArray := prog_11_method_59_code
def yX9_orders : MethodName := ⟨RX9, "orders", "()J"⟩
abbrev cX9_isLast : ByteArray := prog_11_method_60_code
def yX9_isLast : MethodName := ⟨RX9, "isLast", "(III)Z"⟩
abbrev cX9_write : ByteArray := prog_11_method_61_code
def yX9_write : MethodName := ⟨RX9, "write", "(I)I"⟩
abbrev cX9_wipe : ByteArray := prog_11_method_62_code
def yX9_wipe : MethodName := ⟨RX9, "wipe", "()I"⟩
abbrev cX9_isDigit : ByteArray := prog_11_method_63_code
def yX9_isDigit : MethodName := ⟨RX9, "isDigit", "()Z"⟩
abbrev cX9_fails : ByteArray := prog_11_method_64_code
def yX9_fails : MethodName := ⟨RX9, "fails", "(I)V"⟩
abbrev cX9_number : ByteArray := prog_11_method_65_code
def yX9_number : MethodName := ⟨RX9, "number", "()I"⟩
abbrev cX9_readItem : ByteArray := prog_11_method_66_code
def yX9_readItem : MethodName := ⟨RX9, "readItem", "()V"⟩
abbrev cX9_fault : ByteArray := prog_11_method_67_code
def yX9_fault : MethodName := ⟨RX9, "fault", "()I"⟩
abbrev cX9_load : ByteArray := prog_11_method_68_code
def yX9_load : MethodName := ⟨RX9, "load", "()I"⟩
abbrev cX9_save : ByteArray := prog_11_method_69_code
def yX9_save : MethodName := ⟨RX9, "save", "(I)I"⟩
abbrev cX9_restore : ByteArray := prog_11_method_70_code
def yX9_restore : MethodName := ⟨RX9, "restore", "(I)I"⟩
def RJ6 : String := "java/lang/Integer"
abbrev cJ6_bitCount_0f7a4 : ByteArray := prog_12_method_49_code
def yJ6_bitCount_0f7a4 : MethodName := ⟨RJ6, "bitCount", "(I)I"⟩
def RJ9 : String := "java/lang/Math"
abbrev cJ9_max_7cf53 : ByteArray := prog_13_method_65_code
def yJ9_max_7cf53 : MethodName := ⟨RJ9, "max", "(II)I"⟩
def RJ10 : String := "java/lang/System"
abbrev cL_law : ByteArray := code
