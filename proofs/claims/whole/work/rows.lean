section
-- ===== PART A: goes FIRST, ahead of the names: the tables' words, and 'selects' of the private methods out of them =====
/-- a private method of a class that the tables say can be made, by its rows of tables_1 -/
def lw_okq (q : MethodName × Nat) : Prop := (q.1.cls ≠ "java/lang/invoke/MethodHandle" ∧ q.1.cls ≠ "java/lang/invoke/VarHandle") ∧ Cond.instantiable q.1.cls q.2 ∈ tables_1 ∧ Cond.privateMethod q.1 ∈ tables_1 ∧ Cond.instanceMethod q.1 ∈ tables_1
theorem lw_p0 : lw_okq (⟨"DependencyQueue$Witness", "drawRings", "(LDependencyQueue$Queue;II)I"⟩, 3) := ⟨⟨by decide +kernel, by decide +kernel⟩, List.mem_of_getElem? (i := 123) (by decide +kernel), List.mem_of_getElem? (i := 302) (by decide +kernel), List.mem_of_getElem? (i := 303) (by decide +kernel)⟩
theorem lw_p1 : lw_okq (⟨"DependencyQueue$Queue", "settleItem", "(I)Z"⟩, 18) := ⟨⟨by decide +kernel, by decide +kernel⟩, List.mem_of_getElem? (i := 23) (by decide +kernel), List.mem_of_getElem? (i := 330) (by decide +kernel), List.mem_of_getElem? (i := 331) (by decide +kernel)⟩
theorem lw_p2 : lw_okq (⟨"DependencyQueue$Queue", "stateByEdges", "(I)I"⟩, 18) := ⟨⟨by decide +kernel, by decide +kernel⟩, List.mem_of_getElem? (i := 23) (by decide +kernel), List.mem_of_getElem? (i := 335) (by decide +kernel), List.mem_of_getElem? (i := 336) (by decide +kernel)⟩
theorem lw_p3 : lw_okq (⟨"DependencyQueue$Paths", "raisePredecessors", "(I)Z"⟩, 4) := ⟨⟨by decide +kernel, by decide +kernel⟩, List.mem_of_getElem? (i := 104) (by decide +kernel), List.mem_of_getElem? (i := 407) (by decide +kernel), List.mem_of_getElem? (i := 408) (by decide +kernel)⟩
theorem lw_p4 : lw_okq (⟨"DependencyQueue$Queue", "canBeReceived", "(I)Z"⟩, 18) := ⟨⟨by decide +kernel, by decide +kernel⟩, List.mem_of_getElem? (i := 23) (by decide +kernel), List.mem_of_getElem? (i := 415) (by decide +kernel), List.mem_of_getElem? (i := 416) (by decide +kernel)⟩
theorem lw_p5 : lw_okq (⟨"DependencyQueue$Queue", "inFlightOf", "(I)I"⟩, 18) := ⟨⟨by decide +kernel, by decide +kernel⟩, List.mem_of_getElem? (i := 23) (by decide +kernel), List.mem_of_getElem? (i := 419) (by decide +kernel), List.mem_of_getElem? (i := 420) (by decide +kernel)⟩
theorem lw_p6 : lw_okq (⟨"DependencyQueue$Plan", "endCompleted", "(I)V"⟩, 8) := ⟨⟨by decide +kernel, by decide +kernel⟩, List.mem_of_getElem? (i := 141) (by decide +kernel), List.mem_of_getElem? (i := 562) (by decide +kernel), List.mem_of_getElem? (i := 563) (by decide +kernel)⟩
theorem lw_p7 : lw_okq (⟨"DependencyQueue$Plan", "findStartable", "(LDependencyQueue$Queue;)V"⟩, 8) := ⟨⟨by decide +kernel, by decide +kernel⟩, List.mem_of_getElem? (i := 141) (by decide +kernel), List.mem_of_getElem? (i := 567) (by decide +kernel), List.mem_of_getElem? (i := 568) (by decide +kernel)⟩
theorem lw_p8 : lw_okq (⟨"DependencyQueue$Plan", "startItems", "(LDependencyQueue$Queue;[II)V"⟩, 8) := ⟨⟨by decide +kernel, by decide +kernel⟩, List.mem_of_getElem? (i := 141) (by decide +kernel), List.mem_of_getElem? (i := 572) (by decide +kernel), List.mem_of_getElem? (i := 573) (by decide +kernel)⟩
theorem lw_p9 : lw_okq (⟨"DependencyQueue$Plan", "bestStartable", "(LDependencyQueue$Queue;[II)I"⟩, 8) := ⟨⟨by decide +kernel, by decide +kernel⟩, List.mem_of_getElem? (i := 141) (by decide +kernel), List.mem_of_getElem? (i := 576) (by decide +kernel), List.mem_of_getElem? (i := 577) (by decide +kernel)⟩
theorem lw_p10 : lw_okq (⟨"DependencyQueue$Plan", "nextEnd", "(I)I"⟩, 8) := ⟨⟨by decide +kernel, by decide +kernel⟩, List.mem_of_getElem? (i := 141) (by decide +kernel), List.mem_of_getElem? (i := 582) (by decide +kernel), List.mem_of_getElem? (i := 583) (by decide +kernel)⟩
theorem lw_p11 : lw_okq (⟨"DependencyQueue$Paths", "raiseLead", "(I)Z"⟩, 4) := ⟨⟨by decide +kernel, by decide +kernel⟩, List.mem_of_getElem? (i := 104) (by decide +kernel), List.mem_of_getElem? (i := 605) (by decide +kernel), List.mem_of_getElem? (i := 606) (by decide +kernel)⟩
theorem lw_p12 : lw_okq (⟨"DependencyQueue$ChainCover", "findNext", "(II[I)Z"⟩, 3) := ⟨⟨by decide +kernel, by decide +kernel⟩, List.mem_of_getElem? (i := 174) (by decide +kernel), List.mem_of_getElem? (i := 620) (by decide +kernel), List.mem_of_getElem? (i := 621) (by decide +kernel)⟩
theorem lw_p13 : lw_okq (⟨"DependencyQueue$ChainCover", "pairAlong", "(I)V"⟩, 3) := ⟨⟨by decide +kernel, by decide +kernel⟩, List.mem_of_getElem? (i := 174) (by decide +kernel), List.mem_of_getElem? (i := 627) (by decide +kernel), List.mem_of_getElem? (i := 628) (by decide +kernel)⟩
theorem lw_p14 : lw_okq (⟨"DependencyQueue$OrderCount", "listMembers", "(I)I"⟩, 3) := ⟨⟨by decide +kernel, by decide +kernel⟩, List.mem_of_getElem? (i := 190) (by decide +kernel), List.mem_of_getElem? (i := 640) (by decide +kernel), List.mem_of_getElem? (i := 641) (by decide +kernel)⟩
theorem lw_p15 : lw_okq (⟨"DependencyQueue$OrderCount", "listNeeds", "(I[I)V"⟩, 3) := ⟨⟨by decide +kernel, by decide +kernel⟩, List.mem_of_getElem? (i := 190) (by decide +kernel), List.mem_of_getElem? (i := 645) (by decide +kernel), List.mem_of_getElem? (i := 646) (by decide +kernel)⟩
def lw_privs_1 : List (MethodName × Nat) := [(⟨"DependencyQueue$Witness", "drawRings", "(LDependencyQueue$Queue;II)I"⟩, 3), (⟨"DependencyQueue$Queue", "settleItem", "(I)Z"⟩, 18), (⟨"DependencyQueue$Queue", "stateByEdges", "(I)I"⟩, 18), (⟨"DependencyQueue$Paths", "raisePredecessors", "(I)Z"⟩, 4), (⟨"DependencyQueue$Queue", "canBeReceived", "(I)Z"⟩, 18), (⟨"DependencyQueue$Queue", "inFlightOf", "(I)I"⟩, 18), (⟨"DependencyQueue$Plan", "endCompleted", "(I)V"⟩, 8), (⟨"DependencyQueue$Plan", "findStartable", "(LDependencyQueue$Queue;)V"⟩, 8), (⟨"DependencyQueue$Plan", "startItems", "(LDependencyQueue$Queue;[II)V"⟩, 8), (⟨"DependencyQueue$Plan", "bestStartable", "(LDependencyQueue$Queue;[II)I"⟩, 8), (⟨"DependencyQueue$Plan", "nextEnd", "(I)I"⟩, 8), (⟨"DependencyQueue$Paths", "raiseLead", "(I)Z"⟩, 4), (⟨"DependencyQueue$ChainCover", "findNext", "(II[I)Z"⟩, 3), (⟨"DependencyQueue$ChainCover", "pairAlong", "(I)V"⟩, 3), (⟨"DependencyQueue$OrderCount", "listMembers", "(I)I"⟩, 3), (⟨"DependencyQueue$OrderCount", "listNeeds", "(I[I)V"⟩, 3)]
theorem lw_r1 : ∀ q ∈ lw_privs_1, lw_okq q := List.forall_mem_cons.mpr ⟨lw_p0, List.forall_mem_cons.mpr ⟨lw_p1, List.forall_mem_cons.mpr ⟨lw_p2, List.forall_mem_cons.mpr ⟨lw_p3, List.forall_mem_cons.mpr ⟨lw_p4, List.forall_mem_cons.mpr ⟨lw_p5, List.forall_mem_cons.mpr ⟨lw_p6, List.forall_mem_cons.mpr ⟨lw_p7, List.forall_mem_cons.mpr ⟨lw_p8, List.forall_mem_cons.mpr ⟨lw_p9, List.forall_mem_cons.mpr ⟨lw_p10, List.forall_mem_cons.mpr ⟨lw_p11, List.forall_mem_cons.mpr ⟨lw_p12, List.forall_mem_cons.mpr ⟨lw_p13, List.forall_mem_cons.mpr ⟨lw_p14, List.forall_mem_cons.mpr ⟨lw_p15, fun _ h => absurd h List.not_mem_nil⟩⟩⟩⟩⟩⟩⟩⟩⟩⟩⟩⟩⟩⟩⟩⟩
theorem lw_p16 : lw_okq (⟨"DependencyQueue$OrderCount", "goOnFrom", "(II)V"⟩, 3) := ⟨⟨by decide +kernel, by decide +kernel⟩, List.mem_of_getElem? (i := 190) (by decide +kernel), List.mem_of_getElem? (i := 649) (by decide +kernel), List.mem_of_getElem? (i := 650) (by decide +kernel)⟩
theorem lw_p17 : lw_okq (⟨"DependencyQueue$Text", "readItem", "()I"⟩, 4) := ⟨⟨by decide +kernel, by decide +kernel⟩, List.mem_of_getElem? (i := 207) (by decide +kernel), List.mem_of_getElem? (i := 674) (by decide +kernel), List.mem_of_getElem? (i := 675) (by decide +kernel)⟩
theorem lw_p18 : lw_okq (⟨"DependencyQueue$Text", "codeHere", "()I"⟩, 4) := ⟨⟨by decide +kernel, by decide +kernel⟩, List.mem_of_getElem? (i := 207) (by decide +kernel), List.mem_of_getElem? (i := 679) (by decide +kernel), List.mem_of_getElem? (i := 680) (by decide +kernel)⟩
theorem lw_p19 : lw_okq (⟨"DependencyQueue$Text", "readNumber", "()I"⟩, 4) := ⟨⟨by decide +kernel, by decide +kernel⟩, List.mem_of_getElem? (i := 207) (by decide +kernel), List.mem_of_getElem? (i := 686) (by decide +kernel), List.mem_of_getElem? (i := 687) (by decide +kernel)⟩
theorem lw_p20 : lw_okq (⟨"DependencyQueue$Text", "readEdges", "(I)I"⟩, 4) := ⟨⟨by decide +kernel, by decide +kernel⟩, List.mem_of_getElem? (i := 207) (by decide +kernel), List.mem_of_getElem? (i := 692) (by decide +kernel), List.mem_of_getElem? (i := 693) (by decide +kernel)⟩
theorem lw_p21 : lw_okq (⟨"DependencyQueueModel", "append", "(IIIII)I"⟩, 26) := ⟨⟨by decide +kernel, by decide +kernel⟩, List.mem_of_getElem? (i := 726) (by decide +kernel), List.mem_of_getElem? (i := 818) (by decide +kernel), List.mem_of_getElem? (i := 819) (by decide +kernel)⟩
theorem lw_p22 : lw_okq (⟨"DependencyQueueModel", "set", "(III)V"⟩, 26) := ⟨⟨by decide +kernel, by decide +kernel⟩, List.mem_of_getElem? (i := 726) (by decide +kernel), List.mem_of_getElem? (i := 822) (by decide +kernel), List.mem_of_getElem? (i := 823) (by decide +kernel)⟩
theorem lw_p23 : lw_okq (⟨"DependencyQueueModel", "settle", "()V"⟩, 26) := ⟨⟨by decide +kernel, by decide +kernel⟩, List.mem_of_getElem? (i := 726) (by decide +kernel), List.mem_of_getElem? (i := 826) (by decide +kernel), List.mem_of_getElem? (i := 827) (by decide +kernel)⟩
theorem lw_p24 : lw_okq (⟨"DependencyQueueModel", "of", "(II)I"⟩, 26) := ⟨⟨by decide +kernel, by decide +kernel⟩, List.mem_of_getElem? (i := 726) (by decide +kernel), List.mem_of_getElem? (i := 830) (by decide +kernel), List.mem_of_getElem? (i := 831) (by decide +kernel)⟩
theorem lw_p25 : lw_okq (⟨"DependencyQueueModel", "due", "(I)I"⟩, 26) := ⟨⟨by decide +kernel, by decide +kernel⟩, List.mem_of_getElem? (i := 726) (by decide +kernel), List.mem_of_getElem? (i := 834) (by decide +kernel), List.mem_of_getElem? (i := 835) (by decide +kernel)⟩
theorem lw_p26 : lw_okq (⟨"DependencyQueueModel", "kindOf", "(II)I"⟩, 26) := ⟨⟨by decide +kernel, by decide +kernel⟩, List.mem_of_getElem? (i := 726) (by decide +kernel), List.mem_of_getElem? (i := 838) (by decide +kernel), List.mem_of_getElem? (i := 839) (by decide +kernel)⟩
theorem lw_p27 : lw_okq (⟨"DependencyQueueModel", "hasEnded", "(I)Z"⟩, 26) := ⟨⟨by decide +kernel, by decide +kernel⟩, List.mem_of_getElem? (i := 726) (by decide +kernel), List.mem_of_getElem? (i := 842) (by decide +kernel), List.mem_of_getElem? (i := 843) (by decide +kernel)⟩
theorem lw_p28 : lw_okq (⟨"DependencyQueueModel", "becomesReady", "(II)V"⟩, 26) := ⟨⟨by decide +kernel, by decide +kernel⟩, List.mem_of_getElem? (i := 726) (by decide +kernel), List.mem_of_getElem? (i := 846) (by decide +kernel), List.mem_of_getElem? (i := 847) (by decide +kernel)⟩
theorem lw_p29 : lw_okq (⟨"DependencyQueueModel", "isItem", "(I)Z"⟩, 26) := ⟨⟨by decide +kernel, by decide +kernel⟩, List.mem_of_getElem? (i := 726) (by decide +kernel), List.mem_of_getElem? (i := 854) (by decide +kernel), List.mem_of_getElem? (i := 855) (by decide +kernel)⟩
theorem lw_p30 : lw_okq (⟨"DependencyQueueModel", "measureTo", "(I)V"⟩, 26) := ⟨⟨by decide +kernel, by decide +kernel⟩, List.mem_of_getElem? (i := 726) (by decide +kernel), List.mem_of_getElem? (i := 858) (by decide +kernel), List.mem_of_getElem? (i := 859) (by decide +kernel)⟩
theorem lw_p31 : lw_okq (⟨"DependencyQueueModel", "keepPath", "(II)V"⟩, 26) := ⟨⟨by decide +kernel, by decide +kernel⟩, List.mem_of_getElem? (i := 726) (by decide +kernel), List.mem_of_getElem? (i := 862) (by decide +kernel), List.mem_of_getElem? (i := 863) (by decide +kernel)⟩
def lw_privs_2 : List (MethodName × Nat) := [(⟨"DependencyQueue$OrderCount", "goOnFrom", "(II)V"⟩, 3), (⟨"DependencyQueue$Text", "readItem", "()I"⟩, 4), (⟨"DependencyQueue$Text", "codeHere", "()I"⟩, 4), (⟨"DependencyQueue$Text", "readNumber", "()I"⟩, 4), (⟨"DependencyQueue$Text", "readEdges", "(I)I"⟩, 4), (⟨"DependencyQueueModel", "append", "(IIIII)I"⟩, 26), (⟨"DependencyQueueModel", "set", "(III)V"⟩, 26), (⟨"DependencyQueueModel", "settle", "()V"⟩, 26), (⟨"DependencyQueueModel", "of", "(II)I"⟩, 26), (⟨"DependencyQueueModel", "due", "(I)I"⟩, 26), (⟨"DependencyQueueModel", "kindOf", "(II)I"⟩, 26), (⟨"DependencyQueueModel", "hasEnded", "(I)Z"⟩, 26), (⟨"DependencyQueueModel", "becomesReady", "(II)V"⟩, 26), (⟨"DependencyQueueModel", "isItem", "(I)Z"⟩, 26), (⟨"DependencyQueueModel", "measureTo", "(I)V"⟩, 26), (⟨"DependencyQueueModel", "keepPath", "(II)V"⟩, 26)]
theorem lw_r2 : ∀ q ∈ lw_privs_2, lw_okq q := List.forall_mem_cons.mpr ⟨lw_p16, List.forall_mem_cons.mpr ⟨lw_p17, List.forall_mem_cons.mpr ⟨lw_p18, List.forall_mem_cons.mpr ⟨lw_p19, List.forall_mem_cons.mpr ⟨lw_p20, List.forall_mem_cons.mpr ⟨lw_p21, List.forall_mem_cons.mpr ⟨lw_p22, List.forall_mem_cons.mpr ⟨lw_p23, List.forall_mem_cons.mpr ⟨lw_p24, List.forall_mem_cons.mpr ⟨lw_p25, List.forall_mem_cons.mpr ⟨lw_p26, List.forall_mem_cons.mpr ⟨lw_p27, List.forall_mem_cons.mpr ⟨lw_p28, List.forall_mem_cons.mpr ⟨lw_p29, List.forall_mem_cons.mpr ⟨lw_p30, List.forall_mem_cons.mpr ⟨lw_p31, fun _ h => absurd h List.not_mem_nil⟩⟩⟩⟩⟩⟩⟩⟩⟩⟩⟩⟩⟩⟩⟩⟩
theorem lw_p32 : lw_okq (⟨"DependencyQueueModel", "measure", "()V"⟩, 26) := ⟨⟨by decide +kernel, by decide +kernel⟩, List.mem_of_getElem? (i := 726) (by decide +kernel), List.mem_of_getElem? (i := 898) (by decide +kernel), List.mem_of_getElem? (i := 899) (by decide +kernel)⟩
theorem lw_p33 : lw_okq (⟨"DependencyQueueModel", "ownWork", "(I)I"⟩, 26) := ⟨⟨by decide +kernel, by decide +kernel⟩, List.mem_of_getElem? (i := 726) (by decide +kernel), List.mem_of_getElem? (i := 902) (by decide +kernel), List.mem_of_getElem? (i := 903) (by decide +kernel)⟩
theorem lw_p34 : lw_okq (⟨"DependencyQueueModel", "canReceive", "(I)Z"⟩, 26) := ⟨⟨by decide +kernel, by decide +kernel⟩, List.mem_of_getElem? (i := 726) (by decide +kernel), List.mem_of_getElem? (i := 906) (by decide +kernel), List.mem_of_getElem? (i := 907) (by decide +kernel)⟩
theorem lw_p35 : lw_okq (⟨"DependencyQueueModel", "rankOf", "(I)I"⟩, 26) := ⟨⟨by decide +kernel, by decide +kernel⟩, List.mem_of_getElem? (i := 726) (by decide +kernel), List.mem_of_getElem? (i := 910) (by decide +kernel), List.mem_of_getElem? (i := 911) (by decide +kernel)⟩
theorem lw_p36 : lw_okq (⟨"DependencyQueueModel", "isValid", "(II)Z"⟩, 26) := ⟨⟨by decide +kernel, by decide +kernel⟩, List.mem_of_getElem? (i := 726) (by decide +kernel), List.mem_of_getElem? (i := 922) (by decide +kernel), List.mem_of_getElem? (i := 923) (by decide +kernel)⟩
theorem lw_p37 : lw_okq (⟨"DependencyQueueModel", "comeBack", "(II)V"⟩, 26) := ⟨⟨by decide +kernel, by decide +kernel⟩, List.mem_of_getElem? (i := 726) (by decide +kernel), List.mem_of_getElem? (i := 930) (by decide +kernel), List.mem_of_getElem? (i := 931) (by decide +kernel)⟩
theorem lw_p38 : lw_okq (⟨"DependencyQueueModel", "layAhead", "()V"⟩, 26) := ⟨⟨by decide +kernel, by decide +kernel⟩, List.mem_of_getElem? (i := 726) (by decide +kernel), List.mem_of_getElem? (i := 987) (by decide +kernel), List.mem_of_getElem? (i := 988) (by decide +kernel)⟩
theorem lw_p39 : lw_okq (⟨"DependencyQueueModel", "planned", "(II)I"⟩, 26) := ⟨⟨by decide +kernel, by decide +kernel⟩, List.mem_of_getElem? (i := 726) (by decide +kernel), List.mem_of_getElem? (i := 1003) (by decide +kernel), List.mem_of_getElem? (i := 1004) (by decide +kernel)⟩
theorem lw_p40 : lw_okq (⟨"DependencyQueueModel", "possibleAt", "(II)I"⟩, 26) := ⟨⟨by decide +kernel, by decide +kernel⟩, List.mem_of_getElem? (i := 726) (by decide +kernel), List.mem_of_getElem? (i := 1007) (by decide +kernel), List.mem_of_getElem? (i := 1008) (by decide +kernel)⟩
theorem lw_p41 : lw_okq (⟨"DependencyQueueModel", "planRank", "(III)I"⟩, 26) := ⟨⟨by decide +kernel, by decide +kernel⟩, List.mem_of_getElem? (i := 726) (by decide +kernel), List.mem_of_getElem? (i := 1011) (by decide +kernel), List.mem_of_getElem? (i := 1012) (by decide +kernel)⟩
theorem lw_p42 : lw_okq (⟨"DependencyQueueModel", "isMatched", "(I)Z"⟩, 26) := ⟨⟨by decide +kernel, by decide +kernel⟩, List.mem_of_getElem? (i := 726) (by decide +kernel), List.mem_of_getElem? (i := 1031) (by decide +kernel), List.mem_of_getElem? (i := 1032) (by decide +kernel)⟩
theorem lw_p43 : lw_okq (⟨"DependencyQueueModel", "changePartners", "(II)V"⟩, 26) := ⟨⟨by decide +kernel, by decide +kernel⟩, List.mem_of_getElem? (i := 726) (by decide +kernel), List.mem_of_getElem? (i := 1035) (by decide +kernel), List.mem_of_getElem? (i := 1036) (by decide +kernel)⟩
theorem lw_p44 : lw_okq (⟨"DependencyQueueModel", "isLast", "(III)Z"⟩, 26) := ⟨⟨by decide +kernel, by decide +kernel⟩, List.mem_of_getElem? (i := 726) (by decide +kernel), List.mem_of_getElem? (i := 1044) (by decide +kernel), List.mem_of_getElem? (i := 1045) (by decide +kernel)⟩
theorem lw_p45 : lw_okq (⟨"DependencyQueueModel", "readItem", "()V"⟩, 26) := ⟨⟨by decide +kernel, by decide +kernel⟩, List.mem_of_getElem? (i := 726) (by decide +kernel), List.mem_of_getElem? (i := 1060) (by decide +kernel), List.mem_of_getElem? (i := 1061) (by decide +kernel)⟩
theorem lw_p46 : lw_okq (⟨"DependencyQueueModel", "isDigit", "()Z"⟩, 26) := ⟨⟨by decide +kernel, by decide +kernel⟩, List.mem_of_getElem? (i := 726) (by decide +kernel), List.mem_of_getElem? (i := 1064) (by decide +kernel), List.mem_of_getElem? (i := 1065) (by decide +kernel)⟩
theorem lw_p47 : lw_okq (⟨"DependencyQueueModel", "fails", "(I)V"⟩, 26) := ⟨⟨by decide +kernel, by decide +kernel⟩, List.mem_of_getElem? (i := 726) (by decide +kernel), List.mem_of_getElem? (i := 1068) (by decide +kernel), List.mem_of_getElem? (i := 1069) (by decide +kernel)⟩
def lw_privs_3 : List (MethodName × Nat) := [(⟨"DependencyQueueModel", "measure", "()V"⟩, 26), (⟨"DependencyQueueModel", "ownWork", "(I)I"⟩, 26), (⟨"DependencyQueueModel", "canReceive", "(I)Z"⟩, 26), (⟨"DependencyQueueModel", "rankOf", "(I)I"⟩, 26), (⟨"DependencyQueueModel", "isValid", "(II)Z"⟩, 26), (⟨"DependencyQueueModel", "comeBack", "(II)V"⟩, 26), (⟨"DependencyQueueModel", "layAhead", "()V"⟩, 26), (⟨"DependencyQueueModel", "planned", "(II)I"⟩, 26), (⟨"DependencyQueueModel", "possibleAt", "(II)I"⟩, 26), (⟨"DependencyQueueModel", "planRank", "(III)I"⟩, 26), (⟨"DependencyQueueModel", "isMatched", "(I)Z"⟩, 26), (⟨"DependencyQueueModel", "changePartners", "(II)V"⟩, 26), (⟨"DependencyQueueModel", "isLast", "(III)Z"⟩, 26), (⟨"DependencyQueueModel", "readItem", "()V"⟩, 26), (⟨"DependencyQueueModel", "isDigit", "()Z"⟩, 26), (⟨"DependencyQueueModel", "fails", "(I)V"⟩, 26)]
theorem lw_r3 : ∀ q ∈ lw_privs_3, lw_okq q := List.forall_mem_cons.mpr ⟨lw_p32, List.forall_mem_cons.mpr ⟨lw_p33, List.forall_mem_cons.mpr ⟨lw_p34, List.forall_mem_cons.mpr ⟨lw_p35, List.forall_mem_cons.mpr ⟨lw_p36, List.forall_mem_cons.mpr ⟨lw_p37, List.forall_mem_cons.mpr ⟨lw_p38, List.forall_mem_cons.mpr ⟨lw_p39, List.forall_mem_cons.mpr ⟨lw_p40, List.forall_mem_cons.mpr ⟨lw_p41, List.forall_mem_cons.mpr ⟨lw_p42, List.forall_mem_cons.mpr ⟨lw_p43, List.forall_mem_cons.mpr ⟨lw_p44, List.forall_mem_cons.mpr ⟨lw_p45, List.forall_mem_cons.mpr ⟨lw_p46, List.forall_mem_cons.mpr ⟨lw_p47, fun _ h => absurd h List.not_mem_nil⟩⟩⟩⟩⟩⟩⟩⟩⟩⟩⟩⟩⟩⟩⟩⟩
theorem lw_p48 : lw_okq (⟨"DependencyQueueModel", "number", "()I"⟩, 26) := ⟨⟨by decide +kernel, by decide +kernel⟩, List.mem_of_getElem? (i := 726) (by decide +kernel), List.mem_of_getElem? (i := 1072) (by decide +kernel), List.mem_of_getElem? (i := 1073) (by decide +kernel)⟩
def lw_privs_4 : List (MethodName × Nat) := [(⟨"DependencyQueueModel", "number", "()I"⟩, 26)]
theorem lw_r4 : ∀ q ∈ lw_privs_4, lw_okq q := List.forall_mem_cons.mpr ⟨lw_p48, fun _ h => absurd h List.not_mem_nil⟩
def lw_privs : List (MethodName × Nat) := lw_privs_1 ++ (lw_privs_2 ++ (lw_privs_3 ++ (lw_privs_4)))
def lw_tbl : List Cond := k2_sels lw_privs ++ tables_1
theorem lw_privs_ok : ∀ q ∈ lw_privs, lw_okq q := by
  show ∀ q ∈ lw_privs_1 ++ (lw_privs_2 ++ (lw_privs_3 ++ (lw_privs_4))), lw_okq q
  exact List.forall_mem_append.mpr ⟨lw_r1, List.forall_mem_append.mpr ⟨lw_r2, List.forall_mem_append.mpr ⟨lw_r3, lw_r4⟩⟩⟩
-- names: classes RXk, fields TXk, types tyXk, methods yX.., bytes cX.. (as printed)
def RX0 : String := "DependencyQueue$Bits"
def TX0 : u_T := fun k => match k with
  | _ => ("", "", "", false)
def tyX0 : Nat → FieldType := fun k => match k with
  | _ => .int
theorem nmX0 : ∀ a, a < 0 → ∀ b, b < 0 → a ≠ b → (TX0 a).2.1 ≠ (TX0 b).2.1 := by decide +kernel
theorem tyX0_ok : ∀ k, k < 0 → parseFieldDescriptor (TX0 k).2.2.1 = some (tyX0 k) := by decide +kernel
abbrev cX0_has : ByteArray := prog_2_method_2_code
def yX0_has : MethodName := ⟨RX0, "has", "(II)Z"⟩
def RX1 : String := "DependencyQueue$ChainCover"
def TX1 : u_T := fun k => match k with
  | 0 => ("DependencyQueue$ChainCover", "next", "[I", true)
  | 1 => ("DependencyQueue$ChainCover", "previous", "[I", true)
  | _ => ("DependencyQueue$ChainCover", "origin", "[I", true)
def tyX1 : Nat → FieldType := fun k => match k with
  | 0 => .array .int
  | 1 => .array .int
  | _ => .array .int
theorem nmX1 : ∀ a, a < 3 → ∀ b, b < 3 → a ≠ b → (TX1 a).2.1 ≠ (TX1 b).2.1 := by decide +kernel
theorem tyX1_ok : ∀ k, k < 3 → parseFieldDescriptor (TX1 k).2.2.1 = some (tyX1 k) := by decide +kernel
abbrev cX1_init : ByteArray := prog_3_method_1_code
def yX1_init : MethodName := ⟨RX1, "<init>", "()V"⟩
abbrev cX1_countPairs : ByteArray := prog_3_method_2_code
def yX1_countPairs : MethodName := ⟨RX1, "countPairs", "(I[I)I"⟩
abbrev cX1_findNext : ByteArray := prog_3_method_3_code
def yX1_findNext : MethodName := ⟨RX1, "findNext", "(II[I)Z"⟩
abbrev cX1_lowestOf : ByteArray := prog_3_method_4_code
def yX1_lowestOf : MethodName := ⟨RX1, "lowestOf", "(I)I"⟩
abbrev cX1_pairAlong : ByteArray := prog_3_method_5_code
def yX1_pairAlong : MethodName := ⟨RX1, "pairAlong", "(I)V"⟩
def RX2 : String := "DependencyQueue$OrderCount"
def TX2 : u_T := fun k => match k with
  | 0 => ("DependencyQueue$OrderCount", "ways", "[J", true)
  | 1 => ("DependencyQueue$OrderCount", "member", "[I", true)
  | _ => ("DependencyQueue$OrderCount", "need", "[I", true)
def tyX2 : Nat → FieldType := fun k => match k with
  | 0 => .array .long
  | 1 => .array .int
  | _ => .array .int
theorem nmX2 : ∀ a, a < 3 → ∀ b, b < 3 → a ≠ b → (TX2 a).2.1 ≠ (TX2 b).2.1 := by decide +kernel
theorem tyX2_ok : ∀ k, k < 3 → parseFieldDescriptor (TX2 k).2.2.1 = some (tyX2 k) := by decide +kernel
abbrev cX2_init : ByteArray := prog_4_method_1_code
def yX2_init : MethodName := ⟨RX2, "<init>", "()V"⟩
abbrev cX2_countFor : ByteArray := prog_4_method_2_code
def yX2_countFor : MethodName := ⟨RX2, "countFor", "(I[I)J"⟩
abbrev cX2_listMembers : ByteArray := prog_4_method_3_code
def yX2_listMembers : MethodName := ⟨RX2, "listMembers", "(I)I"⟩
abbrev cX2_listNeeds : ByteArray := prog_4_method_4_code
def yX2_listNeeds : MethodName := ⟨RX2, "listNeeds", "(I[I)V"⟩
abbrev cX2_goOnFrom : ByteArray := prog_4_method_5_code
def yX2_goOnFrom : MethodName := ⟨RX2, "goOnFrom", "(II)V"⟩
def RX3 : String := "DependencyQueue$Paths"
def TX3 : u_T := fun k => match k with
  | 0 => ("DependencyQueue$Paths", "queue", "LDependencyQueue$Queue;", true)
  | 1 => ("DependencyQueue$Paths", "beforeRow", "[I", true)
  | 2 => ("DependencyQueue$Paths", "heightRow", "[I", true)
  | _ => ("DependencyQueue$Paths", "leadRow", "[I", true)
def tyX3 : Nat → FieldType := fun k => match k with
  | 0 => .object "DependencyQueue$Queue"
  | 1 => .array .int
  | 2 => .array .int
  | _ => .array .int
theorem nmX3 : ∀ a, a < 4 → ∀ b, b < 4 → a ≠ b → (TX3 a).2.1 ≠ (TX3 b).2.1 := by decide +kernel
theorem tyX3_ok : ∀ k, k < 4 → parseFieldDescriptor (TX3 k).2.2.1 = some (tyX3 k) := by decide +kernel
abbrev cX3_init : ByteArray := prog_5_method_1_code
def yX3_init : MethodName := ⟨RX3, "<init>", "(LDependencyQueue$Queue;)V"⟩
abbrev cX3_beforeSets : ByteArray := prog_5_method_2_code
def yX3_beforeSets : MethodName := ⟨RX3, "beforeSets", "()[I"⟩
abbrev cX3_hasDetour : ByteArray := prog_5_method_3_code
def yX3_hasDetour : MethodName := ⟨RX3, "hasDetour", "(II)Z"⟩
abbrev cX3_heights : ByteArray := prog_5_method_4_code
def yX3_heights : MethodName := ⟨RX3, "heights", "()[I"⟩
abbrev cX3_raisePredecessors : ByteArray := prog_5_method_5_code
def yX3_raisePredecessors : MethodName := ⟨RX3, "raisePredecessors", "(I)Z"⟩
abbrev cX3_leads : ByteArray := prog_5_method_6_code
def yX3_leads : MethodName := ⟨RX3, "leads", "()[I"⟩
abbrev cX3_raiseLead : ByteArray := prog_5_method_7_code
def yX3_raiseLead : MethodName := ⟨RX3, "raiseLead", "(I)Z"⟩
def RX4 : String := "DependencyQueue$Plan"
def TX4 : u_T := fun k => match k with
  | 0 => ("DependencyQueue$Plan", "length", "I", false)
  | 1 => ("DependencyQueue$Plan", "start", "[I", true)
  | 2 => ("DependencyQueue$Plan", "end", "[I", true)
  | 3 => ("DependencyQueue$Plan", "since", "[I", true)
  | 4 => ("DependencyQueue$Plan", "unstarted", "I", false)
  | 5 => ("DependencyQueue$Plan", "startable", "I", false)
  | 6 => ("DependencyQueue$Plan", "running", "I", false)
  | _ => ("DependencyQueue$Plan", "free", "I", false)
def tyX4 : Nat → FieldType := fun k => match k with
  | 0 => .int
  | 1 => .array .int
  | 2 => .array .int
  | 3 => .array .int
  | 4 => .int
  | 5 => .int
  | 6 => .int
  | _ => .int
theorem nmX4 : ∀ a, a < 8 → ∀ b, b < 8 → a ≠ b → (TX4 a).2.1 ≠ (TX4 b).2.1 := by decide +kernel
theorem tyX4_ok : ∀ k, k < 8 → parseFieldDescriptor (TX4 k).2.2.1 = some (tyX4 k) := by decide +kernel
abbrev cX4_init : ByteArray := prog_6_method_1_code
def yX4_init : MethodName := ⟨RX4, "<init>", "()V"⟩
abbrev cX4_make : ByteArray := prog_6_method_2_code
def yX4_make : MethodName := ⟨RX4, "make", "(LDependencyQueue$Queue;[III)V"⟩
abbrev cX4_endCompleted : ByteArray := prog_6_method_3_code
def yX4_endCompleted : MethodName := ⟨RX4, "endCompleted", "(I)V"⟩
abbrev cX4_findStartable : ByteArray := prog_6_method_4_code
def yX4_findStartable : MethodName := ⟨RX4, "findStartable", "(LDependencyQueue$Queue;)V"⟩
abbrev cX4_startItems : ByteArray := prog_6_method_5_code
def yX4_startItems : MethodName := ⟨RX4, "startItems", "(LDependencyQueue$Queue;[II)V"⟩
abbrev cX4_bestStartable : ByteArray := prog_6_method_6_code
def yX4_bestStartable : MethodName := ⟨RX4, "bestStartable", "(LDependencyQueue$Queue;[II)I"⟩
abbrev cX4_nextEnd : ByteArray := prog_6_method_7_code
def yX4_nextEnd : MethodName := ⟨RX4, "nextEnd", "(I)I"⟩
def RX5 : String := "DependencyQueue$Queue"
def TX5 : u_T := fun k => match k with
  | 0 => ("DependencyQueue$Queue", "count", "I", false)
  | 1 => ("DependencyQueue$Queue", "now", "I", false)
  | 2 => ("DependencyQueue$Queue", "policy", "I", false)
  | 3 => ("DependencyQueue$Queue", "groupLimit", "I", false)
  | 4 => ("DependencyQueue$Queue", "receipts", "I", false)
  | 5 => ("DependencyQueue$Queue", "priority", "[I", true)
  | 6 => ("DependencyQueue$Queue", "work", "[I", true)
  | 7 => ("DependencyQueue$Queue", "attempts", "[I", true)
  | 8 => ("DependencyQueue$Queue", "group", "[I", true)
  | 9 => ("DependencyQueue$Queue", "delay", "[I", true)
  | 10 => ("DependencyQueue$Queue", "state", "[I", true)
  | 11 => ("DependencyQueue$Queue", "readyTime", "[I", true)
  | 12 => ("DependencyQueue$Queue", "readySince", "[I", true)
  | 13 => ("DependencyQueue$Queue", "deadline", "[I", true)
  | 14 => ("DependencyQueue$Queue", "receives", "[I", true)
  | 15 => ("DependencyQueue$Queue", "receipt", "[I", true)
  | 16 => ("DependencyQueue$Queue", "needDone", "[I", true)
  | _ => ("DependencyQueue$Queue", "needEnd", "[I", true)
def tyX5 : Nat → FieldType := fun k => match k with
  | 0 => .int
  | 1 => .int
  | 2 => .int
  | 3 => .int
  | 4 => .int
  | 5 => .array .int
  | 6 => .array .int
  | 7 => .array .int
  | 8 => .array .int
  | 9 => .array .int
  | 10 => .array .int
  | 11 => .array .int
  | 12 => .array .int
  | 13 => .array .int
  | 14 => .array .int
  | 15 => .array .int
  | 16 => .array .int
  | _ => .array .int
theorem nmX5 : ∀ a, a < 18 → ∀ b, b < 18 → a ≠ b → (TX5 a).2.1 ≠ (TX5 b).2.1 := by decide +kernel
theorem tyX5_ok : ∀ k, k < 18 → parseFieldDescriptor (TX5 k).2.2.1 = some (tyX5 k) := by decide +kernel
abbrev cX5_init : ByteArray := prog_7_method_1_code
def yX5_init : MethodName := ⟨RX5, "<init>", "()V"⟩
abbrev cX5_holds : ByteArray := prog_7_method_2_code
def yX5_holds : MethodName := ⟨RX5, "holds", "(I)Z"⟩
abbrev cX5_isFull : ByteArray := prog_7_method_3_code
def yX5_isFull : MethodName := ⟨RX5, "isFull", "()Z"⟩
abbrev cX5_hasEnded : ByteArray := prog_7_method_4_code
def yX5_hasEnded : MethodName := ⟨RX5, "hasEnded", "(I)Z"⟩
abbrev cX5_hasFailed : ByteArray := prog_7_method_5_code
def yX5_hasFailed : MethodName := ⟨RX5, "hasFailed", "(I)Z"⟩
abbrev cX5_followsEdges : ByteArray := prog_7_method_6_code
def yX5_followsEdges : MethodName := ⟨RX5, "followsEdges", "(I)Z"⟩
abbrev cX5_isValid : ByteArray := prog_7_method_7_code
def yX5_isValid : MethodName := ⟨RX5, "isValid", "(II)Z"⟩
abbrev cX5_workLeft : ByteArray := prog_7_method_8_code
def yX5_workLeft : MethodName := ⟨RX5, "workLeft", "(I)I"⟩
abbrev cX5_setIn : ByteArray := prog_7_method_9_code
def yX5_setIn : MethodName := ⟨RX5, "setIn", "(I)I"⟩
abbrev cX5_unendedSet : ByteArray := prog_7_method_10_code
def yX5_unendedSet : MethodName := ⟨RX5, "unendedSet", "()I"⟩
abbrev cX5_append : ByteArray := prog_7_method_11_code
def yX5_append : MethodName := ⟨RX5, "append", "(IIIII)I"⟩
abbrev cX5_startAnew : ByteArray := prog_7_method_12_code
def yX5_startAnew : MethodName := ⟨RX5, "startAnew", "(I)V"⟩
abbrev cX5_makeReady : ByteArray := prog_7_method_13_code
def yX5_makeReady : MethodName := ⟨RX5, "makeReady", "(II)V"⟩
abbrev cX5_removeItems : ByteArray := prog_7_method_14_code
def yX5_removeItems : MethodName := ⟨RX5, "removeItems", "()V"⟩
abbrev cX5_predecessors : ByteArray := prog_7_method_15_code
def yX5_predecessors : MethodName := ⟨RX5, "predecessors", "(I)I"⟩
abbrev cX5_edgeCount : ByteArray := prog_7_method_16_code
def yX5_edgeCount : MethodName := ⟨RX5, "edgeCount", "()I"⟩
abbrev cX5_edgeKind : ByteArray := prog_7_method_17_code
def yX5_edgeKind : MethodName := ⟨RX5, "edgeKind", "(II)I"⟩
abbrev cX5_putEdge : ByteArray := prog_7_method_18_code
def yX5_putEdge : MethodName := ⟨RX5, "putEdge", "(III)V"⟩
abbrev cX5_dropEdge : ByteArray := prog_7_method_19_code
def yX5_dropEdge : MethodName := ⟨RX5, "dropEdge", "(II)V"⟩
abbrev cX5_settle : ByteArray := prog_7_method_20_code
def yX5_settle : MethodName := ⟨RX5, "settle", "()V"⟩
abbrev cX5_settleItem : ByteArray := prog_7_method_21_code
def yX5_settleItem : MethodName := ⟨RX5, "settleItem", "(I)Z"⟩
abbrev cX5_stateByEdges : ByteArray := prog_7_method_22_code
def yX5_stateByEdges : MethodName := ⟨RX5, "stateByEdges", "(I)I"⟩
abbrev cX5_endAs : ByteArray := prog_7_method_23_code
def yX5_endAs : MethodName := ⟨RX5, "endAs", "(III)I"⟩
abbrev cX5_comeBack : ByteArray := prog_7_method_24_code
def yX5_comeBack : MethodName := ⟨RX5, "comeBack", "(II)V"⟩
abbrev cX5_passTick : ByteArray := prog_7_method_25_code
def yX5_passTick : MethodName := ⟨RX5, "passTick", "()I"⟩
abbrev cX5_rankFor : ByteArray := prog_7_method_26_code
def yX5_rankFor : MethodName := ⟨RX5, "rankFor", "(IIII)I"⟩
abbrev cX5_rankNow : ByteArray := prog_7_method_27_code
def yX5_rankNow : MethodName := ⟨RX5, "rankNow", "(II)I"⟩
abbrev cX5_nextToReceive : ByteArray := prog_7_method_28_code
def yX5_nextToReceive : MethodName := ⟨RX5, "nextToReceive", "([I)I"⟩
abbrev cX5_canBeReceived : ByteArray := prog_7_method_29_code
def yX5_canBeReceived : MethodName := ⟨RX5, "canBeReceived", "(I)Z"⟩
abbrev cX5_inFlightOf : ByteArray := prog_7_method_30_code
def yX5_inFlightOf : MethodName := ⟨RX5, "inFlightOf", "(I)I"⟩
abbrev cX5_takeOut : ByteArray := prog_7_method_31_code
def yX5_takeOut : MethodName := ⟨RX5, "takeOut", "(II)V"⟩
abbrev cX5_doomedBy : ByteArray := prog_7_method_32_code
def yX5_doomedBy : MethodName := ⟨RX5, "doomedBy", "(I)I"⟩
abbrev cX5_copyAll : ByteArray := prog_7_method_33_code
def yX5_copyAll : MethodName := ⟨RX5, "copyAll", "(LDependencyQueue$Queue;)V"⟩
abbrev cX5_copyItems : ByteArray := prog_7_method_34_code
def yX5_copyItems : MethodName := ⟨RX5, "copyItems", "(LDependencyQueue$Queue;)V"⟩
abbrev cX5_copyRow : ByteArray := prog_7_method_35_code
def yX5_copyRow : MethodName := ⟨RX5, "copyRow", "([I[I)V"⟩
def RX6 : String := "DependencyQueue$Text"
def TX6 : u_T := fun k => match k with
  | 0 => ("DependencyQueue$Text", "length", "I", false)
  | 1 => ("DependencyQueue$Text", "draft", "LDependencyQueue$Queue;", true)
  | 2 => ("DependencyQueue$Text", "codes", "[I", true)
  | _ => ("DependencyQueue$Text", "at", "I", false)
def tyX6 : Nat → FieldType := fun k => match k with
  | 0 => .int
  | 1 => .object "DependencyQueue$Queue"
  | 2 => .array .int
  | _ => .int
theorem nmX6 : ∀ a, a < 4 → ∀ b, b < 4 → a ≠ b → (TX6 a).2.1 ≠ (TX6 b).2.1 := by decide +kernel
theorem tyX6_ok : ∀ k, k < 4 → parseFieldDescriptor (TX6 k).2.2.1 = some (tyX6 k) := by decide +kernel
abbrev cX6_init : ByteArray := prog_8_method_1_code
def yX6_init : MethodName := ⟨RX6, "<init>", "()V"⟩
abbrev cX6_append : ByteArray := prog_8_method_2_code
def yX6_append : MethodName := ⟨RX6, "append", "(I)V"⟩
abbrev cX6_read : ByteArray := prog_8_method_3_code
def yX6_read : MethodName := ⟨RX6, "read", "()I"⟩
abbrev cX6_readItem : ByteArray := prog_8_method_4_code
def yX6_readItem : MethodName := ⟨RX6, "readItem", "()I"⟩
abbrev cX6_readEdges : ByteArray := prog_8_method_5_code
def yX6_readEdges : MethodName := ⟨RX6, "readEdges", "(I)I"⟩
abbrev cX6_readNumber : ByteArray := prog_8_method_6_code
def yX6_readNumber : MethodName := ⟨RX6, "readNumber", "()I"⟩
abbrev cX6_codeHere : ByteArray := prog_8_method_7_code
def yX6_codeHere : MethodName := ⟨RX6, "codeHere", "()I"⟩
abbrev cX6_isDigit : ByteArray := prog_8_method_8_code
def yX6_isDigit : MethodName := ⟨RX6, "isDigit", "(I)Z"⟩
def RX7 : String := "DependencyQueue$Witness"
def TX7 : u_T := fun k => match k with
  | 0 => ("DependencyQueue$Witness", "length", "I", false)
  | 1 => ("DependencyQueue$Witness", "path", "[I", true)
  | _ => ("DependencyQueue$Witness", "ring", "[I", true)
def tyX7 : Nat → FieldType := fun k => match k with
  | 0 => .int
  | 1 => .array .int
  | _ => .array .int
theorem nmX7 : ∀ a, a < 3 → ∀ b, b < 3 → a ≠ b → (TX7 a).2.1 ≠ (TX7 b).2.1 := by decide +kernel
theorem tyX7_ok : ∀ k, k < 3 → parseFieldDescriptor (TX7 k).2.2.1 = some (tyX7 k) := by decide +kernel
abbrev cX7_init : ByteArray := prog_9_method_1_code
def yX7_init : MethodName := ⟨RX7, "<init>", "()V"⟩
abbrev cX7_forget : ByteArray := prog_9_method_2_code
def yX7_forget : MethodName := ⟨RX7, "forget", "()V"⟩
abbrev cX7_remember : ByteArray := prog_9_method_3_code
def yX7_remember : MethodName := ⟨RX7, "remember", "(LDependencyQueue$Queue;II)V"⟩
abbrev cX7_drawRings : ByteArray := prog_9_method_4_code
def yX7_drawRings : MethodName := ⟨RX7, "drawRings", "(LDependencyQueue$Queue;II)I"⟩
abbrev cX7_predecessorsOfAll : ByteArray := prog_9_method_5_code
def yX7_predecessorsOfAll : MethodName := ⟨RX7, "predecessorsOfAll", "(LDependencyQueue$Queue;I)I"⟩
abbrev cX7_lowestSuccessor : ByteArray := prog_9_method_6_code
def yX7_lowestSuccessor : MethodName := ⟨RX7, "lowestSuccessor", "(LDependencyQueue$Queue;II)I"⟩
def RX8 : String := "DependencyQueue"
def TX8 : u_T := fun k => match k with
  | 0 => ("DependencyQueue", "queue", "LDependencyQueue$Queue;", true)
  | 1 => ("DependencyQueue", "saved", "[LDependencyQueue$Queue;", true)
  | 2 => ("DependencyQueue", "paths", "LDependencyQueue$Paths;", true)
  | 3 => ("DependencyQueue", "cyclePath", "LDependencyQueue$Witness;", true)
  | 4 => ("DependencyQueue", "plan", "LDependencyQueue$Plan;", true)
  | 5 => ("DependencyQueue", "cover", "LDependencyQueue$ChainCover;", true)
  | 6 => ("DependencyQueue", "orderCount", "LDependencyQueue$OrderCount;", true)
  | _ => ("DependencyQueue", "text", "LDependencyQueue$Text;", true)
def tyX8 : Nat → FieldType := fun k => match k with
  | 0 => .object "DependencyQueue$Queue"
  | 1 => .array (.object "DependencyQueue$Queue")
  | 2 => .object "DependencyQueue$Paths"
  | 3 => .object "DependencyQueue$Witness"
  | 4 => .object "DependencyQueue$Plan"
  | 5 => .object "DependencyQueue$ChainCover"
  | 6 => .object "DependencyQueue$OrderCount"
  | _ => .object "DependencyQueue$Text"
theorem nmX8 : ∀ a, a < 8 → ∀ b, b < 8 → a ≠ b → (TX8 a).2.1 ≠ (TX8 b).2.1 := by decide +kernel
theorem tyX8_ok : ∀ k, k < 8 → parseFieldDescriptor (TX8 k).2.2.1 = some (tyX8 k) := by decide +kernel
abbrev cX8_init : ByteArray := prog_1_method_1_code
def yX8_init : MethodName := ⟨RX8, "<init>", "()V"⟩
abbrev cX8_add : ByteArray := prog_1_method_2_code
def yX8_add : MethodName := ⟨RX8, "add", "(IIIII)I"⟩
abbrev cX8_link : ByteArray := prog_1_method_3_code
def yX8_link : MethodName := ⟨RX8, "link", "(III)I"⟩
abbrev cX8_witness : ByteArray := prog_1_method_4_code
def yX8_witness : MethodName := ⟨RX8, "witness", "(I)I"⟩
abbrev cX8_unlink : ByteArray := prog_1_method_5_code
def yX8_unlink : MethodName := ⟨RX8, "unlink", "(II)I"⟩
abbrev cX8_setPriority : ByteArray := prog_1_method_6_code
def yX8_setPriority : MethodName := ⟨RX8, "setPriority", "(II)I"⟩
abbrev cX8_setPolicy : ByteArray := prog_1_method_7_code
def yX8_setPolicy : MethodName := ⟨RX8, "setPolicy", "(I)I"⟩
abbrev cX8_setGroupLimit : ByteArray := prog_1_method_8_code
def yX8_setGroupLimit : MethodName := ⟨RX8, "setGroupLimit", "(I)I"⟩
abbrev cX8_clear : ByteArray := prog_1_method_9_code
def yX8_clear : MethodName := ⟨RX8, "clear", "()I"⟩
abbrev cX8_receive : ByteArray := prog_1_method_10_code
def yX8_receive : MethodName := ⟨RX8, "receive", "(I)I"⟩
abbrev cX8_receipt : ByteArray := prog_1_method_11_code
def yX8_receipt : MethodName := ⟨RX8, "receipt", "(I)I"⟩
abbrev cX8_finish : ByteArray := prog_1_method_12_code
def yX8_finish : MethodName := ⟨RX8, "finish", "(II)I"⟩
abbrev cX8_giveBack : ByteArray := prog_1_method_13_code
def yX8_giveBack : MethodName := ⟨RX8, "giveBack", "(III)I"⟩
abbrev cX8_extend : ByteArray := prog_1_method_14_code
def yX8_extend : MethodName := ⟨RX8, "extend", "(III)I"⟩
abbrev cX8_cancel : ByteArray := prog_1_method_15_code
def yX8_cancel : MethodName := ⟨RX8, "cancel", "(I)I"⟩
abbrev cX8_revive : ByteArray := prog_1_method_16_code
def yX8_revive : MethodName := ⟨RX8, "revive", "(I)I"⟩
abbrev cX8_tick : ByteArray := prog_1_method_17_code
def yX8_tick : MethodName := ⟨RX8, "tick", "(I)I"⟩
abbrev cX8_items : ByteArray := prog_1_method_18_code
def yX8_items : MethodName := ⟨RX8, "items", "()I"⟩
abbrev cX8_edges : ByteArray := prog_1_method_19_code
def yX8_edges : MethodName := ⟨RX8, "edges", "()I"⟩
abbrev cX8_time : ByteArray := prog_1_method_20_code
def yX8_time : MethodName := ⟨RX8, "time", "()I"⟩
abbrev cX8_state : ByteArray := prog_1_method_21_code
def yX8_state : MethodName := ⟨RX8, "state", "(I)I"⟩
abbrev cX8_itemsIn : ByteArray := prog_1_method_22_code
def yX8_itemsIn : MethodName := ⟨RX8, "itemsIn", "(I)I"⟩
abbrev cX8_property : ByteArray := prog_1_method_23_code
def yX8_property : MethodName := ⟨RX8, "property", "(II)I"⟩
abbrev cX8_edge : ByteArray := prog_1_method_24_code
def yX8_edge : MethodName := ⟨RX8, "edge", "(II)I"⟩
abbrev cX8_rank : ByteArray := prog_1_method_25_code
def yX8_rank : MethodName := ⟨RX8, "rank", "(I)I"⟩
abbrev cX8_height : ByteArray := prog_1_method_26_code
def yX8_height : MethodName := ⟨RX8, "height", "(I)I"⟩
abbrev cX8_before : ByteArray := prog_1_method_27_code
def yX8_before : MethodName := ⟨RX8, "before", "(I)I"⟩
abbrev cX8_wouldDoom : ByteArray := prog_1_method_28_code
def yX8_wouldDoom : MethodName := ⟨RX8, "wouldDoom", "(I)I"⟩
abbrev cX8_isSuperfluous : ByteArray := prog_1_method_29_code
def yX8_isSuperfluous : MethodName := ⟨RX8, "isSuperfluous", "(II)I"⟩
abbrev cX8_planLength : ByteArray := prog_1_method_30_code
def yX8_planLength : MethodName := ⟨RX8, "planLength", "(II)I"⟩
abbrev cX8_planStart : ByteArray := prog_1_method_31_code
def yX8_planStart : MethodName := ⟨RX8, "planStart", "(III)I"⟩
abbrev cX8_bestWorkers : ByteArray := prog_1_method_32_code
def yX8_bestWorkers : MethodName := ⟨RX8, "bestWorkers", "(I)I"⟩
abbrev cX8_slack : ByteArray := prog_1_method_33_code
def yX8_slack : MethodName := ⟨RX8, "slack", "(I)I"⟩
abbrev cX8_width : ByteArray := prog_1_method_34_code
def yX8_width : MethodName := ⟨RX8, "width", "()I"⟩
abbrev cX8_orders : ByteArray := prog_1_method_35_code
def yX8_orders : MethodName := ⟨RX8, "orders", "()J"⟩
abbrev cX8_write : ByteArray := prog_1_method_36_code
def yX8_write : MethodName := ⟨RX8, "write", "(I)I"⟩
abbrev cX8_wipe : ByteArray := prog_1_method_37_code
def yX8_wipe : MethodName := ⟨RX8, "wipe", "()I"⟩
abbrev cX8_fault : ByteArray := prog_1_method_38_code
def yX8_fault : MethodName := ⟨RX8, "fault", "()I"⟩
abbrev cX8_load : ByteArray := prog_1_method_39_code
def yX8_load : MethodName := ⟨RX8, "load", "()I"⟩
abbrev cX8_save : ByteArray := prog_1_method_40_code
def yX8_save : MethodName := ⟨RX8, "save", "(I)I"⟩
abbrev cX8_restore : ByteArray := prog_1_method_41_code
def yX8_restore : MethodName := ⟨RX8, "restore", "(I)I"⟩
abbrev cX8_isWithin : ByteArray := prog_1_method_42_code
def yX8_isWithin : MethodName := ⟨RX8, "isWithin", "(III)Z"⟩
def RX9 : String := "DependencyQueueModel"
def TX9 : u_T := fun k => match k with
  | 0 => ("DependencyQueueModel", "w", "[I", true)
  | 1 => ("DependencyQueueModel", "slots", "[I", true)
  | 2 => ("DependencyQueueModel", "filled", "I", false)
  | 3 => ("DependencyQueueModel", "path", "[I", true)
  | 4 => ("DependencyQueueModel", "pathLength", "I", false)
  | 5 => ("DependencyQueueModel", "text", "[I", true)
  | 6 => ("DependencyQueueModel", "length", "I", false)
  | 7 => ("DependencyQueueModel", "becameReady", "I", false)
  | 8 => ("DependencyQueueModel", "becameDoomed", "I", false)
  | 9 => ("DependencyQueueModel", "steps", "[I", true)
  | 10 => ("DependencyQueueModel", "heights", "[I", true)
  | 11 => ("DependencyQueueModel", "depths", "[I", true)
  | 12 => ("DependencyQueueModel", "ahead", "[I", true)
  | 13 => ("DependencyQueueModel", "startAt", "[I", true)
  | 14 => ("DependencyQueueModel", "endAt", "[I", true)
  | 15 => ("DependencyQueueModel", "partner", "[I", true)
  | 16 => ("DependencyQueueModel", "from", "[I", true)
  | 17 => ("DependencyQueueModel", "waits", "[I", true)
  | 18 => ("DependencyQueueModel", "ways", "[J", true)
  | 19 => ("DependencyQueueModel", "open", "[I", true)
  | 20 => ("DependencyQueueModel", "at", "I", false)
  | 21 => ("DependencyQueueModel", "wrong", "I", false)
  | 22 => ("DependencyQueueModel", "priorities", "[I", true)
  | 23 => ("DependencyQueueModel", "works", "[I", true)
  | 24 => ("DependencyQueueModel", "found", "[I", true)
  | _ => ("DependencyQueueModel", "described", "I", false)
def tyX9 : Nat → FieldType := fun k => match k with
  | 0 => .array .int
  | 1 => .array .int
  | 2 => .int
  | 3 => .array .int
  | 4 => .int
  | 5 => .array .int
  | 6 => .int
  | 7 => .int
  | 8 => .int
  | 9 => .array .int
  | 10 => .array .int
  | 11 => .array .int
  | 12 => .array .int
  | 13 => .array .int
  | 14 => .array .int
  | 15 => .array .int
  | 16 => .array .int
  | 17 => .array .int
  | 18 => .array .long
  | 19 => .array .int
  | 20 => .int
  | 21 => .int
  | 22 => .array .int
  | 23 => .array .int
  | 24 => .array .int
  | _ => .int
theorem nmX9 : ∀ a, a < 26 → ∀ b, b < 26 → a ≠ b → (TX9 a).2.1 ≠ (TX9 b).2.1 := by decide +kernel
theorem tyX9_ok : ∀ k, k < 26 → parseFieldDescriptor (TX9 k).2.2.1 = some (tyX9 k) := by decide +kernel
abbrev cX9_init : ByteArray := prog_11_method_1_code
def yX9_init : MethodName := ⟨RX9, "<init>", "()V"⟩
abbrev cX9_isIn : ByteArray := prog_11_method_2_code
def yX9_isIn : MethodName := ⟨RX9, "isIn", "(III)Z"⟩
abbrev cX9_isItem : ByteArray := prog_11_method_3_code
def yX9_isItem : MethodName := ⟨RX9, "isItem", "(I)Z"⟩
abbrev cX9_of : ByteArray := prog_11_method_4_code
def yX9_of : MethodName := ⟨RX9, "of", "(II)I"⟩
abbrev cX9_set : ByteArray := prog_11_method_5_code
def yX9_set : MethodName := ⟨RX9, "set", "(III)V"⟩
abbrev cX9_kindOf : ByteArray := prog_11_method_6_code
def yX9_kindOf : MethodName := ⟨RX9, "kindOf", "(II)I"⟩
abbrev cX9_hasEnded : ByteArray := prog_11_method_7_code
def yX9_hasEnded : MethodName := ⟨RX9, "hasEnded", "(I)Z"⟩
abbrev cX9_append : ByteArray := prog_11_method_8_code
def yX9_append : MethodName := ⟨RX9, "append", "(IIIII)I"⟩
abbrev cX9_due : ByteArray := prog_11_method_9_code
def yX9_due : MethodName := ⟨RX9, "due", "(I)I"⟩
abbrev cX9_becomesReady : ByteArray := prog_11_method_10_code
def yX9_becomesReady : MethodName := ⟨RX9, "becomesReady", "(II)V"⟩
abbrev cX9_settle : ByteArray := prog_11_method_11_code
def yX9_settle : MethodName := ⟨RX9, "settle", "()V"⟩
abbrev cX9_add : ByteArray := prog_11_method_12_code
def yX9_add : MethodName := ⟨RX9, "add", "(IIIII)I"⟩
abbrev cX9_measureTo : ByteArray := prog_11_method_13_code
def yX9_measureTo : MethodName := ⟨RX9, "measureTo", "(I)V"⟩
abbrev cX9_keepPath : ByteArray := prog_11_method_14_code
def yX9_keepPath : MethodName := ⟨RX9, "keepPath", "(II)V"⟩
abbrev cX9_link : ByteArray := prog_11_method_15_code
def yX9_link : MethodName := ⟨RX9, "link", "(III)I"⟩
abbrev cX9_witness : ByteArray := prog_11_method_16_code
def yX9_witness : MethodName := ⟨RX9, "witness", "(I)I"⟩
abbrev cX9_unlink : ByteArray := prog_11_method_17_code
def yX9_unlink : MethodName := ⟨RX9, "unlink", "(II)I"⟩
abbrev cX9_setPriority : ByteArray := prog_11_method_18_code
def yX9_setPriority : MethodName := ⟨RX9, "setPriority", "(II)I"⟩
abbrev cX9_setPolicy : ByteArray := prog_11_method_19_code
def yX9_setPolicy : MethodName := ⟨RX9, "setPolicy", "(I)I"⟩
abbrev cX9_setGroupLimit : ByteArray := prog_11_method_20_code
def yX9_setGroupLimit : MethodName := ⟨RX9, "setGroupLimit", "(I)I"⟩
abbrev cX9_clear : ByteArray := prog_11_method_21_code
def yX9_clear : MethodName := ⟨RX9, "clear", "()I"⟩
abbrev cX9_ownWork : ByteArray := prog_11_method_22_code
def yX9_ownWork : MethodName := ⟨RX9, "ownWork", "(I)I"⟩
abbrev cX9_measure : ByteArray := prog_11_method_23_code
def yX9_measure : MethodName := ⟨RX9, "measure", "()V"⟩
abbrev cX9_rankOf : ByteArray := prog_11_method_24_code
def yX9_rankOf : MethodName := ⟨RX9, "rankOf", "(I)I"⟩
abbrev cX9_canReceive : ByteArray := prog_11_method_25_code
def yX9_canReceive : MethodName := ⟨RX9, "canReceive", "(I)Z"⟩
abbrev cX9_receive : ByteArray := prog_11_method_26_code
def yX9_receive : MethodName := ⟨RX9, "receive", "(I)I"⟩
abbrev cX9_receipt : ByteArray := prog_11_method_27_code
def yX9_receipt : MethodName := ⟨RX9, "receipt", "(I)I"⟩
abbrev cX9_isValid : ByteArray := prog_11_method_28_code
def yX9_isValid : MethodName := ⟨RX9, "isValid", "(II)Z"⟩
abbrev cX9_finish : ByteArray := prog_11_method_29_code
def yX9_finish : MethodName := ⟨RX9, "finish", "(II)I"⟩
abbrev cX9_comeBack : ByteArray := prog_11_method_30_code
def yX9_comeBack : MethodName := ⟨RX9, "comeBack", "(II)V"⟩
abbrev cX9_giveBack : ByteArray := prog_11_method_31_code
def yX9_giveBack : MethodName := ⟨RX9, "giveBack", "(III)I"⟩
abbrev cX9_extend : ByteArray := prog_11_method_32_code
def yX9_extend : MethodName := ⟨RX9, "extend", "(III)I"⟩
abbrev cX9_cancel : ByteArray := prog_11_method_33_code
def yX9_cancel : MethodName := ⟨RX9, "cancel", "(I)I"⟩
abbrev cX9_revive : ByteArray := prog_11_method_34_code
def yX9_revive : MethodName := ⟨RX9, "revive", "(I)I"⟩
abbrev cX9_tick : ByteArray := prog_11_method_35_code
def yX9_tick : MethodName := ⟨RX9, "tick", "(I)I"⟩
abbrev cX9_items : ByteArray := prog_11_method_36_code
def yX9_items : MethodName := ⟨RX9, "items", "()I"⟩
abbrev cX9_edges : ByteArray := prog_11_method_37_code
def yX9_edges : MethodName := ⟨RX9, "edges", "()I"⟩
abbrev cX9_time : ByteArray := prog_11_method_38_code
def yX9_time : MethodName := ⟨RX9, "time", "()I"⟩
abbrev cX9_state : ByteArray := prog_11_method_39_code
def yX9_state : MethodName := ⟨RX9, "state", "(I)I"⟩
abbrev cX9_itemsIn : ByteArray := prog_11_method_40_code
def yX9_itemsIn : MethodName := ⟨RX9, "itemsIn", "(I)I"⟩
abbrev cX9_property : ByteArray := prog_11_method_41_code
def yX9_property : MethodName := ⟨RX9, "property", "(II)I"⟩
abbrev cX9_edge : ByteArray := prog_11_method_42_code
def yX9_edge : MethodName := ⟨RX9, "edge", "(II)I"⟩
abbrev cX9_rank : ByteArray := prog_11_method_43_code
def yX9_rank : MethodName := ⟨RX9, "rank", "(I)I"⟩
abbrev cX9_height : ByteArray := prog_11_method_44_code
def yX9_height : MethodName := ⟨RX9, "height", "(I)I"⟩
abbrev cX9_layAhead : ByteArray := prog_11_method_45_code
def yX9_layAhead : MethodName := ⟨RX9, "layAhead", "()V"⟩
abbrev cX9_before : ByteArray := prog_11_method_46_code
def yX9_before : MethodName := ⟨RX9, "before", "(I)I"⟩
abbrev cX9_wouldDoom : ByteArray := prog_11_method_47_code
def yX9_wouldDoom : MethodName := ⟨RX9, "wouldDoom", "(I)I"⟩
abbrev cX9_isSuperfluous : ByteArray := prog_11_method_48_code
def yX9_isSuperfluous : MethodName := ⟨RX9, "isSuperfluous", "(II)I"⟩
abbrev cX9_possibleAt : ByteArray := prog_11_method_49_code
def yX9_possibleAt : MethodName := ⟨RX9, "possibleAt", "(II)I"⟩
abbrev cX9_planRank : ByteArray := prog_11_method_50_code
def yX9_planRank : MethodName := ⟨RX9, "planRank", "(III)I"⟩
abbrev cX9_planned : ByteArray := prog_11_method_51_code
def yX9_planned : MethodName := ⟨RX9, "planned", "(II)I"⟩
abbrev cX9_planLength : ByteArray := prog_11_method_52_code
def yX9_planLength : MethodName := ⟨RX9, "planLength", "(II)I"⟩
abbrev cX9_planStart : ByteArray := prog_11_method_53_code
def yX9_planStart : MethodName := ⟨RX9, "planStart", "(III)I"⟩
abbrev cX9_bestWorkers : ByteArray := prog_11_method_54_code
def yX9_bestWorkers : MethodName := ⟨RX9, "bestWorkers", "(I)I"⟩
abbrev cX9_slack : ByteArray := prog_11_method_55_code
def yX9_slack : MethodName := ⟨RX9, "slack", "(I)I"⟩
abbrev cX9_isMatched : ByteArray := prog_11_method_56_code
def yX9_isMatched : MethodName := ⟨RX9, "isMatched", "(I)Z"⟩
abbrev cX9_changePartners : ByteArray := prog_11_method_57_code
def yX9_changePartners : MethodName := ⟨RX9, "changePartners", "(II)V"⟩
abbrev cX9_width : ByteArray := prog_11_method_58_code
def yX9_width : MethodName := ⟨RX9, "width", "()I"⟩
abbrev cX9_orders : ByteArray := prog_11_method_59_code
def yX9_orders : MethodName := ⟨RX9, "orders", "()J"⟩
abbrev cX9_isLast : ByteArray := prog_11_method_60_code
def yX9_isLast : MethodName := ⟨RX9, "isLast", "(III)Z"⟩
abbrev cX9_write : ByteArray := prog_11_method_61_code
def yX9_write : MethodName := ⟨RX9, "write", "(I)I"⟩
abbrev cX9_wipe : ByteArray := prog_11_method_62_code
def yX9_wipe : MethodName := ⟨RX9, "wipe", "()I"⟩
abbrev cX9_isDigit : ByteArray := prog_11_method_63_code
def yX9_isDigit : MethodName := ⟨RX9, "isDigit", "()Z"⟩
abbrev cX9_fails : ByteArray := prog_11_method_64_code
def yX9_fails : MethodName := ⟨RX9, "fails", "(I)V"⟩
abbrev cX9_number : ByteArray := prog_11_method_65_code
def yX9_number : MethodName := ⟨RX9, "number", "()I"⟩
abbrev cX9_readItem : ByteArray := prog_11_method_66_code
def yX9_readItem : MethodName := ⟨RX9, "readItem", "()V"⟩
abbrev cX9_fault : ByteArray := prog_11_method_67_code
def yX9_fault : MethodName := ⟨RX9, "fault", "()I"⟩
abbrev cX9_load : ByteArray := prog_11_method_68_code
def yX9_load : MethodName := ⟨RX9, "load", "()I"⟩
abbrev cX9_save : ByteArray := prog_11_method_69_code
def yX9_save : MethodName := ⟨RX9, "save", "(I)I"⟩
abbrev cX9_restore : ByteArray := prog_11_method_70_code
def yX9_restore : MethodName := ⟨RX9, "restore", "(I)I"⟩
def RJ6 : String := "java/lang/Integer"
abbrev cJ6_bitCount_0f7a4 : ByteArray := prog_12_method_49_code
def yJ6_bitCount_0f7a4 : MethodName := ⟨RJ6, "bitCount", "(I)I"⟩
def RJ9 : String := "java/lang/Math"
abbrev cJ9_max_7cf53 : ByteArray := prog_13_method_65_code
def yJ9_max_7cf53 : MethodName := ⟨RJ9, "max", "(II)I"⟩
def RJ10 : String := "java/lang/System"
abbrev cL_law : ByteArray := code
end
section
/-! the machine under a picture: cells by number, refs are 'B + number' -/
abbrev AE : Type := vp_A ⊕ (Nat × List Value)
abbrev HT : Type := Nat → Option AE
abbrev GC : Type := va_G × ClassId × ClassId × ClassId
abbrev ia (n : Nat) (f : Nat → Int32) : AE := .inl (n, .inl f)
abbrev la (n : Nat) (f : Nat → Int64) : AE := .inl (n, .inr (.inl f))
abbrev qa (n : Nat) (f : Nat → Option Nat) : AE := .inl (n, .inr (.inr (.inr (.inr f))))
abbrev ob (ci : Nat) (fs : List Value) : AE := .inr (ci, fs)
def cvE (G : GC) : AE → va_E
  | .inr o => .inr o
  | .inl (n, .inl f) => .inl (G.2.1, n, .inl f)
  | .inl (n, .inr (.inl f)) => .inl (G.2.2.1, n, .inr (.inl f))
  | .inl (n, .inr (.inr r)) => .inl (G.2.2.2, n, .inr (.inr r))
def wd (G : GC) (B n : Nat) (h : HT) : va_W := (List.range n).map fun k => (B + k, cvE G ((h k).getD (.inr (0, []))))
def hu (h : HT) (k : Nat) (e : AE) : HT := fun j => if j = k then some e else h j
theorem hu_s (h : HT) (k : Nat) (e : AE) : hu h k e k = some e := if_pos rfl
theorem hu_n (h : HT) (k : Nat) (e : AE) {j : Nat} (hj : j ≠ k) : hu h k e j = h j := if_neg hj
theorem wd_get {G : GC} {B n : Nat} {h : HT} {k : Nat} {e : AE} (hk : k < n) (he : h k = some e) : (wd G B n h)[k]? = some (B + k, cvE G e) := by
  simp [wd, hk, he]
theorem wd_set {G : GC} {B n : Nat} {h : HT} {k : Nat} {e : AE} : (wd G B n h).set k (B + k, cvE G e) = wd G B n (hu h k e) := by
  apply List.ext_getElem?
  intro j
  by_cases hj : j = k
  · subst hj
    by_cases hn : j < n
    · simp [wd, hn, hu_s]
    · simp [wd, hn]
  · rw [List.getElem?_set_ne (fun q => hj q.symm)]
    by_cases hn : j < n
    · simp [wd, hn, hu_n h k e hj]
    · simp [wd, hn]
theorem wd_push {G : GC} {B n : Nat} {h : HT} {e : AE} : wd G B n h ++ [(B + n, cvE G e)] = wd G B (n + 1) (hu h n e) := by
  unfold wd
  rw [List.range_succ, List.map_append]
  congr 1
  · apply List.map_congr_left
    intro k hk
    rw [hu_n h n e (Nat.ne_of_lt (List.mem_range.mp hk))]
  · simp [hu_s]
theorem wd_D {G : GC} {B n : Nat} {h : HT} : va_D (fun q => B ≤ q) (wd G B n h) := by
  refine ⟨fun i j p q hi hj hpq => ?_, fun k q hk => ?_⟩
  · unfold wd at hi hj
    rw [List.getElem?_map] at hi hj
    cases h1 : (List.range n)[i]? with
    | none => rw [h1] at hi; cases hi
    | some a =>
      cases h2 : (List.range n)[j]? with
      | none => rw [h2] at hj; cases hj
      | some b =>
        rw [h1] at hi; rw [h2] at hj
        have e1 : p.1 = B + a := by cases hi; rfl
        have e2 : q.1 = B + b := by cases hj; rfl
        have g1 : a = i := by
          obtain ⟨_, g⟩ := List.getElem?_eq_some_iff.mp h1
          rw [← g, List.getElem_range]
        have g2 : b = j := by
          obtain ⟨_, g⟩ := List.getElem?_eq_some_iff.mp h2
          rw [← g, List.getElem_range]
        omega
  · unfold wd at hk
    rw [List.getElem?_map] at hk
    cases h1 : (List.range n)[k]? with
    | none => rw [h1] at hk; cases hk
    | some a => rw [h1] at hk; cases hk; exact Nat.le_add_right _ _
def tysG (G : GC) : List (ClassId × FieldType) := [(G.2.1, .int), (G.2.2.1, .long), (G.2.2.2, .object "DependencyQueue$Queue")]
def HOk (n : Nat) (h : HT) : Prop := ∀ k, h k = none ↔ n ≤ k
theorem HOk.lt {n : Nat} {h : HT} (H : HOk n h) {k : Nat} {e : AE} (he : h k = some e) : k < n := Nat.not_le.mp fun q => by rw [(H k).mpr q] at he; cases he
theorem HOk.set {n : Nat} {h : HT} (H : HOk n h) {k : Nat} {e0 e : AE} (he : h k = some e0) : HOk n (hu h k e) := by
  intro j
  by_cases hj : j = k
  · subst hj
    rw [hu_s]
    have := H.lt he
    exact ⟨fun q => (by cases q), fun q => (by omega)⟩
  · rw [hu_n h k e hj]
    exact H j
theorem HOk.push {n : Nat} {h : HT} (H : HOk n h) {e : AE} : HOk (n + 1) (hu h n e) := by
  intro j
  by_cases hj : j = n
  · subst hj
    rw [hu_s]
    exact ⟨fun q => (by cases q), fun q => (by omega)⟩
  · rw [hu_n h n e hj]
    have := H j
    constructor
    · intro q
      have := this.mp q
      omega
    · intro q
      exact this.mpr (by omega)
/-! methods -/
abbrev MT : Type := Nat × MethodName × ByteArray × Nat × Option FieldType × Nat × Nat × Nat × List (Option Instr)
abbrev M_own (y : MT) : Nat := y.1
abbrev M_nm (y : MT) : MethodName := y.2.1
abbrev M_by (y : MT) : ByteArray := y.2.2.1
abbrev M_ml (y : MT) : Nat := y.2.2.2.1
abbrev M_rt (y : MT) : Option FieldType := y.2.2.2.2.1
abbrev M_np (y : MT) : Nat := y.2.2.2.2.2.1
abbrev M_fr (y : MT) : Nat := y.2.2.2.2.2.2.1
abbrev M_lo (y : MT) : Nat := y.2.2.2.2.2.2.2.1
abbrev M_tb (y : MT) : List (Option Instr) := y.2.2.2.2.2.2.2.2
def lk : List (Option Instr) → Nat → Option Instr
  | [], _ => none
  | a :: _, 0 => a
  | _ :: l, n + 1 => lk l n
theorem lk_get (l : List (Option Instr)) (n : Nat) (i : Instr) (h : lk l n = some i) : n < l.length := by
  induction l generalizing n with
  | nil => cases h
  | cons a l ih =>
    cases n with
    | zero => simp
    | succ n => have := ih n h; simp; omega
/-- how long an instruction is; 0: it differs -/
def ilen : Instr → Nat
  | .tableswitch .. => 0
  | .bipush _ => 2 | .iload _ => 2 | .istore _ => 2 | .aload _ => 2 | .astore _ => 2 | .newarray _ => 2
  | .sipush _ => 3 | .iinc .. => 3 | .goto _ => 3 | .if_icmp .. => 3 | .ifCond .. => 3 | .ifnonnull _ => 3 | .getfield _ => 3 | .putfield _ => 3
  | .invokevirtual _ => 3 | .invokestatic _ => 3 | .invokespecial _ => 3 | .new _ => 3 | .anewarray _ => 3 | .ldc2_w _ => 3 | .ldc_w _ => 3
  | _ => 1
def TbOk (y : MT) : Prop := ∀ pc i, lk (M_tb y) pc = some i → ∃ len, decode (M_by y) pc = .ok (i, len) ∧ (ilen i = 0 ∨ len = ilen i)
theorem TbOk.at {y : MT} (h : TbOk y) {pc L : Nat} {i : Instr} (hd : lk (M_tb y) pc = some i) (hl : ilen i = L + 1) : decode (M_by y) pc = .ok (i, L + 1) := by
  obtain ⟨len, h1, h2⟩ := h pc i hd
  rw [hl] at h2
  rcases h2 with h2 | h2
  · cases h2
  · rw [h1, h2]
def chkT (b : ByteArray) (tb : List (Option Instr)) : Bool := (List.range tb.length).all fun pc => match lk tb pc with
  | none => true
  | some i => match decode b pc with
    | .ok (j, len) => decide (j = i) && (ilen i == 0 || len == ilen i)
    | .error _ => false
theorem TbOk_of {y : MT} (h : chkT (M_by y) (M_tb y) = true) : TbOk y := by
  intro pc i hi
  have h1 := List.all_eq_true.mp h pc (List.mem_range.mpr (lk_get _ _ _ hi))
  rw [hi] at h1
  dsimp only at h1
  split at h1
  next j len hd =>
    simp only [Bool.and_eq_true, decide_eq_true_eq, Bool.or_eq_true, beq_iff_eq] at h1
    obtain ⟨rfl, h3⟩ := h1
    exact ⟨len, hd, h3⟩
  next => cases h1
/-! what the tables say -/
def tW : List Cond := lw_tbl.filter goodWord
theorem tW_in {w : Cond} (h : w ∈ lw_tbl) (g : goodWord w = true) : w ∈ tW := List.mem_filter.mpr ⟨h, g⟩
theorem tW_good : GoodIn tW tW := fun w h => ⟨h, good_of_word (List.mem_filter.mp h).2⟩
def nstL : List (String × Nat × MethodName × String) := [("DependencyQueue", 9, yX5_init, "DependencyQueue"), ("DependencyQueue", 31, yX7_init, "DependencyQueue"), ("DependencyQueue", 38, yX4_init, "DependencyQueue"), ("DependencyQueue", 45, yX1_init, "DependencyQueue"), ("DependencyQueue", 52, yX2_init, "DependencyQueue"), ("DependencyQueue", 59, yX6_init, "DependencyQueue"), ("DependencyQueue$Text", 17, yX5_init, "DependencyQueue"), ("DependencyQueue$Text", 50, yX8_isWithin, "DependencyQueue")]
def XW (s : State) : Prop := (∀ q ∈ nstL, va_Nw (.methodLinkNest q.1 q.2.1 q.2.2.1 q.2.2.2) s) ∧ va_AO "DependencyQueue$Queue" s
theorem XW.moved {s U : State} (hW : s.WarmedH U.vm) (h : XW s) : XW U := ⟨fun q hq => va_Nw.warmM hW (h.1 q hq), va_AO.moved hW.alike h.2⟩
abbrev clG : List vw_C := [(RX0, TX0, 0), (RX1, TX1, 3), (RX2, TX2, 3), (RX3, TX3, 4), (RX4, TX4, 8), (RX5, TX5, 18), (RX6, TX6, 4), (RX7, TX7, 3), (RX8, TX8, 8), (RX9, TX9, 26)]
/-- the types of the fields, class by class -/
def tyG : Nat → Nat → FieldType := fun c => match c with
  | 0 => tyX0 | 1 => tyX1 | 2 => tyX2 | 3 => tyX3 | 4 => tyX4 | 5 => tyX5 | 6 => tyX6 | 7 => tyX7 | 8 => tyX8 | _ => tyX9
def CO (ci : Nat) (q : vw_C) : Prop := (∀ w ∈ u_ws q.1 q.2.1 q.2.2, w ∈ tW) ∧ (∀ k, k < q.2.2 → parseFieldDescriptor (q.2.1 k).2.2.1 = some (tyG ci k)) ∧ (∀ a, a < q.2.2 → ∀ b, b < q.2.2 → a ≠ b → (q.2.1 a).2.1 ≠ (q.2.1 b).2.1)
def FLc (own idx ci k : Nat) : Prop := ∃ q o : vw_C, clG[ci]? = some q ∧ clG[own]? = some o ∧ k < q.2.2 ∧ Cond.fieldLink o.1 idx (q.2.1 k).1 (q.2.1 k).2.1 (q.2.1 k).2.2.1 ∈ tW
def MOk (y : MT) : Prop := TbOk y ∧ plainName (M_nm y).cls = true ∧ Cond.code (M_nm y) (M_by y) (M_ml y) (M_rt y) ∈ tW ∧ ((M_nm y).cls ≠ "java/lang/invoke/MethodHandle" ∧ (M_nm y).cls ≠ "java/lang/invoke/VarHandle") ∧ Cond.initialized (M_nm y).cls ∈ tW ∧ (parseMethodDescriptor (M_nm y).desc).map (fun d => d.parameters.length) = some (M_np y)
end
section
/-! the judgement: from pc on, with these locals, stack and cells, the method ends, and 'post' holds of its answer and its cells -/
def PicJ (G : GC) (B n : Nat) (h : HT) (H : Heap) : Prop := va_P G.1 clG (wd G B n h) H ∧ H.size = B + n ∧ HOk n h
def QJ (G : GC) (B : Nat) (post : Option Value → Nat → HT → Prop) : Array Value → State → Outcome → State → Prop := fun _ st o t =>
  ∃ (r : Option Value) (n : Nat) (h : HT), o = .returned r ∧ post r n h ∧ PicJ G B n h t.heap ∧ st.heap.size ≤ t.heap.size ∧ ∀ q : Nat, q < B → t.heap[q]? = st.heap[q]?
def lvl (ls : Array Slot) (nL : Nat) (lv : List (Option Value)) : Prop := ls.size = nL ∧ lv_wf ls ∧ lv.length = nL ∧ ∀ (i : Nat) (v : Value), lv[i]? = some (some v) → ls[i]? = some (.val v) ∧ v.category = 1
def CxJ (X : State → Prop) (G : GC) (B : Nat) (y : MT) (p : Program) (R : Room) (s : State) (m : MethodId) (args : Array Value) (meth : Method) (c : Code) : Prop :=
  p.tables.exec = Jvm.exec ∧ c.code = M_by y ∧ meth.sig.returnType = M_rt y ∧ c.maxLocals = M_ml y ∧ s.vm.findClass (M_nm y).cls = some m.cls ∧ (∀ w ∈ tW, w.before args s = true) ∧ meth.locks = false ∧ meth.name = (M_nm y).name ∧ va_K G.1 clG (tysG G) s ∧ B ≤ s.heap.size ∧ M_fr y ≤ R.frames ∧ M_lo y ≤ R.locals ∧ TbOk y ∧ XW s ∧ X s ∧ (∀ ci q, clG[ci]? = some q → CO ci q) ∧ ∀ o, clG[M_own y]? = some o → o.1 = (M_nm y).cls
def JJ (X : State → Prop) (G : GC) (B : Nat) (y : MT) (pc : Nat) (lv : List (Option Value)) (st : List Value) (n : Nat) (h : HT) (kc ks : Nat) (post : Option Value → Nat → HT → Prop) : Prop :=
  ∀ (p : Program) (l : Launch) (e : Env) (R : Room) (s : State) (m : MethodId) (args : Array Value) (below : List Frame) (meth : Method) (c : Code) (H : Heap) (locs : List Loc) (cells slots : Nat) (ls : Array Slot) (mc ms : Nat),
    CxJ X G B y p R s m args meth c → PicJ G B n h H → va_S (fun q => B ≤ q) s.heap H locs → lvl ls (M_ml y) lv → cells + kc ≤ mc → slots + ks ≤ ms → mc ≤ R.cells → ms ≤ R.slots →
      W p l e R s m args below meth c H locs cells slots (MQ below (QJ G B post) args s mc ms (fun q => B ≤ q)) (F0 m pc ls st)
/-- no more is asked of the start -/
abbrev X0 : State → Prop := fun _ => True
def lpre (lv : List (Option Value)) : List (Nat × Value) := (List.range lv.length).filterMap fun i => match lv[i]? with
  | some (some v) => some (i, v)
  | _ => none
theorem lpre_mem {lv : List (Option Value)} {i : Nat} {v : Value} : (i, v) ∈ lpre lv ↔ lv[i]? = some (some v) := by
  unfold lpre
  rw [List.mem_filterMap]
  constructor
  · rintro ⟨a, -, ha⟩
    split at ha
    next w hw => cases ha; exact hw
    next => cases ha
  · intro h
    refine ⟨i, List.mem_range.mpr (List.getElem?_eq_some_iff.mp h).1, ?_⟩
    rw [h]
theorem lvl.has {ls : Array Slot} {nL : Nat} {lv : List (Option Value)} (h : lvl ls nL lv) : lv_has ls nL (lpre lv) := ⟨h.1, h.2.1, fun q hq => (h.2.2.2 q.1 q.2 (lpre_mem.mp hq)).1⟩
theorem lvl.store {ls ls' : Array Slot} {nL : Nat} {lv : List (Option Value)} {i : Nat} {v : Value} (h : lvl ls nL lv) (hc : v.category = 1) (hi : i < nL) (h' : lv_has ls' nL ((i, v) :: (lpre lv).filter (fun q => !(q.1 == i) && !(q.1 + 1 == i && q.2.category == 2)))) : lvl ls' nL (lv.set i (some v)) := by
  refine ⟨h'.1, h'.2.1, by rw [List.length_set]; exact h.2.2.1, fun j w hj => ?_⟩
  by_cases hji : j = i
  · subst hji
    rw [List.getElem?_set_self (by rw [h.2.2.1]; exact hi)] at hj
    cases hj
    exact ⟨h'.2.2 (j, v) List.mem_cons_self, hc⟩
  · rw [List.getElem?_set_ne (fun q => hji q.symm)] at hj
    have g := h.2.2.2 j w hj
    refine ⟨h'.2.2 (j, w) (List.mem_cons_of_mem _ (List.mem_filter.mpr ⟨lpre_mem.mpr hj, ?_⟩)), g.2⟩
    simp [hji, g.2]
theorem lvl.entry (vs : List Value) {n : Nat} (hn : vs.length ≤ n) (hc : ∀ v ∈ vs, v.category = 1) : lvl ((lg_sl vs ++ List.replicate (n - (lg_sl vs).length) Slot.unset).toArray) n (vs.map some ++ List.replicate (n - vs.length) none) := by
  have e : ∀ l : List Value, (∀ v ∈ l, v.category = 1) → lg_sl l = l.map Slot.val := by
    intro l hl
    induction l with
    | nil => rfl
    | cons a l ih =>
      have ha : ¬ a.category = 2 := by rw [hl a List.mem_cons_self]; decide
      show (if a.category = 2 then [Slot.val a, .second] else [Slot.val a]) ++ lg_sl l = _
      rw [if_neg ha, ih (fun v hv => hl v (List.mem_cons_of_mem _ hv))]
      rfl
  have hlen : (lg_sl vs).length = vs.length := by rw [e vs hc, List.length_map]
  obtain ⟨h1, h2, h3⟩ := lv_entry vs (n := n) (by rw [hlen]; exact hn)
  refine ⟨h1, h2, by simp; omega, fun i v hi => ?_⟩
  by_cases hl : i < vs.length
  · rw [List.getElem?_append_left (by rw [List.length_map]; exact hl), List.getElem?_map] at hi
    cases hv : vs[i]? with
    | none => rw [hv] at hi; cases hi
    | some w =>
      rw [hv] at hi
      cases hi
      refine ⟨?_, hc _ (List.mem_of_getElem? hv)⟩
      rw [e vs hc, List.getElem?_toArray, List.getElem?_append_left (by rw [List.length_map]; exact hl), List.getElem?_map, hv]
      rfl
  · rw [List.getElem?_append_right (by rw [List.length_map]; omega)] at hi
    rw [List.getElem?_replicate] at hi
    split at hi <;> cases hi
/-- what an instruction does that touches no cell -/
def stp (ins : Instr) (pc : Nat) (lv : List (Option Value)) (st : List Value) : Option (Nat × List (Option Value) × List Value) :=
  match ins with
  | .iconst n => some (pc + 1, lv, .int (Int32.ofInt n) :: st)
  | .bipush n => some (pc + 2, lv, .int ((Int8.ofInt n).toInt32) :: st)
  | .sipush n => some (pc + 3, lv, .int ((Int16.ofInt n).toInt32) :: st)
  | .lconst n => some (pc + 1, lv, .long (Int64.ofNat (n : Nat)) :: st)
  | .iload_n k => match lv[(k : Nat)]? with
    | some (some (.int x)) => some (pc + 1, lv, .int x :: st)
    | _ => none
  | .iload k => match lv[k]? with
    | some (some (.int x)) => some (pc + 2, lv, .int x :: st)
    | _ => none
  | .aload_n k => match lv[(k : Nat)]? with
    | some (some (.ref x)) => some (pc + 1, lv, .ref x :: st)
    | _ => none
  | .aload k => match lv[k]? with
    | some (some (.ref x)) => some (pc + 2, lv, .ref x :: st)
    | _ => none
  | .istore_n k => match st, lv[(k : Nat)]? with
    | .int x :: r, some _ => some (pc + 1, lv.set (k : Nat) (some (.int x)), r)
    | _, _ => none
  | .istore k => match st, lv[k]? with
    | .int x :: r, some _ => some (pc + 2, lv.set k (some (.int x)), r)
    | _, _ => none
  | .astore_n k => match st, lv[(k : Nat)]? with
    | .ref x :: r, some _ => some (pc + 1, lv.set (k : Nat) (some (.ref x)), r)
    | _, _ => none
  | .astore k => match st, lv[k]? with
    | .ref x :: r, some _ => some (pc + 2, lv.set k (some (.ref x)), r)
    | _, _ => none
  | .iinc k c => match lv[k]? with
    | some (some (.int x)) => some (pc + 3, lv.set k (some (.int (x + Int32.ofInt c))), st)
    | _ => none
  | .iadd => match st with
    | .int y :: .int x :: r => some (pc + 1, lv, .int (x + y) :: r)
    | _ => none
  | .isub => match st with
    | .int y :: .int x :: r => some (pc + 1, lv, .int (x - y) :: r)
    | _ => none
  | .imul => match st with
    | .int y :: .int x :: r => some (pc + 1, lv, .int (x * y) :: r)
    | _ => none
  | .iand => match st with
    | .int y :: .int x :: r => some (pc + 1, lv, .int (x &&& y) :: r)
    | _ => none
  | .ior => match st with
    | .int y :: .int x :: r => some (pc + 1, lv, .int (x ||| y) :: r)
    | _ => none
  | .ixor => match st with
    | .int y :: .int x :: r => some (pc + 1, lv, .int (x ^^^ y) :: r)
    | _ => none
  | .ishl => match st with
    | .int y :: .int x :: r => some (pc + 1, lv, .int (x <<< (y &&& 31)) :: r)
    | _ => none
  | .ishr => match st with
    | .int y :: .int x :: r => some (pc + 1, lv, .int (x >>> (y &&& 31)) :: r)
    | _ => none
  | .iushr => match st with
    | .int y :: .int x :: r => some (pc + 1, lv, .int ((x.toUInt32 >>> (y.toUInt32 &&& Int32.toUInt32 31)).toInt32) :: r)
    | _ => none
  | .ladd => match st with
    | .long y :: .long x :: r => some (pc + 1, lv, .long (x + y) :: r)
    | _ => none
  | .dup => match st with
    | .int x :: r => some (pc + 1, lv, .int x :: .int x :: r)
    | .ref x :: r => some (pc + 1, lv, .ref x :: .ref x :: r)
    | _ => none
  | .dup2 => match st with
    | .int y :: .ref x :: r => some (pc + 1, lv, .int y :: .ref x :: .int y :: .ref x :: r)
    | _ => none
  | .goto off => match (pc : Int) + off with
    | .ofNat t => some (t, lv, st)
    | _ => none
  | _ => none
theorem jj_s {X : State → Prop} {G : GC} {B : Nat} {y : MT} {pc : Nat} {lv : List (Option Value)} {st : List Value} {n : Nat} {h : HT} {kc ks : Nat} {post : Option Value → Nat → HT → Prop} {ins : Instr} {pc' : Nat} {lv' : List (Option Value)} {st' : List Value}
    (hd : lk (M_tb y) pc = some ins) (hs : stp ins pc lv st = some (pc', lv', st')) (k : JJ X G B y pc' lv' st' n h kc ks post) : JJ X G B y pc lv st n h kc ks post := by
  intro p l e R s m args below meth c H locs cells slots ls mc ms C P S L k1 k2 k3 k4
  have K := fun ls' L' => k p l e R s m args below meth c H locs cells slots ls' mc ms C P S L' k1 k2 k3 k4
  obtain ⟨hx, hb, hr, hml, hown, hts, hlk, hnm, hK, hB, hfr, hlo, hT, hXW, hX, hCO, ho⟩ := C
  cases ins <;> simp only [stp] at hs <;> first | (cases hs; done) | skip
  case aload k =>
    split at hs
    next x hv => cases hs; exact lv_aload hx hb (hT.at hd rfl) (L.2.2.2 _ _ hv).1 (K ls L)
    next => cases hs
  case aload_n k =>
    split at hs
    next x hv => cases hs; exact lv_aload_n hx hb (hT.at hd rfl) rfl (L.2.2.2 _ _ hv).1 (K ls L)
    next => cases hs
  case astore k =>
    split at hs
    next x r w hv => cases hs; have hn := (List.getElem?_eq_some_iff.mp hv).1; rw [L.2.2.1] at hn; exact lv_astore hx hb (hT.at hd rfl) L.has hn rfl (fun ls' h' => K ls' (L.store rfl hn h'))
    next => cases hs
  case astore_n k =>
    split at hs
    next x r w hv => cases hs; have hn := (List.getElem?_eq_some_iff.mp hv).1; rw [L.2.2.1] at hn; exact lv_astore_n hx hb (hT.at hd rfl) rfl L.has hn rfl (fun ls' h' => K ls' (L.store rfl hn h'))
    next => cases hs
  case bipush k => cases hs; exact lv_bipush hx hb (hT.at hd rfl) rfl (K ls L)
  case dup =>
    split at hs
    next => cases hs; exact lv_dup hx hb (hT.at hd rfl) rfl (K ls L)
    next => cases hs; exact lv_dup hx hb (hT.at hd rfl) rfl (K ls L)
    next => cases hs
  case dup2 =>
    split at hs
    next => cases hs; exact lv_dup2_11 hx hb (hT.at hd rfl) rfl rfl (K ls L)
    next => cases hs
  case goto off =>
    split at hs
    next t ht => cases hs; exact lv_goto hx hb (hT.at hd rfl) ht (K ls L)
    next => cases hs
  case iadd =>
    split at hs
    next => cases hs; exact lv_iadd hx hb (hT.at hd rfl) (K ls L)
    next => cases hs
  case iand =>
    split at hs
    next => cases hs; exact lv_iand hx hb (hT.at hd rfl) (K ls L)
    next => cases hs
  case iconst k => cases hs; exact lv_iconst hx hb (hT.at hd rfl) rfl (K ls L)
  case iinc k c =>
    split at hs
    next x hv =>
      cases hs
      have hn := (List.getElem?_eq_some_iff.mp hv).1
      rw [L.2.2.1] at hn
      obtain ⟨j, hj⟩ := List.getElem?_of_mem (lpre_mem.mpr hv)
      exact lv_iinc hx hb (hT.at hd rfl) L.has hj rfl hn rfl (fun ls' h' => K ls' (L.store rfl hn h'))
    next => cases hs
  case iload k =>
    split at hs
    next x hv => cases hs; exact lv_iload hx hb (hT.at hd rfl) (L.2.2.2 _ _ hv).1 (K ls L)
    next => cases hs
  case iload_n k =>
    split at hs
    next x hv => cases hs; exact lv_iload_n hx hb (hT.at hd rfl) rfl (L.2.2.2 _ _ hv).1 (K ls L)
    next => cases hs
  case imul =>
    split at hs
    next => cases hs; exact lv_imul hx hb (hT.at hd rfl) (K ls L)
    next => cases hs
  case ior =>
    split at hs
    next => cases hs; exact lv_ior hx hb (hT.at hd rfl) (K ls L)
    next => cases hs
  case ishl =>
    split at hs
    next => cases hs; exact lv_ishl hx hb (hT.at hd rfl) (K ls L)
    next => cases hs
  case ishr =>
    split at hs
    next => cases hs; exact lv_ishr hx hb (hT.at hd rfl) (K ls L)
    next => cases hs
  case istore k =>
    split at hs
    next x r w hv => cases hs; have hn := (List.getElem?_eq_some_iff.mp hv).1; rw [L.2.2.1] at hn; exact lv_istore hx hb (hT.at hd rfl) L.has hn rfl (fun ls' h' => K ls' (L.store rfl hn h'))
    next => cases hs
  case istore_n k =>
    split at hs
    next x r w hv => cases hs; have hn := (List.getElem?_eq_some_iff.mp hv).1; rw [L.2.2.1] at hn; exact lv_istore_n hx hb (hT.at hd rfl) rfl L.has hn rfl (fun ls' h' => K ls' (L.store rfl hn h'))
    next => cases hs
  case isub =>
    split at hs
    next => cases hs; exact lv_isub hx hb (hT.at hd rfl) (K ls L)
    next => cases hs
  case iushr =>
    split at hs
    next => cases hs; exact lv_iushr hx hb (hT.at hd rfl) rfl (K ls L)
    next => cases hs
  case ixor =>
    split at hs
    next => cases hs; exact lv_ixor hx hb (hT.at hd rfl) (K ls L)
    next => cases hs
  case ladd =>
    split at hs
    next => cases hs; exact lv_ladd hx hb (hT.at hd rfl) (K ls L)
    next => cases hs
  case lconst k => cases hs; exact lv_lconst hx hb (hT.at hd rfl) rfl (K ls L)
  case sipush k => cases hs; exact lv_sipush hx hb (hT.at hd rfl) rfl (K ls L)
end
section
theorem jj_icmp_eq {X : State → Prop} {G : GC} {B : Nat} {y : MT} {pc : Nat} {lv : List (Option Value)} {st : List Value} {n : Nat} {h : HT} {kc ks : Nat} {post : Option Value → Nat → HT → Prop} {x w : Int32} {off : Int} (tgt : Nat) (hd : lk (M_tb y) pc = some (.if_icmp .eq off)) (ht : (pc : Int) + off = (tgt : Int))
    (kt : x = w → JJ X G B y tgt lv st n h kc ks post) (kf : ¬ x = w → JJ X G B y (pc + 3) lv st n h kc ks post) : JJ X G B y pc lv (.int w :: .int x :: st) n h kc ks post := by
  intro p l e R s m args below meth c H locs cells slots ls mc ms C P S L k1 k2 k3 k4
  have C0 := C
  obtain ⟨hx, hb, hr, hml, hown, hts, hlk, hnm, hK, hB, hfr, hlo, hT, hXW, hX, hCO, ho⟩ := C
  exact lv_icmp_eq hx hb (hT.at hd rfl) ht (fun q => kt q p l e R s m args below meth c H locs cells slots ls mc ms C0 P S L k1 k2 k3 k4) (fun q => kf q p l e R s m args below meth c H locs cells slots ls mc ms C0 P S L k1 k2 k3 k4)
theorem jj_icmp_ne {X : State → Prop} {G : GC} {B : Nat} {y : MT} {pc : Nat} {lv : List (Option Value)} {st : List Value} {n : Nat} {h : HT} {kc ks : Nat} {post : Option Value → Nat → HT → Prop} {x w : Int32} {off : Int} (tgt : Nat) (hd : lk (M_tb y) pc = some (.if_icmp .ne off)) (ht : (pc : Int) + off = (tgt : Int))
    (kt : ¬ x = w → JJ X G B y tgt lv st n h kc ks post) (kf : x = w → JJ X G B y (pc + 3) lv st n h kc ks post) : JJ X G B y pc lv (.int w :: .int x :: st) n h kc ks post := by
  intro p l e R s m args below meth c H locs cells slots ls mc ms C P S L k1 k2 k3 k4
  have C0 := C
  obtain ⟨hx, hb, hr, hml, hown, hts, hlk, hnm, hK, hB, hfr, hlo, hT, hXW, hX, hCO, ho⟩ := C
  exact lv_icmp_ne hx hb (hT.at hd rfl) ht (fun q => kt q p l e R s m args below meth c H locs cells slots ls mc ms C0 P S L k1 k2 k3 k4) (fun q => kf q p l e R s m args below meth c H locs cells slots ls mc ms C0 P S L k1 k2 k3 k4)
theorem jj_icmp_lt {X : State → Prop} {G : GC} {B : Nat} {y : MT} {pc : Nat} {lv : List (Option Value)} {st : List Value} {n : Nat} {h : HT} {kc ks : Nat} {post : Option Value → Nat → HT → Prop} {x w : Int32} {off : Int} (tgt : Nat) (hd : lk (M_tb y) pc = some (.if_icmp .lt off)) (ht : (pc : Int) + off = (tgt : Int))
    (kt : x < w → JJ X G B y tgt lv st n h kc ks post) (kf : ¬ x < w → JJ X G B y (pc + 3) lv st n h kc ks post) : JJ X G B y pc lv (.int w :: .int x :: st) n h kc ks post := by
  intro p l e R s m args below meth c H locs cells slots ls mc ms C P S L k1 k2 k3 k4
  have C0 := C
  obtain ⟨hx, hb, hr, hml, hown, hts, hlk, hnm, hK, hB, hfr, hlo, hT, hXW, hX, hCO, ho⟩ := C
  exact lv_icmp_lt hx hb (hT.at hd rfl) ht (fun q => kt q p l e R s m args below meth c H locs cells slots ls mc ms C0 P S L k1 k2 k3 k4) (fun q => kf q p l e R s m args below meth c H locs cells slots ls mc ms C0 P S L k1 k2 k3 k4)
theorem jj_icmp_ge {X : State → Prop} {G : GC} {B : Nat} {y : MT} {pc : Nat} {lv : List (Option Value)} {st : List Value} {n : Nat} {h : HT} {kc ks : Nat} {post : Option Value → Nat → HT → Prop} {x w : Int32} {off : Int} (tgt : Nat) (hd : lk (M_tb y) pc = some (.if_icmp .ge off)) (ht : (pc : Int) + off = (tgt : Int))
    (kt : w ≤ x → JJ X G B y tgt lv st n h kc ks post) (kf : ¬ w ≤ x → JJ X G B y (pc + 3) lv st n h kc ks post) : JJ X G B y pc lv (.int w :: .int x :: st) n h kc ks post := by
  intro p l e R s m args below meth c H locs cells slots ls mc ms C P S L k1 k2 k3 k4
  have C0 := C
  obtain ⟨hx, hb, hr, hml, hown, hts, hlk, hnm, hK, hB, hfr, hlo, hT, hXW, hX, hCO, ho⟩ := C
  exact lv_icmp_ge hx hb (hT.at hd rfl) ht (fun q => kt q p l e R s m args below meth c H locs cells slots ls mc ms C0 P S L k1 k2 k3 k4) (fun q => kf q p l e R s m args below meth c H locs cells slots ls mc ms C0 P S L k1 k2 k3 k4)
theorem jj_icmp_gt {X : State → Prop} {G : GC} {B : Nat} {y : MT} {pc : Nat} {lv : List (Option Value)} {st : List Value} {n : Nat} {h : HT} {kc ks : Nat} {post : Option Value → Nat → HT → Prop} {x w : Int32} {off : Int} (tgt : Nat) (hd : lk (M_tb y) pc = some (.if_icmp .gt off)) (ht : (pc : Int) + off = (tgt : Int))
    (kt : w < x → JJ X G B y tgt lv st n h kc ks post) (kf : ¬ w < x → JJ X G B y (pc + 3) lv st n h kc ks post) : JJ X G B y pc lv (.int w :: .int x :: st) n h kc ks post := by
  intro p l e R s m args below meth c H locs cells slots ls mc ms C P S L k1 k2 k3 k4
  have C0 := C
  obtain ⟨hx, hb, hr, hml, hown, hts, hlk, hnm, hK, hB, hfr, hlo, hT, hXW, hX, hCO, ho⟩ := C
  exact lv_icmp_gt hx hb (hT.at hd rfl) ht (fun q => kt q p l e R s m args below meth c H locs cells slots ls mc ms C0 P S L k1 k2 k3 k4) (fun q => kf q p l e R s m args below meth c H locs cells slots ls mc ms C0 P S L k1 k2 k3 k4)
theorem jj_icmp_le {X : State → Prop} {G : GC} {B : Nat} {y : MT} {pc : Nat} {lv : List (Option Value)} {st : List Value} {n : Nat} {h : HT} {kc ks : Nat} {post : Option Value → Nat → HT → Prop} {x w : Int32} {off : Int} (tgt : Nat) (hd : lk (M_tb y) pc = some (.if_icmp .le off)) (ht : (pc : Int) + off = (tgt : Int))
    (kt : x ≤ w → JJ X G B y tgt lv st n h kc ks post) (kf : ¬ x ≤ w → JJ X G B y (pc + 3) lv st n h kc ks post) : JJ X G B y pc lv (.int w :: .int x :: st) n h kc ks post := by
  intro p l e R s m args below meth c H locs cells slots ls mc ms C P S L k1 k2 k3 k4
  have C0 := C
  obtain ⟨hx, hb, hr, hml, hown, hts, hlk, hnm, hK, hB, hfr, hlo, hT, hXW, hX, hCO, ho⟩ := C
  exact lv_icmp_le hx hb (hT.at hd rfl) ht (fun q => kt q p l e R s m args below meth c H locs cells slots ls mc ms C0 P S L k1 k2 k3 k4) (fun q => kf q p l e R s m args below meth c H locs cells slots ls mc ms C0 P S L k1 k2 k3 k4)
theorem jj_if_eq {X : State → Prop} {G : GC} {B : Nat} {y : MT} {pc : Nat} {lv : List (Option Value)} {st : List Value} {n : Nat} {h : HT} {kc ks : Nat} {post : Option Value → Nat → HT → Prop} {x : Int32} {off : Int} (tgt : Nat) (hd : lk (M_tb y) pc = some (.ifCond .eq off)) (ht : (pc : Int) + off = (tgt : Int))
    (kt : x = 0 → JJ X G B y tgt lv st n h kc ks post) (kf : ¬ x = 0 → JJ X G B y (pc + 3) lv st n h kc ks post) : JJ X G B y pc lv (.int x :: st) n h kc ks post := by
  intro p l e R s m args below meth c H locs cells slots ls mc ms C P S L k1 k2 k3 k4
  have C0 := C
  obtain ⟨hx, hb, hr, hml, hown, hts, hlk, hnm, hK, hB, hfr, hlo, hT, hXW, hX, hCO, ho⟩ := C
  exact lv_if_eq hx hb (hT.at hd rfl) ht (fun q => kt q p l e R s m args below meth c H locs cells slots ls mc ms C0 P S L k1 k2 k3 k4) (fun q => kf q p l e R s m args below meth c H locs cells slots ls mc ms C0 P S L k1 k2 k3 k4)
theorem jj_if_ne {X : State → Prop} {G : GC} {B : Nat} {y : MT} {pc : Nat} {lv : List (Option Value)} {st : List Value} {n : Nat} {h : HT} {kc ks : Nat} {post : Option Value → Nat → HT → Prop} {x : Int32} {off : Int} (tgt : Nat) (hd : lk (M_tb y) pc = some (.ifCond .ne off)) (ht : (pc : Int) + off = (tgt : Int))
    (kt : ¬ x = 0 → JJ X G B y tgt lv st n h kc ks post) (kf : x = 0 → JJ X G B y (pc + 3) lv st n h kc ks post) : JJ X G B y pc lv (.int x :: st) n h kc ks post := by
  intro p l e R s m args below meth c H locs cells slots ls mc ms C P S L k1 k2 k3 k4
  have C0 := C
  obtain ⟨hx, hb, hr, hml, hown, hts, hlk, hnm, hK, hB, hfr, hlo, hT, hXW, hX, hCO, ho⟩ := C
  exact lv_if_ne hx hb (hT.at hd rfl) ht (fun q => kt q p l e R s m args below meth c H locs cells slots ls mc ms C0 P S L k1 k2 k3 k4) (fun q => kf q p l e R s m args below meth c H locs cells slots ls mc ms C0 P S L k1 k2 k3 k4)
theorem jj_if_lt {X : State → Prop} {G : GC} {B : Nat} {y : MT} {pc : Nat} {lv : List (Option Value)} {st : List Value} {n : Nat} {h : HT} {kc ks : Nat} {post : Option Value → Nat → HT → Prop} {x : Int32} {off : Int} (tgt : Nat) (hd : lk (M_tb y) pc = some (.ifCond .lt off)) (ht : (pc : Int) + off = (tgt : Int))
    (kt : x < 0 → JJ X G B y tgt lv st n h kc ks post) (kf : ¬ x < 0 → JJ X G B y (pc + 3) lv st n h kc ks post) : JJ X G B y pc lv (.int x :: st) n h kc ks post := by
  intro p l e R s m args below meth c H locs cells slots ls mc ms C P S L k1 k2 k3 k4
  have C0 := C
  obtain ⟨hx, hb, hr, hml, hown, hts, hlk, hnm, hK, hB, hfr, hlo, hT, hXW, hX, hCO, ho⟩ := C
  exact lv_if_lt hx hb (hT.at hd rfl) ht (fun q => kt q p l e R s m args below meth c H locs cells slots ls mc ms C0 P S L k1 k2 k3 k4) (fun q => kf q p l e R s m args below meth c H locs cells slots ls mc ms C0 P S L k1 k2 k3 k4)
theorem jj_if_ge {X : State → Prop} {G : GC} {B : Nat} {y : MT} {pc : Nat} {lv : List (Option Value)} {st : List Value} {n : Nat} {h : HT} {kc ks : Nat} {post : Option Value → Nat → HT → Prop} {x : Int32} {off : Int} (tgt : Nat) (hd : lk (M_tb y) pc = some (.ifCond .ge off)) (ht : (pc : Int) + off = (tgt : Int))
    (kt : 0 ≤ x → JJ X G B y tgt lv st n h kc ks post) (kf : ¬ 0 ≤ x → JJ X G B y (pc + 3) lv st n h kc ks post) : JJ X G B y pc lv (.int x :: st) n h kc ks post := by
  intro p l e R s m args below meth c H locs cells slots ls mc ms C P S L k1 k2 k3 k4
  have C0 := C
  obtain ⟨hx, hb, hr, hml, hown, hts, hlk, hnm, hK, hB, hfr, hlo, hT, hXW, hX, hCO, ho⟩ := C
  exact lv_if_ge hx hb (hT.at hd rfl) ht (fun q => kt q p l e R s m args below meth c H locs cells slots ls mc ms C0 P S L k1 k2 k3 k4) (fun q => kf q p l e R s m args below meth c H locs cells slots ls mc ms C0 P S L k1 k2 k3 k4)
theorem jj_if_gt {X : State → Prop} {G : GC} {B : Nat} {y : MT} {pc : Nat} {lv : List (Option Value)} {st : List Value} {n : Nat} {h : HT} {kc ks : Nat} {post : Option Value → Nat → HT → Prop} {x : Int32} {off : Int} (tgt : Nat) (hd : lk (M_tb y) pc = some (.ifCond .gt off)) (ht : (pc : Int) + off = (tgt : Int))
    (kt : 0 < x → JJ X G B y tgt lv st n h kc ks post) (kf : ¬ 0 < x → JJ X G B y (pc + 3) lv st n h kc ks post) : JJ X G B y pc lv (.int x :: st) n h kc ks post := by
  intro p l e R s m args below meth c H locs cells slots ls mc ms C P S L k1 k2 k3 k4
  have C0 := C
  obtain ⟨hx, hb, hr, hml, hown, hts, hlk, hnm, hK, hB, hfr, hlo, hT, hXW, hX, hCO, ho⟩ := C
  exact lv_if_gt hx hb (hT.at hd rfl) ht (fun q => kt q p l e R s m args below meth c H locs cells slots ls mc ms C0 P S L k1 k2 k3 k4) (fun q => kf q p l e R s m args below meth c H locs cells slots ls mc ms C0 P S L k1 k2 k3 k4)
theorem jj_if_le {X : State → Prop} {G : GC} {B : Nat} {y : MT} {pc : Nat} {lv : List (Option Value)} {st : List Value} {n : Nat} {h : HT} {kc ks : Nat} {post : Option Value → Nat → HT → Prop} {x : Int32} {off : Int} (tgt : Nat) (hd : lk (M_tb y) pc = some (.ifCond .le off)) (ht : (pc : Int) + off = (tgt : Int))
    (kt : x ≤ 0 → JJ X G B y tgt lv st n h kc ks post) (kf : ¬ x ≤ 0 → JJ X G B y (pc + 3) lv st n h kc ks post) : JJ X G B y pc lv (.int x :: st) n h kc ks post := by
  intro p l e R s m args below meth c H locs cells slots ls mc ms C P S L k1 k2 k3 k4
  have C0 := C
  obtain ⟨hx, hb, hr, hml, hown, hts, hlk, hnm, hK, hB, hfr, hlo, hT, hXW, hX, hCO, ho⟩ := C
  exact lv_if_le hx hb (hT.at hd rfl) ht (fun q => kt q p l e R s m args below meth c H locs cells slots ls mc ms C0 P S L k1 k2 k3 k4) (fun q => kf q p l e R s m args below meth c H locs cells slots ls mc ms C0 P S L k1 k2 k3 k4)
theorem jj_nn {X : State → Prop} {G : GC} {B : Nat} {y : MT} {pc : Nat} {lv : List (Option Value)} {st : List Value} {n : Nat} {h : HT} {kc ks : Nat} {post : Option Value → Nat → HT → Prop} {x : Nat} {off : Int} (tgt : Nat) (hd : lk (M_tb y) pc = some (.ifnonnull off)) (ht : (pc : Int) + off = (tgt : Int)) (k : JJ X G B y tgt lv st n h kc ks post) : JJ X G B y pc lv (.ref x :: st) n h kc ks post := by
  intro p l e R s m args below meth c H locs cells slots ls mc ms C P S L k1 k2 k3 k4
  have C0 := C
  obtain ⟨hx, hb, hr, hml, hown, hts, hlk, hnm, hK, hB, hfr, hlo, hT, hXW, hX, hCO, ho⟩ := C
  exact lv_ifnonnull hx hb (hT.at hd rfl) ht (k p l e R s m args below meth c H locs cells slots ls mc ms C0 P S L k1 k2 k3 k4)
theorem jj_nnN {X : State → Prop} {G : GC} {B : Nat} {y : MT} {pc : Nat} {lv : List (Option Value)} {st : List Value} {n : Nat} {h : HT} {kc ks : Nat} {post : Option Value → Nat → HT → Prop} {off : Int} (hd : lk (M_tb y) pc = some (.ifnonnull off)) (k : JJ X G B y (pc + 3) lv st n h kc ks post) : JJ X G B y pc lv (.null :: st) n h kc ks post := by
  intro p l e R s m args below meth c H locs cells slots ls mc ms C P S L k1 k2 k3 k4
  have C0 := C
  obtain ⟨hx, hb, hr, hml, hown, hts, hlk, hnm, hK, hB, hfr, hlo, hT, hXW, hX, hCO, ho⟩ := C
  exact lv_ifnonnullN hx hb (hT.at hd rfl) (k p l e R s m args below meth c H locs cells slots ls mc ms C0 P S L k1 k2 k3 k4)
theorem jj_lcmp {X : State → Prop} {G : GC} {B : Nat} {y : MT} {pc : Nat} {lv : List (Option Value)} {st : List Value} {n : Nat} {h : HT} {kc ks : Nat} {post : Option Value → Nat → HT → Prop} {x w : Int64} (hd : lk (M_tb y) pc = some .lcmp) (k : JJ X G B y (pc + 1) lv (.int (lg_cmp x w) :: st) n h kc ks post) : JJ X G B y pc lv (.long w :: .long x :: st) n h kc ks post := by
  intro p l e R s m args below meth c H locs cells slots ls mc ms C P S L k1 k2 k3 k4
  have C0 := C
  obtain ⟨hx, hb, hr, hml, hown, hts, hlk, hnm, hK, hB, hfr, hlo, hT, hXW, hX, hCO, ho⟩ := C
  exact W.lcmp hx hb (hT.at hd rfl) (k p l e R s m args below meth c H locs cells slots ls mc ms C0 P S L k1 k2 k3 k4)
theorem jj_ldc2 {X : State → Prop} {G : GC} {B : Nat} {y : MT} {pc : Nat} {lv : List (Option Value)} {st : List Value} {n : Nat} {h : HT} {kc ks : Nat} {post : Option Value → Nat → HT → Prop} {idx : Nat} {v : Int64} (hd : lk (M_tb y) pc = some (.ldc2_w idx)) (hc : Cond.constantLong (M_nm y).cls idx v ∈ tW) (k : JJ X G B y (pc + 3) lv (.long v :: st) n h kc ks post) : JJ X G B y pc lv st n h kc ks post := by
  intro p l e R s m args below meth c H locs cells slots ls mc ms C P S L k1 k2 k3 k4
  have C0 := C
  obtain ⟨hx, hb, hr, hml, hown, hts, hlk, hnm, hK, hB, hfr, hlo, hT, hXW, hX, hCO, ho⟩ := C
  exact lv_ldc2 hx hb hown (hts _ hc) (hT.at hd rfl) (k p l e R s m args below meth c H locs cells slots ls mc ms C0 P S L k1 k2 k3 k4)
theorem jj_ldcw {X : State → Prop} {G : GC} {B : Nat} {y : MT} {pc : Nat} {lv : List (Option Value)} {st : List Value} {n : Nat} {h : HT} {kc ks : Nat} {post : Option Value → Nat → HT → Prop} {idx : Nat} {v : Int32} (hd : lk (M_tb y) pc = some (.ldc_w idx)) (hc : Cond.constant (M_nm y).cls idx v ∈ tW) (k : JJ X G B y (pc + 3) lv (.int v :: st) n h kc ks post) : JJ X G B y pc lv st n h kc ks post := by
  intro p l e R s m args below meth c H locs cells slots ls mc ms C P S L k1 k2 k3 k4
  have C0 := C
  obtain ⟨hx, hb, hr, hml, hown, hts, hlk, hnm, hK, hB, hfr, hlo, hT, hXW, hX, hCO, ho⟩ := C
  exact lv_ldcw hx hb hown (hts _ hc) (hT.at hd rfl) (k p l e R s m args below meth c H locs cells slots ls mc ms C0 P S L k1 k2 k3 k4)
theorem jj_swOut {X : State → Prop} {G : GC} {B : Nat} {y : MT} {pc : Nat} {lv : List (Option Value)} {st : List Value} {n : Nat} {h : HT} {kc ks : Nat} {post : Option Value → Nat → HT → Prop} {x : Int32} {d lo hi : Int} {os : Array Int} (tgt : Nat) (hd : lk (M_tb y) pc = some (.tableswitch d lo hi os)) (hx0 : x.toInt < lo ∨ hi < x.toInt) (ht : (pc : Int) + d = (tgt : Int)) (k : JJ X G B y tgt lv st n h kc ks post) : JJ X G B y pc lv (.int x :: st) n h kc ks post := by
  intro p l e R s m args below meth c H locs cells slots ls mc ms C P S L k1 k2 k3 k4
  have C0 := C
  obtain ⟨hx, hb, hr, hml, hown, hts, hlk, hnm, hK, hB, hfr, hlo, hT, hXW, hX, hCO, ho⟩ := C
  obtain ⟨len, hd', -⟩ := hT _ _ hd
  exact lv_tableOut hx hb hd' hx0 ht (k p l e R s m args below meth c H locs cells slots ls mc ms C0 P S L k1 k2 k3 k4)
theorem jj_swIn {X : State → Prop} {G : GC} {B : Nat} {y : MT} {pc : Nat} {lv : List (Option Value)} {st : List Value} {n : Nat} {h : HT} {kc ks : Nat} {post : Option Value → Nat → HT → Prop} {x : Int32} {d lo hi off : Int} {os : Array Int} (tgt : Nat) (hd : lk (M_tb y) pc = some (.tableswitch d lo hi os)) (h1 : ¬ x.toInt < lo) (h2 : ¬ hi < x.toInt) (h3 : os[(x.toInt - lo).toNat]? = some off) (ht : (pc : Int) + off = (tgt : Int)) (k : JJ X G B y tgt lv st n h kc ks post) : JJ X G B y pc lv (.int x :: st) n h kc ks post := by
  intro p l e R s m args below meth c H locs cells slots ls mc ms C P S L k1 k2 k3 k4
  have C0 := C
  obtain ⟨hx, hb, hr, hml, hown, hts, hlk, hnm, hK, hB, hfr, hlo, hT, hXW, hX, hCO, ho⟩ := C
  obtain ⟨len, hd', -⟩ := hT _ _ hd
  exact lv_tableIn hx hb hd' h1 h2 h3 ht (k p l e R s m args below meth c H locs cells slots ls mc ms C0 P S L k1 k2 k3 k4)
theorem jj_get {X : State → Prop} {G : GC} {B : Nat} {y : MT} {pc : Nat} {lv : List (Option Value)} {st : List Value} {n : Nat} {h : HT} {kc ks : Nat} {post : Option Value → Nat → HT → Prop} {idx ci k a : Nat} {fs : List Value} {v : Value} (hd : lk (M_tb y) pc = some (.getfield idx)) (hf : FLc (M_own y) idx ci k) (hc : h a = some (ob ci fs)) (hv : fs[k]? = some v) (K : JJ X G B y (pc + 3) lv (v :: st) n h kc ks post) : JJ X G B y pc lv (.ref (B + a) :: st) n h kc ks post := by
  intro p l e R s m args below meth c H locs cells slots ls mc ms C P S L k1 k2 k3 k4
  have C0 := C
  obtain ⟨hx, hb, hr, hml, hown, hts, hlk, hnm, hK, hB, hfr, hlo, hT, hXW, hX, hCO, ho⟩ := C
  obtain ⟨⟨qC, qT, qN⟩, o, g1, g2, g3, g4⟩ := hf
  rw [ho o g2] at g4
  exact va_get hx hb hts (hCO ci _ g1).1 hown hK P.1 a (wd_get (P.2.2.lt hc) hc) g1 k g3 (hts _ g4) (fun _ z => z) hv (hT.at hd rfl) (K p l e R s m args below meth c H locs cells slots ls mc ms C0 P S L k1 k2 k3 k4)
/-- is a field final -/
def finG (ci k : Nat) : Bool := match clG[ci]? with
  | some q => (q.2.1 k).2.2.2
  | none => true
theorem jj_put {X : State → Prop} {G : GC} {B : Nat} {y : MT} {pc : Nat} {lv : List (Option Value)} {st : List Value} {n : Nat} {h : HT} {kc ks : Nat} {post : Option Value → Nat → HT → Prop} {idx ci k a : Nat} {fs : List Value} {x : Int32} (hd : lk (M_tb y) pc = some (.putfield idx)) (hf : FLc (M_own y) idx ci k) (hty : tyG ci k = .int) (hfin : finG ci k = false) (hc : h a = some (ob ci fs)) (hl : k < fs.length) (K : JJ X G B y (pc + 3) lv st n (hu h a (ob ci (fs.set k (.int x)))) kc ks post) : JJ X G B y pc lv (.int x :: .ref (B + a) :: st) n h kc ks post := by
  intro p l e R s m args below meth c H locs cells slots ls mc ms C P S L k1 k2 k3 k4
  have C0 := C
  obtain ⟨hx, hb, hr, hml, hown, hts, hlk, hnm, hK, hB, hfr, hlo, hT, hXW, hX, hCO, ho⟩ := C
  obtain ⟨⟨qC, qT, qN⟩, o, g1, g2, g3, g4⟩ := hf
  rw [ho o g2] at g4
  obtain ⟨c1, c2, c3⟩ := hCO ci _ g1
  have hfin : (qT k).2.2.2 = false := by unfold finG at hfin; rw [g1] at hfin; exact hfin
  have hdesc : parseFieldDescriptor (qT k).2.2.1 = some .int := by rw [← hty]; exact c2 k g3
  have he := wd_get (G := G) (B := B) (P.2.2.lt hc) hc
  have hap := va_apart (own := (M_nm y).cls) hts c1 (tyG ci) c2 c3 hK g1
  obtain ⟨r, h1, cell, q1, q2, q3, q4⟩ := P.1 a _ he
  have hr' : r = (qC, qT, qN) := Option.some.inj (h1.symm.trans g1)
  subst hr'
  obtain ⟨hS, hfc, kC, hkC, hkind⟩ := hK.1 ci _ g1
  obtain ⟨cf, kf, fi, f, hi, hsl⟩ := hS k g3
  have hlay := hts _ (c1 _ (u_in_lay g3))
  unfold u_lay at hlay
  rw [if_neg (by rw [hfin]; decide)] at hlay
  have hst := (u_facts hfc hkC (u_lays hts c1 g3) hi).1
  have h6 := u_store hfc hkC hkind hlay hi hdesc (v := .int x) rfl rfl
  refine W.putK hx hb (f := f) ⟨hown, hts _ g4, ⟨_, _, _, hi⟩, hst⟩ (by rw [q2]; exact h6) q1 q3 (by rw [hsl]; exact k2_hasslot (q4 k g3)) rfl rfl (hT.at hd rfl) fun H' e1 e2 e3 => ?_
  rw [hsl] at e1 ⊢
  have hP' := P.1.set (e := .inr (ci, fs.set k (.int x))) wd_D he ⟨_, g1, t_OB.to (V := updV (vp_V fs) k (.int x)) ⟨_, e1, q2, q3, t_set q4 hap g3 (.int x)⟩ (fun j _ => vp_updV_set hl (.int x) j)⟩ e3
  exact K p l e R s m args below meth c H' _ cells slots ls mc ms C0 ⟨by rw [← wd_set]; exact hP', by rw [e2]; exact P.2.1, P.2.2.set hc⟩ (S.put e2 e3 (Nat.le_add_right _ _)) L k1 k2 k3 k4
theorem jj_putF {X : State → Prop} {G : GC} {B : Nat} {y : MT} {pc : Nat} {lv : List (Option Value)} {st : List Value} {n : Nat} {h : HT} {kc ks : Nat} {post : Option Value → Nat → HT → Prop} {idx ci k a : Nat} {fs : List Value} {v : Value} (hd : lk (M_tb y) pc = some (.putfield idx)) (hf : FLc (M_own y) idx ci k) (hi0 : (M_nm y).name = "<init>") (hfin : finG ci k = true) (hdecl : ∀ q, clG[ci]? = some q → (q.2.1 k).1 = (M_nm y).cls) (hn : narrow (tyG ci k) v = v) (hfit : fits (tyG ci k) v = true) (hc : h a = some (ob ci fs)) (hl : k < fs.length) (K : JJ X G B y (pc + 3) lv st n (hu h a (ob ci (fs.set k v))) kc ks post) : JJ X G B y pc lv (v :: .ref (B + a) :: st) n h kc ks post := by
  intro p l e R s m args below meth c H locs cells slots ls mc ms C P S L k1 k2 k3 k4
  have C0 := C
  obtain ⟨hx, hb, hr, hml, hown, hts, hlk, hnm, hK, hB, hfr, hlo, hT, hXW, hX, hCO, ho⟩ := C
  obtain ⟨⟨qC, qT, qN⟩, o, g1, g2, g3, g4⟩ := hf
  rw [ho o g2] at g4
  have hdecl := hdecl _ g1
  obtain ⟨c1, c2, c3⟩ := hCO ci _ g1
  have hfin : (qT k).2.2.2 = true := by unfold finG at hfin; rw [g1] at hfin; exact hfin
  have he := wd_get (G := G) (B := B) (P.2.2.lt hc) hc
  have hap := va_apart (own := (M_nm y).cls) hts c1 (tyG ci) c2 c3 hK g1
  obtain ⟨r, h1, cell, q1, q2, q3, q4⟩ := P.1 a _ he
  have hr' : r = (qC, qT, qN) := Option.some.inj (h1.symm.trans g1)
  subst hr'
  obtain ⟨hS, hfc, kC, hkC, hkind⟩ := hK.1 ci _ g1
  obtain ⟨cf, kf, fi, f, hi, hsl⟩ := hS k g3
  have hlay := hts _ (c1 _ (u_in_lay g3))
  unfold u_lay at hlay
  rw [if_pos hfin] at hlay
  have hst := (u_facts hfc hkC (u_lays hts c1 g3) hi).1
  have hcf : m.cls = cf := by
    obtain ⟨_, _, c', _, _, _, -, -, hf', -, -, -, hown2, -⟩ := Cond.laysFinal_spec hlay
    have e1 : c' = cf := by have := hi.symm.trans hf'; simp at this; exact this.1.symm
    rw [hdecl] at hown2
    rw [← e1]; exact Option.some.inj (hown.symm.trans hown2)
  have h6 := u_fits hfc hkC hkind (Or.inr hlay) hi (c2 k g3) hn hfit
  refine W.putFinK hx hb hown (hts _ g4) hi hst hcf (by rw [hnm]; exact hi0) (by rw [q2]; exact h6) q1 q3 (by rw [hsl]; exact k2_hasslot (q4 k g3)) rfl rfl (hT.at hd rfl) fun H' e1 e2 e3 => ?_
  rw [hsl] at e1 ⊢
  have hP' := P.1.set (e := .inr (ci, fs.set k v)) wd_D he ⟨_, g1, t_OB.to (V := updV (vp_V fs) k v) ⟨_, e1, q2, q3, t_set q4 hap g3 v⟩ (fun j _ => vp_updV_set hl v j)⟩ e3
  exact K p l e R s m args below meth c H' _ cells slots ls mc ms C0 ⟨by rw [← wd_set]; exact hP', by rw [e2]; exact P.2.1, P.2.2.set hc⟩ (S.put e2 e3 (Nat.le_add_right _ _)) L k1 k2 k3 k4
theorem jj_iald {X : State → Prop} {G : GC} {B : Nat} {y : MT} {pc : Nat} {lv : List (Option Value)} {st : List Value} {n : Nat} {h : HT} {kc ks : Nat} {post : Option Value → Nat → HT → Prop} {a N : Nat} {f : Nat → Int32} {i : Int32} (hd : lk (M_tb y) pc = some .iaload) (hc : h a = some (ia N f)) (hi : vp_in i N) (K : JJ X G B y (pc + 1) lv (.int (f i.toNatClampNeg) :: st) n h kc ks post) : JJ X G B y pc lv (.int i :: .ref (B + a) :: st) n h kc ks post := by
  intro p l e R s m args below meth c H locs cells slots ls mc ms C P S L k1 k2 k3 k4
  have C0 := C
  obtain ⟨hx, hb, hr, hml, hown, hts, hlk, hnm, hK, hB, hfr, hlo, hT, hXW, hX, hCO, ho⟩ := C
  exact va_iald hx hb hK P.1 a 0 (wd_get (P.2.2.lt hc) hc) rfl hi (hT.at hd rfl) (K p l e R s m args below meth c H locs cells slots ls mc ms C0 P S L k1 k2 k3 k4)
theorem jj_lald {X : State → Prop} {G : GC} {B : Nat} {y : MT} {pc : Nat} {lv : List (Option Value)} {st : List Value} {n : Nat} {h : HT} {kc ks : Nat} {post : Option Value → Nat → HT → Prop} {a N : Nat} {f : Nat → Int64} {i : Int32} (hd : lk (M_tb y) pc = some .laload) (hc : h a = some (la N f)) (hi : vp_in i N) (K : JJ X G B y (pc + 1) lv (.long (f i.toNatClampNeg) :: st) n h kc ks post) : JJ X G B y pc lv (.int i :: .ref (B + a) :: st) n h kc ks post := by
  intro p l e R s m args below meth c H locs cells slots ls mc ms C P S L k1 k2 k3 k4
  have C0 := C
  obtain ⟨hx, hb, hr, hml, hown, hts, hlk, hnm, hK, hB, hfr, hlo, hT, hXW, hX, hCO, ho⟩ := C
  exact va_lald hx hb hK P.1 a 1 (wd_get (P.2.2.lt hc) hc) rfl hi (hT.at hd rfl) (K p l e R s m args below meth c H locs cells slots ls mc ms C0 P S L k1 k2 k3 k4)
theorem jj_aald {X : State → Prop} {G : GC} {B : Nat} {y : MT} {pc : Nat} {lv : List (Option Value)} {st : List Value} {n : Nat} {h : HT} {kc ks : Nat} {post : Option Value → Nat → HT → Prop} {a N : Nat} {f : Nat → Option Nat} {i : Int32} (hd : lk (M_tb y) pc = some .aaload) (hc : h a = some (qa N f)) (hi : vp_in i N) (K : JJ X G B y (pc + 1) lv (va_rf (f i.toNatClampNeg) :: st) n h kc ks post) : JJ X G B y pc lv (.int i :: .ref (B + a) :: st) n h kc ks post := by
  intro p l e R s m args below meth c H locs cells slots ls mc ms C P S L k1 k2 k3 k4
  have C0 := C
  obtain ⟨hx, hb, hr, hml, hown, hts, hlk, hnm, hK, hB, hfr, hlo, hT, hXW, hX, hCO, ho⟩ := C
  exact va_aldq hx hb hK P.1 a 2 (wd_get (P.2.2.lt hc) hc) rfl hi (hT.at hd rfl) (K p l e R s m args below meth c H locs cells slots ls mc ms C0 P S L k1 k2 k3 k4)
theorem jj_iast {X : State → Prop} {G : GC} {B : Nat} {y : MT} {pc : Nat} {lv : List (Option Value)} {st : List Value} {n : Nat} {h : HT} {kc ks : Nat} {post : Option Value → Nat → HT → Prop} {a N : Nat} {f : Nat → Int32} {i : Int32} {x : Int32} (hd : lk (M_tb y) pc = some .iastore) (hc : h a = some (ia N f)) (hi : vp_in i N) (K : JJ X G B y (pc + 1) lv st n (hu h a (ia N (upd f i.toNatClampNeg x))) kc ks post) : JJ X G B y pc lv (.int x :: .int i :: .ref (B + a) :: st) n h kc ks post := by
  intro p l e R s m args below meth c H locs cells slots ls mc ms C P S L k1 k2 k3 k4
  have C0 := C
  obtain ⟨hx, hb, hr, hml, hown, hts, hlk, hnm, hK, hB, hfr, hlo, hT, hXW, hX, hCO, ho⟩ := C
  have he := wd_get (G := G) (B := B) (P.2.2.lt hc) hc
  refine W.iast hx hb (P.1 a _ he) ((hK.2 0 _ rfl).1 N (fun j => .int (f j))) (fun q => by cases q) (by show ¬ (i < 0 ∨ (arrV _ _ _).slots.size ≤ _); rw [arrV_size]; exact hi) rfl rfl (hT.at hd rfl) fun H1 e1 z oq => ?_
  have hP' := P.1.set (e := cvE G (ia N (upd f i.toNatClampNeg x))) wd_D he ?_ oq
  · exact K p l e R s m args below meth c H1 _ cells slots ls mc ms C0 ⟨by rw [← wd_set]; exact hP', by rw [z]; exact P.2.1, P.2.2.set hc⟩ (S.put z oq (Nat.le_add_right _ _)) L k1 k2 k3 k4
  · show H1[B + a]? = some (vp_cell _ _)
    rw [e1]
    show some (Cell.setSlot (vp_cell _ _) _ _) = _
    rw [vp_cell_i, vp_cell_i, arrV_store]
    congr 2
    funext q
    by_cases hq : q = i.toNatClampNeg
    · subst hq
      simp [updV, upd]
    · simp [updV, upd, hq]
theorem jj_last {X : State → Prop} {G : GC} {B : Nat} {y : MT} {pc : Nat} {lv : List (Option Value)} {st : List Value} {n : Nat} {h : HT} {kc ks : Nat} {post : Option Value → Nat → HT → Prop} {a N : Nat} {f : Nat → Int64} {i : Int32} {x : Int64} (hd : lk (M_tb y) pc = some .lastore) (hc : h a = some (la N f)) (hi : vp_in i N) (K : JJ X G B y (pc + 1) lv st n (hu h a (la N (vp_updL f i.toNatClampNeg x))) kc ks post) : JJ X G B y pc lv (.long x :: .int i :: .ref (B + a) :: st) n h kc ks post := by
  intro p l e R s m args below meth c H locs cells slots ls mc ms C P S L k1 k2 k3 k4
  have C0 := C
  obtain ⟨hx, hb, hr, hml, hown, hts, hlk, hnm, hK, hB, hfr, hlo, hT, hXW, hX, hCO, ho⟩ := C
  have he := wd_get (G := G) (B := B) (P.2.2.lt hc) hc
  refine W.last hx hb (P.1 a _ he) ((hK.2 1 _ rfl).1 N (fun j => .long (f j))) (fun q => by cases q) (by show ¬ (i < 0 ∨ (arrV _ _ _).slots.size ≤ _); rw [arrV_size]; exact hi) rfl rfl (hT.at hd rfl) fun H1 e1 z oq => ?_
  have hP' := P.1.set (e := cvE G (la N (vp_updL f i.toNatClampNeg x))) wd_D he ?_ oq
  · exact K p l e R s m args below meth c H1 _ cells slots ls mc ms C0 ⟨by rw [← wd_set]; exact hP', by rw [z]; exact P.2.1, P.2.2.set hc⟩ (S.put z oq (Nat.le_add_right _ _)) L k1 k2 k3 k4
  · show H1[B + a]? = some (vp_cell _ _)
    rw [e1]
    show some (Cell.setSlot (vp_cell _ _) _ _) = _
    rw [vp_cell_l, vp_cell_l, arrV_store]
    congr 2
    funext q
    by_cases hq : q = i.toNatClampNeg
    · subst hq
      simp [updV, vp_updL]
    · simp [updV, vp_updL, hq]
theorem jj_iret {X : State → Prop} {G : GC} {B : Nat} {y : MT} {pc : Nat} {lv : List (Option Value)} {n : Nat} {h : HT} {kc ks : Nat} {post : Option Value → Nat → HT → Prop} {v : Int32} (hd : lk (M_tb y) pc = some .ireturn) (hrt : M_rt y = some .int) (hp : post (some (.int v)) n h) : JJ X G B y pc lv [.int v] n h kc ks post := by
  intro p l e R s m args below meth c H locs cells slots ls mc ms C P S L k1 k2 k3 k4
  have C0 := C
  obtain ⟨hx, hb, hr, hml, hown, hts, hlk, hnm, hK, hB, hfr, hlo, hT, hXW, hX, hCO, ho⟩ := C
  refine W.widen (k := mc) (n := ms) (by omega) (by omega) ?_
  exact W.iret hx hb (hr.trans hrt) (fun t ht hW => ⟨_, n, h, rfl, hp, by rw [ht]; exact P, by rw [ht]; exact S.1, fun q hq => by rw [ht]; exact S.2.1 q (by omega) (by omega)⟩) S.2.2 (hT.at hd rfl) hlk
theorem jj_zret {X : State → Prop} {G : GC} {B : Nat} {y : MT} {pc : Nat} {lv : List (Option Value)} {n : Nat} {h : HT} {kc ks : Nat} {post : Option Value → Nat → HT → Prop} {v : Int32} (hd : lk (M_tb y) pc = some .ireturn) (hrt : M_rt y = some .boolean) (hv : v = 0 ∨ v = 1) (hp : post (some (.int v)) n h) : JJ X G B y pc lv [.int v] n h kc ks post := by
  intro p l e R s m args below meth c H locs cells slots ls mc ms C P S L k1 k2 k3 k4
  have C0 := C
  obtain ⟨hx, hb, hr, hml, hown, hts, hlk, hnm, hK, hB, hfr, hlo, hT, hXW, hX, hCO, ho⟩ := C
  refine W.widen (k := mc) (n := ms) (by omega) (by omega) ?_
  exact W.zret hx hb (hr.trans hrt) (by rcases hv with rfl | rfl <;> rfl) (fun t ht hW => ⟨_, n, h, rfl, hp, by rw [ht]; exact P, by rw [ht]; exact S.1, fun q hq => by rw [ht]; exact S.2.1 q (by omega) (by omega)⟩) S.2.2 (hT.at hd rfl) hlk
theorem jj_lret {X : State → Prop} {G : GC} {B : Nat} {y : MT} {pc : Nat} {lv : List (Option Value)} {n : Nat} {h : HT} {kc ks : Nat} {post : Option Value → Nat → HT → Prop} {v : Int64} (hd : lk (M_tb y) pc = some .lreturn) (hrt : M_rt y = some .long) (hp : post (some (.long v)) n h) : JJ X G B y pc lv [.long v] n h kc ks post := by
  intro p l e R s m args below meth c H locs cells slots ls mc ms C P S L k1 k2 k3 k4
  have C0 := C
  obtain ⟨hx, hb, hr, hml, hown, hts, hlk, hnm, hK, hB, hfr, hlo, hT, hXW, hX, hCO, ho⟩ := C
  refine W.widen (k := mc) (n := ms) (by omega) (by omega) ?_
  exact W.lret hx hb (hr.trans hrt) (fun t ht hW => ⟨_, n, h, rfl, hp, by rw [ht]; exact P, by rw [ht]; exact S.1, fun q hq => by rw [ht]; exact S.2.1 q (by omega) (by omega)⟩) S.2.2 (hT.at hd rfl) hlk
theorem jj_vret {X : State → Prop} {G : GC} {B : Nat} {y : MT} {pc : Nat} {lv : List (Option Value)} {n : Nat} {h : HT} {kc ks : Nat} {post : Option Value → Nat → HT → Prop}  (hd : lk (M_tb y) pc = some .return_) (hrt : M_rt y = none) (hp : post none n h) : JJ X G B y pc lv [] n h kc ks post := by
  intro p l e R s m args below meth c H locs cells slots ls mc ms C P S L k1 k2 k3 k4
  have C0 := C
  obtain ⟨hx, hb, hr, hml, hown, hts, hlk, hnm, hK, hB, hfr, hlo, hT, hXW, hX, hCO, ho⟩ := C
  refine W.widen (k := mc) (n := ms) (by omega) (by omega) ?_
  exact W.vret hx hb (hr.trans hrt) (fun t ht hW => ⟨_, n, h, rfl, hp, by rw [ht]; exact P, by rw [ht]; exact S.1, fun q hq => by rw [ht]; exact S.2.1 q (by omega) (by omega)⟩) S.2.2 (hT.at hd rfl) hlk
theorem jj_aret {X : State → Prop} {G : GC} {B : Nat} {y : MT} {pc : Nat} {lv : List (Option Value)} {n : Nat} {h : HT} {kc ks : Nat} {post : Option Value → Nat → HT → Prop} {v : Nat} {t : FieldType} (hd : lk (M_tb y) pc = some .areturn) (hrt : M_rt y = some (.array t)) (hp : post (some (.ref v)) n h) : JJ X G B y pc lv [.ref v] n h kc ks post := by
  intro p l e R s m args below meth c H locs cells slots ls mc ms C P S L k1 k2 k3 k4
  have C0 := C
  obtain ⟨hx, hb, hr, hml, hown, hts, hlk, hnm, hK, hB, hfr, hlo, hT, hXW, hX, hCO, ho⟩ := C
  refine W.widen (k := mc) (n := ms) (by omega) (by omega) ?_
  exact W.aret hx hb (hr.trans hrt) (Or.inr ⟨_, rfl⟩) (Or.inr ⟨_, rfl⟩) (fun t ht hW => ⟨_, n, h, rfl, hp, by rw [ht]; exact P, by rw [ht]; exact S.1, fun q hq => by rw [ht]; exact S.2.1 q (by omega) (by omega)⟩) S.2.2 (hT.at hd rfl) hlk
end
section
def eqP (r : Option Value) (n : Nat) (h : HT) : Option Value → Nat → HT → Prop := fun r1 n1 h1 => r1 = r ∧ n1 = n ∧ h1 = h
/-- a method's contract: from its entry -/
def CtJ (G : GC) (B : Nat) (y : MT) (av : List Value) (n : Nat) (h : HT) (mc ms : Nat) (post : Option Value → Nat → HT → Prop) : Prop := JJ X0 G B y 0 (av.map some ++ List.replicate (M_ml y - av.length) none) [] n h mc ms post
def PcJ (G : GC) (B n : Nat) (h : HT) (av : List Value) : Array Value → State → Prop := fun v U => v = av.toArray ∧ PicJ G B n h U.heap ∧ va_K G.1 clG (tysG G) U ∧ XW U
abbrev rmJ (y : MT) (mc ms : Nat) : Room := { frames := M_fr y, cells := mc, slots := ms, locals := M_lo y }
abbrev wsJ (y : MT) : List Cond := Cond.code (M_nm y) (M_by y) (M_ml y) (M_rt y) :: tW
theorem MetJ (l : Launch) {G : GC} {B : Nat} {y : MT} {av : List Value} {n : Nat} {h : HT} {mc ms : Nat} {post : Option Value → Nat → HT → Prop} (hok : MOk y) (hCO : ∀ ci q, clG[ci]? = some q → CO ci q) (ho : ∀ o, clG[M_own y]? = some o → o.1 = (M_nm y).cls) (hlen : av.length ≤ M_ml y) (hcat : ∀ v ∈ av, v.category = 1) (hc : CtJ G B y av n h mc ms post) :
    Met l (M_nm y) (wsJ y) (rmJ y mc ms) (PcJ G B n h av) (QJ G B post) mc ms (fun q => B ≤ q) := by
  refine Met.ofW (cc := M_by y) (maxL := M_ml y) (ret := M_rt y) hok.2.1 rfl ?_
  intro p e s m args below meth c s₁ Bd hml hv
  obtain ⟨rfl, hP, hK, hXW⟩ := hv
  have hts := atoms_spec (ws := wsJ y) Bd.pre
  rw [lg_entry_eq]
  exact hc p l e _ s m _ below meth c s.heap [] 0 0 _ mc ms ⟨Bd.exec, Bd.bytes, Bd.returns, hml, findClass_of_methodNamed Bd.named, fun w hw => hts w (List.mem_cons_of_mem _ hw), Bd.notSynchronized, (name_of_methodNamed Bd.named Bd.method).1, hK, by rw [hP.2.1]; omega, Nat.le_refl _, Nat.le_refl _, hok.1, hXW, trivial, hCO, ho⟩ hP va_S.rf (lvl.entry av hlen hcat) (by omega) (by omega) (Nat.le_refl _) (Nat.le_refl _)
theorem PcJ.blind {G : GC} {B n : Nat} {h : HT} {av : List Value} : FrameBlind (PcJ G B n h av) := by
  intro a U g mk q
  obtain ⟨q0, qP, qK, qX⟩ := q
  exact ⟨q0, qP, va_K.moved (u := U) (U := U.calling g mk a) (Vm.Alike.refl U.vm) qK, ⟨fun z hz => va_Nw.same rfl rfl (qX.1 z hz), va_AO.moved (u := U) (U := U.calling g mk a) (Vm.Alike.refl U.vm) qX.2⟩⟩
theorem gdW {ws : List Cond} (hw : ∀ w ∈ ws, w ∈ tW) : GoodIn tW ws := fun w h => tW_good w (hw w h)
theorem wsJ_in {y : MT} (hok : MOk y) : ∀ w ∈ wsJ y, w ∈ tW := fun w h => (List.mem_cons.mp h).elim (fun e => e ▸ hok.2.2.1) id
/-- behind a call -/
theorem jj_after {X : State → Prop} {G : GC} {B : Nat} {y : MT} {pc : Nat} {lv : List (Option Value)} {st rest : List Value} {n : Nat} {h : HT} {kc ks : Nat} {post : Option Value → Nat → HT → Prop} {mc' ms' n' : Nat} {h' : HT} {r : Option Value} {aa : Array Value} {p : Program} {l : Launch} {e : Env} {R : Room} {s : State} {m : MethodId} {args : Array Value} {below : List Frame} {meth : Method} {c : Code} {H : Heap} {locs : List Loc} {cells slots : Nat} {ls : Array Slot} {mc ms : Nat}
    (C0 : CxJ X G B y p R s m args meth c) (P : PicJ G B n h H) (S : va_S (fun q => B ≤ q) s.heap H locs) (L : lvl ls (M_ml y) lv) (k1 : cells + kc ≤ mc) (k2 : slots + ks ≤ ms) (k3 : mc ≤ R.cells) (k4 : ms ≤ R.slots) (hb1 : mc' ≤ kc) (hb2 : ms' ≤ ks)
    (run : va_Run p l e R s m args below meth c H locs cells slots mc' ms' (F0 m pc ls st) rest (QJ G B (eqP r n' h') aa) (fun q => B ≤ q))
    (K : JJ X G B y (pc + 3) lv (r.toList ++ rest) n' h' (kc - mc') (ks - ms') post) : W p l e R s m args below meth c H locs cells slots (MQ below (QJ G B post) args s mc ms (fun q => B ≤ q)) (F0 m pc ls st) := by
  intro T hT0 X1
  obtain ⟨v, st₀, t, T', L1, h0, X', hL, e1, e2, ⟨r1, n1, h1, hv, hp, hPic, hsz, hfrm⟩, stp1⟩ := run T hT0 X1
  cases hv
  obtain ⟨rfl, rfl, rfl⟩ := hp
  rw [h0] at hsz hfrm
  obtain ⟨t2, a1, b1⟩ := K p l e R s m args below meth c T'.heap (locs ++ L1) (cells + mc') (slots + ms') ls mc ms C0 (by rw [e1]; exact hPic) ⟨by rw [e1]; exact Nat.le_trans S.1 hsz, fun q g1 g2 => by rw [e1, hfrm q (by omega)]; exact S.2.1 q g1 g2, fun q hq => by
      rcases List.mem_append.mp hq with h | h
      · exact S.2.2 q h
      · exact hL q h⟩ L (by omega) (by omega) k3 k4 T' rfl X'
  exact ⟨t2, stp1 t2 a1, b1⟩
def roomOk (y y' : MT) : Bool := decide (M_fr y' + 1 ≤ M_fr y) && decide (8 + (M_ml y' + 11) + M_lo y' ≤ M_lo y)
theorem roomOk.use {y y' : MT} {R : Room} (h : roomOk y y' = true) (h1 : M_fr y ≤ R.frames) (h2 : M_lo y ≤ R.locals) : M_fr y' + 1 ≤ R.frames ∧ 8 + (M_ml y' + 11) + M_lo y' ≤ R.locals := by
  unfold roomOk at h
  rw [Bool.and_eq_true] at h
  exact ⟨Nat.le_trans (of_decide_eq_true h.1) h1, Nat.le_trans (of_decide_eq_true h.2) h2⟩
/-- a method of a class whose place in clG is its own -/
def OwnOk (y : MT) : Prop := ∀ o, clG[M_own y]? = some o → o.1 = (M_nm y).cls
def LkV (y : MT) (idx : Nat) (y' : MT) : Prop := Cond.methodLink (M_nm y).cls idx (M_nm y') ∈ tW ∧ Cond.instanceMethod (M_nm y') ∈ tW ∧ Cond.selects (M_nm y').cls (M_nm y') (M_nm y') ∈ tW
def LkS (y : MT) (idx : Nat) (y' : MT) : Prop := Cond.methodLink (M_nm y).cls idx (M_nm y') ∈ tW ∧ Cond.static (M_nm y') ∈ tW
def LkI (y : MT) (idx : Nat) (y' : MT) : Prop := Cond.methodLink (M_nm y).cls idx (M_nm y') ∈ tW ∧ Cond.instanceMethod (M_nm y') ∈ tW ∧ (M_nm y').name = "<init>"
def LkIN (y : MT) (idx : Nat) (y' : MT) : Prop := ((M_nm y).cls, idx, M_nm y', "DependencyQueue") ∈ nstL ∧ Cond.instanceMethod (M_nm y') ∈ tW ∧ (M_nm y').name = "<init>"
def LkSN (y : MT) (idx : Nat) (y' : MT) : Prop := ((M_nm y).cls, idx, M_nm y', "DependencyQueue") ∈ nstL ∧ Cond.static (M_nm y') ∈ tW
theorem wsV_in {y y' : MT} {idx : Nat} (hok : MOk y') (hl : LkV y idx y') : ∀ w ∈ wsV (M_nm y).cls idx (M_nm y').cls (M_nm y') (wsJ y'), w ∈ tW := by
  intro w hw
  unfold wsV at hw
  rcases List.mem_append.mp hw with hw | hw
  · simp only [List.mem_cons, List.not_mem_nil, or_false] at hw
    rcases hw with rfl | rfl | rfl | rfl
    · exact hl.1
    · exact hl.2.1
    · exact hl.2.2
    · exact hok.2.2.2.2.1
  · exact wsJ_in hok w hw
theorem jj_cV {X : State → Prop} {G : GC} {B : Nat} {y : MT} {pc : Nat} {lv : List (Option Value)} {st rest : List Value} {n : Nat} {h : HT} {kc ks : Nat} {post : Option Value → Nat → HT → Prop} {y' : MT} {idx mc' ms' n' : Nat} {h' : HT} {as : List Value} {r : Option Value} {a ci : Nat} {fs : List Value} (hd : lk (M_tb y) pc = some (.invokevirtual idx)) (hok : MOk y') (how : OwnOk y') (hrm : roomOk y y' = true) (hl : LkV y idx y') (hst : st = as.reverse ++ .ref (B + a) :: rest) (hc0 : h a = some (ob ci fs)) (hcl : (clG[ci]?).map (fun q => q.1) = some (M_nm y').cls) (hnp : as.length = M_np y') (hcat : ∀ v ∈ as, v.category = 1) (hfit : as.length + 1 ≤ M_ml y') (hrest : (rest.map fun v => v.category).sum ≤ 8) (hb1 : mc' ≤ kc) (hb2 : ms' ≤ ks)
    (hC : CtJ G B y' (.ref (B + a) :: as) n h mc' ms' (eqP r n' h')) (K : JJ X G B y (pc + 3) lv (r.toList ++ rest) n' h' (kc - mc') (ks - ms') post) : JJ X G B y pc lv st n h kc ks post := by
  intro p l e R s m args below meth c H locs cells slots ls mc ms C P S L k1 k2 k3 k4
  have C0 := C
  obtain ⟨hx, hb, hr, hml, hown, hts, hlk, hnm, hK, hB, hfr, hlo, hT, hXW, hX, hCO, ho⟩ := C
  have hM := MetJ l hok hCO how (av := (.ref (B + a) :: as)) (by simp; exact hfit) (fun v hv => (List.mem_cons.mp hv).elim (fun e => by rw [e]; rfl) (hcat v)) hC
  have hnp2 : (parseMethodDescriptor (M_nm y').desc).map (fun d => d.parameters.length) = some (M_np y') := hok.2.2.2.2.2
  subst hst
  obtain ⟨qq, g1, g2⟩ : ∃ qq, clG[ci]? = some qq ∧ qq.1 = (M_nm y').cls := by
    cases hq : clG[ci]? with
    | none => rw [hq] at hcl; cases hcl
    | some qq => rw [hq] at hcl; exact ⟨qq, rfl, Option.some.inj hcl⟩
  refine jj_after (mc' := mc') (ms' := ms') C0 P S L k1 k2 k3 k4 hb1 hb2 (va_runV (As := as) (rest := rest) ⟨hx, hb, hml, hown, hts⟩ hM (C := (M_nm y').cls) (cwV (ws' := tW) (M_np y') hts (gdW (wsV_in hok hl)) rfl rfl rfl ⟨rfl, hok.2.2.2.1.1, hok.2.2.2.1.2, hnp2⟩ (roomOk.use hrm hfr hlo)) ⟨PcJ.blind, (by rw [← g2]; exact va_recv hK P.1 (ci := ci) (q := qq) (q0 := a) g1 (wd_get (P.2.2.lt hc0) hc0)), fun U hU hW => ⟨rfl, by rw [hU]; exact P, va_K.moved hW.alike hK, XW.moved hW hXW⟩⟩ rfl hnp L.1 rfl (lv_room hrest) (hT.at hd rfl) ⟨by omega, by omega⟩) K
theorem jj_cS {X : State → Prop} {G : GC} {B : Nat} {y : MT} {pc : Nat} {lv : List (Option Value)} {st rest : List Value} {n : Nat} {h : HT} {kc ks : Nat} {post : Option Value → Nat → HT → Prop} {y' : MT} {idx mc' ms' n' : Nat} {h' : HT} {as : List Value} {r : Option Value}  (hd : lk (M_tb y) pc = some (.invokestatic idx)) (hok : MOk y') (how : OwnOk y') (hrm : roomOk y y' = true) (hl : LkS y idx y') (hst : st = as.reverse ++ rest)  (hnp : as.length = M_np y') (hcat : ∀ v ∈ as, v.category = 1) (hfit : as.length + 0 ≤ M_ml y') (hrest : (rest.map fun v => v.category).sum ≤ 8) (hb1 : mc' ≤ kc) (hb2 : ms' ≤ ks)
    (hC : CtJ G B y' as n h mc' ms' (eqP r n' h')) (K : JJ X G B y (pc + 3) lv (r.toList ++ rest) n' h' (kc - mc') (ks - ms') post) : JJ X G B y pc lv st n h kc ks post := by
  intro p l e R s m args below meth c H locs cells slots ls mc ms C P S L k1 k2 k3 k4
  have C0 := C
  obtain ⟨hx, hb, hr, hml, hown, hts, hlk, hnm, hK, hB, hfr, hlo, hT, hXW, hX, hCO, ho⟩ := C
  have hM := MetJ l hok hCO how (av := as) (by simpa using hfit) hcat hC
  have hnp2 : (parseMethodDescriptor (M_nm y').desc).map (fun d => d.parameters.length) = some (M_np y') := hok.2.2.2.2.2
  subst hst
  refine jj_after (mc' := mc') (ms' := ms') C0 P S L k1 k2 k3 k4 hb1 hb2 (va_runS (As := as) (rest := rest) ⟨hx, hb, hml, hown, hts⟩ hM ⟨callB_of (ws' := tW) (M_np y') hts (gdW (wsJ_in hok)) rfl rfl rfl (hts _ hok.2.2.2.2.1) (hts _ hl.1) ⟨hok.2.2.2.1.1, hok.2.2.2.1.2, hnp2⟩ (roomOk.use hrm hfr hlo), hts _ hl.2⟩ ⟨PcJ.blind, fun U hU hW => ⟨rfl, by rw [hU]; exact P, va_K.moved hW.alike hK, XW.moved hW hXW⟩⟩ rfl hnp L.1 rfl (lv_room hrest) (hT.at hd rfl) ⟨by omega, by omega⟩) K
theorem jj_cI {X : State → Prop} {G : GC} {B : Nat} {y : MT} {pc : Nat} {lv : List (Option Value)} {st rest : List Value} {n : Nat} {h : HT} {kc ks : Nat} {post : Option Value → Nat → HT → Prop} {y' : MT} {idx mc' ms' n' : Nat} {h' : HT} {as : List Value} {r : Option Value} {a : Nat} (hd : lk (M_tb y) pc = some (.invokespecial idx)) (hok : MOk y') (how : OwnOk y') (hrm : roomOk y y' = true) (hl : LkI y idx y') (hvoid : M_rt y' = none) (hst : st = as.reverse ++ .ref (B + a) :: rest)  (hnp : as.length = M_np y') (hcat : ∀ v ∈ as, v.category = 1) (hfit : as.length + 1 ≤ M_ml y') (hrest : (rest.map fun v => v.category).sum ≤ 8) (hb1 : mc' ≤ kc) (hb2 : ms' ≤ ks)
    (hC : CtJ G B y' (.ref (B + a) :: as) n h mc' ms' (eqP r n' h')) (K : JJ X G B y (pc + 3) lv (r.toList ++ rest) n' h' (kc - mc') (ks - ms') post) : JJ X G B y pc lv st n h kc ks post := by
  intro p l e R s m args below meth c H locs cells slots ls mc ms C P S L k1 k2 k3 k4
  have C0 := C
  obtain ⟨hx, hb, hr, hml, hown, hts, hlk, hnm, hK, hB, hfr, hlo, hT, hXW, hX, hCO, ho⟩ := C
  have hM := MetJ l hok hCO how (av := (.ref (B + a) :: as)) (by simp; exact hfit) (fun v hv => (List.mem_cons.mp hv).elim (fun e => by rw [e]; rfl) (hcat v)) hC
  have hnp2 : (parseMethodDescriptor (M_nm y').desc).map (fun d => d.parameters.length) = some (M_np y') := hok.2.2.2.2.2
  subst hst
  refine jj_after (mc' := mc') (ms' := ms') C0 P S L k1 k2 k3 k4 hb1 hb2 (va_runI (As := as) (rest := rest) ⟨hx, hb, hml, hown, hts⟩ hM ⟨callB_of (bytes := M_by y') (maxL := M_ml y') (ret := none) (ws' := tW) (M_np y') hts (gdW (wsJ_in hok)) (by rw [← hvoid]) rfl rfl (hts _ hok.2.2.2.2.1) (hts _ hl.1) ⟨hok.2.2.2.1.1, hok.2.2.2.1.2, hnp2⟩ (roomOk.use hrm hfr hlo), hl.2.2, hts _ hl.2.1⟩ ⟨PcJ.blind, fun U hU hW => ⟨rfl, by rw [hU]; exact P, va_K.moved hW.alike hK, XW.moved hW hXW⟩⟩ rfl hnp L.1 rfl (lv_room hrest) (hT.at hd rfl) ⟨by omega, by omega⟩) K
theorem jj_cIN {X : State → Prop} {G : GC} {B : Nat} {y : MT} {pc : Nat} {lv : List (Option Value)} {st rest : List Value} {n : Nat} {h : HT} {kc ks : Nat} {post : Option Value → Nat → HT → Prop} {y' : MT} {idx mc' ms' n' : Nat} {h' : HT} {as : List Value} {r : Option Value} {a : Nat} (hd : lk (M_tb y) pc = some (.invokespecial idx)) (hok : MOk y') (how : OwnOk y') (hrm : roomOk y y' = true) (hl : LkIN y idx y') (hvoid : M_rt y' = none) (hst : st = as.reverse ++ .ref (B + a) :: rest)  (hnp : as.length = M_np y') (hcat : ∀ v ∈ as, v.category = 1) (hfit : as.length + 1 ≤ M_ml y') (hrest : (rest.map fun v => v.category).sum ≤ 8) (hb1 : mc' ≤ kc) (hb2 : ms' ≤ ks)
    (hC : CtJ G B y' (.ref (B + a) :: as) n h mc' ms' (eqP r n' h')) (K : JJ X G B y (pc + 3) lv (r.toList ++ rest) n' h' (kc - mc') (ks - ms') post) : JJ X G B y pc lv st n h kc ks post := by
  intro p l e R s m args below meth c H locs cells slots ls mc ms C P S L k1 k2 k3 k4
  have C0 := C
  obtain ⟨hx, hb, hr, hml, hown, hts, hlk, hnm, hK, hB, hfr, hlo, hT, hXW, hX, hCO, ho⟩ := C
  have hM := MetJ l hok hCO how (av := (.ref (B + a) :: as)) (by simp; exact hfit) (fun v hv => (List.mem_cons.mp hv).elim (fun e => by rw [e]; rfl) (hcat v)) hC
  have hnp2 : (parseMethodDescriptor (M_nm y').desc).map (fun d => d.parameters.length) = some (M_np y') := hok.2.2.2.2.2
  subst hst
  refine jj_after (mc' := mc') (ms' := ms') C0 P S L k1 k2 k3 k4 hb1 hb2 (va_runIN (As := as) (rest := rest) ⟨hx, hb, hml, hown, hts⟩ hM ⟨va_cnB (bytes := M_by y') (maxL := M_ml y') (ret := none) (ws' := tW) (M_np y') hts (gdW (wsJ_in hok)) (by rw [← hvoid]) rfl rfl (hXW.1 _ hl.1) (hts _ hok.2.2.2.2.1) ⟨hok.2.2.2.1.1, hok.2.2.2.1.2, hnp2⟩ (roomOk.use hrm hfr hlo), hl.2.2, hts _ hl.2.1⟩ ⟨PcJ.blind, fun U hU hW => ⟨rfl, by rw [hU]; exact P, va_K.moved hW.alike hK, XW.moved hW hXW⟩⟩ rfl hnp L.1 rfl (lv_room hrest) (hT.at hd rfl) ⟨by omega, by omega⟩) K
theorem jj_cSN {X : State → Prop} {G : GC} {B : Nat} {y : MT} {pc : Nat} {lv : List (Option Value)} {st rest : List Value} {n : Nat} {h : HT} {kc ks : Nat} {post : Option Value → Nat → HT → Prop} {y' : MT} {idx mc' ms' n' : Nat} {h' : HT} {as : List Value} {r : Option Value}  (hd : lk (M_tb y) pc = some (.invokestatic idx)) (hok : MOk y') (how : OwnOk y') (hrm : roomOk y y' = true) (hl : LkSN y idx y') (hst : st = as.reverse ++ rest)  (hnp : as.length = M_np y') (hcat : ∀ v ∈ as, v.category = 1) (hfit : as.length + 0 ≤ M_ml y') (hrest : (rest.map fun v => v.category).sum ≤ 8) (hb1 : mc' ≤ kc) (hb2 : ms' ≤ ks)
    (hC : CtJ G B y' as n h mc' ms' (eqP r n' h')) (K : JJ X G B y (pc + 3) lv (r.toList ++ rest) n' h' (kc - mc') (ks - ms') post) : JJ X G B y pc lv st n h kc ks post := by
  intro p l e R s m args below meth c H locs cells slots ls mc ms C P S L k1 k2 k3 k4
  have C0 := C
  obtain ⟨hx, hb, hr, hml, hown, hts, hlk, hnm, hK, hB, hfr, hlo, hT, hXW, hX, hCO, ho⟩ := C
  have hM := MetJ l hok hCO how (av := as) (by simpa using hfit) hcat hC
  have hnp2 : (parseMethodDescriptor (M_nm y').desc).map (fun d => d.parameters.length) = some (M_np y') := hok.2.2.2.2.2
  subst hst
  refine jj_after (mc' := mc') (ms' := ms') C0 P S L k1 k2 k3 k4 hb1 hb2 (va_runSN (As := as) (rest := rest) ⟨hx, hb, hml, hown, hts⟩ hM ⟨va_cnB (ws' := tW) (M_np y') hts (gdW (wsJ_in hok)) rfl rfl rfl (hXW.1 _ hl.1) (hts _ hok.2.2.2.2.1) ⟨hok.2.2.2.1.1, hok.2.2.2.1.2, hnp2⟩ (roomOk.use hrm hfr hlo), hts _ hl.2, trivial⟩ ⟨PcJ.blind, fun U hU hW => ⟨rfl, by rw [hU]; exact P, va_K.moved hW.alike hK, XW.moved hW hXW⟩⟩ rfl hnp L.1 rfl (lv_room hrest) (hT.at hd rfl) ⟨by omega, by omega⟩) K
theorem jj_oinit {X : State → Prop} {G : GC} {B : Nat} {y : MT} {pc : Nat} {lv : List (Option Value)} {st : List Value} {n : Nat} {h : HT} {kc ks : Nat} {post : Option Value → Nat → HT → Prop} {idx a : Nat} (hd : lk (M_tb y) pc = some (.invokespecial idx)) (hl : Cond.methodLink (M_nm y).cls idx objectInit ∈ tW) (hi : Cond.instanceMethod objectInit ∈ tW) (hcd : Cond.code objectInit ⟨#[0xb1]⟩ 1 none ∈ tW) (hf1 : 1 ≤ M_fr y) (hf2 : (st.map fun v => v.category).sum + 12 ≤ M_lo y) (K : JJ X G B y (pc + 3) lv st n h kc ks post) : JJ X G B y pc lv (.ref a :: st) n h kc ks post := by
  intro p l e R s m args below meth c H locs cells slots ls mc ms C P S L k1 k2 k3 k4
  have C0 := C
  obtain ⟨hx, hb, hr, hml, hown, hts, hlk, hnm, hK, hB, hfr, hlo, hT, hXW, hX, hCO, ho⟩ := C
  exact W.objInit hx hb hown (hts _ hl) (hts _ hi) (hts _ hcd) rfl (by rw [hml]; exact L.1) rfl (hT.at hd rfl) (Nat.le_trans hf1 hfr) (by show 2 * 0 + _ + 12 ≤ _; omega) (K p l e R s m args below meth c H locs cells slots ls mc ms C0 P S L k1 k2 k3 k4)
theorem jj_max {X : State → Prop} {G : GC} {B : Nat} {y : MT} {pc : Nat} {lv : List (Option Value)} {st : List Value} {n : Nat} {h : HT} {kc ks : Nat} {post : Option Value → Nat → HT → Prop} {idx : Nat} {x w : Int32} (hd : lk (M_tb y) pc = some (.invokestatic idx)) (hl : Cond.methodLink (M_nm y).cls idx Lib.Math.max.name ∈ tW) (h1 : Cond.static Lib.Math.max.name ∈ tW) (h2 : Cond.initialized "java/lang/Math" ∈ tW) (h3 : Cond.code Lib.Math.max.name Lib.Math.max.code 2 (some .int) ∈ tW) (hf1 : 1 ≤ M_fr y) (hf2 : (st.map fun v => v.category).sum + 13 ≤ M_lo y) (K : JJ X G B y (pc + 3) lv (.int (if x < w then w else x) :: st) n h kc ks post) : JJ X G B y pc lv (.int w :: .int x :: st) n h kc ks post := by
  intro p l e R s m args below meth c H locs cells slots ls mc ms C P S L k1 k2 k3 k4
  have C0 := C
  obtain ⟨hx, hb, hr, hml, hown, hts, hlk, hnm, hK, hB, hfr, hlo, hT, hXW, hX, hCO, ho⟩ := C
  exact va_mmax hx hb (by rw [hml, L.1]) hown (hts _ hl) (hts _ h1) (hts _ h2) (hts _ h3) (Nat.le_trans hf1 hfr) (by omega) (by omega) (by omega) (hT.at hd rfl) (K p l e R s m args below meth c H locs cells slots ls mc ms C0 P S L k1 k2 k3 k4)
theorem jj_newi {X : State → Prop} {G : GC} {B : Nat} {y : MT} {pc : Nat} {lv : List (Option Value)} {st : List Value} {n : Nat} {h : HT} {kc ks : Nat} {post : Option Value → Nat → HT → Prop} {v : Int32} (N : Nat) (hd : lk (M_tb y) pc = some (.newarray .int)) (ha : Cond.arrayClass .int ∈ tW) (hn : ¬ v < 0) (hN : v.toNatClampNeg = N) (hby : N * 4 ≤ 536870912) (K : JJ X G B y (pc + 2) lv (.ref (B + n) :: st) (n + 1) (hu h n (ia N (fun _ => 0))) kc ks post) : JJ X G B y pc lv (.int v :: st) n h (kc + 1) (ks + N) post := by
  intro p l e R s m args below meth c H locs cells slots ls mc ms C P S L k1 k2 k3 k4
  have C0 := C
  obtain ⟨hx, hb, hr, hml, hown, hts, hlk, hnm, hK, hB, hfr, hlo, hT, hXW, hX, hCO, ho⟩ := C
  refine va_newaK (atype := .int) hx hb (hts _ ha) rfl (hT.at hd rfl) rfl hn hN hby (by omega) (by omega) P.2.1 fun H1 cA e1 z1 o1 hAr hNm => ?_
  have hcA : cA = G.2.1 := Option.some.inj (hNm.symm.trans (hK.2 0 _ rfl).2)
  subst hcA
  have hk : ∀ (k : Nat) (x : Nat × va_E), (wd G B n h)[k]? = some x → H1[x.1]? = H[x.1]? := fun k x hx => o1 x.1 (by have := (P.1 k x hx).lt; rw [P.2.1] at this; exact this)
  have hP' : va_P G.1 clG (wd G B n h ++ [(B + n, cvE G (ia N (fun _ => 0)))]) H1 := (P.1.kept hk).app (fun k x hx => by
    have hz : k < 1 := (List.getElem?_eq_some_iff.mp hx).1
    rw [show k = 0 by omega] at hx
    cases hx
    exact e1)
  exact K p l e R s m args below meth c H1 locs (cells + 1) (slots + N) ls mc ms C0 ⟨by rw [← wd_push]; exact hP', by rw [z1]; omega, P.2.2.push⟩ ⟨by rw [z1]; have := S.1; rw [P.2.1] at this; omega, fun q g1 g2 => by rw [o1 q (by have := S.1; rw [P.2.1] at this; omega)]; exact S.2.1 q g1 g2, S.2.2⟩ L (by omega) (by omega) k3 k4
theorem jj_newl {X : State → Prop} {G : GC} {B : Nat} {y : MT} {pc : Nat} {lv : List (Option Value)} {st : List Value} {n : Nat} {h : HT} {kc ks : Nat} {post : Option Value → Nat → HT → Prop} {v : Int32} (N : Nat) (hd : lk (M_tb y) pc = some (.newarray .long)) (ha : Cond.arrayClass .long ∈ tW) (hn : ¬ v < 0) (hN : v.toNatClampNeg = N) (hby : N * 8 ≤ 536870912) (K : JJ X G B y (pc + 2) lv (.ref (B + n) :: st) (n + 1) (hu h n (la N (fun _ => 0))) kc ks post) : JJ X G B y pc lv (.int v :: st) n h (kc + 1) (ks + N) post := by
  intro p l e R s m args below meth c H locs cells slots ls mc ms C P S L k1 k2 k3 k4
  have C0 := C
  obtain ⟨hx, hb, hr, hml, hown, hts, hlk, hnm, hK, hB, hfr, hlo, hT, hXW, hX, hCO, ho⟩ := C
  refine va_newaK (atype := .long) hx hb (hts _ ha) rfl (hT.at hd rfl) rfl hn hN hby (by omega) (by omega) P.2.1 fun H1 cA e1 z1 o1 hAr hNm => ?_
  have hcA : cA = G.2.2.1 := Option.some.inj (hNm.symm.trans (hK.2 1 _ rfl).2)
  subst hcA
  have hk : ∀ (k : Nat) (x : Nat × va_E), (wd G B n h)[k]? = some x → H1[x.1]? = H[x.1]? := fun k x hx => o1 x.1 (by have := (P.1 k x hx).lt; rw [P.2.1] at this; exact this)
  have hP' : va_P G.1 clG (wd G B n h ++ [(B + n, cvE G (la N (fun _ => 0)))]) H1 := (P.1.kept hk).app (fun k x hx => by
    have hz : k < 1 := (List.getElem?_eq_some_iff.mp hx).1
    rw [show k = 0 by omega] at hx
    cases hx
    exact e1)
  exact K p l e R s m args below meth c H1 locs (cells + 1) (slots + N) ls mc ms C0 ⟨by rw [← wd_push]; exact hP', by rw [z1]; omega, P.2.2.push⟩ ⟨by rw [z1]; have := S.1; rw [P.2.1] at this; omega, fun q g1 g2 => by rw [o1 q (by have := S.1; rw [P.2.1] at this; omega)]; exact S.2.1 q g1 g2, S.2.2⟩ L (by omega) (by omega) k3 k4
theorem jj_new {X : State → Prop} {G : GC} {B : Nat} {y : MT} {pc : Nat} {lv : List (Option Value)} {st : List Value} {n : Nat} {h : HT} {kc ks : Nat} {post : Option Value → Nat → HT → Prop} {idx ci N : Nat} {Cn : String} {Tn : u_T} (fs : List Value) (hd : lk (M_tb y) pc = some (.new idx)) (hq : clG[ci]? = some (Cn, Tn, N)) (hcl : Cond.classLink (M_nm y).cls idx Cn ∈ tW) (hin : Cond.instantiable Cn N ∈ tW) (hini : Cond.initialized Cn ∈ tW) (hfs : ∀ j, j < N → defaultValue (tyG ci j) = vp_V fs j) (K : JJ X G B y (pc + 3) lv (.ref (B + n) :: st) (n + 1) (hu h n (ob ci fs)) kc ks post) : JJ X G B y pc lv st n h (kc + 1) (ks + N) post := by
  intro p l e R s m args below meth c H locs cells slots ls mc ms C P S L k1 k2 k3 k4
  have C0 := C
  obtain ⟨hx, hb, hr, hml, hown, hts, hlk, hnm, hK, hB, hfr, hlo, hT, hXW, hX, hCO, ho⟩ := C
  have hKn := hK.1 ci _ hq
  obtain ⟨c1, c2, c3⟩ := hCO ci _ hq
  refine W.newcK hx hb hown (hts _ hcl) (hts _ hin) (hts _ hini) rfl (hT.at hd rfl) (by omega) (by omega) hKn.2.1 P.2.1 fun H1 kC hkC e1 z1 o1 => ?_
  have hk : ∀ (k : Nat) (x : Nat × va_E), (wd G B n h)[k]? = some x → H1[x.1]? = H[x.1]? := fun k x hx => o1 x.1 (by have := (P.1 k x hx).lt; rw [P.2.1] at this; exact this)
  have hP' : va_P G.1 clG (wd G B n h ++ [(B + n, cvE G (ob ci fs))]) H1 := (P.1.kept hk).app (fun k x hx => by
    have hz : k < 1 := (List.getElem?_eq_some_iff.mp hx).1
    rw [show k = 0 by omega] at hx
    cases hx
    exact ⟨_, hq, (u_born (tyG ci) hts c1 hKn hkC e1 c2).to hfs⟩)
  exact K p l e R s m args below meth c H1 locs (cells + 1) (slots + N) ls mc ms C0 ⟨by rw [← wd_push]; exact hP', by rw [z1]; omega, P.2.2.push⟩ ⟨by rw [z1]; have := S.1; rw [P.2.1] at this; omega, fun q g1 g2 => by rw [o1 q (by have := S.1; rw [P.2.1] at this; omega)]; exact S.2.1 q g1 g2, S.2.2⟩ L (by omega) (by omega) k3 k4
theorem jj_newq {X : State → Prop} {G : GC} {B : Nat} {y : MT} {pc : Nat} {lv : List (Option Value)} {st : List Value} {n : Nat} {h : HT} {kc ks : Nat} {post : Option Value → Nat → HT → Prop} {idx : Nat} {v : Int32} (N : Nat) (hd : lk (M_tb y) pc = some (.anewarray idx)) (hcl : Cond.classLink (M_nm y).cls idx "DependencyQueue$Queue" ∈ tW) (hn : ¬ v < 0) (hN : v.toNatClampNeg = N) (hby : N * 4 ≤ 536870912) (K : JJ X G B y (pc + 3) lv (.ref (B + n) :: st) (n + 1) (hu h n (qa N (fun _ => none))) kc ks post) : JJ X G B y pc lv (.int v :: st) n h (kc + 1) (ks + N) post := by
  intro p l e R s m args below meth c H locs cells slots ls mc ms C P S L k1 k2 k3 k4
  have C0 := C
  obtain ⟨hx, hb, hr, hml, hown, hts, hlk, hnm, hK, hB, hfr, hlo, hT, hXW, hX, hCO, ho⟩ := C
  subst hN
  refine W.anew hx hb hown (hts _ hcl) (va_AO.use hXW.2) rfl (hT.at hd rfl) rfl hn hby (by omega) (by omega) fun cA kA comp f1 f2 f3 f4 => ?_
  obtain ⟨kA', comp', q1, q2, q3, q4⟩ := (hK.2 2 _ rfl).2
  have hcA : cA = G.2.2.2 := Option.some.inj (f1.symm.trans q4)
  subst hcA
  generalize hH1 : H.push ({ cls := G.2.2.2, slots := Array.replicate v.toNatClampNeg .null, vm := .none } : Cell) = H1
  have z1 : H1.size = H.size + 1 := by rw [← hH1, Array.size_push]
  have e1 : H1[H.size]? = some (arrV G.2.2.2 v.toNatClampNeg (fun _ => .null)) := by rw [← hH1, Array.getElem?_push_size, ← arrV_new]
  have o1 : ∀ q : Nat, q < H.size → H1[q]? = H[q]? := fun q hq => by rw [← hH1, Array.getElem?_push, if_neg (Nat.ne_of_lt hq)]
  have hk : ∀ (k : Nat) (x : Nat × va_E), (wd G B n h)[k]? = some x → H1[x.1]? = H[x.1]? := fun k x hx => o1 x.1 ((P.1 k x hx).lt)
  have hP' : va_P G.1 clG (wd G B n h ++ [(B + n, cvE G (qa v.toNatClampNeg (fun _ => none)))]) H1 := (P.1.kept hk).app (fun k x hx => by
    have hz : k < 1 := (List.getElem?_eq_some_iff.mp hx).1
    rw [show k = 0 by omega] at hx
    cases hx
    rw [P.2.1] at e1
    exact e1)
  rw [P.2.1] at z1 ⊢
  exact K p l e R s m args below meth c H1 locs (cells + 1) (slots + v.toNatClampNeg) ls mc ms C0 ⟨by rw [← wd_push]; exact hP', by rw [z1]; omega, P.2.2.push⟩ ⟨by rw [z1]; have := S.1; rw [P.2.1] at this; omega, fun q g1 g2 => by rw [o1 q (by have := S.1; omega)]; exact S.2.1 q g1 g2, S.2.2⟩ L (by omega) (by omega) k3 k4
theorem jj_aast {X : State → Prop} {G : GC} {B : Nat} {y : MT} {pc : Nat} {lv : List (Option Value)} {st : List Value} {n : Nat} {h : HT} {kc ks : Nat} {post : Option Value → Nat → HT → Prop} {a a2 N : Nat} {vs : List Value} {f : Nat → Option Nat} {i : Int32} (hd : lk (M_tb y) pc = some .aastore) (hc : h a = some (qa N f)) (hc2 : h a2 = some (ob 5 vs)) (hi : vp_in i N) (K : JJ X G B y (pc + 1) lv st n (hu h a (qa N (va_up f i.toNatClampNeg (some (B + a2))))) kc ks post) : JJ X G B y pc lv (.ref (B + a2) :: .int i :: .ref (B + a) :: st) n h kc ks post := by
  intro p l e R s m args below meth c H locs cells slots ls mc ms C P S L k1 k2 k3 k4
  have C0 := C
  obtain ⟨hx, hb, hr, hml, hown, hts, hlk, hnm, hK, hB, hfr, hlo, hT, hXW, hX, hCO, ho⟩ := C
  have he := wd_get (G := G) (B := B) (P.2.2.lt hc) hc
  have he2 := wd_get (G := G) (B := B) (P.2.2.lt hc2) hc2
  have hlt : i.toNatClampNeg < N := Nat.not_le.mp fun q => hi (Or.inr q)
  have h0 : ¬ i < 0 := fun q => hi (Or.inl q)
  obtain ⟨r', hr', cellV, g1, g2, g3, -⟩ := P.1 a2 _ he2
  have hcls := (hK.1 5 _ rfl).2
  obtain ⟨kA, comp, q1, q2, q3, -⟩ := (hK.2 2 _ rfl).2
  have hcomp : comp = G.1.1 5 := Option.some.inj (q3.symm.trans hcls.1)
  subst hcomp
  obtain ⟨kC, hkC, -⟩ := hcls.2
  refine W.aast hx hb (P.1 a _ he) (fun q h => by cases h) (fun h => by cases h) q1 q2 rfl hkC ⟨h0, by show _ < (arrV _ _ _).slots.size; rw [arrV_size]; exact hlt⟩ g1 (fun q h => by rw [g3] at h; cases h) (by rw [g2]; exact hkC) (by rw [g2]; exact va_assign hcls) rfl rfl (hT.at hd rfl) fun H1 e1 z oq => ?_
  have hP' := P.1.set (e := cvE G (qa N (va_up f i.toNatClampNeg (some (B + a2))))) wd_D he ?_ oq
  · exact K p l e R s m args below meth c H1 _ cells slots ls mc ms C0 ⟨by rw [← wd_set]; exact hP', by rw [z]; exact P.2.1, P.2.2.set hc⟩ (S.put z oq (Nat.le_add_right _ _)) L k1 k2 k3 k4
  · show H1[B + a]? = some (vp_cell _ _)
    rw [e1]
    show some (Cell.setSlot (vp_cell _ _) _ _) = _
    rw [vp_cell_q, vp_cell_q, arrV_store]
    congr 2
    funext q
    by_cases hq : q = i.toNatClampNeg
    · subst hq
      simp [updV, va_up, va_rf]
    · simp [updV, va_up, hq]
end
section
/-! the tables' rows by their places -/
theorem tm1 {w : Cond} (i : Nat) (h : tables_1_1[i]? = some w) (g : goodWord w = true) : w ∈ tW := tW_in (List.mem_append_right _ (by have z := List.mem_of_getElem? h; exact List.mem_append_left _ z)) g
theorem tm2 {w : Cond} (i : Nat) (h : tables_1_2[i]? = some w) (g : goodWord w = true) : w ∈ tW := tW_in (List.mem_append_right _ (by have z := List.mem_of_getElem? h; exact List.mem_append_right _ (List.mem_append_left _ z))) g
theorem tm3 {w : Cond} (i : Nat) (h : tables_1_3[i]? = some w) (g : goodWord w = true) : w ∈ tW := tW_in (List.mem_append_right _ (by have z := List.mem_of_getElem? h; exact List.mem_append_right _ (List.mem_append_right _ (List.mem_append_left _ z)))) g
theorem tm4 {w : Cond} (i : Nat) (h : tables_1_4[i]? = some w) (g : goodWord w = true) : w ∈ tW := tW_in (List.mem_append_right _ (by have z := List.mem_of_getElem? h; exact List.mem_append_right _ (List.mem_append_right _ (List.mem_append_right _ (List.mem_append_left _ z))))) g
theorem tm5 {w : Cond} (i : Nat) (h : tables_1_5[i]? = some w) (g : goodWord w = true) : w ∈ tW := tW_in (List.mem_append_right _ (by have z := List.mem_of_getElem? h; exact List.mem_append_right _ (List.mem_append_right _ (List.mem_append_right _ (List.mem_append_right _ z))))) g
theorem pm1 {q : MethodName × Nat} (i : Nat) (h : lw_privs_1[i]? = some q) : Cond.selects q.1.cls q.1 q.1 ∈ tW := tW_in (List.mem_append_left _ (List.mem_map_of_mem (f := fun q : MethodName × Nat => Cond.selects q.1.cls q.1 q.1) (by have z := List.mem_of_getElem? h; exact List.mem_append_left _ z))) rfl
theorem pm2 {q : MethodName × Nat} (i : Nat) (h : lw_privs_2[i]? = some q) : Cond.selects q.1.cls q.1 q.1 ∈ tW := tW_in (List.mem_append_left _ (List.mem_map_of_mem (f := fun q : MethodName × Nat => Cond.selects q.1.cls q.1 q.1) (by have z := List.mem_of_getElem? h; exact List.mem_append_right _ (List.mem_append_left _ z)))) rfl
theorem pm3 {q : MethodName × Nat} (i : Nat) (h : lw_privs_3[i]? = some q) : Cond.selects q.1.cls q.1 q.1 ∈ tW := tW_in (List.mem_append_left _ (List.mem_map_of_mem (f := fun q : MethodName × Nat => Cond.selects q.1.cls q.1 q.1) (by have z := List.mem_of_getElem? h; exact List.mem_append_right _ (List.mem_append_right _ (List.mem_append_left _ z))))) rfl
theorem pm4 {q : MethodName × Nat} (i : Nat) (h : lw_privs_4[i]? = some q) : Cond.selects q.1.cls q.1 q.1 ∈ tW := tW_in (List.mem_append_left _ (List.mem_map_of_mem (f := fun q : MethodName × Nat => Cond.selects q.1.cls q.1 q.1) (by have z := List.mem_of_getElem? h; exact List.mem_append_right _ (List.mem_append_right _ (List.mem_append_right _ z))))) rfl
-- classes
theorem cn0 : plainName RX0 = true ∧ RX0 ≠ "java/lang/invoke/MethodHandle" ∧ RX0 ≠ "java/lang/invoke/VarHandle" := by decide +kernel
theorem ci0 : Cond.initialized RX0 ∈ tW := (tm1 10 rfl rfl)
theorem in0 : ∀ w ∈ u_ws RX0 TX0 0, w ∈ tW := by
  intro w hw
  obtain ⟨j, hj, rfl⟩ := List.mem_map.mp hw
  have hj := List.mem_range.mp hj
  omega
theorem cn1 : plainName RX1 = true ∧ RX1 ≠ "java/lang/invoke/MethodHandle" ∧ RX1 ≠ "java/lang/invoke/VarHandle" := by decide +kernel
theorem ci1 : Cond.initialized RX1 ∈ tW := (tm1 6 rfl rfl)
theorem in1 : ∀ w ∈ u_ws RX1 TX1 3, w ∈ tW := by
  intro w hw
  obtain ⟨j, hj, rfl⟩ := List.mem_map.mp hw
  have hj := List.mem_range.mp hj
  match j, hj with
  | 0, _ => exact (tm1 182 rfl rfl)
  | 1, _ => exact (tm1 184 rfl rfl)
  | 2, _ => exact (tm1 186 rfl rfl)
  | j + 3, hj => exact absurd hj (by omega)
theorem cn2 : plainName RX2 = true ∧ RX2 ≠ "java/lang/invoke/MethodHandle" ∧ RX2 ≠ "java/lang/invoke/VarHandle" := by decide +kernel
theorem ci2 : Cond.initialized RX2 ∈ tW := (tm1 7 rfl rfl)
theorem in2 : ∀ w ∈ u_ws RX2 TX2 3, w ∈ tW := by
  intro w hw
  obtain ⟨j, hj, rfl⟩ := List.mem_map.mp hw
  have hj := List.mem_range.mp hj
  match j, hj with
  | 0, _ => exact (tm1 198 rfl rfl)
  | 1, _ => exact (tm1 200 rfl rfl)
  | 2, _ => exact (tm1 202 rfl rfl)
  | j + 3, hj => exact absurd hj (by omega)
theorem cn3 : plainName RX3 = true ∧ RX3 ≠ "java/lang/invoke/MethodHandle" ∧ RX3 ≠ "java/lang/invoke/VarHandle" := by decide +kernel
theorem ci3 : Cond.initialized RX3 ∈ tW := (tm1 3 rfl rfl)
theorem in3 : ∀ w ∈ u_ws RX3 TX3 4, w ∈ tW := by
  intro w hw
  obtain ⟨j, hj, rfl⟩ := List.mem_map.mp hw
  have hj := List.mem_range.mp hj
  match j, hj with
  | 0, _ => exact (tm1 113 rfl rfl)
  | 1, _ => exact (tm1 115 rfl rfl)
  | 2, _ => exact (tm1 117 rfl rfl)
  | 3, _ => exact (tm1 119 rfl rfl)
  | j + 4, hj => exact absurd hj (by omega)
theorem cn4 : plainName RX4 = true ∧ RX4 ≠ "java/lang/invoke/MethodHandle" ∧ RX4 ≠ "java/lang/invoke/VarHandle" := by decide +kernel
theorem ci4 : Cond.initialized RX4 ∈ tW := (tm1 5 rfl rfl)
theorem in4 : ∀ w ∈ u_ws RX4 TX4 8, w ∈ tW := by
  intro w hw
  obtain ⟨j, hj, rfl⟩ := List.mem_map.mp hw
  have hj := List.mem_range.mp hj
  match j, hj with
  | 0, _ => exact (tm1 156 rfl rfl)
  | 1, _ => exact (tm1 158 rfl rfl)
  | 2, _ => exact (tm1 160 rfl rfl)
  | 3, _ => exact (tm1 162 rfl rfl)
  | 4, _ => exact (tm1 164 rfl rfl)
  | 5, _ => exact (tm1 166 rfl rfl)
  | 6, _ => exact (tm1 168 rfl rfl)
  | 7, _ => exact (tm1 170 rfl rfl)
  | j + 8, hj => exact absurd hj (by omega)
theorem cn5 : plainName RX5 = true ∧ RX5 ≠ "java/lang/invoke/MethodHandle" ∧ RX5 ≠ "java/lang/invoke/VarHandle" := by decide +kernel
theorem ci5 : Cond.initialized RX5 ∈ tW := (tm1 2 rfl rfl)
theorem in5 : ∀ w ∈ u_ws RX5 TX5 18, w ∈ tW := by
  intro w hw
  obtain ⟨j, hj, rfl⟩ := List.mem_map.mp hw
  have hj := List.mem_range.mp hj
  match j, hj with
  | 0, _ => exact (tm1 64 rfl rfl)
  | 1, _ => exact (tm1 66 rfl rfl)
  | 2, _ => exact (tm1 68 rfl rfl)
  | 3, _ => exact (tm1 70 rfl rfl)
  | 4, _ => exact (tm1 72 rfl rfl)
  | 5, _ => exact (tm1 74 rfl rfl)
  | 6, _ => exact (tm1 76 rfl rfl)
  | 7, _ => exact (tm1 78 rfl rfl)
  | 8, _ => exact (tm1 80 rfl rfl)
  | 9, _ => exact (tm1 82 rfl rfl)
  | 10, _ => exact (tm1 84 rfl rfl)
  | 11, _ => exact (tm1 86 rfl rfl)
  | 12, _ => exact (tm1 88 rfl rfl)
  | 13, _ => exact (tm1 90 rfl rfl)
  | 14, _ => exact (tm1 92 rfl rfl)
  | 15, _ => exact (tm1 94 rfl rfl)
  | 16, _ => exact (tm1 96 rfl rfl)
  | 17, _ => exact (tm1 98 rfl rfl)
  | j + 18, hj => exact absurd hj (by omega)
theorem cn6 : plainName RX6 = true ∧ RX6 ≠ "java/lang/invoke/MethodHandle" ∧ RX6 ≠ "java/lang/invoke/VarHandle" := by decide +kernel
theorem ci6 : Cond.initialized RX6 ∈ tW := (tm1 8 rfl rfl)
theorem in6 : ∀ w ∈ u_ws RX6 TX6 4, w ∈ tW := by
  intro w hw
  obtain ⟨j, hj, rfl⟩ := List.mem_map.mp hw
  have hj := List.mem_range.mp hj
  match j, hj with
  | 0, _ => exact (tm1 220 rfl rfl)
  | 1, _ => exact (tm1 222 rfl rfl)
  | 2, _ => exact (tm1 224 rfl rfl)
  | 3, _ => exact (tm1 226 rfl rfl)
  | j + 4, hj => exact absurd hj (by omega)
theorem cn7 : plainName RX7 = true ∧ RX7 ≠ "java/lang/invoke/MethodHandle" ∧ RX7 ≠ "java/lang/invoke/VarHandle" := by decide +kernel
theorem ci7 : Cond.initialized RX7 ∈ tW := (tm1 4 rfl rfl)
theorem in7 : ∀ w ∈ u_ws RX7 TX7 3, w ∈ tW := by
  intro w hw
  obtain ⟨j, hj, rfl⟩ := List.mem_map.mp hw
  have hj := List.mem_range.mp hj
  match j, hj with
  | 0, _ => exact (tm1 133 rfl rfl)
  | 1, _ => exact (tm1 135 rfl rfl)
  | 2, _ => exact (tm1 137 rfl rfl)
  | j + 3, hj => exact absurd hj (by omega)
theorem cn8 : plainName RX8 = true ∧ RX8 ≠ "java/lang/invoke/MethodHandle" ∧ RX8 ≠ "java/lang/invoke/VarHandle" := by decide +kernel
theorem ci8 : Cond.initialized RX8 ∈ tW := (tm1 1 rfl rfl)
theorem in8 : ∀ w ∈ u_ws RX8 TX8 8, w ∈ tW := by
  intro w hw
  obtain ⟨j, hj, rfl⟩ := List.mem_map.mp hw
  have hj := List.mem_range.mp hj
  match j, hj with
  | 0, _ => exact (tm1 237 rfl rfl)
  | 1, _ => exact (tm1 239 rfl rfl)
  | 2, _ => exact (tm2 1 rfl rfl)
  | 3, _ => exact (tm2 3 rfl rfl)
  | 4, _ => exact (tm2 5 rfl rfl)
  | 5, _ => exact (tm2 7 rfl rfl)
  | 6, _ => exact (tm2 9 rfl rfl)
  | 7, _ => exact (tm2 11 rfl rfl)
  | j + 8, hj => exact absurd hj (by omega)
theorem cn9 : plainName RX9 = true ∧ RX9 ≠ "java/lang/invoke/MethodHandle" ∧ RX9 ≠ "java/lang/invoke/VarHandle" := by decide +kernel
theorem ci9 : Cond.initialized RX9 ∈ tW := (tm1 9 rfl rfl)
theorem in9 : ∀ w ∈ u_ws RX9 TX9 26, w ∈ tW := by
  intro w hw
  obtain ⟨j, hj, rfl⟩ := List.mem_map.mp hw
  have hj := List.mem_range.mp hj
  match j, hj with
  | 0, _ => exact (tm4 37 rfl rfl)
  | 1, _ => exact (tm4 39 rfl rfl)
  | 2, _ => exact (tm4 41 rfl rfl)
  | 3, _ => exact (tm4 43 rfl rfl)
  | 4, _ => exact (tm4 45 rfl rfl)
  | 5, _ => exact (tm4 47 rfl rfl)
  | 6, _ => exact (tm4 49 rfl rfl)
  | 7, _ => exact (tm4 51 rfl rfl)
  | 8, _ => exact (tm4 53 rfl rfl)
  | 9, _ => exact (tm4 55 rfl rfl)
  | 10, _ => exact (tm4 57 rfl rfl)
  | 11, _ => exact (tm4 59 rfl rfl)
  | 12, _ => exact (tm4 61 rfl rfl)
  | 13, _ => exact (tm4 63 rfl rfl)
  | 14, _ => exact (tm4 65 rfl rfl)
  | 15, _ => exact (tm4 67 rfl rfl)
  | 16, _ => exact (tm4 69 rfl rfl)
  | 17, _ => exact (tm4 71 rfl rfl)
  | 18, _ => exact (tm4 73 rfl rfl)
  | 19, _ => exact (tm4 75 rfl rfl)
  | 20, _ => exact (tm4 77 rfl rfl)
  | 21, _ => exact (tm4 79 rfl rfl)
  | 22, _ => exact (tm4 81 rfl rfl)
  | 23, _ => exact (tm4 83 rfl rfl)
  | 24, _ => exact (tm4 85 rfl rfl)
  | 25, _ => exact (tm4 87 rfl rfl)
  | j + 26, hj => exact absurd hj (by omega)
theorem CO_all : ∀ ci q, clG[ci]? = some q → CO ci q := by
  intro ci q hq
  match ci, hq with
  | 0, hq => cases hq; exact ⟨in0, tyX0_ok, nmX0⟩
  | 1, hq => cases hq; exact ⟨in1, tyX1_ok, nmX1⟩
  | 2, hq => cases hq; exact ⟨in2, tyX2_ok, nmX2⟩
  | 3, hq => cases hq; exact ⟨in3, tyX3_ok, nmX3⟩
  | 4, hq => cases hq; exact ⟨in4, tyX4_ok, nmX4⟩
  | 5, hq => cases hq; exact ⟨in5, tyX5_ok, nmX5⟩
  | 6, hq => cases hq; exact ⟨in6, tyX6_ok, nmX6⟩
  | 7, hq => cases hq; exact ⟨in7, tyX7_ok, nmX7⟩
  | 8, hq => cases hq; exact ⟨in8, tyX8_ok, nmX8⟩
  | 9, hq => cases hq; exact ⟨in9, tyX9_ok, nmX9⟩
-- fields
theorem fl8_10 : FLc 8 10 8 0 := ⟨_, _, rfl, rfl, by decide, (tm1 229 rfl rfl)⟩
theorem fl8_16 : FLc 8 16 8 1 := ⟨_, _, rfl, rfl, by decide, (tm1 230 rfl rfl)⟩
theorem fl8_25 : FLc 8 25 8 2 := ⟨_, _, rfl, rfl, by decide, (tm1 231 rfl rfl)⟩
theorem fl8_32 : FLc 8 32 8 3 := ⟨_, _, rfl, rfl, by decide, (tm1 232 rfl rfl)⟩
theorem fl8_39 : FLc 8 39 8 4 := ⟨_, _, rfl, rfl, by decide, (tm1 233 rfl rfl)⟩
theorem fl8_46 : FLc 8 46 8 5 := ⟨_, _, rfl, rfl, by decide, (tm1 234 rfl rfl)⟩
theorem fl8_53 : FLc 8 53 8 6 := ⟨_, _, rfl, rfl, by decide, (tm1 235 rfl rfl)⟩
theorem fl8_60 : FLc 8 60 8 7 := ⟨_, _, rfl, rfl, by decide, (tm1 236 rfl rfl)⟩
theorem fl8_112 : FLc 8 112 7 0 := ⟨_, _, rfl, rfl, by decide, (tm1 129 rfl rfl)⟩
theorem fl8_116 : FLc 8 116 7 1 := ⟨_, _, rfl, rfl, by decide, (tm1 131 rfl rfl)⟩
theorem fl8_130 : FLc 8 130 5 5 := ⟨_, _, rfl, rfl, by decide, (tm1 41 rfl rfl)⟩
theorem fl8_133 : FLc 8 133 5 2 := ⟨_, _, rfl, rfl, by decide, (tm1 36 rfl rfl)⟩
theorem fl8_136 : FLc 8 136 5 3 := ⟨_, _, rfl, rfl, by decide, (tm1 38 rfl rfl)⟩
theorem fl8_139 : FLc 8 139 5 0 := ⟨_, _, rfl, rfl, by decide, (tm1 32 rfl rfl)⟩
theorem fl8_158 : FLc 8 158 5 15 := ⟨_, _, rfl, rfl, by decide, (tm1 61 rfl rfl)⟩
theorem fl8_168 : FLc 8 168 5 14 := ⟨_, _, rfl, rfl, by decide, (tm1 59 rfl rfl)⟩
theorem fl8_174 : FLc 8 174 5 10 := ⟨_, _, rfl, rfl, by decide, (tm1 52 rfl rfl)⟩
theorem fl8_177 : FLc 8 177 5 13 := ⟨_, _, rfl, rfl, by decide, (tm1 57 rfl rfl)⟩
theorem fl8_180 : FLc 8 180 5 1 := ⟨_, _, rfl, rfl, by decide, (tm1 34 rfl rfl)⟩
theorem fl8_196 : FLc 8 196 5 6 := ⟨_, _, rfl, rfl, by decide, (tm1 44 rfl rfl)⟩
theorem fl8_199 : FLc 8 199 5 7 := ⟨_, _, rfl, rfl, by decide, (tm1 46 rfl rfl)⟩
theorem fl8_202 : FLc 8 202 5 8 := ⟨_, _, rfl, rfl, by decide, (tm1 48 rfl rfl)⟩
theorem fl8_205 : FLc 8 205 5 9 := ⟨_, _, rfl, rfl, by decide, (tm1 50 rfl rfl)⟩
theorem fl8_208 : FLc 8 208 5 11 := ⟨_, _, rfl, rfl, by decide, (tm1 54 rfl rfl)⟩
theorem fl8_228 : FLc 8 228 4 0 := ⟨_, _, rfl, rfl, by decide, (tm1 147 rfl rfl)⟩
theorem fl8_229 : FLc 8 229 4 1 := ⟨_, _, rfl, rfl, by decide, (tm1 149 rfl rfl)⟩
theorem fl8_258 : FLc 8 258 6 0 := ⟨_, _, rfl, rfl, by decide, (tm1 215 rfl rfl)⟩
theorem fl8_264 : FLc 8 264 6 1 := ⟨_, _, rfl, rfl, by decide, (tm1 217 rfl rfl)⟩
theorem fl1_9 : FLc 1 9 1 0 := ⟨_, _, rfl, rfl, by decide, (tm1 179 rfl rfl)⟩
theorem fl1_15 : FLc 1 15 1 1 := ⟨_, _, rfl, rfl, by decide, (tm1 180 rfl rfl)⟩
theorem fl1_18 : FLc 1 18 1 2 := ⟨_, _, rfl, rfl, by decide, (tm1 181 rfl rfl)⟩
theorem fl2_9 : FLc 2 9 2 0 := ⟨_, _, rfl, rfl, by decide, (tm1 195 rfl rfl)⟩
theorem fl2_15 : FLc 2 15 2 1 := ⟨_, _, rfl, rfl, by decide, (tm1 196 rfl rfl)⟩
theorem fl2_19 : FLc 2 19 2 2 := ⟨_, _, rfl, rfl, by decide, (tm1 197 rfl rfl)⟩
theorem fl3_9 : FLc 3 9 3 1 := ⟨_, _, rfl, rfl, by decide, (tm1 110 rfl rfl)⟩
theorem fl3_15 : FLc 3 15 3 2 := ⟨_, _, rfl, rfl, by decide, (tm1 111 rfl rfl)⟩
theorem fl3_18 : FLc 3 18 3 3 := ⟨_, _, rfl, rfl, by decide, (tm1 112 rfl rfl)⟩
theorem fl3_21 : FLc 3 21 3 0 := ⟨_, _, rfl, rfl, by decide, (tm1 109 rfl rfl)⟩
theorem fl3_25 : FLc 3 25 5 0 := ⟨_, _, rfl, rfl, by decide, (tm1 29 rfl rfl)⟩
theorem fl4_9 : FLc 4 9 4 0 := ⟨_, _, rfl, rfl, by decide, (tm1 146 rfl rfl)⟩
theorem fl4_15 : FLc 4 15 4 1 := ⟨_, _, rfl, rfl, by decide, (tm1 148 rfl rfl)⟩
theorem fl4_19 : FLc 4 19 4 2 := ⟨_, _, rfl, rfl, by decide, (tm1 150 rfl rfl)⟩
theorem fl4_22 : FLc 4 22 4 3 := ⟨_, _, rfl, rfl, by decide, (tm1 151 rfl rfl)⟩
theorem fl4_25 : FLc 4 25 4 4 := ⟨_, _, rfl, rfl, by decide, (tm1 152 rfl rfl)⟩
theorem fl4_28 : FLc 4 28 4 5 := ⟨_, _, rfl, rfl, by decide, (tm1 153 rfl rfl)⟩
theorem fl4_31 : FLc 4 31 4 6 := ⟨_, _, rfl, rfl, by decide, (tm1 154 rfl rfl)⟩
theorem fl4_34 : FLc 4 34 4 7 := ⟨_, _, rfl, rfl, by decide, (tm1 155 rfl rfl)⟩
theorem fl4_43 : FLc 4 43 5 0 := ⟨_, _, rfl, rfl, by decide, (tm1 30 rfl rfl)⟩
theorem fl4_79 : FLc 4 79 5 6 := ⟨_, _, rfl, rfl, by decide, (tm1 43 rfl rfl)⟩
theorem fl5_9 : FLc 5 9 5 0 := ⟨_, _, rfl, rfl, by decide, (tm1 28 rfl rfl)⟩
theorem fl5_15 : FLc 5 15 5 1 := ⟨_, _, rfl, rfl, by decide, (tm1 33 rfl rfl)⟩
theorem fl5_18 : FLc 5 18 5 2 := ⟨_, _, rfl, rfl, by decide, (tm1 35 rfl rfl)⟩
theorem fl5_21 : FLc 5 21 5 3 := ⟨_, _, rfl, rfl, by decide, (tm1 37 rfl rfl)⟩
theorem fl5_24 : FLc 5 24 5 4 := ⟨_, _, rfl, rfl, by decide, (tm1 39 rfl rfl)⟩
theorem fl5_27 : FLc 5 27 5 5 := ⟨_, _, rfl, rfl, by decide, (tm1 40 rfl rfl)⟩
theorem fl5_31 : FLc 5 31 5 6 := ⟨_, _, rfl, rfl, by decide, (tm1 42 rfl rfl)⟩
theorem fl5_34 : FLc 5 34 5 7 := ⟨_, _, rfl, rfl, by decide, (tm1 45 rfl rfl)⟩
theorem fl5_37 : FLc 5 37 5 8 := ⟨_, _, rfl, rfl, by decide, (tm1 47 rfl rfl)⟩
theorem fl5_40 : FLc 5 40 5 9 := ⟨_, _, rfl, rfl, by decide, (tm1 49 rfl rfl)⟩
theorem fl5_43 : FLc 5 43 5 10 := ⟨_, _, rfl, rfl, by decide, (tm1 51 rfl rfl)⟩
theorem fl5_46 : FLc 5 46 5 11 := ⟨_, _, rfl, rfl, by decide, (tm1 53 rfl rfl)⟩
theorem fl5_49 : FLc 5 49 5 12 := ⟨_, _, rfl, rfl, by decide, (tm1 55 rfl rfl)⟩
theorem fl5_52 : FLc 5 52 5 13 := ⟨_, _, rfl, rfl, by decide, (tm1 56 rfl rfl)⟩
theorem fl5_55 : FLc 5 55 5 14 := ⟨_, _, rfl, rfl, by decide, (tm1 58 rfl rfl)⟩
theorem fl5_58 : FLc 5 58 5 15 := ⟨_, _, rfl, rfl, by decide, (tm1 60 rfl rfl)⟩
theorem fl5_61 : FLc 5 61 5 16 := ⟨_, _, rfl, rfl, by decide, (tm1 62 rfl rfl)⟩
theorem fl5_64 : FLc 5 64 5 17 := ⟨_, _, rfl, rfl, by decide, (tm1 63 rfl rfl)⟩
theorem fl6_9 : FLc 6 9 6 0 := ⟨_, _, rfl, rfl, by decide, (tm1 214 rfl rfl)⟩
theorem fl6_18 : FLc 6 18 6 1 := ⟨_, _, rfl, rfl, by decide, (tm1 216 rfl rfl)⟩
theorem fl6_22 : FLc 6 22 6 2 := ⟨_, _, rfl, rfl, by decide, (tm1 218 rfl rfl)⟩
theorem fl6_26 : FLc 6 26 6 3 := ⟨_, _, rfl, rfl, by decide, (tm1 219 rfl rfl)⟩
theorem fl7_9 : FLc 7 9 7 0 := ⟨_, _, rfl, rfl, by decide, (tm1 128 rfl rfl)⟩
theorem fl7_15 : FLc 7 15 7 1 := ⟨_, _, rfl, rfl, by decide, (tm1 130 rfl rfl)⟩
theorem fl7_19 : FLc 7 19 7 2 := ⟨_, _, rfl, rfl, by decide, (tm1 132 rfl rfl)⟩
theorem fl7_39 : FLc 7 39 5 0 := ⟨_, _, rfl, rfl, by decide, (tm1 31 rfl rfl)⟩
theorem fl9_7 : FLc 9 7 9 0 := ⟨_, _, rfl, rfl, by decide, (tm4 11 rfl rfl)⟩
theorem fl9_13 : FLc 9 13 9 1 := ⟨_, _, rfl, rfl, by decide, (tm4 12 rfl rfl)⟩
theorem fl9_16 : FLc 9 16 9 3 := ⟨_, _, rfl, rfl, by decide, (tm4 14 rfl rfl)⟩
theorem fl9_19 : FLc 9 19 9 5 := ⟨_, _, rfl, rfl, by decide, (tm4 16 rfl rfl)⟩
theorem fl9_22 : FLc 9 22 9 9 := ⟨_, _, rfl, rfl, by decide, (tm4 20 rfl rfl)⟩
theorem fl9_25 : FLc 9 25 9 10 := ⟨_, _, rfl, rfl, by decide, (tm4 21 rfl rfl)⟩
theorem fl9_28 : FLc 9 28 9 11 := ⟨_, _, rfl, rfl, by decide, (tm4 22 rfl rfl)⟩
theorem fl9_31 : FLc 9 31 9 12 := ⟨_, _, rfl, rfl, by decide, (tm4 23 rfl rfl)⟩
theorem fl9_34 : FLc 9 34 9 13 := ⟨_, _, rfl, rfl, by decide, (tm4 24 rfl rfl)⟩
theorem fl9_37 : FLc 9 37 9 14 := ⟨_, _, rfl, rfl, by decide, (tm4 25 rfl rfl)⟩
theorem fl9_40 : FLc 9 40 9 15 := ⟨_, _, rfl, rfl, by decide, (tm4 26 rfl rfl)⟩
theorem fl9_43 : FLc 9 43 9 16 := ⟨_, _, rfl, rfl, by decide, (tm4 27 rfl rfl)⟩
theorem fl9_46 : FLc 9 46 9 17 := ⟨_, _, rfl, rfl, by decide, (tm4 28 rfl rfl)⟩
theorem fl9_49 : FLc 9 49 9 18 := ⟨_, _, rfl, rfl, by decide, (tm4 29 rfl rfl)⟩
theorem fl9_53 : FLc 9 53 9 19 := ⟨_, _, rfl, rfl, by decide, (tm4 30 rfl rfl)⟩
theorem fl9_56 : FLc 9 56 9 22 := ⟨_, _, rfl, rfl, by decide, (tm4 33 rfl rfl)⟩
theorem fl9_59 : FLc 9 59 9 23 := ⟨_, _, rfl, rfl, by decide, (tm4 34 rfl rfl)⟩
theorem fl9_62 : FLc 9 62 9 24 := ⟨_, _, rfl, rfl, by decide, (tm4 35 rfl rfl)⟩
theorem fl9_84 : FLc 9 84 9 7 := ⟨_, _, rfl, rfl, by decide, (tm4 18 rfl rfl)⟩
theorem fl9_88 : FLc 9 88 9 8 := ⟨_, _, rfl, rfl, by decide, (tm4 19 rfl rfl)⟩
theorem fl9_106 : FLc 9 106 9 4 := ⟨_, _, rfl, rfl, by decide, (tm4 15 rfl rfl)⟩
theorem fl9_166 : FLc 9 166 9 6 := ⟨_, _, rfl, rfl, by decide, (tm4 17 rfl rfl)⟩
theorem fl9_169 : FLc 9 169 9 20 := ⟨_, _, rfl, rfl, by decide, (tm4 31 rfl rfl)⟩
theorem fl9_172 : FLc 9 172 9 21 := ⟨_, _, rfl, rfl, by decide, (tm4 32 rfl rfl)⟩
theorem fl9_182 : FLc 9 182 9 25 := ⟨_, _, rfl, rfl, by decide, (tm4 36 rfl rfl)⟩
theorem fl9_194 : FLc 9 194 9 2 := ⟨_, _, rfl, rfl, by decide, (tm4 13 rfl rfl)⟩
-- methods
def tb0_has : List (Option Instr) := [some (.iload_n 0), some (.iload_n 1), some .ishr, some (.iconst 1), some .iand, some (.ifCond .eq 7), none, none, some (.iconst 1), some (.goto 4), none, none, some (.iconst 0), some .ireturn]
def M0_has : MT := (0, yX0_has, cX0_has, 2, (some .boolean), 2, 0, 0, tb0_has)
def tb1_init : List (Option Instr) := [some (.aload_n 0), some (.invokespecial 3), none, none, some (.aload_n 0), some (.bipush 20), none, some (.newarray .int), none, some (.putfield 9), none, none, some (.aload_n 0), some (.bipush 20), none, some (.newarray .int), none, some (.putfield 15), none, none, some (.aload_n 0), some (.bipush 20), none, some (.newarray .int), none, some (.putfield 18), none, none, some .return_]
def M1_init : MT := (1, yX1_init, cX1_init, 1, none, 0, 1, 22, tb1_init)
def tb1_countPairs : List (Option Instr) := [some (.iconst 0), some (.istore_n 3), some (.iload_n 3), some (.bipush 20), none, some (.if_icmp .ge 25), none, none, some (.aload_n 0), some (.getfield 9), none, none, some (.iload_n 3), some (.bipush (-7)), none, some .iastore, some (.aload_n 0), some (.getfield 15), none, none, some (.iload_n 3), some (.bipush (-7)), none, some .iastore, some (.iinc 3 1), none, none, some (.goto (-25)), none, none, some (.iconst 0), some (.istore_n 3), some (.iconst 0), some (.istore 4), none, some (.iload 4), none, some (.bipush 20), none, some (.if_icmp .ge 32), none, none, some (.iload_n 1), some (.iload 4), none, some (.invokestatic 21), none, none, some (.ifCond .eq 17), none, none, some (.aload_n 0), some (.iload 4), none, some (.iload_n 1), some (.aload_n 2), some (.invokevirtual 27), none, none, some (.ifCond .eq 6), none, none, some (.iinc 3 1), none, none, some (.iinc 4 1), none, none, some (.goto (-33)), none, none, some (.iload_n 3), some .ireturn]
def M1_countPairs : MT := (1, yX1_countPairs, cX1_countPairs, 5, (some .int), 2, 3, 71, tb1_countPairs)
def tb1_findNext : List (Option Instr) := [some (.iload_n 2), some (.istore 4), none, some (.iconst 1), some (.iload_n 1), some .ishl, some (.istore 5), none, some (.iconst 0), some (.istore 6), none, some (.iload 6), none, some (.bipush 20), none, some (.if_icmp .ge 125), none, none, some (.iload 5), none, some (.ifCond .eq 120), none, none, some (.iconst 0), some (.istore 7), none, some (.iconst 0), some (.istore 8), none, some (.iload 8), none, some (.bipush 20), none, some (.if_icmp .ge 97), none, none, some (.iload 4), none, some (.iload 8), none, some (.invokestatic 21), none, none, some (.ifCond .eq 16), none, none, some (.iload 5), none, some (.aload_n 3), some (.iload 8), none, some .iaload, some .iand, some (.invokestatic 31), none, none, some (.goto 5), none, none, some (.bipush (-7)), none, some (.istore 9), none, some (.iload 9), none, some (.bipush (-7)), none, some (.if_icmp .eq 57), none, none, some (.iload 4), none, some (.iconst 1), some (.iload 8), none, some .ishl, some (.iconst (-1)), some .ixor, some .iand, some (.istore 4), none, some (.aload_n 0), some (.getfield 18), none, none, some (.iload 8), none, some (.iload 9), none, some .iastore, some (.aload_n 0), some (.getfield 15), none, none, some (.iload 8), none, some .iaload, some (.bipush (-7)), none, some (.if_icmp .ne 11), none, none, some (.aload_n 0), some (.iload 8), none, some (.invokevirtual 35), none, none, some (.iconst 1), some .ireturn, some (.iload 7), none, some (.iconst 1), some (.aload_n 0), some (.getfield 15), none, none, some (.iload 8), none, some .iaload, some .ishl, some .ior, some (.istore 7), none, some (.iinc 8 1), none, none, some (.goto (-98)), none, none, some (.iload 7), none, some (.istore 5), none, some (.iinc 6 1), none, none, some (.goto (-126)), none, none, some (.iconst 0), some .ireturn]
def M1_findNext : MT := (1, yX1_findNext, cX1_findNext, 10, (some .boolean), 3, 2, 42, tb1_findNext)
def tb1_lowestOf : List (Option Instr) := [some (.iconst 0), some (.istore_n 1), some (.iload_n 1), some (.bipush 20), none, some (.if_icmp .ge 19), none, none, some (.iload_n 0), some (.iload_n 1), some (.invokestatic 21), none, none, some (.ifCond .eq 5), none, none, some (.iload_n 1), some .ireturn, some (.iinc 1 1), none, none, some (.goto (-19)), none, none, some (.bipush (-7)), none, some .ireturn]
def M1_lowestOf : MT := (1, yX1_lowestOf, cX1_lowestOf, 2, (some .int), 1, 1, 21, tb1_lowestOf)
def tb1_pairAlong : List (Option Instr) := [some (.iload_n 1), some (.istore_n 2), some (.iconst 0), some (.istore_n 3), some (.iload_n 3), some (.bipush 20), none, some (.if_icmp .ge 51), none, none, some (.iload_n 2), some (.bipush (-7)), none, some (.if_icmp .eq 45), none, none, some (.aload_n 0), some (.getfield 18), none, none, some (.iload_n 2), some .iaload, some (.istore 4), none, some (.aload_n 0), some (.getfield 9), none, none, some (.iload 4), none, some .iaload, some (.istore 5), none, some (.aload_n 0), some (.getfield 9), none, none, some (.iload 4), none, some (.iload_n 2), some .iastore, some (.aload_n 0), some (.getfield 15), none, none, some (.iload_n 2), some (.iload 4), none, some .iastore, some (.iload 5), none, some (.istore_n 2), some (.iinc 3 1), none, none, some (.goto (-51)), none, none, some .return_]
def M1_pairAlong : MT := (1, yX1_pairAlong, cX1_pairAlong, 6, none, 1, 0, 0, tb1_pairAlong)
def tb2_init : List (Option Instr) := [some (.aload_n 0), some (.invokespecial 3), none, none, some (.aload_n 0), some (.sipush 4096), none, none, some (.newarray .long), none, some (.putfield 9), none, none, some (.aload_n 0), some (.bipush 12), none, some (.newarray .int), none, some (.putfield 15), none, none, some (.aload_n 0), some (.bipush 12), none, some (.newarray .int), none, some (.putfield 19), none, none, some .return_]
def M2_init : MT := (2, yX2_init, cX2_init, 1, none, 0, 1, 22, tb2_init)
def tb2_countFor : List (Option Instr) := [some (.aload_n 0), some (.iload_n 1), some (.invokevirtual 22), none, none, some (.istore_n 3), some (.aload_n 0), some (.iload_n 3), some (.aload_n 2), some (.invokevirtual 26), none, none, some (.iconst 1), some (.iload_n 3), some .ishl, some (.iconst 1), some .isub, some (.istore 4), none, some (.iconst 0), some (.istore 5), none, some (.iload 5), none, some (.iload 4), none, some (.if_icmp .gt 17), none, none, some (.aload_n 0), some (.getfield 9), none, none, some (.iload 5), none, some (.lconst 0), some .lastore, some (.iinc 5 1), none, none, some (.goto (-18)), none, none, some (.aload_n 0), some (.getfield 9), none, none, some (.iconst 0), some (.lconst 1), some .lastore, some (.iconst 0), some (.istore 5), none, some (.iload 5), none, some (.iload 4), none, some (.if_icmp .ge 28), none, none, some (.aload_n 0), some (.getfield 9), none, none, some (.iload 5), none, some .laload, some (.lconst 0), some .lcmp, some (.ifCond .eq 10), none, none, some (.aload_n 0), some (.iload 5), none, some (.iload_n 3), some (.invokevirtual 30), none, none, some (.iinc 5 1), none, none, some (.goto (-29)), none, none, some (.aload_n 0), some (.getfield 9), none, none, some (.iload 4), none, some .laload, some .lreturn]
def M2_countFor : MT := (2, yX2_countFor, cX2_countFor, 6, (some .long), 2, 2, 45, tb2_countFor)
def tb2_listMembers : List (Option Instr) := [some (.iconst 0), some (.istore_n 2), some (.iconst 0), some (.istore_n 3), some (.iload_n 3), some (.bipush 20), none, some (.if_icmp .ge 33), none, none, some (.iload_n 2), some (.bipush 12), none, some (.if_icmp .ge 27), none, none, some (.iload_n 1), some (.iload_n 3), some (.invokestatic 34), none, none, some (.ifCond .eq 13), none, none, some (.aload_n 0), some (.getfield 15), none, none, some (.iload_n 2), some (.iload_n 3), some .iastore, some (.iinc 2 1), none, none, some (.iinc 3 1), none, none, some (.goto (-33)), none, none, some (.iload_n 2), some .ireturn]
def M2_listMembers : MT := (2, yX2_listMembers, cX2_listMembers, 4, (some .int), 1, 1, 21, tb2_listMembers)
def tb2_listNeeds : List (Option Instr) := [some (.iconst 0), some (.istore_n 3), some (.iload_n 3), some (.iload_n 1), some (.if_icmp .ge 65), none, none, some (.aload_n 0), some (.getfield 19), none, none, some (.iload_n 3), some (.iconst 0), some .iastore, some (.iconst 0), some (.istore 4), none, some (.iload 4), none, some (.iload_n 1), some (.if_icmp .ge 43), none, none, some (.aload_n 2), some (.aload_n 0), some (.getfield 15), none, none, some (.iload_n 3), some .iaload, some .iaload, some (.aload_n 0), some (.getfield 15), none, none, some (.iload 4), none, some .iaload, some (.invokestatic 34), none, none, some (.ifCond .eq 16), none, none, some (.aload_n 0), some (.getfield 19), none, none, some (.iload_n 3), some .dup2, some .iaload, some (.iconst 1), some (.iload 4), none, some .ishl, some .ior, some .iastore, some (.iinc 4 1), none, none, some (.goto (-43)), none, none, some (.iinc 3 1), none, none, some (.goto (-64)), none, none, some .return_]
def M2_listNeeds : MT := (2, yX2_listNeeds, cX2_listNeeds, 5, none, 2, 1, 21, tb2_listNeeds)
def tb2_goOnFrom : List (Option Instr) := [some (.iconst 0), some (.istore_n 3), some (.iload_n 3), some (.iload_n 2), some (.if_icmp .ge 49), none, none, some (.iload_n 1), some (.iload_n 3), some (.invokestatic 34), none, none, some (.ifCond .ne 35), none, none, some (.aload_n 0), some (.getfield 19), none, none, some (.iload_n 3), some .iaload, some (.iload_n 1), some (.iconst (-1)), some .ixor, some .iand, some (.ifCond .ne 22), none, none, some (.aload_n 0), some (.getfield 9), none, none, some (.iload_n 1), some (.iconst 1), some (.iload_n 3), some .ishl, some .ior, some .dup2, some .laload, some (.aload_n 0), some (.getfield 9), none, none, some (.iload_n 1), some .laload, some .ladd, some .lastore, some (.iinc 3 1), none, none, some (.goto (-48)), none, none, some .return_]
def M2_goOnFrom : MT := (2, yX2_goOnFrom, cX2_goOnFrom, 4, none, 2, 1, 21, tb2_goOnFrom)
def tb3_init : List (Option Instr) := [some (.aload_n 0), some (.invokespecial 3), none, none, some (.aload_n 0), some (.bipush 20), none, some (.newarray .int), none, some (.putfield 9), none, none, some (.aload_n 0), some (.bipush 20), none, some (.newarray .int), none, some (.putfield 15), none, none, some (.aload_n 0), some (.bipush 20), none, some (.newarray .int), none, some (.putfield 18), none, none, some (.aload_n 0), some (.aload_n 1), some (.putfield 21), none, none, some .return_]
def M3_init : MT := (3, yX3_init, cX3_init, 2, none, 1, 1, 22, tb3_init)
def tb3_beforeSets : List (Option Instr) := [some (.iconst 0), some (.istore_n 1), some (.iload_n 1), some (.aload_n 0), some (.getfield 21), none, none, some (.getfield 25), none, none, some (.if_icmp .ge 23), none, none, some (.aload_n 0), some (.getfield 9), none, none, some (.iload_n 1), some (.aload_n 0), some (.getfield 21), none, none, some (.iload_n 1), some (.invokevirtual 31), none, none, some .iastore, some (.iinc 1 1), none, none, some (.goto (-28)), none, none, some (.iconst 0), some (.istore_n 1), some (.iload_n 1), some (.aload_n 0), some (.getfield 21), none, none, some (.getfield 25), none, none, some (.if_icmp .ge 56), none, none, some (.iconst 0), some (.istore_n 2), some (.iload_n 2), some (.aload_n 0), some (.getfield 21), none, none, some (.getfield 25), none, none, some (.if_icmp .ge 37), none, none, some (.aload_n 0), some (.getfield 9), none, none, some (.iload_n 2), some .iaload, some (.iload_n 1), some (.invokestatic 35), none, none, some (.ifCond .eq 18), none, none, some (.aload_n 0), some (.getfield 9), none, none, some (.iload_n 2), some .dup2, some .iaload, some (.aload_n 0), some (.getfield 9), none, none, some (.iload_n 1), some .iaload, some .ior, some .iastore, some (.iinc 2 1), none, none, some (.goto (-42)), none, none, some (.iinc 1 1), none, none, some (.goto (-61)), none, none, some (.aload_n 0), some (.getfield 9), none, none, some .areturn]
def M3_beforeSets : MT := (3, yX3_beforeSets, cX3_beforeSets, 3, (some (.array .int)), 0, 1, 21, tb3_beforeSets)
def tb3_hasDetour : List (Option Instr) := [some (.aload_n 0), some (.invokevirtual 41), none, none, some (.astore_n 3), some (.iconst 0), some (.istore 4), none, some (.iload 4), none, some (.aload_n 0), some (.getfield 21), none, none, some (.getfield 25), none, none, some (.if_icmp .ge 38), none, none, some (.aload_n 0), some (.getfield 21), none, none, some (.iload_n 2), some (.invokevirtual 31), none, none, some (.iload 4), none, some (.invokestatic 35), none, none, some (.ifCond .eq 16), none, none, some (.aload_n 3), some (.iload 4), none, some .iaload, some (.iload_n 1), some (.invokestatic 35), none, none, some (.ifCond .eq 5), none, none, some (.iconst 1), some .ireturn, some (.iinc 4 1), none, none, some (.goto (-44)), none, none, some (.iconst 0), some .ireturn]
def M3_hasDetour : MT := (3, yX3_hasDetour, cX3_hasDetour, 5, (some .boolean), 2, 2, 43, tb3_hasDetour)
def tb3_heights : List (Option Instr) := [some (.iconst 0), some (.istore_n 1), some (.iload_n 1), some (.aload_n 0), some (.getfield 21), none, none, some (.getfield 25), none, none, some (.if_icmp .ge 23), none, none, some (.aload_n 0), some (.getfield 15), none, none, some (.iload_n 1), some (.aload_n 0), some (.getfield 21), none, none, some (.iload_n 1), some (.invokevirtual 45), none, none, some .iastore, some (.iinc 1 1), none, none, some (.goto (-28)), none, none, some (.iconst 1), some (.istore_n 1), some (.iconst 0), some (.istore_n 2), some (.iload_n 1), some (.ifCond .eq 47), none, none, some (.iload_n 2), some (.sipush 1000), none, none, some (.if_icmp .ge 40), none, none, some (.iconst 0), some (.istore_n 1), some (.iconst 0), some (.istore_n 3), some (.iload_n 3), some (.aload_n 0), some (.getfield 21), none, none, some (.getfield 25), none, none, some (.if_icmp .ge 19), none, none, some (.aload_n 0), some (.iload_n 3), some (.invokevirtual 48), none, none, some (.ifCond .eq 5), none, none, some (.iconst 1), some (.istore_n 1), some (.iinc 3 1), none, none, some (.goto (-24)), none, none, some (.iinc 2 1), none, none, some (.goto (-45)), none, none, some (.aload_n 0), some (.getfield 15), none, none, some .areturn]
def M3_heights : MT := (3, yX3_heights, cX3_heights, 4, (some (.array .int)), 0, 3, 67, tb3_heights)
def tb3_raisePredecessors : List (Option Instr) := [some (.aload_n 0), some (.getfield 21), none, none, some (.iload_n 1), some (.invokevirtual 31), none, none, some (.istore_n 2), some (.iconst 0), some (.istore_n 3), some (.iconst 0), some (.istore 4), none, some (.iload_n 2), some (.ifCond .eq 71), none, none, some (.iload 4), none, some (.aload_n 0), some (.getfield 21), none, none, some (.getfield 25), none, none, some (.if_icmp .ge 59), none, none, some (.aload_n 0), some (.getfield 21), none, none, some (.iload 4), none, some (.invokevirtual 45), none, none, some (.aload_n 0), some (.getfield 15), none, none, some (.iload_n 1), some .iaload, some .iadd, some (.istore 5), none, some (.iload_n 2), some (.iload 4), none, some (.invokestatic 35), none, none, some (.ifCond .eq 26), none, none, some (.iload 5), none, some (.aload_n 0), some (.getfield 15), none, none, some (.iload 4), none, some .iaload, some (.if_icmp .le 14), none, none, some (.aload_n 0), some (.getfield 15), none, none, some (.iload 4), none, some (.iload 5), none, some .iastore, some (.iconst 1), some (.istore_n 3), some (.iinc 4 1), none, none, some (.goto (-69)), none, none, some (.iload_n 3), some .ireturn]
def M3_raisePredecessors : MT := (3, yX3_raisePredecessors, cX3_raisePredecessors, 6, (some .boolean), 1, 2, 42, tb3_raisePredecessors)
def tb3_leads : List (Option Instr) := [some (.iconst 0), some (.istore_n 1), some (.iload_n 1), some (.aload_n 0), some (.getfield 21), none, none, some (.getfield 25), none, none, some (.if_icmp .ge 16), none, none, some (.aload_n 0), some (.getfield 18), none, none, some (.iload_n 1), some (.iconst 0), some .iastore, some (.iinc 1 1), none, none, some (.goto (-21)), none, none, some (.iconst 1), some (.istore_n 1), some (.iconst 0), some (.istore_n 2), some (.iload_n 1), some (.ifCond .eq 47), none, none, some (.iload_n 2), some (.sipush 1000), none, none, some (.if_icmp .ge 40), none, none, some (.iconst 0), some (.istore_n 1), some (.iconst 0), some (.istore_n 3), some (.iload_n 3), some (.aload_n 0), some (.getfield 21), none, none, some (.getfield 25), none, none, some (.if_icmp .ge 19), none, none, some (.aload_n 0), some (.iload_n 3), some (.invokevirtual 52), none, none, some (.ifCond .eq 5), none, none, some (.iconst 1), some (.istore_n 1), some (.iinc 3 1), none, none, some (.goto (-24)), none, none, some (.iinc 2 1), none, none, some (.goto (-45)), none, none, some (.aload_n 0), some (.getfield 18), none, none, some .areturn]
def M3_leads : MT := (3, yX3_leads, cX3_leads, 4, (some (.array .int)), 0, 3, 67, tb3_leads)
def tb3_raiseLead : List (Option Instr) := [some (.aload_n 0), some (.getfield 21), none, none, some (.iload_n 1), some (.invokevirtual 31), none, none, some (.istore_n 2), some (.iconst 0), some (.istore_n 3), some (.iconst 0), some (.istore 4), none, some (.iload_n 2), some (.ifCond .eq 70), none, none, some (.iload 4), none, some (.aload_n 0), some (.getfield 21), none, none, some (.getfield 25), none, none, some (.if_icmp .ge 58), none, none, some (.aload_n 0), some (.getfield 18), none, none, some (.iload 4), none, some .iaload, some (.aload_n 0), some (.getfield 21), none, none, some (.iload 4), none, some (.invokevirtual 45), none, none, some .iadd, some (.istore 5), none, some (.iload_n 2), some (.iload 4), none, some (.invokestatic 35), none, none, some (.ifCond .eq 24), none, none, some (.iload 5), none, some (.aload_n 0), some (.getfield 18), none, none, some (.iload_n 1), some .iaload, some (.if_icmp .le 13), none, none, some (.aload_n 0), some (.getfield 18), none, none, some (.iload_n 1), some (.iload 5), none, some .iastore, some (.iconst 1), some (.istore_n 3), some (.iinc 4 1), none, none, some (.goto (-68)), none, none, some (.iload_n 3), some .ireturn]
def M3_raiseLead : MT := (3, yX3_raiseLead, cX3_raiseLead, 6, (some .boolean), 1, 2, 42, tb3_raiseLead)
def tb4_init : List (Option Instr) := [some (.aload_n 0), some (.invokespecial 3), none, none, some (.aload_n 0), some (.iconst 0), some (.putfield 9), none, none, some (.aload_n 0), some (.bipush 20), none, some (.newarray .int), none, some (.putfield 15), none, none, some (.aload_n 0), some (.bipush 20), none, some (.newarray .int), none, some (.putfield 19), none, none, some (.aload_n 0), some (.bipush 20), none, some (.newarray .int), none, some (.putfield 22), none, none, some (.aload_n 0), some (.iconst 0), some (.putfield 25), none, none, some (.aload_n 0), some (.iconst 0), some (.putfield 28), none, none, some (.aload_n 0), some (.iconst 0), some (.putfield 31), none, none, some (.aload_n 0), some (.iconst 0), some (.putfield 34), none, none, some .return_]
def M4_init : MT := (4, yX4_init, cX4_init, 1, none, 0, 1, 22, tb4_init)
def tb4_make : List (Option Instr) := [some (.aload_n 0), some (.aload_n 1), some (.invokevirtual 37), none, none, some (.putfield 25), none, none, some (.aload_n 0), some (.iconst 0), some (.putfield 28), none, none, some (.aload_n 0), some (.iconst 0), some (.putfield 31), none, none, some (.aload_n 0), some (.iload_n 3), some (.putfield 34), none, none, some (.aload_n 0), some (.iconst 0), some (.putfield 9), none, none, some (.iconst 0), some (.istore 5), none, some (.iload 5), none, some (.bipush 20), none, some (.if_icmp .gt 54), none, none, some (.aload_n 0), some (.getfield 25), none, none, some (.aload_n 0), some (.getfield 31), none, none, some .ior, some (.ifCond .eq 42), none, none, some (.aload_n 0), some (.aload_n 1), some (.getfield 43), none, none, some (.invokevirtual 46), none, none, some (.aload_n 0), some (.aload_n 1), some (.invokevirtual 50), none, none, some (.aload_n 0), some (.aload_n 1), some (.aload_n 2), some (.iload 4), none, some (.invokevirtual 54), none, none, some (.aload_n 0), some (.aload_n 0), some (.aload_n 1), some (.getfield 43), none, none, some (.invokevirtual 58), none, none, some (.putfield 9), none, none, some (.iinc 5 1), none, none, some (.goto (-55)), none, none, some .return_]
def M4_make : MT := (4, yX4_make, cX4_make, 6, none, 4, 3, 77, tb4_make)
def tb4_endCompleted : List (Option Instr) := [some (.iconst 0), some (.istore_n 2), some (.iload_n 2), some (.iload_n 1), some (.if_icmp .ge 57), none, none, some (.aload_n 0), some (.getfield 31), none, none, some (.iload_n 2), some (.invokestatic 62), none, none, some (.ifCond .eq 40), none, none, some (.aload_n 0), some (.getfield 19), none, none, some (.iload_n 2), some .iaload, some (.aload_n 0), some (.getfield 9), none, none, some (.if_icmp .gt 27), none, none, some (.aload_n 0), some .dup, some (.getfield 31), none, none, some (.iconst 1), some (.iload_n 2), some .ishl, some (.iconst (-1)), some .ixor, some .iand, some (.putfield 31), none, none, some (.aload_n 0), some .dup, some (.getfield 34), none, none, some (.iconst 1), some .iadd, some (.putfield 34), none, none, some (.iinc 2 1), none, none, some (.goto (-56)), none, none, some .return_]
def M4_endCompleted : MT := (4, yX4_endCompleted, cX4_endCompleted, 3, none, 1, 1, 21, tb4_endCompleted)
def tb4_findStartable : List (Option Instr) := [some (.aload_n 0), some (.getfield 25), none, none, some (.aload_n 0), some (.getfield 31), none, none, some .ior, some (.istore_n 2), some (.aload_n 0), some (.getfield 25), none, none, some (.aload_n 0), some (.getfield 28), none, none, some (.iconst (-1)), some .ixor, some .iand, some (.istore_n 3), some (.iconst 0), some (.istore 4), none, some (.iload 4), none, some (.aload_n 1), some (.getfield 43), none, none, some (.if_icmp .ge 53), none, none, some (.iload_n 3), some (.iload 4), none, some (.invokestatic 62), none, none, some (.ifCond .eq 38), none, none, some (.aload_n 1), some (.iload 4), none, some (.invokevirtual 68), none, none, some (.iload_n 2), some .iand, some (.ifCond .ne 27), none, none, some (.aload_n 0), some .dup, some (.getfield 28), none, none, some (.iconst 1), some (.iload 4), none, some .ishl, some .ior, some (.putfield 28), none, none, some (.aload_n 0), some (.getfield 22), none, none, some (.iload 4), none, some (.aload_n 0), some (.getfield 9), none, none, some .iastore, some (.iinc 4 1), none, none, some (.goto (-56)), none, none, some .return_]
def M4_findStartable : MT := (4, yX4_findStartable, cX4_findStartable, 5, none, 1, 1, 21, tb4_findStartable)
def tb4_startItems : List (Option Instr) := [some (.iconst 0), some (.istore 4), none, some (.iload 4), none, some (.bipush 6), none, some (.if_icmp .ge 124), none, none, some (.aload_n 0), some (.getfield 34), none, none, some (.ifCond .le 117), none, none, some (.aload_n 0), some (.getfield 28), none, none, some (.ifCond .eq 110), none, none, some (.aload_n 0), some (.aload_n 1), some (.aload_n 2), some (.iload_n 3), some (.invokevirtual 71), none, none, some (.istore 5), none, some (.aload_n 1), some (.iload 5), none, some (.invokevirtual 75), none, none, some (.ifCond .eq 86), none, none, some (.aload_n 0), some .dup, some (.getfield 28), none, none, some (.iconst 1), some (.iload 5), none, some .ishl, some (.iconst (-1)), some .ixor, some .iand, some (.putfield 28), none, none, some (.aload_n 0), some .dup, some (.getfield 25), none, none, some (.iconst 1), some (.iload 5), none, some .ishl, some (.iconst (-1)), some .ixor, some .iand, some (.putfield 25), none, none, some (.aload_n 0), some .dup, some (.getfield 31), none, none, some (.iconst 1), some (.iload 5), none, some .ishl, some .ior, some (.putfield 31), none, none, some (.aload_n 0), some .dup, some (.getfield 34), none, none, some (.iconst 1), some .isub, some (.putfield 34), none, none, some (.aload_n 0), some (.getfield 15), none, none, some (.iload 5), none, some (.aload_n 0), some (.getfield 9), none, none, some .iastore, some (.aload_n 0), some (.getfield 19), none, none, some (.iload 5), none, some (.aload_n 0), some (.getfield 9), none, none, some (.aload_n 1), some (.getfield 79), none, none, some (.iload 5), none, some .iaload, some .iadd, some .iastore, some (.iinc 4 1), none, none, some (.goto (-125)), none, none, some .return_]
def M4_startItems : MT := (4, yX4_startItems, cX4_startItems, 6, none, 3, 2, 52, tb4_startItems)
def tb4_bestStartable : List (Option Instr) := [some (.bipush (-7)), none, some (.istore 4), none, some (.iconst 0), some (.istore 5), none, some (.iconst 0), some (.istore 6), none, some (.iload 6), none, some (.aload_n 1), some (.getfield 43), none, none, some (.if_icmp .ge 68), none, none, some (.aload_n 0), some (.getfield 28), none, none, some (.iload 6), none, some (.invokestatic 62), none, none, some (.ifCond .eq 50), none, none, some (.aload_n 1), some (.iload 6), none, some (.iload_n 3), some (.aload_n 2), some (.iload 6), none, some .iaload, some (.aload_n 0), some (.getfield 9), none, none, some (.aload_n 0), some (.getfield 22), none, none, some (.iload 6), none, some .iaload, some .isub, some (.invokevirtual 82), none, none, some (.istore 7), none, some (.iload 4), none, some (.bipush (-7)), none, some (.if_icmp .eq 10), none, none, some (.iload 7), none, some (.iload 5), none, some (.if_icmp .le 11), none, none, some (.iload 6), none, some (.istore 4), none, some (.iload 7), none, some (.istore 5), none, some (.iinc 6 1), none, none, some (.goto (-71)), none, none, some (.iload 4), none, some .ireturn]
def M4_bestStartable : MT := (4, yX4_bestStartable, cX4_bestStartable, 8, (some .int), 3, 1, 25, tb4_bestStartable)
def tb4_nextEnd : List (Option Instr) := [some (.aload_n 0), some (.getfield 9), none, none, some (.istore_n 2), some (.iconst 0), some (.istore_n 3), some (.iload_n 3), some (.iload_n 1), some (.if_icmp .ge 45), none, none, some (.aload_n 0), some (.getfield 31), none, none, some (.iload_n 3), some (.invokestatic 62), none, none, some (.ifCond .eq 28), none, none, some (.iload_n 2), some (.aload_n 0), some (.getfield 9), none, none, some (.if_icmp .eq 13), none, none, some (.aload_n 0), some (.getfield 19), none, none, some (.iload_n 3), some .iaload, some (.iload_n 2), some (.if_icmp .ge 10), none, none, some (.aload_n 0), some (.getfield 19), none, none, some (.iload_n 3), some .iaload, some (.istore_n 2), some (.iinc 3 1), none, none, some (.goto (-44)), none, none, some (.iload_n 2), some .ireturn]
def M4_nextEnd : MT := (4, yX4_nextEnd, cX4_nextEnd, 4, (some .int), 1, 1, 21, tb4_nextEnd)
def tb5_init : List (Option Instr) := [some (.aload_n 0), some (.invokespecial 3), none, none, some (.aload_n 0), some (.iconst 0), some (.putfield 9), none, none, some (.aload_n 0), some (.iconst 0), some (.putfield 15), none, none, some (.aload_n 0), some (.iconst 0), some (.putfield 18), none, none, some (.aload_n 0), some (.bipush 9), none, some (.putfield 21), none, none, some (.aload_n 0), some (.iconst 0), some (.putfield 24), none, none, some (.aload_n 0), some (.bipush 20), none, some (.newarray .int), none, some (.putfield 27), none, none, some (.aload_n 0), some (.bipush 20), none, some (.newarray .int), none, some (.putfield 31), none, none, some (.aload_n 0), some (.bipush 20), none, some (.newarray .int), none, some (.putfield 34), none, none, some (.aload_n 0), some (.bipush 20), none, some (.newarray .int), none, some (.putfield 37), none, none, some (.aload_n 0), some (.bipush 20), none, some (.newarray .int), none, some (.putfield 40), none, none, some (.aload_n 0), some (.bipush 20), none, some (.newarray .int), none, some (.putfield 43), none, none, some (.aload_n 0), some (.bipush 20), none, some (.newarray .int), none, some (.putfield 46), none, none, some (.aload_n 0), some (.bipush 20), none, some (.newarray .int), none, some (.putfield 49), none, none, some (.aload_n 0), some (.bipush 20), none, some (.newarray .int), none, some (.putfield 52), none, none, some (.aload_n 0), some (.bipush 20), none, some (.newarray .int), none, some (.putfield 55), none, none, some (.aload_n 0), some (.bipush 20), none, some (.newarray .int), none, some (.putfield 58), none, none, some (.aload_n 0), some (.bipush 20), none, some (.newarray .int), none, some (.putfield 61), none, none, some (.aload_n 0), some (.bipush 20), none, some (.newarray .int), none, some (.putfield 64), none, none, some .return_]
def M5_init : MT := (5, yX5_init, cX5_init, 1, none, 0, 1, 22, tb5_init)
def tb5_holds : List (Option Instr) := [some (.iload_n 1), some (.ifCond .lt 15), none, none, some (.iload_n 1), some (.aload_n 0), some (.getfield 9), none, none, some (.if_icmp .ge 7), none, none, some (.iconst 1), some (.goto 4), none, none, some (.iconst 0), some .ireturn]
def M5_holds : MT := (5, yX5_holds, cX5_holds, 2, (some .boolean), 1, 0, 0, tb5_holds)
def tb5_isFull : List (Option Instr) := [some (.aload_n 0), some (.getfield 9), none, none, some (.bipush 20), none, some (.if_icmp .lt 7), none, none, some (.iconst 1), some (.goto 4), none, none, some (.iconst 0), some .ireturn]
def M5_isFull : MT := (5, yX5_isFull, cX5_isFull, 1, (some .boolean), 0, 0, 0, tb5_isFull)
def tb5_hasEnded : List (Option Instr) := [some (.aload_n 0), some (.getfield 43), none, none, some (.iload_n 1), some .iaload, some (.iconst 3), some (.if_icmp .lt 7), none, none, some (.iconst 1), some (.goto 4), none, none, some (.iconst 0), some .ireturn]
def M5_hasEnded : MT := (5, yX5_hasEnded, cX5_hasEnded, 2, (some .boolean), 1, 0, 0, tb5_hasEnded)
def tb5_hasFailed : List (Option Instr) := [some (.aload_n 0), some (.getfield 43), none, none, some (.iload_n 1), some .iaload, some (.iconst 3), some (.if_icmp .le 7), none, none, some (.iconst 1), some (.goto 4), none, none, some (.iconst 0), some .ireturn]
def M5_hasFailed : MT := (5, yX5_hasFailed, cX5_hasFailed, 2, (some .boolean), 1, 0, 0, tb5_hasFailed)
def tb5_followsEdges : List (Option Instr) := [some (.aload_n 0), some (.getfield 43), none, none, some (.iload_n 1), some .iaload, some (.ifCond .eq 13), none, none, some (.aload_n 0), some (.getfield 43), none, none, some (.iload_n 1), some .iaload, some (.iconst 1), some (.if_icmp .ne 7), none, none, some (.iconst 1), some (.goto 4), none, none, some (.iconst 0), some .ireturn]
def M5_followsEdges : MT := (5, yX5_followsEdges, cX5_followsEdges, 2, (some .boolean), 1, 0, 0, tb5_followsEdges)
def tb5_isValid : List (Option Instr) := [some (.aload_n 0), some (.getfield 43), none, none, some (.iload_n 1), some .iaload, some (.iconst 2), some (.if_icmp .ne 17), none, none, some (.aload_n 0), some (.getfield 58), none, none, some (.iload_n 1), some .iaload, some (.iload_n 2), some (.if_icmp .ne 7), none, none, some (.iconst 1), some (.goto 4), none, none, some (.iconst 0), some .ireturn]
def M5_isValid : MT := (5, yX5_isValid, cX5_isValid, 3, (some .boolean), 2, 0, 0, tb5_isValid)
def tb5_workLeft : List (Option Instr) := [some (.aload_n 0), some (.iload_n 1), some (.invokevirtual 67), none, none, some (.ifCond .eq 7), none, none, some (.iconst 0), some (.goto 9), none, none, some (.aload_n 0), some (.getfield 31), none, none, some (.iload_n 1), some .iaload, some .ireturn]
def M5_workLeft : MT := (5, yX5_workLeft, cX5_workLeft, 2, (some .int), 1, 1, 21, tb5_workLeft)
def tb5_setIn : List (Option Instr) := [some (.iconst 0), some (.istore_n 2), some (.iconst 0), some (.istore_n 3), some (.iload_n 3), some (.aload_n 0), some (.getfield 9), none, none, some (.if_icmp .ge 25), none, none, some (.aload_n 0), some (.getfield 43), none, none, some (.iload_n 3), some .iaload, some (.iload_n 1), some (.if_icmp .ne 9), none, none, some (.iload_n 2), some (.iconst 1), some (.iload_n 3), some .ishl, some .ior, some (.istore_n 2), some (.iinc 3 1), none, none, some (.goto (-27)), none, none, some (.iload_n 2), some .ireturn]
def M5_setIn : MT := (5, yX5_setIn, cX5_setIn, 4, (some .int), 1, 0, 0, tb5_setIn)
def tb5_unendedSet : List (Option Instr) := [some (.aload_n 0), some (.iconst 0), some (.invokevirtual 71), none, none, some (.aload_n 0), some (.iconst 1), some (.invokevirtual 71), none, none, some .ior, some (.aload_n 0), some (.iconst 2), some (.invokevirtual 71), none, none, some .ior, some .ireturn]
def M5_unendedSet : MT := (5, yX5_unendedSet, cX5_unendedSet, 1, (some .int), 0, 1, 23, tb5_unendedSet)
def tb5_append : List (Option Instr) := [some (.aload_n 0), some (.getfield 9), none, none, some (.istore 6), none, some (.aload_n 0), some .dup, some (.getfield 9), none, none, some (.iconst 1), some .iadd, some (.putfield 9), none, none, some (.aload_n 0), some (.getfield 27), none, none, some (.iload 6), none, some (.iload_n 1), some .iastore, some (.aload_n 0), some (.getfield 31), none, none, some (.iload 6), none, some (.iload_n 2), some .iastore, some (.aload_n 0), some (.getfield 34), none, none, some (.iload 6), none, some (.iload_n 3), some .iastore, some (.aload_n 0), some (.getfield 37), none, none, some (.iload 6), none, some (.iload 4), none, some .iastore, some (.aload_n 0), some (.getfield 40), none, none, some (.iload 6), none, some (.iload 5), none, some .iastore, some (.aload_n 0), some (.getfield 61), none, none, some (.iload 6), none, some (.iconst 0), some .iastore, some (.aload_n 0), some (.getfield 64), none, none, some (.iload 6), none, some (.iconst 0), some .iastore, some (.aload_n 0), some (.iload 6), none, some (.invokevirtual 75), none, none, some (.iload 6), none, some .ireturn]
def M5_append : MT := (5, yX5_append, cX5_append, 7, (some .int), 5, 1, 21, tb5_append)
def tb5_startAnew : List (Option Instr) := [some (.aload_n 0), some (.getfield 43), none, none, some (.iload_n 1), some (.iconst 0), some .iastore, some (.aload_n 0), some (.getfield 55), none, none, some (.iload_n 1), some (.iconst 0), some .iastore, some (.aload_n 0), some (.getfield 58), none, none, some (.iload_n 1), some (.bipush (-7)), none, some .iastore, some .return_]
def M5_startAnew : MT := (5, yX5_startAnew, cX5_startAnew, 2, none, 1, 0, 0, tb5_startAnew)
def tb5_makeReady : List (Option Instr) := [some (.aload_n 0), some (.getfield 43), none, none, some (.iload_n 1), some (.iconst 1), some .iastore, some (.aload_n 0), some (.getfield 46), none, none, some (.iload_n 1), some (.aload_n 0), some (.getfield 15), none, none, some (.iload_n 2), some .iadd, some .iastore, some (.aload_n 0), some (.getfield 49), none, none, some (.iload_n 1), some (.aload_n 0), some (.getfield 15), none, none, some .iastore, some .return_]
def M5_makeReady : MT := (5, yX5_makeReady, cX5_makeReady, 3, none, 2, 0, 0, tb5_makeReady)
def tb5_removeItems : List (Option Instr) := [some (.aload_n 0), some (.iconst 0), some (.putfield 9), none, none, some .return_]
def M5_removeItems : MT := (5, yX5_removeItems, cX5_removeItems, 1, none, 0, 0, 0, tb5_removeItems)
def tb5_predecessors : List (Option Instr) := [some (.aload_n 0), some (.getfield 61), none, none, some (.iload_n 1), some .iaload, some (.aload_n 0), some (.getfield 64), none, none, some (.iload_n 1), some .iaload, some .ior, some .ireturn]
def M5_predecessors : MT := (5, yX5_predecessors, cX5_predecessors, 2, (some .int), 1, 0, 0, tb5_predecessors)
def tb5_edgeCount : List (Option Instr) := [some (.iconst 0), some (.istore_n 1), some (.iconst 0), some (.istore_n 2), some (.iload_n 2), some (.aload_n 0), some (.getfield 9), none, none, some (.if_icmp .ge 20), none, none, some (.iload_n 1), some (.aload_n 0), some (.iload_n 2), some (.invokevirtual 79), none, none, some (.invokestatic 82), none, none, some .iadd, some (.istore_n 1), some (.iinc 2 1), none, none, some (.goto (-22)), none, none, some (.iload_n 1), some .ireturn]
def M5_edgeCount : MT := (5, yX5_edgeCount, cX5_edgeCount, 3, (some .int), 0, 1, 21, tb5_edgeCount)
def tb5_edgeKind : List (Option Instr) := [some (.aload_n 0), some (.getfield 61), none, none, some (.iload_n 2), some .iaload, some (.iload_n 1), some (.invokestatic 87), none, none, some (.ifCond .eq 5), none, none, some (.iconst 0), some .ireturn, some (.aload_n 0), some (.getfield 64), none, none, some (.iload_n 2), some .iaload, some (.iload_n 1), some (.invokestatic 87), none, none, some (.ifCond .eq 7), none, none, some (.iconst 1), some (.goto 5), none, none, some (.bipush (-7)), none, some .ireturn]
def M5_edgeKind : MT := (5, yX5_edgeKind, cX5_edgeKind, 3, (some .int), 2, 1, 21, tb5_edgeKind)
def tb5_putEdge : List (Option Instr) := [some (.aload_n 0), some (.iload_n 1), some (.iload_n 2), some (.invokevirtual 93), none, none, some (.iload_n 3), some (.ifCond .ne 18), none, none, some (.aload_n 0), some (.getfield 61), none, none, some (.iload_n 2), some .dup2, some .iaload, some (.iconst 1), some (.iload_n 1), some .ishl, some .ior, some .iastore, some (.goto 15), none, none, some (.aload_n 0), some (.getfield 64), none, none, some (.iload_n 2), some .dup2, some .iaload, some (.iconst 1), some (.iload_n 1), some .ishl, some .ior, some .iastore, some .return_]
def M5_putEdge : MT := (5, yX5_putEdge, cX5_putEdge, 4, none, 3, 1, 22, tb5_putEdge)
def tb5_dropEdge : List (Option Instr) := [some (.aload_n 0), some (.getfield 61), none, none, some (.iload_n 2), some .dup2, some .iaload, some (.iconst 1), some (.iload_n 1), some .ishl, some (.iconst (-1)), some .ixor, some .iand, some .iastore, some (.aload_n 0), some (.getfield 64), none, none, some (.iload_n 2), some .dup2, some .iaload, some (.iconst 1), some (.iload_n 1), some .ishl, some (.iconst (-1)), some .ixor, some .iand, some .iastore, some .return_]
def M5_dropEdge : MT := (5, yX5_dropEdge, cX5_dropEdge, 3, none, 2, 0, 0, tb5_dropEdge)
def tb5_settle : List (Option Instr) := [some (.iconst 1), some (.istore_n 1), some (.iconst 0), some (.istore_n 2), some (.iload_n 1), some (.ifCond .eq 44), none, none, some (.iload_n 2), some (.sipush 1000), none, none, some (.if_icmp .ge 37), none, none, some (.iconst 0), some (.istore_n 1), some (.iconst 0), some (.istore_n 3), some (.iload_n 3), some (.aload_n 0), some (.getfield 9), none, none, some (.if_icmp .ge 19), none, none, some (.aload_n 0), some (.iload_n 3), some (.invokevirtual 97), none, none, some (.ifCond .eq 5), none, none, some (.iconst 1), some (.istore_n 1), some (.iinc 3 1), none, none, some (.goto (-21)), none, none, some (.iinc 2 1), none, none, some (.goto (-42)), none, none, some .return_]
def M5_settle : MT := (5, yX5_settle, cX5_settle, 4, none, 0, 3, 66, tb5_settle)
def tb5_settleItem : List (Option Instr) := [some (.aload_n 0), some (.iload_n 1), some (.invokevirtual 100), none, none, some (.ifCond .ne 5), none, none, some (.iconst 0), some .ireturn, some (.aload_n 0), some (.iload_n 1), some (.invokevirtual 103), none, none, some (.istore_n 2), some (.iload_n 2), some (.aload_n 0), some (.getfield 43), none, none, some (.iload_n 1), some .iaload, some (.if_icmp .ne 5), none, none, some (.iconst 0), some .ireturn, some (.iload_n 2), some (.iconst 1), some (.if_icmp .ne 17), none, none, some (.aload_n 0), some (.iload_n 1), some (.aload_n 0), some (.getfield 40), none, none, some (.iload_n 1), some .iaload, some (.invokevirtual 106), none, none, some (.goto 10), none, none, some (.aload_n 0), some (.getfield 43), none, none, some (.iload_n 1), some (.iload_n 2), some .iastore, some (.iconst 1), some .ireturn]
def M5_settleItem : MT := (5, yX5_settleItem, cX5_settleItem, 3, (some .boolean), 1, 2, 44, tb5_settleItem)
def tb5_stateByEdges : List (Option Instr) := [some (.iconst 1), some (.istore_n 2), some (.iconst 0), some (.istore_n 3), some (.iload_n 3), some (.aload_n 0), some (.getfield 9), none, none, some (.if_icmp .ge 54), none, none, some (.aload_n 0), some (.getfield 61), none, none, some (.iload_n 1), some .iaload, some (.iload_n 3), some (.invokestatic 87), none, none, some (.ifCond .eq 13), none, none, some (.aload_n 0), some (.iload_n 3), some (.invokevirtual 109), none, none, some (.ifCond .eq 5), none, none, some (.iconst 5), some .ireturn, some (.aload_n 0), some (.iload_n 1), some (.invokevirtual 79), none, none, some (.iload_n 3), some (.invokestatic 87), none, none, some (.ifCond .eq 13), none, none, some (.aload_n 0), some (.iload_n 3), some (.invokevirtual 67), none, none, some (.ifCond .ne 5), none, none, some (.iconst 0), some (.istore_n 2), some (.iinc 3 1), none, none, some (.goto (-56)), none, none, some (.iload_n 2), some .ireturn]
def M5_stateByEdges : MT := (5, yX5_stateByEdges, cX5_stateByEdges, 4, (some .int), 1, 1, 21, tb5_stateByEdges)
def tb5_endAs : List (Option Instr) := [some (.aload_n 0), some (.iload_n 3), some (.invokevirtual 71), none, none, some (.istore 4), none, some (.aload_n 0), some (.getfield 43), none, none, some (.iload_n 1), some (.iload_n 2), some .iastore, some (.aload_n 0), some (.invokevirtual 112), none, none, some (.aload_n 0), some (.iload_n 3), some (.invokevirtual 71), none, none, some (.iload 4), none, some (.iconst (-1)), some .ixor, some .iand, some (.invokestatic 82), none, none, some .ireturn]
def M5_endAs : MT := (5, yX5_endAs, cX5_endAs, 5, (some .int), 3, 4, 89, tb5_endAs)
def tb5_comeBack : List (Option Instr) := [some (.aload_n 0), some (.getfield 55), none, none, some (.iload_n 1), some .iaload, some (.aload_n 0), some (.getfield 34), none, none, some (.iload_n 1), some .iaload, some (.if_icmp .lt 14), none, none, some (.aload_n 0), some (.getfield 43), none, none, some (.iload_n 1), some (.bipush 6), none, some .iastore, some (.goto 9), none, none, some (.aload_n 0), some (.iload_n 1), some (.iload_n 2), some (.invokevirtual 106), none, none, some .return_]
def M5_comeBack : MT := (5, yX5_comeBack, cX5_comeBack, 3, none, 2, 1, 22, tb5_comeBack)
def tb5_passTick : List (Option Instr) := [some (.aload_n 0), some .dup, some (.getfield 15), none, none, some (.iconst 1), some .iadd, some (.putfield 15), none, none, some (.iconst 0), some (.istore_n 1), some (.iconst 0), some (.istore_n 2), some (.iload_n 2), some (.aload_n 0), some (.getfield 9), none, none, some (.if_icmp .ge 41), none, none, some (.aload_n 0), some (.getfield 43), none, none, some (.iload_n 2), some .iaload, some (.iconst 2), some (.if_icmp .ne 25), none, none, some (.aload_n 0), some (.getfield 52), none, none, some (.iload_n 2), some .iaload, some (.aload_n 0), some (.getfield 15), none, none, some (.if_icmp .gt 12), none, none, some (.aload_n 0), some (.iload_n 2), some (.iconst 0), some (.invokevirtual 115), none, none, some (.iinc 1 1), none, none, some (.iinc 2 1), none, none, some (.goto (-43)), none, none, some (.iload_n 1), some (.ifCond .le 7), none, none, some (.aload_n 0), some (.invokevirtual 112), none, none, some (.iload_n 1), some .ireturn]
def M5_passTick : MT := (5, yX5_passTick, cX5_passTick, 3, (some .int), 0, 4, 89, tb5_passTick)
def tb5_rankFor : List (Option Instr) := [some (.aload_n 0), some (.getfield 27), none, none, some (.iload_n 1), some .iaload, some (.bipush 100), none, some .imul, some (.istore 5), none, some (.iload_n 2), some (.iconst 1), some (.if_icmp .ne 9), none, none, some (.iload 5), none, some (.iload_n 3), some .iadd, some (.istore 5), none, some (.iload_n 2), some (.iconst 2), some (.if_icmp .ne 13), none, none, some (.iload 5), none, some (.bipush 10), none, some (.iload 4), none, some .imul, some .iadd, some (.istore 5), none, some (.iload 5), none, some .ireturn]
def M5_rankFor : MT := (5, yX5_rankFor, cX5_rankFor, 6, (some .int), 4, 0, 0, tb5_rankFor)
def tb5_rankNow : List (Option Instr) := [some (.aload_n 0), some (.getfield 43), none, none, some (.iload_n 1), some .iaload, some (.iconst 1), some (.if_icmp .ne 17), none, none, some (.aload_n 0), some (.getfield 15), none, none, some (.aload_n 0), some (.getfield 49), none, none, some (.iload_n 1), some .iaload, some .isub, some (.goto 4), none, none, some (.iconst 0), some (.istore_n 3), some (.aload_n 0), some (.iload_n 1), some (.aload_n 0), some (.getfield 18), none, none, some (.iload_n 2), some (.iload_n 3), some (.invokevirtual 118), none, none, some .ireturn]
def M5_rankNow : MT := (5, yX5_rankNow, cX5_rankNow, 4, (some .int), 2, 1, 25, tb5_rankNow)
def tb5_nextToReceive : List (Option Instr) := [some (.bipush (-7)), none, some (.istore_n 2), some (.iconst 0), some (.istore_n 3), some (.iconst 0), some (.istore 4), none, some (.iload 4), none, some (.aload_n 0), some (.getfield 9), none, none, some (.if_icmp .ge 48), none, none, some (.aload_n 0), some (.iload 4), none, some (.invokevirtual 122), none, none, some (.ifCond .eq 33), none, none, some (.aload_n 0), some (.iload 4), none, some (.aload_n 1), some (.iload 4), none, some .iaload, some (.invokevirtual 125), none, none, some (.istore 5), none, some (.iload_n 2), some (.bipush (-7)), none, some (.if_icmp .eq 9), none, none, some (.iload 5), none, some (.iload_n 3), some (.if_icmp .le 9), none, none, some (.iload 4), none, some (.istore_n 2), some (.iload 5), none, some (.istore_n 3), some (.iinc 4 1), none, none, some (.goto (-51)), none, none, some (.iload_n 2), some .ireturn]
def M5_nextToReceive : MT := (5, yX5_nextToReceive, cX5_nextToReceive, 6, (some .int), 1, 2, 48, tb5_nextToReceive)
def tb5_canBeReceived : List (Option Instr) := [some (.aload_n 0), some (.getfield 43), none, none, some (.iload_n 1), some .iaload, some (.iconst 1), some (.if_icmp .ne 37), none, none, some (.aload_n 0), some (.getfield 46), none, none, some (.iload_n 1), some .iaload, some (.aload_n 0), some (.getfield 15), none, none, some (.if_icmp .gt 24), none, none, some (.aload_n 0), some (.aload_n 0), some (.getfield 37), none, none, some (.iload_n 1), some .iaload, some (.invokevirtual 129), none, none, some (.aload_n 0), some (.getfield 21), none, none, some (.if_icmp .ge 7), none, none, some (.iconst 1), some (.goto 4), none, none, some (.iconst 0), some .ireturn]
def M5_canBeReceived : MT := (5, yX5_canBeReceived, cX5_canBeReceived, 2, (some .boolean), 1, 1, 23, tb5_canBeReceived)
def tb5_inFlightOf : List (Option Instr) := [some (.iconst 0), some (.istore_n 2), some (.iconst 0), some (.istore_n 3), some (.iload_n 3), some (.aload_n 0), some (.getfield 9), none, none, some (.if_icmp .ge 32), none, none, some (.aload_n 0), some (.getfield 43), none, none, some (.iload_n 3), some .iaload, some (.iconst 2), some (.if_icmp .ne 16), none, none, some (.aload_n 0), some (.getfield 37), none, none, some (.iload_n 3), some .iaload, some (.iload_n 1), some (.if_icmp .ne 6), none, none, some (.iinc 2 1), none, none, some (.iinc 3 1), none, none, some (.goto (-34)), none, none, some (.iload_n 2), some .ireturn]
def M5_inFlightOf : MT := (5, yX5_inFlightOf, cX5_inFlightOf, 4, (some .int), 1, 0, 0, tb5_inFlightOf)
def tb5_takeOut : List (Option Instr) := [some (.aload_n 0), some .dup, some (.getfield 24), none, none, some (.iconst 1), some .iadd, some (.putfield 24), none, none, some (.aload_n 0), some (.getfield 43), none, none, some (.iload_n 1), some (.iconst 2), some .iastore, some (.aload_n 0), some (.getfield 52), none, none, some (.iload_n 1), some (.aload_n 0), some (.getfield 15), none, none, some (.iload_n 2), some .iadd, some .iastore, some (.aload_n 0), some (.getfield 55), none, none, some (.iload_n 1), some .dup2, some .iaload, some (.iconst 1), some .iadd, some .iastore, some (.aload_n 0), some (.getfield 58), none, none, some (.iload_n 1), some (.aload_n 0), some (.getfield 24), none, none, some .iastore, some .return_]
def M5_takeOut : MT := (5, yX5_takeOut, cX5_takeOut, 3, none, 2, 0, 0, tb5_takeOut)
def tb5_doomedBy : List (Option Instr) := [some (.iconst 1), some (.iload_n 1), some .ishl, some (.istore_n 2), some (.iconst 1), some (.istore_n 3), some (.iconst 0), some (.istore 4), none, some (.iload_n 3), some (.ifCond .eq 76), none, none, some (.iload 4), none, some (.sipush 1000), none, none, some (.if_icmp .ge 68), none, none, some (.iconst 0), some (.istore_n 3), some (.iconst 0), some (.istore 5), none, some (.iload 5), none, some (.aload_n 0), some (.getfield 9), none, none, some (.if_icmp .ge 48), none, none, some (.aload_n 0), some (.iload 5), none, some (.invokevirtual 100), none, none, some (.ifCond .eq 33), none, none, some (.iload_n 2), some (.iload 5), none, some (.invokestatic 87), none, none, some (.ifCond .ne 24), none, none, some (.aload_n 0), some (.getfield 61), none, none, some (.iload 5), none, some .iaload, some (.iload_n 2), some .iand, some (.ifCond .eq 12), none, none, some (.iload_n 2), some (.iconst 1), some (.iload 5), none, some .ishl, some .ior, some (.istore_n 2), some (.iconst 1), some (.istore_n 3), some (.iinc 5 1), none, none, some (.goto (-51)), none, none, some (.iinc 4 1), none, none, some (.goto (-74)), none, none, some (.iload_n 2), some (.iconst 1), some (.iload_n 1), some .ishl, some (.iconst (-1)), some .ixor, some .iand, some .ireturn]
def M5_doomedBy : MT := (5, yX5_doomedBy, cX5_doomedBy, 6, (some .int), 1, 1, 21, tb5_doomedBy)
def tb5_copyAll : List (Option Instr) := [some (.aload_n 0), some (.aload_n 1), some (.invokevirtual 132), none, none, some (.aload_n 0), some (.aload_n 1), some (.getfield 15), none, none, some (.putfield 15), none, none, some (.aload_n 0), some (.aload_n 1), some (.getfield 18), none, none, some (.putfield 18), none, none, some (.aload_n 0), some (.aload_n 1), some (.getfield 21), none, none, some (.putfield 21), none, none, some (.aload_n 0), some (.aload_n 1), some (.getfield 24), none, none, some (.putfield 24), none, none, some .return_]
def M5_copyAll : MT := (5, yX5_copyAll, cX5_copyAll, 2, none, 1, 3, 102, tb5_copyAll)
def tb5_copyItems : List (Option Instr) := [some (.aload_n 0), some (.aload_n 1), some (.getfield 9), none, none, some (.putfield 9), none, none, some (.aload_n 1), some (.getfield 27), none, none, some (.aload_n 0), some (.getfield 27), none, none, some (.invokestatic 136), none, none, some (.aload_n 1), some (.getfield 31), none, none, some (.aload_n 0), some (.getfield 31), none, none, some (.invokestatic 136), none, none, some (.aload_n 1), some (.getfield 34), none, none, some (.aload_n 0), some (.getfield 34), none, none, some (.invokestatic 136), none, none, some (.aload_n 1), some (.getfield 37), none, none, some (.aload_n 0), some (.getfield 37), none, none, some (.invokestatic 136), none, none, some (.aload_n 1), some (.getfield 40), none, none, some (.aload_n 0), some (.getfield 40), none, none, some (.invokestatic 136), none, none, some (.aload_n 1), some (.getfield 43), none, none, some (.aload_n 0), some (.getfield 43), none, none, some (.invokestatic 136), none, none, some (.aload_n 1), some (.getfield 46), none, none, some (.aload_n 0), some (.getfield 46), none, none, some (.invokestatic 136), none, none, some (.aload_n 1), some (.getfield 49), none, none, some (.aload_n 0), some (.getfield 49), none, none, some (.invokestatic 136), none, none, some (.aload_n 1), some (.getfield 52), none, none, some (.aload_n 0), some (.getfield 52), none, none, some (.invokestatic 136), none, none, some (.aload_n 1), some (.getfield 55), none, none, some (.aload_n 0), some (.getfield 55), none, none, some (.invokestatic 136), none, none, some (.aload_n 1), some (.getfield 58), none, none, some (.aload_n 0), some (.getfield 58), none, none, some (.invokestatic 136), none, none, some (.aload_n 1), some (.getfield 61), none, none, some (.aload_n 0), some (.getfield 61), none, none, some (.invokestatic 136), none, none, some (.aload_n 1), some (.getfield 64), none, none, some (.aload_n 0), some (.getfield 64), none, none, some (.invokestatic 136), none, none, some .return_]
def M5_copyItems : MT := (5, yX5_copyItems, cX5_copyItems, 2, none, 1, 2, 81, tb5_copyItems)
def tb5_copyRow : List (Option Instr) := [some (.aload_n 0), some (.iconst 0), some (.aload_n 1), some (.iconst 0), some (.bipush 20), none, some (.invokestatic 140), none, none, some .return_]
def M5_copyRow : MT := (5, yX5_copyRow, cX5_copyRow, 2, none, 2, 1, 60, tb5_copyRow)
def tb6_init : List (Option Instr) := [some (.aload_n 0), some (.invokespecial 3), none, none, some (.aload_n 0), some (.iconst 0), some (.putfield 9), none, none, some (.aload_n 0), some (.new 15), none, none, some .dup, some (.invokespecial 17), none, none, some (.putfield 18), none, none, some (.aload_n 0), some (.sipush 200), none, none, some (.newarray .int), none, some (.putfield 22), none, none, some (.aload_n 0), some (.iconst 0), some (.putfield 26), none, none, some .return_]
def M6_init : MT := (6, yX6_init, cX6_init, 1, none, 0, 2, 42, tb6_init)
def tb6_append : List (Option Instr) := [some (.aload_n 0), some (.getfield 22), none, none, some (.aload_n 0), some (.getfield 9), none, none, some (.iload_n 1), some .iastore, some (.aload_n 0), some .dup, some (.getfield 9), none, none, some (.iconst 1), some .iadd, some (.putfield 9), none, none, some .return_]
def M6_append : MT := (6, yX6_append, cX6_append, 2, none, 1, 0, 0, tb6_append)
def tb6_read : List (Option Instr) := [some (.aload_n 0), some (.getfield 18), none, none, some (.invokevirtual 29), none, none, some (.aload_n 0), some (.iconst 0), some (.putfield 26), none, none, some (.bipush (-7)), none, some (.istore_n 1), some (.iconst 0), some (.istore_n 2), some (.iload_n 2), some (.sipush 200), none, none, some (.if_icmp .ge 31), none, none, some (.aload_n 0), some (.getfield 26), none, none, some (.aload_n 0), some (.getfield 9), none, none, some (.if_icmp .ge 20), none, none, some (.iload_n 1), some (.bipush (-7)), none, some (.if_icmp .ne 14), none, none, some (.aload_n 0), some (.invokevirtual 32), none, none, some (.istore_n 1), some (.iinc 2 1), none, none, some (.goto (-32)), none, none, some (.iload_n 1), some .ireturn]
def M6_read : MT := (6, yX6_read, cX6_read, 3, (some .int), 0, 4, 94, tb6_read)
def tb6_readItem : List (Option Instr) := [some (.aload_n 0), some (.getfield 18), none, none, some (.invokevirtual 36), none, none, some (.ifCond .ne 13), none, none, some (.aload_n 0), some (.invokevirtual 40), none, none, some (.invokestatic 43), none, none, some (.ifCond .ne 8), none, none, some (.aload_n 0), some (.getfield 26), none, none, some .ireturn, some (.aload_n 0), some (.invokevirtual 40), none, none, some (.bipush 48), none, some .isub, some (.istore_n 1), some (.aload_n 0), some .dup, some (.getfield 26), none, none, some (.iconst 1), some .iadd, some (.putfield 26), none, none, some (.aload_n 0), some (.invokevirtual 40), none, none, some (.bipush 119), none, some (.if_icmp .eq 8), none, none, some (.aload_n 0), some (.getfield 26), none, none, some .ireturn, some (.aload_n 0), some .dup, some (.getfield 26), none, none, some (.iconst 1), some .iadd, some (.putfield 26), none, none, some (.aload_n 0), some (.getfield 26), none, none, some (.istore_n 2), some (.aload_n 0), some (.invokevirtual 47), none, none, some (.istore_n 3), some (.iload_n 3), some (.iconst 1), some (.bipush 20), none, some (.invokestatic 50), none, none, some (.ifCond .ne 5), none, none, some (.iload_n 2), some .ireturn, some (.aload_n 0), some (.aload_n 0), some (.getfield 18), none, none, some (.iload_n 1), some (.iload_n 3), some (.iconst 3), some (.iconst 0), some (.iconst 0), some (.invokevirtual 54), none, none, some (.invokevirtual 58), none, none, some .ireturn]
def M6_readItem : MT := (6, yX6_readItem, cX6_readItem, 4, (some .int), 0, 3, 71, tb6_readItem)
def tb6_readEdges : List (Option Instr) := [some (.iconst 0), some (.istore_n 2), some (.iload_n 2), some (.sipush 200), none, none, some (.if_icmp .ge 126), none, none, some (.aload_n 0), some (.invokevirtual 40), none, none, some (.bipush 59), none, some (.if_icmp .eq 117), none, none, some (.aload_n 0), some (.invokevirtual 40), none, none, some (.istore_n 3), some (.iload_n 3), some (.bipush 60), none, some (.if_icmp .eq 14), none, none, some (.iload_n 3), some (.bipush 33), none, some (.if_icmp .eq 8), none, none, some (.aload_n 0), some (.getfield 26), none, none, some .ireturn, some (.aload_n 0), some .dup, some (.getfield 26), none, none, some (.iconst 1), some .iadd, some (.putfield 26), none, none, some (.aload_n 0), some (.getfield 26), none, none, some (.istore 4), none, some (.aload_n 0), some (.invokevirtual 47), none, none, some (.istore 5), none, some (.iload 5), none, some (.iconst (-1)), some (.if_icmp .eq 13), none, none, some (.iload 5), none, some (.iload_n 1), some (.if_icmp .ge 7), none, none, some (.iconst 1), some (.goto 4), none, none, some (.iconst 0), some (.istore 6), none, some (.iload 6), none, some (.ifCond .eq 19), none, none, some (.aload_n 0), some (.getfield 18), none, none, some (.iload_n 1), some (.invokevirtual 62), none, none, some (.iload 5), none, some (.invokestatic 65), none, none, some (.ifCond .eq 6), none, none, some (.iload 4), none, some .ireturn, some (.aload_n 0), some (.getfield 18), none, none, some (.iload 5), none, some (.iload_n 1), some (.iload_n 3), some (.bipush 60), none, some (.if_icmp .ne 7), none, none, some (.iconst 0), some (.goto 4), none, none, some (.iconst 1), some (.invokevirtual 71), none, none, some (.iinc 2 1), none, none, some (.goto (-127)), none, none, some (.aload_n 0), some .dup, some (.getfield 26), none, none, some (.iconst 1), some .iadd, some (.putfield 26), none, none, some (.bipush (-7)), none, some .ireturn]
def M6_readEdges : MT := (6, yX6_readEdges, cX6_readEdges, 7, (some .int), 1, 2, 45, tb6_readEdges)
def tb6_readNumber : List (Option Instr) := [some (.aload_n 0), some (.invokevirtual 40), none, none, some (.invokestatic 43), none, none, some (.ifCond .ne 5), none, none, some (.iconst (-1)), some .ireturn, some (.aload_n 0), some (.invokevirtual 40), none, none, some (.bipush 48), none, some .isub, some (.istore_n 1), some (.aload_n 0), some .dup, some (.getfield 26), none, none, some (.iconst 1), some .iadd, some (.putfield 26), none, none, some (.aload_n 0), some (.invokevirtual 40), none, none, some (.invokestatic 43), none, none, some (.ifCond .eq 26), none, none, some (.iload_n 1), some (.bipush 10), none, some .imul, some (.aload_n 0), some (.invokevirtual 40), none, none, some .iadd, some (.bipush 48), none, some .isub, some (.istore_n 1), some (.aload_n 0), some .dup, some (.getfield 26), none, none, some (.iconst 1), some .iadd, some (.putfield 26), none, none, some (.iload_n 1), some .ireturn]
def M6_readNumber : MT := (6, yX6_readNumber, cX6_readNumber, 2, (some .int), 0, 1, 20, tb6_readNumber)
def tb6_codeHere : List (Option Instr) := [some (.aload_n 0), some (.getfield 26), none, none, some (.aload_n 0), some (.getfield 9), none, none, some (.if_icmp .ge 15), none, none, some (.aload_n 0), some (.getfield 22), none, none, some (.aload_n 0), some (.getfield 26), none, none, some .iaload, some (.goto 4), none, none, some (.iconst 0), some .ireturn]
def M6_codeHere : MT := (6, yX6_codeHere, cX6_codeHere, 1, (some .int), 0, 0, 0, tb6_codeHere)
def tb6_isDigit : List (Option Instr) := [some (.iload_n 0), some (.bipush 48), none, some (.if_icmp .lt 13), none, none, some (.iload_n 0), some (.bipush 57), none, some (.if_icmp .gt 7), none, none, some (.iconst 1), some (.goto 4), none, none, some (.iconst 0), some .ireturn]
def M6_isDigit : MT := (6, yX6_isDigit, cX6_isDigit, 1, (some .boolean), 1, 0, 0, tb6_isDigit)
def tb7_init : List (Option Instr) := [some (.aload_n 0), some (.invokespecial 3), none, none, some (.aload_n 0), some (.iconst 0), some (.putfield 9), none, none, some (.aload_n 0), some (.bipush 20), none, some (.newarray .int), none, some (.putfield 15), none, none, some (.aload_n 0), some (.bipush 20), none, some (.newarray .int), none, some (.putfield 19), none, none, some .return_]
def M7_init : MT := (7, yX7_init, cX7_init, 1, none, 0, 1, 22, tb7_init)
def tb7_forget : List (Option Instr) := [some (.aload_n 0), some (.iconst 0), some (.putfield 9), none, none, some .return_]
def M7_forget : MT := (7, yX7_forget, cX7_forget, 1, none, 0, 0, 0, tb7_forget)
def tb7_remember : List (Option Instr) := [some (.aload_n 0), some (.aload_n 1), some (.iload_n 2), some (.iload_n 3), some (.invokevirtual 22), none, none, some (.istore 4), none, some (.aload_n 0), some (.getfield 15), none, none, some (.iconst 0), some (.iload_n 2), some .iastore, some (.aload_n 0), some (.iload 4), none, some (.iconst 1), some .iadd, some (.putfield 9), none, none, some (.iconst 1), some (.istore 5), none, some (.iload 5), none, some (.iload 4), none, some (.if_icmp .gt 39), none, none, some (.aload_n 0), some (.getfield 15), none, none, some (.iload 5), none, some (.aload_n 1), some (.aload_n 0), some (.getfield 15), none, none, some (.iload 5), none, some (.iconst 1), some .isub, some .iaload, some (.aload_n 0), some (.getfield 19), none, none, some (.iload 4), none, some (.iload 5), none, some .isub, some .iaload, some (.invokestatic 26), none, none, some .iastore, some (.iinc 5 1), none, none, some (.goto (-40)), none, none, some .return_]
def M7_remember : MT := (7, yX7_remember, cX7_remember, 6, none, 3, 3, 68, tb7_remember)
def tb7_drawRings : List (Option Instr) := [some (.aload_n 0), some (.getfield 19), none, none, some (.iconst 0), some (.iconst 1), some (.iload_n 3), some .ishl, some .iastore, some (.iconst 0), some (.istore 4), none, some (.iload 4), none, some (.bipush 19), none, some (.if_icmp .ge 43), none, none, some (.aload_n 0), some (.getfield 19), none, none, some (.iload 4), none, some .iaload, some (.iload_n 2), some (.invokestatic 29), none, none, some (.ifCond .ne 29), none, none, some (.aload_n 0), some (.getfield 19), none, none, some (.iload 4), none, some (.iconst 1), some .iadd, some (.aload_n 1), some (.aload_n 0), some (.getfield 19), none, none, some (.iload 4), none, some .iaload, some (.invokestatic 35), none, none, some .iastore, some (.iinc 4 1), none, none, some (.goto (-44)), none, none, some (.iload 4), none, some .ireturn]
def M7_drawRings : MT := (7, yX7_drawRings, cX7_drawRings, 5, (some .int), 3, 2, 44, tb7_drawRings)
def tb7_predecessorsOfAll : List (Option Instr) := [some (.iconst 0), some (.istore_n 2), some (.iconst 0), some (.istore_n 3), some (.iload_n 3), some (.aload_n 0), some (.getfield 39), none, none, some (.if_icmp .ge 25), none, none, some (.iload_n 1), some (.iload_n 3), some (.invokestatic 29), none, none, some (.ifCond .eq 11), none, none, some (.iload_n 2), some (.aload_n 0), some (.iload_n 3), some (.invokevirtual 44), none, none, some .ior, some (.istore_n 2), some (.iinc 3 1), none, none, some (.goto (-27)), none, none, some (.iload_n 2), some .ireturn]
def M7_predecessorsOfAll : MT := (7, yX7_predecessorsOfAll, cX7_predecessorsOfAll, 4, (some .int), 2, 1, 21, tb7_predecessorsOfAll)
def tb7_lowestSuccessor : List (Option Instr) := [some (.iconst 0), some (.istore_n 3), some (.iload_n 3), some (.aload_n 0), some (.getfield 39), none, none, some (.if_icmp .ge 31), none, none, some (.iload_n 2), some (.iload_n 3), some (.invokestatic 29), none, none, some (.ifCond .eq 17), none, none, some (.aload_n 0), some (.iload_n 3), some (.invokevirtual 44), none, none, some (.iload_n 1), some (.invokestatic 29), none, none, some (.ifCond .eq 5), none, none, some (.iload_n 3), some .ireturn, some (.iinc 3 1), none, none, some (.goto (-33)), none, none, some (.bipush (-7)), none, some .ireturn]
def M7_lowestSuccessor : MT := (7, yX7_lowestSuccessor, cX7_lowestSuccessor, 4, (some .int), 3, 1, 21, tb7_lowestSuccessor)
def tb8_init : List (Option Instr) := [some (.aload_n 0), some (.invokespecial 1), none, none, some (.aload_n 0), some (.new 7), none, none, some .dup, some (.invokespecial 9), none, none, some (.putfield 10), none, none, some (.aload_n 0), some (.iconst 2), some (.anewarray 7), none, none, some (.putfield 16), none, none, some (.aload_n 0), some (.new 20), none, none, some .dup, some (.aload_n 0), some (.getfield 10), none, none, some (.invokespecial 22), none, none, some (.putfield 25), none, none, some (.aload_n 0), some (.new 29), none, none, some .dup, some (.invokespecial 31), none, none, some (.putfield 32), none, none, some (.aload_n 0), some (.new 36), none, none, some .dup, some (.invokespecial 38), none, none, some (.putfield 39), none, none, some (.aload_n 0), some (.new 43), none, none, some .dup, some (.invokespecial 45), none, none, some (.putfield 46), none, none, some (.aload_n 0), some (.new 50), none, none, some .dup, some (.invokespecial 52), none, none, some (.putfield 53), none, none, some (.aload_n 0), some (.new 57), none, none, some .dup, some (.invokespecial 59), none, none, some (.putfield 60), none, none, some .return_]
def M8_init : MT := (8, yX8_init, cX8_init, 1, none, 0, 3, 62, tb8_init)
def tb8_add : List (Option Instr) := [some (.iload_n 1), some (.iconst 0), some (.bipush 9), none, some (.invokestatic 64), none, none, some (.ifCond .eq 47), none, none, some (.iload_n 2), some (.iconst 1), some (.bipush 20), none, some (.invokestatic 64), none, none, some (.ifCond .eq 37), none, none, some (.iload_n 3), some (.iconst 1), some (.iconst 5), some (.invokestatic 64), none, none, some (.ifCond .eq 28), none, none, some (.iload 4), none, some (.iconst 0), some (.iconst 3), some (.invokestatic 64), none, none, some (.ifCond .eq 18), none, none, some (.iload 5), none, some (.iconst 0), some (.bipush 20), none, some (.invokestatic 64), none, none, some (.ifCond .eq 7), none, none, some (.iconst 1), some (.goto 4), none, none, some (.iconst 0), some (.istore 6), none, some (.iload 6), none, some (.ifCond .ne 6), none, none, some (.bipush (-2)), none, some .ireturn, some (.aload_n 0), some (.getfield 10), none, none, some (.invokevirtual 68), none, none, some (.ifCond .eq 6), none, none, some (.bipush (-3)), none, some .ireturn, some (.aload_n 0), some (.getfield 10), none, none, some (.iload_n 1), some (.iload_n 2), some (.iload_n 3), some (.iload 4), none, some (.iload 5), none, some (.invokevirtual 72), none, none, some (.istore 7), none, some (.aload_n 0), some (.getfield 10), none, none, some (.iload 7), none, some (.iload 5), none, some (.invokevirtual 76), none, none, some (.iload 7), none, some .ireturn]
def M8_add : MT := (8, yX8_add, cX8_add, 8, (some .int), 5, 2, 47, tb8_add)
def tb8_link : List (Option Instr) := [some (.aload_n 0), some (.getfield 10), none, none, some (.iload_n 1), some (.invokevirtual 80), none, none, some (.ifCond .eq 14), none, none, some (.aload_n 0), some (.getfield 10), none, none, some (.iload_n 2), some (.invokevirtual 80), none, none, some (.ifCond .ne 5), none, none, some (.iconst (-1)), some .ireturn, some (.iload_n 3), some (.iconst 0), some (.iconst 1), some (.invokestatic 64), none, none, some (.ifCond .ne 6), none, none, some (.bipush (-2)), none, some .ireturn, some (.iload_n 1), some (.iload_n 2), some (.if_icmp .eq 19), none, none, some (.aload_n 0), some (.getfield 25), none, none, some (.invokevirtual 84), none, none, some (.iload_n 1), some .iaload, some (.iload_n 2), some (.invokestatic 88), none, none, some (.ifCond .eq 19), none, none, some (.aload_n 0), some (.getfield 32), none, none, some (.aload_n 0), some (.getfield 10), none, none, some (.iload_n 2), some (.iload_n 1), some (.invokevirtual 94), none, none, some (.bipush (-5)), none, some .ireturn, some (.aload_n 0), some (.getfield 10), none, none, some (.iload_n 2), some (.invokevirtual 98), none, none, some (.ifCond .ne 6), none, none, some (.bipush (-4)), none, some .ireturn, some (.aload_n 0), some (.getfield 10), none, none, some (.iload_n 1), some (.iload_n 2), some (.iload_n 3), some (.invokevirtual 101), none, none, some (.aload_n 0), some (.getfield 10), none, none, some (.invokevirtual 105), none, none, some (.aload_n 0), some (.getfield 10), none, none, some (.invokevirtual 108), none, none, some .ireturn]
def M8_link : MT := (8, yX8_link, cX8_link, 4, (some .int), 3, 4, 93, tb8_link)
def tb8_witness : List (Option Instr) := [some (.iload_n 1), some (.ifCond .ge 6), none, none, some (.bipush (-2)), none, some .ireturn, some (.iload_n 1), some (.aload_n 0), some (.getfield 32), none, none, some (.getfield 112), none, none, some (.if_icmp .ge 15), none, none, some (.aload_n 0), some (.getfield 32), none, none, some (.getfield 116), none, none, some (.iload_n 1), some .iaload, some (.goto 5), none, none, some (.bipush (-7)), none, some .ireturn]
def M8_witness : MT := (8, yX8_witness, cX8_witness, 2, (some .int), 1, 0, 0, tb8_witness)
def tb8_unlink : List (Option Instr) := [some (.aload_n 0), some (.getfield 10), none, none, some (.iload_n 1), some (.invokevirtual 80), none, none, some (.ifCond .eq 14), none, none, some (.aload_n 0), some (.getfield 10), none, none, some (.iload_n 2), some (.invokevirtual 80), none, none, some (.ifCond .ne 5), none, none, some (.iconst (-1)), some .ireturn, some (.aload_n 0), some (.getfield 10), none, none, some (.iload_n 2), some (.invokevirtual 120), none, none, some (.iload_n 1), some (.invokestatic 88), none, none, some (.ifCond .eq 14), none, none, some (.aload_n 0), some (.getfield 10), none, none, some (.iload_n 2), some (.invokevirtual 98), none, none, some (.ifCond .ne 6), none, none, some (.bipush (-4)), none, some .ireturn, some (.aload_n 0), some (.getfield 10), none, none, some (.iload_n 1), some (.iload_n 2), some (.invokevirtual 124), none, none, some (.aload_n 0), some (.getfield 10), none, none, some (.invokevirtual 105), none, none, some (.aload_n 0), some (.getfield 10), none, none, some (.invokevirtual 108), none, none, some .ireturn]
def M8_unlink : MT := (8, yX8_unlink, cX8_unlink, 3, (some .int), 2, 4, 89, tb8_unlink)
def tb8_setPriority : List (Option Instr) := [some (.aload_n 0), some (.getfield 10), none, none, some (.iload_n 1), some (.invokevirtual 80), none, none, some (.ifCond .ne 5), none, none, some (.iconst (-1)), some .ireturn, some (.iload_n 2), some (.iconst 0), some (.bipush 9), none, some (.invokestatic 64), none, none, some (.ifCond .ne 6), none, none, some (.bipush (-2)), none, some .ireturn, some (.aload_n 0), some (.getfield 10), none, none, some (.iload_n 1), some (.invokevirtual 127), none, none, some (.ifCond .eq 6), none, none, some (.bipush (-4)), none, some .ireturn, some (.aload_n 0), some (.getfield 10), none, none, some (.getfield 130), none, none, some (.iload_n 1), some .iaload, some (.istore_n 3), some (.aload_n 0), some (.getfield 10), none, none, some (.getfield 130), none, none, some (.iload_n 1), some (.iload_n 2), some .iastore, some (.iload_n 3), some .ireturn]
def M8_setPriority : MT := (8, yX8_setPriority, cX8_setPriority, 4, (some .int), 2, 1, 22, tb8_setPriority)
def tb8_setPolicy : List (Option Instr) := [some (.iload_n 1), some (.iconst 0), some (.iconst 2), some (.invokestatic 64), none, none, some (.ifCond .ne 6), none, none, some (.bipush (-2)), none, some .ireturn, some (.aload_n 0), some (.getfield 10), none, none, some (.getfield 133), none, none, some (.istore_n 2), some (.aload_n 0), some (.getfield 10), none, none, some (.iload_n 1), some (.putfield 133), none, none, some (.iload_n 2), some .ireturn]
def M8_setPolicy : MT := (8, yX8_setPolicy, cX8_setPolicy, 3, (some .int), 1, 1, 22, tb8_setPolicy)
def tb8_setGroupLimit : List (Option Instr) := [some (.iload_n 1), some (.iconst 1), some (.bipush 9), none, some (.invokestatic 64), none, none, some (.ifCond .ne 6), none, none, some (.bipush (-2)), none, some .ireturn, some (.aload_n 0), some (.getfield 10), none, none, some (.getfield 136), none, none, some (.istore_n 2), some (.aload_n 0), some (.getfield 10), none, none, some (.iload_n 1), some (.putfield 136), none, none, some (.iload_n 2), some .ireturn]
def M8_setGroupLimit : MT := (8, yX8_setGroupLimit, cX8_setGroupLimit, 3, (some .int), 1, 1, 22, tb8_setGroupLimit)
def tb8_clear : List (Option Instr) := [some (.aload_n 0), some (.getfield 10), none, none, some (.getfield 139), none, none, some (.istore_n 1), some (.aload_n 0), some (.getfield 10), none, none, some (.invokevirtual 142), none, none, some (.aload_n 0), some (.getfield 32), none, none, some (.invokevirtual 145), none, none, some (.iload_n 1), some .ireturn]
def M8_clear : MT := (8, yX8_clear, cX8_clear, 2, (some .int), 0, 1, 20, tb8_clear)
def tb8_receive : List (Option Instr) := [some (.iload_n 1), some (.iconst 1), some (.bipush 30), none, some (.invokestatic 64), none, none, some (.ifCond .ne 6), none, none, some (.bipush (-2)), none, some .ireturn, some (.aload_n 0), some (.getfield 10), none, none, some (.aload_n 0), some (.getfield 25), none, none, some (.invokevirtual 148), none, none, some (.invokevirtual 151), none, none, some (.istore_n 2), some (.aload_n 0), some (.getfield 10), none, none, some (.iload_n 2), some (.invokevirtual 80), none, none, some (.ifCond .eq 12), none, none, some (.aload_n 0), some (.getfield 10), none, none, some (.iload_n 2), some (.iload_n 1), some (.invokevirtual 155), none, none, some (.iload_n 2), some .ireturn]
def M8_receive : MT := (8, yX8_receive, cX8_receive, 3, (some .int), 1, 4, 90, tb8_receive)
def tb8_receipt : List (Option Instr) := [some (.aload_n 0), some (.getfield 10), none, none, some (.iload_n 1), some (.invokevirtual 80), none, none, some (.ifCond .eq 15), none, none, some (.aload_n 0), some (.getfield 10), none, none, some (.getfield 158), none, none, some (.iload_n 1), some .iaload, some (.goto 4), none, none, some (.iconst (-1)), some .ireturn]
def M8_receipt : MT := (8, yX8_receipt, cX8_receipt, 2, (some .int), 1, 1, 21, tb8_receipt)
def tb8_finish : List (Option Instr) := [some (.aload_n 0), some (.getfield 10), none, none, some (.iload_n 1), some (.invokevirtual 80), none, none, some (.ifCond .ne 5), none, none, some (.iconst (-1)), some .ireturn, some (.aload_n 0), some (.getfield 10), none, none, some (.iload_n 1), some (.iload_n 2), some (.invokevirtual 161), none, none, some (.ifCond .ne 6), none, none, some (.bipush (-6)), none, some .ireturn, some (.aload_n 0), some (.getfield 10), none, none, some (.iload_n 1), some (.iconst 3), some (.iconst 1), some (.invokevirtual 164), none, none, some .ireturn]
def M8_finish : MT := (8, yX8_finish, cX8_finish, 3, (some .int), 2, 5, 113, tb8_finish)
def tb8_giveBack : List (Option Instr) := [some (.aload_n 0), some (.getfield 10), none, none, some (.iload_n 1), some (.invokevirtual 80), none, none, some (.ifCond .ne 5), none, none, some (.iconst (-1)), some .ireturn, some (.iload_n 3), some (.iconst 0), some (.bipush 10), none, some (.invokestatic 64), none, none, some (.ifCond .ne 6), none, none, some (.bipush (-2)), none, some .ireturn, some (.aload_n 0), some (.getfield 10), none, none, some (.iload_n 1), some (.iload_n 2), some (.invokevirtual 161), none, none, some (.ifCond .ne 6), none, none, some (.bipush (-6)), none, some .ireturn, some (.aload_n 0), some (.getfield 10), none, none, some (.iload_n 1), some (.iload_n 3), some (.iconst 1), some (.aload_n 0), some (.getfield 10), none, none, some (.getfield 168), none, none, some (.iload_n 1), some .iaload, some (.iconst 1), some .isub, some .ishl, some .imul, some (.invokevirtual 171), none, none, some (.aload_n 0), some (.getfield 10), none, none, some (.invokevirtual 105), none, none, some (.aload_n 0), some (.getfield 10), none, none, some (.getfield 174), none, none, some (.iload_n 1), some .iaload, some .ireturn]
def M8_giveBack : MT := (8, yX8_giveBack, cX8_giveBack, 4, (some .int), 3, 4, 89, tb8_giveBack)
def tb8_extend : List (Option Instr) := [some (.aload_n 0), some (.getfield 10), none, none, some (.iload_n 1), some (.invokevirtual 80), none, none, some (.ifCond .ne 5), none, none, some (.iconst (-1)), some .ireturn, some (.iload_n 3), some (.iconst 1), some (.bipush 30), none, some (.invokestatic 64), none, none, some (.ifCond .ne 6), none, none, some (.bipush (-2)), none, some .ireturn, some (.aload_n 0), some (.getfield 10), none, none, some (.iload_n 1), some (.iload_n 2), some (.invokevirtual 161), none, none, some (.ifCond .ne 6), none, none, some (.bipush (-6)), none, some .ireturn, some (.aload_n 0), some (.getfield 10), none, none, some (.getfield 177), none, none, some (.iload_n 1), some .iaload, some (.istore 4), none, some (.aload_n 0), some (.getfield 10), none, none, some (.getfield 177), none, none, some (.iload_n 1), some (.aload_n 0), some (.getfield 10), none, none, some (.getfield 180), none, none, some (.iload_n 3), some .iadd, some .iastore, some (.iload 4), none, some .ireturn]
def M8_extend : MT := (8, yX8_extend, cX8_extend, 5, (some .int), 3, 1, 22, tb8_extend)
def tb8_cancel : List (Option Instr) := [some (.aload_n 0), some (.getfield 10), none, none, some (.iload_n 1), some (.invokevirtual 80), none, none, some (.ifCond .ne 5), none, none, some (.iconst (-1)), some .ireturn, some (.aload_n 0), some (.getfield 10), none, none, some (.iload_n 1), some (.invokevirtual 127), none, none, some (.ifCond .eq 6), none, none, some (.bipush (-4)), none, some .ireturn, some (.aload_n 0), some (.getfield 10), none, none, some (.iload_n 1), some (.iconst 4), some (.iconst 5), some (.invokevirtual 164), none, none, some .ireturn]
def M8_cancel : MT := (8, yX8_cancel, cX8_cancel, 2, (some .int), 1, 5, 113, tb8_cancel)
def tb8_revive : List (Option Instr) := [some (.aload_n 0), some (.getfield 10), none, none, some (.iload_n 1), some (.invokevirtual 80), none, none, some (.ifCond .ne 5), none, none, some (.iconst (-1)), some .ireturn, some (.aload_n 0), some (.getfield 10), none, none, some (.iload_n 1), some (.invokevirtual 183), none, none, some (.ifCond .ne 6), none, none, some (.bipush (-4)), none, some .ireturn, some (.aload_n 0), some (.getfield 10), none, none, some (.iload_n 1), some (.invokevirtual 186), none, none, some (.aload_n 0), some (.getfield 10), none, none, some (.invokevirtual 105), none, none, some (.aload_n 0), some (.getfield 10), none, none, some (.getfield 174), none, none, some (.iload_n 1), some .iaload, some .ireturn]
def M8_revive : MT := (8, yX8_revive, cX8_revive, 2, (some .int), 1, 4, 89, tb8_revive)
def tb8_tick : List (Option Instr) := [some (.iload_n 1), some (.iconst 1), some (.bipush 30), none, some (.invokestatic 64), none, none, some (.ifCond .ne 6), none, none, some (.bipush (-2)), none, some .ireturn, some (.iconst 0), some (.istore_n 2), some (.iconst 0), some (.istore_n 3), some (.iload_n 3), some (.iload_n 1), some (.if_icmp .ge 19), none, none, some (.iload_n 2), some (.aload_n 0), some (.getfield 10), none, none, some (.invokevirtual 190), none, none, some .iadd, some (.istore_n 2), some (.iinc 3 1), none, none, some (.goto (-18)), none, none, some (.iload_n 2), some .ireturn]
def M8_tick : MT := (8, yX8_tick, cX8_tick, 4, (some .int), 1, 5, 111, tb8_tick)
def tb8_items : List (Option Instr) := [some (.aload_n 0), some (.getfield 10), none, none, some (.getfield 139), none, none, some .ireturn]
def M8_items : MT := (8, yX8_items, cX8_items, 1, (some .int), 0, 0, 0, tb8_items)
def tb8_edges : List (Option Instr) := [some (.aload_n 0), some (.getfield 10), none, none, some (.invokevirtual 108), none, none, some .ireturn]
def M8_edges : MT := (8, yX8_edges, cX8_edges, 1, (some .int), 0, 2, 43, tb8_edges)
def tb8_time : List (Option Instr) := [some (.aload_n 0), some (.getfield 10), none, none, some (.getfield 180), none, none, some .ireturn]
def M8_time : MT := (8, yX8_time, cX8_time, 1, (some .int), 0, 0, 0, tb8_time)
def tb8_state : List (Option Instr) := [some (.aload_n 0), some (.getfield 10), none, none, some (.iload_n 1), some (.invokevirtual 80), none, none, some (.ifCond .eq 15), none, none, some (.aload_n 0), some (.getfield 10), none, none, some (.getfield 174), none, none, some (.iload_n 1), some .iaload, some (.goto 4), none, none, some (.iconst (-1)), some .ireturn]
def M8_state : MT := (8, yX8_state, cX8_state, 2, (some .int), 1, 1, 21, tb8_state)
def tb8_itemsIn : List (Option Instr) := [some (.iload_n 1), some (.iconst 0), some (.bipush 6), none, some (.invokestatic 64), none, none, some (.ifCond .eq 14), none, none, some (.aload_n 0), some (.getfield 10), none, none, some (.iload_n 1), some (.invokevirtual 193), none, none, some (.goto 5), none, none, some (.bipush (-2)), none, some .ireturn]
def M8_itemsIn : MT := (8, yX8_itemsIn, cX8_itemsIn, 2, (some .int), 1, 1, 23, tb8_itemsIn)
def tb8_property : List (Option Instr) := [some (.aload_n 0), some (.getfield 10), none, none, some (.iload_n 1), some (.invokevirtual 80), none, none, some (.ifCond .ne 5), none, none, some (.iconst (-1)), some .ireturn, some (.iload_n 2), some (.tableswitch 162 0 7 #[46, 56, 66, 76, 86, 96, 106, 134]), none, none, none, none, none, none, none, none, none, none, none, none, none, none, none, none, none, none, none, none, none, none, none, none, none, none, none, none, none, none, none, none, none, none, none, none, none, none, none, none, none, none, none, none, none, some (.aload_n 0), some (.getfield 10), none, none, some (.getfield 130), none, none, some (.iload_n 1), some .iaload, some .ireturn, some (.aload_n 0), some (.getfield 10), none, none, some (.getfield 196), none, none, some (.iload_n 1), some .iaload, some .ireturn, some (.aload_n 0), some (.getfield 10), none, none, some (.getfield 199), none, none, some (.iload_n 1), some .iaload, some .ireturn, some (.aload_n 0), some (.getfield 10), none, none, some (.getfield 202), none, none, some (.iload_n 1), some .iaload, some .ireturn, some (.aload_n 0), some (.getfield 10), none, none, some (.getfield 205), none, none, some (.iload_n 1), some .iaload, some .ireturn, some (.aload_n 0), some (.getfield 10), none, none, some (.getfield 168), none, none, some (.iload_n 1), some .iaload, some .ireturn, some (.aload_n 0), some (.getfield 10), none, none, some (.getfield 174), none, none, some (.iload_n 1), some .iaload, some (.iconst 1), some (.if_icmp .ne 15), none, none, some (.aload_n 0), some (.getfield 10), none, none, some (.getfield 208), none, none, some (.iload_n 1), some .iaload, some (.goto 5), none, none, some (.bipush (-7)), none, some .ireturn, some (.aload_n 0), some (.getfield 10), none, none, some (.getfield 174), none, none, some (.iload_n 1), some .iaload, some (.iconst 2), some (.if_icmp .ne 15), none, none, some (.aload_n 0), some (.getfield 10), none, none, some (.getfield 177), none, none, some (.iload_n 1), some .iaload, some (.goto 5), none, none, some (.bipush (-7)), none, some .ireturn, some (.bipush (-2)), none, some .ireturn]
def M8_property : MT := (8, yX8_property, cX8_property, 3, (some .int), 2, 1, 21, tb8_property)
def tb8_edge : List (Option Instr) := [some (.aload_n 0), some (.getfield 10), none, none, some (.iload_n 1), some (.invokevirtual 80), none, none, some (.ifCond .eq 14), none, none, some (.aload_n 0), some (.getfield 10), none, none, some (.iload_n 2), some (.invokevirtual 80), none, none, some (.ifCond .ne 5), none, none, some (.iconst (-1)), some .ireturn, some (.aload_n 0), some (.getfield 10), none, none, some (.iload_n 1), some (.iload_n 2), some (.invokevirtual 211), none, none, some .ireturn]
def M8_edge : MT := (8, yX8_edge, cX8_edge, 3, (some .int), 2, 2, 43, tb8_edge)
def tb8_rank : List (Option Instr) := [some (.aload_n 0), some (.getfield 10), none, none, some (.iload_n 1), some (.invokevirtual 80), none, none, some (.ifCond .ne 5), none, none, some (.iconst (-1)), some .ireturn, some (.aload_n 0), some (.getfield 10), none, none, some (.iload_n 1), some (.aload_n 0), some (.getfield 25), none, none, some (.invokevirtual 148), none, none, some (.iload_n 1), some .iaload, some (.invokevirtual 215), none, none, some .ireturn]
def M8_rank : MT := (8, yX8_rank, cX8_rank, 2, (some .int), 1, 4, 90, tb8_rank)
def tb8_height : List (Option Instr) := [some (.aload_n 0), some (.getfield 10), none, none, some (.iload_n 1), some (.invokevirtual 80), none, none, some (.ifCond .eq 15), none, none, some (.aload_n 0), some (.getfield 25), none, none, some (.invokevirtual 148), none, none, some (.iload_n 1), some .iaload, some (.goto 4), none, none, some (.iconst (-1)), some .ireturn]
def M8_height : MT := (8, yX8_height, cX8_height, 2, (some .int), 1, 4, 90, tb8_height)
def tb8_before : List (Option Instr) := [some (.aload_n 0), some (.getfield 10), none, none, some (.iload_n 1), some (.invokevirtual 80), none, none, some (.ifCond .eq 15), none, none, some (.aload_n 0), some (.getfield 25), none, none, some (.invokevirtual 84), none, none, some (.iload_n 1), some .iaload, some (.goto 4), none, none, some (.iconst (-1)), some .ireturn]
def M8_before : MT := (8, yX8_before, cX8_before, 2, (some .int), 1, 2, 43, tb8_before)
def tb8_wouldDoom : List (Option Instr) := [some (.aload_n 0), some (.getfield 10), none, none, some (.iload_n 1), some (.invokevirtual 80), none, none, some (.ifCond .ne 5), none, none, some (.iconst (-1)), some .ireturn, some (.aload_n 0), some (.getfield 10), none, none, some (.iload_n 1), some (.invokevirtual 127), none, none, some (.ifCond .eq 6), none, none, some (.bipush (-4)), none, some .ireturn, some (.aload_n 0), some (.getfield 10), none, none, some (.iload_n 1), some (.invokevirtual 218), none, none, some .ireturn]
def M8_wouldDoom : MT := (8, yX8_wouldDoom, cX8_wouldDoom, 2, (some .int), 1, 2, 46, tb8_wouldDoom)
def tb8_isSuperfluous : List (Option Instr) := [some (.aload_n 0), some (.getfield 10), none, none, some (.iload_n 1), some (.invokevirtual 80), none, none, some (.ifCond .eq 14), none, none, some (.aload_n 0), some (.getfield 10), none, none, some (.iload_n 2), some (.invokevirtual 80), none, none, some (.ifCond .ne 5), none, none, some (.iconst (-1)), some .ireturn, some (.aload_n 0), some (.getfield 10), none, none, some (.iload_n 2), some (.invokevirtual 120), none, none, some (.iload_n 1), some (.invokestatic 88), none, none, some (.ifCond .ne 6), none, none, some (.bipush (-7)), none, some .ireturn, some (.aload_n 0), some (.getfield 25), none, none, some (.iload_n 1), some (.iload_n 2), some (.invokevirtual 221), none, none, some (.ifCond .eq 7), none, none, some (.iconst 1), some (.goto 4), none, none, some (.iconst 0), some .ireturn]
def M8_isSuperfluous : MT := (8, yX8_isSuperfluous, cX8_isSuperfluous, 3, (some .int), 2, 3, 67, tb8_isSuperfluous)
def tb8_planLength : List (Option Instr) := [some (.iload_n 1), some (.iconst 1), some (.bipush 6), none, some (.invokestatic 64), none, none, some (.ifCond .eq 12), none, none, some (.iload_n 2), some (.iconst 0), some (.iconst 2), some (.invokestatic 64), none, none, some (.ifCond .ne 6), none, none, some (.bipush (-2)), none, some .ireturn, some (.aload_n 0), some (.getfield 39), none, none, some (.aload_n 0), some (.getfield 10), none, none, some (.aload_n 0), some (.getfield 25), none, none, some (.invokevirtual 148), none, none, some (.iload_n 1), some (.iload_n 2), some (.invokevirtual 224), none, none, some (.aload_n 0), some (.getfield 39), none, none, some (.getfield 228), none, none, some .ireturn]
def M8_planLength : MT := (8, yX8_planLength, cX8_planLength, 3, (some .int), 2, 4, 102, tb8_planLength)
def tb8_planStart : List (Option Instr) := [some (.aload_n 0), some (.getfield 10), none, none, some (.iload_n 1), some (.invokevirtual 80), none, none, some (.ifCond .ne 5), none, none, some (.iconst (-1)), some .ireturn, some (.iload_n 2), some (.iconst 1), some (.bipush 6), none, some (.invokestatic 64), none, none, some (.ifCond .eq 12), none, none, some (.iload_n 3), some (.iconst 0), some (.iconst 2), some (.invokestatic 64), none, none, some (.ifCond .ne 6), none, none, some (.bipush (-2)), none, some .ireturn, some (.aload_n 0), some (.getfield 10), none, none, some (.iload_n 1), some (.invokevirtual 127), none, none, some (.ifCond .eq 6), none, none, some (.bipush (-7)), none, some .ireturn, some (.aload_n 0), some (.getfield 39), none, none, some (.aload_n 0), some (.getfield 10), none, none, some (.aload_n 0), some (.getfield 25), none, none, some (.invokevirtual 148), none, none, some (.iload_n 2), some (.iload_n 3), some (.invokevirtual 224), none, none, some (.aload_n 0), some (.getfield 39), none, none, some (.getfield 229), none, none, some (.iload_n 1), some .iaload, some .ireturn]
def M8_planStart : MT := (8, yX8_planStart, cX8_planStart, 4, (some .int), 3, 4, 102, tb8_planStart)
def tb8_bestWorkers : List (Option Instr) := [some (.iload_n 1), some (.iconst 0), some (.iconst 2), some (.invokestatic 64), none, none, some (.ifCond .ne 6), none, none, some (.bipush (-2)), none, some .ireturn, some (.aload_n 0), some (.getfield 25), none, none, some (.invokevirtual 148), none, none, some (.astore_n 2), some (.aload_n 0), some (.getfield 39), none, none, some (.aload_n 0), some (.getfield 10), none, none, some (.aload_n 2), some (.iconst 1), some (.iload_n 1), some (.invokevirtual 224), none, none, some (.iconst 1), some (.istore_n 3), some (.aload_n 0), some (.getfield 39), none, none, some (.getfield 228), none, none, some (.istore 4), none, some (.iconst 2), some (.istore 5), none, some (.iload 5), none, some (.bipush 6), none, some (.if_icmp .gt 48), none, none, some (.aload_n 0), some (.getfield 39), none, none, some (.aload_n 0), some (.getfield 10), none, none, some (.aload_n 2), some (.iload 5), none, some (.iload_n 1), some (.invokevirtual 224), none, none, some (.aload_n 0), some (.getfield 39), none, none, some (.getfield 228), none, none, some (.iload 4), none, some (.if_icmp .ge 15), none, none, some (.iload 5), none, some (.istore_n 3), some (.aload_n 0), some (.getfield 39), none, none, some (.getfield 228), none, none, some (.istore 4), none, some (.iinc 5 1), none, none, some (.goto (-49)), none, none, some (.iload_n 3), some .ireturn]
def M8_bestWorkers : MT := (8, yX8_bestWorkers, cX8_bestWorkers, 6, (some .int), 1, 4, 102, tb8_bestWorkers)
def tb8_slack : List (Option Instr) := [some (.aload_n 0), some (.getfield 10), none, none, some (.iload_n 1), some (.invokevirtual 80), none, none, some (.ifCond .ne 5), none, none, some (.iconst (-1)), some .ireturn, some (.aload_n 0), some (.getfield 10), none, none, some (.iload_n 1), some (.invokevirtual 127), none, none, some (.ifCond .eq 6), none, none, some (.bipush (-4)), none, some .ireturn, some (.aload_n 0), some (.getfield 25), none, none, some (.invokevirtual 148), none, none, some (.astore_n 2), some (.iconst 0), some (.istore_n 3), some (.iconst 0), some (.istore 4), none, some (.iload 4), none, some (.aload_n 0), some (.getfield 10), none, none, some (.getfield 139), none, none, some (.if_icmp .ge 30), none, none, some (.aload_n 0), some (.getfield 10), none, none, some (.iload 4), none, some (.invokevirtual 127), none, none, some (.ifCond .ne 12), none, none, some (.iload_n 3), some (.aload_n 2), some (.iload 4), none, some .iaload, some (.invokestatic 232), none, none, some (.istore_n 3), some (.iinc 4 1), none, none, some (.goto (-36)), none, none, some (.iload_n 3), some (.aload_n 2), some (.iload_n 1), some .iaload, some .isub, some (.aload_n 0), some (.getfield 25), none, none, some (.invokevirtual 237), none, none, some (.iload_n 1), some .iaload, some .isub, some .ireturn]
def M8_slack : MT := (8, yX8_slack, cX8_slack, 5, (some .int), 1, 4, 90, tb8_slack)
def tb8_width : List (Option Instr) := [some (.aload_n 0), some (.getfield 10), none, none, some (.invokevirtual 240), none, none, some (.istore_n 1), some (.iload_n 1), some (.invokestatic 243), none, none, some (.aload_n 0), some (.getfield 46), none, none, some (.iload_n 1), some (.aload_n 0), some (.getfield 25), none, none, some (.invokevirtual 84), none, none, some (.invokevirtual 248), none, none, some .isub, some .ireturn]
def M8_width : MT := (8, yX8_width, cX8_width, 2, (some .int), 0, 4, 95, tb8_width)
def tb8_orders : List (Option Instr) := [some (.aload_n 0), some (.getfield 10), none, none, some (.invokevirtual 240), none, none, some (.istore_n 1), some (.iload_n 1), some (.invokestatic 243), none, none, some (.bipush 12), none, some (.if_icmp .le 7), none, none, some (.ldc2_w 252), none, none, some .lreturn, some (.aload_n 0), some (.getfield 53), none, none, some (.iload_n 1), some (.aload_n 0), some (.getfield 25), none, none, some (.invokevirtual 84), none, none, some (.invokevirtual 254), none, none, some .lreturn]
def M8_orders : MT := (8, yX8_orders, cX8_orders, 2, (some .long), 0, 3, 70, tb8_orders)
def tb8_write : List (Option Instr) := [some (.iload_n 1), some (.bipush 32), none, some (.bipush 126), none, some (.invokestatic 64), none, none, some (.ifCond .ne 6), none, none, some (.bipush (-2)), none, some .ireturn, some (.aload_n 0), some (.getfield 60), none, none, some (.getfield 258), none, none, some (.sipush 200), none, none, some (.if_icmp .lt 6), none, none, some (.bipush (-3)), none, some .ireturn, some (.aload_n 0), some (.getfield 60), none, none, some (.iload_n 1), some (.invokevirtual 259), none, none, some (.aload_n 0), some (.getfield 60), none, none, some (.getfield 258), none, none, some .ireturn]
def M8_write : MT := (8, yX8_write, cX8_write, 2, (some .int), 1, 1, 22, tb8_write)
def tb8_wipe : List (Option Instr) := [some (.aload_n 0), some (.getfield 60), none, none, some (.getfield 258), none, none, some (.istore_n 1), some (.aload_n 0), some (.getfield 60), none, none, some (.iconst 0), some (.putfield 258), none, none, some (.iload_n 1), some .ireturn]
def M8_wipe : MT := (8, yX8_wipe, cX8_wipe, 2, (some .int), 0, 0, 0, tb8_wipe)
def tb8_fault : List (Option Instr) := [some (.aload_n 0), some (.getfield 60), none, none, some (.invokevirtual 261), none, none, some .ireturn]
def M8_fault : MT := (8, yX8_fault, cX8_fault, 1, (some .int), 0, 5, 116, tb8_fault)
def tb8_load : List (Option Instr) := [some (.aload_n 0), some (.getfield 60), none, none, some (.invokevirtual 261), none, none, some (.bipush (-7)), none, some (.if_icmp .eq 6), none, none, some (.bipush (-4)), none, some .ireturn, some (.aload_n 0), some (.getfield 10), none, none, some (.aload_n 0), some (.getfield 60), none, none, some (.getfield 264), none, none, some (.invokevirtual 267), none, none, some (.aload_n 0), some (.getfield 10), none, none, some (.invokevirtual 105), none, none, some (.aload_n 0), some (.getfield 32), none, none, some (.invokevirtual 145), none, none, some (.aload_n 0), some (.getfield 10), none, none, some (.getfield 139), none, none, some .ireturn]
def M8_load : MT := (8, yX8_load, cX8_load, 1, (some .int), 0, 5, 116, tb8_load)
def tb8_save : List (Option Instr) := [some (.iload_n 1), some (.iconst 0), some (.iconst 1), some (.invokestatic 64), none, none, some (.ifCond .ne 6), none, none, some (.bipush (-2)), none, some .ireturn, some (.aload_n 0), some (.getfield 16), none, none, some (.iload_n 1), some .aaload, some (.ifnonnull 16), none, none, some (.aload_n 0), some (.getfield 16), none, none, some (.iload_n 1), some (.new 7), none, none, some .dup, some (.invokespecial 9), none, none, some .aastore, some (.aload_n 0), some (.getfield 16), none, none, some (.iload_n 1), some .aaload, some (.aload_n 0), some (.getfield 10), none, none, some (.invokevirtual 270), none, none, some (.aload_n 0), some (.getfield 10), none, none, some (.getfield 139), none, none, some .ireturn]
def M8_save : MT := (8, yX8_save, cX8_save, 2, (some .int), 1, 4, 123, tb8_save)
def tb8_restore : List (Option Instr) := [some (.iload_n 1), some (.iconst 0), some (.iconst 1), some (.invokestatic 64), none, none, some (.ifCond .ne 6), none, none, some (.bipush (-2)), none, some .ireturn, some (.aload_n 0), some (.getfield 16), none, none, some (.iload_n 1), some .aaload, some (.ifnonnull 6), none, none, some (.bipush (-4)), none, some .ireturn, some (.aload_n 0), some (.getfield 10), none, none, some (.aload_n 0), some (.getfield 16), none, none, some (.iload_n 1), some .aaload, some (.invokevirtual 270), none, none, some (.aload_n 0), some (.getfield 32), none, none, some (.invokevirtual 145), none, none, some (.aload_n 0), some (.getfield 10), none, none, some (.getfield 139), none, none, some .ireturn]
def M8_restore : MT := (8, yX8_restore, cX8_restore, 2, (some .int), 1, 4, 123, tb8_restore)
def tb8_isWithin : List (Option Instr) := [some (.iload_n 0), some (.iload_n 1), some (.if_icmp .lt 12), none, none, some (.iload_n 0), some (.iload_n 2), some (.if_icmp .gt 7), none, none, some (.iconst 1), some (.goto 4), none, none, some (.iconst 0), some .ireturn]
def M8_isWithin : MT := (8, yX8_isWithin, cX8_isWithin, 3, (some .boolean), 3, 0, 0, tb8_isWithin)
def tb9_init : List (Option Instr) := [some (.aload_n 0), some (.invokespecial 1), none, none, some (.aload_n 0), some (.sipush 645), none, none, some (.newarray .int), none, some (.putfield 7), none, none, some (.aload_n 0), some (.sipush 1290), none, none, some (.newarray .int), none, some (.putfield 13), none, none, some (.aload_n 0), some (.bipush 20), none, some (.newarray .int), none, some (.putfield 16), none, none, some (.aload_n 0), some (.sipush 200), none, none, some (.newarray .int), none, some (.putfield 19), none, none, some (.aload_n 0), some (.bipush 20), none, some (.newarray .int), none, some (.putfield 22), none, none, some (.aload_n 0), some (.bipush 20), none, some (.newarray .int), none, some (.putfield 25), none, none, some (.aload_n 0), some (.bipush 20), none, some (.newarray .int), none, some (.putfield 28), none, none, some (.aload_n 0), some (.bipush 20), none, some (.newarray .int), none, some (.putfield 31), none, none, some (.aload_n 0), some (.bipush 20), none, some (.newarray .int), none, some (.putfield 34), none, none, some (.aload_n 0), some (.bipush 20), none, some (.newarray .int), none, some (.putfield 37), none, none, some (.aload_n 0), some (.bipush 20), none, some (.newarray .int), none, some (.putfield 40), none, none, some (.aload_n 0), some (.bipush 20), none, some (.newarray .int), none, some (.putfield 43), none, none, some (.aload_n 0), some (.bipush 20), none, some (.newarray .int), none, some (.putfield 46), none, none, some (.aload_n 0), some (.sipush 4096), none, none, some (.newarray .long), none, some (.putfield 49), none, none, some (.aload_n 0), some (.bipush 20), none, some (.newarray .int), none, some (.putfield 53), none, none, some (.aload_n 0), some (.bipush 20), none, some (.newarray .int), none, some (.putfield 56), none, none, some (.aload_n 0), some (.bipush 20), none, some (.newarray .int), none, some (.putfield 59), none, none, some (.aload_n 0), some (.sipush 400), none, none, some (.newarray .int), none, some (.putfield 62), none, none, some (.aload_n 0), some (.getfield 7), none, none, some (.iconst 3), some (.bipush 9), none, some .iastore, some .return_]
def M9_init : MT := (9, yX9_init, cX9_init, 1, none, 0, 1, 22, tb9_init)
def tb9_isIn : List (Option Instr) := [some (.iload_n 0), some (.iload_n 1), some (.if_icmp .lt 12), none, none, some (.iload_n 0), some (.iload_n 2), some (.if_icmp .gt 7), none, none, some (.iconst 1), some (.goto 4), none, none, some (.iconst 0), some .ireturn]
def M9_isIn : MT := (9, yX9_isIn, cX9_isIn, 3, (some .boolean), 3, 0, 0, tb9_isIn)
def tb9_isItem : List (Option Instr) := [some (.iload_n 1), some (.iconst 0), some (.aload_n 0), some (.getfield 7), none, none, some (.iconst 0), some .iaload, some (.iconst 1), some .isub, some (.invokestatic 65), none, none, some .ireturn]
def M9_isItem : MT := (9, yX9_isItem, cX9_isItem, 2, (some .boolean), 1, 1, 22, tb9_isItem)
def tb9_of : List (Option Instr) := [some (.aload_n 0), some (.getfield 7), none, none, some (.iconst 5), some (.bipush 12), none, some (.iload_n 1), some .imul, some .iadd, some (.iload_n 2), some .iadd, some .iaload, some .ireturn]
def M9_of : MT := (9, yX9_of, cX9_of, 3, (some .int), 2, 0, 0, tb9_of)
def tb9_set : List (Option Instr) := [some (.aload_n 0), some (.getfield 7), none, none, some (.iconst 5), some (.bipush 12), none, some (.iload_n 1), some .imul, some .iadd, some (.iload_n 2), some .iadd, some (.iload_n 3), some .iastore, some .return_]
def M9_set : MT := (9, yX9_set, cX9_set, 4, none, 3, 0, 0, tb9_set)
def tb9_kindOf : List (Option Instr) := [some (.aload_n 0), some (.getfield 7), none, none, some (.sipush 245), none, none, some (.bipush 20), none, some (.iload_n 1), some .imul, some .iadd, some (.iload_n 2), some .iadd, some .iaload, some (.iconst 1), some .isub, some .ireturn]
def M9_kindOf : MT := (9, yX9_kindOf, cX9_kindOf, 3, (some .int), 2, 0, 0, tb9_kindOf)
def tb9_hasEnded : List (Option Instr) := [some (.aload_n 0), some (.iload_n 1), some (.bipush 8), none, some (.invokevirtual 69), none, none, some (.iconst 3), some (.if_icmp .lt 7), none, none, some (.iconst 1), some (.goto 4), none, none, some (.iconst 0), some .ireturn]
def M9_hasEnded : MT := (9, yX9_hasEnded, cX9_hasEnded, 2, (some .boolean), 1, 1, 22, tb9_hasEnded)
def tb9_append : List (Option Instr) := [some (.aload_n 0), some (.getfield 7), none, none, some (.iconst 0), some .iaload, some (.istore 6), none, some (.aload_n 0), some (.getfield 7), none, none, some (.iconst 0), some .dup2, some .iaload, some (.iconst 1), some .iadd, some .iastore, some (.iconst 0), some (.istore 7), none, some (.iload 7), none, some (.bipush 12), none, some (.if_icmp .ge 18), none, none, some (.aload_n 0), some (.iload 6), none, some (.iload 7), none, some (.iconst 0), some (.invokevirtual 73), none, none, some (.iinc 7 1), none, none, some (.goto (-19)), none, none, some (.aload_n 0), some (.iload 6), none, some (.iconst 0), some (.iload_n 1), some (.invokevirtual 73), none, none, some (.aload_n 0), some (.iload 6), none, some (.iconst 1), some (.iload_n 2), some (.invokevirtual 73), none, none, some (.aload_n 0), some (.iload 6), none, some (.iconst 2), some (.iload_n 3), some (.invokevirtual 73), none, none, some (.aload_n 0), some (.iload 6), none, some (.iconst 3), some (.iload 4), none, some (.invokevirtual 73), none, none, some (.aload_n 0), some (.iload 6), none, some (.iconst 4), some (.iload 5), none, some (.invokevirtual 73), none, none, some (.aload_n 0), some (.iload 6), none, some (.bipush 9), none, some (.bipush (-7)), none, some (.invokevirtual 73), none, none, some (.iconst 0), some (.istore 7), none, some (.iload 7), none, some (.bipush 20), none, some (.if_icmp .ge 45), none, none, some (.aload_n 0), some (.getfield 7), none, none, some (.sipush 245), none, none, some (.bipush 20), none, some (.iload 6), none, some .imul, some .iadd, some (.iload 7), none, some .iadd, some (.iconst 0), some .iastore, some (.aload_n 0), some (.getfield 7), none, none, some (.sipush 245), none, none, some (.bipush 20), none, some (.iload 7), none, some .imul, some .iadd, some (.iload 6), none, some .iadd, some (.iconst 0), some .iastore, some (.iinc 7 1), none, none, some (.goto (-46)), none, none, some (.iload 6), none, some .ireturn]
def M9_append : MT := (9, yX9_append, cX9_append, 8, (some .int), 5, 1, 23, tb9_append)
def tb9_due : List (Option Instr) := [some (.iconst 1), some (.istore_n 2), some (.iconst 0), some (.istore_n 3), some (.iload_n 3), some (.aload_n 0), some (.getfield 7), none, none, some (.iconst 0), some .iaload, some (.if_icmp .ge 64), none, none, some (.aload_n 0), some (.iload_n 3), some (.iload_n 1), some (.invokevirtual 77), none, none, some (.istore 4), none, some (.iload 4), none, some (.ifCond .ne 24), none, none, some (.aload_n 0), some (.iload_n 3), some (.invokevirtual 80), none, none, some (.ifCond .eq 16), none, none, some (.aload_n 0), some (.iload_n 3), some (.bipush 8), none, some (.invokevirtual 69), none, none, some (.iconst 3), some (.if_icmp .eq 5), none, none, some (.iconst 5), some .ireturn, some (.iload_n 2), some (.iload 4), none, some (.ifCond .lt 11), none, none, some (.aload_n 0), some (.iload_n 3), some (.invokevirtual 80), none, none, some (.ifCond .eq 7), none, none, some (.iconst 1), some (.goto 4), none, none, some (.iconst 0), some .iand, some (.istore_n 2), some (.iinc 3 1), none, none, some (.goto (-68)), none, none, some (.iload_n 2), some (.ifCond .eq 7), none, none, some (.iconst 1), some (.goto 4), none, none, some (.iconst 0), some .ireturn]
def M9_due : MT := (9, yX9_due, cX9_due, 5, (some .int), 1, 2, 43, tb9_due)
def tb9_becomesReady : List (Option Instr) := [some (.aload_n 0), some (.iload_n 1), some (.bipush 8), none, some (.iconst 1), some (.invokevirtual 73), none, none, some (.aload_n 0), some (.iload_n 1), some (.bipush 6), none, some (.iload_n 2), some (.invokevirtual 73), none, none, some (.aload_n 0), some (.iload_n 1), some (.bipush 10), none, some (.aload_n 0), some (.getfield 7), none, none, some (.iconst 1), some .iaload, some (.invokevirtual 73), none, none, some .return_]
def M9_becomesReady : MT := (9, yX9_becomesReady, cX9_becomesReady, 3, none, 2, 1, 23, tb9_becomesReady)
def tb9_settle : List (Option Instr) := [some (.aload_n 0), some (.iconst 0), some (.putfield 84), none, none, some (.aload_n 0), some (.iconst 0), some (.putfield 88), none, none, some (.iconst 1), some (.istore_n 1), some (.iload_n 1), some (.ifCond .eq 121), none, none, some (.iconst 0), some (.istore_n 1), some (.iconst 0), some (.istore_n 2), some (.iload_n 2), some (.aload_n 0), some (.getfield 7), none, none, some (.iconst 0), some .iaload, some (.if_icmp .ge 104), none, none, some (.aload_n 0), some (.iload_n 2), some (.bipush 8), none, some (.invokevirtual 69), none, none, some (.istore_n 3), some (.iload_n 3), some (.iconst 1), some (.if_icmp .gt 11), none, none, some (.aload_n 0), some (.iload_n 2), some (.invokevirtual 91), none, none, some (.goto 4), none, none, some (.iload_n 3), some (.istore 4), none, some (.iload 4), none, some (.iload_n 3), some (.if_icmp .eq 68), none, none, some (.iconst 1), some (.istore_n 1), some (.aload_n 0), some (.iload_n 2), some (.bipush 8), none, some (.iload 4), none, some (.invokevirtual 73), none, none, some (.iload 4), none, some (.iconst 1), some (.if_icmp .ne 31), none, none, some (.aload_n 0), some (.iload_n 2), some (.aload_n 0), some (.getfield 7), none, none, some (.iconst 1), some .iaload, some (.aload_n 0), some (.iload_n 2), some (.iconst 4), some (.invokevirtual 69), none, none, some .iadd, some (.invokevirtual 95), none, none, some (.aload_n 0), some .dup, some (.getfield 84), none, none, some (.iconst 1), some .iadd, some (.putfield 84), none, none, some (.aload_n 0), some .dup, some (.getfield 88), none, none, some (.iload 4), none, some (.iconst 5), some (.if_icmp .ne 7), none, none, some (.iconst 1), some (.goto 4), none, none, some (.iconst 0), some .iadd, some (.putfield 88), none, none, some (.iinc 2 1), none, none, some (.goto (-108)), none, none, some (.goto (-119)), none, none, some .return_]
def M9_settle : MT := (9, yX9_settle, cX9_settle, 5, none, 0, 3, 67, tb9_settle)
def tb9_add : List (Option Instr) := [some (.iload_n 1), some (.iconst 0), some (.bipush 9), none, some (.invokestatic 65), none, none, some (.ifCond .eq 43), none, none, some (.iload_n 2), some (.iconst 1), some (.bipush 20), none, some (.invokestatic 65), none, none, some (.ifCond .eq 33), none, none, some (.iload_n 3), some (.iconst 1), some (.iconst 5), some (.invokestatic 65), none, none, some (.ifCond .eq 24), none, none, some (.iload 4), none, some (.iconst 0), some (.iconst 3), some (.invokestatic 65), none, none, some (.ifCond .eq 14), none, none, some (.iload 5), none, some (.iconst 0), some (.bipush 20), none, some (.invokestatic 65), none, none, some (.ifCond .ne 6), none, none, some (.bipush (-2)), none, some .ireturn, some (.aload_n 0), some (.getfield 7), none, none, some (.iconst 0), some .iaload, some (.bipush 20), none, some (.if_icmp .ne 6), none, none, some (.bipush (-3)), none, some .ireturn, some (.aload_n 0), some (.iload_n 1), some (.iload_n 2), some (.iload_n 3), some (.iload 4), none, some (.iload 5), none, some (.invokevirtual 99), none, none, some (.istore 6), none, some (.aload_n 0), some (.invokevirtual 103), none, none, some (.iload 6), none, some .ireturn]
def M9_add : MT := (9, yX9_add, cX9_add, 7, (some .int), 5, 4, 91, tb9_add)
def tb9_measureTo : List (Option Instr) := [some (.iconst 0), some (.istore_n 2), some (.iload_n 2), some (.bipush 20), none, some (.if_icmp .ge 26), none, none, some (.aload_n 0), some (.getfield 22), none, none, some (.iload_n 2), some (.iload_n 2), some (.iload_n 1), some (.if_icmp .ne 7), none, none, some (.iconst 0), some (.goto 5), none, none, some (.bipush 99), none, some .iastore, some (.iinc 2 1), none, none, some (.goto (-26)), none, none, some (.iconst 0), some (.istore_n 2), some (.iload_n 2), some (.aload_n 0), some (.getfield 7), none, none, some (.iconst 0), some .iaload, some (.if_icmp .ge 90), none, none, some (.iconst 0), some (.istore_n 3), some (.iload_n 3), some (.aload_n 0), some (.getfield 7), none, none, some (.iconst 0), some .iaload, some (.if_icmp .ge 72), none, none, some (.iconst 0), some (.istore 4), none, some (.iload 4), none, some (.aload_n 0), some (.getfield 7), none, none, some (.iconst 0), some .iaload, some (.if_icmp .ge 52), none, none, some (.aload_n 0), some (.iload_n 3), some (.iload 4), none, some (.invokevirtual 77), none, none, some (.ifCond .lt 36), none, none, some (.aload_n 0), some (.getfield 22), none, none, some (.iload 4), none, some .iaload, some (.iconst 1), some .iadd, some (.aload_n 0), some (.getfield 22), none, none, some (.iload_n 3), some .iaload, some (.if_icmp .ge 18), none, none, some (.aload_n 0), some (.getfield 22), none, none, some (.iload_n 3), some (.aload_n 0), some (.getfield 22), none, none, some (.iload 4), none, some .iaload, some (.iconst 1), some .iadd, some .iastore, some (.iinc 4 1), none, none, some (.goto (-57)), none, none, some (.iinc 3 1), none, none, some (.goto (-76)), none, none, some (.iinc 2 1), none, none, some (.goto (-94)), none, none, some .return_]
def M9_measureTo : MT := (9, yX9_measureTo, cX9_measureTo, 5, none, 1, 1, 22, tb9_measureTo)
def tb9_keepPath : List (Option Instr) := [some (.aload_n 0), some (.getfield 16), none, none, some (.iconst 0), some (.iload_n 1), some .iastore, some (.aload_n 0), some (.iconst 1), some (.putfield 106), none, none, some (.iload_n 1), some (.istore_n 3), some (.iload_n 3), some (.iload_n 2), some (.if_icmp .eq 66), none, none, some (.iconst 0), some (.istore 4), none, some (.aload_n 0), some (.iload_n 3), some (.iload 4), none, some (.invokevirtual 77), none, none, some (.ifCond .lt 21), none, none, some (.aload_n 0), some (.getfield 22), none, none, some (.iload 4), none, some .iaload, some (.aload_n 0), some (.getfield 22), none, none, some (.iload_n 3), some .iaload, some (.iconst 1), some .isub, some (.if_icmp .eq 9), none, none, some (.iinc 4 1), none, none, some (.goto (-31)), none, none, some (.iload 4), none, some (.istore_n 3), some (.aload_n 0), some (.getfield 16), none, none, some (.aload_n 0), some (.getfield 106), none, none, some (.iload_n 3), some .iastore, some (.aload_n 0), some .dup, some (.getfield 106), none, none, some (.iconst 1), some .iadd, some (.putfield 106), none, none, some (.goto (-65)), none, none, some .return_]
def M9_keepPath : MT := (9, yX9_keepPath, cX9_keepPath, 5, none, 2, 1, 22, tb9_keepPath)
def tb9_link : List (Option Instr) := [some (.aload_n 0), some (.iload_n 1), some (.invokevirtual 109), none, none, some (.ifCond .eq 11), none, none, some (.aload_n 0), some (.iload_n 2), some (.invokevirtual 109), none, none, some (.ifCond .ne 5), none, none, some (.iconst (-1)), some .ireturn, some (.iload_n 3), some (.iconst 0), some (.iconst 1), some (.invokestatic 65), none, none, some (.ifCond .ne 6), none, none, some (.bipush (-2)), none, some .ireturn, some (.aload_n 0), some (.iload_n 1), some (.invokevirtual 112), none, none, some (.aload_n 0), some (.getfield 22), none, none, some (.iload_n 2), some .iaload, some (.bipush 99), none, some (.if_icmp .ge 12), none, none, some (.aload_n 0), some (.iload_n 2), some (.iload_n 1), some (.invokevirtual 116), none, none, some (.bipush (-5)), none, some .ireturn, some (.aload_n 0), some (.iload_n 2), some (.bipush 8), none, some (.invokevirtual 69), none, none, some (.iconst 2), some (.if_icmp .lt 6), none, none, some (.bipush (-4)), none, some .ireturn, some (.aload_n 0), some (.getfield 7), none, none, some (.sipush 245), none, none, some (.bipush 20), none, some (.iload_n 1), some .imul, some .iadd, some (.iload_n 2), some .iadd, some (.iload_n 3), some (.iconst 1), some .iadd, some .iastore, some (.aload_n 0), some (.invokevirtual 103), none, none, some (.aload_n 0), some (.invokevirtual 119), none, none, some .ireturn]
def M9_link : MT := (9, yX9_link, cX9_link, 4, (some .int), 3, 4, 91, tb9_link)
def tb9_witness : List (Option Instr) := [some (.iload_n 1), some (.ifCond .ge 6), none, none, some (.bipush (-2)), none, some .ireturn, some (.iload_n 1), some (.aload_n 0), some (.getfield 106), none, none, some (.if_icmp .ge 12), none, none, some (.aload_n 0), some (.getfield 16), none, none, some (.iload_n 1), some .iaload, some (.goto 5), none, none, some (.bipush (-7)), none, some .ireturn]
def M9_witness : MT := (9, yX9_witness, cX9_witness, 2, (some .int), 1, 0, 0, tb9_witness)
def tb9_unlink : List (Option Instr) := [some (.aload_n 0), some (.iload_n 1), some (.invokevirtual 109), none, none, some (.ifCond .eq 11), none, none, some (.aload_n 0), some (.iload_n 2), some (.invokevirtual 109), none, none, some (.ifCond .ne 5), none, none, some (.iconst (-1)), some .ireturn, some (.aload_n 0), some (.iload_n 1), some (.iload_n 2), some (.invokevirtual 77), none, none, some (.ifCond .lt 14), none, none, some (.aload_n 0), some (.iload_n 2), some (.bipush 8), none, some (.invokevirtual 69), none, none, some (.iconst 2), some (.if_icmp .lt 6), none, none, some (.bipush (-4)), none, some .ireturn, some (.aload_n 0), some (.getfield 7), none, none, some (.sipush 245), none, none, some (.bipush 20), none, some (.iload_n 1), some .imul, some .iadd, some (.iload_n 2), some .iadd, some (.iconst 0), some .iastore, some (.aload_n 0), some (.invokevirtual 103), none, none, some (.aload_n 0), some (.invokevirtual 119), none, none, some .ireturn]
def M9_unlink : MT := (9, yX9_unlink, cX9_unlink, 3, (some .int), 2, 4, 91, tb9_unlink)
def tb9_setPriority : List (Option Instr) := [some (.aload_n 0), some (.iload_n 1), some (.invokevirtual 109), none, none, some (.ifCond .ne 5), none, none, some (.iconst (-1)), some .ireturn, some (.iload_n 2), some (.iconst 0), some (.bipush 9), none, some (.invokestatic 65), none, none, some (.ifCond .ne 6), none, none, some (.bipush (-2)), none, some .ireturn, some (.aload_n 0), some (.iload_n 1), some (.invokevirtual 80), none, none, some (.ifCond .eq 6), none, none, some (.bipush (-4)), none, some .ireturn, some (.aload_n 0), some (.iload_n 1), some (.iconst 0), some (.invokevirtual 69), none, none, some (.istore_n 3), some (.aload_n 0), some (.iload_n 1), some (.iconst 0), some (.iload_n 2), some (.invokevirtual 73), none, none, some (.iload_n 3), some .ireturn]
def M9_setPriority : MT := (9, yX9_setPriority, cX9_setPriority, 4, (some .int), 2, 2, 43, tb9_setPriority)
def tb9_setPolicy : List (Option Instr) := [some (.iload_n 1), some (.iconst 0), some (.iconst 2), some (.invokestatic 65), none, none, some (.ifCond .ne 6), none, none, some (.bipush (-2)), none, some .ireturn, some (.aload_n 0), some (.getfield 7), none, none, some (.iconst 2), some .iaload, some (.istore_n 2), some (.aload_n 0), some (.getfield 7), none, none, some (.iconst 2), some (.iload_n 1), some .iastore, some (.iload_n 2), some .ireturn]
def M9_setPolicy : MT := (9, yX9_setPolicy, cX9_setPolicy, 3, (some .int), 1, 1, 22, tb9_setPolicy)
def tb9_setGroupLimit : List (Option Instr) := [some (.iload_n 1), some (.iconst 1), some (.bipush 9), none, some (.invokestatic 65), none, none, some (.ifCond .ne 6), none, none, some (.bipush (-2)), none, some .ireturn, some (.aload_n 0), some (.getfield 7), none, none, some (.iconst 3), some .iaload, some (.istore_n 2), some (.aload_n 0), some (.getfield 7), none, none, some (.iconst 3), some (.iload_n 1), some .iastore, some (.iload_n 2), some .ireturn]
def M9_setGroupLimit : MT := (9, yX9_setGroupLimit, cX9_setGroupLimit, 3, (some .int), 1, 1, 22, tb9_setGroupLimit)
def tb9_clear : List (Option Instr) := [some (.aload_n 0), some (.getfield 7), none, none, some (.iconst 0), some .iaload, some (.istore_n 1), some (.aload_n 0), some (.getfield 7), none, none, some (.iconst 0), some (.iconst 0), some .iastore, some (.aload_n 0), some (.iconst 0), some (.putfield 106), none, none, some (.iload_n 1), some .ireturn]
def M9_clear : MT := (9, yX9_clear, cX9_clear, 2, (some .int), 0, 0, 0, tb9_clear)
def tb9_ownWork : List (Option Instr) := [some (.aload_n 0), some (.iload_n 1), some (.invokevirtual 80), none, none, some (.ifCond .eq 7), none, none, some (.iconst 0), some (.goto 9), none, none, some (.aload_n 0), some (.iload_n 1), some (.iconst 1), some (.invokevirtual 69), none, none, some .ireturn]
def M9_ownWork : MT := (9, yX9_ownWork, cX9_ownWork, 2, (some .int), 1, 2, 43, tb9_ownWork)
def tb9_measure : List (Option Instr) := [some (.iconst 0), some (.istore_n 1), some (.iload_n 1), some (.bipush 20), none, some (.if_icmp .ge 23), none, none, some (.aload_n 0), some (.getfield 25), none, none, some (.iload_n 1), some (.iconst 0), some .iastore, some (.aload_n 0), some (.getfield 28), none, none, some (.iload_n 1), some (.iconst 0), some .iastore, some (.iinc 1 1), none, none, some (.goto (-23)), none, none, some (.iconst 0), some (.istore_n 1), some (.iload_n 1), some (.aload_n 0), some (.getfield 7), none, none, some (.iconst 0), some .iaload, some (.if_icmp .gt 148), none, none, some (.iconst 0), some (.istore_n 2), some (.iload_n 2), some (.aload_n 0), some (.getfield 7), none, none, some (.iconst 0), some .iaload, some (.if_icmp .ge 130), none, none, some (.iconst 0), some (.istore_n 3), some (.iconst 0), some (.istore 4), none, some (.iconst 0), some (.istore 5), none, some (.iload 5), none, some (.aload_n 0), some (.getfield 7), none, none, some (.iconst 0), some .iaload, some (.if_icmp .ge 78), none, none, some (.aload_n 0), some (.iload_n 2), some (.iload 5), none, some (.invokevirtual 77), none, none, some (.ifCond .lt 24), none, none, some (.aload_n 0), some (.getfield 25), none, none, some (.iload 5), none, some .iaload, some (.iload_n 3), some (.if_icmp .le 13), none, none, some (.aload_n 0), some (.getfield 25), none, none, some (.iload 5), none, some .iaload, some (.goto 4), none, none, some (.iload_n 3), some (.istore_n 3), some (.aload_n 0), some (.iload 5), none, some (.iload_n 2), some (.invokevirtual 77), none, none, some (.ifCond .lt 25), none, none, some (.aload_n 0), some (.getfield 28), none, none, some (.iload 5), none, some .iaload, some (.iload 4), none, some (.if_icmp .le 13), none, none, some (.aload_n 0), some (.getfield 28), none, none, some (.iload 5), none, some .iaload, some (.goto 5), none, none, some (.iload 4), none, some (.istore 4), none, some (.iinc 5 1), none, none, some (.goto (-83)), none, none, some (.aload_n 0), some (.getfield 25), none, none, some (.iload_n 2), some (.iload_n 3), some (.aload_n 0), some (.iload_n 2), some (.invokevirtual 123), none, none, some .iadd, some .iastore, some (.aload_n 0), some (.getfield 28), none, none, some (.iload_n 2), some (.iload 4), none, some (.aload_n 0), some (.iload_n 2), some (.invokevirtual 123), none, none, some .iadd, some .iastore, some (.iinc 2 1), none, none, some (.goto (-134)), none, none, some (.iinc 1 1), none, none, some (.goto (-152)), none, none, some .return_]
def M9_measure : MT := (9, yX9_measure, cX9_measure, 6, none, 0, 3, 64, tb9_measure)
def tb9_rankOf : List (Option Instr) := [some (.bipush 100), none, some (.aload_n 0), some (.iload_n 1), some (.iconst 0), some (.invokevirtual 69), none, none, some .imul, some (.istore_n 2), some (.aload_n 0), some (.getfield 7), none, none, some (.iconst 2), some .iaload, some (.iconst 1), some (.if_icmp .ne 12), none, none, some (.iload_n 2), some (.aload_n 0), some (.getfield 25), none, none, some (.iload_n 1), some .iaload, some .iadd, some (.istore_n 2), some (.aload_n 0), some (.getfield 7), none, none, some (.iconst 2), some .iaload, some (.iconst 2), some (.if_icmp .ne 34), none, none, some (.aload_n 0), some (.iload_n 1), some (.bipush 8), none, some (.invokevirtual 69), none, none, some (.iconst 1), some (.if_icmp .ne 23), none, none, some (.iload_n 2), some (.bipush 10), none, some (.aload_n 0), some (.getfield 7), none, none, some (.iconst 1), some .iaload, some (.aload_n 0), some (.iload_n 1), some (.bipush 10), none, some (.invokevirtual 69), none, none, some .isub, some .imul, some .iadd, some (.istore_n 2), some (.iload_n 2), some .ireturn]
def M9_rankOf : MT := (9, yX9_rankOf, cX9_rankOf, 3, (some .int), 1, 1, 22, tb9_rankOf)
def tb9_canReceive : List (Option Instr) := [some (.iconst 0), some (.istore_n 2), some (.iconst 0), some (.istore_n 3), some (.iload_n 3), some (.aload_n 0), some (.getfield 7), none, none, some (.iconst 0), some .iaload, some (.if_icmp .ge 43), none, none, some (.iload_n 2), some (.aload_n 0), some (.iload_n 3), some (.bipush 8), none, some (.invokevirtual 69), none, none, some (.iconst 2), some (.if_icmp .ne 22), none, none, some (.aload_n 0), some (.iload_n 3), some (.iconst 3), some (.invokevirtual 69), none, none, some (.aload_n 0), some (.iload_n 1), some (.iconst 3), some (.invokevirtual 69), none, none, some (.if_icmp .ne 7), none, none, some (.iconst 1), some (.goto 4), none, none, some (.iconst 0), some .iadd, some (.istore_n 2), some (.iinc 3 1), none, none, some (.goto (-47)), none, none, some (.aload_n 0), some (.iload_n 1), some (.bipush 8), none, some (.invokevirtual 69), none, none, some (.iconst 1), some (.if_icmp .ne 33), none, none, some (.aload_n 0), some (.iload_n 1), some (.bipush 6), none, some (.invokevirtual 69), none, none, some (.aload_n 0), some (.getfield 7), none, none, some (.iconst 1), some .iaload, some (.if_icmp .gt 17), none, none, some (.iload_n 2), some (.aload_n 0), some (.getfield 7), none, none, some (.iconst 3), some .iaload, some (.if_icmp .ge 7), none, none, some (.iconst 1), some (.goto 4), none, none, some (.iconst 0), some .ireturn]
def M9_canReceive : MT := (9, yX9_canReceive, cX9_canReceive, 4, (some .boolean), 1, 1, 22, tb9_canReceive)
def tb9_receive : List (Option Instr) := [some (.iload_n 1), some (.iconst 1), some (.bipush 30), none, some (.invokestatic 65), none, none, some (.ifCond .ne 6), none, none, some (.bipush (-2)), none, some .ireturn, some (.aload_n 0), some (.invokevirtual 126), none, none, some (.bipush (-7)), none, some (.istore_n 2), some (.iconst 0), some (.istore_n 3), some (.iload_n 3), some (.aload_n 0), some (.getfield 7), none, none, some (.iconst 0), some .iaload, some (.if_icmp .ge 38), none, none, some (.aload_n 0), some (.iload_n 3), some (.invokevirtual 129), none, none, some (.ifCond .eq 24), none, none, some (.iload_n 2), some (.bipush (-7)), none, some (.if_icmp .eq 16), none, none, some (.aload_n 0), some (.iload_n 3), some (.invokevirtual 132), none, none, some (.aload_n 0), some (.iload_n 2), some (.invokevirtual 132), none, none, some (.if_icmp .le 5), none, none, some (.iload_n 3), some (.istore_n 2), some (.iinc 3 1), none, none, some (.goto (-42)), none, none, some (.iload_n 2), some (.bipush (-7)), none, some (.if_icmp .eq 63), none, none, some (.aload_n 0), some (.getfield 7), none, none, some (.iconst 4), some .dup2, some .iaload, some (.iconst 1), some .iadd, some .iastore, some (.aload_n 0), some (.iload_n 2), some (.bipush 8), none, some (.iconst 2), some (.invokevirtual 73), none, none, some (.aload_n 0), some (.iload_n 2), some (.bipush 7), none, some (.aload_n 0), some (.getfield 7), none, none, some (.iconst 1), some .iaload, some (.iload_n 1), some .iadd, some (.invokevirtual 73), none, none, some (.aload_n 0), some (.iload_n 2), some (.iconst 5), some (.aload_n 0), some (.iload_n 2), some (.iconst 5), some (.invokevirtual 69), none, none, some (.iconst 1), some .iadd, some (.invokevirtual 73), none, none, some (.aload_n 0), some (.iload_n 2), some (.bipush 9), none, some (.aload_n 0), some (.getfield 7), none, none, some (.iconst 4), some .iaload, some (.invokevirtual 73), none, none, some (.iload_n 2), some .ireturn]
def M9_receive : MT := (9, yX9_receive, cX9_receive, 4, (some .int), 1, 4, 89, tb9_receive)
def tb9_receipt : List (Option Instr) := [some (.aload_n 0), some (.iload_n 1), some (.invokevirtual 109), none, none, some (.ifCond .eq 13), none, none, some (.aload_n 0), some (.iload_n 1), some (.bipush 9), none, some (.invokevirtual 69), none, none, some (.goto 4), none, none, some (.iconst (-1)), some .ireturn]
def M9_receipt : MT := (9, yX9_receipt, cX9_receipt, 2, (some .int), 1, 2, 43, tb9_receipt)
def tb9_isValid : List (Option Instr) := [some (.aload_n 0), some (.iload_n 1), some (.bipush 8), none, some (.invokevirtual 69), none, none, some (.iconst 2), some (.if_icmp .ne 18), none, none, some (.aload_n 0), some (.iload_n 1), some (.bipush 9), none, some (.invokevirtual 69), none, none, some (.iload_n 2), some (.if_icmp .ne 7), none, none, some (.iconst 1), some (.goto 4), none, none, some (.iconst 0), some .ireturn]
def M9_isValid : MT := (9, yX9_isValid, cX9_isValid, 3, (some .boolean), 2, 1, 22, tb9_isValid)
def tb9_finish : List (Option Instr) := [some (.aload_n 0), some (.iload_n 1), some (.invokevirtual 109), none, none, some (.ifCond .ne 5), none, none, some (.iconst (-1)), some .ireturn, some (.aload_n 0), some (.iload_n 1), some (.iload_n 2), some (.invokevirtual 135), none, none, some (.ifCond .ne 6), none, none, some (.bipush (-6)), none, some .ireturn, some (.aload_n 0), some (.iload_n 1), some (.bipush 8), none, some (.iconst 3), some (.invokevirtual 73), none, none, some (.aload_n 0), some (.invokevirtual 103), none, none, some (.aload_n 0), some (.getfield 84), none, none, some .ireturn]
def M9_finish : MT := (9, yX9_finish, cX9_finish, 3, (some .int), 2, 4, 91, tb9_finish)
def tb9_comeBack : List (Option Instr) := [some (.aload_n 0), some (.iload_n 1), some (.iconst 5), some (.invokevirtual 69), none, none, some (.aload_n 0), some (.iload_n 1), some (.iconst 2), some (.invokevirtual 69), none, none, some (.if_icmp .lt 15), none, none, some (.aload_n 0), some (.iload_n 1), some (.bipush 8), none, some (.bipush 6), none, some (.invokevirtual 73), none, none, some (.goto 9), none, none, some (.aload_n 0), some (.iload_n 1), some (.iload_n 2), some (.invokevirtual 95), none, none, some .return_]
def M9_comeBack : MT := (9, yX9_comeBack, cX9_comeBack, 3, none, 2, 2, 45, tb9_comeBack)
def tb9_giveBack : List (Option Instr) := [some (.aload_n 0), some (.iload_n 1), some (.invokevirtual 109), none, none, some (.ifCond .ne 5), none, none, some (.iconst (-1)), some .ireturn, some (.iload_n 3), some (.iconst 0), some (.bipush 10), none, some (.invokestatic 65), none, none, some (.ifCond .ne 6), none, none, some (.bipush (-2)), none, some .ireturn, some (.aload_n 0), some (.iload_n 1), some (.iload_n 2), some (.invokevirtual 135), none, none, some (.ifCond .ne 6), none, none, some (.bipush (-6)), none, some .ireturn, some (.iload_n 3), some (.istore 4), none, some (.iconst 1), some (.istore 5), none, some (.iload 5), none, some (.aload_n 0), some (.iload_n 1), some (.iconst 5), some (.invokevirtual 69), none, none, some (.if_icmp .ge 15), none, none, some (.iconst 2), some (.iload 4), none, some .imul, some (.istore 4), none, some (.iinc 5 1), none, none, some (.goto (-20)), none, none, some (.aload_n 0), some (.iload_n 1), some (.aload_n 0), some (.getfield 7), none, none, some (.iconst 1), some .iaload, some (.iload 4), none, some .iadd, some (.invokevirtual 139), none, none, some (.aload_n 0), some (.invokevirtual 103), none, none, some (.aload_n 0), some (.iload_n 1), some (.bipush 8), none, some (.invokevirtual 69), none, none, some .ireturn]
def M9_giveBack : MT := (9, yX9_giveBack, cX9_giveBack, 6, (some .int), 3, 4, 91, tb9_giveBack)
def tb9_extend : List (Option Instr) := [some (.aload_n 0), some (.iload_n 1), some (.invokevirtual 109), none, none, some (.ifCond .ne 5), none, none, some (.iconst (-1)), some .ireturn, some (.iload_n 3), some (.iconst 1), some (.bipush 30), none, some (.invokestatic 65), none, none, some (.ifCond .ne 6), none, none, some (.bipush (-2)), none, some .ireturn, some (.aload_n 0), some (.iload_n 1), some (.iload_n 2), some (.invokevirtual 135), none, none, some (.ifCond .ne 6), none, none, some (.bipush (-6)), none, some .ireturn, some (.aload_n 0), some (.iload_n 1), some (.bipush 7), none, some (.invokevirtual 69), none, none, some (.istore 4), none, some (.aload_n 0), some (.iload_n 1), some (.bipush 7), none, some (.aload_n 0), some (.getfield 7), none, none, some (.iconst 1), some .iaload, some (.iload_n 3), some .iadd, some (.invokevirtual 73), none, none, some (.iload 4), none, some .ireturn]
def M9_extend : MT := (9, yX9_extend, cX9_extend, 5, (some .int), 3, 2, 44, tb9_extend)
def tb9_cancel : List (Option Instr) := [some (.aload_n 0), some (.iload_n 1), some (.invokevirtual 109), none, none, some (.ifCond .ne 5), none, none, some (.iconst (-1)), some .ireturn, some (.aload_n 0), some (.iload_n 1), some (.invokevirtual 80), none, none, some (.ifCond .eq 6), none, none, some (.bipush (-4)), none, some .ireturn, some (.aload_n 0), some (.iload_n 1), some (.bipush 8), none, some (.iconst 4), some (.invokevirtual 73), none, none, some (.aload_n 0), some (.invokevirtual 103), none, none, some (.aload_n 0), some (.getfield 88), none, none, some .ireturn]
def M9_cancel : MT := (9, yX9_cancel, cX9_cancel, 2, (some .int), 1, 4, 91, tb9_cancel)
def tb9_revive : List (Option Instr) := [some (.aload_n 0), some (.iload_n 1), some (.invokevirtual 109), none, none, some (.ifCond .ne 5), none, none, some (.iconst (-1)), some .ireturn, some (.aload_n 0), some (.iload_n 1), some (.bipush 8), none, some (.invokevirtual 69), none, none, some (.iconst 4), some (.if_icmp .ge 6), none, none, some (.bipush (-4)), none, some .ireturn, some (.aload_n 0), some (.iload_n 1), some (.bipush 8), none, some (.iconst 0), some (.invokevirtual 73), none, none, some (.aload_n 0), some (.iload_n 1), some (.iconst 5), some (.iconst 0), some (.invokevirtual 73), none, none, some (.aload_n 0), some (.iload_n 1), some (.bipush 9), none, some (.bipush (-7)), none, some (.invokevirtual 73), none, none, some (.aload_n 0), some (.invokevirtual 103), none, none, some (.aload_n 0), some (.iload_n 1), some (.bipush 8), none, some (.invokevirtual 69), none, none, some .ireturn]
def M9_revive : MT := (9, yX9_revive, cX9_revive, 2, (some .int), 1, 4, 91, tb9_revive)
def tb9_tick : List (Option Instr) := [some (.iload_n 1), some (.iconst 1), some (.bipush 30), none, some (.invokestatic 65), none, none, some (.ifCond .ne 6), none, none, some (.bipush (-2)), none, some .ireturn, some (.iconst 0), some (.istore_n 2), some (.iconst 0), some (.istore_n 3), some (.iload_n 3), some (.iload_n 1), some (.if_icmp .ge 87), none, none, some (.aload_n 0), some (.getfield 7), none, none, some (.iconst 1), some .dup2, some .iaload, some (.iconst 1), some .iadd, some .iastore, some (.iconst 0), some (.istore 4), none, some (.iload 4), none, some (.aload_n 0), some (.getfield 7), none, none, some (.iconst 0), some .iaload, some (.if_icmp .ge 53), none, none, some (.aload_n 0), some (.iload 4), none, some (.bipush 8), none, some (.invokevirtual 69), none, none, some (.iconst 2), some (.if_icmp .ne 35), none, none, some (.aload_n 0), some (.iload 4), none, some (.bipush 7), none, some (.invokevirtual 69), none, none, some (.aload_n 0), some (.getfield 7), none, none, some (.iconst 1), some .iaload, some (.if_icmp .gt 18), none, none, some (.aload_n 0), some (.iload 4), none, some (.aload_n 0), some (.getfield 7), none, none, some (.iconst 1), some .iaload, some (.invokevirtual 139), none, none, some (.iinc 2 1), none, none, some (.iinc 4 1), none, none, some (.goto (-58)), none, none, some (.aload_n 0), some (.invokevirtual 103), none, none, some (.iinc 3 1), none, none, some (.goto (-86)), none, none, some (.iload_n 2), some .ireturn]
def M9_tick : MT := (9, yX9_tick, cX9_tick, 5, (some .int), 1, 4, 91, tb9_tick)
def tb9_items : List (Option Instr) := [some (.aload_n 0), some (.getfield 7), none, none, some (.iconst 0), some .iaload, some .ireturn]
def M9_items : MT := (9, yX9_items, cX9_items, 1, (some .int), 0, 0, 0, tb9_items)
def tb9_edges : List (Option Instr) := [some (.iconst 0), some (.istore_n 1), some (.iconst 0), some (.istore_n 2), some (.iload_n 2), some (.aload_n 0), some (.getfield 7), none, none, some (.iconst 0), some .iaload, some (.if_icmp .ge 44), none, none, some (.iconst 0), some (.istore_n 3), some (.iload_n 3), some (.aload_n 0), some (.getfield 7), none, none, some (.iconst 0), some .iaload, some (.if_icmp .ge 26), none, none, some (.iload_n 1), some (.aload_n 0), some (.iload_n 2), some (.iload_n 3), some (.invokevirtual 77), none, none, some (.ifCond .lt 7), none, none, some (.iconst 1), some (.goto 4), none, none, some (.iconst 0), some .iadd, some (.istore_n 1), some (.iinc 3 1), none, none, some (.goto (-30)), none, none, some (.iinc 2 1), none, none, some (.goto (-48)), none, none, some (.iload_n 1), some .ireturn]
def M9_edges : MT := (9, yX9_edges, cX9_edges, 4, (some .int), 0, 1, 22, tb9_edges)
def tb9_time : List (Option Instr) := [some (.aload_n 0), some (.getfield 7), none, none, some (.iconst 1), some .iaload, some .ireturn]
def M9_time : MT := (9, yX9_time, cX9_time, 1, (some .int), 0, 0, 0, tb9_time)
def tb9_state : List (Option Instr) := [some (.aload_n 0), some (.iload_n 1), some (.invokevirtual 109), none, none, some (.ifCond .eq 13), none, none, some (.aload_n 0), some (.iload_n 1), some (.bipush 8), none, some (.invokevirtual 69), none, none, some (.goto 4), none, none, some (.iconst (-1)), some .ireturn]
def M9_state : MT := (9, yX9_state, cX9_state, 2, (some .int), 1, 2, 43, tb9_state)
def tb9_itemsIn : List (Option Instr) := [some (.iload_n 1), some (.iconst 0), some (.bipush 6), none, some (.invokestatic 65), none, none, some (.ifCond .ne 6), none, none, some (.bipush (-2)), none, some .ireturn, some (.iconst 0), some (.istore_n 2), some (.iconst 0), some (.istore_n 3), some (.iload_n 3), some (.aload_n 0), some (.getfield 7), none, none, some (.iconst 0), some .iaload, some (.if_icmp .ge 30), none, none, some (.iload_n 2), some (.aload_n 0), some (.iload_n 3), some (.bipush 8), none, some (.invokevirtual 69), none, none, some (.iload_n 1), some (.if_icmp .ne 9), none, none, some (.iconst 1), some (.iload_n 3), some .ishl, some (.goto 4), none, none, some (.iconst 0), some .ior, some (.istore_n 2), some (.iinc 3 1), none, none, some (.goto (-34)), none, none, some (.iload_n 2), some .ireturn]
def M9_itemsIn : MT := (9, yX9_itemsIn, cX9_itemsIn, 4, (some .int), 1, 1, 22, tb9_itemsIn)
def tb9_property : List (Option Instr) := [some (.aload_n 0), some (.iload_n 1), some (.invokevirtual 109), none, none, some (.ifCond .ne 5), none, none, some (.iconst (-1)), some .ireturn, some (.iload_n 2), some (.iconst 0), some (.bipush 7), none, some (.invokestatic 65), none, none, some (.ifCond .ne 6), none, none, some (.bipush (-2)), none, some .ireturn, some (.iload_n 2), some (.bipush 6), none, some (.if_icmp .ne 14), none, none, some (.aload_n 0), some (.iload_n 1), some (.bipush 8), none, some (.invokevirtual 69), none, none, some (.iconst 1), some (.if_icmp .ne 20), none, none, some (.iload_n 2), some (.bipush 7), none, some (.if_icmp .ne 17), none, none, some (.aload_n 0), some (.iload_n 1), some (.bipush 8), none, some (.invokevirtual 69), none, none, some (.iconst 2), some (.if_icmp .eq 6), none, none, some (.bipush (-7)), none, some .ireturn, some (.aload_n 0), some (.iload_n 1), some (.iload_n 2), some (.invokevirtual 69), none, none, some .ireturn]
def M9_property : MT := (9, yX9_property, cX9_property, 3, (some .int), 2, 2, 43, tb9_property)
def tb9_edge : List (Option Instr) := [some (.aload_n 0), some (.iload_n 1), some (.invokevirtual 109), none, none, some (.ifCond .eq 11), none, none, some (.aload_n 0), some (.iload_n 2), some (.invokevirtual 109), none, none, some (.ifCond .ne 5), none, none, some (.iconst (-1)), some .ireturn, some (.aload_n 0), some (.iload_n 1), some (.iload_n 2), some (.invokevirtual 77), none, none, some (.ifCond .lt 12), none, none, some (.aload_n 0), some (.iload_n 1), some (.iload_n 2), some (.invokevirtual 77), none, none, some (.goto 5), none, none, some (.bipush (-7)), none, some .ireturn]
def M9_edge : MT := (9, yX9_edge, cX9_edge, 3, (some .int), 2, 2, 43, tb9_edge)
def tb9_rank : List (Option Instr) := [some (.aload_n 0), some (.iload_n 1), some (.invokevirtual 109), none, none, some (.ifCond .ne 5), none, none, some (.iconst (-1)), some .ireturn, some (.aload_n 0), some (.invokevirtual 126), none, none, some (.aload_n 0), some (.iload_n 1), some (.invokevirtual 132), none, none, some .ireturn]
def M9_rank : MT := (9, yX9_rank, cX9_rank, 2, (some .int), 1, 4, 89, tb9_rank)
def tb9_height : List (Option Instr) := [some (.aload_n 0), some (.iload_n 1), some (.invokevirtual 109), none, none, some (.ifCond .ne 5), none, none, some (.iconst (-1)), some .ireturn, some (.aload_n 0), some (.invokevirtual 126), none, none, some (.aload_n 0), some (.getfield 25), none, none, some (.iload_n 1), some .iaload, some .ireturn]
def M9_height : MT := (9, yX9_height, cX9_height, 2, (some .int), 1, 4, 89, tb9_height)
def tb9_layAhead : List (Option Instr) := [some (.iconst 0), some (.istore_n 1), some (.iload_n 1), some (.bipush 20), none, some (.if_icmp .ge 16), none, none, some (.aload_n 0), some (.getfield 31), none, none, some (.iload_n 1), some (.iconst 0), some .iastore, some (.iinc 1 1), none, none, some (.goto (-16)), none, none, some (.iconst 0), some (.istore_n 1), some (.iload_n 1), some (.aload_n 0), some (.getfield 7), none, none, some (.iconst 0), some .iaload, some (.if_icmp .ge 77), none, none, some (.iconst 0), some (.istore_n 2), some (.iload_n 2), some (.aload_n 0), some (.getfield 7), none, none, some (.iconst 0), some .iaload, some (.if_icmp .ge 59), none, none, some (.iconst 0), some (.istore_n 3), some (.iload_n 3), some (.aload_n 0), some (.getfield 7), none, none, some (.iconst 0), some .iaload, some (.if_icmp .ge 41), none, none, some (.aload_n 0), some (.getfield 31), none, none, some (.iload_n 3), some .dup2, some .iaload, some (.aload_n 0), some (.iload_n 2), some (.iload_n 3), some (.invokevirtual 77), none, none, some (.ifCond .lt 16), none, none, some (.aload_n 0), some (.getfield 31), none, none, some (.iload_n 2), some .iaload, some (.iconst 1), some (.iload_n 2), some .ishl, some .ior, some (.goto 4), none, none, some (.iconst 0), some .ior, some .iastore, some (.iinc 3 1), none, none, some (.goto (-45)), none, none, some (.iinc 2 1), none, none, some (.goto (-63)), none, none, some (.iinc 1 1), none, none, some (.goto (-81)), none, none, some .return_]
def M9_layAhead : MT := (9, yX9_layAhead, cX9_layAhead, 4, none, 0, 1, 22, tb9_layAhead)
def tb9_before : List (Option Instr) := [some (.aload_n 0), some (.iload_n 1), some (.invokevirtual 109), none, none, some (.ifCond .ne 5), none, none, some (.iconst (-1)), some .ireturn, some (.aload_n 0), some (.invokevirtual 142), none, none, some (.aload_n 0), some (.getfield 31), none, none, some (.iload_n 1), some .iaload, some .ireturn]
def M9_before : MT := (9, yX9_before, cX9_before, 2, (some .int), 1, 2, 45, tb9_before)
def tb9_wouldDoom : List (Option Instr) := [some (.aload_n 0), some (.iload_n 1), some (.invokevirtual 109), none, none, some (.ifCond .ne 5), none, none, some (.iconst (-1)), some .ireturn, some (.aload_n 0), some (.iload_n 1), some (.invokevirtual 80), none, none, some (.ifCond .eq 6), none, none, some (.bipush (-4)), none, some .ireturn, some (.iconst 1), some (.iload_n 1), some .ishl, some (.istore_n 2), some (.iconst 0), some (.istore_n 3), some (.iload_n 3), some (.aload_n 0), some (.getfield 7), none, none, some (.iconst 0), some .iaload, some (.if_icmp .ge 105), none, none, some (.iconst 0), some (.istore 4), none, some (.iload 4), none, some (.aload_n 0), some (.getfield 7), none, none, some (.iconst 0), some .iaload, some (.if_icmp .ge 85), none, none, some (.iconst 0), some (.istore 5), none, some (.iload 5), none, some (.aload_n 0), some (.getfield 7), none, none, some (.iconst 0), some .iaload, some (.if_icmp .ge 65), none, none, some (.iload_n 2), some (.iload 4), none, some .ishr, some (.iconst 1), some .iand, some (.iconst 1), some (.if_icmp .ne 30), none, none, some (.aload_n 0), some (.iload 4), none, some (.iload 5), none, some (.invokevirtual 77), none, none, some (.ifCond .ne 19), none, none, some (.aload_n 0), some (.iload 5), none, some (.bipush 8), none, some (.invokevirtual 69), none, none, some (.iconst 1), some (.if_icmp .gt 7), none, none, some (.iconst 1), some (.goto 4), none, none, some (.iconst 0), some (.istore 6), none, some (.iload_n 2), some (.iload 6), none, some (.ifCond .eq 10), none, none, some (.iconst 1), some (.iload 5), none, some .ishl, some (.goto 4), none, none, some (.iconst 0), some .ior, some (.istore_n 2), some (.iinc 5 1), none, none, some (.goto (-70)), none, none, some (.iinc 4 1), none, none, some (.goto (-90)), none, none, some (.iinc 3 1), none, none, some (.goto (-109)), none, none, some (.iload_n 2), some (.iconst 1), some (.iload_n 1), some .ishl, some (.iconst (-1)), some .ixor, some .iand, some .ireturn]
def M9_wouldDoom : MT := (9, yX9_wouldDoom, cX9_wouldDoom, 7, (some .int), 1, 2, 43, tb9_wouldDoom)
def tb9_isSuperfluous : List (Option Instr) := [some (.aload_n 0), some (.iload_n 1), some (.invokevirtual 109), none, none, some (.ifCond .eq 11), none, none, some (.aload_n 0), some (.iload_n 2), some (.invokevirtual 109), none, none, some (.ifCond .ne 5), none, none, some (.iconst (-1)), some .ireturn, some (.aload_n 0), some (.iload_n 1), some (.iload_n 2), some (.invokevirtual 77), none, none, some (.ifCond .ge 6), none, none, some (.bipush (-7)), none, some .ireturn, some (.aload_n 0), some (.invokevirtual 142), none, none, some (.iconst 0), some (.istore_n 3), some (.iconst 0), some (.istore 4), none, some (.iload 4), none, some (.aload_n 0), some (.getfield 7), none, none, some (.iconst 0), some .iaload, some (.if_icmp .ge 40), none, none, some (.aload_n 0), some (.iload 4), none, some (.iload_n 2), some (.invokevirtual 77), none, none, some (.ifCond .lt 22), none, none, some (.aload_n 0), some (.getfield 31), none, none, some (.iload 4), none, some .iaload, some (.iload_n 1), some .ishr, some (.iconst 1), some .iand, some (.iconst 1), some (.if_icmp .ne 7), none, none, some (.iconst 1), some (.goto 4), none, none, some (.iload_n 3), some (.istore_n 3), some (.iinc 4 1), none, none, some (.goto (-45)), none, none, some (.iload_n 3), some .ireturn]
def M9_isSuperfluous : MT := (9, yX9_isSuperfluous, cX9_isSuperfluous, 5, (some .int), 2, 2, 45, tb9_isSuperfluous)
def tb9_possibleAt : List (Option Instr) := [some (.iconst 0), some (.istore_n 3), some (.iconst 0), some (.istore 4), none, some (.iload 4), none, some (.aload_n 0), some (.getfield 7), none, none, some (.iconst 0), some .iaload, some (.if_icmp .ge 77), none, none, some (.aload_n 0), some (.iload 4), none, some (.iload_n 1), some (.invokevirtual 77), none, none, some (.ifCond .lt 61), none, none, some (.aload_n 0), some (.iload 4), none, some (.invokevirtual 80), none, none, some (.ifCond .ne 52), none, none, some (.aload_n 0), some (.getfield 37), none, none, some (.iload 4), none, some .iaload, some (.bipush (-7)), none, some (.if_icmp .eq 14), none, none, some (.aload_n 0), some (.getfield 37), none, none, some (.iload 4), none, some .iaload, some (.iload_n 2), some (.if_icmp .le 6), none, none, some (.bipush (-7)), none, some .ireturn, some (.aload_n 0), some (.getfield 37), none, none, some (.iload 4), none, some .iaload, some (.iload_n 3), some (.if_icmp .le 13), none, none, some (.aload_n 0), some (.getfield 37), none, none, some (.iload 4), none, some .iaload, some (.goto 4), none, none, some (.iload_n 3), some (.istore_n 3), some (.iinc 4 1), none, none, some (.goto (-82)), none, none, some (.iload_n 3), some .ireturn]
def M9_possibleAt : MT := (9, yX9_possibleAt, cX9_possibleAt, 5, (some .int), 2, 2, 43, tb9_possibleAt)
def tb9_planRank : List (Option Instr) := [some (.bipush 100), none, some (.aload_n 0), some (.iload_n 1), some (.iconst 0), some (.invokevirtual 69), none, none, some .imul, some (.istore 4), none, some (.iload_n 2), some (.iconst 1), some (.if_icmp .ne 15), none, none, some (.iload 4), none, some (.aload_n 0), some (.getfield 25), none, none, some (.iload_n 1), some .iaload, some .iadd, some (.goto 27), none, none, some (.iload_n 2), some (.iconst 2), some (.if_icmp .ne 20), none, none, some (.iload 4), none, some (.bipush 10), none, some (.iload_n 3), some (.aload_n 0), some (.iload_n 1), some (.iload_n 3), some (.invokevirtual 145), none, none, some .isub, some .imul, some .iadd, some (.goto 5), none, none, some (.iload 4), none, some .ireturn]
def M9_planRank : MT := (9, yX9_planRank, cX9_planRank, 5, (some .int), 3, 3, 67, tb9_planRank)
def tb9_planned : List (Option Instr) := [some (.aload_n 0), some (.invokevirtual 126), none, none, some (.iconst 0), some (.istore_n 3), some (.iconst 0), some (.istore 4), none, some (.iload 4), none, some (.aload_n 0), some (.getfield 7), none, none, some (.iconst 0), some .iaload, some (.if_icmp .ge 44), none, none, some (.aload_n 0), some (.getfield 34), none, none, some (.iload 4), none, some (.bipush (-7)), none, some .iastore, some (.aload_n 0), some (.getfield 37), none, none, some (.iload 4), none, some (.bipush (-7)), none, some .iastore, some (.iload_n 3), some (.aload_n 0), some (.iload 4), none, some (.invokevirtual 80), none, none, some (.ifCond .eq 7), none, none, some (.iconst 0), some (.goto 4), none, none, some (.iconst 1), some .iadd, some (.istore_n 3), some (.iinc 4 1), none, none, some (.goto (-49)), none, none, some (.iconst 0), some (.istore 4), none, some (.iconst 0), some (.istore 5), none, some (.iload_n 3), some (.ifCond .le 252), none, none, some (.iconst 0), some (.istore 6), none, some (.iconst 0), some (.istore 7), none, some (.iload 7), none, some (.aload_n 0), some (.getfield 7), none, none, some (.iconst 0), some .iaload, some (.if_icmp .ge 43), none, none, some (.iload 6), none, some (.aload_n 0), some (.getfield 37), none, none, some (.iload 7), none, some .iaload, some (.bipush (-7)), none, some (.if_icmp .eq 19), none, none, some (.aload_n 0), some (.getfield 37), none, none, some (.iload 7), none, some .iaload, some (.iload 5), none, some (.if_icmp .le 7), none, none, some (.iconst 1), some (.goto 4), none, none, some (.iconst 0), some .iadd, some (.istore 6), none, some (.iinc 7 1), none, none, some (.goto (-48)), none, none, some (.iconst 0), some (.istore 7), none, some (.iload 7), none, some (.bipush (-7)), none, some (.if_icmp .eq 179), none, none, some (.iload 6), none, some (.iload_n 1), some (.if_icmp .ge 173), none, none, some (.bipush (-7)), none, some (.istore 7), none, some (.iconst 0), some (.istore 8), none, some (.iload 8), none, some (.aload_n 0), some (.getfield 7), none, none, some (.iconst 0), some .iaload, some (.if_icmp .ge 87), none, none, some (.aload_n 0), some (.iload 8), none, some (.invokevirtual 80), none, none, some (.ifCond .ne 32), none, none, some (.aload_n 0), some (.getfield 34), none, none, some (.iload 8), none, some .iaload, some (.bipush (-7)), none, some (.if_icmp .ne 20), none, none, some (.aload_n 0), some (.iload 8), none, some (.iload 5), none, some (.invokevirtual 145), none, none, some (.bipush (-7)), none, some (.if_icmp .eq 7), none, none, some (.iconst 1), some (.goto 4), none, none, some (.iconst 0), some (.istore 9), none, some (.iload 9), none, some (.ifCond .eq 35), none, none, some (.iload 7), none, some (.bipush (-7)), none, some (.if_icmp .eq 24), none, none, some (.aload_n 0), some (.iload 8), none, some (.iload_n 2), some (.iload 5), none, some (.invokevirtual 148), none, none, some (.aload_n 0), some (.iload 7), none, some (.iload_n 2), some (.iload 5), none, some (.invokevirtual 148), none, none, some (.if_icmp .le 7), none, none, some (.iload 8), none, some (.istore 7), none, some (.iinc 8 1), none, none, some (.goto (-92)), none, none, some (.iload 7), none, some (.bipush (-7)), none, some (.if_icmp .eq (-119)), none, none, some (.aload_n 0), some (.getfield 34), none, none, some (.iload 7), none, some (.iload 5), none, some .iastore, some (.aload_n 0), some (.getfield 37), none, none, some (.iload 7), none, some (.iload 5), none, some (.aload_n 0), some (.iload 7), none, some (.iconst 1), some (.invokevirtual 69), none, none, some .iadd, some .iastore, some (.aload_n 0), some (.getfield 37), none, none, some (.iload 7), none, some .iaload, some (.iload 4), none, some (.if_icmp .le 13), none, none, some (.aload_n 0), some (.getfield 37), none, none, some (.iload 7), none, some .iaload, some (.goto 5), none, none, some (.iload 4), none, some (.istore 4), none, some (.iinc 6 1), none, none, some (.iinc 3 (-1)), none, none, some (.goto (-180)), none, none, some (.iinc 5 1), none, none, some (.goto (-250)), none, none, some (.iload 4), none, some .ireturn]
def M9_planned : MT := (9, yX9_planned, cX9_planned, 10, (some .int), 2, 4, 91, tb9_planned)
def tb9_planLength : List (Option Instr) := [some (.iload_n 1), some (.iconst 1), some (.bipush 6), none, some (.invokestatic 65), none, none, some (.ifCond .eq 12), none, none, some (.iload_n 2), some (.iconst 0), some (.iconst 2), some (.invokestatic 65), none, none, some (.ifCond .ne 6), none, none, some (.bipush (-2)), none, some .ireturn, some (.aload_n 0), some (.iload_n 1), some (.iload_n 2), some (.invokevirtual 152), none, none, some .ireturn]
def M9_planLength : MT := (9, yX9_planLength, cX9_planLength, 3, (some .int), 2, 5, 120, tb9_planLength)
def tb9_planStart : List (Option Instr) := [some (.aload_n 0), some (.iload_n 1), some (.invokevirtual 109), none, none, some (.ifCond .ne 5), none, none, some (.iconst (-1)), some .ireturn, some (.iload_n 2), some (.iconst 1), some (.bipush 6), none, some (.invokestatic 65), none, none, some (.ifCond .eq 12), none, none, some (.iload_n 3), some (.iconst 0), some (.iconst 2), some (.invokestatic 65), none, none, some (.ifCond .ne 6), none, none, some (.bipush (-2)), none, some .ireturn, some (.aload_n 0), some (.iload_n 2), some (.iload_n 3), some (.invokevirtual 152), none, none, some (.istore 4), none, some (.aload_n 0), some (.getfield 34), none, none, some (.iload_n 1), some .iaload, some .ireturn]
def M9_planStart : MT := (9, yX9_planStart, cX9_planStart, 5, (some .int), 3, 5, 120, tb9_planStart)
def tb9_bestWorkers : List (Option Instr) := [some (.iload_n 1), some (.iconst 0), some (.iconst 2), some (.invokestatic 65), none, none, some (.ifCond .ne 6), none, none, some (.bipush (-2)), none, some .ireturn, some (.iconst 1), some (.istore_n 2), some (.aload_n 0), some (.iconst 1), some (.iload_n 1), some (.invokevirtual 152), none, none, some (.istore_n 3), some (.iconst 2), some (.istore 4), none, some (.iload 4), none, some (.bipush 6), none, some (.if_icmp .gt 30), none, none, some (.aload_n 0), some (.iload 4), none, some (.iload_n 1), some (.invokevirtual 152), none, none, some (.istore 5), none, some (.iload 5), none, some (.iload_n 3), some (.if_icmp .ge 9), none, none, some (.iload 4), none, some (.istore_n 2), some (.iload 5), none, some (.istore_n 3), some (.iinc 4 1), none, none, some (.goto (-31)), none, none, some (.iload_n 2), some .ireturn]
def M9_bestWorkers : MT := (9, yX9_bestWorkers, cX9_bestWorkers, 6, (some .int), 1, 5, 120, tb9_bestWorkers)
def tb9_slack : List (Option Instr) := [some (.aload_n 0), some (.iload_n 1), some (.invokevirtual 109), none, none, some (.ifCond .ne 5), none, none, some (.iconst (-1)), some .ireturn, some (.aload_n 0), some (.iload_n 1), some (.invokevirtual 80), none, none, some (.ifCond .eq 6), none, none, some (.bipush (-4)), none, some .ireturn, some (.aload_n 0), some (.invokevirtual 126), none, none, some (.iconst 0), some (.istore_n 2), some (.iconst 0), some (.istore_n 3), some (.iload_n 3), some (.aload_n 0), some (.getfield 7), none, none, some (.iconst 0), some .iaload, some (.if_icmp .ge 38), none, none, some (.aload_n 0), some (.iload_n 3), some (.invokevirtual 80), none, none, some (.ifCond .ne 22), none, none, some (.aload_n 0), some (.getfield 25), none, none, some (.iload_n 3), some .iaload, some (.iload_n 2), some (.if_icmp .le 12), none, none, some (.aload_n 0), some (.getfield 25), none, none, some (.iload_n 3), some .iaload, some (.goto 4), none, none, some (.iload_n 2), some (.istore_n 2), some (.iinc 3 1), none, none, some (.goto (-42)), none, none, some (.iload_n 2), some (.aload_n 0), some (.getfield 25), none, none, some (.iload_n 1), some .iaload, some .isub, some (.aload_n 0), some (.getfield 28), none, none, some (.iload_n 1), some .iaload, some (.aload_n 0), some (.iload_n 1), some (.iconst 1), some (.invokevirtual 69), none, none, some .isub, some .isub, some .ireturn]
def M9_slack : MT := (9, yX9_slack, cX9_slack, 4, (some .int), 1, 4, 89, tb9_slack)
def tb9_isMatched : List (Option Instr) := [some (.iconst 1), some (.istore_n 2), some (.iconst 0), some (.istore_n 3), some (.aload_n 0), some (.getfield 46), none, none, some (.iconst 0), some (.iload_n 1), some .iastore, some (.iconst 0), some (.istore 4), none, some (.iload 4), none, some (.iload_n 2), some (.if_icmp .ge 137), none, none, some (.aload_n 0), some (.getfield 46), none, none, some (.iload 4), none, some .iaload, some (.istore 5), none, some (.iconst 0), some (.istore 6), none, some (.iload 6), none, some (.aload_n 0), some (.getfield 7), none, none, some (.iconst 0), some .iaload, some (.if_icmp .ge 108), none, none, some (.aload_n 0), some (.iload 6), none, some (.invokevirtual 80), none, none, some (.ifCond .ne 32), none, none, some (.aload_n 0), some (.getfield 31), none, none, some (.iload 6), none, some .iaload, some (.iload 5), none, some .ishr, some (.iconst 1), some .iand, some (.iconst 1), some (.if_icmp .ne 16), none, none, some (.iload_n 3), some (.iload 6), none, some .ishr, some (.iconst 1), some .iand, some (.ifCond .ne 7), none, none, some (.iconst 1), some (.goto 4), none, none, some (.iconst 0), some (.istore 7), none, some (.iload 7), none, some (.ifCond .eq 56), none, none, some (.iload_n 3), some (.iconst 1), some (.iload 6), none, some .ishl, some .ior, some (.istore_n 3), some (.aload_n 0), some (.getfield 43), none, none, some (.iload 6), none, some (.iload 5), none, some .iastore, some (.aload_n 0), some (.getfield 40), none, none, some (.iload 6), none, some .iaload, some (.bipush (-7)), none, some (.if_icmp .ne 12), none, none, some (.aload_n 0), some (.iload 6), none, some (.iload_n 1), some (.invokevirtual 155), none, none, some (.iconst 1), some .ireturn, some (.aload_n 0), some (.getfield 46), none, none, some (.iload_n 2), some (.aload_n 0), some (.getfield 40), none, none, some (.iload 6), none, some .iaload, some .iastore, some (.iinc 2 1), none, none, some (.iinc 6 1), none, none, some (.goto (-113)), none, none, some (.iinc 4 1), none, none, some (.goto (-137)), none, none, some (.iconst 0), some .ireturn]
def M9_isMatched : MT := (9, yX9_isMatched, cX9_isMatched, 8, (some .boolean), 1, 2, 43, tb9_isMatched)
def tb9_changePartners : List (Option Instr) := [some (.iload_n 1), some (.istore_n 3), some (.iconst 1), some (.istore 4), none, some (.iload 4), none, some (.ifCond .eq 83), none, none, some (.aload_n 0), some (.getfield 43), none, none, some (.iload_n 3), some .iaload, some (.istore 5), none, some (.bipush (-7)), none, some (.istore 6), none, some (.iconst 0), some (.istore 7), none, some (.iload 7), none, some (.aload_n 0), some (.getfield 7), none, none, some (.iconst 0), some .iaload, some (.if_icmp .ge 30), none, none, some (.aload_n 0), some (.getfield 40), none, none, some (.iload 7), none, some .iaload, some (.iload 5), none, some (.if_icmp .ne 8), none, none, some (.iload 7), none, some (.goto 5), none, none, some (.iload 6), none, some (.istore 6), none, some (.iinc 7 1), none, none, some (.goto (-35)), none, none, some (.aload_n 0), some (.getfield 40), none, none, some (.iload_n 3), some (.iload 5), none, some .iastore, some (.iload 5), none, some (.iload_n 2), some (.if_icmp .eq 7), none, none, some (.iconst 1), some (.goto 4), none, none, some (.iconst 0), some (.istore 4), none, some (.iload 6), none, some (.istore_n 3), some (.goto (-82)), none, none, some .return_]
def M9_changePartners : MT := (9, yX9_changePartners, cX9_changePartners, 8, none, 2, 0, 0, tb9_changePartners)
def tb9_width : List (Option Instr) := [some (.aload_n 0), some (.invokevirtual 142), none, none, some (.iconst 0), some (.istore_n 1), some (.iload_n 1), some (.bipush 20), none, some (.if_icmp .ge 17), none, none, some (.aload_n 0), some (.getfield 40), none, none, some (.iload_n 1), some (.bipush (-7)), none, some .iastore, some (.iinc 1 1), none, none, some (.goto (-17)), none, none, some (.iconst 0), some (.istore_n 1), some (.iconst 0), some (.istore_n 2), some (.iload_n 2), some (.aload_n 0), some (.getfield 7), none, none, some (.iconst 0), some .iaload, some (.if_icmp .ge 33), none, none, some (.aload_n 0), some (.iload_n 2), some (.invokevirtual 80), none, none, some (.ifCond .ne 19), none, none, some (.iload_n 1), some (.aload_n 0), some (.iload_n 2), some (.invokevirtual 158), none, none, some (.ifCond .eq 7), none, none, some (.iconst 0), some (.goto 4), none, none, some (.iconst 1), some .iadd, some (.istore_n 1), some (.iinc 2 1), none, none, some (.goto (-37)), none, none, some (.iload_n 1), some .ireturn]
def M9_width : MT := (9, yX9_width, cX9_width, 3, (some .int), 0, 3, 70, tb9_width)
def tb9_orders : List (Option Instr) := [some (.iconst 0), some (.istore_n 1), some (.iconst 0), some (.istore_n 2), some (.iload_n 2), some (.aload_n 0), some (.getfield 7), none, none, some (.iconst 0), some .iaload, some (.if_icmp .ge 27), none, none, some (.aload_n 0), some (.iload_n 2), some (.invokevirtual 80), none, none, some (.ifCond .ne 13), none, none, some (.aload_n 0), some (.getfield 53), none, none, some (.iload_n 1), some (.iload_n 2), some .iastore, some (.iinc 1 1), none, none, some (.iinc 2 1), none, none, some (.goto (-31)), none, none, some (.iload_n 1), some (.bipush 12), none, some (.if_icmp .le 7), none, none, some (.ldc2_w 161), none, none, some .lreturn, some (.aload_n 0), some (.invokevirtual 142), none, none, some (.iconst 0), some (.istore_n 2), some (.iload_n 2), some (.iconst 1), some (.iload_n 1), some .ishl, some (.if_icmp .ge 82), none, none, some (.aload_n 0), some (.getfield 49), none, none, some (.iload_n 2), some (.iload_n 2), some (.ifCond .ne 7), none, none, some (.lconst 1), some (.goto 4), none, none, some (.lconst 0), some .lastore, some (.iconst 0), some (.istore_n 3), some (.iload_n 3), some (.iload_n 1), some (.if_icmp .ge 54), none, none, some (.iload_n 2), some (.iload_n 3), some .ishr, some (.iconst 1), some .iand, some (.iconst 1), some (.if_icmp .ne 39), none, none, some (.aload_n 0), some (.aload_n 0), some (.getfield 53), none, none, some (.iload_n 3), some .iaload, some (.iload_n 2), some (.iload_n 1), some (.invokevirtual 163), none, none, some (.ifCond .eq 24), none, none, some (.aload_n 0), some (.getfield 49), none, none, some (.iload_n 2), some .dup2, some .laload, some (.aload_n 0), some (.getfield 49), none, none, some (.iload_n 2), some (.iconst 1), some (.iload_n 3), some .ishl, some (.iconst (-1)), some .ixor, some .iand, some .laload, some .ladd, some .lastore, some (.iinc 3 1), none, none, some (.goto (-53)), none, none, some (.iinc 2 1), none, none, some (.goto (-83)), none, none, some (.aload_n 0), some (.getfield 49), none, none, some (.iconst 1), some (.iload_n 1), some .ishl, some (.iconst 1), some .isub, some .laload, some .lreturn]
def M9_orders : MT := (9, yX9_orders, cX9_orders, 4, (some .long), 0, 2, 45, tb9_orders)
def tb9_isLast : List (Option Instr) := [some (.iconst 1), some (.istore 4), none, some (.iconst 0), some (.istore 5), none, some (.iload 5), none, some (.iload_n 3), some (.if_icmp .ge 87), none, none, some (.iload_n 2), some (.iload 5), none, some .ishr, some (.iconst 1), some .iand, some (.iconst 1), some (.if_icmp .ne 7), none, none, some (.iconst 1), some (.goto 4), none, none, some (.iconst 0), some (.istore 6), none, some (.iload 4), none, some (.iload 6), none, some (.ifCond .eq 30), none, none, some (.aload_n 0), some (.getfield 31), none, none, some (.aload_n 0), some (.getfield 53), none, none, some (.iload 5), none, some .iaload, some .iaload, some (.iload_n 1), some .ishr, some (.iconst 1), some .iand, some (.ifCond .ne 7), none, none, some (.iconst 1), some (.goto 31), none, none, some (.iconst 0), some (.goto 27), none, none, some (.aload_n 0), some (.getfield 31), none, none, some (.iload_n 1), some .iaload, some (.aload_n 0), some (.getfield 53), none, none, some (.iload 5), none, some .iaload, some .ishr, some (.iconst 1), some .iand, some (.ifCond .ne 7), none, none, some (.iconst 1), some (.goto 4), none, none, some (.iconst 0), some .iand, some (.istore 4), none, some (.iinc 5 1), none, none, some (.goto (-87)), none, none, some (.iload 4), none, some .ireturn]
def M9_isLast : MT := (9, yX9_isLast, cX9_isLast, 7, (some .boolean), 3, 0, 0, tb9_isLast)
def tb9_write : List (Option Instr) := [some (.iload_n 1), some (.bipush 32), none, some (.bipush 126), none, some (.invokestatic 65), none, none, some (.ifCond .ne 6), none, none, some (.bipush (-2)), none, some .ireturn, some (.aload_n 0), some (.getfield 166), none, none, some (.sipush 200), none, none, some (.if_icmp .ne 6), none, none, some (.bipush (-3)), none, some .ireturn, some (.aload_n 0), some (.getfield 19), none, none, some (.aload_n 0), some (.getfield 166), none, none, some (.iload_n 1), some .iastore, some (.aload_n 0), some .dup, some (.getfield 166), none, none, some (.iconst 1), some .iadd, some (.putfield 166), none, none, some (.aload_n 0), some (.getfield 166), none, none, some .ireturn]
def M9_write : MT := (9, yX9_write, cX9_write, 2, (some .int), 1, 1, 22, tb9_write)
def tb9_wipe : List (Option Instr) := [some (.aload_n 0), some (.getfield 166), none, none, some (.istore_n 1), some (.aload_n 0), some (.iconst 0), some (.putfield 166), none, none, some (.iload_n 1), some .ireturn]
def M9_wipe : MT := (9, yX9_wipe, cX9_wipe, 2, (some .int), 0, 0, 0, tb9_wipe)
def tb9_isDigit : List (Option Instr) := [some (.aload_n 0), some (.getfield 169), none, none, some (.aload_n 0), some (.getfield 166), none, none, some (.if_icmp .ge 26), none, none, some (.aload_n 0), some (.getfield 19), none, none, some (.aload_n 0), some (.getfield 169), none, none, some .iaload, some (.bipush 48), none, some (.bipush 57), none, some (.invokestatic 65), none, none, some (.ifCond .eq 7), none, none, some (.iconst 1), some (.goto 4), none, none, some (.iconst 0), some .ireturn]
def M9_isDigit : MT := (9, yX9_isDigit, cX9_isDigit, 1, (some .boolean), 0, 1, 22, tb9_isDigit)
def tb9_fails : List (Option Instr) := [some (.aload_n 0), some (.aload_n 0), some (.getfield 172), none, none, some (.bipush (-7)), none, some (.if_icmp .ne 7), none, none, some (.iload_n 1), some (.goto 7), none, none, some (.aload_n 0), some (.getfield 172), none, none, some (.putfield 172), none, none, some .return_]
def M9_fails : MT := (9, yX9_fails, cX9_fails, 2, none, 1, 0, 0, tb9_fails)
def tb9_number : List (Option Instr) := [some (.aload_n 0), some (.invokevirtual 175), none, none, some (.ifCond .ne 13), none, none, some (.aload_n 0), some (.aload_n 0), some (.getfield 169), none, none, some (.invokevirtual 179), none, none, some (.iconst 0), some .ireturn, some (.aload_n 0), some (.getfield 19), none, none, some (.aload_n 0), some (.getfield 169), none, none, some .iaload, some (.bipush 48), none, some .isub, some (.istore_n 1), some (.aload_n 0), some .dup, some (.getfield 169), none, none, some (.iconst 1), some .iadd, some (.putfield 169), none, none, some (.aload_n 0), some (.invokevirtual 175), none, none, some (.ifCond .eq 31), none, none, some (.bipush 10), none, some (.iload_n 1), some .imul, some (.aload_n 0), some (.getfield 19), none, none, some (.aload_n 0), some (.getfield 169), none, none, some .iaload, some .iadd, some (.bipush 48), none, some .isub, some (.istore_n 1), some (.aload_n 0), some .dup, some (.getfield 169), none, none, some (.iconst 1), some .iadd, some (.putfield 169), none, none, some (.iload_n 1), some .ireturn]
def M9_number : MT := (9, yX9_number, cX9_number, 2, (some .int), 0, 2, 42, tb9_number)
def tb9_readItem : List (Option Instr) := [some (.aload_n 0), some (.getfield 182), none, none, some (.bipush 20), none, some (.if_icmp .eq 10), none, none, some (.aload_n 0), some (.invokevirtual 175), none, none, some (.ifCond .ne 12), none, none, some (.aload_n 0), some (.aload_n 0), some (.getfield 169), none, none, some (.invokevirtual 179), none, none, some .return_, some (.aload_n 0), some (.getfield 56), none, none, some (.aload_n 0), some (.getfield 182), none, none, some (.aload_n 0), some (.getfield 19), none, none, some (.aload_n 0), some (.getfield 169), none, none, some .iaload, some (.bipush 48), none, some .isub, some .iastore, some (.aload_n 0), some .dup, some (.getfield 169), none, none, some (.iconst 1), some .iadd, some (.putfield 169), none, none, some (.aload_n 0), some (.getfield 169), none, none, some (.aload_n 0), some (.getfield 166), none, none, some (.if_icmp .ge 17), none, none, some (.aload_n 0), some (.getfield 19), none, none, some (.aload_n 0), some (.getfield 169), none, none, some .iaload, some (.bipush 119), none, some (.if_icmp .eq 12), none, none, some (.aload_n 0), some (.aload_n 0), some (.getfield 169), none, none, some (.invokevirtual 179), none, none, some .return_, some (.aload_n 0), some .dup, some (.getfield 169), none, none, some (.iconst 1), some .iadd, some (.putfield 169), none, none, some (.aload_n 0), some (.getfield 169), none, none, some (.istore_n 1), some (.aload_n 0), some (.getfield 59), none, none, some (.aload_n 0), some (.getfield 182), none, none, some (.aload_n 0), some (.invokevirtual 185), none, none, some .iastore, some (.aload_n 0), some (.getfield 59), none, none, some (.aload_n 0), some (.getfield 182), none, none, some .iaload, some (.iconst 1), some (.bipush 20), none, some (.invokestatic 65), none, none, some (.ifCond .ne 8), none, none, some (.aload_n 0), some (.iload_n 1), some (.invokevirtual 179), none, none, some (.iconst 0), some (.istore_n 2), some (.iload_n 2), some (.bipush 20), none, some (.if_icmp .ge 24), none, none, some (.aload_n 0), some (.getfield 62), none, none, some (.bipush 20), none, some (.iload_n 2), some .imul, some (.aload_n 0), some (.getfield 182), none, none, some .iadd, some (.iconst 0), some .iastore, some (.iinc 2 1), none, none, some (.goto (-24)), none, none, some (.aload_n 0), some (.getfield 172), none, none, some (.bipush (-7)), none, some (.if_icmp .ne 148), none, none, some (.aload_n 0), some (.getfield 169), none, none, some (.aload_n 0), some (.getfield 166), none, none, some (.if_icmp .ge 137), none, none, some (.aload_n 0), some (.getfield 19), none, none, some (.aload_n 0), some (.getfield 169), none, none, some .iaload, some (.bipush 60), none, some (.if_icmp .eq 17), none, none, some (.aload_n 0), some (.getfield 19), none, none, some (.aload_n 0), some (.getfield 169), none, none, some .iaload, some (.bipush 33), none, some (.if_icmp .ne 109), none, none, some (.aload_n 0), some (.getfield 19), none, none, some (.aload_n 0), some (.getfield 169), none, none, some .iaload, some (.bipush 60), none, some (.if_icmp .ne 7), none, none, some (.iconst 1), some (.goto 4), none, none, some (.iconst 2), some (.istore_n 2), some (.aload_n 0), some .dup, some (.getfield 169), none, none, some (.iconst 1), some .iadd, some (.putfield 169), none, none, some (.aload_n 0), some (.getfield 169), none, none, some (.istore_n 1), some (.aload_n 0), some (.invokevirtual 185), none, none, some (.istore_n 3), some (.aload_n 0), some (.getfield 172), none, none, some (.bipush (-7)), none, some (.if_icmp .ne 33), none, none, some (.iload_n 3), some (.aload_n 0), some (.getfield 182), none, none, some (.if_icmp .ge 20), none, none, some (.aload_n 0), some (.getfield 62), none, none, some (.bipush 20), none, some (.iload_n 3), some .imul, some (.aload_n 0), some (.getfield 182), none, none, some .iadd, some .iaload, some (.ifCond .le 8), none, none, some (.aload_n 0), some (.iload_n 1), some (.invokevirtual 179), none, none, some (.aload_n 0), some (.getfield 172), none, none, some (.bipush (-7)), none, some (.if_icmp .ne 18), none, none, some (.aload_n 0), some (.getfield 62), none, none, some (.bipush 20), none, some (.iload_n 3), some .imul, some (.aload_n 0), some (.getfield 182), none, none, some .iadd, some (.iload_n 2), some .iastore, some (.goto (-151)), none, none, some (.aload_n 0), some (.getfield 172), none, none, some (.bipush (-7)), none, some (.if_icmp .ne 36), none, none, some (.aload_n 0), some (.getfield 169), none, none, some (.aload_n 0), some (.getfield 166), none, none, some (.if_icmp .ge 17), none, none, some (.aload_n 0), some (.getfield 19), none, none, some (.aload_n 0), some (.getfield 169), none, none, some .iaload, some (.bipush 59), none, some (.if_icmp .eq 11), none, none, some (.aload_n 0), some (.aload_n 0), some (.getfield 169), none, none, some (.invokevirtual 179), none, none, some (.aload_n 0), some .dup, some (.getfield 169), none, none, some (.iconst 1), some .iadd, some (.putfield 169), none, none, some (.aload_n 0), some .dup, some (.getfield 182), none, none, some (.iconst 1), some .iadd, some (.putfield 182), none, none, some .return_]
def M9_readItem : MT := (9, yX9_readItem, cX9_readItem, 4, none, 0, 3, 63, tb9_readItem)
def tb9_fault : List (Option Instr) := [some (.aload_n 0), some (.iconst 0), some (.putfield 169), none, none, some (.aload_n 0), some (.bipush (-7)), none, some (.putfield 172), none, none, some (.aload_n 0), some (.iconst 0), some (.putfield 182), none, none, some (.aload_n 0), some (.getfield 172), none, none, some (.bipush (-7)), none, some (.if_icmp .ne 21), none, none, some (.aload_n 0), some (.getfield 169), none, none, some (.aload_n 0), some (.getfield 166), none, none, some (.if_icmp .ge 10), none, none, some (.aload_n 0), some (.invokevirtual 188), none, none, some (.goto (-24)), none, none, some (.aload_n 0), some (.getfield 172), none, none, some .ireturn]
def M9_fault : MT := (9, yX9_fault, cX9_fault, 1, (some .int), 0, 4, 86, tb9_fault)
def tb9_load : List (Option Instr) := [some (.aload_n 0), some (.invokevirtual 191), none, none, some (.bipush (-7)), none, some (.if_icmp .eq 6), none, none, some (.bipush (-4)), none, some .ireturn, some (.aload_n 0), some (.getfield 7), none, none, some (.iconst 0), some (.iconst 0), some .iastore, some (.aload_n 0), some (.iconst 0), some (.putfield 106), none, none, some (.iconst 0), some (.istore_n 1), some (.iload_n 1), some (.aload_n 0), some (.getfield 182), none, none, some (.if_icmp .ge 68), none, none, some (.aload_n 0), some (.aload_n 0), some (.getfield 56), none, none, some (.iload_n 1), some .iaload, some (.aload_n 0), some (.getfield 59), none, none, some (.iload_n 1), some .iaload, some (.iconst 3), some (.iconst 0), some (.iconst 0), some (.invokevirtual 99), none, none, some (.istore_n 2), some (.iconst 0), some (.istore_n 3), some (.iload_n 3), some (.iload_n 1), some (.if_icmp .ge 35), none, none, some (.aload_n 0), some (.getfield 7), none, none, some (.sipush 245), none, none, some (.bipush 20), none, some (.iload_n 3), some .imul, some .iadd, some (.iload_n 2), some .iadd, some (.aload_n 0), some (.getfield 62), none, none, some (.bipush 20), none, some (.iload_n 3), some .imul, some (.iload_n 2), some .iadd, some .iaload, some .iastore, some (.iinc 3 1), none, none, some (.goto (-34)), none, none, some (.iinc 1 1), none, none, some (.goto (-70)), none, none, some (.aload_n 0), some (.invokevirtual 103), none, none, some (.aload_n 0), some (.getfield 7), none, none, some (.iconst 0), some .iaload, some .ireturn]
def M9_load : MT := (9, yX9_load, cX9_load, 4, (some .int), 0, 5, 106, tb9_load)
def tb9_save : List (Option Instr) := [some (.iload_n 1), some (.iconst 0), some (.iconst 1), some (.invokestatic 65), none, none, some (.ifCond .ne 6), none, none, some (.bipush (-2)), none, some .ireturn, some (.iconst 0), some (.istore_n 2), some (.iload_n 2), some (.sipush 645), none, none, some (.if_icmp .ge 27), none, none, some (.aload_n 0), some (.getfield 13), none, none, some (.sipush 645), none, none, some (.iload_n 1), some .imul, some (.iload_n 2), some .iadd, some (.aload_n 0), some (.getfield 7), none, none, some (.iload_n 2), some .iaload, some .iastore, some (.iinc 2 1), none, none, some (.goto (-28)), none, none, some (.aload_n 0), some .dup, some (.getfield 194), none, none, some (.iconst 1), some (.iload_n 1), some .ishl, some .ior, some (.putfield 194), none, none, some (.aload_n 0), some (.getfield 7), none, none, some (.iconst 0), some .iaload, some .ireturn]
def M9_save : MT := (9, yX9_save, cX9_save, 3, (some .int), 1, 1, 22, tb9_save)
def tb9_restore : List (Option Instr) := [some (.iload_n 1), some (.iconst 0), some (.iconst 1), some (.invokestatic 65), none, none, some (.ifCond .ne 6), none, none, some (.bipush (-2)), none, some .ireturn, some (.aload_n 0), some (.getfield 194), none, none, some (.iload_n 1), some .ishr, some (.iconst 1), some .iand, some (.ifCond .ne 6), none, none, some (.bipush (-4)), none, some .ireturn, some (.iconst 0), some (.istore_n 2), some (.iload_n 2), some (.sipush 645), none, none, some (.if_icmp .ge 27), none, none, some (.aload_n 0), some (.getfield 7), none, none, some (.iload_n 2), some (.aload_n 0), some (.getfield 13), none, none, some (.sipush 645), none, none, some (.iload_n 1), some .imul, some (.iload_n 2), some .iadd, some .iaload, some .iastore, some (.iinc 2 1), none, none, some (.goto (-28)), none, none, some (.aload_n 0), some (.iconst 0), some (.putfield 106), none, none, some (.aload_n 0), some (.getfield 7), none, none, some (.iconst 0), some .iaload, some .ireturn]
def M9_restore : MT := (9, yX9_restore, cX9_restore, 3, (some .int), 1, 1, 22, tb9_restore)
def tb6_bitCount_0f7a4 : List (Option Instr) := [some (.iload_n 0), some (.iload_n 0), some (.iconst 1), some .iushr, some (.ldc_w 265), none, none, some .iand, some .isub, some (.istore_n 0), some (.iload_n 0), some (.ldc_w 266), none, none, some .iand, some (.iload_n 0), some (.iconst 2), some .iushr, some (.ldc_w 266), none, none, some .iand, some .iadd, some (.istore_n 0), some (.iload_n 0), some (.iload_n 0), some (.iconst 4), some .iushr, some .iadd, some (.ldc_w 267), none, none, some .iand, some (.istore_n 0), some (.iload_n 0), some (.iload_n 0), some (.bipush 8), none, some .iushr, some .iadd, some (.istore_n 0), some (.iload_n 0), some (.iload_n 0), some (.bipush 16), none, some .iushr, some .iadd, some (.istore_n 0), some (.iload_n 0), some (.bipush 63), none, some .iand, some .ireturn]
def M6_bitCount_0f7a4 : MT := (99, yJ6_bitCount_0f7a4, cJ6_bitCount_0f7a4, 1, (some .int), 1, 0, 0, tb6_bitCount_0f7a4)
def tb9_max_7cf53 : List (Option Instr) := [some (.iload_n 0), some (.iload_n 1), some (.if_icmp .lt 7), none, none, some (.iload_n 0), some (.goto 4), none, none, some (.iload_n 1), some .ireturn]
def M9_max_7cf53 : MT := (99, yJ9_max_7cf53, cJ9_max_7cf53, 2, (some .int), 2, 0, 0, tb9_max_7cf53)
def tb_law : List (Option Instr) := [some (.new 7), none, none, some .dup, some (.invokespecial 9), none, none, some (.astore_n 1), some (.new 10), none, none, some .dup, some (.invokespecial 12), none, none, some (.astore_n 2), some (.iconst 0), some (.istore_n 3), some (.iload_n 3), some (.aload_n 0), some .arraylength, some (.bipush 6), none, some .isub, some (.if_icmp .gt 1211), none, none, some (.aload_n 0), some (.iload_n 3), some .iaload, some (.bipush 63), none, some .iand, some (.tableswitch 1196 0 39 #[175, 238, 281, 304, 337, 370, 393, 416, 429, 452, 475, 508, 551, 594, 617, 640, 663, 676, 689, 702, 725, 748, 781, 814, 837, 860, 883, 906, 939, 972, 1015, 1038, 1061, 1074, 1088, 1111, 1124, 1137, 1150, 1173]), none, none, none, none, none, none, none, none, none, none, none, none, none, none, none, none, none, none, none, none, none, none, none, none, none, none, none, none, none, none, none, none, none, none, none, none, none, none, none, none, none, none, none, none, none, none, none, none, none, none, none, none, none, none, none, none, none, none, none, none, none, none, none, none, none, none, none, none, none, none, none, none, none, none, none, none, none, none, none, none, none, none, none, none, none, none, none, none, none, none, none, none, none, none, none, none, none, none, none, none, none, none, none, none, none, none, none, none, none, none, none, none, none, none, none, none, none, none, none, none, none, none, none, none, none, none, none, none, none, none, none, none, none, none, none, none, none, none, none, none, none, none, none, none, none, none, none, none, none, none, none, none, none, none, none, none, none, none, none, none, none, none, none, none, none, none, none, none, none, none, none, none, none, none, some (.aload_n 1), some (.aload_n 0), some (.iload_n 3), some (.iconst 1), some .iadd, some .iaload, some (.aload_n 0), some (.iload_n 3), some (.iconst 2), some .iadd, some .iaload, some (.aload_n 0), some (.iload_n 3), some (.iconst 3), some .iadd, some .iaload, some (.aload_n 0), some (.iload_n 3), some (.iconst 4), some .iadd, some .iaload, some (.aload_n 0), some (.iload_n 3), some (.iconst 5), some .iadd, some .iaload, some (.invokevirtual 13), none, none, some (.aload_n 2), some (.aload_n 0), some (.iload_n 3), some (.iconst 1), some .iadd, some .iaload, some (.aload_n 0), some (.iload_n 3), some (.iconst 2), some .iadd, some .iaload, some (.aload_n 0), some (.iload_n 3), some (.iconst 3), some .iadd, some .iaload, some (.aload_n 0), some (.iload_n 3), some (.iconst 4), some .iadd, some .iaload, some (.aload_n 0), some (.iload_n 3), some (.iconst 5), some .iadd, some .iaload, some (.invokevirtual 17), none, none, some (.if_icmp .eq 963), none, none, some (.iconst 0), some .ireturn, some (.aload_n 1), some (.aload_n 0), some (.iload_n 3), some (.iconst 1), some .iadd, some .iaload, some (.aload_n 0), some (.iload_n 3), some (.iconst 2), some .iadd, some .iaload, some (.aload_n 0), some (.iload_n 3), some (.iconst 3), some .iadd, some .iaload, some (.invokevirtual 18), none, none, some (.aload_n 2), some (.aload_n 0), some (.iload_n 3), some (.iconst 1), some .iadd, some .iaload, some (.aload_n 0), some (.iload_n 3), some (.iconst 2), some .iadd, some .iaload, some (.aload_n 0), some (.iload_n 3), some (.iconst 3), some .iadd, some .iaload, some (.invokevirtual 22), none, none, some (.if_icmp .eq 920), none, none, some (.iconst 0), some .ireturn, some (.aload_n 1), some (.aload_n 0), some (.iload_n 3), some (.iconst 1), some .iadd, some .iaload, some (.invokevirtual 23), none, none, some (.aload_n 2), some (.aload_n 0), some (.iload_n 3), some (.iconst 1), some .iadd, some .iaload, some (.invokevirtual 27), none, none, some (.if_icmp .eq 897), none, none, some (.iconst 0), some .ireturn, some (.aload_n 1), some (.aload_n 0), some (.iload_n 3), some (.iconst 1), some .iadd, some .iaload, some (.aload_n 0), some (.iload_n 3), some (.iconst 2), some .iadd, some .iaload, some (.invokevirtual 28), none, none, some (.aload_n 2), some (.aload_n 0), some (.iload_n 3), some (.iconst 1), some .iadd, some .iaload, some (.aload_n 0), some (.iload_n 3), some (.iconst 2), some .iadd, some .iaload, some (.invokevirtual 32), none, none, some (.if_icmp .eq 864), none, none, some (.iconst 0), some .ireturn, some (.aload_n 1), some (.aload_n 0), some (.iload_n 3), some (.iconst 1), some .iadd, some .iaload, some (.aload_n 0), some (.iload_n 3), some (.iconst 2), some .iadd, some .iaload, some (.invokevirtual 33), none, none, some (.aload_n 2), some (.aload_n 0), some (.iload_n 3), some (.iconst 1), some .iadd, some .iaload, some (.aload_n 0), some (.iload_n 3), some (.iconst 2), some .iadd, some .iaload, some (.invokevirtual 36), none, none, some (.if_icmp .eq 831), none, none, some (.iconst 0), some .ireturn, some (.aload_n 1), some (.aload_n 0), some (.iload_n 3), some (.iconst 1), some .iadd, some .iaload, some (.invokevirtual 37), none, none, some (.aload_n 2), some (.aload_n 0), some (.iload_n 3), some (.iconst 1), some .iadd, some .iaload, some (.invokevirtual 40), none, none, some (.if_icmp .eq 808), none, none, some (.iconst 0), some .ireturn, some (.aload_n 1), some (.aload_n 0), some (.iload_n 3), some (.iconst 1), some .iadd, some .iaload, some (.invokevirtual 41), none, none, some (.aload_n 2), some (.aload_n 0), some (.iload_n 3), some (.iconst 1), some .iadd, some .iaload, some (.invokevirtual 44), none, none, some (.if_icmp .eq 785), none, none, some (.iconst 0), some .ireturn, some (.aload_n 1), some (.invokevirtual 45), none, none, some (.aload_n 2), some (.invokevirtual 49), none, none, some (.if_icmp .eq 772), none, none, some (.iconst 0), some .ireturn, some (.aload_n 1), some (.aload_n 0), some (.iload_n 3), some (.iconst 1), some .iadd, some .iaload, some (.invokevirtual 50), none, none, some (.aload_n 2), some (.aload_n 0), some (.iload_n 3), some (.iconst 1), some .iadd, some .iaload, some (.invokevirtual 53), none, none, some (.if_icmp .eq 749), none, none, some (.iconst 0), some .ireturn, some (.aload_n 1), some (.aload_n 0), some (.iload_n 3), some (.iconst 1), some .iadd, some .iaload, some (.invokevirtual 54), none, none, some (.aload_n 2), some (.aload_n 0), some (.iload_n 3), some (.iconst 1), some .iadd, some .iaload, some (.invokevirtual 57), none, none, some (.if_icmp .eq 726), none, none, some (.iconst 0), some .ireturn, some (.aload_n 1), some (.aload_n 0), some (.iload_n 3), some (.iconst 1), some .iadd, some .iaload, some (.aload_n 0), some (.iload_n 3), some (.iconst 2), some .iadd, some .iaload, some (.invokevirtual 58), none, none, some (.aload_n 2), some (.aload_n 0), some (.iload_n 3), some (.iconst 1), some .iadd, some .iaload, some (.aload_n 0), some (.iload_n 3), some (.iconst 2), some .iadd, some .iaload, some (.invokevirtual 61), none, none, some (.if_icmp .eq 693), none, none, some (.iconst 0), some .ireturn, some (.aload_n 1), some (.aload_n 0), some (.iload_n 3), some (.iconst 1), some .iadd, some .iaload, some (.aload_n 0), some (.iload_n 3), some (.iconst 2), some .iadd, some .iaload, some (.aload_n 0), some (.iload_n 3), some (.iconst 3), some .iadd, some .iaload, some (.invokevirtual 62), none, none, some (.aload_n 2), some (.aload_n 0), some (.iload_n 3), some (.iconst 1), some .iadd, some .iaload, some (.aload_n 0), some (.iload_n 3), some (.iconst 2), some .iadd, some .iaload, some (.aload_n 0), some (.iload_n 3), some (.iconst 3), some .iadd, some .iaload, some (.invokevirtual 65), none, none, some (.if_icmp .eq 650), none, none, some (.iconst 0), some .ireturn, some (.aload_n 1), some (.aload_n 0), some (.iload_n 3), some (.iconst 1), some .iadd, some .iaload, some (.aload_n 0), some (.iload_n 3), some (.iconst 2), some .iadd, some .iaload, some (.aload_n 0), some (.iload_n 3), some (.iconst 3), some .iadd, some .iaload, some (.invokevirtual 66), none, none, some (.aload_n 2), some (.aload_n 0), some (.iload_n 3), some (.iconst 1), some .iadd, some .iaload, some (.aload_n 0), some (.iload_n 3), some (.iconst 2), some .iadd, some .iaload, some (.aload_n 0), some (.iload_n 3), some (.iconst 3), some .iadd, some .iaload, some (.invokevirtual 69), none, none, some (.if_icmp .eq 607), none, none, some (.iconst 0), some .ireturn, some (.aload_n 1), some (.aload_n 0), some (.iload_n 3), some (.iconst 1), some .iadd, some .iaload, some (.invokevirtual 70), none, none, some (.aload_n 2), some (.aload_n 0), some (.iload_n 3), some (.iconst 1), some .iadd, some .iaload, some (.invokevirtual 73), none, none, some (.if_icmp .eq 584), none, none, some (.iconst 0), some .ireturn, some (.aload_n 1), some (.aload_n 0), some (.iload_n 3), some (.iconst 1), some .iadd, some .iaload, some (.invokevirtual 74), none, none, some (.aload_n 2), some (.aload_n 0), some (.iload_n 3), some (.iconst 1), some .iadd, some .iaload, some (.invokevirtual 77), none, none, some (.if_icmp .eq 561), none, none, some (.iconst 0), some .ireturn, some (.aload_n 1), some (.aload_n 0), some (.iload_n 3), some (.iconst 1), some .iadd, some .iaload, some (.invokevirtual 78), none, none, some (.aload_n 2), some (.aload_n 0), some (.iload_n 3), some (.iconst 1), some .iadd, some .iaload, some (.invokevirtual 81), none, none, some (.if_icmp .eq 538), none, none, some (.iconst 0), some .ireturn, some (.aload_n 1), some (.invokevirtual 82), none, none, some (.aload_n 2), some (.invokevirtual 85), none, none, some (.if_icmp .eq 525), none, none, some (.iconst 0), some .ireturn, some (.aload_n 1), some (.invokevirtual 86), none, none, some (.aload_n 2), some (.invokevirtual 89), none, none, some (.if_icmp .eq 512), none, none, some (.iconst 0), some .ireturn, some (.aload_n 1), some (.invokevirtual 90), none, none, some (.aload_n 2), some (.invokevirtual 93), none, none, some (.if_icmp .eq 499), none, none, some (.iconst 0), some .ireturn, some (.aload_n 1), some (.aload_n 0), some (.iload_n 3), some (.iconst 1), some .iadd, some .iaload, some (.invokevirtual 94), none, none, some (.aload_n 2), some (.aload_n 0), some (.iload_n 3), some (.iconst 1), some .iadd, some .iaload, some (.invokevirtual 97), none, none, some (.if_icmp .eq 476), none, none, some (.iconst 0), some .ireturn, some (.aload_n 1), some (.aload_n 0), some (.iload_n 3), some (.iconst 1), some .iadd, some .iaload, some (.invokevirtual 98), none, none, some (.aload_n 2), some (.aload_n 0), some (.iload_n 3), some (.iconst 1), some .iadd, some .iaload, some (.invokevirtual 101), none, none, some (.if_icmp .eq 453), none, none, some (.iconst 0), some .ireturn, some (.aload_n 1), some (.aload_n 0), some (.iload_n 3), some (.iconst 1), some .iadd, some .iaload, some (.aload_n 0), some (.iload_n 3), some (.iconst 2), some .iadd, some .iaload, some (.invokevirtual 102), none, none, some (.aload_n 2), some (.aload_n 0), some (.iload_n 3), some (.iconst 1), some .iadd, some .iaload, some (.aload_n 0), some (.iload_n 3), some (.iconst 2), some .iadd, some .iaload, some (.invokevirtual 105), none, none, some (.if_icmp .eq 420), none, none, some (.iconst 0), some .ireturn, some (.aload_n 1), some (.aload_n 0), some (.iload_n 3), some (.iconst 1), some .iadd, some .iaload, some (.aload_n 0), some (.iload_n 3), some (.iconst 2), some .iadd, some .iaload, some (.invokevirtual 106), none, none, some (.aload_n 2), some (.aload_n 0), some (.iload_n 3), some (.iconst 1), some .iadd, some .iaload, some (.aload_n 0), some (.iload_n 3), some (.iconst 2), some .iadd, some .iaload, some (.invokevirtual 109), none, none, some (.if_icmp .eq 387), none, none, some (.iconst 0), some .ireturn, some (.aload_n 1), some (.aload_n 0), some (.iload_n 3), some (.iconst 1), some .iadd, some .iaload, some (.invokevirtual 110), none, none, some (.aload_n 2), some (.aload_n 0), some (.iload_n 3), some (.iconst 1), some .iadd, some .iaload, some (.invokevirtual 113), none, none, some (.if_icmp .eq 364), none, none, some (.iconst 0), some .ireturn, some (.aload_n 1), some (.aload_n 0), some (.iload_n 3), some (.iconst 1), some .iadd, some .iaload, some (.invokevirtual 114), none, none, some (.aload_n 2), some (.aload_n 0), some (.iload_n 3), some (.iconst 1), some .iadd, some .iaload, some (.invokevirtual 117), none, none, some (.if_icmp .eq 341), none, none, some (.iconst 0), some .ireturn, some (.aload_n 1), some (.aload_n 0), some (.iload_n 3), some (.iconst 1), some .iadd, some .iaload, some (.invokevirtual 118), none, none, some (.aload_n 2), some (.aload_n 0), some (.iload_n 3), some (.iconst 1), some .iadd, some .iaload, some (.invokevirtual 121), none, none, some (.if_icmp .eq 318), none, none, some (.iconst 0), some .ireturn, some (.aload_n 1), some (.aload_n 0), some (.iload_n 3), some (.iconst 1), some .iadd, some .iaload, some (.invokevirtual 122), none, none, some (.aload_n 2), some (.aload_n 0), some (.iload_n 3), some (.iconst 1), some .iadd, some .iaload, some (.invokevirtual 125), none, none, some (.if_icmp .eq 295), none, none, some (.iconst 0), some .ireturn, some (.aload_n 1), some (.aload_n 0), some (.iload_n 3), some (.iconst 1), some .iadd, some .iaload, some (.aload_n 0), some (.iload_n 3), some (.iconst 2), some .iadd, some .iaload, some (.invokevirtual 126), none, none, some (.aload_n 2), some (.aload_n 0), some (.iload_n 3), some (.iconst 1), some .iadd, some .iaload, some (.aload_n 0), some (.iload_n 3), some (.iconst 2), some .iadd, some .iaload, some (.invokevirtual 129), none, none, some (.if_icmp .eq 262), none, none, some (.iconst 0), some .ireturn, some (.aload_n 1), some (.aload_n 0), some (.iload_n 3), some (.iconst 1), some .iadd, some .iaload, some (.aload_n 0), some (.iload_n 3), some (.iconst 2), some .iadd, some .iaload, some (.invokevirtual 130), none, none, some (.aload_n 2), some (.aload_n 0), some (.iload_n 3), some (.iconst 1), some .iadd, some .iaload, some (.aload_n 0), some (.iload_n 3), some (.iconst 2), some .iadd, some .iaload, some (.invokevirtual 133), none, none, some (.if_icmp .eq 229), none, none, some (.iconst 0), some .ireturn, some (.aload_n 1), some (.aload_n 0), some (.iload_n 3), some (.iconst 1), some .iadd, some .iaload, some (.aload_n 0), some (.iload_n 3), some (.iconst 2), some .iadd, some .iaload, some (.aload_n 0), some (.iload_n 3), some (.iconst 3), some .iadd, some .iaload, some (.invokevirtual 134), none, none, some (.aload_n 2), some (.aload_n 0), some (.iload_n 3), some (.iconst 1), some .iadd, some .iaload, some (.aload_n 0), some (.iload_n 3), some (.iconst 2), some .iadd, some .iaload, some (.aload_n 0), some (.iload_n 3), some (.iconst 3), some .iadd, some .iaload, some (.invokevirtual 137), none, none, some (.if_icmp .eq 186), none, none, some (.iconst 0), some .ireturn, some (.aload_n 1), some (.aload_n 0), some (.iload_n 3), some (.iconst 1), some .iadd, some .iaload, some (.invokevirtual 138), none, none, some (.aload_n 2), some (.aload_n 0), some (.iload_n 3), some (.iconst 1), some .iadd, some .iaload, some (.invokevirtual 141), none, none, some (.if_icmp .eq 163), none, none, some (.iconst 0), some .ireturn, some (.aload_n 1), some (.aload_n 0), some (.iload_n 3), some (.iconst 1), some .iadd, some .iaload, some (.invokevirtual 142), none, none, some (.aload_n 2), some (.aload_n 0), some (.iload_n 3), some (.iconst 1), some .iadd, some .iaload, some (.invokevirtual 145), none, none, some (.if_icmp .eq 140), none, none, some (.iconst 0), some .ireturn, some (.aload_n 1), some (.invokevirtual 146), none, none, some (.aload_n 2), some (.invokevirtual 149), none, none, some (.if_icmp .eq 127), none, none, some (.iconst 0), some .ireturn, some (.aload_n 1), some (.invokevirtual 150), none, none, some (.aload_n 2), some (.invokevirtual 154), none, none, some .lcmp, some (.ifCond .eq 113), none, none, some (.iconst 0), some .ireturn, some (.aload_n 1), some (.aload_n 0), some (.iload_n 3), some (.iconst 1), some .iadd, some .iaload, some (.invokevirtual 155), none, none, some (.aload_n 2), some (.aload_n 0), some (.iload_n 3), some (.iconst 1), some .iadd, some .iaload, some (.invokevirtual 158), none, none, some (.if_icmp .eq 90), none, none, some (.iconst 0), some .ireturn, some (.aload_n 1), some (.invokevirtual 159), none, none, some (.aload_n 2), some (.invokevirtual 162), none, none, some (.if_icmp .eq 77), none, none, some (.iconst 0), some .ireturn, some (.aload_n 1), some (.invokevirtual 163), none, none, some (.aload_n 2), some (.invokevirtual 166), none, none, some (.if_icmp .eq 64), none, none, some (.iconst 0), some .ireturn, some (.aload_n 1), some (.invokevirtual 167), none, none, some (.aload_n 2), some (.invokevirtual 170), none, none, some (.if_icmp .eq 51), none, none, some (.iconst 0), some .ireturn, some (.aload_n 1), some (.aload_n 0), some (.iload_n 3), some (.iconst 1), some .iadd, some .iaload, some (.invokevirtual 171), none, none, some (.aload_n 2), some (.aload_n 0), some (.iload_n 3), some (.iconst 1), some .iadd, some .iaload, some (.invokevirtual 174), none, none, some (.if_icmp .eq 28), none, none, some (.iconst 0), some .ireturn, some (.aload_n 1), some (.aload_n 0), some (.iload_n 3), some (.iconst 1), some .iadd, some .iaload, some (.invokevirtual 175), none, none, some (.aload_n 2), some (.aload_n 0), some (.iload_n 3), some (.iconst 1), some .iadd, some .iaload, some (.invokevirtual 178), none, none, some (.if_icmp .eq 5), none, none, some (.iconst 0), some .ireturn, some (.iinc 3 6), none, none, some (.goto (-1214)), none, none, some (.iconst 1), some .ireturn]
def M_law : MT := (99, x, cL_law, 4, (some .boolean), 1, 8, 292, tb_law)
end
section
theorem tok0_has : TbOk M0_has := TbOk_of (by decide +kernel)
theorem ok0_has : MOk M0_has := ⟨tok0_has, cn0.1, (tm2 55 rfl rfl), cn0.2, ci0, by decide +kernel⟩
theorem ow0_has : OwnOk M0_has := fun o h => by cases h; rfl
theorem sm0_has : Cond.static (M_nm M0_has) ∈ tW := (tm2 54 rfl rfl)
theorem tok1_init : TbOk M1_init := TbOk_of (by decide +kernel)
theorem ok1_init : MOk M1_init := ⟨tok1_init, cn1.1, (tm1 177 rfl rfl), cn1.2, ci1, by decide +kernel⟩
theorem ow1_init : OwnOk M1_init := fun o h => by cases h; rfl
theorem im1_init : Cond.instanceMethod (M_nm M1_init) ∈ tW := (tm1 176 rfl rfl)
theorem tok1_countPairs : TbOk M1_countPairs := TbOk_of (by decide +kernel)
theorem ok1_countPairs : MOk M1_countPairs := ⟨tok1_countPairs, cn1.1, (tm3 137 rfl rfl), cn1.2, ci1, by decide +kernel⟩
theorem ow1_countPairs : OwnOk M1_countPairs := fun o h => by cases h; rfl
theorem im1_countPairs : Cond.instanceMethod (M_nm M1_countPairs) ∈ tW := (tm3 135 rfl rfl)
theorem se1_countPairs : Cond.selects (M_nm M1_countPairs).cls (M_nm M1_countPairs) (M_nm M1_countPairs) ∈ tW := (tm3 136 rfl rfl)
theorem tok1_findNext : TbOk M1_findNext := TbOk_of (by decide +kernel)
theorem ok1_findNext : MOk M1_findNext := ⟨tok1_findNext, cn1.1, (tm3 142 rfl rfl), cn1.2, ci1, by decide +kernel⟩
theorem ow1_findNext : OwnOk M1_findNext := fun o h => by cases h; rfl
theorem im1_findNext : Cond.instanceMethod (M_nm M1_findNext) ∈ tW := (tm3 141 rfl rfl)
theorem se1_findNext : Cond.selects (M_nm M1_findNext).cls (M_nm M1_findNext) (M_nm M1_findNext) ∈ tW := pm1 12 rfl
theorem tok1_lowestOf : TbOk M1_lowestOf := TbOk_of (by decide +kernel)
theorem ok1_lowestOf : MOk M1_lowestOf := ⟨tok1_lowestOf, cn1.1, (tm3 145 rfl rfl), cn1.2, ci1, by decide +kernel⟩
theorem ow1_lowestOf : OwnOk M1_lowestOf := fun o h => by cases h; rfl
theorem sm1_lowestOf : Cond.static (M_nm M1_lowestOf) ∈ tW := (tm3 144 rfl rfl)
theorem tok1_pairAlong : TbOk M1_pairAlong := TbOk_of (by decide +kernel)
theorem ok1_pairAlong : MOk M1_pairAlong := ⟨tok1_pairAlong, cn1.1, (tm3 149 rfl rfl), cn1.2, ci1, by decide +kernel⟩
theorem ow1_pairAlong : OwnOk M1_pairAlong := fun o h => by cases h; rfl
theorem im1_pairAlong : Cond.instanceMethod (M_nm M1_pairAlong) ∈ tW := (tm3 148 rfl rfl)
theorem se1_pairAlong : Cond.selects (M_nm M1_pairAlong).cls (M_nm M1_pairAlong) (M_nm M1_pairAlong) ∈ tW := pm1 13 rfl
theorem tok2_init : TbOk M2_init := TbOk_of (by decide +kernel)
theorem ok2_init : MOk M2_init := ⟨tok2_init, cn2.1, (tm1 193 rfl rfl), cn2.2, ci2, by decide +kernel⟩
theorem ow2_init : OwnOk M2_init := fun o h => by cases h; rfl
theorem im2_init : Cond.instanceMethod (M_nm M2_init) ∈ tW := (tm1 192 rfl rfl)
theorem tok2_countFor : TbOk M2_countFor := TbOk_of (by decide +kernel)
theorem ok2_countFor : MOk M2_countFor := ⟨tok2_countFor, cn2.1, (tm3 158 rfl rfl), cn2.2, ci2, by decide +kernel⟩
theorem ow2_countFor : OwnOk M2_countFor := fun o h => by cases h; rfl
theorem im2_countFor : Cond.instanceMethod (M_nm M2_countFor) ∈ tW := (tm3 156 rfl rfl)
theorem se2_countFor : Cond.selects (M_nm M2_countFor).cls (M_nm M2_countFor) (M_nm M2_countFor) ∈ tW := (tm3 157 rfl rfl)
theorem tok2_listMembers : TbOk M2_listMembers := TbOk_of (by decide +kernel)
theorem ok2_listMembers : MOk M2_listMembers := ⟨tok2_listMembers, cn2.1, (tm3 162 rfl rfl), cn2.2, ci2, by decide +kernel⟩
theorem ow2_listMembers : OwnOk M2_listMembers := fun o h => by cases h; rfl
theorem im2_listMembers : Cond.instanceMethod (M_nm M2_listMembers) ∈ tW := (tm3 161 rfl rfl)
theorem se2_listMembers : Cond.selects (M_nm M2_listMembers).cls (M_nm M2_listMembers) (M_nm M2_listMembers) ∈ tW := pm1 14 rfl
theorem tok2_listNeeds : TbOk M2_listNeeds := TbOk_of (by decide +kernel)
theorem ok2_listNeeds : MOk M2_listNeeds := ⟨tok2_listNeeds, cn2.1, (tm3 167 rfl rfl), cn2.2, ci2, by decide +kernel⟩
theorem ow2_listNeeds : OwnOk M2_listNeeds := fun o h => by cases h; rfl
theorem im2_listNeeds : Cond.instanceMethod (M_nm M2_listNeeds) ∈ tW := (tm3 166 rfl rfl)
theorem se2_listNeeds : Cond.selects (M_nm M2_listNeeds).cls (M_nm M2_listNeeds) (M_nm M2_listNeeds) ∈ tW := pm1 15 rfl
theorem tok2_goOnFrom : TbOk M2_goOnFrom := TbOk_of (by decide +kernel)
theorem ok2_goOnFrom : MOk M2_goOnFrom := ⟨tok2_goOnFrom, cn2.1, (tm3 171 rfl rfl), cn2.2, ci2, by decide +kernel⟩
theorem ow2_goOnFrom : OwnOk M2_goOnFrom := fun o h => by cases h; rfl
theorem im2_goOnFrom : Cond.instanceMethod (M_nm M2_goOnFrom) ∈ tW := (tm3 170 rfl rfl)
theorem se2_goOnFrom : Cond.selects (M_nm M2_goOnFrom).cls (M_nm M2_goOnFrom) (M_nm M2_goOnFrom) ∈ tW := pm2 0 rfl
theorem tok3_init : TbOk M3_init := TbOk_of (by decide +kernel)
theorem ok3_init : MOk M3_init := ⟨tok3_init, cn3.1, (tm1 107 rfl rfl), cn3.2, ci3, by decide +kernel⟩
theorem ow3_init : OwnOk M3_init := fun o h => by cases h; rfl
theorem im3_init : Cond.instanceMethod (M_nm M3_init) ∈ tW := (tm1 106 rfl rfl)
theorem tok3_beforeSets : TbOk M3_beforeSets := TbOk_of (by decide +kernel)
theorem ok3_beforeSets : MOk M3_beforeSets := ⟨tok3_beforeSets, cn3.1, (tm2 48 rfl rfl), cn3.2, ci3, by decide +kernel⟩
theorem ow3_beforeSets : OwnOk M3_beforeSets := fun o h => by cases h; rfl
theorem im3_beforeSets : Cond.instanceMethod (M_nm M3_beforeSets) ∈ tW := (tm2 46 rfl rfl)
theorem se3_beforeSets : Cond.selects (M_nm M3_beforeSets).cls (M_nm M3_beforeSets) (M_nm M3_beforeSets) ∈ tW := (tm2 47 rfl rfl)
theorem tok3_hasDetour : TbOk M3_hasDetour := TbOk_of (by decide +kernel)
theorem ok3_hasDetour : MOk M3_hasDetour := ⟨tok3_hasDetour, cn3.1, (tm3 67 rfl rfl), cn3.2, ci3, by decide +kernel⟩
theorem ow3_hasDetour : OwnOk M3_hasDetour := fun o h => by cases h; rfl
theorem im3_hasDetour : Cond.instanceMethod (M_nm M3_hasDetour) ∈ tW := (tm3 65 rfl rfl)
theorem se3_hasDetour : Cond.selects (M_nm M3_hasDetour).cls (M_nm M3_hasDetour) (M_nm M3_hasDetour) ∈ tW := (tm3 66 rfl rfl)
theorem tok3_heights : TbOk M3_heights := TbOk_of (by decide +kernel)
theorem ok3_heights : MOk M3_heights := ⟨tok3_heights, cn3.1, (tm2 161 rfl rfl), cn3.2, ci3, by decide +kernel⟩
theorem ow3_heights : OwnOk M3_heights := fun o h => by cases h; rfl
theorem im3_heights : Cond.instanceMethod (M_nm M3_heights) ∈ tW := (tm2 159 rfl rfl)
theorem se3_heights : Cond.selects (M_nm M3_heights).cls (M_nm M3_heights) (M_nm M3_heights) ∈ tW := (tm2 160 rfl rfl)
theorem tok3_raisePredecessors : TbOk M3_raisePredecessors := TbOk_of (by decide +kernel)
theorem ok3_raisePredecessors : MOk M3_raisePredecessors := ⟨tok3_raisePredecessors, cn3.1, (tm2 169 rfl rfl), cn3.2, ci3, by decide +kernel⟩
theorem ow3_raisePredecessors : OwnOk M3_raisePredecessors := fun o h => by cases h; rfl
theorem im3_raisePredecessors : Cond.instanceMethod (M_nm M3_raisePredecessors) ∈ tW := (tm2 168 rfl rfl)
theorem se3_raisePredecessors : Cond.selects (M_nm M3_raisePredecessors).cls (M_nm M3_raisePredecessors) (M_nm M3_raisePredecessors) ∈ tW := pm1 3 rfl
theorem tok3_leads : TbOk M3_leads := TbOk_of (by decide +kernel)
theorem ok3_leads : MOk M3_leads := ⟨tok3_leads, cn3.1, (tm3 123 rfl rfl), cn3.2, ci3, by decide +kernel⟩
theorem ow3_leads : OwnOk M3_leads := fun o h => by cases h; rfl
theorem im3_leads : Cond.instanceMethod (M_nm M3_leads) ∈ tW := (tm3 121 rfl rfl)
theorem se3_leads : Cond.selects (M_nm M3_leads).cls (M_nm M3_leads) (M_nm M3_leads) ∈ tW := (tm3 122 rfl rfl)
theorem tok3_raiseLead : TbOk M3_raiseLead := TbOk_of (by decide +kernel)
theorem ok3_raiseLead : MOk M3_raiseLead := ⟨tok3_raiseLead, cn3.1, (tm3 127 rfl rfl), cn3.2, ci3, by decide +kernel⟩
theorem ow3_raiseLead : OwnOk M3_raiseLead := fun o h => by cases h; rfl
theorem im3_raiseLead : Cond.instanceMethod (M_nm M3_raiseLead) ∈ tW := (tm3 126 rfl rfl)
theorem se3_raiseLead : Cond.selects (M_nm M3_raiseLead).cls (M_nm M3_raiseLead) (M_nm M3_raiseLead) ∈ tW := pm1 11 rfl
theorem tok4_init : TbOk M4_init := TbOk_of (by decide +kernel)
theorem ok4_init : MOk M4_init := ⟨tok4_init, cn4.1, (tm1 144 rfl rfl), cn4.2, ci4, by decide +kernel⟩
theorem ow4_init : OwnOk M4_init := fun o h => by cases h; rfl
theorem im4_init : Cond.instanceMethod (M_nm M4_init) ∈ tW := (tm1 143 rfl rfl)
theorem tok4_make : TbOk M4_make := TbOk_of (by decide +kernel)
theorem ok4_make : MOk M4_make := ⟨tok4_make, cn4.1, (tm3 76 rfl rfl), cn4.2, ci4, by decide +kernel⟩
theorem ow4_make : OwnOk M4_make := fun o h => by cases h; rfl
theorem im4_make : Cond.instanceMethod (M_nm M4_make) ∈ tW := (tm3 74 rfl rfl)
theorem se4_make : Cond.selects (M_nm M4_make).cls (M_nm M4_make) (M_nm M4_make) ∈ tW := (tm3 75 rfl rfl)
theorem tok4_endCompleted : TbOk M4_endCompleted := TbOk_of (by decide +kernel)
theorem ok4_endCompleted : MOk M4_endCompleted := ⟨tok4_endCompleted, cn4.1, (tm3 84 rfl rfl), cn4.2, ci4, by decide +kernel⟩
theorem ow4_endCompleted : OwnOk M4_endCompleted := fun o h => by cases h; rfl
theorem im4_endCompleted : Cond.instanceMethod (M_nm M4_endCompleted) ∈ tW := (tm3 83 rfl rfl)
theorem se4_endCompleted : Cond.selects (M_nm M4_endCompleted).cls (M_nm M4_endCompleted) (M_nm M4_endCompleted) ∈ tW := pm1 6 rfl
theorem tok4_findStartable : TbOk M4_findStartable := TbOk_of (by decide +kernel)
theorem ok4_findStartable : MOk M4_findStartable := ⟨tok4_findStartable, cn4.1, (tm3 89 rfl rfl), cn4.2, ci4, by decide +kernel⟩
theorem ow4_findStartable : OwnOk M4_findStartable := fun o h => by cases h; rfl
theorem im4_findStartable : Cond.instanceMethod (M_nm M4_findStartable) ∈ tW := (tm3 88 rfl rfl)
theorem se4_findStartable : Cond.selects (M_nm M4_findStartable).cls (M_nm M4_findStartable) (M_nm M4_findStartable) ∈ tW := pm1 7 rfl
theorem tok4_startItems : TbOk M4_startItems := TbOk_of (by decide +kernel)
theorem ok4_startItems : MOk M4_startItems := ⟨tok4_startItems, cn4.1, (tm3 94 rfl rfl), cn4.2, ci4, by decide +kernel⟩
theorem ow4_startItems : OwnOk M4_startItems := fun o h => by cases h; rfl
theorem im4_startItems : Cond.instanceMethod (M_nm M4_startItems) ∈ tW := (tm3 93 rfl rfl)
theorem se4_startItems : Cond.selects (M_nm M4_startItems).cls (M_nm M4_startItems) (M_nm M4_startItems) ∈ tW := pm1 8 rfl
theorem tok4_bestStartable : TbOk M4_bestStartable := TbOk_of (by decide +kernel)
theorem ok4_bestStartable : MOk M4_bestStartable := ⟨tok4_bestStartable, cn4.1, (tm3 98 rfl rfl), cn4.2, ci4, by decide +kernel⟩
theorem ow4_bestStartable : OwnOk M4_bestStartable := fun o h => by cases h; rfl
theorem im4_bestStartable : Cond.instanceMethod (M_nm M4_bestStartable) ∈ tW := (tm3 97 rfl rfl)
theorem se4_bestStartable : Cond.selects (M_nm M4_bestStartable).cls (M_nm M4_bestStartable) (M_nm M4_bestStartable) ∈ tW := pm1 9 rfl
theorem tok4_nextEnd : TbOk M4_nextEnd := TbOk_of (by decide +kernel)
theorem ok4_nextEnd : MOk M4_nextEnd := ⟨tok4_nextEnd, cn4.1, (tm3 104 rfl rfl), cn4.2, ci4, by decide +kernel⟩
theorem ow4_nextEnd : OwnOk M4_nextEnd := fun o h => by cases h; rfl
theorem im4_nextEnd : Cond.instanceMethod (M_nm M4_nextEnd) ∈ tW := (tm3 103 rfl rfl)
theorem se4_nextEnd : Cond.selects (M_nm M4_nextEnd).cls (M_nm M4_nextEnd) (M_nm M4_nextEnd) ∈ tW := pm1 10 rfl
theorem tok5_init : TbOk M5_init := TbOk_of (by decide +kernel)
theorem ok5_init : MOk M5_init := ⟨tok5_init, cn5.1, (tm1 26 rfl rfl), cn5.2, ci5, by decide +kernel⟩
theorem ow5_init : OwnOk M5_init := fun o h => by cases h; rfl
theorem im5_init : Cond.instanceMethod (M_nm M5_init) ∈ tW := (tm1 25 rfl rfl)
theorem tok5_holds : TbOk M5_holds := TbOk_of (by decide +kernel)
theorem ok5_holds : MOk M5_holds := ⟨tok5_holds, cn5.1, (tm2 44 rfl rfl), cn5.2, ci5, by decide +kernel⟩
theorem ow5_holds : OwnOk M5_holds := fun o h => by cases h; rfl
theorem im5_holds : Cond.instanceMethod (M_nm M5_holds) ∈ tW := (tm2 42 rfl rfl)
theorem se5_holds : Cond.selects (M_nm M5_holds).cls (M_nm M5_holds) (M_nm M5_holds) ∈ tW := (tm2 43 rfl rfl)
theorem tok5_isFull : TbOk M5_isFull := TbOk_of (by decide +kernel)
theorem ok5_isFull : MOk M5_isFull := ⟨tok5_isFull, cn5.1, (tm2 24 rfl rfl), cn5.2, ci5, by decide +kernel⟩
theorem ow5_isFull : OwnOk M5_isFull := fun o h => by cases h; rfl
theorem im5_isFull : Cond.instanceMethod (M_nm M5_isFull) ∈ tW := (tm2 22 rfl rfl)
theorem se5_isFull : Cond.selects (M_nm M5_isFull).cls (M_nm M5_isFull) (M_nm M5_isFull) ∈ tW := (tm2 23 rfl rfl)
theorem tok5_hasEnded : TbOk M5_hasEnded := TbOk_of (by decide +kernel)
theorem ok5_hasEnded : MOk M5_hasEnded := ⟨tok5_hasEnded, cn5.1, (tm2 107 rfl rfl), cn5.2, ci5, by decide +kernel⟩
theorem ow5_hasEnded : OwnOk M5_hasEnded := fun o h => by cases h; rfl
theorem im5_hasEnded : Cond.instanceMethod (M_nm M5_hasEnded) ∈ tW := (tm2 105 rfl rfl)
theorem se5_hasEnded : Cond.selects (M_nm M5_hasEnded).cls (M_nm M5_hasEnded) (M_nm M5_hasEnded) ∈ tW := (tm2 106 rfl rfl)
theorem tok5_hasFailed : TbOk M5_hasFailed := TbOk_of (by decide +kernel)
theorem ok5_hasFailed : MOk M5_hasFailed := ⟨tok5_hasFailed, cn5.1, (tm2 102 rfl rfl), cn5.2, ci5, by decide +kernel⟩
theorem ow5_hasFailed : OwnOk M5_hasFailed := fun o h => by cases h; rfl
theorem im5_hasFailed : Cond.instanceMethod (M_nm M5_hasFailed) ∈ tW := (tm2 100 rfl rfl)
theorem se5_hasFailed : Cond.selects (M_nm M5_hasFailed).cls (M_nm M5_hasFailed) (M_nm M5_hasFailed) ∈ tW := (tm2 101 rfl rfl)
theorem tok5_followsEdges : TbOk M5_followsEdges := TbOk_of (by decide +kernel)
theorem ok5_followsEdges : MOk M5_followsEdges := ⟨tok5_followsEdges, cn5.1, (tm2 76 rfl rfl), cn5.2, ci5, by decide +kernel⟩
theorem ow5_followsEdges : OwnOk M5_followsEdges := fun o h => by cases h; rfl
theorem im5_followsEdges : Cond.instanceMethod (M_nm M5_followsEdges) ∈ tW := (tm2 74 rfl rfl)
theorem se5_followsEdges : Cond.selects (M_nm M5_followsEdges).cls (M_nm M5_followsEdges) (M_nm M5_followsEdges) ∈ tW := (tm2 75 rfl rfl)
theorem tok5_isValid : TbOk M5_isValid := TbOk_of (by decide +kernel)
theorem ok5_isValid : MOk M5_isValid := ⟨tok5_isValid, cn5.1, (tm2 205 rfl rfl), cn5.2, ci5, by decide +kernel⟩
theorem ow5_isValid : OwnOk M5_isValid := fun o h => by cases h; rfl
theorem im5_isValid : Cond.instanceMethod (M_nm M5_isValid) ∈ tW := (tm2 203 rfl rfl)
theorem se5_isValid : Cond.selects (M_nm M5_isValid).cls (M_nm M5_isValid) (M_nm M5_isValid) ∈ tW := (tm2 204 rfl rfl)
theorem tok5_workLeft : TbOk M5_workLeft := TbOk_of (by decide +kernel)
theorem ok5_workLeft : MOk M5_workLeft := ⟨tok5_workLeft, cn5.1, (tm2 165 rfl rfl), cn5.2, ci5, by decide +kernel⟩
theorem ow5_workLeft : OwnOk M5_workLeft := fun o h => by cases h; rfl
theorem im5_workLeft : Cond.instanceMethod (M_nm M5_workLeft) ∈ tW := (tm2 163 rfl rfl)
theorem se5_workLeft : Cond.selects (M_nm M5_workLeft).cls (M_nm M5_workLeft) (M_nm M5_workLeft) ∈ tW := (tm2 164 rfl rfl)
theorem tok5_setIn : TbOk M5_setIn := TbOk_of (by decide +kernel)
theorem ok5_setIn : MOk M5_setIn := ⟨tok5_setIn, cn5.1, (tm2 213 rfl rfl), cn5.2, ci5, by decide +kernel⟩
theorem ow5_setIn : OwnOk M5_setIn := fun o h => by cases h; rfl
theorem im5_setIn : Cond.instanceMethod (M_nm M5_setIn) ∈ tW := (tm2 211 rfl rfl)
theorem se5_setIn : Cond.selects (M_nm M5_setIn).cls (M_nm M5_setIn) (M_nm M5_setIn) ∈ tW := (tm2 212 rfl rfl)
theorem tok5_unendedSet : TbOk M5_unendedSet := TbOk_of (by decide +kernel)
theorem ok5_unendedSet : MOk M5_unendedSet := ⟨tok5_unendedSet, cn5.1, (tm3 80 rfl rfl), cn5.2, ci5, by decide +kernel⟩
theorem ow5_unendedSet : OwnOk M5_unendedSet := fun o h => by cases h; rfl
theorem im5_unendedSet : Cond.instanceMethod (M_nm M5_unendedSet) ∈ tW := (tm3 78 rfl rfl)
theorem se5_unendedSet : Cond.selects (M_nm M5_unendedSet).cls (M_nm M5_unendedSet) (M_nm M5_unendedSet) ∈ tW := (tm3 79 rfl rfl)
theorem tok5_append : TbOk M5_append := TbOk_of (by decide +kernel)
theorem ok5_append : MOk M5_append := ⟨tok5_append, cn5.1, (tm2 28 rfl rfl), cn5.2, ci5, by decide +kernel⟩
theorem ow5_append : OwnOk M5_append := fun o h => by cases h; rfl
theorem im5_append : Cond.instanceMethod (M_nm M5_append) ∈ tW := (tm2 26 rfl rfl)
theorem se5_append : Cond.selects (M_nm M5_append).cls (M_nm M5_append) (M_nm M5_append) ∈ tW := (tm2 27 rfl rfl)
theorem tok5_startAnew : TbOk M5_startAnew := TbOk_of (by decide +kernel)
theorem ok5_startAnew : MOk M5_startAnew := ⟨tok5_startAnew, cn5.1, (tm2 32 rfl rfl), cn5.2, ci5, by decide +kernel⟩
theorem ow5_startAnew : OwnOk M5_startAnew := fun o h => by cases h; rfl
theorem im5_startAnew : Cond.instanceMethod (M_nm M5_startAnew) ∈ tW := (tm2 30 rfl rfl)
theorem se5_startAnew : Cond.selects (M_nm M5_startAnew).cls (M_nm M5_startAnew) (M_nm M5_startAnew) ∈ tW := (tm2 31 rfl rfl)
theorem tok5_makeReady : TbOk M5_makeReady := TbOk_of (by decide +kernel)
theorem ok5_makeReady : MOk M5_makeReady := ⟨tok5_makeReady, cn5.1, (tm2 36 rfl rfl), cn5.2, ci5, by decide +kernel⟩
theorem ow5_makeReady : OwnOk M5_makeReady := fun o h => by cases h; rfl
theorem im5_makeReady : Cond.instanceMethod (M_nm M5_makeReady) ∈ tW := (tm2 34 rfl rfl)
theorem se5_makeReady : Cond.selects (M_nm M5_makeReady).cls (M_nm M5_makeReady) (M_nm M5_makeReady) ∈ tW := (tm2 35 rfl rfl)
theorem tok5_removeItems : TbOk M5_removeItems := TbOk_of (by decide +kernel)
theorem ok5_removeItems : MOk M5_removeItems := ⟨tok5_removeItems, cn5.1, (tm2 149 rfl rfl), cn5.2, ci5, by decide +kernel⟩
theorem ow5_removeItems : OwnOk M5_removeItems := fun o h => by cases h; rfl
theorem im5_removeItems : Cond.instanceMethod (M_nm M5_removeItems) ∈ tW := (tm2 147 rfl rfl)
theorem se5_removeItems : Cond.selects (M_nm M5_removeItems).cls (M_nm M5_removeItems) (M_nm M5_removeItems) ∈ tW := (tm2 148 rfl rfl)
theorem tok5_predecessors : TbOk M5_predecessors := TbOk_of (by decide +kernel)
theorem ok5_predecessors : MOk M5_predecessors := ⟨tok5_predecessors, cn5.1, (tm2 52 rfl rfl), cn5.2, ci5, by decide +kernel⟩
theorem ow5_predecessors : OwnOk M5_predecessors := fun o h => by cases h; rfl
theorem im5_predecessors : Cond.instanceMethod (M_nm M5_predecessors) ∈ tW := (tm2 50 rfl rfl)
theorem se5_predecessors : Cond.selects (M_nm M5_predecessors).cls (M_nm M5_predecessors) (M_nm M5_predecessors) ∈ tW := (tm2 51 rfl rfl)
theorem tok5_edgeCount : TbOk M5_edgeCount := TbOk_of (by decide +kernel)
theorem ok5_edgeCount : MOk M5_edgeCount := ⟨tok5_edgeCount, cn5.1, (tm2 112 rfl rfl), cn5.2, ci5, by decide +kernel⟩
theorem ow5_edgeCount : OwnOk M5_edgeCount := fun o h => by cases h; rfl
theorem im5_edgeCount : Cond.instanceMethod (M_nm M5_edgeCount) ∈ tW := (tm2 110 rfl rfl)
theorem se5_edgeCount : Cond.selects (M_nm M5_edgeCount).cls (M_nm M5_edgeCount) (M_nm M5_edgeCount) ∈ tW := (tm2 111 rfl rfl)
theorem tok5_edgeKind : TbOk M5_edgeKind := TbOk_of (by decide +kernel)
theorem ok5_edgeKind : MOk M5_edgeKind := ⟨tok5_edgeKind, cn5.1, (tm3 38 rfl rfl), cn5.2, ci5, by decide +kernel⟩
theorem ow5_edgeKind : OwnOk M5_edgeKind := fun o h => by cases h; rfl
theorem im5_edgeKind : Cond.instanceMethod (M_nm M5_edgeKind) ∈ tW := (tm3 36 rfl rfl)
theorem se5_edgeKind : Cond.selects (M_nm M5_edgeKind).cls (M_nm M5_edgeKind) (M_nm M5_edgeKind) ∈ tW := (tm3 37 rfl rfl)
theorem tok5_putEdge : TbOk M5_putEdge := TbOk_of (by decide +kernel)
theorem ok5_putEdge : MOk M5_putEdge := ⟨tok5_putEdge, cn5.1, (tm2 80 rfl rfl), cn5.2, ci5, by decide +kernel⟩
theorem ow5_putEdge : OwnOk M5_putEdge := fun o h => by cases h; rfl
theorem im5_putEdge : Cond.instanceMethod (M_nm M5_putEdge) ∈ tW := (tm2 78 rfl rfl)
theorem se5_putEdge : Cond.selects (M_nm M5_putEdge).cls (M_nm M5_putEdge) (M_nm M5_putEdge) ∈ tW := (tm2 79 rfl rfl)
theorem tok5_dropEdge : TbOk M5_dropEdge := TbOk_of (by decide +kernel)
theorem ok5_dropEdge : MOk M5_dropEdge := ⟨tok5_dropEdge, cn5.1, (tm2 84 rfl rfl), cn5.2, ci5, by decide +kernel⟩
theorem ow5_dropEdge : OwnOk M5_dropEdge := fun o h => by cases h; rfl
theorem im5_dropEdge : Cond.instanceMethod (M_nm M5_dropEdge) ∈ tW := (tm2 82 rfl rfl)
theorem se5_dropEdge : Cond.selects (M_nm M5_dropEdge).cls (M_nm M5_dropEdge) (M_nm M5_dropEdge) ∈ tW := (tm2 83 rfl rfl)
theorem tok5_settle : TbOk M5_settle := TbOk_of (by decide +kernel)
theorem ok5_settle : MOk M5_settle := ⟨tok5_settle, cn5.1, (tm2 88 rfl rfl), cn5.2, ci5, by decide +kernel⟩
theorem ow5_settle : OwnOk M5_settle := fun o h => by cases h; rfl
theorem im5_settle : Cond.instanceMethod (M_nm M5_settle) ∈ tW := (tm2 86 rfl rfl)
theorem se5_settle : Cond.selects (M_nm M5_settle).cls (M_nm M5_settle) (M_nm M5_settle) ∈ tW := (tm2 87 rfl rfl)
theorem tok5_settleItem : TbOk M5_settleItem := TbOk_of (by decide +kernel)
theorem ok5_settleItem : MOk M5_settleItem := ⟨tok5_settleItem, cn5.1, (tm2 92 rfl rfl), cn5.2, ci5, by decide +kernel⟩
theorem ow5_settleItem : OwnOk M5_settleItem := fun o h => by cases h; rfl
theorem im5_settleItem : Cond.instanceMethod (M_nm M5_settleItem) ∈ tW := (tm2 91 rfl rfl)
theorem se5_settleItem : Cond.selects (M_nm M5_settleItem).cls (M_nm M5_settleItem) (M_nm M5_settleItem) ∈ tW := pm1 1 rfl
theorem tok5_stateByEdges : TbOk M5_stateByEdges := TbOk_of (by decide +kernel)
theorem ok5_stateByEdges : MOk M5_stateByEdges := ⟨tok5_stateByEdges, cn5.1, (tm2 97 rfl rfl), cn5.2, ci5, by decide +kernel⟩
theorem ow5_stateByEdges : OwnOk M5_stateByEdges := fun o h => by cases h; rfl
theorem im5_stateByEdges : Cond.instanceMethod (M_nm M5_stateByEdges) ∈ tW := (tm2 96 rfl rfl)
theorem se5_stateByEdges : Cond.selects (M_nm M5_stateByEdges).cls (M_nm M5_stateByEdges) (M_nm M5_stateByEdges) ∈ tW := pm1 2 rfl
theorem tok5_endAs : TbOk M5_endAs := TbOk_of (by decide +kernel)
theorem ok5_endAs : MOk M5_endAs := ⟨tok5_endAs, cn5.1, (tm2 209 rfl rfl), cn5.2, ci5, by decide +kernel⟩
theorem ow5_endAs : OwnOk M5_endAs := fun o h => by cases h; rfl
theorem im5_endAs : Cond.instanceMethod (M_nm M5_endAs) ∈ tW := (tm2 207 rfl rfl)
theorem se5_endAs : Cond.selects (M_nm M5_endAs).cls (M_nm M5_endAs) (M_nm M5_endAs) ∈ tW := (tm2 208 rfl rfl)
theorem tok5_comeBack : TbOk M5_comeBack := TbOk_of (by decide +kernel)
theorem ok5_comeBack : MOk M5_comeBack := ⟨tok5_comeBack, cn5.1, (tm2 222 rfl rfl), cn5.2, ci5, by decide +kernel⟩
theorem ow5_comeBack : OwnOk M5_comeBack := fun o h => by cases h; rfl
theorem im5_comeBack : Cond.instanceMethod (M_nm M5_comeBack) ∈ tW := (tm2 220 rfl rfl)
theorem se5_comeBack : Cond.selects (M_nm M5_comeBack).cls (M_nm M5_comeBack) (M_nm M5_comeBack) ∈ tW := (tm2 221 rfl rfl)
theorem tok5_passTick : TbOk M5_passTick := TbOk_of (by decide +kernel)
theorem ok5_passTick : MOk M5_passTick := ⟨tok5_passTick, cn5.1, (tm3 4 rfl rfl), cn5.2, ci5, by decide +kernel⟩
theorem ow5_passTick : OwnOk M5_passTick := fun o h => by cases h; rfl
theorem im5_passTick : Cond.instanceMethod (M_nm M5_passTick) ∈ tW := (tm3 2 rfl rfl)
theorem se5_passTick : Cond.selects (M_nm M5_passTick).cls (M_nm M5_passTick) (M_nm M5_passTick) ∈ tW := (tm3 3 rfl rfl)
theorem tok5_rankFor : TbOk M5_rankFor := TbOk_of (by decide +kernel)
theorem ok5_rankFor : MOk M5_rankFor := ⟨tok5_rankFor, cn5.1, (tm2 189 rfl rfl), cn5.2, ci5, by decide +kernel⟩
theorem ow5_rankFor : OwnOk M5_rankFor := fun o h => by cases h; rfl
theorem im5_rankFor : Cond.instanceMethod (M_nm M5_rankFor) ∈ tW := (tm2 187 rfl rfl)
theorem se5_rankFor : Cond.selects (M_nm M5_rankFor).cls (M_nm M5_rankFor) (M_nm M5_rankFor) ∈ tW := (tm2 188 rfl rfl)
theorem tok5_rankNow : TbOk M5_rankNow := TbOk_of (by decide +kernel)
theorem ok5_rankNow : MOk M5_rankNow := ⟨tok5_rankNow, cn5.1, (tm2 185 rfl rfl), cn5.2, ci5, by decide +kernel⟩
theorem ow5_rankNow : OwnOk M5_rankNow := fun o h => by cases h; rfl
theorem im5_rankNow : Cond.instanceMethod (M_nm M5_rankNow) ∈ tW := (tm2 183 rfl rfl)
theorem se5_rankNow : Cond.selects (M_nm M5_rankNow).cls (M_nm M5_rankNow) (M_nm M5_rankNow) ∈ tW := (tm2 184 rfl rfl)
theorem tok5_nextToReceive : TbOk M5_nextToReceive := TbOk_of (by decide +kernel)
theorem ok5_nextToReceive : MOk M5_nextToReceive := ⟨tok5_nextToReceive, cn5.1, (tm2 173 rfl rfl), cn5.2, ci5, by decide +kernel⟩
theorem ow5_nextToReceive : OwnOk M5_nextToReceive := fun o h => by cases h; rfl
theorem im5_nextToReceive : Cond.instanceMethod (M_nm M5_nextToReceive) ∈ tW := (tm2 171 rfl rfl)
theorem se5_nextToReceive : Cond.selects (M_nm M5_nextToReceive).cls (M_nm M5_nextToReceive) (M_nm M5_nextToReceive) ∈ tW := (tm2 172 rfl rfl)
theorem tok5_canBeReceived : TbOk M5_canBeReceived := TbOk_of (by decide +kernel)
theorem ok5_canBeReceived : MOk M5_canBeReceived := ⟨tok5_canBeReceived, cn5.1, (tm2 177 rfl rfl), cn5.2, ci5, by decide +kernel⟩
theorem ow5_canBeReceived : OwnOk M5_canBeReceived := fun o h => by cases h; rfl
theorem im5_canBeReceived : Cond.instanceMethod (M_nm M5_canBeReceived) ∈ tW := (tm2 176 rfl rfl)
theorem se5_canBeReceived : Cond.selects (M_nm M5_canBeReceived).cls (M_nm M5_canBeReceived) (M_nm M5_canBeReceived) ∈ tW := pm1 4 rfl
theorem tok5_inFlightOf : TbOk M5_inFlightOf := TbOk_of (by decide +kernel)
theorem ok5_inFlightOf : MOk M5_inFlightOf := ⟨tok5_inFlightOf, cn5.1, (tm2 181 rfl rfl), cn5.2, ci5, by decide +kernel⟩
theorem ow5_inFlightOf : OwnOk M5_inFlightOf := fun o h => by cases h; rfl
theorem im5_inFlightOf : Cond.instanceMethod (M_nm M5_inFlightOf) ∈ tW := (tm2 180 rfl rfl)
theorem se5_inFlightOf : Cond.selects (M_nm M5_inFlightOf).cls (M_nm M5_inFlightOf) (M_nm M5_inFlightOf) ∈ tW := pm1 5 rfl
theorem tok5_takeOut : TbOk M5_takeOut := TbOk_of (by decide +kernel)
theorem ok5_takeOut : MOk M5_takeOut := ⟨tok5_takeOut, cn5.1, (tm2 193 rfl rfl), cn5.2, ci5, by decide +kernel⟩
theorem ow5_takeOut : OwnOk M5_takeOut := fun o h => by cases h; rfl
theorem im5_takeOut : Cond.instanceMethod (M_nm M5_takeOut) ∈ tW := (tm2 191 rfl rfl)
theorem se5_takeOut : Cond.selects (M_nm M5_takeOut).cls (M_nm M5_takeOut) (M_nm M5_takeOut) ∈ tW := (tm2 192 rfl rfl)
theorem tok5_doomedBy : TbOk M5_doomedBy := TbOk_of (by decide +kernel)
theorem ok5_doomedBy : MOk M5_doomedBy := ⟨tok5_doomedBy, cn5.1, (tm3 59 rfl rfl), cn5.2, ci5, by decide +kernel⟩
theorem ow5_doomedBy : OwnOk M5_doomedBy := fun o h => by cases h; rfl
theorem im5_doomedBy : Cond.instanceMethod (M_nm M5_doomedBy) ∈ tW := (tm3 57 rfl rfl)
theorem se5_doomedBy : Cond.selects (M_nm M5_doomedBy).cls (M_nm M5_doomedBy) (M_nm M5_doomedBy) ∈ tW := (tm3 58 rfl rfl)
theorem tok5_copyAll : TbOk M5_copyAll := TbOk_of (by decide +kernel)
theorem ok5_copyAll : MOk M5_copyAll := ⟨tok5_copyAll, cn5.1, (tm3 239 rfl rfl), cn5.2, ci5, by decide +kernel⟩
theorem ow5_copyAll : OwnOk M5_copyAll := fun o h => by cases h; rfl
theorem im5_copyAll : Cond.instanceMethod (M_nm M5_copyAll) ∈ tW := (tm3 237 rfl rfl)
theorem se5_copyAll : Cond.selects (M_nm M5_copyAll).cls (M_nm M5_copyAll) (M_nm M5_copyAll) ∈ tW := (tm3 238 rfl rfl)
theorem tok5_copyItems : TbOk M5_copyItems := TbOk_of (by decide +kernel)
theorem ok5_copyItems : MOk M5_copyItems := ⟨tok5_copyItems, cn5.1, (tm3 225 rfl rfl), cn5.2, ci5, by decide +kernel⟩
theorem ow5_copyItems : OwnOk M5_copyItems := fun o h => by cases h; rfl
theorem im5_copyItems : Cond.instanceMethod (M_nm M5_copyItems) ∈ tW := (tm3 223 rfl rfl)
theorem se5_copyItems : Cond.selects (M_nm M5_copyItems).cls (M_nm M5_copyItems) (M_nm M5_copyItems) ∈ tW := (tm3 224 rfl rfl)
theorem tok5_copyRow : TbOk M5_copyRow := TbOk_of (by decide +kernel)
theorem ok5_copyRow : MOk M5_copyRow := ⟨tok5_copyRow, cn5.1, (tm3 228 rfl rfl), cn5.2, ci5, by decide +kernel⟩
theorem ow5_copyRow : OwnOk M5_copyRow := fun o h => by cases h; rfl
theorem sm5_copyRow : Cond.static (M_nm M5_copyRow) ∈ tW := (tm3 227 rfl rfl)
theorem tok6_init : TbOk M6_init := TbOk_of (by decide +kernel)
theorem ok6_init : MOk M6_init := ⟨tok6_init, cn6.1, (tm1 210 rfl rfl), cn6.2, ci6, by decide +kernel⟩
theorem ow6_init : OwnOk M6_init := fun o h => by cases h; rfl
theorem im6_init : Cond.instanceMethod (M_nm M6_init) ∈ tW := (tm1 209 rfl rfl)
theorem tok6_append : TbOk M6_append := TbOk_of (by decide +kernel)
theorem ok6_append : MOk M6_append := ⟨tok6_append, cn6.1, (tm3 179 rfl rfl), cn6.2, ci6, by decide +kernel⟩
theorem ow6_append : OwnOk M6_append := fun o h => by cases h; rfl
theorem im6_append : Cond.instanceMethod (M_nm M6_append) ∈ tW := (tm3 177 rfl rfl)
theorem se6_append : Cond.selects (M_nm M6_append).cls (M_nm M6_append) (M_nm M6_append) ∈ tW := (tm3 178 rfl rfl)
theorem tok6_read : TbOk M6_read := TbOk_of (by decide +kernel)
theorem ok6_read : MOk M6_read := ⟨tok6_read, cn6.1, (tm3 191 rfl rfl), cn6.2, ci6, by decide +kernel⟩
theorem ow6_read : OwnOk M6_read := fun o h => by cases h; rfl
theorem im6_read : Cond.instanceMethod (M_nm M6_read) ∈ tW := (tm3 189 rfl rfl)
theorem se6_read : Cond.selects (M_nm M6_read).cls (M_nm M6_read) (M_nm M6_read) ∈ tW := (tm3 190 rfl rfl)
theorem tok6_readItem : TbOk M6_readItem := TbOk_of (by decide +kernel)
theorem ok6_readItem : MOk M6_readItem := ⟨tok6_readItem, cn6.1, (tm3 196 rfl rfl), cn6.2, ci6, by decide +kernel⟩
theorem ow6_readItem : OwnOk M6_readItem := fun o h => by cases h; rfl
theorem im6_readItem : Cond.instanceMethod (M_nm M6_readItem) ∈ tW := (tm3 195 rfl rfl)
theorem se6_readItem : Cond.selects (M_nm M6_readItem).cls (M_nm M6_readItem) (M_nm M6_readItem) ∈ tW := pm2 1 rfl
theorem tok6_readEdges : TbOk M6_readEdges := TbOk_of (by decide +kernel)
theorem ok6_readEdges : MOk M6_readEdges := ⟨tok6_readEdges, cn6.1, (tm3 214 rfl rfl), cn6.2, ci6, by decide +kernel⟩
theorem ow6_readEdges : OwnOk M6_readEdges := fun o h => by cases h; rfl
theorem im6_readEdges : Cond.instanceMethod (M_nm M6_readEdges) ∈ tW := (tm3 213 rfl rfl)
theorem se6_readEdges : Cond.selects (M_nm M6_readEdges).cls (M_nm M6_readEdges) (M_nm M6_readEdges) ∈ tW := pm2 4 rfl
theorem tok6_readNumber : TbOk M6_readNumber := TbOk_of (by decide +kernel)
theorem ok6_readNumber : MOk M6_readNumber := ⟨tok6_readNumber, cn6.1, (tm3 208 rfl rfl), cn6.2, ci6, by decide +kernel⟩
theorem ow6_readNumber : OwnOk M6_readNumber := fun o h => by cases h; rfl
theorem im6_readNumber : Cond.instanceMethod (M_nm M6_readNumber) ∈ tW := (tm3 207 rfl rfl)
theorem se6_readNumber : Cond.selects (M_nm M6_readNumber).cls (M_nm M6_readNumber) (M_nm M6_readNumber) ∈ tW := pm2 3 rfl
theorem tok6_codeHere : TbOk M6_codeHere := TbOk_of (by decide +kernel)
theorem ok6_codeHere : MOk M6_codeHere := ⟨tok6_codeHere, cn6.1, (tm3 201 rfl rfl), cn6.2, ci6, by decide +kernel⟩
theorem ow6_codeHere : OwnOk M6_codeHere := fun o h => by cases h; rfl
theorem im6_codeHere : Cond.instanceMethod (M_nm M6_codeHere) ∈ tW := (tm3 200 rfl rfl)
theorem se6_codeHere : Cond.selects (M_nm M6_codeHere).cls (M_nm M6_codeHere) (M_nm M6_codeHere) ∈ tW := pm2 2 rfl
theorem tok6_isDigit : TbOk M6_isDigit := TbOk_of (by decide +kernel)
theorem ok6_isDigit : MOk M6_isDigit := ⟨tok6_isDigit, cn6.1, (tm3 204 rfl rfl), cn6.2, ci6, by decide +kernel⟩
theorem ow6_isDigit : OwnOk M6_isDigit := fun o h => by cases h; rfl
theorem sm6_isDigit : Cond.static (M_nm M6_isDigit) ∈ tW := (tm3 203 rfl rfl)
theorem tok7_init : TbOk M7_init := TbOk_of (by decide +kernel)
theorem ok7_init : MOk M7_init := ⟨tok7_init, cn7.1, (tm1 126 rfl rfl), cn7.2, ci7, by decide +kernel⟩
theorem ow7_init : OwnOk M7_init := fun o h => by cases h; rfl
theorem im7_init : Cond.instanceMethod (M_nm M7_init) ∈ tW := (tm1 125 rfl rfl)
theorem tok7_forget : TbOk M7_forget := TbOk_of (by decide +kernel)
theorem ok7_forget : MOk M7_forget := ⟨tok7_forget, cn7.1, (tm2 153 rfl rfl), cn7.2, ci7, by decide +kernel⟩
theorem ow7_forget : OwnOk M7_forget := fun o h => by cases h; rfl
theorem im7_forget : Cond.instanceMethod (M_nm M7_forget) ∈ tW := (tm2 151 rfl rfl)
theorem se7_forget : Cond.selects (M_nm M7_forget).cls (M_nm M7_forget) (M_nm M7_forget) ∈ tW := (tm2 152 rfl rfl)
theorem tok7_remember : TbOk M7_remember := TbOk_of (by decide +kernel)
theorem ok7_remember : MOk M7_remember := ⟨tok7_remember, cn7.1, (tm2 60 rfl rfl), cn7.2, ci7, by decide +kernel⟩
theorem ow7_remember : OwnOk M7_remember := fun o h => by cases h; rfl
theorem im7_remember : Cond.instanceMethod (M_nm M7_remember) ∈ tW := (tm2 58 rfl rfl)
theorem se7_remember : Cond.selects (M_nm M7_remember).cls (M_nm M7_remember) (M_nm M7_remember) ∈ tW := (tm2 59 rfl rfl)
theorem tok7_drawRings : TbOk M7_drawRings := TbOk_of (by decide +kernel)
theorem ok7_drawRings : MOk M7_drawRings := ⟨tok7_drawRings, cn7.1, (tm2 64 rfl rfl), cn7.2, ci7, by decide +kernel⟩
theorem ow7_drawRings : OwnOk M7_drawRings := fun o h => by cases h; rfl
theorem im7_drawRings : Cond.instanceMethod (M_nm M7_drawRings) ∈ tW := (tm2 63 rfl rfl)
theorem se7_drawRings : Cond.selects (M_nm M7_drawRings).cls (M_nm M7_drawRings) (M_nm M7_drawRings) ∈ tW := pm1 0 rfl
theorem tok7_predecessorsOfAll : TbOk M7_predecessorsOfAll := TbOk_of (by decide +kernel)
theorem ok7_predecessorsOfAll : MOk M7_predecessorsOfAll := ⟨tok7_predecessorsOfAll, cn7.1, (tm2 68 rfl rfl), cn7.2, ci7, by decide +kernel⟩
theorem ow7_predecessorsOfAll : OwnOk M7_predecessorsOfAll := fun o h => by cases h; rfl
theorem sm7_predecessorsOfAll : Cond.static (M_nm M7_predecessorsOfAll) ∈ tW := (tm2 67 rfl rfl)
theorem tok7_lowestSuccessor : TbOk M7_lowestSuccessor := TbOk_of (by decide +kernel)
theorem ok7_lowestSuccessor : MOk M7_lowestSuccessor := ⟨tok7_lowestSuccessor, cn7.1, (tm2 72 rfl rfl), cn7.2, ci7, by decide +kernel⟩
theorem ow7_lowestSuccessor : OwnOk M7_lowestSuccessor := fun o h => by cases h; rfl
theorem sm7_lowestSuccessor : Cond.static (M_nm M7_lowestSuccessor) ∈ tW := (tm2 71 rfl rfl)
theorem tok8_init : TbOk M8_init := TbOk_of (by decide +kernel)
theorem ok8_init : MOk M8_init := ⟨tok8_init, cn8.1, (tm1 18 rfl rfl), cn8.2, ci8, by decide +kernel⟩
theorem ow8_init : OwnOk M8_init := fun o h => by cases h; rfl
theorem im8_init : Cond.instanceMethod (M_nm M8_init) ∈ tW := (tm1 17 rfl rfl)
theorem tok8_add : TbOk M8_add := TbOk_of (by decide +kernel)
theorem ok8_add : MOk M8_add := ⟨tok8_add, cn8.1, (tm2 17 rfl rfl), cn8.2, ci8, by decide +kernel⟩
theorem ow8_add : OwnOk M8_add := fun o h => by cases h; rfl
theorem im8_add : Cond.instanceMethod (M_nm M8_add) ∈ tW := (tm2 15 rfl rfl)
theorem se8_add : Cond.selects (M_nm M8_add).cls (M_nm M8_add) (M_nm M8_add) ∈ tW := (tm2 16 rfl rfl)
theorem tok8_link : TbOk M8_link := TbOk_of (by decide +kernel)
theorem ok8_link : MOk M8_link := ⟨tok8_link, cn8.1, (tm2 40 rfl rfl), cn8.2, ci8, by decide +kernel⟩
theorem ow8_link : OwnOk M8_link := fun o h => by cases h; rfl
theorem im8_link : Cond.instanceMethod (M_nm M8_link) ∈ tW := (tm2 38 rfl rfl)
theorem se8_link : Cond.selects (M_nm M8_link).cls (M_nm M8_link) (M_nm M8_link) ∈ tW := (tm2 39 rfl rfl)
theorem tok8_witness : TbOk M8_witness := TbOk_of (by decide +kernel)
theorem ok8_witness : MOk M8_witness := ⟨tok8_witness, cn8.1, (tm2 122 rfl rfl), cn8.2, ci8, by decide +kernel⟩
theorem ow8_witness : OwnOk M8_witness := fun o h => by cases h; rfl
theorem im8_witness : Cond.instanceMethod (M_nm M8_witness) ∈ tW := (tm2 120 rfl rfl)
theorem se8_witness : Cond.selects (M_nm M8_witness).cls (M_nm M8_witness) (M_nm M8_witness) ∈ tW := (tm2 121 rfl rfl)
theorem tok8_unlink : TbOk M8_unlink := TbOk_of (by decide +kernel)
theorem ok8_unlink : MOk M8_unlink := ⟨tok8_unlink, cn8.1, (tm2 126 rfl rfl), cn8.2, ci8, by decide +kernel⟩
theorem ow8_unlink : OwnOk M8_unlink := fun o h => by cases h; rfl
theorem im8_unlink : Cond.instanceMethod (M_nm M8_unlink) ∈ tW := (tm2 124 rfl rfl)
theorem se8_unlink : Cond.selects (M_nm M8_unlink).cls (M_nm M8_unlink) (M_nm M8_unlink) ∈ tW := (tm2 125 rfl rfl)
theorem tok8_setPriority : TbOk M8_setPriority := TbOk_of (by decide +kernel)
theorem ok8_setPriority : MOk M8_setPriority := ⟨tok8_setPriority, cn8.1, (tm2 132 rfl rfl), cn8.2, ci8, by decide +kernel⟩
theorem ow8_setPriority : OwnOk M8_setPriority := fun o h => by cases h; rfl
theorem im8_setPriority : Cond.instanceMethod (M_nm M8_setPriority) ∈ tW := (tm2 130 rfl rfl)
theorem se8_setPriority : Cond.selects (M_nm M8_setPriority).cls (M_nm M8_setPriority) (M_nm M8_setPriority) ∈ tW := (tm2 131 rfl rfl)
theorem tok8_setPolicy : TbOk M8_setPolicy := TbOk_of (by decide +kernel)
theorem ok8_setPolicy : MOk M8_setPolicy := ⟨tok8_setPolicy, cn8.1, (tm2 137 rfl rfl), cn8.2, ci8, by decide +kernel⟩
theorem ow8_setPolicy : OwnOk M8_setPolicy := fun o h => by cases h; rfl
theorem im8_setPolicy : Cond.instanceMethod (M_nm M8_setPolicy) ∈ tW := (tm2 135 rfl rfl)
theorem se8_setPolicy : Cond.selects (M_nm M8_setPolicy).cls (M_nm M8_setPolicy) (M_nm M8_setPolicy) ∈ tW := (tm2 136 rfl rfl)
theorem tok8_setGroupLimit : TbOk M8_setGroupLimit := TbOk_of (by decide +kernel)
theorem ok8_setGroupLimit : MOk M8_setGroupLimit := ⟨tok8_setGroupLimit, cn8.1, (tm2 141 rfl rfl), cn8.2, ci8, by decide +kernel⟩
theorem ow8_setGroupLimit : OwnOk M8_setGroupLimit := fun o h => by cases h; rfl
theorem im8_setGroupLimit : Cond.instanceMethod (M_nm M8_setGroupLimit) ∈ tW := (tm2 139 rfl rfl)
theorem se8_setGroupLimit : Cond.selects (M_nm M8_setGroupLimit).cls (M_nm M8_setGroupLimit) (M_nm M8_setGroupLimit) ∈ tW := (tm2 140 rfl rfl)
theorem tok8_clear : TbOk M8_clear := TbOk_of (by decide +kernel)
theorem ok8_clear : MOk M8_clear := ⟨tok8_clear, cn8.1, (tm2 145 rfl rfl), cn8.2, ci8, by decide +kernel⟩
theorem ow8_clear : OwnOk M8_clear := fun o h => by cases h; rfl
theorem im8_clear : Cond.instanceMethod (M_nm M8_clear) ∈ tW := (tm2 143 rfl rfl)
theorem se8_clear : Cond.selects (M_nm M8_clear).cls (M_nm M8_clear) (M_nm M8_clear) ∈ tW := (tm2 144 rfl rfl)
theorem tok8_receive : TbOk M8_receive := TbOk_of (by decide +kernel)
theorem ok8_receive : MOk M8_receive := ⟨tok8_receive, cn8.1, (tm2 157 rfl rfl), cn8.2, ci8, by decide +kernel⟩
theorem ow8_receive : OwnOk M8_receive := fun o h => by cases h; rfl
theorem im8_receive : Cond.instanceMethod (M_nm M8_receive) ∈ tW := (tm2 155 rfl rfl)
theorem se8_receive : Cond.selects (M_nm M8_receive).cls (M_nm M8_receive) (M_nm M8_receive) ∈ tW := (tm2 156 rfl rfl)
theorem tok8_receipt : TbOk M8_receipt := TbOk_of (by decide +kernel)
theorem ok8_receipt : MOk M8_receipt := ⟨tok8_receipt, cn8.1, (tm2 197 rfl rfl), cn8.2, ci8, by decide +kernel⟩
theorem ow8_receipt : OwnOk M8_receipt := fun o h => by cases h; rfl
theorem im8_receipt : Cond.instanceMethod (M_nm M8_receipt) ∈ tW := (tm2 195 rfl rfl)
theorem se8_receipt : Cond.selects (M_nm M8_receipt).cls (M_nm M8_receipt) (M_nm M8_receipt) ∈ tW := (tm2 196 rfl rfl)
theorem tok8_finish : TbOk M8_finish := TbOk_of (by decide +kernel)
theorem ok8_finish : MOk M8_finish := ⟨tok8_finish, cn8.1, (tm2 201 rfl rfl), cn8.2, ci8, by decide +kernel⟩
theorem ow8_finish : OwnOk M8_finish := fun o h => by cases h; rfl
theorem im8_finish : Cond.instanceMethod (M_nm M8_finish) ∈ tW := (tm2 199 rfl rfl)
theorem se8_finish : Cond.selects (M_nm M8_finish).cls (M_nm M8_finish) (M_nm M8_finish) ∈ tW := (tm2 200 rfl rfl)
theorem tok8_giveBack : TbOk M8_giveBack := TbOk_of (by decide +kernel)
theorem ok8_giveBack : MOk M8_giveBack := ⟨tok8_giveBack, cn8.1, (tm2 218 rfl rfl), cn8.2, ci8, by decide +kernel⟩
theorem ow8_giveBack : OwnOk M8_giveBack := fun o h => by cases h; rfl
theorem im8_giveBack : Cond.instanceMethod (M_nm M8_giveBack) ∈ tW := (tm2 216 rfl rfl)
theorem se8_giveBack : Cond.selects (M_nm M8_giveBack).cls (M_nm M8_giveBack) (M_nm M8_giveBack) ∈ tW := (tm2 217 rfl rfl)
theorem tok8_extend : TbOk M8_extend := TbOk_of (by decide +kernel)
theorem ok8_extend : MOk M8_extend := ⟨tok8_extend, cn8.1, (tm2 226 rfl rfl), cn8.2, ci8, by decide +kernel⟩
theorem ow8_extend : OwnOk M8_extend := fun o h => by cases h; rfl
theorem im8_extend : Cond.instanceMethod (M_nm M8_extend) ∈ tW := (tm2 224 rfl rfl)
theorem se8_extend : Cond.selects (M_nm M8_extend).cls (M_nm M8_extend) (M_nm M8_extend) ∈ tW := (tm2 225 rfl rfl)
theorem tok8_cancel : TbOk M8_cancel := TbOk_of (by decide +kernel)
theorem ok8_cancel : MOk M8_cancel := ⟨tok8_cancel, cn8.1, (tm2 230 rfl rfl), cn8.2, ci8, by decide +kernel⟩
theorem ow8_cancel : OwnOk M8_cancel := fun o h => by cases h; rfl
theorem im8_cancel : Cond.instanceMethod (M_nm M8_cancel) ∈ tW := (tm2 228 rfl rfl)
theorem se8_cancel : Cond.selects (M_nm M8_cancel).cls (M_nm M8_cancel) (M_nm M8_cancel) ∈ tW := (tm2 229 rfl rfl)
theorem tok8_revive : TbOk M8_revive := TbOk_of (by decide +kernel)
theorem ok8_revive : MOk M8_revive := ⟨tok8_revive, cn8.1, (tm2 234 rfl rfl), cn8.2, ci8, by decide +kernel⟩
theorem ow8_revive : OwnOk M8_revive := fun o h => by cases h; rfl
theorem im8_revive : Cond.instanceMethod (M_nm M8_revive) ∈ tW := (tm2 232 rfl rfl)
theorem se8_revive : Cond.selects (M_nm M8_revive).cls (M_nm M8_revive) (M_nm M8_revive) ∈ tW := (tm2 233 rfl rfl)
theorem tok8_tick : TbOk M8_tick := TbOk_of (by decide +kernel)
theorem ok8_tick : MOk M8_tick := ⟨tok8_tick, cn8.1, (tm3 0 rfl rfl), cn8.2, ci8, by decide +kernel⟩
theorem ow8_tick : OwnOk M8_tick := fun o h => by cases h; rfl
theorem im8_tick : Cond.instanceMethod (M_nm M8_tick) ∈ tW := (tm2 238 rfl rfl)
theorem se8_tick : Cond.selects (M_nm M8_tick).cls (M_nm M8_tick) (M_nm M8_tick) ∈ tW := (tm2 239 rfl rfl)
theorem tok8_items : TbOk M8_items := TbOk_of (by decide +kernel)
theorem ok8_items : MOk M8_items := ⟨tok8_items, cn8.1, (tm3 9 rfl rfl), cn8.2, ci8, by decide +kernel⟩
theorem ow8_items : OwnOk M8_items := fun o h => by cases h; rfl
theorem im8_items : Cond.instanceMethod (M_nm M8_items) ∈ tW := (tm3 7 rfl rfl)
theorem se8_items : Cond.selects (M_nm M8_items).cls (M_nm M8_items) (M_nm M8_items) ∈ tW := (tm3 8 rfl rfl)
theorem tok8_edges : TbOk M8_edges := TbOk_of (by decide +kernel)
theorem ok8_edges : MOk M8_edges := ⟨tok8_edges, cn8.1, (tm3 13 rfl rfl), cn8.2, ci8, by decide +kernel⟩
theorem ow8_edges : OwnOk M8_edges := fun o h => by cases h; rfl
theorem im8_edges : Cond.instanceMethod (M_nm M8_edges) ∈ tW := (tm3 11 rfl rfl)
theorem se8_edges : Cond.selects (M_nm M8_edges).cls (M_nm M8_edges) (M_nm M8_edges) ∈ tW := (tm3 12 rfl rfl)
theorem tok8_time : TbOk M8_time := TbOk_of (by decide +kernel)
theorem ok8_time : MOk M8_time := ⟨tok8_time, cn8.1, (tm3 17 rfl rfl), cn8.2, ci8, by decide +kernel⟩
theorem ow8_time : OwnOk M8_time := fun o h => by cases h; rfl
theorem im8_time : Cond.instanceMethod (M_nm M8_time) ∈ tW := (tm3 15 rfl rfl)
theorem se8_time : Cond.selects (M_nm M8_time).cls (M_nm M8_time) (M_nm M8_time) ∈ tW := (tm3 16 rfl rfl)
theorem tok8_state : TbOk M8_state := TbOk_of (by decide +kernel)
theorem ok8_state : MOk M8_state := ⟨tok8_state, cn8.1, (tm3 21 rfl rfl), cn8.2, ci8, by decide +kernel⟩
theorem ow8_state : OwnOk M8_state := fun o h => by cases h; rfl
theorem im8_state : Cond.instanceMethod (M_nm M8_state) ∈ tW := (tm3 19 rfl rfl)
theorem se8_state : Cond.selects (M_nm M8_state).cls (M_nm M8_state) (M_nm M8_state) ∈ tW := (tm3 20 rfl rfl)
theorem tok8_itemsIn : TbOk M8_itemsIn := TbOk_of (by decide +kernel)
theorem ok8_itemsIn : MOk M8_itemsIn := ⟨tok8_itemsIn, cn8.1, (tm3 25 rfl rfl), cn8.2, ci8, by decide +kernel⟩
theorem ow8_itemsIn : OwnOk M8_itemsIn := fun o h => by cases h; rfl
theorem im8_itemsIn : Cond.instanceMethod (M_nm M8_itemsIn) ∈ tW := (tm3 23 rfl rfl)
theorem se8_itemsIn : Cond.selects (M_nm M8_itemsIn).cls (M_nm M8_itemsIn) (M_nm M8_itemsIn) ∈ tW := (tm3 24 rfl rfl)
theorem tok8_property : TbOk M8_property := TbOk_of (by decide +kernel)
theorem ok8_property : MOk M8_property := ⟨tok8_property, cn8.1, (tm3 30 rfl rfl), cn8.2, ci8, by decide +kernel⟩
theorem ow8_property : OwnOk M8_property := fun o h => by cases h; rfl
theorem im8_property : Cond.instanceMethod (M_nm M8_property) ∈ tW := (tm3 28 rfl rfl)
theorem se8_property : Cond.selects (M_nm M8_property).cls (M_nm M8_property) (M_nm M8_property) ∈ tW := (tm3 29 rfl rfl)
theorem tok8_edge : TbOk M8_edge := TbOk_of (by decide +kernel)
theorem ok8_edge : MOk M8_edge := ⟨tok8_edge, cn8.1, (tm3 34 rfl rfl), cn8.2, ci8, by decide +kernel⟩
theorem ow8_edge : OwnOk M8_edge := fun o h => by cases h; rfl
theorem im8_edge : Cond.instanceMethod (M_nm M8_edge) ∈ tW := (tm3 32 rfl rfl)
theorem se8_edge : Cond.selects (M_nm M8_edge).cls (M_nm M8_edge) (M_nm M8_edge) ∈ tW := (tm3 33 rfl rfl)
theorem tok8_rank : TbOk M8_rank := TbOk_of (by decide +kernel)
theorem ok8_rank : MOk M8_rank := ⟨tok8_rank, cn8.1, (tm3 42 rfl rfl), cn8.2, ci8, by decide +kernel⟩
theorem ow8_rank : OwnOk M8_rank := fun o h => by cases h; rfl
theorem im8_rank : Cond.instanceMethod (M_nm M8_rank) ∈ tW := (tm3 40 rfl rfl)
theorem se8_rank : Cond.selects (M_nm M8_rank).cls (M_nm M8_rank) (M_nm M8_rank) ∈ tW := (tm3 41 rfl rfl)
theorem tok8_height : TbOk M8_height := TbOk_of (by decide +kernel)
theorem ok8_height : MOk M8_height := ⟨tok8_height, cn8.1, (tm3 47 rfl rfl), cn8.2, ci8, by decide +kernel⟩
theorem ow8_height : OwnOk M8_height := fun o h => by cases h; rfl
theorem im8_height : Cond.instanceMethod (M_nm M8_height) ∈ tW := (tm3 45 rfl rfl)
theorem se8_height : Cond.selects (M_nm M8_height).cls (M_nm M8_height) (M_nm M8_height) ∈ tW := (tm3 46 rfl rfl)
theorem tok8_before : TbOk M8_before := TbOk_of (by decide +kernel)
theorem ok8_before : MOk M8_before := ⟨tok8_before, cn8.1, (tm3 51 rfl rfl), cn8.2, ci8, by decide +kernel⟩
theorem ow8_before : OwnOk M8_before := fun o h => by cases h; rfl
theorem im8_before : Cond.instanceMethod (M_nm M8_before) ∈ tW := (tm3 49 rfl rfl)
theorem se8_before : Cond.selects (M_nm M8_before).cls (M_nm M8_before) (M_nm M8_before) ∈ tW := (tm3 50 rfl rfl)
theorem tok8_wouldDoom : TbOk M8_wouldDoom := TbOk_of (by decide +kernel)
theorem ok8_wouldDoom : MOk M8_wouldDoom := ⟨tok8_wouldDoom, cn8.1, (tm3 55 rfl rfl), cn8.2, ci8, by decide +kernel⟩
theorem ow8_wouldDoom : OwnOk M8_wouldDoom := fun o h => by cases h; rfl
theorem im8_wouldDoom : Cond.instanceMethod (M_nm M8_wouldDoom) ∈ tW := (tm3 53 rfl rfl)
theorem se8_wouldDoom : Cond.selects (M_nm M8_wouldDoom).cls (M_nm M8_wouldDoom) (M_nm M8_wouldDoom) ∈ tW := (tm3 54 rfl rfl)
theorem tok8_isSuperfluous : TbOk M8_isSuperfluous := TbOk_of (by decide +kernel)
theorem ok8_isSuperfluous : MOk M8_isSuperfluous := ⟨tok8_isSuperfluous, cn8.1, (tm3 63 rfl rfl), cn8.2, ci8, by decide +kernel⟩
theorem ow8_isSuperfluous : OwnOk M8_isSuperfluous := fun o h => by cases h; rfl
theorem im8_isSuperfluous : Cond.instanceMethod (M_nm M8_isSuperfluous) ∈ tW := (tm3 61 rfl rfl)
theorem se8_isSuperfluous : Cond.selects (M_nm M8_isSuperfluous).cls (M_nm M8_isSuperfluous) (M_nm M8_isSuperfluous) ∈ tW := (tm3 62 rfl rfl)
theorem tok8_planLength : TbOk M8_planLength := TbOk_of (by decide +kernel)
theorem ok8_planLength : MOk M8_planLength := ⟨tok8_planLength, cn8.1, (tm3 72 rfl rfl), cn8.2, ci8, by decide +kernel⟩
theorem ow8_planLength : OwnOk M8_planLength := fun o h => by cases h; rfl
theorem im8_planLength : Cond.instanceMethod (M_nm M8_planLength) ∈ tW := (tm3 70 rfl rfl)
theorem se8_planLength : Cond.selects (M_nm M8_planLength).cls (M_nm M8_planLength) (M_nm M8_planLength) ∈ tW := (tm3 71 rfl rfl)
theorem tok8_planStart : TbOk M8_planStart := TbOk_of (by decide +kernel)
theorem ok8_planStart : MOk M8_planStart := ⟨tok8_planStart, cn8.1, (tm3 108 rfl rfl), cn8.2, ci8, by decide +kernel⟩
theorem ow8_planStart : OwnOk M8_planStart := fun o h => by cases h; rfl
theorem im8_planStart : Cond.instanceMethod (M_nm M8_planStart) ∈ tW := (tm3 106 rfl rfl)
theorem se8_planStart : Cond.selects (M_nm M8_planStart).cls (M_nm M8_planStart) (M_nm M8_planStart) ∈ tW := (tm3 107 rfl rfl)
theorem tok8_bestWorkers : TbOk M8_bestWorkers := TbOk_of (by decide +kernel)
theorem ok8_bestWorkers : MOk M8_bestWorkers := ⟨tok8_bestWorkers, cn8.1, (tm3 112 rfl rfl), cn8.2, ci8, by decide +kernel⟩
theorem ow8_bestWorkers : OwnOk M8_bestWorkers := fun o h => by cases h; rfl
theorem im8_bestWorkers : Cond.instanceMethod (M_nm M8_bestWorkers) ∈ tW := (tm3 110 rfl rfl)
theorem se8_bestWorkers : Cond.selects (M_nm M8_bestWorkers).cls (M_nm M8_bestWorkers) (M_nm M8_bestWorkers) ∈ tW := (tm3 111 rfl rfl)
theorem tok8_slack : TbOk M8_slack := TbOk_of (by decide +kernel)
theorem ok8_slack : MOk M8_slack := ⟨tok8_slack, cn8.1, (tm3 116 rfl rfl), cn8.2, ci8, by decide +kernel⟩
theorem ow8_slack : OwnOk M8_slack := fun o h => by cases h; rfl
theorem im8_slack : Cond.instanceMethod (M_nm M8_slack) ∈ tW := (tm3 114 rfl rfl)
theorem se8_slack : Cond.selects (M_nm M8_slack).cls (M_nm M8_slack) (M_nm M8_slack) ∈ tW := (tm3 115 rfl rfl)
theorem tok8_width : TbOk M8_width := TbOk_of (by decide +kernel)
theorem ok8_width : MOk M8_width := ⟨tok8_width, cn8.1, (tm3 131 rfl rfl), cn8.2, ci8, by decide +kernel⟩
theorem ow8_width : OwnOk M8_width := fun o h => by cases h; rfl
theorem im8_width : Cond.instanceMethod (M_nm M8_width) ∈ tW := (tm3 129 rfl rfl)
theorem se8_width : Cond.selects (M_nm M8_width).cls (M_nm M8_width) (M_nm M8_width) ∈ tW := (tm3 130 rfl rfl)
theorem tok8_orders : TbOk M8_orders := TbOk_of (by decide +kernel)
theorem ok8_orders : MOk M8_orders := ⟨tok8_orders, cn8.1, (tm3 153 rfl rfl), cn8.2, ci8, by decide +kernel⟩
theorem ow8_orders : OwnOk M8_orders := fun o h => by cases h; rfl
theorem im8_orders : Cond.instanceMethod (M_nm M8_orders) ∈ tW := (tm3 151 rfl rfl)
theorem se8_orders : Cond.selects (M_nm M8_orders).cls (M_nm M8_orders) (M_nm M8_orders) ∈ tW := (tm3 152 rfl rfl)
theorem tok8_write : TbOk M8_write := TbOk_of (by decide +kernel)
theorem ok8_write : MOk M8_write := ⟨tok8_write, cn8.1, (tm3 175 rfl rfl), cn8.2, ci8, by decide +kernel⟩
theorem ow8_write : OwnOk M8_write := fun o h => by cases h; rfl
theorem im8_write : Cond.instanceMethod (M_nm M8_write) ∈ tW := (tm3 173 rfl rfl)
theorem se8_write : Cond.selects (M_nm M8_write).cls (M_nm M8_write) (M_nm M8_write) ∈ tW := (tm3 174 rfl rfl)
theorem tok8_wipe : TbOk M8_wipe := TbOk_of (by decide +kernel)
theorem ok8_wipe : MOk M8_wipe := ⟨tok8_wipe, cn8.1, (tm3 183 rfl rfl), cn8.2, ci8, by decide +kernel⟩
theorem ow8_wipe : OwnOk M8_wipe := fun o h => by cases h; rfl
theorem im8_wipe : Cond.instanceMethod (M_nm M8_wipe) ∈ tW := (tm3 181 rfl rfl)
theorem se8_wipe : Cond.selects (M_nm M8_wipe).cls (M_nm M8_wipe) (M_nm M8_wipe) ∈ tW := (tm3 182 rfl rfl)
theorem tok8_fault : TbOk M8_fault := TbOk_of (by decide +kernel)
theorem ok8_fault : MOk M8_fault := ⟨tok8_fault, cn8.1, (tm3 187 rfl rfl), cn8.2, ci8, by decide +kernel⟩
theorem ow8_fault : OwnOk M8_fault := fun o h => by cases h; rfl
theorem im8_fault : Cond.instanceMethod (M_nm M8_fault) ∈ tW := (tm3 185 rfl rfl)
theorem se8_fault : Cond.selects (M_nm M8_fault).cls (M_nm M8_fault) (M_nm M8_fault) ∈ tW := (tm3 186 rfl rfl)
theorem tok8_load : TbOk M8_load := TbOk_of (by decide +kernel)
theorem ok8_load : MOk M8_load := ⟨tok8_load, cn8.1, (tm3 221 rfl rfl), cn8.2, ci8, by decide +kernel⟩
theorem ow8_load : OwnOk M8_load := fun o h => by cases h; rfl
theorem im8_load : Cond.instanceMethod (M_nm M8_load) ∈ tW := (tm3 219 rfl rfl)
theorem se8_load : Cond.selects (M_nm M8_load).cls (M_nm M8_load) (M_nm M8_load) ∈ tW := (tm3 220 rfl rfl)
theorem tok8_save : TbOk M8_save := TbOk_of (by decide +kernel)
theorem ok8_save : MOk M8_save := ⟨tok8_save, cn8.1, (tm3 235 rfl rfl), cn8.2, ci8, by decide +kernel⟩
theorem ow8_save : OwnOk M8_save := fun o h => by cases h; rfl
theorem im8_save : Cond.instanceMethod (M_nm M8_save) ∈ tW := (tm3 233 rfl rfl)
theorem se8_save : Cond.selects (M_nm M8_save).cls (M_nm M8_save) (M_nm M8_save) ∈ tW := (tm3 234 rfl rfl)
theorem tok8_restore : TbOk M8_restore := TbOk_of (by decide +kernel)
theorem ok8_restore : MOk M8_restore := ⟨tok8_restore, cn8.1, (tm4 4 rfl rfl), cn8.2, ci8, by decide +kernel⟩
theorem ow8_restore : OwnOk M8_restore := fun o h => by cases h; rfl
theorem im8_restore : Cond.instanceMethod (M_nm M8_restore) ∈ tW := (tm4 2 rfl rfl)
theorem se8_restore : Cond.selects (M_nm M8_restore).cls (M_nm M8_restore) (M_nm M8_restore) ∈ tW := (tm4 3 rfl rfl)
theorem tok8_isWithin : TbOk M8_isWithin := TbOk_of (by decide +kernel)
theorem ok8_isWithin : MOk M8_isWithin := ⟨tok8_isWithin, cn8.1, (tm2 20 rfl rfl), cn8.2, ci8, by decide +kernel⟩
theorem ow8_isWithin : OwnOk M8_isWithin := fun o h => by cases h; rfl
theorem sm8_isWithin : Cond.static (M_nm M8_isWithin) ∈ tW := (tm2 19 rfl rfl)
theorem tok9_init : TbOk M9_init := TbOk_of (by decide +kernel)
theorem ok9_init : MOk M9_init := ⟨tok9_init, cn9.1, (tm4 9 rfl rfl), cn9.2, ci9, by decide +kernel⟩
theorem ow9_init : OwnOk M9_init := fun o h => by cases h; rfl
theorem im9_init : Cond.instanceMethod (M_nm M9_init) ∈ tW := (tm4 8 rfl rfl)
theorem tok9_isIn : TbOk M9_isIn := TbOk_of (by decide +kernel)
theorem ok9_isIn : MOk M9_isIn := ⟨tok9_isIn, cn9.1, (tm4 96 rfl rfl), cn9.2, ci9, by decide +kernel⟩
theorem ow9_isIn : OwnOk M9_isIn := fun o h => by cases h; rfl
theorem sm9_isIn : Cond.static (M_nm M9_isIn) ∈ tW := (tm4 95 rfl rfl)
theorem tok9_isItem : TbOk M9_isItem := TbOk_of (by decide +kernel)
theorem ok9_isItem : MOk M9_isItem := ⟨tok9_isItem, cn9.1, (tm4 136 rfl rfl), cn9.2, ci9, by decide +kernel⟩
theorem ow9_isItem : OwnOk M9_isItem := fun o h => by cases h; rfl
theorem im9_isItem : Cond.instanceMethod (M_nm M9_isItem) ∈ tW := (tm4 135 rfl rfl)
theorem se9_isItem : Cond.selects (M_nm M9_isItem).cls (M_nm M9_isItem) (M_nm M9_isItem) ∈ tW := pm2 13 rfl
theorem tok9_of : TbOk M9_of := TbOk_of (by decide +kernel)
theorem ok9_of : MOk M9_of := ⟨tok9_of, cn9.1, (tm4 112 rfl rfl), cn9.2, ci9, by decide +kernel⟩
theorem ow9_of : OwnOk M9_of := fun o h => by cases h; rfl
theorem im9_of : Cond.instanceMethod (M_nm M9_of) ∈ tW := (tm4 111 rfl rfl)
theorem se9_of : Cond.selects (M_nm M9_of).cls (M_nm M9_of) (M_nm M9_of) ∈ tW := pm2 8 rfl
theorem tok9_set : TbOk M9_set := TbOk_of (by decide +kernel)
theorem ok9_set : MOk M9_set := ⟨tok9_set, cn9.1, (tm4 104 rfl rfl), cn9.2, ci9, by decide +kernel⟩
theorem ow9_set : OwnOk M9_set := fun o h => by cases h; rfl
theorem im9_set : Cond.instanceMethod (M_nm M9_set) ∈ tW := (tm4 103 rfl rfl)
theorem se9_set : Cond.selects (M_nm M9_set).cls (M_nm M9_set) (M_nm M9_set) ∈ tW := pm2 6 rfl
theorem tok9_kindOf : TbOk M9_kindOf := TbOk_of (by decide +kernel)
theorem ok9_kindOf : MOk M9_kindOf := ⟨tok9_kindOf, cn9.1, (tm4 120 rfl rfl), cn9.2, ci9, by decide +kernel⟩
theorem ow9_kindOf : OwnOk M9_kindOf := fun o h => by cases h; rfl
theorem im9_kindOf : Cond.instanceMethod (M_nm M9_kindOf) ∈ tW := (tm4 119 rfl rfl)
theorem se9_kindOf : Cond.selects (M_nm M9_kindOf).cls (M_nm M9_kindOf) (M_nm M9_kindOf) ∈ tW := pm2 10 rfl
theorem tok9_hasEnded : TbOk M9_hasEnded := TbOk_of (by decide +kernel)
theorem ok9_hasEnded : MOk M9_hasEnded := ⟨tok9_hasEnded, cn9.1, (tm4 124 rfl rfl), cn9.2, ci9, by decide +kernel⟩
theorem ow9_hasEnded : OwnOk M9_hasEnded := fun o h => by cases h; rfl
theorem im9_hasEnded : Cond.instanceMethod (M_nm M9_hasEnded) ∈ tW := (tm4 123 rfl rfl)
theorem se9_hasEnded : Cond.selects (M_nm M9_hasEnded).cls (M_nm M9_hasEnded) (M_nm M9_hasEnded) ∈ tW := pm2 11 rfl
theorem tok9_append : TbOk M9_append := TbOk_of (by decide +kernel)
theorem ok9_append : MOk M9_append := ⟨tok9_append, cn9.1, (tm4 100 rfl rfl), cn9.2, ci9, by decide +kernel⟩
theorem ow9_append : OwnOk M9_append := fun o h => by cases h; rfl
theorem im9_append : Cond.instanceMethod (M_nm M9_append) ∈ tW := (tm4 99 rfl rfl)
theorem se9_append : Cond.selects (M_nm M9_append).cls (M_nm M9_append) (M_nm M9_append) ∈ tW := pm2 5 rfl
theorem tok9_due : TbOk M9_due := TbOk_of (by decide +kernel)
theorem ok9_due : MOk M9_due := ⟨tok9_due, cn9.1, (tm4 116 rfl rfl), cn9.2, ci9, by decide +kernel⟩
theorem ow9_due : OwnOk M9_due := fun o h => by cases h; rfl
theorem im9_due : Cond.instanceMethod (M_nm M9_due) ∈ tW := (tm4 115 rfl rfl)
theorem se9_due : Cond.selects (M_nm M9_due).cls (M_nm M9_due) (M_nm M9_due) ∈ tW := pm2 9 rfl
theorem tok9_becomesReady : TbOk M9_becomesReady := TbOk_of (by decide +kernel)
theorem ok9_becomesReady : MOk M9_becomesReady := ⟨tok9_becomesReady, cn9.1, (tm4 128 rfl rfl), cn9.2, ci9, by decide +kernel⟩
theorem ow9_becomesReady : OwnOk M9_becomesReady := fun o h => by cases h; rfl
theorem im9_becomesReady : Cond.instanceMethod (M_nm M9_becomesReady) ∈ tW := (tm4 127 rfl rfl)
theorem se9_becomesReady : Cond.selects (M_nm M9_becomesReady).cls (M_nm M9_becomesReady) (M_nm M9_becomesReady) ∈ tW := pm2 12 rfl
theorem tok9_settle : TbOk M9_settle := TbOk_of (by decide +kernel)
theorem ok9_settle : MOk M9_settle := ⟨tok9_settle, cn9.1, (tm4 108 rfl rfl), cn9.2, ci9, by decide +kernel⟩
theorem ow9_settle : OwnOk M9_settle := fun o h => by cases h; rfl
theorem im9_settle : Cond.instanceMethod (M_nm M9_settle) ∈ tW := (tm4 107 rfl rfl)
theorem se9_settle : Cond.selects (M_nm M9_settle).cls (M_nm M9_settle) (M_nm M9_settle) ∈ tW := pm2 7 rfl
theorem tok9_add : TbOk M9_add := TbOk_of (by decide +kernel)
theorem ok9_add : MOk M9_add := ⟨tok9_add, cn9.1, (tm4 93 rfl rfl), cn9.2, ci9, by decide +kernel⟩
theorem ow9_add : OwnOk M9_add := fun o h => by cases h; rfl
theorem im9_add : Cond.instanceMethod (M_nm M9_add) ∈ tW := (tm4 91 rfl rfl)
theorem se9_add : Cond.selects (M_nm M9_add).cls (M_nm M9_add) (M_nm M9_add) ∈ tW := (tm4 92 rfl rfl)
theorem tok9_measureTo : TbOk M9_measureTo := TbOk_of (by decide +kernel)
theorem ok9_measureTo : MOk M9_measureTo := ⟨tok9_measureTo, cn9.1, (tm4 140 rfl rfl), cn9.2, ci9, by decide +kernel⟩
theorem ow9_measureTo : OwnOk M9_measureTo := fun o h => by cases h; rfl
theorem im9_measureTo : Cond.instanceMethod (M_nm M9_measureTo) ∈ tW := (tm4 139 rfl rfl)
theorem se9_measureTo : Cond.selects (M_nm M9_measureTo).cls (M_nm M9_measureTo) (M_nm M9_measureTo) ∈ tW := pm2 14 rfl
theorem tok9_keepPath : TbOk M9_keepPath := TbOk_of (by decide +kernel)
theorem ok9_keepPath : MOk M9_keepPath := ⟨tok9_keepPath, cn9.1, (tm4 144 rfl rfl), cn9.2, ci9, by decide +kernel⟩
theorem ow9_keepPath : OwnOk M9_keepPath := fun o h => by cases h; rfl
theorem im9_keepPath : Cond.instanceMethod (M_nm M9_keepPath) ∈ tW := (tm4 143 rfl rfl)
theorem se9_keepPath : Cond.selects (M_nm M9_keepPath).cls (M_nm M9_keepPath) (M_nm M9_keepPath) ∈ tW := pm2 15 rfl
theorem tok9_link : TbOk M9_link := TbOk_of (by decide +kernel)
theorem ok9_link : MOk M9_link := ⟨tok9_link, cn9.1, (tm4 132 rfl rfl), cn9.2, ci9, by decide +kernel⟩
theorem ow9_link : OwnOk M9_link := fun o h => by cases h; rfl
theorem im9_link : Cond.instanceMethod (M_nm M9_link) ∈ tW := (tm4 130 rfl rfl)
theorem se9_link : Cond.selects (M_nm M9_link).cls (M_nm M9_link) (M_nm M9_link) ∈ tW := (tm4 131 rfl rfl)
theorem tok9_witness : TbOk M9_witness := TbOk_of (by decide +kernel)
theorem ok9_witness : MOk M9_witness := ⟨tok9_witness, cn9.1, (tm4 152 rfl rfl), cn9.2, ci9, by decide +kernel⟩
theorem ow9_witness : OwnOk M9_witness := fun o h => by cases h; rfl
theorem im9_witness : Cond.instanceMethod (M_nm M9_witness) ∈ tW := (tm4 150 rfl rfl)
theorem se9_witness : Cond.selects (M_nm M9_witness).cls (M_nm M9_witness) (M_nm M9_witness) ∈ tW := (tm4 151 rfl rfl)
theorem tok9_unlink : TbOk M9_unlink := TbOk_of (by decide +kernel)
theorem ok9_unlink : MOk M9_unlink := ⟨tok9_unlink, cn9.1, (tm4 156 rfl rfl), cn9.2, ci9, by decide +kernel⟩
theorem ow9_unlink : OwnOk M9_unlink := fun o h => by cases h; rfl
theorem im9_unlink : Cond.instanceMethod (M_nm M9_unlink) ∈ tW := (tm4 154 rfl rfl)
theorem se9_unlink : Cond.selects (M_nm M9_unlink).cls (M_nm M9_unlink) (M_nm M9_unlink) ∈ tW := (tm4 155 rfl rfl)
theorem tok9_setPriority : TbOk M9_setPriority := TbOk_of (by decide +kernel)
theorem ok9_setPriority : MOk M9_setPriority := ⟨tok9_setPriority, cn9.1, (tm4 160 rfl rfl), cn9.2, ci9, by decide +kernel⟩
theorem ow9_setPriority : OwnOk M9_setPriority := fun o h => by cases h; rfl
theorem im9_setPriority : Cond.instanceMethod (M_nm M9_setPriority) ∈ tW := (tm4 158 rfl rfl)
theorem se9_setPriority : Cond.selects (M_nm M9_setPriority).cls (M_nm M9_setPriority) (M_nm M9_setPriority) ∈ tW := (tm4 159 rfl rfl)
theorem tok9_setPolicy : TbOk M9_setPolicy := TbOk_of (by decide +kernel)
theorem ok9_setPolicy : MOk M9_setPolicy := ⟨tok9_setPolicy, cn9.1, (tm4 164 rfl rfl), cn9.2, ci9, by decide +kernel⟩
theorem ow9_setPolicy : OwnOk M9_setPolicy := fun o h => by cases h; rfl
theorem im9_setPolicy : Cond.instanceMethod (M_nm M9_setPolicy) ∈ tW := (tm4 162 rfl rfl)
theorem se9_setPolicy : Cond.selects (M_nm M9_setPolicy).cls (M_nm M9_setPolicy) (M_nm M9_setPolicy) ∈ tW := (tm4 163 rfl rfl)
theorem tok9_setGroupLimit : TbOk M9_setGroupLimit := TbOk_of (by decide +kernel)
theorem ok9_setGroupLimit : MOk M9_setGroupLimit := ⟨tok9_setGroupLimit, cn9.1, (tm4 168 rfl rfl), cn9.2, ci9, by decide +kernel⟩
theorem ow9_setGroupLimit : OwnOk M9_setGroupLimit := fun o h => by cases h; rfl
theorem im9_setGroupLimit : Cond.instanceMethod (M_nm M9_setGroupLimit) ∈ tW := (tm4 166 rfl rfl)
theorem se9_setGroupLimit : Cond.selects (M_nm M9_setGroupLimit).cls (M_nm M9_setGroupLimit) (M_nm M9_setGroupLimit) ∈ tW := (tm4 167 rfl rfl)
theorem tok9_clear : TbOk M9_clear := TbOk_of (by decide +kernel)
theorem ok9_clear : MOk M9_clear := ⟨tok9_clear, cn9.1, (tm4 172 rfl rfl), cn9.2, ci9, by decide +kernel⟩
theorem ow9_clear : OwnOk M9_clear := fun o h => by cases h; rfl
theorem im9_clear : Cond.instanceMethod (M_nm M9_clear) ∈ tW := (tm4 170 rfl rfl)
theorem se9_clear : Cond.selects (M_nm M9_clear).cls (M_nm M9_clear) (M_nm M9_clear) ∈ tW := (tm4 171 rfl rfl)
theorem tok9_ownWork : TbOk M9_ownWork := TbOk_of (by decide +kernel)
theorem ok9_ownWork : MOk M9_ownWork := ⟨tok9_ownWork, cn9.1, (tm4 184 rfl rfl), cn9.2, ci9, by decide +kernel⟩
theorem ow9_ownWork : OwnOk M9_ownWork := fun o h => by cases h; rfl
theorem im9_ownWork : Cond.instanceMethod (M_nm M9_ownWork) ∈ tW := (tm4 183 rfl rfl)
theorem se9_ownWork : Cond.selects (M_nm M9_ownWork).cls (M_nm M9_ownWork) (M_nm M9_ownWork) ∈ tW := pm3 1 rfl
theorem tok9_measure : TbOk M9_measure := TbOk_of (by decide +kernel)
theorem ok9_measure : MOk M9_measure := ⟨tok9_measure, cn9.1, (tm4 180 rfl rfl), cn9.2, ci9, by decide +kernel⟩
theorem ow9_measure : OwnOk M9_measure := fun o h => by cases h; rfl
theorem im9_measure : Cond.instanceMethod (M_nm M9_measure) ∈ tW := (tm4 179 rfl rfl)
theorem se9_measure : Cond.selects (M_nm M9_measure).cls (M_nm M9_measure) (M_nm M9_measure) ∈ tW := pm3 0 rfl
theorem tok9_rankOf : TbOk M9_rankOf := TbOk_of (by decide +kernel)
theorem ok9_rankOf : MOk M9_rankOf := ⟨tok9_rankOf, cn9.1, (tm4 192 rfl rfl), cn9.2, ci9, by decide +kernel⟩
theorem ow9_rankOf : OwnOk M9_rankOf := fun o h => by cases h; rfl
theorem im9_rankOf : Cond.instanceMethod (M_nm M9_rankOf) ∈ tW := (tm4 191 rfl rfl)
theorem se9_rankOf : Cond.selects (M_nm M9_rankOf).cls (M_nm M9_rankOf) (M_nm M9_rankOf) ∈ tW := pm3 3 rfl
theorem tok9_canReceive : TbOk M9_canReceive := TbOk_of (by decide +kernel)
theorem ok9_canReceive : MOk M9_canReceive := ⟨tok9_canReceive, cn9.1, (tm4 188 rfl rfl), cn9.2, ci9, by decide +kernel⟩
theorem ow9_canReceive : OwnOk M9_canReceive := fun o h => by cases h; rfl
theorem im9_canReceive : Cond.instanceMethod (M_nm M9_canReceive) ∈ tW := (tm4 187 rfl rfl)
theorem se9_canReceive : Cond.selects (M_nm M9_canReceive).cls (M_nm M9_canReceive) (M_nm M9_canReceive) ∈ tW := pm3 2 rfl
theorem tok9_receive : TbOk M9_receive := TbOk_of (by decide +kernel)
theorem ok9_receive : MOk M9_receive := ⟨tok9_receive, cn9.1, (tm4 176 rfl rfl), cn9.2, ci9, by decide +kernel⟩
theorem ow9_receive : OwnOk M9_receive := fun o h => by cases h; rfl
theorem im9_receive : Cond.instanceMethod (M_nm M9_receive) ∈ tW := (tm4 174 rfl rfl)
theorem se9_receive : Cond.selects (M_nm M9_receive).cls (M_nm M9_receive) (M_nm M9_receive) ∈ tW := (tm4 175 rfl rfl)
theorem tok9_receipt : TbOk M9_receipt := TbOk_of (by decide +kernel)
theorem ok9_receipt : MOk M9_receipt := ⟨tok9_receipt, cn9.1, (tm4 196 rfl rfl), cn9.2, ci9, by decide +kernel⟩
theorem ow9_receipt : OwnOk M9_receipt := fun o h => by cases h; rfl
theorem im9_receipt : Cond.instanceMethod (M_nm M9_receipt) ∈ tW := (tm4 194 rfl rfl)
theorem se9_receipt : Cond.selects (M_nm M9_receipt).cls (M_nm M9_receipt) (M_nm M9_receipt) ∈ tW := (tm4 195 rfl rfl)
theorem tok9_isValid : TbOk M9_isValid := TbOk_of (by decide +kernel)
theorem ok9_isValid : MOk M9_isValid := ⟨tok9_isValid, cn9.1, (tm4 204 rfl rfl), cn9.2, ci9, by decide +kernel⟩
theorem ow9_isValid : OwnOk M9_isValid := fun o h => by cases h; rfl
theorem im9_isValid : Cond.instanceMethod (M_nm M9_isValid) ∈ tW := (tm4 203 rfl rfl)
theorem se9_isValid : Cond.selects (M_nm M9_isValid).cls (M_nm M9_isValid) (M_nm M9_isValid) ∈ tW := pm3 4 rfl
theorem tok9_finish : TbOk M9_finish := TbOk_of (by decide +kernel)
theorem ok9_finish : MOk M9_finish := ⟨tok9_finish, cn9.1, (tm4 200 rfl rfl), cn9.2, ci9, by decide +kernel⟩
theorem ow9_finish : OwnOk M9_finish := fun o h => by cases h; rfl
theorem im9_finish : Cond.instanceMethod (M_nm M9_finish) ∈ tW := (tm4 198 rfl rfl)
theorem se9_finish : Cond.selects (M_nm M9_finish).cls (M_nm M9_finish) (M_nm M9_finish) ∈ tW := (tm4 199 rfl rfl)
theorem tok9_comeBack : TbOk M9_comeBack := TbOk_of (by decide +kernel)
theorem ok9_comeBack : MOk M9_comeBack := ⟨tok9_comeBack, cn9.1, (tm4 212 rfl rfl), cn9.2, ci9, by decide +kernel⟩
theorem ow9_comeBack : OwnOk M9_comeBack := fun o h => by cases h; rfl
theorem im9_comeBack : Cond.instanceMethod (M_nm M9_comeBack) ∈ tW := (tm4 211 rfl rfl)
theorem se9_comeBack : Cond.selects (M_nm M9_comeBack).cls (M_nm M9_comeBack) (M_nm M9_comeBack) ∈ tW := pm3 5 rfl
theorem tok9_giveBack : TbOk M9_giveBack := TbOk_of (by decide +kernel)
theorem ok9_giveBack : MOk M9_giveBack := ⟨tok9_giveBack, cn9.1, (tm4 208 rfl rfl), cn9.2, ci9, by decide +kernel⟩
theorem ow9_giveBack : OwnOk M9_giveBack := fun o h => by cases h; rfl
theorem im9_giveBack : Cond.instanceMethod (M_nm M9_giveBack) ∈ tW := (tm4 206 rfl rfl)
theorem se9_giveBack : Cond.selects (M_nm M9_giveBack).cls (M_nm M9_giveBack) (M_nm M9_giveBack) ∈ tW := (tm4 207 rfl rfl)
theorem tok9_extend : TbOk M9_extend := TbOk_of (by decide +kernel)
theorem ok9_extend : MOk M9_extend := ⟨tok9_extend, cn9.1, (tm4 216 rfl rfl), cn9.2, ci9, by decide +kernel⟩
theorem ow9_extend : OwnOk M9_extend := fun o h => by cases h; rfl
theorem im9_extend : Cond.instanceMethod (M_nm M9_extend) ∈ tW := (tm4 214 rfl rfl)
theorem se9_extend : Cond.selects (M_nm M9_extend).cls (M_nm M9_extend) (M_nm M9_extend) ∈ tW := (tm4 215 rfl rfl)
theorem tok9_cancel : TbOk M9_cancel := TbOk_of (by decide +kernel)
theorem ok9_cancel : MOk M9_cancel := ⟨tok9_cancel, cn9.1, (tm4 220 rfl rfl), cn9.2, ci9, by decide +kernel⟩
theorem ow9_cancel : OwnOk M9_cancel := fun o h => by cases h; rfl
theorem im9_cancel : Cond.instanceMethod (M_nm M9_cancel) ∈ tW := (tm4 218 rfl rfl)
theorem se9_cancel : Cond.selects (M_nm M9_cancel).cls (M_nm M9_cancel) (M_nm M9_cancel) ∈ tW := (tm4 219 rfl rfl)
theorem tok9_revive : TbOk M9_revive := TbOk_of (by decide +kernel)
theorem ok9_revive : MOk M9_revive := ⟨tok9_revive, cn9.1, (tm4 224 rfl rfl), cn9.2, ci9, by decide +kernel⟩
theorem ow9_revive : OwnOk M9_revive := fun o h => by cases h; rfl
theorem im9_revive : Cond.instanceMethod (M_nm M9_revive) ∈ tW := (tm4 222 rfl rfl)
theorem se9_revive : Cond.selects (M_nm M9_revive).cls (M_nm M9_revive) (M_nm M9_revive) ∈ tW := (tm4 223 rfl rfl)
theorem tok9_tick : TbOk M9_tick := TbOk_of (by decide +kernel)
theorem ok9_tick : MOk M9_tick := ⟨tok9_tick, cn9.1, (tm4 228 rfl rfl), cn9.2, ci9, by decide +kernel⟩
theorem ow9_tick : OwnOk M9_tick := fun o h => by cases h; rfl
theorem im9_tick : Cond.instanceMethod (M_nm M9_tick) ∈ tW := (tm4 226 rfl rfl)
theorem se9_tick : Cond.selects (M_nm M9_tick).cls (M_nm M9_tick) (M_nm M9_tick) ∈ tW := (tm4 227 rfl rfl)
theorem tok9_items : TbOk M9_items := TbOk_of (by decide +kernel)
theorem ok9_items : MOk M9_items := ⟨tok9_items, cn9.1, (tm4 232 rfl rfl), cn9.2, ci9, by decide +kernel⟩
theorem ow9_items : OwnOk M9_items := fun o h => by cases h; rfl
theorem im9_items : Cond.instanceMethod (M_nm M9_items) ∈ tW := (tm4 230 rfl rfl)
theorem se9_items : Cond.selects (M_nm M9_items).cls (M_nm M9_items) (M_nm M9_items) ∈ tW := (tm4 231 rfl rfl)
theorem tok9_edges : TbOk M9_edges := TbOk_of (by decide +kernel)
theorem ok9_edges : MOk M9_edges := ⟨tok9_edges, cn9.1, (tm4 148 rfl rfl), cn9.2, ci9, by decide +kernel⟩
theorem ow9_edges : OwnOk M9_edges := fun o h => by cases h; rfl
theorem im9_edges : Cond.instanceMethod (M_nm M9_edges) ∈ tW := (tm4 146 rfl rfl)
theorem se9_edges : Cond.selects (M_nm M9_edges).cls (M_nm M9_edges) (M_nm M9_edges) ∈ tW := (tm4 147 rfl rfl)
theorem tok9_time : TbOk M9_time := TbOk_of (by decide +kernel)
theorem ok9_time : MOk M9_time := ⟨tok9_time, cn9.1, (tm4 237 rfl rfl), cn9.2, ci9, by decide +kernel⟩
theorem ow9_time : OwnOk M9_time := fun o h => by cases h; rfl
theorem im9_time : Cond.instanceMethod (M_nm M9_time) ∈ tW := (tm4 235 rfl rfl)
theorem se9_time : Cond.selects (M_nm M9_time).cls (M_nm M9_time) (M_nm M9_time) ∈ tW := (tm4 236 rfl rfl)
theorem tok9_state : TbOk M9_state := TbOk_of (by decide +kernel)
theorem ok9_state : MOk M9_state := ⟨tok9_state, cn9.1, (tm5 1 rfl rfl), cn9.2, ci9, by decide +kernel⟩
theorem ow9_state : OwnOk M9_state := fun o h => by cases h; rfl
theorem im9_state : Cond.instanceMethod (M_nm M9_state) ∈ tW := (tm4 239 rfl rfl)
theorem se9_state : Cond.selects (M_nm M9_state).cls (M_nm M9_state) (M_nm M9_state) ∈ tW := (tm5 0 rfl rfl)
theorem tok9_itemsIn : TbOk M9_itemsIn := TbOk_of (by decide +kernel)
theorem ok9_itemsIn : MOk M9_itemsIn := ⟨tok9_itemsIn, cn9.1, (tm5 5 rfl rfl), cn9.2, ci9, by decide +kernel⟩
theorem ow9_itemsIn : OwnOk M9_itemsIn := fun o h => by cases h; rfl
theorem im9_itemsIn : Cond.instanceMethod (M_nm M9_itemsIn) ∈ tW := (tm5 3 rfl rfl)
theorem se9_itemsIn : Cond.selects (M_nm M9_itemsIn).cls (M_nm M9_itemsIn) (M_nm M9_itemsIn) ∈ tW := (tm5 4 rfl rfl)
theorem tok9_property : TbOk M9_property := TbOk_of (by decide +kernel)
theorem ok9_property : MOk M9_property := ⟨tok9_property, cn9.1, (tm5 9 rfl rfl), cn9.2, ci9, by decide +kernel⟩
theorem ow9_property : OwnOk M9_property := fun o h => by cases h; rfl
theorem im9_property : Cond.instanceMethod (M_nm M9_property) ∈ tW := (tm5 7 rfl rfl)
theorem se9_property : Cond.selects (M_nm M9_property).cls (M_nm M9_property) (M_nm M9_property) ∈ tW := (tm5 8 rfl rfl)
theorem tok9_edge : TbOk M9_edge := TbOk_of (by decide +kernel)
theorem ok9_edge : MOk M9_edge := ⟨tok9_edge, cn9.1, (tm5 13 rfl rfl), cn9.2, ci9, by decide +kernel⟩
theorem ow9_edge : OwnOk M9_edge := fun o h => by cases h; rfl
theorem im9_edge : Cond.instanceMethod (M_nm M9_edge) ∈ tW := (tm5 11 rfl rfl)
theorem se9_edge : Cond.selects (M_nm M9_edge).cls (M_nm M9_edge) (M_nm M9_edge) ∈ tW := (tm5 12 rfl rfl)
theorem tok9_rank : TbOk M9_rank := TbOk_of (by decide +kernel)
theorem ok9_rank : MOk M9_rank := ⟨tok9_rank, cn9.1, (tm5 17 rfl rfl), cn9.2, ci9, by decide +kernel⟩
theorem ow9_rank : OwnOk M9_rank := fun o h => by cases h; rfl
theorem im9_rank : Cond.instanceMethod (M_nm M9_rank) ∈ tW := (tm5 15 rfl rfl)
theorem se9_rank : Cond.selects (M_nm M9_rank).cls (M_nm M9_rank) (M_nm M9_rank) ∈ tW := (tm5 16 rfl rfl)
theorem tok9_height : TbOk M9_height := TbOk_of (by decide +kernel)
theorem ok9_height : MOk M9_height := ⟨tok9_height, cn9.1, (tm5 21 rfl rfl), cn9.2, ci9, by decide +kernel⟩
theorem ow9_height : OwnOk M9_height := fun o h => by cases h; rfl
theorem im9_height : Cond.instanceMethod (M_nm M9_height) ∈ tW := (tm5 19 rfl rfl)
theorem se9_height : Cond.selects (M_nm M9_height).cls (M_nm M9_height) (M_nm M9_height) ∈ tW := (tm5 20 rfl rfl)
theorem tok9_layAhead : TbOk M9_layAhead := TbOk_of (by decide +kernel)
theorem ok9_layAhead : MOk M9_layAhead := ⟨tok9_layAhead, cn9.1, (tm5 29 rfl rfl), cn9.2, ci9, by decide +kernel⟩
theorem ow9_layAhead : OwnOk M9_layAhead := fun o h => by cases h; rfl
theorem im9_layAhead : Cond.instanceMethod (M_nm M9_layAhead) ∈ tW := (tm5 28 rfl rfl)
theorem se9_layAhead : Cond.selects (M_nm M9_layAhead).cls (M_nm M9_layAhead) (M_nm M9_layAhead) ∈ tW := pm3 6 rfl
theorem tok9_before : TbOk M9_before := TbOk_of (by decide +kernel)
theorem ok9_before : MOk M9_before := ⟨tok9_before, cn9.1, (tm5 25 rfl rfl), cn9.2, ci9, by decide +kernel⟩
theorem ow9_before : OwnOk M9_before := fun o h => by cases h; rfl
theorem im9_before : Cond.instanceMethod (M_nm M9_before) ∈ tW := (tm5 23 rfl rfl)
theorem se9_before : Cond.selects (M_nm M9_before).cls (M_nm M9_before) (M_nm M9_before) ∈ tW := (tm5 24 rfl rfl)
theorem tok9_wouldDoom : TbOk M9_wouldDoom := TbOk_of (by decide +kernel)
theorem ok9_wouldDoom : MOk M9_wouldDoom := ⟨tok9_wouldDoom, cn9.1, (tm5 33 rfl rfl), cn9.2, ci9, by decide +kernel⟩
theorem ow9_wouldDoom : OwnOk M9_wouldDoom := fun o h => by cases h; rfl
theorem im9_wouldDoom : Cond.instanceMethod (M_nm M9_wouldDoom) ∈ tW := (tm5 31 rfl rfl)
theorem se9_wouldDoom : Cond.selects (M_nm M9_wouldDoom).cls (M_nm M9_wouldDoom) (M_nm M9_wouldDoom) ∈ tW := (tm5 32 rfl rfl)
theorem tok9_isSuperfluous : TbOk M9_isSuperfluous := TbOk_of (by decide +kernel)
theorem ok9_isSuperfluous : MOk M9_isSuperfluous := ⟨tok9_isSuperfluous, cn9.1, (tm5 37 rfl rfl), cn9.2, ci9, by decide +kernel⟩
theorem ow9_isSuperfluous : OwnOk M9_isSuperfluous := fun o h => by cases h; rfl
theorem im9_isSuperfluous : Cond.instanceMethod (M_nm M9_isSuperfluous) ∈ tW := (tm5 35 rfl rfl)
theorem se9_isSuperfluous : Cond.selects (M_nm M9_isSuperfluous).cls (M_nm M9_isSuperfluous) (M_nm M9_isSuperfluous) ∈ tW := (tm5 36 rfl rfl)
theorem tok9_possibleAt : TbOk M9_possibleAt := TbOk_of (by decide +kernel)
theorem ok9_possibleAt : MOk M9_possibleAt := ⟨tok9_possibleAt, cn9.1, (tm5 49 rfl rfl), cn9.2, ci9, by decide +kernel⟩
theorem ow9_possibleAt : OwnOk M9_possibleAt := fun o h => by cases h; rfl
theorem im9_possibleAt : Cond.instanceMethod (M_nm M9_possibleAt) ∈ tW := (tm5 48 rfl rfl)
theorem se9_possibleAt : Cond.selects (M_nm M9_possibleAt).cls (M_nm M9_possibleAt) (M_nm M9_possibleAt) ∈ tW := pm3 8 rfl
theorem tok9_planRank : TbOk M9_planRank := TbOk_of (by decide +kernel)
theorem ok9_planRank : MOk M9_planRank := ⟨tok9_planRank, cn9.1, (tm5 53 rfl rfl), cn9.2, ci9, by decide +kernel⟩
theorem ow9_planRank : OwnOk M9_planRank := fun o h => by cases h; rfl
theorem im9_planRank : Cond.instanceMethod (M_nm M9_planRank) ∈ tW := (tm5 52 rfl rfl)
theorem se9_planRank : Cond.selects (M_nm M9_planRank).cls (M_nm M9_planRank) (M_nm M9_planRank) ∈ tW := pm3 9 rfl
theorem tok9_planned : TbOk M9_planned := TbOk_of (by decide +kernel)
theorem ok9_planned : MOk M9_planned := ⟨tok9_planned, cn9.1, (tm5 45 rfl rfl), cn9.2, ci9, by decide +kernel⟩
theorem ow9_planned : OwnOk M9_planned := fun o h => by cases h; rfl
theorem im9_planned : Cond.instanceMethod (M_nm M9_planned) ∈ tW := (tm5 44 rfl rfl)
theorem se9_planned : Cond.selects (M_nm M9_planned).cls (M_nm M9_planned) (M_nm M9_planned) ∈ tW := pm3 7 rfl
theorem tok9_planLength : TbOk M9_planLength := TbOk_of (by decide +kernel)
theorem ok9_planLength : MOk M9_planLength := ⟨tok9_planLength, cn9.1, (tm5 41 rfl rfl), cn9.2, ci9, by decide +kernel⟩
theorem ow9_planLength : OwnOk M9_planLength := fun o h => by cases h; rfl
theorem im9_planLength : Cond.instanceMethod (M_nm M9_planLength) ∈ tW := (tm5 39 rfl rfl)
theorem se9_planLength : Cond.selects (M_nm M9_planLength).cls (M_nm M9_planLength) (M_nm M9_planLength) ∈ tW := (tm5 40 rfl rfl)
theorem tok9_planStart : TbOk M9_planStart := TbOk_of (by decide +kernel)
theorem ok9_planStart : MOk M9_planStart := ⟨tok9_planStart, cn9.1, (tm5 57 rfl rfl), cn9.2, ci9, by decide +kernel⟩
theorem ow9_planStart : OwnOk M9_planStart := fun o h => by cases h; rfl
theorem im9_planStart : Cond.instanceMethod (M_nm M9_planStart) ∈ tW := (tm5 55 rfl rfl)
theorem se9_planStart : Cond.selects (M_nm M9_planStart).cls (M_nm M9_planStart) (M_nm M9_planStart) ∈ tW := (tm5 56 rfl rfl)
theorem tok9_bestWorkers : TbOk M9_bestWorkers := TbOk_of (by decide +kernel)
theorem ok9_bestWorkers : MOk M9_bestWorkers := ⟨tok9_bestWorkers, cn9.1, (tm5 61 rfl rfl), cn9.2, ci9, by decide +kernel⟩
theorem ow9_bestWorkers : OwnOk M9_bestWorkers := fun o h => by cases h; rfl
theorem im9_bestWorkers : Cond.instanceMethod (M_nm M9_bestWorkers) ∈ tW := (tm5 59 rfl rfl)
theorem se9_bestWorkers : Cond.selects (M_nm M9_bestWorkers).cls (M_nm M9_bestWorkers) (M_nm M9_bestWorkers) ∈ tW := (tm5 60 rfl rfl)
theorem tok9_slack : TbOk M9_slack := TbOk_of (by decide +kernel)
theorem ok9_slack : MOk M9_slack := ⟨tok9_slack, cn9.1, (tm5 65 rfl rfl), cn9.2, ci9, by decide +kernel⟩
theorem ow9_slack : OwnOk M9_slack := fun o h => by cases h; rfl
theorem im9_slack : Cond.instanceMethod (M_nm M9_slack) ∈ tW := (tm5 63 rfl rfl)
theorem se9_slack : Cond.selects (M_nm M9_slack).cls (M_nm M9_slack) (M_nm M9_slack) ∈ tW := (tm5 64 rfl rfl)
theorem tok9_isMatched : TbOk M9_isMatched := TbOk_of (by decide +kernel)
theorem ok9_isMatched : MOk M9_isMatched := ⟨tok9_isMatched, cn9.1, (tm5 73 rfl rfl), cn9.2, ci9, by decide +kernel⟩
theorem ow9_isMatched : OwnOk M9_isMatched := fun o h => by cases h; rfl
theorem im9_isMatched : Cond.instanceMethod (M_nm M9_isMatched) ∈ tW := (tm5 72 rfl rfl)
theorem se9_isMatched : Cond.selects (M_nm M9_isMatched).cls (M_nm M9_isMatched) (M_nm M9_isMatched) ∈ tW := pm3 10 rfl
theorem tok9_changePartners : TbOk M9_changePartners := TbOk_of (by decide +kernel)
theorem ok9_changePartners : MOk M9_changePartners := ⟨tok9_changePartners, cn9.1, (tm5 77 rfl rfl), cn9.2, ci9, by decide +kernel⟩
theorem ow9_changePartners : OwnOk M9_changePartners := fun o h => by cases h; rfl
theorem im9_changePartners : Cond.instanceMethod (M_nm M9_changePartners) ∈ tW := (tm5 76 rfl rfl)
theorem se9_changePartners : Cond.selects (M_nm M9_changePartners).cls (M_nm M9_changePartners) (M_nm M9_changePartners) ∈ tW := pm3 11 rfl
theorem tok9_width : TbOk M9_width := TbOk_of (by decide +kernel)
theorem ok9_width : MOk M9_width := ⟨tok9_width, cn9.1, (tm5 69 rfl rfl), cn9.2, ci9, by decide +kernel⟩
theorem ow9_width : OwnOk M9_width := fun o h => by cases h; rfl
theorem im9_width : Cond.instanceMethod (M_nm M9_width) ∈ tW := (tm5 67 rfl rfl)
theorem se9_width : Cond.selects (M_nm M9_width).cls (M_nm M9_width) (M_nm M9_width) ∈ tW := (tm5 68 rfl rfl)
theorem tok9_orders : TbOk M9_orders := TbOk_of (by decide +kernel)
theorem ok9_orders : MOk M9_orders := ⟨tok9_orders, cn9.1, (tm5 81 rfl rfl), cn9.2, ci9, by decide +kernel⟩
theorem ow9_orders : OwnOk M9_orders := fun o h => by cases h; rfl
theorem im9_orders : Cond.instanceMethod (M_nm M9_orders) ∈ tW := (tm5 79 rfl rfl)
theorem se9_orders : Cond.selects (M_nm M9_orders).cls (M_nm M9_orders) (M_nm M9_orders) ∈ tW := (tm5 80 rfl rfl)
theorem tok9_isLast : TbOk M9_isLast := TbOk_of (by decide +kernel)
theorem ok9_isLast : MOk M9_isLast := ⟨tok9_isLast, cn9.1, (tm5 86 rfl rfl), cn9.2, ci9, by decide +kernel⟩
theorem ow9_isLast : OwnOk M9_isLast := fun o h => by cases h; rfl
theorem im9_isLast : Cond.instanceMethod (M_nm M9_isLast) ∈ tW := (tm5 85 rfl rfl)
theorem se9_isLast : Cond.selects (M_nm M9_isLast).cls (M_nm M9_isLast) (M_nm M9_isLast) ∈ tW := pm3 12 rfl
theorem tok9_write : TbOk M9_write := TbOk_of (by decide +kernel)
theorem ok9_write : MOk M9_write := ⟨tok9_write, cn9.1, (tm5 90 rfl rfl), cn9.2, ci9, by decide +kernel⟩
theorem ow9_write : OwnOk M9_write := fun o h => by cases h; rfl
theorem im9_write : Cond.instanceMethod (M_nm M9_write) ∈ tW := (tm5 88 rfl rfl)
theorem se9_write : Cond.selects (M_nm M9_write).cls (M_nm M9_write) (M_nm M9_write) ∈ tW := (tm5 89 rfl rfl)
theorem tok9_wipe : TbOk M9_wipe := TbOk_of (by decide +kernel)
theorem ok9_wipe : MOk M9_wipe := ⟨tok9_wipe, cn9.1, (tm5 94 rfl rfl), cn9.2, ci9, by decide +kernel⟩
theorem ow9_wipe : OwnOk M9_wipe := fun o h => by cases h; rfl
theorem im9_wipe : Cond.instanceMethod (M_nm M9_wipe) ∈ tW := (tm5 92 rfl rfl)
theorem se9_wipe : Cond.selects (M_nm M9_wipe).cls (M_nm M9_wipe) (M_nm M9_wipe) ∈ tW := (tm5 93 rfl rfl)
theorem tok9_isDigit : TbOk M9_isDigit := TbOk_of (by decide +kernel)
theorem ok9_isDigit : MOk M9_isDigit := ⟨tok9_isDigit, cn9.1, (tm5 106 rfl rfl), cn9.2, ci9, by decide +kernel⟩
theorem ow9_isDigit : OwnOk M9_isDigit := fun o h => by cases h; rfl
theorem im9_isDigit : Cond.instanceMethod (M_nm M9_isDigit) ∈ tW := (tm5 105 rfl rfl)
theorem se9_isDigit : Cond.selects (M_nm M9_isDigit).cls (M_nm M9_isDigit) (M_nm M9_isDigit) ∈ tW := pm3 14 rfl
theorem tok9_fails : TbOk M9_fails := TbOk_of (by decide +kernel)
theorem ok9_fails : MOk M9_fails := ⟨tok9_fails, cn9.1, (tm5 110 rfl rfl), cn9.2, ci9, by decide +kernel⟩
theorem ow9_fails : OwnOk M9_fails := fun o h => by cases h; rfl
theorem im9_fails : Cond.instanceMethod (M_nm M9_fails) ∈ tW := (tm5 109 rfl rfl)
theorem se9_fails : Cond.selects (M_nm M9_fails).cls (M_nm M9_fails) (M_nm M9_fails) ∈ tW := pm3 15 rfl
theorem tok9_number : TbOk M9_number := TbOk_of (by decide +kernel)
theorem ok9_number : MOk M9_number := ⟨tok9_number, cn9.1, (tm5 114 rfl rfl), cn9.2, ci9, by decide +kernel⟩
theorem ow9_number : OwnOk M9_number := fun o h => by cases h; rfl
theorem im9_number : Cond.instanceMethod (M_nm M9_number) ∈ tW := (tm5 113 rfl rfl)
theorem se9_number : Cond.selects (M_nm M9_number).cls (M_nm M9_number) (M_nm M9_number) ∈ tW := pm4 0 rfl
theorem tok9_readItem : TbOk M9_readItem := TbOk_of (by decide +kernel)
theorem ok9_readItem : MOk M9_readItem := ⟨tok9_readItem, cn9.1, (tm5 102 rfl rfl), cn9.2, ci9, by decide +kernel⟩
theorem ow9_readItem : OwnOk M9_readItem := fun o h => by cases h; rfl
theorem im9_readItem : Cond.instanceMethod (M_nm M9_readItem) ∈ tW := (tm5 101 rfl rfl)
theorem se9_readItem : Cond.selects (M_nm M9_readItem).cls (M_nm M9_readItem) (M_nm M9_readItem) ∈ tW := pm3 13 rfl
theorem tok9_fault : TbOk M9_fault := TbOk_of (by decide +kernel)
theorem ok9_fault : MOk M9_fault := ⟨tok9_fault, cn9.1, (tm5 98 rfl rfl), cn9.2, ci9, by decide +kernel⟩
theorem ow9_fault : OwnOk M9_fault := fun o h => by cases h; rfl
theorem im9_fault : Cond.instanceMethod (M_nm M9_fault) ∈ tW := (tm5 96 rfl rfl)
theorem se9_fault : Cond.selects (M_nm M9_fault).cls (M_nm M9_fault) (M_nm M9_fault) ∈ tW := (tm5 97 rfl rfl)
theorem tok9_load : TbOk M9_load := TbOk_of (by decide +kernel)
theorem ok9_load : MOk M9_load := ⟨tok9_load, cn9.1, (tm5 118 rfl rfl), cn9.2, ci9, by decide +kernel⟩
theorem ow9_load : OwnOk M9_load := fun o h => by cases h; rfl
theorem im9_load : Cond.instanceMethod (M_nm M9_load) ∈ tW := (tm5 116 rfl rfl)
theorem se9_load : Cond.selects (M_nm M9_load).cls (M_nm M9_load) (M_nm M9_load) ∈ tW := (tm5 117 rfl rfl)
theorem tok9_save : TbOk M9_save := TbOk_of (by decide +kernel)
theorem ok9_save : MOk M9_save := ⟨tok9_save, cn9.1, (tm5 123 rfl rfl), cn9.2, ci9, by decide +kernel⟩
theorem ow9_save : OwnOk M9_save := fun o h => by cases h; rfl
theorem im9_save : Cond.instanceMethod (M_nm M9_save) ∈ tW := (tm5 121 rfl rfl)
theorem se9_save : Cond.selects (M_nm M9_save).cls (M_nm M9_save) (M_nm M9_save) ∈ tW := (tm5 122 rfl rfl)
theorem tok9_restore : TbOk M9_restore := TbOk_of (by decide +kernel)
theorem ok9_restore : MOk M9_restore := ⟨tok9_restore, cn9.1, (tm5 127 rfl rfl), cn9.2, ci9, by decide +kernel⟩
theorem ow9_restore : OwnOk M9_restore := fun o h => by cases h; rfl
theorem im9_restore : Cond.instanceMethod (M_nm M9_restore) ∈ tW := (tm5 125 rfl rfl)
theorem se9_restore : Cond.selects (M_nm M9_restore).cls (M_nm M9_restore) (M_nm M9_restore) ∈ tW := (tm5 126 rfl rfl)
theorem tok6_bitCount_0f7a4 : TbOk M6_bitCount_0f7a4 := TbOk_of (by decide +kernel)
theorem ok6_bitCount_0f7a4 : MOk M6_bitCount_0f7a4 := ⟨tok6_bitCount_0f7a4, by decide +kernel, (tm2 115 rfl rfl), ⟨by decide +kernel, by decide +kernel⟩, (tm1 11 rfl rfl), by decide +kernel⟩
theorem ow6_bitCount_0f7a4 : OwnOk M6_bitCount_0f7a4 := fun o h => by cases h
theorem sm6_bitCount_0f7a4 : Cond.static (M_nm M6_bitCount_0f7a4) ∈ tW := (tm2 114 rfl rfl)
end
section
theorem lv1_0_has {y : MT} (h : (M_nm y).cls = RX1) : LkS y 21 M0_has := ⟨by rw [h]; exact (tm3 138 rfl rfl), sm0_has⟩
theorem lv1_1_findNext {y : MT} (h : (M_nm y).cls = RX1) : LkV y 27 M1_findNext := ⟨by rw [h]; exact (tm3 139 rfl rfl), im1_findNext, se1_findNext⟩
theorem lv1_1_lowestOf {y : MT} (h : (M_nm y).cls = RX1) : LkS y 31 M1_lowestOf := ⟨by rw [h]; exact (tm3 143 rfl rfl), sm1_lowestOf⟩
theorem lv1_1_pairAlong {y : MT} (h : (M_nm y).cls = RX1) : LkV y 35 M1_pairAlong := ⟨by rw [h]; exact (tm3 146 rfl rfl), im1_pairAlong, se1_pairAlong⟩
theorem lv2_2_listMembers {y : MT} (h : (M_nm y).cls = RX2) : LkV y 22 M2_listMembers := ⟨by rw [h]; exact (tm3 159 rfl rfl), im2_listMembers, se2_listMembers⟩
theorem lv2_2_listNeeds {y : MT} (h : (M_nm y).cls = RX2) : LkV y 26 M2_listNeeds := ⟨by rw [h]; exact (tm3 164 rfl rfl), im2_listNeeds, se2_listNeeds⟩
theorem lv2_2_goOnFrom {y : MT} (h : (M_nm y).cls = RX2) : LkV y 30 M2_goOnFrom := ⟨by rw [h]; exact (tm3 168 rfl rfl), im2_goOnFrom, se2_goOnFrom⟩
theorem lv2_0_has {y : MT} (h : (M_nm y).cls = RX2) : LkS y 34 M0_has := ⟨by rw [h]; exact (tm3 163 rfl rfl), sm0_has⟩
theorem lv3_5_predecessors {y : MT} (h : (M_nm y).cls = RX3) : LkV y 31 M5_predecessors := ⟨by rw [h]; exact (tm2 49 rfl rfl), im5_predecessors, se5_predecessors⟩
theorem lv3_0_has {y : MT} (h : (M_nm y).cls = RX3) : LkS y 35 M0_has := ⟨by rw [h]; exact (tm2 53 rfl rfl), sm0_has⟩
theorem lv3_3_beforeSets {y : MT} (h : (M_nm y).cls = RX3) : LkV y 41 M3_beforeSets := ⟨by rw [h]; exact (tm3 68 rfl rfl), im3_beforeSets, se3_beforeSets⟩
theorem lv3_5_workLeft {y : MT} (h : (M_nm y).cls = RX3) : LkV y 45 M5_workLeft := ⟨by rw [h]; exact (tm2 162 rfl rfl), im5_workLeft, se5_workLeft⟩
theorem lv3_3_raisePredecessors {y : MT} (h : (M_nm y).cls = RX3) : LkV y 48 M3_raisePredecessors := ⟨by rw [h]; exact (tm2 166 rfl rfl), im3_raisePredecessors, se3_raisePredecessors⟩
theorem lv3_3_raiseLead {y : MT} (h : (M_nm y).cls = RX3) : LkV y 52 M3_raiseLead := ⟨by rw [h]; exact (tm3 124 rfl rfl), im3_raiseLead, se3_raiseLead⟩
theorem lv4_5_unendedSet {y : MT} (h : (M_nm y).cls = RX4) : LkV y 37 M5_unendedSet := ⟨by rw [h]; exact (tm3 77 rfl rfl), im5_unendedSet, se5_unendedSet⟩
theorem lv4_4_endCompleted {y : MT} (h : (M_nm y).cls = RX4) : LkV y 46 M4_endCompleted := ⟨by rw [h]; exact (tm3 81 rfl rfl), im4_endCompleted, se4_endCompleted⟩
theorem lv4_4_findStartable {y : MT} (h : (M_nm y).cls = RX4) : LkV y 50 M4_findStartable := ⟨by rw [h]; exact (tm3 86 rfl rfl), im4_findStartable, se4_findStartable⟩
theorem lv4_4_startItems {y : MT} (h : (M_nm y).cls = RX4) : LkV y 54 M4_startItems := ⟨by rw [h]; exact (tm3 91 rfl rfl), im4_startItems, se4_startItems⟩
theorem lv4_4_nextEnd {y : MT} (h : (M_nm y).cls = RX4) : LkV y 58 M4_nextEnd := ⟨by rw [h]; exact (tm3 101 rfl rfl), im4_nextEnd, se4_nextEnd⟩
theorem lv4_0_has {y : MT} (h : (M_nm y).cls = RX4) : LkS y 62 M0_has := ⟨by rw [h]; exact (tm3 85 rfl rfl), sm0_has⟩
theorem lv4_5_predecessors {y : MT} (h : (M_nm y).cls = RX4) : LkV y 68 M5_predecessors := ⟨by rw [h]; exact (tm3 90 rfl rfl), im5_predecessors, se5_predecessors⟩
theorem lv4_4_bestStartable {y : MT} (h : (M_nm y).cls = RX4) : LkV y 71 M4_bestStartable := ⟨by rw [h]; exact (tm3 95 rfl rfl), im4_bestStartable, se4_bestStartable⟩
theorem lv4_5_holds {y : MT} (h : (M_nm y).cls = RX4) : LkV y 75 M5_holds := ⟨by rw [h]; exact (tm3 100 rfl rfl), im5_holds, se5_holds⟩
theorem lv4_5_rankFor {y : MT} (h : (M_nm y).cls = RX4) : LkV y 82 M5_rankFor := ⟨by rw [h]; exact (tm3 99 rfl rfl), im5_rankFor, se5_rankFor⟩
theorem lv5_5_hasEnded {y : MT} (h : (M_nm y).cls = RX5) : LkV y 67 M5_hasEnded := ⟨by rw [h]; exact (tm2 104 rfl rfl), im5_hasEnded, se5_hasEnded⟩
theorem lv5_5_setIn {y : MT} (h : (M_nm y).cls = RX5) : LkV y 71 M5_setIn := ⟨by rw [h]; exact (tm2 210 rfl rfl), im5_setIn, se5_setIn⟩
theorem lv5_5_startAnew {y : MT} (h : (M_nm y).cls = RX5) : LkV y 75 M5_startAnew := ⟨by rw [h]; exact (tm2 29 rfl rfl), im5_startAnew, se5_startAnew⟩
theorem lv5_5_predecessors {y : MT} (h : (M_nm y).cls = RX5) : LkV y 79 M5_predecessors := ⟨by rw [h]; exact (tm2 103 rfl rfl), im5_predecessors, se5_predecessors⟩
theorem lv5_6_bitCount_0f7a4 {y : MT} (h : (M_nm y).cls = RX5) : LkS y 82 M6_bitCount_0f7a4 := ⟨by rw [h]; exact (tm2 113 rfl rfl), sm6_bitCount_0f7a4⟩
theorem lv5_0_has {y : MT} (h : (M_nm y).cls = RX5) : LkS y 87 M0_has := ⟨by rw [h]; exact (tm2 98 rfl rfl), sm0_has⟩
theorem lv5_5_dropEdge {y : MT} (h : (M_nm y).cls = RX5) : LkV y 93 M5_dropEdge := ⟨by rw [h]; exact (tm2 81 rfl rfl), im5_dropEdge, se5_dropEdge⟩
theorem lv5_5_settleItem {y : MT} (h : (M_nm y).cls = RX5) : LkV y 97 M5_settleItem := ⟨by rw [h]; exact (tm2 89 rfl rfl), im5_settleItem, se5_settleItem⟩
theorem lv5_5_followsEdges {y : MT} (h : (M_nm y).cls = RX5) : LkV y 100 M5_followsEdges := ⟨by rw [h]; exact (tm2 93 rfl rfl), im5_followsEdges, se5_followsEdges⟩
theorem lv5_5_stateByEdges {y : MT} (h : (M_nm y).cls = RX5) : LkV y 103 M5_stateByEdges := ⟨by rw [h]; exact (tm2 94 rfl rfl), im5_stateByEdges, se5_stateByEdges⟩
theorem lv5_5_makeReady {y : MT} (h : (M_nm y).cls = RX5) : LkV y 106 M5_makeReady := ⟨by rw [h]; exact (tm2 108 rfl rfl), im5_makeReady, se5_makeReady⟩
theorem lv5_5_hasFailed {y : MT} (h : (M_nm y).cls = RX5) : LkV y 109 M5_hasFailed := ⟨by rw [h]; exact (tm2 99 rfl rfl), im5_hasFailed, se5_hasFailed⟩
theorem lv5_5_settle {y : MT} (h : (M_nm y).cls = RX5) : LkV y 112 M5_settle := ⟨by rw [h]; exact (tm2 214 rfl rfl), im5_settle, se5_settle⟩
theorem lv5_5_comeBack {y : MT} (h : (M_nm y).cls = RX5) : LkV y 115 M5_comeBack := ⟨by rw [h]; exact (tm3 5 rfl rfl), im5_comeBack, se5_comeBack⟩
theorem lv5_5_rankFor {y : MT} (h : (M_nm y).cls = RX5) : LkV y 118 M5_rankFor := ⟨by rw [h]; exact (tm2 186 rfl rfl), im5_rankFor, se5_rankFor⟩
theorem lv5_5_canBeReceived {y : MT} (h : (M_nm y).cls = RX5) : LkV y 122 M5_canBeReceived := ⟨by rw [h]; exact (tm2 174 rfl rfl), im5_canBeReceived, se5_canBeReceived⟩
theorem lv5_5_rankNow {y : MT} (h : (M_nm y).cls = RX5) : LkV y 125 M5_rankNow := ⟨by rw [h]; exact (tm2 182 rfl rfl), im5_rankNow, se5_rankNow⟩
theorem lv5_5_inFlightOf {y : MT} (h : (M_nm y).cls = RX5) : LkV y 129 M5_inFlightOf := ⟨by rw [h]; exact (tm2 178 rfl rfl), im5_inFlightOf, se5_inFlightOf⟩
theorem lv5_5_copyItems {y : MT} (h : (M_nm y).cls = RX5) : LkV y 132 M5_copyItems := ⟨by rw [h]; exact (tm4 0 rfl rfl), im5_copyItems, se5_copyItems⟩
theorem lv5_5_copyRow {y : MT} (h : (M_nm y).cls = RX5) : LkS y 136 M5_copyRow := ⟨by rw [h]; exact (tm3 226 rfl rfl), sm5_copyRow⟩
theorem ln6_5_init {y : MT} (h : (M_nm y).cls = RX6) : LkIN y 17 M5_init := ⟨by rw [h]; exact List.mem_of_getElem? (i := 6) rfl, im5_init, rfl⟩
theorem lv6_5_removeItems {y : MT} (h : (M_nm y).cls = RX6) : LkV y 29 M5_removeItems := ⟨by rw [h]; exact (tm3 192 rfl rfl), im5_removeItems, se5_removeItems⟩
theorem lv6_6_readItem {y : MT} (h : (M_nm y).cls = RX6) : LkV y 32 M6_readItem := ⟨by rw [h]; exact (tm3 193 rfl rfl), im6_readItem, se6_readItem⟩
theorem lv6_5_isFull {y : MT} (h : (M_nm y).cls = RX6) : LkV y 36 M5_isFull := ⟨by rw [h]; exact (tm3 197 rfl rfl), im5_isFull, se5_isFull⟩
theorem lv6_6_codeHere {y : MT} (h : (M_nm y).cls = RX6) : LkV y 40 M6_codeHere := ⟨by rw [h]; exact (tm3 198 rfl rfl), im6_codeHere, se6_codeHere⟩
theorem lv6_6_isDigit {y : MT} (h : (M_nm y).cls = RX6) : LkS y 43 M6_isDigit := ⟨by rw [h]; exact (tm3 202 rfl rfl), sm6_isDigit⟩
theorem lv6_6_readNumber {y : MT} (h : (M_nm y).cls = RX6) : LkV y 47 M6_readNumber := ⟨by rw [h]; exact (tm3 205 rfl rfl), im6_readNumber, se6_readNumber⟩
theorem ln6_8_isWithin {y : MT} (h : (M_nm y).cls = RX6) : LkSN y 50 M8_isWithin := ⟨by rw [h]; exact List.mem_of_getElem? (i := 7) rfl, sm8_isWithin⟩
theorem lv6_5_append {y : MT} (h : (M_nm y).cls = RX6) : LkV y 54 M5_append := ⟨by rw [h]; exact (tm3 210 rfl rfl), im5_append, se5_append⟩
theorem lv6_6_readEdges {y : MT} (h : (M_nm y).cls = RX6) : LkV y 58 M6_readEdges := ⟨by rw [h]; exact (tm3 211 rfl rfl), im6_readEdges, se6_readEdges⟩
theorem lv6_5_predecessors {y : MT} (h : (M_nm y).cls = RX6) : LkV y 62 M5_predecessors := ⟨by rw [h]; exact (tm3 215 rfl rfl), im5_predecessors, se5_predecessors⟩
theorem lv6_0_has {y : MT} (h : (M_nm y).cls = RX6) : LkS y 65 M0_has := ⟨by rw [h]; exact (tm3 216 rfl rfl), sm0_has⟩
theorem lv6_5_putEdge {y : MT} (h : (M_nm y).cls = RX6) : LkV y 71 M5_putEdge := ⟨by rw [h]; exact (tm3 217 rfl rfl), im5_putEdge, se5_putEdge⟩
theorem lv7_7_drawRings {y : MT} (h : (M_nm y).cls = RX7) : LkV y 22 M7_drawRings := ⟨by rw [h]; exact (tm2 61 rfl rfl), im7_drawRings, se7_drawRings⟩
theorem lv7_7_lowestSuccessor {y : MT} (h : (M_nm y).cls = RX7) : LkS y 26 M7_lowestSuccessor := ⟨by rw [h]; exact (tm2 70 rfl rfl), sm7_lowestSuccessor⟩
theorem lv7_0_has {y : MT} (h : (M_nm y).cls = RX7) : LkS y 29 M0_has := ⟨by rw [h]; exact (tm2 65 rfl rfl), sm0_has⟩
theorem lv7_7_predecessorsOfAll {y : MT} (h : (M_nm y).cls = RX7) : LkS y 35 M7_predecessorsOfAll := ⟨by rw [h]; exact (tm2 66 rfl rfl), sm7_predecessorsOfAll⟩
theorem lv7_5_predecessors {y : MT} (h : (M_nm y).cls = RX7) : LkV y 44 M5_predecessors := ⟨by rw [h]; exact (tm2 69 rfl rfl), im5_predecessors, se5_predecessors⟩
theorem ln8_5_init {y : MT} (h : (M_nm y).cls = RX8) : LkIN y 9 M5_init := ⟨by rw [h]; exact List.mem_of_getElem? (i := 0) rfl, im5_init, rfl⟩
theorem lv8_3_init {y : MT} (h : (M_nm y).cls = RX8) : LkI y 22 M3_init := ⟨by rw [h]; exact (tm1 105 rfl rfl), im3_init, rfl⟩
theorem ln8_7_init {y : MT} (h : (M_nm y).cls = RX8) : LkIN y 31 M7_init := ⟨by rw [h]; exact List.mem_of_getElem? (i := 1) rfl, im7_init, rfl⟩
theorem ln8_4_init {y : MT} (h : (M_nm y).cls = RX8) : LkIN y 38 M4_init := ⟨by rw [h]; exact List.mem_of_getElem? (i := 2) rfl, im4_init, rfl⟩
theorem ln8_1_init {y : MT} (h : (M_nm y).cls = RX8) : LkIN y 45 M1_init := ⟨by rw [h]; exact List.mem_of_getElem? (i := 3) rfl, im1_init, rfl⟩
theorem ln8_2_init {y : MT} (h : (M_nm y).cls = RX8) : LkIN y 52 M2_init := ⟨by rw [h]; exact List.mem_of_getElem? (i := 4) rfl, im2_init, rfl⟩
theorem ln8_6_init {y : MT} (h : (M_nm y).cls = RX8) : LkIN y 59 M6_init := ⟨by rw [h]; exact List.mem_of_getElem? (i := 5) rfl, im6_init, rfl⟩
theorem lv8_8_isWithin {y : MT} (h : (M_nm y).cls = RX8) : LkS y 64 M8_isWithin := ⟨by rw [h]; exact (tm2 18 rfl rfl), sm8_isWithin⟩
theorem lv8_5_isFull {y : MT} (h : (M_nm y).cls = RX8) : LkV y 68 M5_isFull := ⟨by rw [h]; exact (tm2 21 rfl rfl), im5_isFull, se5_isFull⟩
theorem lv8_5_append {y : MT} (h : (M_nm y).cls = RX8) : LkV y 72 M5_append := ⟨by rw [h]; exact (tm2 25 rfl rfl), im5_append, se5_append⟩
theorem lv8_5_makeReady {y : MT} (h : (M_nm y).cls = RX8) : LkV y 76 M5_makeReady := ⟨by rw [h]; exact (tm2 33 rfl rfl), im5_makeReady, se5_makeReady⟩
theorem lv8_5_holds {y : MT} (h : (M_nm y).cls = RX8) : LkV y 80 M5_holds := ⟨by rw [h]; exact (tm2 41 rfl rfl), im5_holds, se5_holds⟩
theorem lv8_3_beforeSets {y : MT} (h : (M_nm y).cls = RX8) : LkV y 84 M3_beforeSets := ⟨by rw [h]; exact (tm2 45 rfl rfl), im3_beforeSets, se3_beforeSets⟩
theorem lv8_0_has {y : MT} (h : (M_nm y).cls = RX8) : LkS y 88 M0_has := ⟨by rw [h]; exact (tm2 56 rfl rfl), sm0_has⟩
theorem lv8_7_remember {y : MT} (h : (M_nm y).cls = RX8) : LkV y 94 M7_remember := ⟨by rw [h]; exact (tm2 57 rfl rfl), im7_remember, se7_remember⟩
theorem lv8_5_followsEdges {y : MT} (h : (M_nm y).cls = RX8) : LkV y 98 M5_followsEdges := ⟨by rw [h]; exact (tm2 73 rfl rfl), im5_followsEdges, se5_followsEdges⟩
theorem lv8_5_putEdge {y : MT} (h : (M_nm y).cls = RX8) : LkV y 101 M5_putEdge := ⟨by rw [h]; exact (tm2 77 rfl rfl), im5_putEdge, se5_putEdge⟩
theorem lv8_5_settle {y : MT} (h : (M_nm y).cls = RX8) : LkV y 105 M5_settle := ⟨by rw [h]; exact (tm2 85 rfl rfl), im5_settle, se5_settle⟩
theorem lv8_5_edgeCount {y : MT} (h : (M_nm y).cls = RX8) : LkV y 108 M5_edgeCount := ⟨by rw [h]; exact (tm2 109 rfl rfl), im5_edgeCount, se5_edgeCount⟩
theorem lv8_5_predecessors {y : MT} (h : (M_nm y).cls = RX8) : LkV y 120 M5_predecessors := ⟨by rw [h]; exact (tm2 127 rfl rfl), im5_predecessors, se5_predecessors⟩
theorem lv8_5_dropEdge {y : MT} (h : (M_nm y).cls = RX8) : LkV y 124 M5_dropEdge := ⟨by rw [h]; exact (tm2 128 rfl rfl), im5_dropEdge, se5_dropEdge⟩
theorem lv8_5_hasEnded {y : MT} (h : (M_nm y).cls = RX8) : LkV y 127 M5_hasEnded := ⟨by rw [h]; exact (tm2 133 rfl rfl), im5_hasEnded, se5_hasEnded⟩
theorem lv8_5_removeItems {y : MT} (h : (M_nm y).cls = RX8) : LkV y 142 M5_removeItems := ⟨by rw [h]; exact (tm2 146 rfl rfl), im5_removeItems, se5_removeItems⟩
theorem lv8_7_forget {y : MT} (h : (M_nm y).cls = RX8) : LkV y 145 M7_forget := ⟨by rw [h]; exact (tm2 150 rfl rfl), im7_forget, se7_forget⟩
theorem lv8_3_heights {y : MT} (h : (M_nm y).cls = RX8) : LkV y 148 M3_heights := ⟨by rw [h]; exact (tm2 158 rfl rfl), im3_heights, se3_heights⟩
theorem lv8_5_nextToReceive {y : MT} (h : (M_nm y).cls = RX8) : LkV y 151 M5_nextToReceive := ⟨by rw [h]; exact (tm2 170 rfl rfl), im5_nextToReceive, se5_nextToReceive⟩
theorem lv8_5_takeOut {y : MT} (h : (M_nm y).cls = RX8) : LkV y 155 M5_takeOut := ⟨by rw [h]; exact (tm2 190 rfl rfl), im5_takeOut, se5_takeOut⟩
theorem lv8_5_isValid {y : MT} (h : (M_nm y).cls = RX8) : LkV y 161 M5_isValid := ⟨by rw [h]; exact (tm2 202 rfl rfl), im5_isValid, se5_isValid⟩
theorem lv8_5_endAs {y : MT} (h : (M_nm y).cls = RX8) : LkV y 164 M5_endAs := ⟨by rw [h]; exact (tm2 206 rfl rfl), im5_endAs, se5_endAs⟩
theorem lv8_5_comeBack {y : MT} (h : (M_nm y).cls = RX8) : LkV y 171 M5_comeBack := ⟨by rw [h]; exact (tm2 219 rfl rfl), im5_comeBack, se5_comeBack⟩
theorem lv8_5_hasFailed {y : MT} (h : (M_nm y).cls = RX8) : LkV y 183 M5_hasFailed := ⟨by rw [h]; exact (tm2 235 rfl rfl), im5_hasFailed, se5_hasFailed⟩
theorem lv8_5_startAnew {y : MT} (h : (M_nm y).cls = RX8) : LkV y 186 M5_startAnew := ⟨by rw [h]; exact (tm2 236 rfl rfl), im5_startAnew, se5_startAnew⟩
theorem lv8_5_passTick {y : MT} (h : (M_nm y).cls = RX8) : LkV y 190 M5_passTick := ⟨by rw [h]; exact (tm3 1 rfl rfl), im5_passTick, se5_passTick⟩
theorem lv8_5_setIn {y : MT} (h : (M_nm y).cls = RX8) : LkV y 193 M5_setIn := ⟨by rw [h]; exact (tm3 26 rfl rfl), im5_setIn, se5_setIn⟩
theorem lv8_5_edgeKind {y : MT} (h : (M_nm y).cls = RX8) : LkV y 211 M5_edgeKind := ⟨by rw [h]; exact (tm3 35 rfl rfl), im5_edgeKind, se5_edgeKind⟩
theorem lv8_5_rankNow {y : MT} (h : (M_nm y).cls = RX8) : LkV y 215 M5_rankNow := ⟨by rw [h]; exact (tm3 43 rfl rfl), im5_rankNow, se5_rankNow⟩
theorem lv8_5_doomedBy {y : MT} (h : (M_nm y).cls = RX8) : LkV y 218 M5_doomedBy := ⟨by rw [h]; exact (tm3 56 rfl rfl), im5_doomedBy, se5_doomedBy⟩
theorem lv8_3_hasDetour {y : MT} (h : (M_nm y).cls = RX8) : LkV y 221 M3_hasDetour := ⟨by rw [h]; exact (tm3 64 rfl rfl), im3_hasDetour, se3_hasDetour⟩
theorem lv8_4_make {y : MT} (h : (M_nm y).cls = RX8) : LkV y 224 M4_make := ⟨by rw [h]; exact (tm3 73 rfl rfl), im4_make, se4_make⟩
theorem lv8_3_leads {y : MT} (h : (M_nm y).cls = RX8) : LkV y 237 M3_leads := ⟨by rw [h]; exact (tm3 120 rfl rfl), im3_leads, se3_leads⟩
theorem lv8_5_unendedSet {y : MT} (h : (M_nm y).cls = RX8) : LkV y 240 M5_unendedSet := ⟨by rw [h]; exact (tm3 132 rfl rfl), im5_unendedSet, se5_unendedSet⟩
theorem lv8_6_bitCount_0f7a4 {y : MT} (h : (M_nm y).cls = RX8) : LkS y 243 M6_bitCount_0f7a4 := ⟨by rw [h]; exact (tm3 133 rfl rfl), sm6_bitCount_0f7a4⟩
theorem lv8_1_countPairs {y : MT} (h : (M_nm y).cls = RX8) : LkV y 248 M1_countPairs := ⟨by rw [h]; exact (tm3 134 rfl rfl), im1_countPairs, se1_countPairs⟩
theorem lv8_2_countFor {y : MT} (h : (M_nm y).cls = RX8) : LkV y 254 M2_countFor := ⟨by rw [h]; exact (tm3 155 rfl rfl), im2_countFor, se2_countFor⟩
theorem lv8_6_append {y : MT} (h : (M_nm y).cls = RX8) : LkV y 259 M6_append := ⟨by rw [h]; exact (tm3 176 rfl rfl), im6_append, se6_append⟩
theorem lv8_6_read {y : MT} (h : (M_nm y).cls = RX8) : LkV y 261 M6_read := ⟨by rw [h]; exact (tm3 188 rfl rfl), im6_read, se6_read⟩
theorem lv8_5_copyItems {y : MT} (h : (M_nm y).cls = RX8) : LkV y 267 M5_copyItems := ⟨by rw [h]; exact (tm3 222 rfl rfl), im5_copyItems, se5_copyItems⟩
theorem lv8_5_copyAll {y : MT} (h : (M_nm y).cls = RX8) : LkV y 270 M5_copyAll := ⟨by rw [h]; exact (tm3 236 rfl rfl), im5_copyAll, se5_copyAll⟩
theorem lv9_9_isIn {y : MT} (h : (M_nm y).cls = RX9) : LkS y 65 M9_isIn := ⟨by rw [h]; exact (tm4 94 rfl rfl), sm9_isIn⟩
theorem lv9_9_of {y : MT} (h : (M_nm y).cls = RX9) : LkV y 69 M9_of := ⟨by rw [h]; exact (tm4 109 rfl rfl), im9_of, se9_of⟩
theorem lv9_9_set {y : MT} (h : (M_nm y).cls = RX9) : LkV y 73 M9_set := ⟨by rw [h]; exact (tm4 101 rfl rfl), im9_set, se9_set⟩
theorem lv9_9_kindOf {y : MT} (h : (M_nm y).cls = RX9) : LkV y 77 M9_kindOf := ⟨by rw [h]; exact (tm4 117 rfl rfl), im9_kindOf, se9_kindOf⟩
theorem lv9_9_hasEnded {y : MT} (h : (M_nm y).cls = RX9) : LkV y 80 M9_hasEnded := ⟨by rw [h]; exact (tm4 121 rfl rfl), im9_hasEnded, se9_hasEnded⟩
theorem lv9_9_due {y : MT} (h : (M_nm y).cls = RX9) : LkV y 91 M9_due := ⟨by rw [h]; exact (tm4 113 rfl rfl), im9_due, se9_due⟩
theorem lv9_9_becomesReady {y : MT} (h : (M_nm y).cls = RX9) : LkV y 95 M9_becomesReady := ⟨by rw [h]; exact (tm4 125 rfl rfl), im9_becomesReady, se9_becomesReady⟩
theorem lv9_9_append {y : MT} (h : (M_nm y).cls = RX9) : LkV y 99 M9_append := ⟨by rw [h]; exact (tm4 97 rfl rfl), im9_append, se9_append⟩
theorem lv9_9_settle {y : MT} (h : (M_nm y).cls = RX9) : LkV y 103 M9_settle := ⟨by rw [h]; exact (tm4 105 rfl rfl), im9_settle, se9_settle⟩
theorem lv9_9_isItem {y : MT} (h : (M_nm y).cls = RX9) : LkV y 109 M9_isItem := ⟨by rw [h]; exact (tm4 133 rfl rfl), im9_isItem, se9_isItem⟩
theorem lv9_9_measureTo {y : MT} (h : (M_nm y).cls = RX9) : LkV y 112 M9_measureTo := ⟨by rw [h]; exact (tm4 137 rfl rfl), im9_measureTo, se9_measureTo⟩
theorem lv9_9_keepPath {y : MT} (h : (M_nm y).cls = RX9) : LkV y 116 M9_keepPath := ⟨by rw [h]; exact (tm4 141 rfl rfl), im9_keepPath, se9_keepPath⟩
theorem lv9_9_edges {y : MT} (h : (M_nm y).cls = RX9) : LkV y 119 M9_edges := ⟨by rw [h]; exact (tm4 145 rfl rfl), im9_edges, se9_edges⟩
theorem lv9_9_ownWork {y : MT} (h : (M_nm y).cls = RX9) : LkV y 123 M9_ownWork := ⟨by rw [h]; exact (tm4 181 rfl rfl), im9_ownWork, se9_ownWork⟩
theorem lv9_9_measure {y : MT} (h : (M_nm y).cls = RX9) : LkV y 126 M9_measure := ⟨by rw [h]; exact (tm4 177 rfl rfl), im9_measure, se9_measure⟩
theorem lv9_9_canReceive {y : MT} (h : (M_nm y).cls = RX9) : LkV y 129 M9_canReceive := ⟨by rw [h]; exact (tm4 185 rfl rfl), im9_canReceive, se9_canReceive⟩
theorem lv9_9_rankOf {y : MT} (h : (M_nm y).cls = RX9) : LkV y 132 M9_rankOf := ⟨by rw [h]; exact (tm4 189 rfl rfl), im9_rankOf, se9_rankOf⟩
theorem lv9_9_isValid {y : MT} (h : (M_nm y).cls = RX9) : LkV y 135 M9_isValid := ⟨by rw [h]; exact (tm4 201 rfl rfl), im9_isValid, se9_isValid⟩
theorem lv9_9_comeBack {y : MT} (h : (M_nm y).cls = RX9) : LkV y 139 M9_comeBack := ⟨by rw [h]; exact (tm4 209 rfl rfl), im9_comeBack, se9_comeBack⟩
theorem lv9_9_layAhead {y : MT} (h : (M_nm y).cls = RX9) : LkV y 142 M9_layAhead := ⟨by rw [h]; exact (tm5 26 rfl rfl), im9_layAhead, se9_layAhead⟩
theorem lv9_9_possibleAt {y : MT} (h : (M_nm y).cls = RX9) : LkV y 145 M9_possibleAt := ⟨by rw [h]; exact (tm5 46 rfl rfl), im9_possibleAt, se9_possibleAt⟩
theorem lv9_9_planRank {y : MT} (h : (M_nm y).cls = RX9) : LkV y 148 M9_planRank := ⟨by rw [h]; exact (tm5 50 rfl rfl), im9_planRank, se9_planRank⟩
theorem lv9_9_planned {y : MT} (h : (M_nm y).cls = RX9) : LkV y 152 M9_planned := ⟨by rw [h]; exact (tm5 42 rfl rfl), im9_planned, se9_planned⟩
theorem lv9_9_changePartners {y : MT} (h : (M_nm y).cls = RX9) : LkV y 155 M9_changePartners := ⟨by rw [h]; exact (tm5 74 rfl rfl), im9_changePartners, se9_changePartners⟩
theorem lv9_9_isMatched {y : MT} (h : (M_nm y).cls = RX9) : LkV y 158 M9_isMatched := ⟨by rw [h]; exact (tm5 70 rfl rfl), im9_isMatched, se9_isMatched⟩
theorem lv9_9_isLast {y : MT} (h : (M_nm y).cls = RX9) : LkV y 163 M9_isLast := ⟨by rw [h]; exact (tm5 83 rfl rfl), im9_isLast, se9_isLast⟩
theorem lv9_9_isDigit {y : MT} (h : (M_nm y).cls = RX9) : LkV y 175 M9_isDigit := ⟨by rw [h]; exact (tm5 103 rfl rfl), im9_isDigit, se9_isDigit⟩
theorem lv9_9_fails {y : MT} (h : (M_nm y).cls = RX9) : LkV y 179 M9_fails := ⟨by rw [h]; exact (tm5 107 rfl rfl), im9_fails, se9_fails⟩
theorem lv9_9_number {y : MT} (h : (M_nm y).cls = RX9) : LkV y 185 M9_number := ⟨by rw [h]; exact (tm5 111 rfl rfl), im9_number, se9_number⟩
theorem lv9_9_readItem {y : MT} (h : (M_nm y).cls = RX9) : LkV y 188 M9_readItem := ⟨by rw [h]; exact (tm5 99 rfl rfl), im9_readItem, se9_readItem⟩
theorem lv9_9_fault {y : MT} (h : (M_nm y).cls = RX9) : LkV y 191 M9_fault := ⟨by rw [h]; exact (tm5 119 rfl rfl), im9_fault, se9_fault⟩
theorem lvL_8_init {y : MT} (h : (M_nm y).cls = "DependencyQueueLaw") : LkI y 9 M8_init := ⟨by rw [h]; exact (tm1 16 rfl rfl), im8_init, rfl⟩
theorem lvL_9_init {y : MT} (h : (M_nm y).cls = "DependencyQueueLaw") : LkI y 12 M9_init := ⟨by rw [h]; exact (tm4 7 rfl rfl), im9_init, rfl⟩
theorem lvL_8_add {y : MT} (h : (M_nm y).cls = "DependencyQueueLaw") : LkV y 13 M8_add := ⟨by rw [h]; exact (tm2 14 rfl rfl), im8_add, se8_add⟩
theorem lvL_9_add {y : MT} (h : (M_nm y).cls = "DependencyQueueLaw") : LkV y 17 M9_add := ⟨by rw [h]; exact (tm4 90 rfl rfl), im9_add, se9_add⟩
theorem lvL_8_link {y : MT} (h : (M_nm y).cls = "DependencyQueueLaw") : LkV y 18 M8_link := ⟨by rw [h]; exact (tm2 37 rfl rfl), im8_link, se8_link⟩
theorem lvL_9_link {y : MT} (h : (M_nm y).cls = "DependencyQueueLaw") : LkV y 22 M9_link := ⟨by rw [h]; exact (tm4 129 rfl rfl), im9_link, se9_link⟩
theorem lvL_8_witness {y : MT} (h : (M_nm y).cls = "DependencyQueueLaw") : LkV y 23 M8_witness := ⟨by rw [h]; exact (tm2 119 rfl rfl), im8_witness, se8_witness⟩
theorem lvL_9_witness {y : MT} (h : (M_nm y).cls = "DependencyQueueLaw") : LkV y 27 M9_witness := ⟨by rw [h]; exact (tm4 149 rfl rfl), im9_witness, se9_witness⟩
theorem lvL_8_unlink {y : MT} (h : (M_nm y).cls = "DependencyQueueLaw") : LkV y 28 M8_unlink := ⟨by rw [h]; exact (tm2 123 rfl rfl), im8_unlink, se8_unlink⟩
theorem lvL_9_unlink {y : MT} (h : (M_nm y).cls = "DependencyQueueLaw") : LkV y 32 M9_unlink := ⟨by rw [h]; exact (tm4 153 rfl rfl), im9_unlink, se9_unlink⟩
theorem lvL_8_setPriority {y : MT} (h : (M_nm y).cls = "DependencyQueueLaw") : LkV y 33 M8_setPriority := ⟨by rw [h]; exact (tm2 129 rfl rfl), im8_setPriority, se8_setPriority⟩
theorem lvL_9_setPriority {y : MT} (h : (M_nm y).cls = "DependencyQueueLaw") : LkV y 36 M9_setPriority := ⟨by rw [h]; exact (tm4 157 rfl rfl), im9_setPriority, se9_setPriority⟩
theorem lvL_8_setPolicy {y : MT} (h : (M_nm y).cls = "DependencyQueueLaw") : LkV y 37 M8_setPolicy := ⟨by rw [h]; exact (tm2 134 rfl rfl), im8_setPolicy, se8_setPolicy⟩
theorem lvL_9_setPolicy {y : MT} (h : (M_nm y).cls = "DependencyQueueLaw") : LkV y 40 M9_setPolicy := ⟨by rw [h]; exact (tm4 161 rfl rfl), im9_setPolicy, se9_setPolicy⟩
theorem lvL_8_setGroupLimit {y : MT} (h : (M_nm y).cls = "DependencyQueueLaw") : LkV y 41 M8_setGroupLimit := ⟨by rw [h]; exact (tm2 138 rfl rfl), im8_setGroupLimit, se8_setGroupLimit⟩
theorem lvL_9_setGroupLimit {y : MT} (h : (M_nm y).cls = "DependencyQueueLaw") : LkV y 44 M9_setGroupLimit := ⟨by rw [h]; exact (tm4 165 rfl rfl), im9_setGroupLimit, se9_setGroupLimit⟩
theorem lvL_8_clear {y : MT} (h : (M_nm y).cls = "DependencyQueueLaw") : LkV y 45 M8_clear := ⟨by rw [h]; exact (tm2 142 rfl rfl), im8_clear, se8_clear⟩
theorem lvL_9_clear {y : MT} (h : (M_nm y).cls = "DependencyQueueLaw") : LkV y 49 M9_clear := ⟨by rw [h]; exact (tm4 169 rfl rfl), im9_clear, se9_clear⟩
theorem lvL_8_receive {y : MT} (h : (M_nm y).cls = "DependencyQueueLaw") : LkV y 50 M8_receive := ⟨by rw [h]; exact (tm2 154 rfl rfl), im8_receive, se8_receive⟩
theorem lvL_9_receive {y : MT} (h : (M_nm y).cls = "DependencyQueueLaw") : LkV y 53 M9_receive := ⟨by rw [h]; exact (tm4 173 rfl rfl), im9_receive, se9_receive⟩
theorem lvL_8_receipt {y : MT} (h : (M_nm y).cls = "DependencyQueueLaw") : LkV y 54 M8_receipt := ⟨by rw [h]; exact (tm2 194 rfl rfl), im8_receipt, se8_receipt⟩
theorem lvL_9_receipt {y : MT} (h : (M_nm y).cls = "DependencyQueueLaw") : LkV y 57 M9_receipt := ⟨by rw [h]; exact (tm4 193 rfl rfl), im9_receipt, se9_receipt⟩
theorem lvL_8_finish {y : MT} (h : (M_nm y).cls = "DependencyQueueLaw") : LkV y 58 M8_finish := ⟨by rw [h]; exact (tm2 198 rfl rfl), im8_finish, se8_finish⟩
theorem lvL_9_finish {y : MT} (h : (M_nm y).cls = "DependencyQueueLaw") : LkV y 61 M9_finish := ⟨by rw [h]; exact (tm4 197 rfl rfl), im9_finish, se9_finish⟩
theorem lvL_8_giveBack {y : MT} (h : (M_nm y).cls = "DependencyQueueLaw") : LkV y 62 M8_giveBack := ⟨by rw [h]; exact (tm2 215 rfl rfl), im8_giveBack, se8_giveBack⟩
theorem lvL_9_giveBack {y : MT} (h : (M_nm y).cls = "DependencyQueueLaw") : LkV y 65 M9_giveBack := ⟨by rw [h]; exact (tm4 205 rfl rfl), im9_giveBack, se9_giveBack⟩
theorem lvL_8_extend {y : MT} (h : (M_nm y).cls = "DependencyQueueLaw") : LkV y 66 M8_extend := ⟨by rw [h]; exact (tm2 223 rfl rfl), im8_extend, se8_extend⟩
theorem lvL_9_extend {y : MT} (h : (M_nm y).cls = "DependencyQueueLaw") : LkV y 69 M9_extend := ⟨by rw [h]; exact (tm4 213 rfl rfl), im9_extend, se9_extend⟩
theorem lvL_8_cancel {y : MT} (h : (M_nm y).cls = "DependencyQueueLaw") : LkV y 70 M8_cancel := ⟨by rw [h]; exact (tm2 227 rfl rfl), im8_cancel, se8_cancel⟩
theorem lvL_9_cancel {y : MT} (h : (M_nm y).cls = "DependencyQueueLaw") : LkV y 73 M9_cancel := ⟨by rw [h]; exact (tm4 217 rfl rfl), im9_cancel, se9_cancel⟩
theorem lvL_8_revive {y : MT} (h : (M_nm y).cls = "DependencyQueueLaw") : LkV y 74 M8_revive := ⟨by rw [h]; exact (tm2 231 rfl rfl), im8_revive, se8_revive⟩
theorem lvL_9_revive {y : MT} (h : (M_nm y).cls = "DependencyQueueLaw") : LkV y 77 M9_revive := ⟨by rw [h]; exact (tm4 221 rfl rfl), im9_revive, se9_revive⟩
theorem lvL_8_tick {y : MT} (h : (M_nm y).cls = "DependencyQueueLaw") : LkV y 78 M8_tick := ⟨by rw [h]; exact (tm2 237 rfl rfl), im8_tick, se8_tick⟩
theorem lvL_9_tick {y : MT} (h : (M_nm y).cls = "DependencyQueueLaw") : LkV y 81 M9_tick := ⟨by rw [h]; exact (tm4 225 rfl rfl), im9_tick, se9_tick⟩
theorem lvL_8_items {y : MT} (h : (M_nm y).cls = "DependencyQueueLaw") : LkV y 82 M8_items := ⟨by rw [h]; exact (tm3 6 rfl rfl), im8_items, se8_items⟩
theorem lvL_9_items {y : MT} (h : (M_nm y).cls = "DependencyQueueLaw") : LkV y 85 M9_items := ⟨by rw [h]; exact (tm4 229 rfl rfl), im9_items, se9_items⟩
theorem lvL_8_edges {y : MT} (h : (M_nm y).cls = "DependencyQueueLaw") : LkV y 86 M8_edges := ⟨by rw [h]; exact (tm3 10 rfl rfl), im8_edges, se8_edges⟩
theorem lvL_9_edges {y : MT} (h : (M_nm y).cls = "DependencyQueueLaw") : LkV y 89 M9_edges := ⟨by rw [h]; exact (tm4 233 rfl rfl), im9_edges, se9_edges⟩
theorem lvL_8_time {y : MT} (h : (M_nm y).cls = "DependencyQueueLaw") : LkV y 90 M8_time := ⟨by rw [h]; exact (tm3 14 rfl rfl), im8_time, se8_time⟩
theorem lvL_9_time {y : MT} (h : (M_nm y).cls = "DependencyQueueLaw") : LkV y 93 M9_time := ⟨by rw [h]; exact (tm4 234 rfl rfl), im9_time, se9_time⟩
theorem lvL_8_state {y : MT} (h : (M_nm y).cls = "DependencyQueueLaw") : LkV y 94 M8_state := ⟨by rw [h]; exact (tm3 18 rfl rfl), im8_state, se8_state⟩
theorem lvL_9_state {y : MT} (h : (M_nm y).cls = "DependencyQueueLaw") : LkV y 97 M9_state := ⟨by rw [h]; exact (tm4 238 rfl rfl), im9_state, se9_state⟩
theorem lvL_8_itemsIn {y : MT} (h : (M_nm y).cls = "DependencyQueueLaw") : LkV y 98 M8_itemsIn := ⟨by rw [h]; exact (tm3 22 rfl rfl), im8_itemsIn, se8_itemsIn⟩
theorem lvL_9_itemsIn {y : MT} (h : (M_nm y).cls = "DependencyQueueLaw") : LkV y 101 M9_itemsIn := ⟨by rw [h]; exact (tm5 2 rfl rfl), im9_itemsIn, se9_itemsIn⟩
theorem lvL_8_property {y : MT} (h : (M_nm y).cls = "DependencyQueueLaw") : LkV y 102 M8_property := ⟨by rw [h]; exact (tm3 27 rfl rfl), im8_property, se8_property⟩
theorem lvL_9_property {y : MT} (h : (M_nm y).cls = "DependencyQueueLaw") : LkV y 105 M9_property := ⟨by rw [h]; exact (tm5 6 rfl rfl), im9_property, se9_property⟩
theorem lvL_8_edge {y : MT} (h : (M_nm y).cls = "DependencyQueueLaw") : LkV y 106 M8_edge := ⟨by rw [h]; exact (tm3 31 rfl rfl), im8_edge, se8_edge⟩
theorem lvL_9_edge {y : MT} (h : (M_nm y).cls = "DependencyQueueLaw") : LkV y 109 M9_edge := ⟨by rw [h]; exact (tm5 10 rfl rfl), im9_edge, se9_edge⟩
theorem lvL_8_rank {y : MT} (h : (M_nm y).cls = "DependencyQueueLaw") : LkV y 110 M8_rank := ⟨by rw [h]; exact (tm3 39 rfl rfl), im8_rank, se8_rank⟩
theorem lvL_9_rank {y : MT} (h : (M_nm y).cls = "DependencyQueueLaw") : LkV y 113 M9_rank := ⟨by rw [h]; exact (tm5 14 rfl rfl), im9_rank, se9_rank⟩
theorem lvL_8_height {y : MT} (h : (M_nm y).cls = "DependencyQueueLaw") : LkV y 114 M8_height := ⟨by rw [h]; exact (tm3 44 rfl rfl), im8_height, se8_height⟩
theorem lvL_9_height {y : MT} (h : (M_nm y).cls = "DependencyQueueLaw") : LkV y 117 M9_height := ⟨by rw [h]; exact (tm5 18 rfl rfl), im9_height, se9_height⟩
theorem lvL_8_before {y : MT} (h : (M_nm y).cls = "DependencyQueueLaw") : LkV y 118 M8_before := ⟨by rw [h]; exact (tm3 48 rfl rfl), im8_before, se8_before⟩
theorem lvL_9_before {y : MT} (h : (M_nm y).cls = "DependencyQueueLaw") : LkV y 121 M9_before := ⟨by rw [h]; exact (tm5 22 rfl rfl), im9_before, se9_before⟩
theorem lvL_8_wouldDoom {y : MT} (h : (M_nm y).cls = "DependencyQueueLaw") : LkV y 122 M8_wouldDoom := ⟨by rw [h]; exact (tm3 52 rfl rfl), im8_wouldDoom, se8_wouldDoom⟩
theorem lvL_9_wouldDoom {y : MT} (h : (M_nm y).cls = "DependencyQueueLaw") : LkV y 125 M9_wouldDoom := ⟨by rw [h]; exact (tm5 30 rfl rfl), im9_wouldDoom, se9_wouldDoom⟩
theorem lvL_8_isSuperfluous {y : MT} (h : (M_nm y).cls = "DependencyQueueLaw") : LkV y 126 M8_isSuperfluous := ⟨by rw [h]; exact (tm3 60 rfl rfl), im8_isSuperfluous, se8_isSuperfluous⟩
theorem lvL_9_isSuperfluous {y : MT} (h : (M_nm y).cls = "DependencyQueueLaw") : LkV y 129 M9_isSuperfluous := ⟨by rw [h]; exact (tm5 34 rfl rfl), im9_isSuperfluous, se9_isSuperfluous⟩
theorem lvL_8_planLength {y : MT} (h : (M_nm y).cls = "DependencyQueueLaw") : LkV y 130 M8_planLength := ⟨by rw [h]; exact (tm3 69 rfl rfl), im8_planLength, se8_planLength⟩
theorem lvL_9_planLength {y : MT} (h : (M_nm y).cls = "DependencyQueueLaw") : LkV y 133 M9_planLength := ⟨by rw [h]; exact (tm5 38 rfl rfl), im9_planLength, se9_planLength⟩
theorem lvL_8_planStart {y : MT} (h : (M_nm y).cls = "DependencyQueueLaw") : LkV y 134 M8_planStart := ⟨by rw [h]; exact (tm3 105 rfl rfl), im8_planStart, se8_planStart⟩
theorem lvL_9_planStart {y : MT} (h : (M_nm y).cls = "DependencyQueueLaw") : LkV y 137 M9_planStart := ⟨by rw [h]; exact (tm5 54 rfl rfl), im9_planStart, se9_planStart⟩
theorem lvL_8_bestWorkers {y : MT} (h : (M_nm y).cls = "DependencyQueueLaw") : LkV y 138 M8_bestWorkers := ⟨by rw [h]; exact (tm3 109 rfl rfl), im8_bestWorkers, se8_bestWorkers⟩
theorem lvL_9_bestWorkers {y : MT} (h : (M_nm y).cls = "DependencyQueueLaw") : LkV y 141 M9_bestWorkers := ⟨by rw [h]; exact (tm5 58 rfl rfl), im9_bestWorkers, se9_bestWorkers⟩
theorem lvL_8_slack {y : MT} (h : (M_nm y).cls = "DependencyQueueLaw") : LkV y 142 M8_slack := ⟨by rw [h]; exact (tm3 113 rfl rfl), im8_slack, se8_slack⟩
theorem lvL_9_slack {y : MT} (h : (M_nm y).cls = "DependencyQueueLaw") : LkV y 145 M9_slack := ⟨by rw [h]; exact (tm5 62 rfl rfl), im9_slack, se9_slack⟩
theorem lvL_8_width {y : MT} (h : (M_nm y).cls = "DependencyQueueLaw") : LkV y 146 M8_width := ⟨by rw [h]; exact (tm3 128 rfl rfl), im8_width, se8_width⟩
theorem lvL_9_width {y : MT} (h : (M_nm y).cls = "DependencyQueueLaw") : LkV y 149 M9_width := ⟨by rw [h]; exact (tm5 66 rfl rfl), im9_width, se9_width⟩
theorem lvL_8_orders {y : MT} (h : (M_nm y).cls = "DependencyQueueLaw") : LkV y 150 M8_orders := ⟨by rw [h]; exact (tm3 150 rfl rfl), im8_orders, se8_orders⟩
theorem lvL_9_orders {y : MT} (h : (M_nm y).cls = "DependencyQueueLaw") : LkV y 154 M9_orders := ⟨by rw [h]; exact (tm5 78 rfl rfl), im9_orders, se9_orders⟩
theorem lvL_8_write {y : MT} (h : (M_nm y).cls = "DependencyQueueLaw") : LkV y 155 M8_write := ⟨by rw [h]; exact (tm3 172 rfl rfl), im8_write, se8_write⟩
theorem lvL_9_write {y : MT} (h : (M_nm y).cls = "DependencyQueueLaw") : LkV y 158 M9_write := ⟨by rw [h]; exact (tm5 87 rfl rfl), im9_write, se9_write⟩
theorem lvL_8_wipe {y : MT} (h : (M_nm y).cls = "DependencyQueueLaw") : LkV y 159 M8_wipe := ⟨by rw [h]; exact (tm3 180 rfl rfl), im8_wipe, se8_wipe⟩
theorem lvL_9_wipe {y : MT} (h : (M_nm y).cls = "DependencyQueueLaw") : LkV y 162 M9_wipe := ⟨by rw [h]; exact (tm5 91 rfl rfl), im9_wipe, se9_wipe⟩
theorem lvL_8_fault {y : MT} (h : (M_nm y).cls = "DependencyQueueLaw") : LkV y 163 M8_fault := ⟨by rw [h]; exact (tm3 184 rfl rfl), im8_fault, se8_fault⟩
theorem lvL_9_fault {y : MT} (h : (M_nm y).cls = "DependencyQueueLaw") : LkV y 166 M9_fault := ⟨by rw [h]; exact (tm5 95 rfl rfl), im9_fault, se9_fault⟩
theorem lvL_8_load {y : MT} (h : (M_nm y).cls = "DependencyQueueLaw") : LkV y 167 M8_load := ⟨by rw [h]; exact (tm3 218 rfl rfl), im8_load, se8_load⟩
theorem lvL_9_load {y : MT} (h : (M_nm y).cls = "DependencyQueueLaw") : LkV y 170 M9_load := ⟨by rw [h]; exact (tm5 115 rfl rfl), im9_load, se9_load⟩
theorem lvL_8_save {y : MT} (h : (M_nm y).cls = "DependencyQueueLaw") : LkV y 171 M8_save := ⟨by rw [h]; exact (tm3 232 rfl rfl), im8_save, se8_save⟩
theorem lvL_9_save {y : MT} (h : (M_nm y).cls = "DependencyQueueLaw") : LkV y 174 M9_save := ⟨by rw [h]; exact (tm5 120 rfl rfl), im9_save, se9_save⟩
theorem lvL_8_restore {y : MT} (h : (M_nm y).cls = "DependencyQueueLaw") : LkV y 175 M8_restore := ⟨by rw [h]; exact (tm4 1 rfl rfl), im8_restore, se8_restore⟩
theorem lvL_9_restore {y : MT} (h : (M_nm y).cls = "DependencyQueueLaw") : LkV y 178 M9_restore := ⟨by rw [h]; exact (tm5 124 rfl rfl), im9_restore, se9_restore⟩
end
section
/-! field and method links by lookup -/
def asc {α : Type} : List (Nat × α) → Nat → Option α
  | [], _ => none
  | a :: l, i => bif a.1 == i then some a.2 else asc l i
theorem asc_mem {α : Type} (l : List (Nat × α)) (i : Nat) (v : α) (h : asc l i = some v) : (i, v) ∈ l := by
  induction l with
  | nil => cases h
  | cons a l ih =>
    unfold asc at h
    cases hq : a.1 == i with
    | true =>
      rw [hq] at h
      have e1 : a.1 = i := by simpa using hq
      have e2 : a.2 = v := Option.some.inj h
      exact List.mem_cons.mpr (Or.inl (by rw [← e1, ← e2]))
    | false =>
      rw [hq] at h
      exact List.mem_cons_of_mem _ (ih h)
def ft0 : List (Nat × Nat × Nat) := []
theorem ft0_ok : ∀ q ∈ ft0, FLc 0 q.1 q.2.1 q.2.2 := by
  unfold ft0
  exact fun _ h => absurd h List.not_mem_nil
def ft1 : List (Nat × Nat × Nat) := [(9, 1, 0), (15, 1, 1), (18, 1, 2)]
theorem ft1_ok : ∀ q ∈ ft1, FLc 1 q.1 q.2.1 q.2.2 := by
  unfold ft1
  exact List.forall_mem_cons.mpr ⟨fl1_9, List.forall_mem_cons.mpr ⟨fl1_15, List.forall_mem_cons.mpr ⟨fl1_18, fun _ h => absurd h List.not_mem_nil⟩⟩⟩
def ft2 : List (Nat × Nat × Nat) := [(9, 2, 0), (15, 2, 1), (19, 2, 2)]
theorem ft2_ok : ∀ q ∈ ft2, FLc 2 q.1 q.2.1 q.2.2 := by
  unfold ft2
  exact List.forall_mem_cons.mpr ⟨fl2_9, List.forall_mem_cons.mpr ⟨fl2_15, List.forall_mem_cons.mpr ⟨fl2_19, fun _ h => absurd h List.not_mem_nil⟩⟩⟩
def ft3 : List (Nat × Nat × Nat) := [(9, 3, 1), (15, 3, 2), (18, 3, 3), (21, 3, 0), (25, 5, 0)]
theorem ft3_ok : ∀ q ∈ ft3, FLc 3 q.1 q.2.1 q.2.2 := by
  unfold ft3
  exact List.forall_mem_cons.mpr ⟨fl3_9, List.forall_mem_cons.mpr ⟨fl3_15, List.forall_mem_cons.mpr ⟨fl3_18, List.forall_mem_cons.mpr ⟨fl3_21, List.forall_mem_cons.mpr ⟨fl3_25, fun _ h => absurd h List.not_mem_nil⟩⟩⟩⟩⟩
def ft4 : List (Nat × Nat × Nat) := [(9, 4, 0), (15, 4, 1), (19, 4, 2), (22, 4, 3), (25, 4, 4), (28, 4, 5), (31, 4, 6), (34, 4, 7), (43, 5, 0), (79, 5, 6)]
theorem ft4_ok : ∀ q ∈ ft4, FLc 4 q.1 q.2.1 q.2.2 := by
  unfold ft4
  exact List.forall_mem_cons.mpr ⟨fl4_9, List.forall_mem_cons.mpr ⟨fl4_15, List.forall_mem_cons.mpr ⟨fl4_19, List.forall_mem_cons.mpr ⟨fl4_22, List.forall_mem_cons.mpr ⟨fl4_25, List.forall_mem_cons.mpr ⟨fl4_28, List.forall_mem_cons.mpr ⟨fl4_31, List.forall_mem_cons.mpr ⟨fl4_34, List.forall_mem_cons.mpr ⟨fl4_43, List.forall_mem_cons.mpr ⟨fl4_79, fun _ h => absurd h List.not_mem_nil⟩⟩⟩⟩⟩⟩⟩⟩⟩⟩
def ft5 : List (Nat × Nat × Nat) := [(9, 5, 0), (15, 5, 1), (18, 5, 2), (21, 5, 3), (24, 5, 4), (27, 5, 5), (31, 5, 6), (34, 5, 7), (37, 5, 8), (40, 5, 9), (43, 5, 10), (46, 5, 11), (49, 5, 12), (52, 5, 13), (55, 5, 14), (58, 5, 15), (61, 5, 16), (64, 5, 17)]
theorem ft5_ok : ∀ q ∈ ft5, FLc 5 q.1 q.2.1 q.2.2 := by
  unfold ft5
  exact List.forall_mem_cons.mpr ⟨fl5_9, List.forall_mem_cons.mpr ⟨fl5_15, List.forall_mem_cons.mpr ⟨fl5_18, List.forall_mem_cons.mpr ⟨fl5_21, List.forall_mem_cons.mpr ⟨fl5_24, List.forall_mem_cons.mpr ⟨fl5_27, List.forall_mem_cons.mpr ⟨fl5_31, List.forall_mem_cons.mpr ⟨fl5_34, List.forall_mem_cons.mpr ⟨fl5_37, List.forall_mem_cons.mpr ⟨fl5_40, List.forall_mem_cons.mpr ⟨fl5_43, List.forall_mem_cons.mpr ⟨fl5_46, List.forall_mem_cons.mpr ⟨fl5_49, List.forall_mem_cons.mpr ⟨fl5_52, List.forall_mem_cons.mpr ⟨fl5_55, List.forall_mem_cons.mpr ⟨fl5_58, List.forall_mem_cons.mpr ⟨fl5_61, List.forall_mem_cons.mpr ⟨fl5_64, fun _ h => absurd h List.not_mem_nil⟩⟩⟩⟩⟩⟩⟩⟩⟩⟩⟩⟩⟩⟩⟩⟩⟩⟩
def ft6 : List (Nat × Nat × Nat) := [(9, 6, 0), (18, 6, 1), (22, 6, 2), (26, 6, 3)]
theorem ft6_ok : ∀ q ∈ ft6, FLc 6 q.1 q.2.1 q.2.2 := by
  unfold ft6
  exact List.forall_mem_cons.mpr ⟨fl6_9, List.forall_mem_cons.mpr ⟨fl6_18, List.forall_mem_cons.mpr ⟨fl6_22, List.forall_mem_cons.mpr ⟨fl6_26, fun _ h => absurd h List.not_mem_nil⟩⟩⟩⟩
def ft7 : List (Nat × Nat × Nat) := [(9, 7, 0), (15, 7, 1), (19, 7, 2), (39, 5, 0)]
theorem ft7_ok : ∀ q ∈ ft7, FLc 7 q.1 q.2.1 q.2.2 := by
  unfold ft7
  exact List.forall_mem_cons.mpr ⟨fl7_9, List.forall_mem_cons.mpr ⟨fl7_15, List.forall_mem_cons.mpr ⟨fl7_19, List.forall_mem_cons.mpr ⟨fl7_39, fun _ h => absurd h List.not_mem_nil⟩⟩⟩⟩
def ft8 : List (Nat × Nat × Nat) := [(10, 8, 0), (16, 8, 1), (25, 8, 2), (32, 8, 3), (39, 8, 4), (46, 8, 5), (53, 8, 6), (60, 8, 7), (112, 7, 0), (116, 7, 1), (130, 5, 5), (133, 5, 2), (136, 5, 3), (139, 5, 0), (158, 5, 15), (168, 5, 14), (174, 5, 10), (177, 5, 13), (180, 5, 1), (196, 5, 6), (199, 5, 7), (202, 5, 8), (205, 5, 9), (208, 5, 11), (228, 4, 0), (229, 4, 1), (258, 6, 0), (264, 6, 1)]
theorem ft8_ok : ∀ q ∈ ft8, FLc 8 q.1 q.2.1 q.2.2 := by
  unfold ft8
  exact List.forall_mem_cons.mpr ⟨fl8_10, List.forall_mem_cons.mpr ⟨fl8_16, List.forall_mem_cons.mpr ⟨fl8_25, List.forall_mem_cons.mpr ⟨fl8_32, List.forall_mem_cons.mpr ⟨fl8_39, List.forall_mem_cons.mpr ⟨fl8_46, List.forall_mem_cons.mpr ⟨fl8_53, List.forall_mem_cons.mpr ⟨fl8_60, List.forall_mem_cons.mpr ⟨fl8_112, List.forall_mem_cons.mpr ⟨fl8_116, List.forall_mem_cons.mpr ⟨fl8_130, List.forall_mem_cons.mpr ⟨fl8_133, List.forall_mem_cons.mpr ⟨fl8_136, List.forall_mem_cons.mpr ⟨fl8_139, List.forall_mem_cons.mpr ⟨fl8_158, List.forall_mem_cons.mpr ⟨fl8_168, List.forall_mem_cons.mpr ⟨fl8_174, List.forall_mem_cons.mpr ⟨fl8_177, List.forall_mem_cons.mpr ⟨fl8_180, List.forall_mem_cons.mpr ⟨fl8_196, List.forall_mem_cons.mpr ⟨fl8_199, List.forall_mem_cons.mpr ⟨fl8_202, List.forall_mem_cons.mpr ⟨fl8_205, List.forall_mem_cons.mpr ⟨fl8_208, List.forall_mem_cons.mpr ⟨fl8_228, List.forall_mem_cons.mpr ⟨fl8_229, List.forall_mem_cons.mpr ⟨fl8_258, List.forall_mem_cons.mpr ⟨fl8_264, fun _ h => absurd h List.not_mem_nil⟩⟩⟩⟩⟩⟩⟩⟩⟩⟩⟩⟩⟩⟩⟩⟩⟩⟩⟩⟩⟩⟩⟩⟩⟩⟩⟩⟩
def ft9 : List (Nat × Nat × Nat) := [(7, 9, 0), (13, 9, 1), (16, 9, 3), (19, 9, 5), (22, 9, 9), (25, 9, 10), (28, 9, 11), (31, 9, 12), (34, 9, 13), (37, 9, 14), (40, 9, 15), (43, 9, 16), (46, 9, 17), (49, 9, 18), (53, 9, 19), (56, 9, 22), (59, 9, 23), (62, 9, 24), (84, 9, 7), (88, 9, 8), (106, 9, 4), (166, 9, 6), (169, 9, 20), (172, 9, 21), (182, 9, 25), (194, 9, 2)]
theorem ft9_ok : ∀ q ∈ ft9, FLc 9 q.1 q.2.1 q.2.2 := by
  unfold ft9
  exact List.forall_mem_cons.mpr ⟨fl9_7, List.forall_mem_cons.mpr ⟨fl9_13, List.forall_mem_cons.mpr ⟨fl9_16, List.forall_mem_cons.mpr ⟨fl9_19, List.forall_mem_cons.mpr ⟨fl9_22, List.forall_mem_cons.mpr ⟨fl9_25, List.forall_mem_cons.mpr ⟨fl9_28, List.forall_mem_cons.mpr ⟨fl9_31, List.forall_mem_cons.mpr ⟨fl9_34, List.forall_mem_cons.mpr ⟨fl9_37, List.forall_mem_cons.mpr ⟨fl9_40, List.forall_mem_cons.mpr ⟨fl9_43, List.forall_mem_cons.mpr ⟨fl9_46, List.forall_mem_cons.mpr ⟨fl9_49, List.forall_mem_cons.mpr ⟨fl9_53, List.forall_mem_cons.mpr ⟨fl9_56, List.forall_mem_cons.mpr ⟨fl9_59, List.forall_mem_cons.mpr ⟨fl9_62, List.forall_mem_cons.mpr ⟨fl9_84, List.forall_mem_cons.mpr ⟨fl9_88, List.forall_mem_cons.mpr ⟨fl9_106, List.forall_mem_cons.mpr ⟨fl9_166, List.forall_mem_cons.mpr ⟨fl9_169, List.forall_mem_cons.mpr ⟨fl9_172, List.forall_mem_cons.mpr ⟨fl9_182, List.forall_mem_cons.mpr ⟨fl9_194, fun _ h => absurd h List.not_mem_nil⟩⟩⟩⟩⟩⟩⟩⟩⟩⟩⟩⟩⟩⟩⟩⟩⟩⟩⟩⟩⟩⟩⟩⟩⟩⟩
def fld : Nat → Nat → Option (Nat × Nat) := fun own => match own with
  | 0 => asc ft0
  | 1 => asc ft1
  | 2 => asc ft2
  | 3 => asc ft3
  | 4 => asc ft4
  | 5 => asc ft5
  | 6 => asc ft6
  | 7 => asc ft7
  | 8 => asc ft8
  | 9 => asc ft9
  | _ => fun _ => none
theorem fld_ok {own idx ci k : Nat} (h : fld own idx = some (ci, k)) : FLc own idx ci k := by
  match own, h with
  | 0, h => exact ft0_ok (idx, ci, k) (asc_mem _ _ _ h)
  | 1, h => exact ft1_ok (idx, ci, k) (asc_mem _ _ _ h)
  | 2, h => exact ft2_ok (idx, ci, k) (asc_mem _ _ _ h)
  | 3, h => exact ft3_ok (idx, ci, k) (asc_mem _ _ _ h)
  | 4, h => exact ft4_ok (idx, ci, k) (asc_mem _ _ _ h)
  | 5, h => exact ft5_ok (idx, ci, k) (asc_mem _ _ _ h)
  | 6, h => exact ft6_ok (idx, ci, k) (asc_mem _ _ _ h)
  | 7, h => exact ft7_ok (idx, ci, k) (asc_mem _ _ _ h)
  | 8, h => exact ft8_ok (idx, ci, k) (asc_mem _ _ _ h)
  | 9, h => exact ft9_ok (idx, ci, k) (asc_mem _ _ _ h)
  | n + 10, h => cases h
def CaP (own idx kind : Nat) (y' : MT) : Prop := MOk y' ∧ OwnOk y' ∧ ∀ y : MT, M_own y = own → OwnOk y → (kind = 0 → LkV y idx y') ∧ (kind = 1 → LkS y idx y') ∧ (kind = 2 → LkI y idx y') ∧ (kind = 11 → LkSN y idx y') ∧ (kind = 12 → LkIN y idx y')
theorem own_cls {y : MT} {own : Nat} {q : vw_C} (h : M_own y = own) (ho : OwnOk y) (hq : clG[own]? = some q) : (M_nm y).cls = q.1 := (ho q (by rw [h]; exact hq)).symm
def ct0 : List (Nat × Nat × MT) := []
theorem ct0_ok : ∀ q ∈ ct0, CaP 0 q.1 q.2.1 q.2.2 := by
  unfold ct0
  exact fun _ h => absurd h List.not_mem_nil
theorem ca1_21 : CaP 1 21 1 M0_has := ⟨ok0_has, ow0_has, fun y h ho => ⟨fun z => (nomatch z), fun _ => (lv1_0_has (own_cls h ho rfl)), fun z => (nomatch z), fun z => (nomatch z), fun z => (nomatch z)⟩⟩
theorem ca1_27 : CaP 1 27 0 M1_findNext := ⟨ok1_findNext, ow1_findNext, fun y h ho => ⟨fun _ => (lv1_1_findNext (own_cls h ho rfl)), fun z => (nomatch z), fun z => (nomatch z), fun z => (nomatch z), fun z => (nomatch z)⟩⟩
theorem ca1_31 : CaP 1 31 1 M1_lowestOf := ⟨ok1_lowestOf, ow1_lowestOf, fun y h ho => ⟨fun z => (nomatch z), fun _ => (lv1_1_lowestOf (own_cls h ho rfl)), fun z => (nomatch z), fun z => (nomatch z), fun z => (nomatch z)⟩⟩
theorem ca1_35 : CaP 1 35 0 M1_pairAlong := ⟨ok1_pairAlong, ow1_pairAlong, fun y h ho => ⟨fun _ => (lv1_1_pairAlong (own_cls h ho rfl)), fun z => (nomatch z), fun z => (nomatch z), fun z => (nomatch z), fun z => (nomatch z)⟩⟩
def ct1 : List (Nat × Nat × MT) := [(21, 1, M0_has), (27, 0, M1_findNext), (31, 1, M1_lowestOf), (35, 0, M1_pairAlong)]
theorem ct1_ok : ∀ q ∈ ct1, CaP 1 q.1 q.2.1 q.2.2 := by
  unfold ct1
  exact List.forall_mem_cons.mpr ⟨ca1_21, List.forall_mem_cons.mpr ⟨ca1_27, List.forall_mem_cons.mpr ⟨ca1_31, List.forall_mem_cons.mpr ⟨ca1_35, fun _ h => absurd h List.not_mem_nil⟩⟩⟩⟩
theorem ca2_22 : CaP 2 22 0 M2_listMembers := ⟨ok2_listMembers, ow2_listMembers, fun y h ho => ⟨fun _ => (lv2_2_listMembers (own_cls h ho rfl)), fun z => (nomatch z), fun z => (nomatch z), fun z => (nomatch z), fun z => (nomatch z)⟩⟩
theorem ca2_26 : CaP 2 26 0 M2_listNeeds := ⟨ok2_listNeeds, ow2_listNeeds, fun y h ho => ⟨fun _ => (lv2_2_listNeeds (own_cls h ho rfl)), fun z => (nomatch z), fun z => (nomatch z), fun z => (nomatch z), fun z => (nomatch z)⟩⟩
theorem ca2_30 : CaP 2 30 0 M2_goOnFrom := ⟨ok2_goOnFrom, ow2_goOnFrom, fun y h ho => ⟨fun _ => (lv2_2_goOnFrom (own_cls h ho rfl)), fun z => (nomatch z), fun z => (nomatch z), fun z => (nomatch z), fun z => (nomatch z)⟩⟩
theorem ca2_34 : CaP 2 34 1 M0_has := ⟨ok0_has, ow0_has, fun y h ho => ⟨fun z => (nomatch z), fun _ => (lv2_0_has (own_cls h ho rfl)), fun z => (nomatch z), fun z => (nomatch z), fun z => (nomatch z)⟩⟩
def ct2 : List (Nat × Nat × MT) := [(22, 0, M2_listMembers), (26, 0, M2_listNeeds), (30, 0, M2_goOnFrom), (34, 1, M0_has)]
theorem ct2_ok : ∀ q ∈ ct2, CaP 2 q.1 q.2.1 q.2.2 := by
  unfold ct2
  exact List.forall_mem_cons.mpr ⟨ca2_22, List.forall_mem_cons.mpr ⟨ca2_26, List.forall_mem_cons.mpr ⟨ca2_30, List.forall_mem_cons.mpr ⟨ca2_34, fun _ h => absurd h List.not_mem_nil⟩⟩⟩⟩
theorem ca3_31 : CaP 3 31 0 M5_predecessors := ⟨ok5_predecessors, ow5_predecessors, fun y h ho => ⟨fun _ => (lv3_5_predecessors (own_cls h ho rfl)), fun z => (nomatch z), fun z => (nomatch z), fun z => (nomatch z), fun z => (nomatch z)⟩⟩
theorem ca3_35 : CaP 3 35 1 M0_has := ⟨ok0_has, ow0_has, fun y h ho => ⟨fun z => (nomatch z), fun _ => (lv3_0_has (own_cls h ho rfl)), fun z => (nomatch z), fun z => (nomatch z), fun z => (nomatch z)⟩⟩
theorem ca3_41 : CaP 3 41 0 M3_beforeSets := ⟨ok3_beforeSets, ow3_beforeSets, fun y h ho => ⟨fun _ => (lv3_3_beforeSets (own_cls h ho rfl)), fun z => (nomatch z), fun z => (nomatch z), fun z => (nomatch z), fun z => (nomatch z)⟩⟩
theorem ca3_45 : CaP 3 45 0 M5_workLeft := ⟨ok5_workLeft, ow5_workLeft, fun y h ho => ⟨fun _ => (lv3_5_workLeft (own_cls h ho rfl)), fun z => (nomatch z), fun z => (nomatch z), fun z => (nomatch z), fun z => (nomatch z)⟩⟩
theorem ca3_48 : CaP 3 48 0 M3_raisePredecessors := ⟨ok3_raisePredecessors, ow3_raisePredecessors, fun y h ho => ⟨fun _ => (lv3_3_raisePredecessors (own_cls h ho rfl)), fun z => (nomatch z), fun z => (nomatch z), fun z => (nomatch z), fun z => (nomatch z)⟩⟩
theorem ca3_52 : CaP 3 52 0 M3_raiseLead := ⟨ok3_raiseLead, ow3_raiseLead, fun y h ho => ⟨fun _ => (lv3_3_raiseLead (own_cls h ho rfl)), fun z => (nomatch z), fun z => (nomatch z), fun z => (nomatch z), fun z => (nomatch z)⟩⟩
def ct3 : List (Nat × Nat × MT) := [(31, 0, M5_predecessors), (35, 1, M0_has), (41, 0, M3_beforeSets), (45, 0, M5_workLeft), (48, 0, M3_raisePredecessors), (52, 0, M3_raiseLead)]
theorem ct3_ok : ∀ q ∈ ct3, CaP 3 q.1 q.2.1 q.2.2 := by
  unfold ct3
  exact List.forall_mem_cons.mpr ⟨ca3_31, List.forall_mem_cons.mpr ⟨ca3_35, List.forall_mem_cons.mpr ⟨ca3_41, List.forall_mem_cons.mpr ⟨ca3_45, List.forall_mem_cons.mpr ⟨ca3_48, List.forall_mem_cons.mpr ⟨ca3_52, fun _ h => absurd h List.not_mem_nil⟩⟩⟩⟩⟩⟩
theorem ca4_37 : CaP 4 37 0 M5_unendedSet := ⟨ok5_unendedSet, ow5_unendedSet, fun y h ho => ⟨fun _ => (lv4_5_unendedSet (own_cls h ho rfl)), fun z => (nomatch z), fun z => (nomatch z), fun z => (nomatch z), fun z => (nomatch z)⟩⟩
theorem ca4_46 : CaP 4 46 0 M4_endCompleted := ⟨ok4_endCompleted, ow4_endCompleted, fun y h ho => ⟨fun _ => (lv4_4_endCompleted (own_cls h ho rfl)), fun z => (nomatch z), fun z => (nomatch z), fun z => (nomatch z), fun z => (nomatch z)⟩⟩
theorem ca4_50 : CaP 4 50 0 M4_findStartable := ⟨ok4_findStartable, ow4_findStartable, fun y h ho => ⟨fun _ => (lv4_4_findStartable (own_cls h ho rfl)), fun z => (nomatch z), fun z => (nomatch z), fun z => (nomatch z), fun z => (nomatch z)⟩⟩
theorem ca4_54 : CaP 4 54 0 M4_startItems := ⟨ok4_startItems, ow4_startItems, fun y h ho => ⟨fun _ => (lv4_4_startItems (own_cls h ho rfl)), fun z => (nomatch z), fun z => (nomatch z), fun z => (nomatch z), fun z => (nomatch z)⟩⟩
theorem ca4_58 : CaP 4 58 0 M4_nextEnd := ⟨ok4_nextEnd, ow4_nextEnd, fun y h ho => ⟨fun _ => (lv4_4_nextEnd (own_cls h ho rfl)), fun z => (nomatch z), fun z => (nomatch z), fun z => (nomatch z), fun z => (nomatch z)⟩⟩
theorem ca4_62 : CaP 4 62 1 M0_has := ⟨ok0_has, ow0_has, fun y h ho => ⟨fun z => (nomatch z), fun _ => (lv4_0_has (own_cls h ho rfl)), fun z => (nomatch z), fun z => (nomatch z), fun z => (nomatch z)⟩⟩
theorem ca4_68 : CaP 4 68 0 M5_predecessors := ⟨ok5_predecessors, ow5_predecessors, fun y h ho => ⟨fun _ => (lv4_5_predecessors (own_cls h ho rfl)), fun z => (nomatch z), fun z => (nomatch z), fun z => (nomatch z), fun z => (nomatch z)⟩⟩
theorem ca4_71 : CaP 4 71 0 M4_bestStartable := ⟨ok4_bestStartable, ow4_bestStartable, fun y h ho => ⟨fun _ => (lv4_4_bestStartable (own_cls h ho rfl)), fun z => (nomatch z), fun z => (nomatch z), fun z => (nomatch z), fun z => (nomatch z)⟩⟩
theorem ca4_75 : CaP 4 75 0 M5_holds := ⟨ok5_holds, ow5_holds, fun y h ho => ⟨fun _ => (lv4_5_holds (own_cls h ho rfl)), fun z => (nomatch z), fun z => (nomatch z), fun z => (nomatch z), fun z => (nomatch z)⟩⟩
theorem ca4_82 : CaP 4 82 0 M5_rankFor := ⟨ok5_rankFor, ow5_rankFor, fun y h ho => ⟨fun _ => (lv4_5_rankFor (own_cls h ho rfl)), fun z => (nomatch z), fun z => (nomatch z), fun z => (nomatch z), fun z => (nomatch z)⟩⟩
def ct4 : List (Nat × Nat × MT) := [(37, 0, M5_unendedSet), (46, 0, M4_endCompleted), (50, 0, M4_findStartable), (54, 0, M4_startItems), (58, 0, M4_nextEnd), (62, 1, M0_has), (68, 0, M5_predecessors), (71, 0, M4_bestStartable), (75, 0, M5_holds), (82, 0, M5_rankFor)]
theorem ct4_ok : ∀ q ∈ ct4, CaP 4 q.1 q.2.1 q.2.2 := by
  unfold ct4
  exact List.forall_mem_cons.mpr ⟨ca4_37, List.forall_mem_cons.mpr ⟨ca4_46, List.forall_mem_cons.mpr ⟨ca4_50, List.forall_mem_cons.mpr ⟨ca4_54, List.forall_mem_cons.mpr ⟨ca4_58, List.forall_mem_cons.mpr ⟨ca4_62, List.forall_mem_cons.mpr ⟨ca4_68, List.forall_mem_cons.mpr ⟨ca4_71, List.forall_mem_cons.mpr ⟨ca4_75, List.forall_mem_cons.mpr ⟨ca4_82, fun _ h => absurd h List.not_mem_nil⟩⟩⟩⟩⟩⟩⟩⟩⟩⟩
theorem ca5_67 : CaP 5 67 0 M5_hasEnded := ⟨ok5_hasEnded, ow5_hasEnded, fun y h ho => ⟨fun _ => (lv5_5_hasEnded (own_cls h ho rfl)), fun z => (nomatch z), fun z => (nomatch z), fun z => (nomatch z), fun z => (nomatch z)⟩⟩
theorem ca5_71 : CaP 5 71 0 M5_setIn := ⟨ok5_setIn, ow5_setIn, fun y h ho => ⟨fun _ => (lv5_5_setIn (own_cls h ho rfl)), fun z => (nomatch z), fun z => (nomatch z), fun z => (nomatch z), fun z => (nomatch z)⟩⟩
theorem ca5_75 : CaP 5 75 0 M5_startAnew := ⟨ok5_startAnew, ow5_startAnew, fun y h ho => ⟨fun _ => (lv5_5_startAnew (own_cls h ho rfl)), fun z => (nomatch z), fun z => (nomatch z), fun z => (nomatch z), fun z => (nomatch z)⟩⟩
theorem ca5_79 : CaP 5 79 0 M5_predecessors := ⟨ok5_predecessors, ow5_predecessors, fun y h ho => ⟨fun _ => (lv5_5_predecessors (own_cls h ho rfl)), fun z => (nomatch z), fun z => (nomatch z), fun z => (nomatch z), fun z => (nomatch z)⟩⟩
theorem ca5_82 : CaP 5 82 1 M6_bitCount_0f7a4 := ⟨ok6_bitCount_0f7a4, ow6_bitCount_0f7a4, fun y h ho => ⟨fun z => (nomatch z), fun _ => (lv5_6_bitCount_0f7a4 (own_cls h ho rfl)), fun z => (nomatch z), fun z => (nomatch z), fun z => (nomatch z)⟩⟩
theorem ca5_87 : CaP 5 87 1 M0_has := ⟨ok0_has, ow0_has, fun y h ho => ⟨fun z => (nomatch z), fun _ => (lv5_0_has (own_cls h ho rfl)), fun z => (nomatch z), fun z => (nomatch z), fun z => (nomatch z)⟩⟩
theorem ca5_93 : CaP 5 93 0 M5_dropEdge := ⟨ok5_dropEdge, ow5_dropEdge, fun y h ho => ⟨fun _ => (lv5_5_dropEdge (own_cls h ho rfl)), fun z => (nomatch z), fun z => (nomatch z), fun z => (nomatch z), fun z => (nomatch z)⟩⟩
theorem ca5_97 : CaP 5 97 0 M5_settleItem := ⟨ok5_settleItem, ow5_settleItem, fun y h ho => ⟨fun _ => (lv5_5_settleItem (own_cls h ho rfl)), fun z => (nomatch z), fun z => (nomatch z), fun z => (nomatch z), fun z => (nomatch z)⟩⟩
theorem ca5_100 : CaP 5 100 0 M5_followsEdges := ⟨ok5_followsEdges, ow5_followsEdges, fun y h ho => ⟨fun _ => (lv5_5_followsEdges (own_cls h ho rfl)), fun z => (nomatch z), fun z => (nomatch z), fun z => (nomatch z), fun z => (nomatch z)⟩⟩
theorem ca5_103 : CaP 5 103 0 M5_stateByEdges := ⟨ok5_stateByEdges, ow5_stateByEdges, fun y h ho => ⟨fun _ => (lv5_5_stateByEdges (own_cls h ho rfl)), fun z => (nomatch z), fun z => (nomatch z), fun z => (nomatch z), fun z => (nomatch z)⟩⟩
theorem ca5_106 : CaP 5 106 0 M5_makeReady := ⟨ok5_makeReady, ow5_makeReady, fun y h ho => ⟨fun _ => (lv5_5_makeReady (own_cls h ho rfl)), fun z => (nomatch z), fun z => (nomatch z), fun z => (nomatch z), fun z => (nomatch z)⟩⟩
theorem ca5_109 : CaP 5 109 0 M5_hasFailed := ⟨ok5_hasFailed, ow5_hasFailed, fun y h ho => ⟨fun _ => (lv5_5_hasFailed (own_cls h ho rfl)), fun z => (nomatch z), fun z => (nomatch z), fun z => (nomatch z), fun z => (nomatch z)⟩⟩
theorem ca5_112 : CaP 5 112 0 M5_settle := ⟨ok5_settle, ow5_settle, fun y h ho => ⟨fun _ => (lv5_5_settle (own_cls h ho rfl)), fun z => (nomatch z), fun z => (nomatch z), fun z => (nomatch z), fun z => (nomatch z)⟩⟩
theorem ca5_115 : CaP 5 115 0 M5_comeBack := ⟨ok5_comeBack, ow5_comeBack, fun y h ho => ⟨fun _ => (lv5_5_comeBack (own_cls h ho rfl)), fun z => (nomatch z), fun z => (nomatch z), fun z => (nomatch z), fun z => (nomatch z)⟩⟩
theorem ca5_118 : CaP 5 118 0 M5_rankFor := ⟨ok5_rankFor, ow5_rankFor, fun y h ho => ⟨fun _ => (lv5_5_rankFor (own_cls h ho rfl)), fun z => (nomatch z), fun z => (nomatch z), fun z => (nomatch z), fun z => (nomatch z)⟩⟩
theorem ca5_122 : CaP 5 122 0 M5_canBeReceived := ⟨ok5_canBeReceived, ow5_canBeReceived, fun y h ho => ⟨fun _ => (lv5_5_canBeReceived (own_cls h ho rfl)), fun z => (nomatch z), fun z => (nomatch z), fun z => (nomatch z), fun z => (nomatch z)⟩⟩
theorem ca5_125 : CaP 5 125 0 M5_rankNow := ⟨ok5_rankNow, ow5_rankNow, fun y h ho => ⟨fun _ => (lv5_5_rankNow (own_cls h ho rfl)), fun z => (nomatch z), fun z => (nomatch z), fun z => (nomatch z), fun z => (nomatch z)⟩⟩
theorem ca5_129 : CaP 5 129 0 M5_inFlightOf := ⟨ok5_inFlightOf, ow5_inFlightOf, fun y h ho => ⟨fun _ => (lv5_5_inFlightOf (own_cls h ho rfl)), fun z => (nomatch z), fun z => (nomatch z), fun z => (nomatch z), fun z => (nomatch z)⟩⟩
theorem ca5_132 : CaP 5 132 0 M5_copyItems := ⟨ok5_copyItems, ow5_copyItems, fun y h ho => ⟨fun _ => (lv5_5_copyItems (own_cls h ho rfl)), fun z => (nomatch z), fun z => (nomatch z), fun z => (nomatch z), fun z => (nomatch z)⟩⟩
theorem ca5_136 : CaP 5 136 1 M5_copyRow := ⟨ok5_copyRow, ow5_copyRow, fun y h ho => ⟨fun z => (nomatch z), fun _ => (lv5_5_copyRow (own_cls h ho rfl)), fun z => (nomatch z), fun z => (nomatch z), fun z => (nomatch z)⟩⟩
def ct5 : List (Nat × Nat × MT) := [(67, 0, M5_hasEnded), (71, 0, M5_setIn), (75, 0, M5_startAnew), (79, 0, M5_predecessors), (82, 1, M6_bitCount_0f7a4), (87, 1, M0_has), (93, 0, M5_dropEdge), (97, 0, M5_settleItem), (100, 0, M5_followsEdges), (103, 0, M5_stateByEdges), (106, 0, M5_makeReady), (109, 0, M5_hasFailed), (112, 0, M5_settle), (115, 0, M5_comeBack), (118, 0, M5_rankFor), (122, 0, M5_canBeReceived), (125, 0, M5_rankNow), (129, 0, M5_inFlightOf), (132, 0, M5_copyItems), (136, 1, M5_copyRow)]
theorem ct5_ok : ∀ q ∈ ct5, CaP 5 q.1 q.2.1 q.2.2 := by
  unfold ct5
  exact List.forall_mem_cons.mpr ⟨ca5_67, List.forall_mem_cons.mpr ⟨ca5_71, List.forall_mem_cons.mpr ⟨ca5_75, List.forall_mem_cons.mpr ⟨ca5_79, List.forall_mem_cons.mpr ⟨ca5_82, List.forall_mem_cons.mpr ⟨ca5_87, List.forall_mem_cons.mpr ⟨ca5_93, List.forall_mem_cons.mpr ⟨ca5_97, List.forall_mem_cons.mpr ⟨ca5_100, List.forall_mem_cons.mpr ⟨ca5_103, List.forall_mem_cons.mpr ⟨ca5_106, List.forall_mem_cons.mpr ⟨ca5_109, List.forall_mem_cons.mpr ⟨ca5_112, List.forall_mem_cons.mpr ⟨ca5_115, List.forall_mem_cons.mpr ⟨ca5_118, List.forall_mem_cons.mpr ⟨ca5_122, List.forall_mem_cons.mpr ⟨ca5_125, List.forall_mem_cons.mpr ⟨ca5_129, List.forall_mem_cons.mpr ⟨ca5_132, List.forall_mem_cons.mpr ⟨ca5_136, fun _ h => absurd h List.not_mem_nil⟩⟩⟩⟩⟩⟩⟩⟩⟩⟩⟩⟩⟩⟩⟩⟩⟩⟩⟩⟩
theorem ca6_17 : CaP 6 17 12 M5_init := ⟨ok5_init, ow5_init, fun y h ho => ⟨fun z => (nomatch z), fun z => (nomatch z), fun z => (nomatch z), fun z => (nomatch z), fun _ => (ln6_5_init (own_cls h ho rfl))⟩⟩
theorem ca6_29 : CaP 6 29 0 M5_removeItems := ⟨ok5_removeItems, ow5_removeItems, fun y h ho => ⟨fun _ => (lv6_5_removeItems (own_cls h ho rfl)), fun z => (nomatch z), fun z => (nomatch z), fun z => (nomatch z), fun z => (nomatch z)⟩⟩
theorem ca6_32 : CaP 6 32 0 M6_readItem := ⟨ok6_readItem, ow6_readItem, fun y h ho => ⟨fun _ => (lv6_6_readItem (own_cls h ho rfl)), fun z => (nomatch z), fun z => (nomatch z), fun z => (nomatch z), fun z => (nomatch z)⟩⟩
theorem ca6_36 : CaP 6 36 0 M5_isFull := ⟨ok5_isFull, ow5_isFull, fun y h ho => ⟨fun _ => (lv6_5_isFull (own_cls h ho rfl)), fun z => (nomatch z), fun z => (nomatch z), fun z => (nomatch z), fun z => (nomatch z)⟩⟩
theorem ca6_40 : CaP 6 40 0 M6_codeHere := ⟨ok6_codeHere, ow6_codeHere, fun y h ho => ⟨fun _ => (lv6_6_codeHere (own_cls h ho rfl)), fun z => (nomatch z), fun z => (nomatch z), fun z => (nomatch z), fun z => (nomatch z)⟩⟩
theorem ca6_43 : CaP 6 43 1 M6_isDigit := ⟨ok6_isDigit, ow6_isDigit, fun y h ho => ⟨fun z => (nomatch z), fun _ => (lv6_6_isDigit (own_cls h ho rfl)), fun z => (nomatch z), fun z => (nomatch z), fun z => (nomatch z)⟩⟩
theorem ca6_47 : CaP 6 47 0 M6_readNumber := ⟨ok6_readNumber, ow6_readNumber, fun y h ho => ⟨fun _ => (lv6_6_readNumber (own_cls h ho rfl)), fun z => (nomatch z), fun z => (nomatch z), fun z => (nomatch z), fun z => (nomatch z)⟩⟩
theorem ca6_50 : CaP 6 50 11 M8_isWithin := ⟨ok8_isWithin, ow8_isWithin, fun y h ho => ⟨fun z => (nomatch z), fun z => (nomatch z), fun z => (nomatch z), fun _ => (ln6_8_isWithin (own_cls h ho rfl)), fun z => (nomatch z)⟩⟩
theorem ca6_54 : CaP 6 54 0 M5_append := ⟨ok5_append, ow5_append, fun y h ho => ⟨fun _ => (lv6_5_append (own_cls h ho rfl)), fun z => (nomatch z), fun z => (nomatch z), fun z => (nomatch z), fun z => (nomatch z)⟩⟩
theorem ca6_58 : CaP 6 58 0 M6_readEdges := ⟨ok6_readEdges, ow6_readEdges, fun y h ho => ⟨fun _ => (lv6_6_readEdges (own_cls h ho rfl)), fun z => (nomatch z), fun z => (nomatch z), fun z => (nomatch z), fun z => (nomatch z)⟩⟩
theorem ca6_62 : CaP 6 62 0 M5_predecessors := ⟨ok5_predecessors, ow5_predecessors, fun y h ho => ⟨fun _ => (lv6_5_predecessors (own_cls h ho rfl)), fun z => (nomatch z), fun z => (nomatch z), fun z => (nomatch z), fun z => (nomatch z)⟩⟩
theorem ca6_65 : CaP 6 65 1 M0_has := ⟨ok0_has, ow0_has, fun y h ho => ⟨fun z => (nomatch z), fun _ => (lv6_0_has (own_cls h ho rfl)), fun z => (nomatch z), fun z => (nomatch z), fun z => (nomatch z)⟩⟩
theorem ca6_71 : CaP 6 71 0 M5_putEdge := ⟨ok5_putEdge, ow5_putEdge, fun y h ho => ⟨fun _ => (lv6_5_putEdge (own_cls h ho rfl)), fun z => (nomatch z), fun z => (nomatch z), fun z => (nomatch z), fun z => (nomatch z)⟩⟩
def ct6 : List (Nat × Nat × MT) := [(17, 12, M5_init), (29, 0, M5_removeItems), (32, 0, M6_readItem), (36, 0, M5_isFull), (40, 0, M6_codeHere), (43, 1, M6_isDigit), (47, 0, M6_readNumber), (50, 11, M8_isWithin), (54, 0, M5_append), (58, 0, M6_readEdges), (62, 0, M5_predecessors), (65, 1, M0_has), (71, 0, M5_putEdge)]
theorem ct6_ok : ∀ q ∈ ct6, CaP 6 q.1 q.2.1 q.2.2 := by
  unfold ct6
  exact List.forall_mem_cons.mpr ⟨ca6_17, List.forall_mem_cons.mpr ⟨ca6_29, List.forall_mem_cons.mpr ⟨ca6_32, List.forall_mem_cons.mpr ⟨ca6_36, List.forall_mem_cons.mpr ⟨ca6_40, List.forall_mem_cons.mpr ⟨ca6_43, List.forall_mem_cons.mpr ⟨ca6_47, List.forall_mem_cons.mpr ⟨ca6_50, List.forall_mem_cons.mpr ⟨ca6_54, List.forall_mem_cons.mpr ⟨ca6_58, List.forall_mem_cons.mpr ⟨ca6_62, List.forall_mem_cons.mpr ⟨ca6_65, List.forall_mem_cons.mpr ⟨ca6_71, fun _ h => absurd h List.not_mem_nil⟩⟩⟩⟩⟩⟩⟩⟩⟩⟩⟩⟩⟩
theorem ca7_22 : CaP 7 22 0 M7_drawRings := ⟨ok7_drawRings, ow7_drawRings, fun y h ho => ⟨fun _ => (lv7_7_drawRings (own_cls h ho rfl)), fun z => (nomatch z), fun z => (nomatch z), fun z => (nomatch z), fun z => (nomatch z)⟩⟩
theorem ca7_26 : CaP 7 26 1 M7_lowestSuccessor := ⟨ok7_lowestSuccessor, ow7_lowestSuccessor, fun y h ho => ⟨fun z => (nomatch z), fun _ => (lv7_7_lowestSuccessor (own_cls h ho rfl)), fun z => (nomatch z), fun z => (nomatch z), fun z => (nomatch z)⟩⟩
theorem ca7_29 : CaP 7 29 1 M0_has := ⟨ok0_has, ow0_has, fun y h ho => ⟨fun z => (nomatch z), fun _ => (lv7_0_has (own_cls h ho rfl)), fun z => (nomatch z), fun z => (nomatch z), fun z => (nomatch z)⟩⟩
theorem ca7_35 : CaP 7 35 1 M7_predecessorsOfAll := ⟨ok7_predecessorsOfAll, ow7_predecessorsOfAll, fun y h ho => ⟨fun z => (nomatch z), fun _ => (lv7_7_predecessorsOfAll (own_cls h ho rfl)), fun z => (nomatch z), fun z => (nomatch z), fun z => (nomatch z)⟩⟩
theorem ca7_44 : CaP 7 44 0 M5_predecessors := ⟨ok5_predecessors, ow5_predecessors, fun y h ho => ⟨fun _ => (lv7_5_predecessors (own_cls h ho rfl)), fun z => (nomatch z), fun z => (nomatch z), fun z => (nomatch z), fun z => (nomatch z)⟩⟩
def ct7 : List (Nat × Nat × MT) := [(22, 0, M7_drawRings), (26, 1, M7_lowestSuccessor), (29, 1, M0_has), (35, 1, M7_predecessorsOfAll), (44, 0, M5_predecessors)]
theorem ct7_ok : ∀ q ∈ ct7, CaP 7 q.1 q.2.1 q.2.2 := by
  unfold ct7
  exact List.forall_mem_cons.mpr ⟨ca7_22, List.forall_mem_cons.mpr ⟨ca7_26, List.forall_mem_cons.mpr ⟨ca7_29, List.forall_mem_cons.mpr ⟨ca7_35, List.forall_mem_cons.mpr ⟨ca7_44, fun _ h => absurd h List.not_mem_nil⟩⟩⟩⟩⟩
theorem ca8_9 : CaP 8 9 12 M5_init := ⟨ok5_init, ow5_init, fun y h ho => ⟨fun z => (nomatch z), fun z => (nomatch z), fun z => (nomatch z), fun z => (nomatch z), fun _ => (ln8_5_init (own_cls h ho rfl))⟩⟩
theorem ca8_22 : CaP 8 22 2 M3_init := ⟨ok3_init, ow3_init, fun y h ho => ⟨fun z => (nomatch z), fun z => (nomatch z), fun _ => (lv8_3_init (own_cls h ho rfl)), fun z => (nomatch z), fun z => (nomatch z)⟩⟩
theorem ca8_31 : CaP 8 31 12 M7_init := ⟨ok7_init, ow7_init, fun y h ho => ⟨fun z => (nomatch z), fun z => (nomatch z), fun z => (nomatch z), fun z => (nomatch z), fun _ => (ln8_7_init (own_cls h ho rfl))⟩⟩
theorem ca8_38 : CaP 8 38 12 M4_init := ⟨ok4_init, ow4_init, fun y h ho => ⟨fun z => (nomatch z), fun z => (nomatch z), fun z => (nomatch z), fun z => (nomatch z), fun _ => (ln8_4_init (own_cls h ho rfl))⟩⟩
theorem ca8_45 : CaP 8 45 12 M1_init := ⟨ok1_init, ow1_init, fun y h ho => ⟨fun z => (nomatch z), fun z => (nomatch z), fun z => (nomatch z), fun z => (nomatch z), fun _ => (ln8_1_init (own_cls h ho rfl))⟩⟩
theorem ca8_52 : CaP 8 52 12 M2_init := ⟨ok2_init, ow2_init, fun y h ho => ⟨fun z => (nomatch z), fun z => (nomatch z), fun z => (nomatch z), fun z => (nomatch z), fun _ => (ln8_2_init (own_cls h ho rfl))⟩⟩
theorem ca8_59 : CaP 8 59 12 M6_init := ⟨ok6_init, ow6_init, fun y h ho => ⟨fun z => (nomatch z), fun z => (nomatch z), fun z => (nomatch z), fun z => (nomatch z), fun _ => (ln8_6_init (own_cls h ho rfl))⟩⟩
theorem ca8_64 : CaP 8 64 1 M8_isWithin := ⟨ok8_isWithin, ow8_isWithin, fun y h ho => ⟨fun z => (nomatch z), fun _ => (lv8_8_isWithin (own_cls h ho rfl)), fun z => (nomatch z), fun z => (nomatch z), fun z => (nomatch z)⟩⟩
theorem ca8_68 : CaP 8 68 0 M5_isFull := ⟨ok5_isFull, ow5_isFull, fun y h ho => ⟨fun _ => (lv8_5_isFull (own_cls h ho rfl)), fun z => (nomatch z), fun z => (nomatch z), fun z => (nomatch z), fun z => (nomatch z)⟩⟩
theorem ca8_72 : CaP 8 72 0 M5_append := ⟨ok5_append, ow5_append, fun y h ho => ⟨fun _ => (lv8_5_append (own_cls h ho rfl)), fun z => (nomatch z), fun z => (nomatch z), fun z => (nomatch z), fun z => (nomatch z)⟩⟩
theorem ca8_76 : CaP 8 76 0 M5_makeReady := ⟨ok5_makeReady, ow5_makeReady, fun y h ho => ⟨fun _ => (lv8_5_makeReady (own_cls h ho rfl)), fun z => (nomatch z), fun z => (nomatch z), fun z => (nomatch z), fun z => (nomatch z)⟩⟩
theorem ca8_80 : CaP 8 80 0 M5_holds := ⟨ok5_holds, ow5_holds, fun y h ho => ⟨fun _ => (lv8_5_holds (own_cls h ho rfl)), fun z => (nomatch z), fun z => (nomatch z), fun z => (nomatch z), fun z => (nomatch z)⟩⟩
theorem ca8_84 : CaP 8 84 0 M3_beforeSets := ⟨ok3_beforeSets, ow3_beforeSets, fun y h ho => ⟨fun _ => (lv8_3_beforeSets (own_cls h ho rfl)), fun z => (nomatch z), fun z => (nomatch z), fun z => (nomatch z), fun z => (nomatch z)⟩⟩
theorem ca8_88 : CaP 8 88 1 M0_has := ⟨ok0_has, ow0_has, fun y h ho => ⟨fun z => (nomatch z), fun _ => (lv8_0_has (own_cls h ho rfl)), fun z => (nomatch z), fun z => (nomatch z), fun z => (nomatch z)⟩⟩
theorem ca8_94 : CaP 8 94 0 M7_remember := ⟨ok7_remember, ow7_remember, fun y h ho => ⟨fun _ => (lv8_7_remember (own_cls h ho rfl)), fun z => (nomatch z), fun z => (nomatch z), fun z => (nomatch z), fun z => (nomatch z)⟩⟩
theorem ca8_98 : CaP 8 98 0 M5_followsEdges := ⟨ok5_followsEdges, ow5_followsEdges, fun y h ho => ⟨fun _ => (lv8_5_followsEdges (own_cls h ho rfl)), fun z => (nomatch z), fun z => (nomatch z), fun z => (nomatch z), fun z => (nomatch z)⟩⟩
theorem ca8_101 : CaP 8 101 0 M5_putEdge := ⟨ok5_putEdge, ow5_putEdge, fun y h ho => ⟨fun _ => (lv8_5_putEdge (own_cls h ho rfl)), fun z => (nomatch z), fun z => (nomatch z), fun z => (nomatch z), fun z => (nomatch z)⟩⟩
theorem ca8_105 : CaP 8 105 0 M5_settle := ⟨ok5_settle, ow5_settle, fun y h ho => ⟨fun _ => (lv8_5_settle (own_cls h ho rfl)), fun z => (nomatch z), fun z => (nomatch z), fun z => (nomatch z), fun z => (nomatch z)⟩⟩
theorem ca8_108 : CaP 8 108 0 M5_edgeCount := ⟨ok5_edgeCount, ow5_edgeCount, fun y h ho => ⟨fun _ => (lv8_5_edgeCount (own_cls h ho rfl)), fun z => (nomatch z), fun z => (nomatch z), fun z => (nomatch z), fun z => (nomatch z)⟩⟩
theorem ca8_120 : CaP 8 120 0 M5_predecessors := ⟨ok5_predecessors, ow5_predecessors, fun y h ho => ⟨fun _ => (lv8_5_predecessors (own_cls h ho rfl)), fun z => (nomatch z), fun z => (nomatch z), fun z => (nomatch z), fun z => (nomatch z)⟩⟩
theorem ca8_124 : CaP 8 124 0 M5_dropEdge := ⟨ok5_dropEdge, ow5_dropEdge, fun y h ho => ⟨fun _ => (lv8_5_dropEdge (own_cls h ho rfl)), fun z => (nomatch z), fun z => (nomatch z), fun z => (nomatch z), fun z => (nomatch z)⟩⟩
theorem ca8_127 : CaP 8 127 0 M5_hasEnded := ⟨ok5_hasEnded, ow5_hasEnded, fun y h ho => ⟨fun _ => (lv8_5_hasEnded (own_cls h ho rfl)), fun z => (nomatch z), fun z => (nomatch z), fun z => (nomatch z), fun z => (nomatch z)⟩⟩
theorem ca8_142 : CaP 8 142 0 M5_removeItems := ⟨ok5_removeItems, ow5_removeItems, fun y h ho => ⟨fun _ => (lv8_5_removeItems (own_cls h ho rfl)), fun z => (nomatch z), fun z => (nomatch z), fun z => (nomatch z), fun z => (nomatch z)⟩⟩
theorem ca8_145 : CaP 8 145 0 M7_forget := ⟨ok7_forget, ow7_forget, fun y h ho => ⟨fun _ => (lv8_7_forget (own_cls h ho rfl)), fun z => (nomatch z), fun z => (nomatch z), fun z => (nomatch z), fun z => (nomatch z)⟩⟩
theorem ca8_148 : CaP 8 148 0 M3_heights := ⟨ok3_heights, ow3_heights, fun y h ho => ⟨fun _ => (lv8_3_heights (own_cls h ho rfl)), fun z => (nomatch z), fun z => (nomatch z), fun z => (nomatch z), fun z => (nomatch z)⟩⟩
theorem ca8_151 : CaP 8 151 0 M5_nextToReceive := ⟨ok5_nextToReceive, ow5_nextToReceive, fun y h ho => ⟨fun _ => (lv8_5_nextToReceive (own_cls h ho rfl)), fun z => (nomatch z), fun z => (nomatch z), fun z => (nomatch z), fun z => (nomatch z)⟩⟩
theorem ca8_155 : CaP 8 155 0 M5_takeOut := ⟨ok5_takeOut, ow5_takeOut, fun y h ho => ⟨fun _ => (lv8_5_takeOut (own_cls h ho rfl)), fun z => (nomatch z), fun z => (nomatch z), fun z => (nomatch z), fun z => (nomatch z)⟩⟩
theorem ca8_161 : CaP 8 161 0 M5_isValid := ⟨ok5_isValid, ow5_isValid, fun y h ho => ⟨fun _ => (lv8_5_isValid (own_cls h ho rfl)), fun z => (nomatch z), fun z => (nomatch z), fun z => (nomatch z), fun z => (nomatch z)⟩⟩
theorem ca8_164 : CaP 8 164 0 M5_endAs := ⟨ok5_endAs, ow5_endAs, fun y h ho => ⟨fun _ => (lv8_5_endAs (own_cls h ho rfl)), fun z => (nomatch z), fun z => (nomatch z), fun z => (nomatch z), fun z => (nomatch z)⟩⟩
theorem ca8_171 : CaP 8 171 0 M5_comeBack := ⟨ok5_comeBack, ow5_comeBack, fun y h ho => ⟨fun _ => (lv8_5_comeBack (own_cls h ho rfl)), fun z => (nomatch z), fun z => (nomatch z), fun z => (nomatch z), fun z => (nomatch z)⟩⟩
theorem ca8_183 : CaP 8 183 0 M5_hasFailed := ⟨ok5_hasFailed, ow5_hasFailed, fun y h ho => ⟨fun _ => (lv8_5_hasFailed (own_cls h ho rfl)), fun z => (nomatch z), fun z => (nomatch z), fun z => (nomatch z), fun z => (nomatch z)⟩⟩
theorem ca8_186 : CaP 8 186 0 M5_startAnew := ⟨ok5_startAnew, ow5_startAnew, fun y h ho => ⟨fun _ => (lv8_5_startAnew (own_cls h ho rfl)), fun z => (nomatch z), fun z => (nomatch z), fun z => (nomatch z), fun z => (nomatch z)⟩⟩
theorem ca8_190 : CaP 8 190 0 M5_passTick := ⟨ok5_passTick, ow5_passTick, fun y h ho => ⟨fun _ => (lv8_5_passTick (own_cls h ho rfl)), fun z => (nomatch z), fun z => (nomatch z), fun z => (nomatch z), fun z => (nomatch z)⟩⟩
theorem ca8_193 : CaP 8 193 0 M5_setIn := ⟨ok5_setIn, ow5_setIn, fun y h ho => ⟨fun _ => (lv8_5_setIn (own_cls h ho rfl)), fun z => (nomatch z), fun z => (nomatch z), fun z => (nomatch z), fun z => (nomatch z)⟩⟩
theorem ca8_211 : CaP 8 211 0 M5_edgeKind := ⟨ok5_edgeKind, ow5_edgeKind, fun y h ho => ⟨fun _ => (lv8_5_edgeKind (own_cls h ho rfl)), fun z => (nomatch z), fun z => (nomatch z), fun z => (nomatch z), fun z => (nomatch z)⟩⟩
theorem ca8_215 : CaP 8 215 0 M5_rankNow := ⟨ok5_rankNow, ow5_rankNow, fun y h ho => ⟨fun _ => (lv8_5_rankNow (own_cls h ho rfl)), fun z => (nomatch z), fun z => (nomatch z), fun z => (nomatch z), fun z => (nomatch z)⟩⟩
theorem ca8_218 : CaP 8 218 0 M5_doomedBy := ⟨ok5_doomedBy, ow5_doomedBy, fun y h ho => ⟨fun _ => (lv8_5_doomedBy (own_cls h ho rfl)), fun z => (nomatch z), fun z => (nomatch z), fun z => (nomatch z), fun z => (nomatch z)⟩⟩
theorem ca8_221 : CaP 8 221 0 M3_hasDetour := ⟨ok3_hasDetour, ow3_hasDetour, fun y h ho => ⟨fun _ => (lv8_3_hasDetour (own_cls h ho rfl)), fun z => (nomatch z), fun z => (nomatch z), fun z => (nomatch z), fun z => (nomatch z)⟩⟩
theorem ca8_224 : CaP 8 224 0 M4_make := ⟨ok4_make, ow4_make, fun y h ho => ⟨fun _ => (lv8_4_make (own_cls h ho rfl)), fun z => (nomatch z), fun z => (nomatch z), fun z => (nomatch z), fun z => (nomatch z)⟩⟩
theorem ca8_237 : CaP 8 237 0 M3_leads := ⟨ok3_leads, ow3_leads, fun y h ho => ⟨fun _ => (lv8_3_leads (own_cls h ho rfl)), fun z => (nomatch z), fun z => (nomatch z), fun z => (nomatch z), fun z => (nomatch z)⟩⟩
theorem ca8_240 : CaP 8 240 0 M5_unendedSet := ⟨ok5_unendedSet, ow5_unendedSet, fun y h ho => ⟨fun _ => (lv8_5_unendedSet (own_cls h ho rfl)), fun z => (nomatch z), fun z => (nomatch z), fun z => (nomatch z), fun z => (nomatch z)⟩⟩
theorem ca8_243 : CaP 8 243 1 M6_bitCount_0f7a4 := ⟨ok6_bitCount_0f7a4, ow6_bitCount_0f7a4, fun y h ho => ⟨fun z => (nomatch z), fun _ => (lv8_6_bitCount_0f7a4 (own_cls h ho rfl)), fun z => (nomatch z), fun z => (nomatch z), fun z => (nomatch z)⟩⟩
theorem ca8_248 : CaP 8 248 0 M1_countPairs := ⟨ok1_countPairs, ow1_countPairs, fun y h ho => ⟨fun _ => (lv8_1_countPairs (own_cls h ho rfl)), fun z => (nomatch z), fun z => (nomatch z), fun z => (nomatch z), fun z => (nomatch z)⟩⟩
theorem ca8_254 : CaP 8 254 0 M2_countFor := ⟨ok2_countFor, ow2_countFor, fun y h ho => ⟨fun _ => (lv8_2_countFor (own_cls h ho rfl)), fun z => (nomatch z), fun z => (nomatch z), fun z => (nomatch z), fun z => (nomatch z)⟩⟩
theorem ca8_259 : CaP 8 259 0 M6_append := ⟨ok6_append, ow6_append, fun y h ho => ⟨fun _ => (lv8_6_append (own_cls h ho rfl)), fun z => (nomatch z), fun z => (nomatch z), fun z => (nomatch z), fun z => (nomatch z)⟩⟩
theorem ca8_261 : CaP 8 261 0 M6_read := ⟨ok6_read, ow6_read, fun y h ho => ⟨fun _ => (lv8_6_read (own_cls h ho rfl)), fun z => (nomatch z), fun z => (nomatch z), fun z => (nomatch z), fun z => (nomatch z)⟩⟩
theorem ca8_267 : CaP 8 267 0 M5_copyItems := ⟨ok5_copyItems, ow5_copyItems, fun y h ho => ⟨fun _ => (lv8_5_copyItems (own_cls h ho rfl)), fun z => (nomatch z), fun z => (nomatch z), fun z => (nomatch z), fun z => (nomatch z)⟩⟩
theorem ca8_270 : CaP 8 270 0 M5_copyAll := ⟨ok5_copyAll, ow5_copyAll, fun y h ho => ⟨fun _ => (lv8_5_copyAll (own_cls h ho rfl)), fun z => (nomatch z), fun z => (nomatch z), fun z => (nomatch z), fun z => (nomatch z)⟩⟩
def ct8 : List (Nat × Nat × MT) := [(9, 12, M5_init), (22, 2, M3_init), (31, 12, M7_init), (38, 12, M4_init), (45, 12, M1_init), (52, 12, M2_init), (59, 12, M6_init), (64, 1, M8_isWithin), (68, 0, M5_isFull), (72, 0, M5_append), (76, 0, M5_makeReady), (80, 0, M5_holds), (84, 0, M3_beforeSets), (88, 1, M0_has), (94, 0, M7_remember), (98, 0, M5_followsEdges), (101, 0, M5_putEdge), (105, 0, M5_settle), (108, 0, M5_edgeCount), (120, 0, M5_predecessors), (124, 0, M5_dropEdge), (127, 0, M5_hasEnded), (142, 0, M5_removeItems), (145, 0, M7_forget), (148, 0, M3_heights), (151, 0, M5_nextToReceive), (155, 0, M5_takeOut), (161, 0, M5_isValid), (164, 0, M5_endAs), (171, 0, M5_comeBack), (183, 0, M5_hasFailed), (186, 0, M5_startAnew), (190, 0, M5_passTick), (193, 0, M5_setIn), (211, 0, M5_edgeKind), (215, 0, M5_rankNow), (218, 0, M5_doomedBy), (221, 0, M3_hasDetour), (224, 0, M4_make), (237, 0, M3_leads), (240, 0, M5_unendedSet), (243, 1, M6_bitCount_0f7a4), (248, 0, M1_countPairs), (254, 0, M2_countFor), (259, 0, M6_append), (261, 0, M6_read), (267, 0, M5_copyItems), (270, 0, M5_copyAll)]
theorem ct8_ok : ∀ q ∈ ct8, CaP 8 q.1 q.2.1 q.2.2 := by
  unfold ct8
  exact List.forall_mem_cons.mpr ⟨ca8_9, List.forall_mem_cons.mpr ⟨ca8_22, List.forall_mem_cons.mpr ⟨ca8_31, List.forall_mem_cons.mpr ⟨ca8_38, List.forall_mem_cons.mpr ⟨ca8_45, List.forall_mem_cons.mpr ⟨ca8_52, List.forall_mem_cons.mpr ⟨ca8_59, List.forall_mem_cons.mpr ⟨ca8_64, List.forall_mem_cons.mpr ⟨ca8_68, List.forall_mem_cons.mpr ⟨ca8_72, List.forall_mem_cons.mpr ⟨ca8_76, List.forall_mem_cons.mpr ⟨ca8_80, List.forall_mem_cons.mpr ⟨ca8_84, List.forall_mem_cons.mpr ⟨ca8_88, List.forall_mem_cons.mpr ⟨ca8_94, List.forall_mem_cons.mpr ⟨ca8_98, List.forall_mem_cons.mpr ⟨ca8_101, List.forall_mem_cons.mpr ⟨ca8_105, List.forall_mem_cons.mpr ⟨ca8_108, List.forall_mem_cons.mpr ⟨ca8_120, List.forall_mem_cons.mpr ⟨ca8_124, List.forall_mem_cons.mpr ⟨ca8_127, List.forall_mem_cons.mpr ⟨ca8_142, List.forall_mem_cons.mpr ⟨ca8_145, List.forall_mem_cons.mpr ⟨ca8_148, List.forall_mem_cons.mpr ⟨ca8_151, List.forall_mem_cons.mpr ⟨ca8_155, List.forall_mem_cons.mpr ⟨ca8_161, List.forall_mem_cons.mpr ⟨ca8_164, List.forall_mem_cons.mpr ⟨ca8_171, List.forall_mem_cons.mpr ⟨ca8_183, List.forall_mem_cons.mpr ⟨ca8_186, List.forall_mem_cons.mpr ⟨ca8_190, List.forall_mem_cons.mpr ⟨ca8_193, List.forall_mem_cons.mpr ⟨ca8_211, List.forall_mem_cons.mpr ⟨ca8_215, List.forall_mem_cons.mpr ⟨ca8_218, List.forall_mem_cons.mpr ⟨ca8_221, List.forall_mem_cons.mpr ⟨ca8_224, List.forall_mem_cons.mpr ⟨ca8_237, List.forall_mem_cons.mpr ⟨ca8_240, List.forall_mem_cons.mpr ⟨ca8_243, List.forall_mem_cons.mpr ⟨ca8_248, List.forall_mem_cons.mpr ⟨ca8_254, List.forall_mem_cons.mpr ⟨ca8_259, List.forall_mem_cons.mpr ⟨ca8_261, List.forall_mem_cons.mpr ⟨ca8_267, List.forall_mem_cons.mpr ⟨ca8_270, fun _ h => absurd h List.not_mem_nil⟩⟩⟩⟩⟩⟩⟩⟩⟩⟩⟩⟩⟩⟩⟩⟩⟩⟩⟩⟩⟩⟩⟩⟩⟩⟩⟩⟩⟩⟩⟩⟩⟩⟩⟩⟩⟩⟩⟩⟩⟩⟩⟩⟩⟩⟩⟩⟩
theorem ca9_65 : CaP 9 65 1 M9_isIn := ⟨ok9_isIn, ow9_isIn, fun y h ho => ⟨fun z => (nomatch z), fun _ => (lv9_9_isIn (own_cls h ho rfl)), fun z => (nomatch z), fun z => (nomatch z), fun z => (nomatch z)⟩⟩
theorem ca9_69 : CaP 9 69 0 M9_of := ⟨ok9_of, ow9_of, fun y h ho => ⟨fun _ => (lv9_9_of (own_cls h ho rfl)), fun z => (nomatch z), fun z => (nomatch z), fun z => (nomatch z), fun z => (nomatch z)⟩⟩
theorem ca9_73 : CaP 9 73 0 M9_set := ⟨ok9_set, ow9_set, fun y h ho => ⟨fun _ => (lv9_9_set (own_cls h ho rfl)), fun z => (nomatch z), fun z => (nomatch z), fun z => (nomatch z), fun z => (nomatch z)⟩⟩
theorem ca9_77 : CaP 9 77 0 M9_kindOf := ⟨ok9_kindOf, ow9_kindOf, fun y h ho => ⟨fun _ => (lv9_9_kindOf (own_cls h ho rfl)), fun z => (nomatch z), fun z => (nomatch z), fun z => (nomatch z), fun z => (nomatch z)⟩⟩
theorem ca9_80 : CaP 9 80 0 M9_hasEnded := ⟨ok9_hasEnded, ow9_hasEnded, fun y h ho => ⟨fun _ => (lv9_9_hasEnded (own_cls h ho rfl)), fun z => (nomatch z), fun z => (nomatch z), fun z => (nomatch z), fun z => (nomatch z)⟩⟩
theorem ca9_91 : CaP 9 91 0 M9_due := ⟨ok9_due, ow9_due, fun y h ho => ⟨fun _ => (lv9_9_due (own_cls h ho rfl)), fun z => (nomatch z), fun z => (nomatch z), fun z => (nomatch z), fun z => (nomatch z)⟩⟩
theorem ca9_95 : CaP 9 95 0 M9_becomesReady := ⟨ok9_becomesReady, ow9_becomesReady, fun y h ho => ⟨fun _ => (lv9_9_becomesReady (own_cls h ho rfl)), fun z => (nomatch z), fun z => (nomatch z), fun z => (nomatch z), fun z => (nomatch z)⟩⟩
theorem ca9_99 : CaP 9 99 0 M9_append := ⟨ok9_append, ow9_append, fun y h ho => ⟨fun _ => (lv9_9_append (own_cls h ho rfl)), fun z => (nomatch z), fun z => (nomatch z), fun z => (nomatch z), fun z => (nomatch z)⟩⟩
theorem ca9_103 : CaP 9 103 0 M9_settle := ⟨ok9_settle, ow9_settle, fun y h ho => ⟨fun _ => (lv9_9_settle (own_cls h ho rfl)), fun z => (nomatch z), fun z => (nomatch z), fun z => (nomatch z), fun z => (nomatch z)⟩⟩
theorem ca9_109 : CaP 9 109 0 M9_isItem := ⟨ok9_isItem, ow9_isItem, fun y h ho => ⟨fun _ => (lv9_9_isItem (own_cls h ho rfl)), fun z => (nomatch z), fun z => (nomatch z), fun z => (nomatch z), fun z => (nomatch z)⟩⟩
theorem ca9_112 : CaP 9 112 0 M9_measureTo := ⟨ok9_measureTo, ow9_measureTo, fun y h ho => ⟨fun _ => (lv9_9_measureTo (own_cls h ho rfl)), fun z => (nomatch z), fun z => (nomatch z), fun z => (nomatch z), fun z => (nomatch z)⟩⟩
theorem ca9_116 : CaP 9 116 0 M9_keepPath := ⟨ok9_keepPath, ow9_keepPath, fun y h ho => ⟨fun _ => (lv9_9_keepPath (own_cls h ho rfl)), fun z => (nomatch z), fun z => (nomatch z), fun z => (nomatch z), fun z => (nomatch z)⟩⟩
theorem ca9_119 : CaP 9 119 0 M9_edges := ⟨ok9_edges, ow9_edges, fun y h ho => ⟨fun _ => (lv9_9_edges (own_cls h ho rfl)), fun z => (nomatch z), fun z => (nomatch z), fun z => (nomatch z), fun z => (nomatch z)⟩⟩
theorem ca9_123 : CaP 9 123 0 M9_ownWork := ⟨ok9_ownWork, ow9_ownWork, fun y h ho => ⟨fun _ => (lv9_9_ownWork (own_cls h ho rfl)), fun z => (nomatch z), fun z => (nomatch z), fun z => (nomatch z), fun z => (nomatch z)⟩⟩
theorem ca9_126 : CaP 9 126 0 M9_measure := ⟨ok9_measure, ow9_measure, fun y h ho => ⟨fun _ => (lv9_9_measure (own_cls h ho rfl)), fun z => (nomatch z), fun z => (nomatch z), fun z => (nomatch z), fun z => (nomatch z)⟩⟩
theorem ca9_129 : CaP 9 129 0 M9_canReceive := ⟨ok9_canReceive, ow9_canReceive, fun y h ho => ⟨fun _ => (lv9_9_canReceive (own_cls h ho rfl)), fun z => (nomatch z), fun z => (nomatch z), fun z => (nomatch z), fun z => (nomatch z)⟩⟩
theorem ca9_132 : CaP 9 132 0 M9_rankOf := ⟨ok9_rankOf, ow9_rankOf, fun y h ho => ⟨fun _ => (lv9_9_rankOf (own_cls h ho rfl)), fun z => (nomatch z), fun z => (nomatch z), fun z => (nomatch z), fun z => (nomatch z)⟩⟩
theorem ca9_135 : CaP 9 135 0 M9_isValid := ⟨ok9_isValid, ow9_isValid, fun y h ho => ⟨fun _ => (lv9_9_isValid (own_cls h ho rfl)), fun z => (nomatch z), fun z => (nomatch z), fun z => (nomatch z), fun z => (nomatch z)⟩⟩
theorem ca9_139 : CaP 9 139 0 M9_comeBack := ⟨ok9_comeBack, ow9_comeBack, fun y h ho => ⟨fun _ => (lv9_9_comeBack (own_cls h ho rfl)), fun z => (nomatch z), fun z => (nomatch z), fun z => (nomatch z), fun z => (nomatch z)⟩⟩
theorem ca9_142 : CaP 9 142 0 M9_layAhead := ⟨ok9_layAhead, ow9_layAhead, fun y h ho => ⟨fun _ => (lv9_9_layAhead (own_cls h ho rfl)), fun z => (nomatch z), fun z => (nomatch z), fun z => (nomatch z), fun z => (nomatch z)⟩⟩
theorem ca9_145 : CaP 9 145 0 M9_possibleAt := ⟨ok9_possibleAt, ow9_possibleAt, fun y h ho => ⟨fun _ => (lv9_9_possibleAt (own_cls h ho rfl)), fun z => (nomatch z), fun z => (nomatch z), fun z => (nomatch z), fun z => (nomatch z)⟩⟩
theorem ca9_148 : CaP 9 148 0 M9_planRank := ⟨ok9_planRank, ow9_planRank, fun y h ho => ⟨fun _ => (lv9_9_planRank (own_cls h ho rfl)), fun z => (nomatch z), fun z => (nomatch z), fun z => (nomatch z), fun z => (nomatch z)⟩⟩
theorem ca9_152 : CaP 9 152 0 M9_planned := ⟨ok9_planned, ow9_planned, fun y h ho => ⟨fun _ => (lv9_9_planned (own_cls h ho rfl)), fun z => (nomatch z), fun z => (nomatch z), fun z => (nomatch z), fun z => (nomatch z)⟩⟩
theorem ca9_155 : CaP 9 155 0 M9_changePartners := ⟨ok9_changePartners, ow9_changePartners, fun y h ho => ⟨fun _ => (lv9_9_changePartners (own_cls h ho rfl)), fun z => (nomatch z), fun z => (nomatch z), fun z => (nomatch z), fun z => (nomatch z)⟩⟩
theorem ca9_158 : CaP 9 158 0 M9_isMatched := ⟨ok9_isMatched, ow9_isMatched, fun y h ho => ⟨fun _ => (lv9_9_isMatched (own_cls h ho rfl)), fun z => (nomatch z), fun z => (nomatch z), fun z => (nomatch z), fun z => (nomatch z)⟩⟩
theorem ca9_163 : CaP 9 163 0 M9_isLast := ⟨ok9_isLast, ow9_isLast, fun y h ho => ⟨fun _ => (lv9_9_isLast (own_cls h ho rfl)), fun z => (nomatch z), fun z => (nomatch z), fun z => (nomatch z), fun z => (nomatch z)⟩⟩
theorem ca9_175 : CaP 9 175 0 M9_isDigit := ⟨ok9_isDigit, ow9_isDigit, fun y h ho => ⟨fun _ => (lv9_9_isDigit (own_cls h ho rfl)), fun z => (nomatch z), fun z => (nomatch z), fun z => (nomatch z), fun z => (nomatch z)⟩⟩
theorem ca9_179 : CaP 9 179 0 M9_fails := ⟨ok9_fails, ow9_fails, fun y h ho => ⟨fun _ => (lv9_9_fails (own_cls h ho rfl)), fun z => (nomatch z), fun z => (nomatch z), fun z => (nomatch z), fun z => (nomatch z)⟩⟩
theorem ca9_185 : CaP 9 185 0 M9_number := ⟨ok9_number, ow9_number, fun y h ho => ⟨fun _ => (lv9_9_number (own_cls h ho rfl)), fun z => (nomatch z), fun z => (nomatch z), fun z => (nomatch z), fun z => (nomatch z)⟩⟩
theorem ca9_188 : CaP 9 188 0 M9_readItem := ⟨ok9_readItem, ow9_readItem, fun y h ho => ⟨fun _ => (lv9_9_readItem (own_cls h ho rfl)), fun z => (nomatch z), fun z => (nomatch z), fun z => (nomatch z), fun z => (nomatch z)⟩⟩
theorem ca9_191 : CaP 9 191 0 M9_fault := ⟨ok9_fault, ow9_fault, fun y h ho => ⟨fun _ => (lv9_9_fault (own_cls h ho rfl)), fun z => (nomatch z), fun z => (nomatch z), fun z => (nomatch z), fun z => (nomatch z)⟩⟩
def ct9 : List (Nat × Nat × MT) := [(65, 1, M9_isIn), (69, 0, M9_of), (73, 0, M9_set), (77, 0, M9_kindOf), (80, 0, M9_hasEnded), (91, 0, M9_due), (95, 0, M9_becomesReady), (99, 0, M9_append), (103, 0, M9_settle), (109, 0, M9_isItem), (112, 0, M9_measureTo), (116, 0, M9_keepPath), (119, 0, M9_edges), (123, 0, M9_ownWork), (126, 0, M9_measure), (129, 0, M9_canReceive), (132, 0, M9_rankOf), (135, 0, M9_isValid), (139, 0, M9_comeBack), (142, 0, M9_layAhead), (145, 0, M9_possibleAt), (148, 0, M9_planRank), (152, 0, M9_planned), (155, 0, M9_changePartners), (158, 0, M9_isMatched), (163, 0, M9_isLast), (175, 0, M9_isDigit), (179, 0, M9_fails), (185, 0, M9_number), (188, 0, M9_readItem), (191, 0, M9_fault)]
theorem ct9_ok : ∀ q ∈ ct9, CaP 9 q.1 q.2.1 q.2.2 := by
  unfold ct9
  exact List.forall_mem_cons.mpr ⟨ca9_65, List.forall_mem_cons.mpr ⟨ca9_69, List.forall_mem_cons.mpr ⟨ca9_73, List.forall_mem_cons.mpr ⟨ca9_77, List.forall_mem_cons.mpr ⟨ca9_80, List.forall_mem_cons.mpr ⟨ca9_91, List.forall_mem_cons.mpr ⟨ca9_95, List.forall_mem_cons.mpr ⟨ca9_99, List.forall_mem_cons.mpr ⟨ca9_103, List.forall_mem_cons.mpr ⟨ca9_109, List.forall_mem_cons.mpr ⟨ca9_112, List.forall_mem_cons.mpr ⟨ca9_116, List.forall_mem_cons.mpr ⟨ca9_119, List.forall_mem_cons.mpr ⟨ca9_123, List.forall_mem_cons.mpr ⟨ca9_126, List.forall_mem_cons.mpr ⟨ca9_129, List.forall_mem_cons.mpr ⟨ca9_132, List.forall_mem_cons.mpr ⟨ca9_135, List.forall_mem_cons.mpr ⟨ca9_139, List.forall_mem_cons.mpr ⟨ca9_142, List.forall_mem_cons.mpr ⟨ca9_145, List.forall_mem_cons.mpr ⟨ca9_148, List.forall_mem_cons.mpr ⟨ca9_152, List.forall_mem_cons.mpr ⟨ca9_155, List.forall_mem_cons.mpr ⟨ca9_158, List.forall_mem_cons.mpr ⟨ca9_163, List.forall_mem_cons.mpr ⟨ca9_175, List.forall_mem_cons.mpr ⟨ca9_179, List.forall_mem_cons.mpr ⟨ca9_185, List.forall_mem_cons.mpr ⟨ca9_188, List.forall_mem_cons.mpr ⟨ca9_191, fun _ h => absurd h List.not_mem_nil⟩⟩⟩⟩⟩⟩⟩⟩⟩⟩⟩⟩⟩⟩⟩⟩⟩⟩⟩⟩⟩⟩⟩⟩⟩⟩⟩⟩⟩⟩⟩
def cal : Nat → Nat → Option (Nat × MT) := fun own => match own with
  | 0 => asc ct0
  | 1 => asc ct1
  | 2 => asc ct2
  | 3 => asc ct3
  | 4 => asc ct4
  | 5 => asc ct5
  | 6 => asc ct6
  | 7 => asc ct7
  | 8 => asc ct8
  | 9 => asc ct9
  | _ => fun _ => none
theorem cal_ok {own idx kind : Nat} {y' : MT} (h : cal own idx = some (kind, y')) : CaP own idx kind y' := by
  match own, h with
  | 0, h => exact ct0_ok (idx, kind, y') (asc_mem _ _ _ h)
  | 1, h => exact ct1_ok (idx, kind, y') (asc_mem _ _ _ h)
  | 2, h => exact ct2_ok (idx, kind, y') (asc_mem _ _ _ h)
  | 3, h => exact ct3_ok (idx, kind, y') (asc_mem _ _ _ h)
  | 4, h => exact ct4_ok (idx, kind, y') (asc_mem _ _ _ h)
  | 5, h => exact ct5_ok (idx, kind, y') (asc_mem _ _ _ h)
  | 6, h => exact ct6_ok (idx, kind, y') (asc_mem _ _ _ h)
  | 7, h => exact ct7_ok (idx, kind, y') (asc_mem _ _ _ h)
  | 8, h => exact ct8_ok (idx, kind, y') (asc_mem _ _ _ h)
  | 9, h => exact ct9_ok (idx, kind, y') (asc_mem _ _ _ h)
  | n + 10, h => cases h
end
section
theorem jj_g {X : State → Prop} {G : GC} {B : Nat} {y : MT} {pc : Nat} {lv : List (Option Value)} {st : List Value} {n : Nat} {h : HT} {kc ks : Nat} {post : Option Value → Nat → HT → Prop} {idx ci k a : Nat} {fs : List Value} {v : Value} (hd : lk (M_tb y) pc = some (.getfield idx)) (hf : fld (M_own y) idx = some (ci, k)) (hc : h a = some (ob ci fs)) (hv : fs[k]? = some v) (K : JJ X G B y (pc + 3) lv (v :: st) n h kc ks post) : JJ X G B y pc lv (.ref (B + a) :: st) n h kc ks post := jj_get hd (fld_ok hf) hc hv K
theorem jj_p {X : State → Prop} {G : GC} {B : Nat} {y : MT} {pc : Nat} {lv : List (Option Value)} {st : List Value} {n : Nat} {h : HT} {kc ks : Nat} {post : Option Value → Nat → HT → Prop} {idx ci k a : Nat} {fs : List Value} {x : Int32} (hd : lk (M_tb y) pc = some (.putfield idx)) (hf : fld (M_own y) idx = some (ci, k)) (hty : tyG ci k = .int) (hfin : finG ci k = false) (hc : h a = some (ob ci fs)) (hl : Nat.blt k fs.length = true) (K : JJ X G B y (pc + 3) lv st n (hu h a (ob ci (fs.set k (.int x)))) kc ks post) : JJ X G B y pc lv (.int x :: .ref (B + a) :: st) n h kc ks post := jj_put hd (fld_ok hf) hty hfin hc (by have := hl; simp at this; exact this) K
theorem jj_ialdN {X : State → Prop} {G : GC} {B : Nat} {y : MT} {pc : Nat} {lv : List (Option Value)} {st : List Value} {n : Nat} {h : HT} {kc ks : Nat} {post : Option Value → Nat → HT → Prop} {a N : Nat} {f : Nat → Int32} {j : Nat} (hd : lk (M_tb y) pc = some .iaload) (hc : h a = some (ia N f)) (hj : j < N) (hN : Nat.blt N 2147483648 = true) (K : JJ X G B y (pc + 1) lv (.int (f j) :: st) n h kc ks post) : JJ X G B y pc lv (.int (nI j) :: .ref (B + a) :: st) n h kc ks post := by
  have hN : N < 2 ^ 31 := by simpa using hN
  refine jj_iald hd hc (vp_in_nI hj hN) ?_
  rw [nI_clamp (by omega)]
  exact K
theorem jj_laldN {X : State → Prop} {G : GC} {B : Nat} {y : MT} {pc : Nat} {lv : List (Option Value)} {st : List Value} {n : Nat} {h : HT} {kc ks : Nat} {post : Option Value → Nat → HT → Prop} {a N : Nat} {f : Nat → Int64} {j : Nat} (hd : lk (M_tb y) pc = some .laload) (hc : h a = some (la N f)) (hj : j < N) (hN : Nat.blt N 2147483648 = true) (K : JJ X G B y (pc + 1) lv (.long (f j) :: st) n h kc ks post) : JJ X G B y pc lv (.int (nI j) :: .ref (B + a) :: st) n h kc ks post := by
  have hN : N < 2 ^ 31 := by simpa using hN
  refine jj_lald hd hc (vp_in_nI hj hN) ?_
  rw [nI_clamp (by omega)]
  exact K
theorem jj_iastN {X : State → Prop} {G : GC} {B : Nat} {y : MT} {pc : Nat} {lv : List (Option Value)} {st : List Value} {n : Nat} {h : HT} {kc ks : Nat} {post : Option Value → Nat → HT → Prop} {a N : Nat} {f : Nat → Int32} {j : Nat} {x : Int32} (hd : lk (M_tb y) pc = some .iastore) (hc : h a = some (ia N f)) (hj : j < N) (hN : Nat.blt N 2147483648 = true) (K : JJ X G B y (pc + 1) lv st n (hu h a (ia N (upd f j x))) kc ks post) : JJ X G B y pc lv (.int x :: .int (nI j) :: .ref (B + a) :: st) n h kc ks post := by
  have hN : N < 2 ^ 31 := by simpa using hN
  refine jj_iast hd hc (vp_in_nI hj hN) ?_
  rw [nI_clamp (by omega)]
  exact K
theorem jj_lastN {X : State → Prop} {G : GC} {B : Nat} {y : MT} {pc : Nat} {lv : List (Option Value)} {st : List Value} {n : Nat} {h : HT} {kc ks : Nat} {post : Option Value → Nat → HT → Prop} {a N : Nat} {f : Nat → Int64} {j : Nat} {x : Int64} (hd : lk (M_tb y) pc = some .lastore) (hc : h a = some (la N f)) (hj : j < N) (hN : Nat.blt N 2147483648 = true) (K : JJ X G B y (pc + 1) lv st n (hu h a (la N (vp_updL f j x))) kc ks post) : JJ X G B y pc lv (.long x :: .int (nI j) :: .ref (B + a) :: st) n h kc ks post := by
  have hN : N < 2 ^ 31 := by simpa using hN
  refine jj_last hd hc (vp_in_nI hj hN) ?_
  rw [nI_clamp (by omega)]
  exact K
theorem jj_inc {X : State → Prop} {G : GC} {B : Nat} {y : MT} {pc : Nat} {lv : List (Option Value)} {st : List Value} {n : Nat} {h : HT} {kc ks : Nat} {post : Option Value → Nat → HT → Prop} {i k : Nat} (hd : lk (M_tb y) pc = some (.iinc i 1)) (hl : lv[i]? = some (some (.int (nI k)))) (K : JJ X G B y (pc + 3) (lv.set i (some (.int (nI (k + 1))))) st n h kc ks post) : JJ X G B y pc lv st n h kc ks post := by
  have e : stp (.iinc i 1) pc lv st = some (pc + 3, lv.set i (some (.int (nI k + Int32.ofInt 1))), st) := by
    simp only [stp, hl]
  refine jj_s hd e ?_
  rw [show nI k + Int32.ofInt 1 = nI (k + 1) from nI_1 k]
  exact K
theorem jj_lv {X : State → Prop} {G : GC} {B : Nat} {y : MT} {pc : Nat} {lv : List (Option Value)} {st : List Value} {n : Nat} {h : HT} {kc ks : Nat} {post : Option Value → Nat → HT → Prop} {lv' : List (Option Value)} (e : lv = lv') (K : JJ X G B y pc lv' st n h kc ks post) : JJ X G B y pc lv st n h kc ks post := e ▸ K
theorem jj_st {X : State → Prop} {G : GC} {B : Nat} {y : MT} {pc : Nat} {lv : List (Option Value)} {st : List Value} {n : Nat} {h : HT} {kc ks : Nat} {post : Option Value → Nat → HT → Prop} {st' : List Value} (e : st = st') (K : JJ X G B y pc lv st' n h kc ks post) : JJ X G B y pc lv st n h kc ks post := e ▸ K
theorem jj_h {X : State → Prop} {G : GC} {B : Nat} {y : MT} {pc : Nat} {lv : List (Option Value)} {st : List Value} {n : Nat} {h : HT} {kc ks : Nat} {post : Option Value → Nat → HT → Prop} {h' : HT} (e : h = h') (K : JJ X G B y pc lv st n h' kc ks post) : JJ X G B y pc lv st n h kc ks post := e ▸ K
/-- calls by lookup -/
def vOk (y y' : MT) (ci k : Nat) : Bool := roomOk y y' && (M_own y' == ci) && (M_np y' == k) && Nat.ble (k + 1) (M_ml y') && Nat.blt ci 10
def sOk (y y' : MT) (k : Nat) : Bool := roomOk y y' && (M_np y' == k) && Nat.ble k (M_ml y')
theorem cat_all {as : List Value} (h : as.all (fun v => v.category == 1) = true) : ∀ v ∈ as, v.category = 1 := fun v hv => by
  have := List.all_eq_true.mp h v hv
  simpa using this
theorem cl_some {ci : Nat} (h : ci < 10) : ∃ q, clG[ci]? = some q := ⟨_, List.getElem?_eq_getElem (by simpa using h)⟩
theorem jj_vg {X : State → Prop} {G : GC} {B : Nat} {y : MT} {pc : Nat} {lv : List (Option Value)} {st rest : List Value} {n : Nat} {h : HT} {kc ks : Nat} {post : Option Value → Nat → HT → Prop} {y' : MT} {idx mc' ms' n' : Nat} {h' : HT} {as : List Value} {r : Option Value} {a ci : Nat} {fs : List Value} (hd : lk (M_tb y) pc = some (.invokevirtual idx)) (hl : cal (M_own y) idx = some (0, y')) (hv : vOk y y' ci as.length = true) (hst : st = as.reverse ++ .ref (B + a) :: rest) (hc0 : h a = some (ob ci fs)) (hcat : as.all (fun v => v.category == 1) = true) (hrest : Nat.ble (rest.map fun v => v.category).sum 8 = true) (hb1 : mc' ≤ kc) (hb2 : ms' ≤ ks)
    (hC : CtJ G B y' (.ref (B + a) :: as) n h mc' ms' (eqP r n' h')) (K : JJ X G B y (pc + 3) lv (r.toList ++ rest) n' h' (kc - mc') (ks - ms') post) : JJ X G B y pc lv st n h kc ks post := by
  intro p l e R s m args below meth c H locs cells slots ls mc ms C P S L k1 k2 k3 k4
  obtain ⟨hok, how, hlk⟩ := cal_ok hl
  have hown : OwnOk y := C.2.2.2.2.2.2.2.2.2.2.2.2.2.2.2.2
  unfold vOk at hv
  simp only [Bool.and_eq_true, beq_iff_eq, Nat.ble_eq, Nat.blt_eq] at hv
  obtain ⟨⟨⟨⟨v1, v2⟩, v3⟩, v4⟩, v5⟩ := hv
  obtain ⟨q, hq⟩ := cl_some v5
  exact jj_cV hd hok how v1 ((hlk y rfl hown).1 rfl) hst hc0 (by rw [hq]; exact congrArg some (how q (by rw [v2]; exact hq))) v3.symm (cat_all hcat) v4 (Nat.le_of_ble_eq_true hrest) hb1 hb2 hC K p l e R s m args below meth c H locs cells slots ls mc ms C P S L k1 k2 k3 k4
theorem jj_sg {X : State → Prop} {G : GC} {B : Nat} {y : MT} {pc : Nat} {lv : List (Option Value)} {st rest : List Value} {n : Nat} {h : HT} {kc ks : Nat} {post : Option Value → Nat → HT → Prop} {y' : MT} {idx mc' ms' n' : Nat} {h' : HT} {as : List Value} {r : Option Value} (hd : lk (M_tb y) pc = some (.invokestatic idx)) (hl : cal (M_own y) idx = some (1, y')) (hv : sOk y y' as.length = true) (hst : st = as.reverse ++ rest) (hcat : as.all (fun v => v.category == 1) = true) (hrest : Nat.ble (rest.map fun v => v.category).sum 8 = true) (hb1 : mc' ≤ kc) (hb2 : ms' ≤ ks)
    (hC : CtJ G B y' as n h mc' ms' (eqP r n' h')) (K : JJ X G B y (pc + 3) lv (r.toList ++ rest) n' h' (kc - mc') (ks - ms') post) : JJ X G B y pc lv st n h kc ks post := by
  intro p l e R s m args below meth c H locs cells slots ls mc ms C P S L k1 k2 k3 k4
  obtain ⟨hok, how, hlk⟩ := cal_ok hl
  have hown : OwnOk y := C.2.2.2.2.2.2.2.2.2.2.2.2.2.2.2.2
  unfold sOk at hv
  simp only [Bool.and_eq_true, beq_iff_eq, Nat.ble_eq] at hv
  obtain ⟨⟨v1, v3⟩, v4⟩ := hv
  exact jj_cS hd hok how v1 ((hlk y rfl hown).2.1 rfl) hst v3.symm (cat_all hcat) v4 (Nat.le_of_ble_eq_true hrest) hb1 hb2 hC K p l e R s m args below meth c H locs cells slots ls mc ms C P S L k1 k2 k3 k4
theorem jj_sng {X : State → Prop} {G : GC} {B : Nat} {y : MT} {pc : Nat} {lv : List (Option Value)} {st rest : List Value} {n : Nat} {h : HT} {kc ks : Nat} {post : Option Value → Nat → HT → Prop} {y' : MT} {idx mc' ms' n' : Nat} {h' : HT} {as : List Value} {r : Option Value} (hd : lk (M_tb y) pc = some (.invokestatic idx)) (hl : cal (M_own y) idx = some (11, y')) (hv : sOk y y' as.length = true) (hst : st = as.reverse ++ rest) (hcat : as.all (fun v => v.category == 1) = true) (hrest : Nat.ble (rest.map fun v => v.category).sum 8 = true) (hb1 : mc' ≤ kc) (hb2 : ms' ≤ ks)
    (hC : CtJ G B y' as n h mc' ms' (eqP r n' h')) (K : JJ X G B y (pc + 3) lv (r.toList ++ rest) n' h' (kc - mc') (ks - ms') post) : JJ X G B y pc lv st n h kc ks post := by
  intro p l e R s m args below meth c H locs cells slots ls mc ms C P S L k1 k2 k3 k4
  obtain ⟨hok, how, hlk⟩ := cal_ok hl
  have hown : OwnOk y := C.2.2.2.2.2.2.2.2.2.2.2.2.2.2.2.2
  unfold sOk at hv
  simp only [Bool.and_eq_true, beq_iff_eq, Nat.ble_eq] at hv
  obtain ⟨⟨v1, v3⟩, v4⟩ := hv
  exact jj_cSN hd hok how v1 ((hlk y rfl hown).2.2.2.1 rfl) hst v3.symm (cat_all hcat) v4 (Nat.le_of_ble_eq_true hrest) hb1 hb2 hC K p l e R s m args below meth c H locs cells slots ls mc ms C P S L k1 k2 k3 k4
theorem jj_v0 {X : State → Prop} {G : GC} {B : Nat} {y : MT} {pc : Nat} {lv : List (Option Value)} {rest : List Value} {n : Nat} {h : HT} {kc ks : Nat} {post : Option Value → Nat → HT → Prop} {y' : MT} {idx n' : Nat} {h' : HT} {v : Value} {a ci : Nat} {fs : List Value} (hd : lk (M_tb y) pc = some (.invokevirtual idx)) (hl : cal (M_own y) idx = some (0, y')) (hv : vOk y y' ci 0 = true) (hc0 : h a = some (ob ci fs)) (hcat : ([] : List Value).all (fun v => v.category == 1) = true) (hrest : Nat.ble (rest.map fun v => v.category).sum 8 = true)
    (hC : CtJ G B y' (.ref (B + a) :: []) n h 0 0 (eqP (some v) n' h')) (K : JJ X G B y (pc + 3) lv (v :: rest) n' h' kc ks post) : JJ X G B y pc lv (.ref (B + a) :: rest) n h kc ks post := jj_vg (as := []) hd hl hv rfl hc0 hcat hrest (Nat.zero_le _) (Nat.zero_le _) hC K
theorem jj_w0 {X : State → Prop} {G : GC} {B : Nat} {y : MT} {pc : Nat} {lv : List (Option Value)} {rest : List Value} {n : Nat} {h : HT} {kc ks : Nat} {post : Option Value → Nat → HT → Prop} {y' : MT} {idx n' : Nat} {h' : HT} {a ci : Nat} {fs : List Value} (hd : lk (M_tb y) pc = some (.invokevirtual idx)) (hl : cal (M_own y) idx = some (0, y')) (hv : vOk y y' ci 0 = true) (hc0 : h a = some (ob ci fs)) (hcat : ([] : List Value).all (fun v => v.category == 1) = true) (hrest : Nat.ble (rest.map fun v => v.category).sum 8 = true)
    (hC : CtJ G B y' (.ref (B + a) :: []) n h 0 0 (eqP none n' h')) (K : JJ X G B y (pc + 3) lv (rest) n' h' kc ks post) : JJ X G B y pc lv (.ref (B + a) :: rest) n h kc ks post := jj_vg (as := []) hd hl hv rfl hc0 hcat hrest (Nat.zero_le _) (Nat.zero_le _) hC K
theorem jj_v1 {X : State → Prop} {G : GC} {B : Nat} {y : MT} {pc : Nat} {lv : List (Option Value)} {rest : List Value} {n : Nat} {h : HT} {kc ks : Nat} {post : Option Value → Nat → HT → Prop} {y' : MT} {idx n' : Nat} {h' : HT} {x1 : Value} {v : Value} {a ci : Nat} {fs : List Value} (hd : lk (M_tb y) pc = some (.invokevirtual idx)) (hl : cal (M_own y) idx = some (0, y')) (hv : vOk y y' ci 1 = true) (hc0 : h a = some (ob ci fs)) (hcat : ([x1] : List Value).all (fun v => v.category == 1) = true) (hrest : Nat.ble (rest.map fun v => v.category).sum 8 = true)
    (hC : CtJ G B y' (.ref (B + a) :: [x1]) n h 0 0 (eqP (some v) n' h')) (K : JJ X G B y (pc + 3) lv (v :: rest) n' h' kc ks post) : JJ X G B y pc lv (x1 :: .ref (B + a) :: rest) n h kc ks post := jj_vg (as := [x1]) hd hl hv rfl hc0 hcat hrest (Nat.zero_le _) (Nat.zero_le _) hC K
theorem jj_w1 {X : State → Prop} {G : GC} {B : Nat} {y : MT} {pc : Nat} {lv : List (Option Value)} {rest : List Value} {n : Nat} {h : HT} {kc ks : Nat} {post : Option Value → Nat → HT → Prop} {y' : MT} {idx n' : Nat} {h' : HT} {x1 : Value} {a ci : Nat} {fs : List Value} (hd : lk (M_tb y) pc = some (.invokevirtual idx)) (hl : cal (M_own y) idx = some (0, y')) (hv : vOk y y' ci 1 = true) (hc0 : h a = some (ob ci fs)) (hcat : ([x1] : List Value).all (fun v => v.category == 1) = true) (hrest : Nat.ble (rest.map fun v => v.category).sum 8 = true)
    (hC : CtJ G B y' (.ref (B + a) :: [x1]) n h 0 0 (eqP none n' h')) (K : JJ X G B y (pc + 3) lv (rest) n' h' kc ks post) : JJ X G B y pc lv (x1 :: .ref (B + a) :: rest) n h kc ks post := jj_vg (as := [x1]) hd hl hv rfl hc0 hcat hrest (Nat.zero_le _) (Nat.zero_le _) hC K
theorem jj_v2 {X : State → Prop} {G : GC} {B : Nat} {y : MT} {pc : Nat} {lv : List (Option Value)} {rest : List Value} {n : Nat} {h : HT} {kc ks : Nat} {post : Option Value → Nat → HT → Prop} {y' : MT} {idx n' : Nat} {h' : HT} {x1 x2 : Value} {v : Value} {a ci : Nat} {fs : List Value} (hd : lk (M_tb y) pc = some (.invokevirtual idx)) (hl : cal (M_own y) idx = some (0, y')) (hv : vOk y y' ci 2 = true) (hc0 : h a = some (ob ci fs)) (hcat : ([x1, x2] : List Value).all (fun v => v.category == 1) = true) (hrest : Nat.ble (rest.map fun v => v.category).sum 8 = true)
    (hC : CtJ G B y' (.ref (B + a) :: [x1, x2]) n h 0 0 (eqP (some v) n' h')) (K : JJ X G B y (pc + 3) lv (v :: rest) n' h' kc ks post) : JJ X G B y pc lv (x2 :: x1 :: .ref (B + a) :: rest) n h kc ks post := jj_vg (as := [x1, x2]) hd hl hv rfl hc0 hcat hrest (Nat.zero_le _) (Nat.zero_le _) hC K
theorem jj_w2 {X : State → Prop} {G : GC} {B : Nat} {y : MT} {pc : Nat} {lv : List (Option Value)} {rest : List Value} {n : Nat} {h : HT} {kc ks : Nat} {post : Option Value → Nat → HT → Prop} {y' : MT} {idx n' : Nat} {h' : HT} {x1 x2 : Value} {a ci : Nat} {fs : List Value} (hd : lk (M_tb y) pc = some (.invokevirtual idx)) (hl : cal (M_own y) idx = some (0, y')) (hv : vOk y y' ci 2 = true) (hc0 : h a = some (ob ci fs)) (hcat : ([x1, x2] : List Value).all (fun v => v.category == 1) = true) (hrest : Nat.ble (rest.map fun v => v.category).sum 8 = true)
    (hC : CtJ G B y' (.ref (B + a) :: [x1, x2]) n h 0 0 (eqP none n' h')) (K : JJ X G B y (pc + 3) lv (rest) n' h' kc ks post) : JJ X G B y pc lv (x2 :: x1 :: .ref (B + a) :: rest) n h kc ks post := jj_vg (as := [x1, x2]) hd hl hv rfl hc0 hcat hrest (Nat.zero_le _) (Nat.zero_le _) hC K
theorem jj_v3 {X : State → Prop} {G : GC} {B : Nat} {y : MT} {pc : Nat} {lv : List (Option Value)} {rest : List Value} {n : Nat} {h : HT} {kc ks : Nat} {post : Option Value → Nat → HT → Prop} {y' : MT} {idx n' : Nat} {h' : HT} {x1 x2 x3 : Value} {v : Value} {a ci : Nat} {fs : List Value} (hd : lk (M_tb y) pc = some (.invokevirtual idx)) (hl : cal (M_own y) idx = some (0, y')) (hv : vOk y y' ci 3 = true) (hc0 : h a = some (ob ci fs)) (hcat : ([x1, x2, x3] : List Value).all (fun v => v.category == 1) = true) (hrest : Nat.ble (rest.map fun v => v.category).sum 8 = true)
    (hC : CtJ G B y' (.ref (B + a) :: [x1, x2, x3]) n h 0 0 (eqP (some v) n' h')) (K : JJ X G B y (pc + 3) lv (v :: rest) n' h' kc ks post) : JJ X G B y pc lv (x3 :: x2 :: x1 :: .ref (B + a) :: rest) n h kc ks post := jj_vg (as := [x1, x2, x3]) hd hl hv rfl hc0 hcat hrest (Nat.zero_le _) (Nat.zero_le _) hC K
theorem jj_w3 {X : State → Prop} {G : GC} {B : Nat} {y : MT} {pc : Nat} {lv : List (Option Value)} {rest : List Value} {n : Nat} {h : HT} {kc ks : Nat} {post : Option Value → Nat → HT → Prop} {y' : MT} {idx n' : Nat} {h' : HT} {x1 x2 x3 : Value} {a ci : Nat} {fs : List Value} (hd : lk (M_tb y) pc = some (.invokevirtual idx)) (hl : cal (M_own y) idx = some (0, y')) (hv : vOk y y' ci 3 = true) (hc0 : h a = some (ob ci fs)) (hcat : ([x1, x2, x3] : List Value).all (fun v => v.category == 1) = true) (hrest : Nat.ble (rest.map fun v => v.category).sum 8 = true)
    (hC : CtJ G B y' (.ref (B + a) :: [x1, x2, x3]) n h 0 0 (eqP none n' h')) (K : JJ X G B y (pc + 3) lv (rest) n' h' kc ks post) : JJ X G B y pc lv (x3 :: x2 :: x1 :: .ref (B + a) :: rest) n h kc ks post := jj_vg (as := [x1, x2, x3]) hd hl hv rfl hc0 hcat hrest (Nat.zero_le _) (Nat.zero_le _) hC K
theorem jj_v4 {X : State → Prop} {G : GC} {B : Nat} {y : MT} {pc : Nat} {lv : List (Option Value)} {rest : List Value} {n : Nat} {h : HT} {kc ks : Nat} {post : Option Value → Nat → HT → Prop} {y' : MT} {idx n' : Nat} {h' : HT} {x1 x2 x3 x4 : Value} {v : Value} {a ci : Nat} {fs : List Value} (hd : lk (M_tb y) pc = some (.invokevirtual idx)) (hl : cal (M_own y) idx = some (0, y')) (hv : vOk y y' ci 4 = true) (hc0 : h a = some (ob ci fs)) (hcat : ([x1, x2, x3, x4] : List Value).all (fun v => v.category == 1) = true) (hrest : Nat.ble (rest.map fun v => v.category).sum 8 = true)
    (hC : CtJ G B y' (.ref (B + a) :: [x1, x2, x3, x4]) n h 0 0 (eqP (some v) n' h')) (K : JJ X G B y (pc + 3) lv (v :: rest) n' h' kc ks post) : JJ X G B y pc lv (x4 :: x3 :: x2 :: x1 :: .ref (B + a) :: rest) n h kc ks post := jj_vg (as := [x1, x2, x3, x4]) hd hl hv rfl hc0 hcat hrest (Nat.zero_le _) (Nat.zero_le _) hC K
theorem jj_w4 {X : State → Prop} {G : GC} {B : Nat} {y : MT} {pc : Nat} {lv : List (Option Value)} {rest : List Value} {n : Nat} {h : HT} {kc ks : Nat} {post : Option Value → Nat → HT → Prop} {y' : MT} {idx n' : Nat} {h' : HT} {x1 x2 x3 x4 : Value} {a ci : Nat} {fs : List Value} (hd : lk (M_tb y) pc = some (.invokevirtual idx)) (hl : cal (M_own y) idx = some (0, y')) (hv : vOk y y' ci 4 = true) (hc0 : h a = some (ob ci fs)) (hcat : ([x1, x2, x3, x4] : List Value).all (fun v => v.category == 1) = true) (hrest : Nat.ble (rest.map fun v => v.category).sum 8 = true)
    (hC : CtJ G B y' (.ref (B + a) :: [x1, x2, x3, x4]) n h 0 0 (eqP none n' h')) (K : JJ X G B y (pc + 3) lv (rest) n' h' kc ks post) : JJ X G B y pc lv (x4 :: x3 :: x2 :: x1 :: .ref (B + a) :: rest) n h kc ks post := jj_vg (as := [x1, x2, x3, x4]) hd hl hv rfl hc0 hcat hrest (Nat.zero_le _) (Nat.zero_le _) hC K
theorem jj_v5 {X : State → Prop} {G : GC} {B : Nat} {y : MT} {pc : Nat} {lv : List (Option Value)} {rest : List Value} {n : Nat} {h : HT} {kc ks : Nat} {post : Option Value → Nat → HT → Prop} {y' : MT} {idx n' : Nat} {h' : HT} {x1 x2 x3 x4 x5 : Value} {v : Value} {a ci : Nat} {fs : List Value} (hd : lk (M_tb y) pc = some (.invokevirtual idx)) (hl : cal (M_own y) idx = some (0, y')) (hv : vOk y y' ci 5 = true) (hc0 : h a = some (ob ci fs)) (hcat : ([x1, x2, x3, x4, x5] : List Value).all (fun v => v.category == 1) = true) (hrest : Nat.ble (rest.map fun v => v.category).sum 8 = true)
    (hC : CtJ G B y' (.ref (B + a) :: [x1, x2, x3, x4, x5]) n h 0 0 (eqP (some v) n' h')) (K : JJ X G B y (pc + 3) lv (v :: rest) n' h' kc ks post) : JJ X G B y pc lv (x5 :: x4 :: x3 :: x2 :: x1 :: .ref (B + a) :: rest) n h kc ks post := jj_vg (as := [x1, x2, x3, x4, x5]) hd hl hv rfl hc0 hcat hrest (Nat.zero_le _) (Nat.zero_le _) hC K
theorem jj_w5 {X : State → Prop} {G : GC} {B : Nat} {y : MT} {pc : Nat} {lv : List (Option Value)} {rest : List Value} {n : Nat} {h : HT} {kc ks : Nat} {post : Option Value → Nat → HT → Prop} {y' : MT} {idx n' : Nat} {h' : HT} {x1 x2 x3 x4 x5 : Value} {a ci : Nat} {fs : List Value} (hd : lk (M_tb y) pc = some (.invokevirtual idx)) (hl : cal (M_own y) idx = some (0, y')) (hv : vOk y y' ci 5 = true) (hc0 : h a = some (ob ci fs)) (hcat : ([x1, x2, x3, x4, x5] : List Value).all (fun v => v.category == 1) = true) (hrest : Nat.ble (rest.map fun v => v.category).sum 8 = true)
    (hC : CtJ G B y' (.ref (B + a) :: [x1, x2, x3, x4, x5]) n h 0 0 (eqP none n' h')) (K : JJ X G B y (pc + 3) lv (rest) n' h' kc ks post) : JJ X G B y pc lv (x5 :: x4 :: x3 :: x2 :: x1 :: .ref (B + a) :: rest) n h kc ks post := jj_vg (as := [x1, x2, x3, x4, x5]) hd hl hv rfl hc0 hcat hrest (Nat.zero_le _) (Nat.zero_le _) hC K
theorem jj_t1 {X : State → Prop} {G : GC} {B : Nat} {y : MT} {pc : Nat} {lv : List (Option Value)} {rest : List Value} {n : Nat} {h : HT} {kc ks : Nat} {post : Option Value → Nat → HT → Prop} {y' : MT} {idx n' : Nat} {h' : HT} {x1 : Value} {v : Value} (hd : lk (M_tb y) pc = some (.invokestatic idx)) (hl : cal (M_own y) idx = some (1, y')) (hv : sOk y y' 1 = true) (hcat : ([x1] : List Value).all (fun v => v.category == 1) = true) (hrest : Nat.ble (rest.map fun v => v.category).sum 8 = true)
    (hC : CtJ G B y' [x1] n h 0 0 (eqP (some v) n' h')) (K : JJ X G B y (pc + 3) lv (v :: rest) n' h' kc ks post) : JJ X G B y pc lv (x1 :: rest) n h kc ks post := jj_sg (as := [x1]) hd hl hv rfl hcat hrest (Nat.zero_le _) (Nat.zero_le _) hC K
theorem jj_u1 {X : State → Prop} {G : GC} {B : Nat} {y : MT} {pc : Nat} {lv : List (Option Value)} {rest : List Value} {n : Nat} {h : HT} {kc ks : Nat} {post : Option Value → Nat → HT → Prop} {y' : MT} {idx n' : Nat} {h' : HT} {x1 : Value} (hd : lk (M_tb y) pc = some (.invokestatic idx)) (hl : cal (M_own y) idx = some (1, y')) (hv : sOk y y' 1 = true) (hcat : ([x1] : List Value).all (fun v => v.category == 1) = true) (hrest : Nat.ble (rest.map fun v => v.category).sum 8 = true)
    (hC : CtJ G B y' [x1] n h 0 0 (eqP none n' h')) (K : JJ X G B y (pc + 3) lv (rest) n' h' kc ks post) : JJ X G B y pc lv (x1 :: rest) n h kc ks post := jj_sg (as := [x1]) hd hl hv rfl hcat hrest (Nat.zero_le _) (Nat.zero_le _) hC K
theorem jj_tn1 {X : State → Prop} {G : GC} {B : Nat} {y : MT} {pc : Nat} {lv : List (Option Value)} {rest : List Value} {n : Nat} {h : HT} {kc ks : Nat} {post : Option Value → Nat → HT → Prop} {y' : MT} {idx n' : Nat} {h' : HT} {x1 : Value} {v : Value} (hd : lk (M_tb y) pc = some (.invokestatic idx)) (hl : cal (M_own y) idx = some (11, y')) (hv : sOk y y' 1 = true) (hcat : ([x1] : List Value).all (fun v => v.category == 1) = true) (hrest : Nat.ble (rest.map fun v => v.category).sum 8 = true)
    (hC : CtJ G B y' [x1] n h 0 0 (eqP (some v) n' h')) (K : JJ X G B y (pc + 3) lv (v :: rest) n' h' kc ks post) : JJ X G B y pc lv (x1 :: rest) n h kc ks post := jj_sng (as := [x1]) hd hl hv rfl hcat hrest (Nat.zero_le _) (Nat.zero_le _) hC K
theorem jj_t2 {X : State → Prop} {G : GC} {B : Nat} {y : MT} {pc : Nat} {lv : List (Option Value)} {rest : List Value} {n : Nat} {h : HT} {kc ks : Nat} {post : Option Value → Nat → HT → Prop} {y' : MT} {idx n' : Nat} {h' : HT} {x1 x2 : Value} {v : Value} (hd : lk (M_tb y) pc = some (.invokestatic idx)) (hl : cal (M_own y) idx = some (1, y')) (hv : sOk y y' 2 = true) (hcat : ([x1, x2] : List Value).all (fun v => v.category == 1) = true) (hrest : Nat.ble (rest.map fun v => v.category).sum 8 = true)
    (hC : CtJ G B y' [x1, x2] n h 0 0 (eqP (some v) n' h')) (K : JJ X G B y (pc + 3) lv (v :: rest) n' h' kc ks post) : JJ X G B y pc lv (x2 :: x1 :: rest) n h kc ks post := jj_sg (as := [x1, x2]) hd hl hv rfl hcat hrest (Nat.zero_le _) (Nat.zero_le _) hC K
theorem jj_u2 {X : State → Prop} {G : GC} {B : Nat} {y : MT} {pc : Nat} {lv : List (Option Value)} {rest : List Value} {n : Nat} {h : HT} {kc ks : Nat} {post : Option Value → Nat → HT → Prop} {y' : MT} {idx n' : Nat} {h' : HT} {x1 x2 : Value} (hd : lk (M_tb y) pc = some (.invokestatic idx)) (hl : cal (M_own y) idx = some (1, y')) (hv : sOk y y' 2 = true) (hcat : ([x1, x2] : List Value).all (fun v => v.category == 1) = true) (hrest : Nat.ble (rest.map fun v => v.category).sum 8 = true)
    (hC : CtJ G B y' [x1, x2] n h 0 0 (eqP none n' h')) (K : JJ X G B y (pc + 3) lv (rest) n' h' kc ks post) : JJ X G B y pc lv (x2 :: x1 :: rest) n h kc ks post := jj_sg (as := [x1, x2]) hd hl hv rfl hcat hrest (Nat.zero_le _) (Nat.zero_le _) hC K
theorem jj_tn2 {X : State → Prop} {G : GC} {B : Nat} {y : MT} {pc : Nat} {lv : List (Option Value)} {rest : List Value} {n : Nat} {h : HT} {kc ks : Nat} {post : Option Value → Nat → HT → Prop} {y' : MT} {idx n' : Nat} {h' : HT} {x1 x2 : Value} {v : Value} (hd : lk (M_tb y) pc = some (.invokestatic idx)) (hl : cal (M_own y) idx = some (11, y')) (hv : sOk y y' 2 = true) (hcat : ([x1, x2] : List Value).all (fun v => v.category == 1) = true) (hrest : Nat.ble (rest.map fun v => v.category).sum 8 = true)
    (hC : CtJ G B y' [x1, x2] n h 0 0 (eqP (some v) n' h')) (K : JJ X G B y (pc + 3) lv (v :: rest) n' h' kc ks post) : JJ X G B y pc lv (x2 :: x1 :: rest) n h kc ks post := jj_sng (as := [x1, x2]) hd hl hv rfl hcat hrest (Nat.zero_le _) (Nat.zero_le _) hC K
theorem jj_t3 {X : State → Prop} {G : GC} {B : Nat} {y : MT} {pc : Nat} {lv : List (Option Value)} {rest : List Value} {n : Nat} {h : HT} {kc ks : Nat} {post : Option Value → Nat → HT → Prop} {y' : MT} {idx n' : Nat} {h' : HT} {x1 x2 x3 : Value} {v : Value} (hd : lk (M_tb y) pc = some (.invokestatic idx)) (hl : cal (M_own y) idx = some (1, y')) (hv : sOk y y' 3 = true) (hcat : ([x1, x2, x3] : List Value).all (fun v => v.category == 1) = true) (hrest : Nat.ble (rest.map fun v => v.category).sum 8 = true)
    (hC : CtJ G B y' [x1, x2, x3] n h 0 0 (eqP (some v) n' h')) (K : JJ X G B y (pc + 3) lv (v :: rest) n' h' kc ks post) : JJ X G B y pc lv (x3 :: x2 :: x1 :: rest) n h kc ks post := jj_sg (as := [x1, x2, x3]) hd hl hv rfl hcat hrest (Nat.zero_le _) (Nat.zero_le _) hC K
theorem jj_u3 {X : State → Prop} {G : GC} {B : Nat} {y : MT} {pc : Nat} {lv : List (Option Value)} {rest : List Value} {n : Nat} {h : HT} {kc ks : Nat} {post : Option Value → Nat → HT → Prop} {y' : MT} {idx n' : Nat} {h' : HT} {x1 x2 x3 : Value} (hd : lk (M_tb y) pc = some (.invokestatic idx)) (hl : cal (M_own y) idx = some (1, y')) (hv : sOk y y' 3 = true) (hcat : ([x1, x2, x3] : List Value).all (fun v => v.category == 1) = true) (hrest : Nat.ble (rest.map fun v => v.category).sum 8 = true)
    (hC : CtJ G B y' [x1, x2, x3] n h 0 0 (eqP none n' h')) (K : JJ X G B y (pc + 3) lv (rest) n' h' kc ks post) : JJ X G B y pc lv (x3 :: x2 :: x1 :: rest) n h kc ks post := jj_sg (as := [x1, x2, x3]) hd hl hv rfl hcat hrest (Nat.zero_le _) (Nat.zero_le _) hC K
theorem jj_tn3 {X : State → Prop} {G : GC} {B : Nat} {y : MT} {pc : Nat} {lv : List (Option Value)} {rest : List Value} {n : Nat} {h : HT} {kc ks : Nat} {post : Option Value → Nat → HT → Prop} {y' : MT} {idx n' : Nat} {h' : HT} {x1 x2 x3 : Value} {v : Value} (hd : lk (M_tb y) pc = some (.invokestatic idx)) (hl : cal (M_own y) idx = some (11, y')) (hv : sOk y y' 3 = true) (hcat : ([x1, x2, x3] : List Value).all (fun v => v.category == 1) = true) (hrest : Nat.ble (rest.map fun v => v.category).sum 8 = true)
    (hC : CtJ G B y' [x1, x2, x3] n h 0 0 (eqP (some v) n' h')) (K : JJ X G B y (pc + 3) lv (v :: rest) n' h' kc ks post) : JJ X G B y pc lv (x3 :: x2 :: x1 :: rest) n h kc ks post := jj_sng (as := [x1, x2, x3]) hd hl hv rfl hcat hrest (Nat.zero_le _) (Nat.zero_le _) hC K
end
section
/-! bits of a number (the first rows begun from laws/BITS.to-paste) -/
def bt (x : Int32) (i : Nat) : Bool := x.toBitVec.getLsbD i
theorem b_ext {x y : Int32} (h : ∀ i, i < 32 → bt x i = bt y i) : x = y := Int32.toBitVec_inj.mp (BitVec.eq_of_getLsbD_eq (fun i hi => h i hi))
theorem b_or (x y : Int32) (i : Nat) : bt (x ||| y) i = (bt x i || bt y i) := by unfold bt; rw [Int32.toBitVec_or, BitVec.getLsbD_or]
theorem b_and (x y : Int32) (i : Nat) : bt (x &&& y) i = (bt x i && bt y i) := by unfold bt; rw [Int32.toBitVec_and, BitVec.getLsbD_and]
theorem b_xor (x y : Int32) (i : Nat) : bt (x ^^^ y) i = (bt x i ^^ bt y i) := by unfold bt; rw [Int32.toBitVec_xor, BitVec.getLsbD_xor]
theorem b_big {x : Int32} {i : Nat} (h : 32 ≤ i) : bt x i = false := BitVec.getLsbD_of_ge _ _ h
theorem b_m1 : ∀ i, i < 32 → bt (-1) i = true := by decide +kernel
theorem b_0 (i : Nat) : bt 0 i = false := BitVec.getLsbD_zero
theorem s_l : ∀ n, n < 32 → ((nI n &&& 31).toBitVec.smod 32).toNat = n := by decide +kernel
theorem b_shl (n : Nat) (hn : n < 32) (x : Int32) {i : Nat} (hi : i < 32) : bt (x <<< (nI n &&& 31)) i = (decide (n ≤ i) && bt x (i - n)) := by
  unfold bt
  rw [Int32.toBitVec_shiftLeft]
  show (x.toBitVec <<< ((nI n &&& 31).toBitVec.smod 32).toNat).getLsbD i = _
  rw [s_l n hn, BitVec.getLsbD_shiftLeft]
  rcases Nat.lt_or_ge i n with h | h
  · simp [h, Nat.not_le.mpr h]
  · simp [hi, h, Nat.not_lt.mpr h]
theorem b_sshr (n : Nat) (hn : n < 32) (x : Int32) {i : Nat} (hi : i < 32) : bt (x >>> (nI n &&& 31)) i = if n + i < 32 then bt x (n + i) else bt x 31 := by
  unfold bt
  rw [Int32.toBitVec_shiftRight]
  show (x.toBitVec.sshiftRight ((nI n &&& 31).toBitVec.smod 32).toNat).getLsbD i = _
  rw [s_l n hn, BitVec.getLsbD_sshiftRight, BitVec.msb_eq_getLsbD_last]
  simp [hi]
def bI (b : Bool) : Int32 := if b = true then 1 else 0
theorem bI_01 (b : Bool) : bI b = 0 ∨ bI b = 1 := by cases b <;> simp [bI]
theorem bI_0 {b : Bool} : bI b = 0 ↔ b = false := by cases b <;> simp [bI]
theorem bI_1 {b : Bool} : bI b = 1 ↔ b = true := by cases b <;> simp [bI]
theorem bt_1 : ∀ i, i < 32 → bt 1 i = decide (i = 0) := by decide +kernel
/-- the set of one item -/
def bit (i : Nat) : Int32 := (1 : Int32) <<< (nI i &&& 31)
theorem bt_bit {i : Nat} (hi : i < 32) (j : Nat) : bt (bit i) j = decide (j = i) := by
  rcases Nat.lt_or_ge j 32 with hj | hj
  · unfold bit
    rw [b_shl i hi 1 hj]
    rcases Nat.lt_or_ge j i with h | h
    · simp [Nat.not_le.mpr h]; omega
    · rw [bt_1 (j - i) (by omega)]
      simp [h]; omega
  · rw [b_big hj]
    simp; omega
theorem b_has {x : Int32} {i : Nat} (hi : i < 32) : (x >>> (nI i &&& 31)) &&& 1 = bI (bt x i) := by
  apply b_ext
  intro j hj
  rw [b_and, bt_1 j hj, b_sshr i hi x hj]
  by_cases h0 : j = 0
  · subst h0
    simp only [Nat.add_zero, hi, if_true, decide_true, Bool.and_true]
    cases bt x i <;> simp [bI] <;> decide
  · simp only [h0, decide_false, Bool.and_false]
    cases bt x i
    · simp [bI, b_0]
    · simp [bI]; rw [bt_1 j hj]; simp [h0]
theorem b_not {x : Int32} {j : Nat} (hj : j < 32) : bt (x ^^^ -1) j = !bt x j := by
  rw [b_xor, b_m1 j hj]
  simp
theorem b_drop {x : Int32} {i j : Nat} (hi : i < 32) : bt (x &&& (bit i ^^^ -1)) j = (bt x j && !decide (j = i)) := by
  rcases Nat.lt_or_ge j 32 with hj | hj
  · rw [b_and, b_not hj, bt_bit hi]
  · rw [b_big hj, b_big hj]; rfl
theorem b_put {x : Int32} {i j : Nat} (hi : i < 32) : bt (x ||| bit i) j = (bt x j || decide (j = i)) := by
  rw [b_or, bt_bit hi]
theorem b_ne0 {x : Int32} : x ≠ 0 ↔ ∃ i, i < 32 ∧ bt x i = true := by
  constructor
  · intro h
    refine Classical.byContradiction fun q => h (b_ext fun i hi => ?_)
    rw [b_0]
    cases hb : bt x i with
    | false => rfl
    | true => exact absurd ⟨i, hi, hb⟩ q
  · rintro ⟨i, _, hb⟩ rfl
    rw [b_0] at hb
    cases hb
/-- isWithin -/
theorem c_isWithin {G : GC} {B n : Nat} {h : HT} (x a b : Int32) : CtJ G B M8_isWithin [.int x, .int a, .int b] n h 0 0 (eqP (some (.int (bI (decide (a ≤ x ∧ x ≤ b))))) n h) := by
  unfold CtJ
  repeat (first | refine jj_inc rfl rfl ?_ | refine jj_s rfl rfl ?_)
  refine jj_icmp_lt 14 rfl rfl (fun c1 => ?_) (fun c1 => ?_)
  · repeat (first | refine jj_inc rfl rfl ?_ | refine jj_s rfl rfl ?_)
    exact jj_zret rfl rfl (Or.inl rfl) ⟨by simp [bI, Int32.not_le.mpr c1], rfl, rfl⟩
  · repeat (first | refine jj_inc rfl rfl ?_ | refine jj_s rfl rfl ?_)
    refine jj_icmp_gt 14 rfl rfl (fun c2 => ?_) (fun c2 => ?_)
    · repeat (first | refine jj_inc rfl rfl ?_ | refine jj_s rfl rfl ?_)
      exact jj_zret rfl rfl (Or.inl rfl) ⟨by simp [bI, Int32.not_le.mpr c2], rfl, rfl⟩
    · repeat (first | refine jj_inc rfl rfl ?_ | refine jj_s rfl rfl ?_)
      exact jj_zret rfl rfl (Or.inr rfl) ⟨by simp [bI, Int32.not_lt.mp c1, Int32.not_lt.mp c2], rfl, rfl⟩
/-- Bits.has -/
theorem c_has {G : GC} {B n : Nat} {h : HT} {x : Int32} {i : Nat} (hi : i < 32) : CtJ G B M0_has [.int x, .int (nI i)] n h 0 0 (eqP (some (.int (bI (bt x i)))) n h) := by
  unfold CtJ
  repeat (first | refine jj_inc rfl rfl ?_ | refine jj_s rfl rfl ?_)
  refine jj_if_eq 12 rfl rfl (fun c1 => ?_) (fun c1 => ?_)
  · have c1 : (x >>> (nI i &&& 31)) &&& 1 = 0 := c1
    rw [b_has hi, bI_0] at c1
    repeat (first | refine jj_inc rfl rfl ?_ | refine jj_s rfl rfl ?_)
    exact jj_zret rfl rfl (Or.inl rfl) ⟨by rw [c1]; rfl, rfl, rfl⟩
  · have c1 : ¬ (x >>> (nI i &&& 31)) &&& 1 = 0 := c1
    rw [b_has hi, bI_0, Bool.not_eq_false] at c1
    repeat (first | refine jj_inc rfl rfl ?_ | refine jj_s rfl rfl ?_)
    exact jj_zret rfl rfl (Or.inr rfl) ⟨by rw [c1]; rfl, rfl, rfl⟩
end
section
/-! the same rows, but not at the places zs (heads of loops) -/
def stn (ins : Instr) (pc : Nat) (lv : List (Option Value)) (st : List Value) : Option (Nat × List (Option Value) × List Value) := match ins with
  | .iinc .. => none
  | i => stp i pc lv st
theorem stn_stp {ins : Instr} {pc : Nat} {lv : List (Option Value)} {st : List Value} {r : Nat × List (Option Value) × List Value} (h : stn ins pc lv st = some r) : stp ins pc lv st = some r := by
  unfold stn at h
  split at h
  next => cases h
  next => exact h
theorem jj_sx {X : State → Prop} {G : GC} {B : Nat} {y : MT} {pc : Nat} {lv : List (Option Value)} {st : List Value} {n : Nat} {h : HT} {kc ks : Nat} {post : Option Value → Nat → HT → Prop} {ins : Instr} {pc' : Nat} {lv' : List (Option Value)} {st' : List Value} (zs : List Nat) (hz : zs.elem pc = false) (hd : lk (M_tb y) pc = some ins) (hs : stn ins pc lv st = some (pc', lv', st')) (k : JJ X G B y pc' lv' st' n h kc ks post) : JJ X G B y pc lv st n h kc ks post := jj_s hd (stn_stp hs) k
theorem jj_gx {X : State → Prop} {G : GC} {B : Nat} {y : MT} {pc : Nat} {lv : List (Option Value)} {st : List Value} {n : Nat} {h : HT} {kc ks : Nat} {post : Option Value → Nat → HT → Prop} {idx ci k a : Nat} {fs : List Value} {v : Value} (zs : List Nat) (hz : zs.elem pc = false) (hd : lk (M_tb y) pc = some (.getfield idx)) (hf : fld (M_own y) idx = some (ci, k)) (hc : h a = some (ob ci fs)) (hv : fs[k]? = some v) (K : JJ X G B y (pc + 3) lv (v :: st) n h kc ks post) : JJ X G B y pc lv (.ref (B + a) :: st) n h kc ks post := jj_g hd hf hc hv K
theorem jj_incx {X : State → Prop} {G : GC} {B : Nat} {y : MT} {pc : Nat} {lv : List (Option Value)} {st : List Value} {n : Nat} {h : HT} {kc ks : Nat} {post : Option Value → Nat → HT → Prop} {i k : Nat} (zs : List Nat) (hz : zs.elem pc = false) (hd : lk (M_tb y) pc = some (.iinc i 1)) (hl : lv[i]? = some (some (.int (nI k)))) (K : JJ X G B y (pc + 3) (lv.set i (some (.int (nI (k + 1))))) st n h kc ks post) : JJ X G B y pc lv st n h kc ks post := jj_inc hd hl K
/-! the Queue: its cells, and its small methods -/
def qobj (B q N : Nat) (S : Nat → Int32) : List Value := [.int (nI N), .int (S 1), .int (S 2), .int (S 3), .int (S 4), .ref (B + (q + 1)), .ref (B + (q + 2)), .ref (B + (q + 3)), .ref (B + (q + 4)), .ref (B + (q + 5)), .ref (B + (q + 6)), .ref (B + (q + 7)), .ref (B + (q + 8)), .ref (B + (q + 9)), .ref (B + (q + 10)), .ref (B + (q + 11)), .ref (B + (q + 12)), .ref (B + (q + 13))]
def wQ (B q N : Nat) (S : Nat → Int32) (F : Nat → Nat → Int32) (h : HT) : HT := fun k => if k = q then some (ob 5 (qobj B q N S)) else if q < k ∧ k < q + 14 then some (ia 20 (F (k - (q + 1)))) else h k
theorem wQ_o {B q N : Nat} {S : Nat → Int32} {F : Nat → Nat → Int32} {h : HT} : wQ B q N S F h q = some (ob 5 (qobj B q N S)) := if_pos rfl
theorem wQ_a {B q N : Nat} {S : Nat → Int32} {F : Nat → Nat → Int32} {h : HT} {j : Nat} (hj : j < 13) : wQ B q N S F h (q + (j + 1)) = some (ia 20 (F j)) := by
  unfold wQ
  rw [if_neg (by omega), if_pos (by omega), show q + (j + 1) - (q + 1) = j by omega]
theorem wQ_n {B q N : Nat} {S : Nat → Int32} {F : Nat → Nat → Int32} {h : HT} {k : Nat} (hk : k < q ∨ q + 14 ≤ k) : wQ B q N S F h k = h k := by
  unfold wQ
  rw [if_neg (by omega), if_neg (by omega)]
/-- one row of cells anew -/
def upF (F : Nat → Nat → Int32) (j : Nat) (f : Nat → Int32) : Nat → Nat → Int32 := fun a => if a = j then f else F a
/-- one place anew -/
def uF (F : Nat → Nat → Int32) (j i : Nat) (x : Int32) : Nat → Nat → Int32 := upF F j (upd (F j) i x)
theorem uF_s (F : Nat → Nat → Int32) (j i : Nat) (x : Int32) : uF F j i x j i = x := by simp [uF, upF, upd]
theorem uF_j (F : Nat → Nat → Int32) (j i : Nat) (x : Int32) {a : Nat} (ha : a ≠ j) : uF F j i x a = F a := by simp [uF, upF, ha]
theorem uF_i (F : Nat → Nat → Int32) (j i : Nat) (x : Int32) {k : Nat} (hk : k ≠ i) (a : Nat) : uF F j i x a k = F a k := by
  unfold uF upF
  split
  next e => subst e; simp [upd, hk]
  next => rfl
theorem uF_at (F : Nat → Nat → Int32) (j i : Nat) (x : Int32) (a k : Nat) : uF F j i x a k = if a = j ∧ k = i then x else F a k := by
  by_cases h1 : a = j
  · subst h1
    by_cases h2 : k = i
    · subst h2; simp [uF_s]
    · rw [uF_i _ _ _ _ h2]; simp [h2]
  · rw [uF_j _ _ _ _ h1]; simp [h1]
theorem wQ_put {B q N : Nat} {S : Nat → Int32} {F : Nat → Nat → Int32} {h : HT} {j i : Nat} {x : Int32} (hj : j < 13) : hu (wQ B q N S F h) (q + (j + 1)) (ia 20 (upd (F j) i x)) = wQ B q N S (uF F j i x) h := by
  funext k
  by_cases hk : k = q + (j + 1)
  · subst hk
    rw [hu_s, wQ_a hj]
    simp [uF, upF]
  · rw [hu_n _ _ _ hk]
    unfold wQ
    split
    next => rfl
    next h1 =>
      split
      next h2 => rw [uF_j _ _ _ _ (by omega)]
      next => rfl
theorem wQ_scal {B q N : Nat} {S : Nat → Int32} {F : Nat → Nat → Int32} {h : HT} {fs : List Value} {N' : Nat} {S' : Nat → Int32} (he : fs = qobj B q N' S') : hu (wQ B q N S F h) q (ob 5 fs) = wQ B q N' S' F h := by
  subst he
  funext k
  by_cases hk : k = q
  · subst hk
    rw [hu_s, wQ_o]
  · rw [hu_n _ _ _ hk]
    unfold wQ
    rw [if_neg hk, if_neg hk]
theorem wQ_id {B q N : Nat} {S : Nat → Int32} {F : Nat → Nat → Int32} {h : HT} (h0 : h q = some (ob 5 (qobj B q N S))) (ha : ∀ j, j < 13 → h (q + (j + 1)) = some (ia 20 (F j))) : wQ B q N S F h = h := by
  funext k
  by_cases hk : k = q
  · subst hk
    rw [wQ_o, h0]
  · by_cases h1 : q < k ∧ k < q + 14
    · have := ha (k - (q + 1)) (by omega)
      rw [show q + (k - (q + 1) + 1) = k by omega] at this
      unfold wQ
      rw [if_neg hk, if_pos h1, this]
    · exact wQ_n (by omega)
theorem wQ_wQ {B q N N' : Nat} {S S' : Nat → Int32} {F F' : Nat → Nat → Int32} {h : HT} : wQ B q N S F (wQ B q N' S' F' h) = wQ B q N S F h := by
  funext k
  unfold wQ
  split
  next => rfl
  next => split <;> rfl
/-! rows for numbers -/
theorem jj_geN {X : State → Prop} {G : GC} {B : Nat} {y : MT} {pc : Nat} {lv : List (Option Value)} {st : List Value} {n : Nat} {h : HT} {kc ks : Nat} {post : Option Value → Nat → HT → Prop} {a b : Nat} {off : Int} (tgt : Nat) (hd : lk (M_tb y) pc = some (.if_icmp .ge off)) (ht : (pc : Int) + off = (tgt : Int)) (ha : a < 2147483648) (hb : b < 2147483648)
    (kt : b ≤ a → JJ X G B y tgt lv st n h kc ks post) (kf : a < b → JJ X G B y (pc + 3) lv st n h kc ks post) : JJ X G B y pc lv (.int (nI b) :: .int (nI a) :: st) n h kc ks post :=
  jj_icmp_ge tgt hd ht (fun c => kt ((nI_leI hb ha).mp c)) (fun c => kf (by
    rcases Nat.lt_or_ge a b with q | q
    · exact q
    · exact absurd ((nI_leI hb ha).mpr q) c))
/-- behind a method that answers a truth -/
theorem jj_zT {X : State → Prop} {G : GC} {B : Nat} {y : MT} {pc : Nat} {lv : List (Option Value)} {st : List Value} {n : Nat} {h : HT} {kc ks : Nat} {post : Option Value → Nat → HT → Prop} {b : Bool} {off : Int} (tgt : Nat) (hd : lk (M_tb y) pc = some (.ifCond .eq off)) (ht : (pc : Int) + off = (tgt : Int))
    (kf : b = false → JJ X G B y tgt lv st n h kc ks post) (kt : b = true → JJ X G B y (pc + 3) lv st n h kc ks post) : JJ X G B y pc lv (.int (bI b) :: st) n h kc ks post :=
  jj_if_eq tgt hd ht (fun c => kf (bI_0.mp c)) (fun c => kt (by cases b; exact absurd rfl c; rfl))
theorem jj_zF {X : State → Prop} {G : GC} {B : Nat} {y : MT} {pc : Nat} {lv : List (Option Value)} {st : List Value} {n : Nat} {h : HT} {kc ks : Nat} {post : Option Value → Nat → HT → Prop} {b : Bool} {off : Int} (tgt : Nat) (hd : lk (M_tb y) pc = some (.ifCond .ne off)) (ht : (pc : Int) + off = (tgt : Int))
    (kt : b = true → JJ X G B y tgt lv st n h kc ks post) (kf : b = false → JJ X G B y (pc + 3) lv st n h kc ks post) : JJ X G B y pc lv (.int (bI b) :: st) n h kc ks post :=
  jj_if_ne tgt hd ht (fun c => kt (by cases b; exact absurd rfl c; rfl)) (fun c => kf (bI_0.mp c))
/-! the Queue's small methods -/
set_option maxHeartbeats 4000000 in
set_option maxRecDepth 100000 in
 theorem c_holds {G : GC} {B n : Nat} {h : HT} {q N : Nat} {S : Nat → Int32} {F : Nat → Nat → Int32} (x : Int32) : CtJ G B M5_holds [.ref (B + q), .int x] n (wQ B q N S F h) 0 0 (eqP (some (.int (bI (decide (0 ≤ x ∧ x < nI N))))) n (wQ B q N S F h)) := by
  unfold CtJ
  repeat (first | refine jj_s rfl rfl ?_)
  refine jj_if_lt 16 rfl rfl (fun c1 => ?_) (fun c1 => ?_)
  · repeat (first | refine jj_s rfl rfl ?_)
    exact jj_zret rfl rfl (Or.inl rfl) ⟨by simp [bI, Int32.not_le.mpr c1], rfl, rfl⟩
  · repeat (first | refine jj_s rfl rfl ?_ | refine jj_g rfl rfl wQ_o rfl ?_)
    refine jj_icmp_ge 16 rfl rfl (fun c2 => ?_) (fun c2 => ?_)
    · repeat (first | refine jj_s rfl rfl ?_)
      exact jj_zret rfl rfl (Or.inl rfl) ⟨by simp [bI, Int32.not_lt.mpr c2], rfl, rfl⟩
    · repeat (first | refine jj_s rfl rfl ?_)
      exact jj_zret rfl rfl (Or.inr rfl) ⟨by simp [bI, Int32.not_lt.mp c1, Int32.not_le.mp c2], rfl, rfl⟩
set_option maxHeartbeats 4000000 in
set_option maxRecDepth 100000 in
 theorem c_isFull {G : GC} {B n : Nat} {h : HT} {q N : Nat} {S : Nat → Int32} {F : Nat → Nat → Int32} : CtJ G B M5_isFull [.ref (B + q)] n (wQ B q N S F h) 0 0 (eqP (some (.int (bI (decide (20 ≤ nI N))))) n (wQ B q N S F h)) := by
  unfold CtJ
  repeat (first | refine jj_s rfl rfl ?_ | refine jj_g rfl rfl wQ_o rfl ?_)
  refine jj_icmp_lt 13 rfl rfl (fun (c1 : nI N < 20) => ?_) (fun (c1 : ¬ nI N < 20) => ?_)
  · repeat (first | refine jj_s rfl rfl ?_)
    exact jj_zret rfl rfl (Or.inl rfl) ⟨by simp [bI, Int32.not_le.mpr c1], rfl, rfl⟩
  · repeat (first | refine jj_s rfl rfl ?_)
    exact jj_zret rfl rfl (Or.inr rfl) ⟨by simp [bI, Int32.not_lt.mp c1], rfl, rfl⟩
set_option maxHeartbeats 4000000 in
set_option maxRecDepth 100000 in
 theorem c_hasEnded {G : GC} {B n : Nat} {h : HT} {q N : Nat} {S : Nat → Int32} {F : Nat → Nat → Int32} {i : Nat} (hi : i < 20) : CtJ G B M5_hasEnded [.ref (B + q), .int (nI i)] n (wQ B q N S F h) 0 0 (eqP (some (.int (bI (decide (3 ≤ F 5 i))))) n (wQ B q N S F h)) := by
  unfold CtJ
  repeat (first | refine jj_s rfl rfl ?_ | refine jj_g rfl rfl wQ_o rfl ?_)
  refine jj_ialdN rfl (wQ_a (by decide)) hi rfl ?_
  repeat (first | refine jj_s rfl rfl ?_)
  refine jj_icmp_lt 14 rfl rfl (fun (c1 : F 5 i < 3) => ?_) (fun (c1 : ¬ F 5 i < 3) => ?_)
  · repeat (first | refine jj_s rfl rfl ?_)
    exact jj_zret rfl rfl (Or.inl rfl) ⟨by simp [bI, Int32.not_le.mpr c1], rfl, rfl⟩
  · repeat (first | refine jj_s rfl rfl ?_)
    exact jj_zret rfl rfl (Or.inr rfl) ⟨by simp [bI, Int32.not_lt.mp c1], rfl, rfl⟩
set_option maxHeartbeats 4000000 in
set_option maxRecDepth 100000 in
 theorem c_hasFailed {G : GC} {B n : Nat} {h : HT} {q N : Nat} {S : Nat → Int32} {F : Nat → Nat → Int32} {i : Nat} (hi : i < 20) : CtJ G B M5_hasFailed [.ref (B + q), .int (nI i)] n (wQ B q N S F h) 0 0 (eqP (some (.int (bI (decide (3 < F 5 i))))) n (wQ B q N S F h)) := by
  unfold CtJ
  repeat (first | refine jj_s rfl rfl ?_ | refine jj_g rfl rfl wQ_o rfl ?_)
  refine jj_ialdN rfl (wQ_a (by decide)) hi rfl ?_
  repeat (first | refine jj_s rfl rfl ?_)
  refine jj_icmp_le 14 rfl rfl (fun (c1 : F 5 i ≤ 3) => ?_) (fun (c1 : ¬ F 5 i ≤ 3) => ?_)
  · repeat (first | refine jj_s rfl rfl ?_)
    exact jj_zret rfl rfl (Or.inl rfl) ⟨by simp [bI, Int32.not_lt.mpr c1], rfl, rfl⟩
  · repeat (first | refine jj_s rfl rfl ?_)
    exact jj_zret rfl rfl (Or.inr rfl) ⟨by simp [bI, Int32.not_le.mp c1], rfl, rfl⟩
set_option maxHeartbeats 4000000 in
set_option maxRecDepth 100000 in
 theorem c_followsEdges {G : GC} {B n : Nat} {h : HT} {q N : Nat} {S : Nat → Int32} {F : Nat → Nat → Int32} {i : Nat} (hi : i < 20) : CtJ G B M5_followsEdges [.ref (B + q), .int (nI i)] n (wQ B q N S F h) 0 0 (eqP (some (.int (bI (decide (F 5 i = 0 ∨ F 5 i = 1))))) n (wQ B q N S F h)) := by
  unfold CtJ
  repeat (first | refine jj_s rfl rfl ?_ | refine jj_g rfl rfl wQ_o rfl ?_)
  refine jj_ialdN rfl (wQ_a (by decide)) hi rfl ?_
  refine jj_if_eq 19 rfl rfl (fun c1 => ?_) (fun c1 => ?_)
  · repeat (first | refine jj_s rfl rfl ?_)
    exact jj_zret rfl rfl (Or.inr rfl) ⟨by simp [bI, c1], rfl, rfl⟩
  · repeat (first | refine jj_s rfl rfl ?_ | refine jj_g rfl rfl wQ_o rfl ?_)
    refine jj_ialdN rfl (wQ_a (by decide)) hi rfl ?_
    repeat (first | refine jj_s rfl rfl ?_)
    refine jj_icmp_ne 23 rfl rfl (fun (c2 : ¬ F 5 i = 1) => ?_) (fun (c2 : F 5 i = 1) => ?_)
    · repeat (first | refine jj_s rfl rfl ?_)
      exact jj_zret rfl rfl (Or.inl rfl) ⟨by simp [bI, c1, c2], rfl, rfl⟩
    · repeat (first | refine jj_s rfl rfl ?_)
      exact jj_zret rfl rfl (Or.inr rfl) ⟨by simp [bI, c2], rfl, rfl⟩
set_option maxHeartbeats 4000000 in
set_option maxRecDepth 100000 in
 theorem c_isValid {G : GC} {B n : Nat} {h : HT} {q N : Nat} {S : Nat → Int32} {F : Nat → Nat → Int32} {i : Nat} (hi : i < 20) (r : Int32) : CtJ G B M5_isValid [.ref (B + q), .int (nI i), .int r] n (wQ B q N S F h) 0 0 (eqP (some (.int (bI (decide (F 5 i = 2 ∧ F 10 i = r))))) n (wQ B q N S F h)) := by
  unfold CtJ
  repeat (first | refine jj_s rfl rfl ?_ | refine jj_g rfl rfl wQ_o rfl ?_)
  refine jj_ialdN rfl (wQ_a (by decide)) hi rfl ?_
  repeat (first | refine jj_s rfl rfl ?_)
  refine jj_icmp_ne 24 rfl rfl (fun (c1 : ¬ F 5 i = 2) => ?_) (fun (c1 : F 5 i = 2) => ?_)
  · repeat (first | refine jj_s rfl rfl ?_)
    exact jj_zret rfl rfl (Or.inl rfl) ⟨by simp [bI, c1], rfl, rfl⟩
  · repeat (first | refine jj_s rfl rfl ?_ | refine jj_g rfl rfl wQ_o rfl ?_)
    refine jj_ialdN rfl (wQ_a (by decide)) hi rfl ?_
    repeat (first | refine jj_s rfl rfl ?_)
    refine jj_icmp_ne 24 rfl rfl (fun c2 => ?_) (fun c2 => ?_)
    · repeat (first | refine jj_s rfl rfl ?_)
      exact jj_zret rfl rfl (Or.inl rfl) ⟨by simp [bI, c2], rfl, rfl⟩
    · repeat (first | refine jj_s rfl rfl ?_)
      exact jj_zret rfl rfl (Or.inr rfl) ⟨by simp [bI, c1, c2], rfl, rfl⟩
/-- what is left of an item's work -/
def wkL (F : Nat → Nat → Int32) (i : Nat) : Int32 := if 3 ≤ F 5 i then 0 else F 1 i
set_option maxHeartbeats 4000000 in
set_option maxRecDepth 100000 in
 theorem c_workLeft {G : GC} {B n : Nat} {h : HT} {q N : Nat} {S : Nat → Int32} {F : Nat → Nat → Int32} {i : Nat} (hi : i < 20) : CtJ G B M5_workLeft [.ref (B + q), .int (nI i)] n (wQ B q N S F h) 0 0 (eqP (some (.int (wkL F i))) n (wQ B q N S F h)) := by
  unfold CtJ
  repeat (first | refine jj_s rfl rfl ?_)
  refine jj_v1 rfl rfl rfl wQ_o rfl rfl (c_hasEnded hi) ?_
  refine jj_zT 12 rfl rfl (fun c1 => ?_) (fun c1 => ?_)
  · repeat (first | refine jj_s rfl rfl ?_ | refine jj_g rfl rfl wQ_o rfl ?_)
    refine jj_ialdN rfl (wQ_a (by decide)) hi rfl ?_
    exact jj_iret rfl rfl ⟨by simp at c1; simp [wkL, Int32.not_le.mpr c1], rfl, rfl⟩
  · repeat (first | refine jj_s rfl rfl ?_)
    exact jj_iret rfl rfl ⟨by simp at c1; simp [wkL, c1], rfl, rfl⟩
/-- the set of those below k that are such -/
def msk (P : Nat → Bool) : Nat → Int32
  | 0 => 0
  | k + 1 => if P k = true then msk P k ||| bit k else msk P k
theorem bt_msk (P : Nat → Bool) {k : Nat} (hk : k ≤ 32) (i : Nat) : bt (msk P k) i = (decide (i < k) && P i) := by
  induction k with
  | zero => simp [msk, b_0]
  | succ k ih =>
    unfold msk
    split
    next hp =>
      rw [b_put (by omega), ih (by omega)]
      by_cases hik : i = k
      · subst hik; simp [hp]
      · have : (decide (i < k + 1)) = decide (i < k) := by simp; omega
        simp [hik, this]
    next hp =>
      rw [ih (by omega)]
      by_cases hik : i = k
      · subst hik; simp at hp; simp [hp]
      · have : (decide (i < k + 1)) = decide (i < k) := by simp; omega
        rw [this]
set_option maxHeartbeats 4000000 in
set_option maxRecDepth 100000 in
 theorem c_setIn {G : GC} {B n : Nat} {h : HT} {q N : Nat} {S : Nat → Int32} {F : Nat → Nat → Int32} (hN : N ≤ 20) (w : Int32) : CtJ G B M5_setIn [.ref (B + q), .int w] n (wQ B q N S F h) 0 0 (eqP (some (.int (msk (fun i => decide (F 5 i = w)) N))) n (wQ B q N S F h)) := by
  unfold CtJ
  repeat (first | refine jj_sx [4] rfl rfl rfl ?_ | refine jj_incx [4] rfl rfl rfl ?_)
  have L : ∀ d k, k ≤ N → N + 1 ≤ k + d → JJ X0 G B M5_setIn 4 [some (.ref (B + q)), some (.int w), some (.int (msk (fun i => decide (F 5 i = w)) k)), some (.int (nI k))] [] n (wQ B q N S F h) 0 0 (eqP (some (.int (msk (fun i => decide (F 5 i = w)) N))) n (wQ B q N S F h)) := by
    intro d
    induction d with
    | zero => intro k h1 h2; exact absurd h2 (by omega)
    | succ d ih =>
      intro k h1 h2
      refine jj_s rfl rfl ?_; repeat (first | refine jj_sx [4] rfl rfl rfl ?_ | refine jj_gx [4] rfl rfl rfl wQ_o rfl ?_ | refine jj_incx [4] rfl rfl rfl ?_)
      refine jj_geN 34 rfl rfl (by omega) (by omega) (fun c => ?_) (fun c => ?_)
      · repeat (first | refine jj_s rfl rfl ?_)
        exact jj_iret rfl rfl ⟨by rw [show k = N by omega], rfl, rfl⟩
      · repeat (first | refine jj_s rfl rfl ?_ | refine jj_g rfl rfl wQ_o rfl ?_)
        refine jj_ialdN rfl (wQ_a (by decide)) (by omega) rfl ?_
        repeat (first | refine jj_s rfl rfl ?_)
        refine jj_icmp_ne 28 rfl rfl (fun c2 => ?_) (fun c2 => ?_)
        · repeat (first | refine jj_sx [4] rfl rfl rfl ?_ | refine jj_incx [4] rfl rfl rfl ?_)
          refine jj_lv ?_ (ih (k + 1) (by omega) (by omega))
          simp [msk, c2]
        · repeat (first | refine jj_sx [4] rfl rfl rfl ?_ | refine jj_incx [4] rfl rfl rfl ?_)
          refine jj_lv ?_ (ih (k + 1) (by omega) (by omega))
          simp [msk, c2, bit]
  exact L (N + 1) 0 (by omega) (by omega)
end
section
/-! rows for the Queue's cells -/
theorem jj_qld {X : State → Prop} {G : GC} {B : Nat} {y : MT} {pc : Nat} {lv : List (Option Value)} {st : List Value} {n : Nat} {h : HT} {kc ks : Nat} {post : Option Value → Nat → HT → Prop} {q N : Nat} {S : Nat → Int32} {F : Nat → Nat → Int32} {j i : Nat} (zs : List Nat) (hz : zs.elem pc = false) (hd : lk (M_tb y) pc = some .iaload) (hj : j < 13) (hi : i < 20) (K : JJ X G B y (pc + 1) lv (.int (F j i) :: st) n (wQ B q N S F h) kc ks post) : JJ X G B y pc lv (.int (nI i) :: .ref (B + (q + (j + 1))) :: st) n (wQ B q N S F h) kc ks post := jj_ialdN hd (wQ_a hj) hi rfl K
theorem jj_qst {X : State → Prop} {G : GC} {B : Nat} {y : MT} {pc : Nat} {lv : List (Option Value)} {st : List Value} {n : Nat} {h : HT} {kc ks : Nat} {post : Option Value → Nat → HT → Prop} {q N : Nat} {S : Nat → Int32} {F : Nat → Nat → Int32} {j i : Nat} {x : Int32} (zs : List Nat) (hz : zs.elem pc = false) (hd : lk (M_tb y) pc = some .iastore) (hj : j < 13) (hi : i < 20) (K : JJ X G B y (pc + 1) lv st n (wQ B q N S (uF F j i x) h) kc ks post) : JJ X G B y pc lv (.int x :: .int (nI i) :: .ref (B + (q + (j + 1))) :: st) n (wQ B q N S F h) kc ks post := jj_iastN hd (wQ_a hj) hi rfl (jj_h (wQ_put hj) K)
theorem jj_qpt {X : State → Prop} {G : GC} {B : Nat} {y : MT} {pc : Nat} {lv : List (Option Value)} {st : List Value} {n : Nat} {h : HT} {kc ks : Nat} {post : Option Value → Nat → HT → Prop} {q N : Nat} {S : Nat → Int32} {F : Nat → Nat → Int32} {idx k N' : Nat} {x : Int32} {S' : Nat → Int32} (hd : lk (M_tb y) pc = some (.putfield idx)) (hf : fld (M_own y) idx = some (5, k)) (hk : Nat.blt k 5 = true) (he : (qobj B q N S).set k (.int x) = qobj B q N' S') (K : JJ X G B y (pc + 3) lv st n (wQ B q N' S' F h) kc ks post) : JJ X G B y pc lv (.int x :: .ref (B + q) :: st) n (wQ B q N S F h) kc ks post := by
  have hk : k < 5 := by simpa using hk
  refine jj_p hd hf ?_ ?_ wQ_o ?_ (jj_h (wQ_scal he) K)
  · match k, hk with
    | 0, _ => rfl
    | 1, _ => rfl
    | 2, _ => rfl
    | 3, _ => rfl
    | 4, _ => rfl
  · match k, hk with
    | 0, _ => rfl
    | 1, _ => rfl
    | 2, _ => rfl
    | 3, _ => rfl
    | 4, _ => rfl
  · simp [qobj]; omega
set_option maxHeartbeats 4000000 in
set_option maxRecDepth 100000 in
 theorem c_unendedSet {G : GC} {B n : Nat} {h : HT} {q N : Nat} {S : Nat → Int32} {F : Nat → Nat → Int32} (hN : N ≤ 20) : CtJ G B M5_unendedSet [.ref (B + q)] n (wQ B q N S F h) 0 0 (eqP (some (.int (msk (fun i => decide (F 5 i = 0)) N ||| msk (fun i => decide (F 5 i = 1)) N ||| msk (fun i => decide (F 5 i = 2)) N))) n (wQ B q N S F h)) := by
  unfold CtJ
  refine jj_lv (lv' := [some (.ref (B + q))]) rfl ?_
  refine jj_s (pc' := 1) rfl rfl ?_
  refine jj_s (pc' := 2) rfl rfl ?_
  refine jj_v1 rfl rfl rfl wQ_o rfl rfl (c_setIn hN _) ?_
  refine jj_s (pc' := 6) rfl rfl ?_
  refine jj_s (pc' := 7) rfl rfl ?_
  refine jj_v1 rfl rfl rfl wQ_o rfl rfl (c_setIn hN _) ?_
  refine jj_s (pc' := 11) rfl rfl ?_
  refine jj_s (pc' := 12) rfl rfl ?_
  refine jj_s (pc' := 13) rfl rfl ?_
  refine jj_v1 rfl rfl rfl wQ_o rfl rfl (c_setIn hN _) ?_
  refine jj_s (pc' := 17) rfl rfl ?_
  exact jj_iret rfl rfl ⟨rfl, rfl, rfl⟩
set_option maxHeartbeats 4000000 in
set_option maxRecDepth 100000 in
 theorem c_startAnew {G : GC} {B n : Nat} {h : HT} {q N : Nat} {S : Nat → Int32} {F : Nat → Nat → Int32} {i : Nat} (hi : i < 20) : CtJ G B M5_startAnew [.ref (B + q), .int (nI i)] n (wQ B q N S F h) 0 0 (eqP none n (wQ B q N S (uF (uF (uF F 5 i 0) 9 i 0) 10 i (-7)) h)) := by
  unfold CtJ
  refine jj_lv (lv' := [some (.ref (B + q)), some (.int (nI i))]) rfl ?_
  refine jj_s (pc' := 1) rfl rfl ?_
  refine jj_g rfl rfl wQ_o rfl ?_
  refine jj_s (pc' := 5) rfl rfl ?_
  refine jj_s (pc' := 6) rfl rfl ?_
  refine jj_qst [] rfl rfl (by decide) (by first | assumption | omega) ?_
  refine jj_s (pc' := 8) rfl rfl ?_
  refine jj_g rfl rfl wQ_o rfl ?_
  refine jj_s (pc' := 12) rfl rfl ?_
  refine jj_s (pc' := 13) rfl rfl ?_
  refine jj_qst [] rfl rfl (by decide) (by first | assumption | omega) ?_
  refine jj_s (pc' := 15) rfl rfl ?_
  refine jj_g rfl rfl wQ_o rfl ?_
  refine jj_s (pc' := 19) rfl rfl ?_
  refine jj_s (pc' := 21) rfl rfl ?_
  refine jj_qst [] rfl rfl (by decide) (by first | assumption | omega) ?_
  exact jj_vret rfl rfl ⟨rfl, rfl, rfl⟩
set_option maxHeartbeats 4000000 in
set_option maxRecDepth 100000 in
 theorem c_makeReady {G : GC} {B n : Nat} {h : HT} {q N : Nat} {S : Nat → Int32} {F : Nat → Nat → Int32} {i : Nat} (hi : i < 20) (p : Int32) : CtJ G B M5_makeReady [.ref (B + q), .int (nI i), .int p] n (wQ B q N S F h) 0 0 (eqP none n (wQ B q N S (uF (uF (uF F 5 i 1) 6 i (S 1 + p)) 7 i (S 1)) h)) := by
  unfold CtJ
  refine jj_lv (lv' := [some (.ref (B + q)), some (.int (nI i)), some (.int p)]) rfl ?_
  refine jj_s (pc' := 1) rfl rfl ?_
  refine jj_g rfl rfl wQ_o rfl ?_
  refine jj_s (pc' := 5) rfl rfl ?_
  refine jj_s (pc' := 6) rfl rfl ?_
  refine jj_qst [] rfl rfl (by decide) (by first | assumption | omega) ?_
  refine jj_s (pc' := 8) rfl rfl ?_
  refine jj_g rfl rfl wQ_o rfl ?_
  refine jj_s (pc' := 12) rfl rfl ?_
  refine jj_s (pc' := 13) rfl rfl ?_
  refine jj_g rfl rfl wQ_o rfl ?_
  refine jj_s (pc' := 17) rfl rfl ?_
  refine jj_s (pc' := 18) rfl rfl ?_
  refine jj_qst [] rfl rfl (by decide) (by first | assumption | omega) ?_
  refine jj_s (pc' := 20) rfl rfl ?_
  refine jj_g rfl rfl wQ_o rfl ?_
  refine jj_s (pc' := 24) rfl rfl ?_
  refine jj_s (pc' := 25) rfl rfl ?_
  refine jj_g rfl rfl wQ_o rfl ?_
  refine jj_qst [] rfl rfl (by decide) (by first | assumption | omega) ?_
  exact jj_vret rfl rfl ⟨rfl, rfl, rfl⟩
set_option maxHeartbeats 4000000 in
set_option maxRecDepth 100000 in
 theorem c_removeItems {G : GC} {B n : Nat} {h : HT} {q N : Nat} {S : Nat → Int32} {F : Nat → Nat → Int32} : CtJ G B M5_removeItems [.ref (B + q)] n (wQ B q N S F h) 0 0 (eqP none n (wQ B q 0 S F h)) := by
  unfold CtJ
  refine jj_lv (lv' := [some (.ref (B + q))]) rfl ?_
  refine jj_s (pc' := 1) rfl rfl ?_
  refine jj_s (pc' := 2) rfl rfl ?_
  refine jj_qpt (N' := 0) (S' := S) rfl rfl rfl rfl ?_
  exact jj_vret rfl rfl ⟨rfl, rfl, rfl⟩
/-- the predecessors -/
def prd (F : Nat → Nat → Int32) (i : Nat) : Int32 := F 11 i ||| F 12 i
set_option maxHeartbeats 4000000 in
set_option maxRecDepth 100000 in
 theorem c_predecessors {G : GC} {B n : Nat} {h : HT} {q N : Nat} {S : Nat → Int32} {F : Nat → Nat → Int32} {i : Nat} (hi : i < 20) : CtJ G B M5_predecessors [.ref (B + q), .int (nI i)] n (wQ B q N S F h) 0 0 (eqP (some (.int (prd F i))) n (wQ B q N S F h)) := by
  unfold CtJ
  refine jj_lv (lv' := [some (.ref (B + q)), some (.int (nI i))]) rfl ?_
  refine jj_s (pc' := 1) rfl rfl ?_
  refine jj_g rfl rfl wQ_o rfl ?_
  refine jj_s (pc' := 5) rfl rfl ?_
  refine jj_qld [] rfl rfl (by decide) (by first | assumption | omega) ?_
  refine jj_s (pc' := 7) rfl rfl ?_
  refine jj_g rfl rfl wQ_o rfl ?_
  refine jj_s (pc' := 11) rfl rfl ?_
  refine jj_qld [] rfl rfl (by decide) (by first | assumption | omega) ?_
  refine jj_s (pc' := 13) rfl rfl ?_
  exact jj_iret rfl rfl ⟨rfl, rfl, rfl⟩
/-- an item at the end -/
def apF (F : Nat → Nat → Int32) (N : Nat) (a b c d e : Int32) : Nat → Nat → Int32 := uF (uF (uF (uF (uF (uF (uF (uF (uF (uF F 0 N a) 1 N b) 2 N c) 3 N d) 4 N e) 11 N 0) 12 N 0) 5 N 0) 9 N 0) 10 N (-7)
set_option maxHeartbeats 4000000 in
set_option maxRecDepth 100000 in
 theorem c_append {G : GC} {B n : Nat} {h : HT} {q N : Nat} {S : Nat → Int32} {F : Nat → Nat → Int32} (hN : N < 20) (a b c d e : Int32) : CtJ G B M5_append [.ref (B + q), .int a, .int b, .int c, .int d, .int e] n (wQ B q N S F h) 0 0 (eqP (some (.int (nI N))) n (wQ B q (N + 1) S (apF F N a b c d e) h)) := by
  unfold CtJ
  refine jj_lv (lv' := [some (.ref (B + q)), some (.int a), some (.int b), some (.int c), some (.int d), some (.int e), none]) rfl ?_
  refine jj_s (pc' := 1) rfl rfl ?_
  refine jj_g rfl rfl wQ_o rfl ?_
  refine jj_s (pc' := 6) rfl rfl ?_
  refine jj_s (pc' := 7) rfl rfl ?_
  refine jj_s (pc' := 8) rfl rfl ?_
  refine jj_g rfl rfl wQ_o rfl ?_
  refine jj_s (pc' := 12) rfl rfl ?_
  refine jj_s (pc' := 13) rfl rfl ?_
  refine jj_qpt (N' := N + 1) (S' := S) rfl rfl rfl (by rw [show nI N + Int32.ofInt 1 = nI (N + 1) from nI_1 N]; rfl) ?_
  refine jj_s (pc' := 17) rfl rfl ?_
  refine jj_g rfl rfl wQ_o rfl ?_
  refine jj_s (pc' := 22) rfl rfl ?_
  refine jj_s (pc' := 23) rfl rfl ?_
  refine jj_qst [] rfl rfl (by decide) (by first | assumption | omega) ?_
  refine jj_s (pc' := 25) rfl rfl ?_
  refine jj_g rfl rfl wQ_o rfl ?_
  refine jj_s (pc' := 30) rfl rfl ?_
  refine jj_s (pc' := 31) rfl rfl ?_
  refine jj_qst [] rfl rfl (by decide) (by first | assumption | omega) ?_
  refine jj_s (pc' := 33) rfl rfl ?_
  refine jj_g rfl rfl wQ_o rfl ?_
  refine jj_s (pc' := 38) rfl rfl ?_
  refine jj_s (pc' := 39) rfl rfl ?_
  refine jj_qst [] rfl rfl (by decide) (by first | assumption | omega) ?_
  refine jj_s (pc' := 41) rfl rfl ?_
  refine jj_g rfl rfl wQ_o rfl ?_
  refine jj_s (pc' := 46) rfl rfl ?_
  refine jj_s (pc' := 48) rfl rfl ?_
  refine jj_qst [] rfl rfl (by decide) (by first | assumption | omega) ?_
  refine jj_s (pc' := 50) rfl rfl ?_
  refine jj_g rfl rfl wQ_o rfl ?_
  refine jj_s (pc' := 55) rfl rfl ?_
  refine jj_s (pc' := 57) rfl rfl ?_
  refine jj_qst [] rfl rfl (by decide) (by first | assumption | omega) ?_
  refine jj_s (pc' := 59) rfl rfl ?_
  refine jj_g rfl rfl wQ_o rfl ?_
  refine jj_s (pc' := 64) rfl rfl ?_
  refine jj_s (pc' := 65) rfl rfl ?_
  refine jj_qst [] rfl rfl (by decide) (by first | assumption | omega) ?_
  refine jj_s (pc' := 67) rfl rfl ?_
  refine jj_g rfl rfl wQ_o rfl ?_
  refine jj_s (pc' := 72) rfl rfl ?_
  refine jj_s (pc' := 73) rfl rfl ?_
  refine jj_qst [] rfl rfl (by decide) (by first | assumption | omega) ?_
  refine jj_s (pc' := 75) rfl rfl ?_
  refine jj_s (pc' := 77) rfl rfl ?_
  refine jj_w1 rfl rfl rfl wQ_o rfl rfl (c_startAnew hN) ?_
  refine jj_s (pc' := 82) rfl rfl ?_
  exact jj_iret rfl rfl ⟨rfl, rfl, rfl⟩
set_option maxHeartbeats 4000000 in
set_option maxRecDepth 100000 in
 theorem c_edgeKind {G : GC} {B n : Nat} {h : HT} {q N : Nat} {S : Nat → Int32} {F : Nat → Nat → Int32} {p i : Nat} (hp : p < 20) (hi : i < 20) : CtJ G B M5_edgeKind [.ref (B + q), .int (nI p), .int (nI i)] n (wQ B q N S F h) 0 0 (eqP (some (.int (if bt (F 11 i) p = true then 0 else if bt (F 12 i) p = true then 1 else -7))) n (wQ B q N S F h)) := by
  unfold CtJ
  refine jj_lv (lv' := [some (.ref (B + q)), some (.int (nI p)), some (.int (nI i))]) rfl ?_
  refine jj_s (pc' := 1) rfl rfl ?_
  refine jj_g rfl rfl wQ_o rfl ?_
  refine jj_s (pc' := 5) rfl rfl ?_
  refine jj_qld [] rfl rfl (by decide) (by first | assumption | omega) ?_
  refine jj_s (pc' := 7) rfl rfl ?_
  refine jj_t2 rfl rfl rfl rfl rfl (c_has (by omega)) ?_
  refine jj_zT 15 rfl rfl (fun c1 => ?_) (fun c1 => ?_)
  · refine jj_s (pc' := 16) rfl rfl ?_
    refine jj_g rfl rfl wQ_o rfl ?_
    refine jj_s (pc' := 20) rfl rfl ?_
    refine jj_qld [] rfl rfl (by decide) (by first | assumption | omega) ?_
    refine jj_s (pc' := 22) rfl rfl ?_
    refine jj_t2 rfl rfl rfl rfl rfl (c_has (by omega)) ?_
    refine jj_zT 32 rfl rfl (fun c2 => ?_) (fun c2 => ?_)
    · refine jj_s (pc' := 34) rfl rfl ?_
      exact jj_iret rfl rfl ⟨by simp [c1, c2], rfl, rfl⟩
    · refine jj_s (pc' := 29) rfl rfl ?_
      refine jj_s (pc' := 34) rfl rfl ?_
      exact jj_iret rfl rfl ⟨by simp [c1, c2], rfl, rfl⟩
  · refine jj_s (pc' := 14) rfl rfl ?_
    exact jj_iret rfl rfl ⟨by simp [c1], rfl, rfl⟩
/-- without the edge -/
def drF (F : Nat → Nat → Int32) (p i : Nat) : Nat → Nat → Int32 := uF (uF F 11 i (F 11 i &&& (bit p ^^^ -1))) 12 i (F 12 i &&& (bit p ^^^ -1))
set_option maxHeartbeats 4000000 in
set_option maxRecDepth 100000 in
 theorem c_dropEdge {G : GC} {B n : Nat} {h : HT} {q N : Nat} {S : Nat → Int32} {F : Nat → Nat → Int32} {p i : Nat} (hi : i < 20) : CtJ G B M5_dropEdge [.ref (B + q), .int (nI p), .int (nI i)] n (wQ B q N S F h) 0 0 (eqP none n (wQ B q N S (drF F p i) h)) := by
  unfold CtJ
  refine jj_lv (lv' := [some (.ref (B + q)), some (.int (nI p)), some (.int (nI i))]) rfl ?_
  refine jj_s (pc' := 1) rfl rfl ?_
  refine jj_g rfl rfl wQ_o rfl ?_
  refine jj_s (pc' := 5) rfl rfl ?_
  refine jj_s (pc' := 6) rfl rfl ?_
  refine jj_qld [] rfl rfl (by decide) (by first | assumption | omega) ?_
  refine jj_s (pc' := 8) rfl rfl ?_
  refine jj_s (pc' := 9) rfl rfl ?_
  refine jj_s (pc' := 10) rfl rfl ?_
  refine jj_s (pc' := 11) rfl rfl ?_
  refine jj_s (pc' := 12) rfl rfl ?_
  refine jj_s (pc' := 13) rfl rfl ?_
  refine jj_qst [] rfl rfl (by decide) (by first | assumption | omega) ?_
  refine jj_s (pc' := 15) rfl rfl ?_
  refine jj_g rfl rfl wQ_o rfl ?_
  refine jj_s (pc' := 19) rfl rfl ?_
  refine jj_s (pc' := 20) rfl rfl ?_
  refine jj_qld [] rfl rfl (by decide) (by first | assumption | omega) ?_
  refine jj_s (pc' := 22) rfl rfl ?_
  refine jj_s (pc' := 23) rfl rfl ?_
  refine jj_s (pc' := 24) rfl rfl ?_
  refine jj_s (pc' := 25) rfl rfl ?_
  refine jj_s (pc' := 26) rfl rfl ?_
  refine jj_s (pc' := 27) rfl rfl ?_
  refine jj_qst [] rfl rfl (by decide) (by first | assumption | omega) ?_
  exact jj_vret rfl rfl ⟨rfl, rfl, rfl⟩
def ptF (F : Nat → Nat → Int32) (p i : Nat) (k : Int32) : Nat → Nat → Int32 := if k = 0 then uF (drF F p i) 11 i (drF F p i 11 i ||| bit p) else uF (drF F p i) 12 i (drF F p i 12 i ||| bit p)
set_option maxHeartbeats 4000000 in
set_option maxRecDepth 100000 in
 theorem c_putEdge {G : GC} {B n : Nat} {h : HT} {q N : Nat} {S : Nat → Int32} {F : Nat → Nat → Int32} {p i : Nat} (hi : i < 20) (k : Int32) : CtJ G B M5_putEdge [.ref (B + q), .int (nI p), .int (nI i), .int k] n (wQ B q N S F h) 0 0 (eqP none n (wQ B q N S (ptF F p i k) h)) := by
  unfold CtJ
  refine jj_lv (lv' := [some (.ref (B + q)), some (.int (nI p)), some (.int (nI i)), some (.int k)]) rfl ?_
  refine jj_s (pc' := 1) rfl rfl ?_
  refine jj_s (pc' := 2) rfl rfl ?_
  refine jj_s (pc' := 3) rfl rfl ?_
  refine jj_w2 rfl rfl rfl wQ_o rfl rfl (c_dropEdge hi) ?_
  refine jj_s (pc' := 7) rfl rfl ?_
  refine jj_if_ne 25 rfl rfl (fun c1 => ?_) (fun c1 => ?_)
  · refine jj_s (pc' := 26) rfl rfl ?_
    refine jj_g rfl rfl wQ_o rfl ?_
    refine jj_s (pc' := 30) rfl rfl ?_
    refine jj_s (pc' := 31) rfl rfl ?_
    refine jj_qld [] rfl rfl (by decide) (by first | assumption | omega) ?_
    refine jj_s (pc' := 33) rfl rfl ?_
    refine jj_s (pc' := 34) rfl rfl ?_
    refine jj_s (pc' := 35) rfl rfl ?_
    refine jj_s (pc' := 36) rfl rfl ?_
    refine jj_qst [] rfl rfl (by decide) (by first | assumption | omega) ?_
    exact jj_vret rfl rfl ⟨rfl, rfl, by rw [ptF, if_neg c1]; rfl⟩
  · refine jj_s (pc' := 11) rfl rfl ?_
    refine jj_g rfl rfl wQ_o rfl ?_
    refine jj_s (pc' := 15) rfl rfl ?_
    refine jj_s (pc' := 16) rfl rfl ?_
    refine jj_qld [] rfl rfl (by decide) (by first | assumption | omega) ?_
    refine jj_s (pc' := 18) rfl rfl ?_
    refine jj_s (pc' := 19) rfl rfl ?_
    refine jj_s (pc' := 20) rfl rfl ?_
    refine jj_s (pc' := 21) rfl rfl ?_
    refine jj_qst [] rfl rfl (by decide) (by first | assumption | omega) ?_
    refine jj_s (pc' := 37) rfl rfl ?_
    exact jj_vret rfl rfl ⟨rfl, rfl, by rw [ptF, if_pos c1]; rfl⟩
/-- an item comes back -/
def cbF (S : Nat → Int32) (F : Nat → Nat → Int32) (i : Nat) (p : Int32) : Nat → Nat → Int32 := if F 9 i < F 2 i then uF (uF (uF F 5 i 1) 6 i (S 1 + p)) 7 i (S 1) else uF F 5 i 6
set_option maxHeartbeats 4000000 in
set_option maxRecDepth 100000 in
 theorem c_comeBack {G : GC} {B n : Nat} {h : HT} {q N : Nat} {S : Nat → Int32} {F : Nat → Nat → Int32} {i : Nat} (hi : i < 20) (p : Int32) : CtJ G B M5_comeBack [.ref (B + q), .int (nI i), .int p] n (wQ B q N S F h) 0 0 (eqP none n (wQ B q N S (cbF S F i p) h)) := by
  unfold CtJ
  refine jj_lv (lv' := [some (.ref (B + q)), some (.int (nI i)), some (.int p)]) rfl ?_
  refine jj_s (pc' := 1) rfl rfl ?_
  refine jj_g rfl rfl wQ_o rfl ?_
  refine jj_s (pc' := 5) rfl rfl ?_
  refine jj_qld [] rfl rfl (by decide) (by first | assumption | omega) ?_
  refine jj_s (pc' := 7) rfl rfl ?_
  refine jj_g rfl rfl wQ_o rfl ?_
  refine jj_s (pc' := 11) rfl rfl ?_
  refine jj_qld [] rfl rfl (by decide) (by first | assumption | omega) ?_
  refine jj_icmp_lt 26 rfl rfl (fun c1 => ?_) (fun c1 => ?_)
  · refine jj_s (pc' := 27) rfl rfl ?_
    refine jj_s (pc' := 28) rfl rfl ?_
    refine jj_s (pc' := 29) rfl rfl ?_
    refine jj_w2 rfl rfl rfl wQ_o rfl rfl (c_makeReady hi p) ?_
    exact jj_vret rfl rfl ⟨rfl, rfl, by rw [cbF, if_pos c1]⟩
  · refine jj_s (pc' := 16) rfl rfl ?_
    refine jj_g rfl rfl wQ_o rfl ?_
    refine jj_s (pc' := 20) rfl rfl ?_
    refine jj_s (pc' := 22) rfl rfl ?_
    refine jj_qst [] rfl rfl (by decide) (by first | assumption | omega) ?_
    refine jj_s (pc' := 32) rfl rfl ?_
    exact jj_vret rfl rfl ⟨rfl, rfl, by rw [cbF, if_neg c1]; rfl⟩
/-- an item is taken out -/
def toF (S : Nat → Int32) (F : Nat → Nat → Int32) (i : Nat) (v : Int32) : Nat → Nat → Int32 := uF (uF (uF (uF F 5 i 2) 8 i (S 1 + v)) 9 i (F 9 i + 1)) 10 i (S 4 + 1)
set_option maxHeartbeats 4000000 in
set_option maxRecDepth 100000 in
 theorem c_takeOut {G : GC} {B n : Nat} {h : HT} {q N : Nat} {S : Nat → Int32} {F : Nat → Nat → Int32} {i : Nat} (hi : i < 20) (v : Int32) : CtJ G B M5_takeOut [.ref (B + q), .int (nI i), .int v] n (wQ B q N S F h) 0 0 (eqP none n (wQ B q N (upd S 4 (S 4 + 1)) (toF S F i v) h)) := by
  unfold CtJ
  refine jj_lv (lv' := [some (.ref (B + q)), some (.int (nI i)), some (.int v)]) rfl ?_
  refine jj_s (pc' := 1) rfl rfl ?_
  refine jj_s (pc' := 2) rfl rfl ?_
  refine jj_g rfl rfl wQ_o rfl ?_
  refine jj_s (pc' := 6) rfl rfl ?_
  refine jj_s (pc' := 7) rfl rfl ?_
  refine jj_qpt (N' := N) (S' := upd S 4 (S 4 + 1)) rfl rfl rfl rfl ?_
  refine jj_s (pc' := 11) rfl rfl ?_
  refine jj_g rfl rfl wQ_o rfl ?_
  refine jj_s (pc' := 15) rfl rfl ?_
  refine jj_s (pc' := 16) rfl rfl ?_
  refine jj_qst [] rfl rfl (by decide) (by first | assumption | omega) ?_
  refine jj_s (pc' := 18) rfl rfl ?_
  refine jj_g rfl rfl wQ_o rfl ?_
  refine jj_s (pc' := 22) rfl rfl ?_
  refine jj_s (pc' := 23) rfl rfl ?_
  refine jj_g rfl rfl wQ_o rfl ?_
  refine jj_s (pc' := 27) rfl rfl ?_
  refine jj_s (pc' := 28) rfl rfl ?_
  refine jj_qst [] rfl rfl (by decide) (by first | assumption | omega) ?_
  refine jj_s (pc' := 30) rfl rfl ?_
  refine jj_g rfl rfl wQ_o rfl ?_
  refine jj_s (pc' := 34) rfl rfl ?_
  refine jj_s (pc' := 35) rfl rfl ?_
  refine jj_qld [] rfl rfl (by decide) (by first | assumption | omega) ?_
  refine jj_s (pc' := 37) rfl rfl ?_
  refine jj_s (pc' := 38) rfl rfl ?_
  refine jj_qst [] rfl rfl (by decide) (by first | assumption | omega) ?_
  refine jj_s (pc' := 40) rfl rfl ?_
  refine jj_g rfl rfl wQ_o rfl ?_
  refine jj_s (pc' := 44) rfl rfl ?_
  refine jj_s (pc' := 45) rfl rfl ?_
  refine jj_g rfl rfl wQ_o rfl ?_
  refine jj_qst [] rfl rfl (by decide) (by first | assumption | omega) ?_
  exact jj_vret rfl rfl ⟨rfl, rfl, rfl⟩
/-- the rank -/
def rkF (F : Nat → Nat → Int32) (i : Nat) (r ht wt : Int32) : Int32 := if r = 1 then F 0 i * 100 + ht else if r = 2 then F 0 i * 100 + 10 * wt else F 0 i * 100
set_option maxHeartbeats 4000000 in
set_option maxRecDepth 100000 in
 theorem c_rankFor {G : GC} {B n : Nat} {h : HT} {q N : Nat} {S : Nat → Int32} {F : Nat → Nat → Int32} {i : Nat} (hi : i < 20) (r ht wt : Int32) : CtJ G B M5_rankFor [.ref (B + q), .int (nI i), .int r, .int ht, .int wt] n (wQ B q N S F h) 0 0 (eqP (some (.int (rkF F i r ht wt))) n (wQ B q N S F h)) := by
  unfold CtJ
  refine jj_lv (lv' := [some (.ref (B + q)), some (.int (nI i)), some (.int r), some (.int ht), some (.int wt), none]) rfl ?_
  refine jj_s (pc' := 1) rfl rfl ?_
  refine jj_g rfl rfl wQ_o rfl ?_
  refine jj_s (pc' := 5) rfl rfl ?_
  refine jj_qld [] rfl rfl (by decide) (by first | assumption | omega) ?_
  refine jj_s (pc' := 8) rfl rfl ?_
  refine jj_s (pc' := 9) rfl rfl ?_
  refine jj_s (pc' := 11) rfl rfl ?_
  refine jj_s (pc' := 12) rfl rfl ?_
  refine jj_s (pc' := 13) rfl rfl ?_
  refine jj_icmp_ne 22 rfl rfl (fun (c1 : ¬ r = 1) => ?_) (fun (c1 : r = 1) => ?_)
  · refine jj_s (pc' := 23) rfl rfl ?_
    refine jj_s (pc' := 24) rfl rfl ?_
    refine jj_icmp_ne 37 rfl rfl (fun (c2 : ¬ r = 2) => ?_) (fun (c2 : r = 2) => ?_)
    · refine jj_s (pc' := 39) rfl rfl ?_
      exact jj_iret rfl rfl ⟨by rw [rkF, if_neg c1, if_neg c2]; rfl, rfl, rfl⟩
    · refine jj_s (pc' := 29) rfl rfl ?_
      refine jj_s (pc' := 31) rfl rfl ?_
      refine jj_s (pc' := 33) rfl rfl ?_
      refine jj_s (pc' := 34) rfl rfl ?_
      refine jj_s (pc' := 35) rfl rfl ?_
      refine jj_s (pc' := 37) rfl rfl ?_
      refine jj_s (pc' := 39) rfl rfl ?_
      exact jj_iret rfl rfl ⟨by rw [rkF, if_neg c1, if_pos c2]; rfl, rfl, rfl⟩
  · subst c1
    refine jj_s (pc' := 18) rfl rfl ?_
    refine jj_s (pc' := 19) rfl rfl ?_
    refine jj_s (pc' := 20) rfl rfl ?_
    refine jj_s (pc' := 22) rfl rfl ?_
    refine jj_s (pc' := 23) rfl rfl ?_
    refine jj_s (pc' := 24) rfl rfl ?_
    refine jj_icmp_ne 37 rfl rfl (fun c2 => ?_) (fun c2 => ?_)
    · refine jj_s (pc' := 39) rfl rfl ?_
      exact jj_iret rfl rfl ⟨rfl, rfl, rfl⟩
    · exact absurd c2 (by decide)
def rkN (S : Nat → Int32) (F : Nat → Nat → Int32) (i : Nat) (ht : Int32) : Int32 := rkF F i (S 2) ht (if F 5 i = 1 then S 1 - F 7 i else 0)
set_option maxHeartbeats 4000000 in
set_option maxRecDepth 100000 in
 theorem c_rankNow {G : GC} {B n : Nat} {h : HT} {q N : Nat} {S : Nat → Int32} {F : Nat → Nat → Int32} {i : Nat} (hi : i < 20) (ht : Int32) : CtJ G B M5_rankNow [.ref (B + q), .int (nI i), .int ht] n (wQ B q N S F h) 0 0 (eqP (some (.int (rkN S F i ht))) n (wQ B q N S F h)) := by
  unfold CtJ
  refine jj_lv (lv' := [some (.ref (B + q)), some (.int (nI i)), some (.int ht), none]) rfl ?_
  refine jj_s (pc' := 1) rfl rfl ?_
  refine jj_g rfl rfl wQ_o rfl ?_
  refine jj_s (pc' := 5) rfl rfl ?_
  refine jj_qld [] rfl rfl (by decide) (by first | assumption | omega) ?_
  refine jj_s (pc' := 7) rfl rfl ?_
  refine jj_icmp_ne 24 rfl rfl (fun (c1 : ¬ F 5 i = 1) => ?_) (fun (c1 : F 5 i = 1) => ?_)
  · refine jj_s (pc' := 25) rfl rfl ?_
    refine jj_s (pc' := 26) rfl rfl ?_
    refine jj_s (pc' := 27) rfl rfl ?_
    refine jj_s (pc' := 28) rfl rfl ?_
    refine jj_s (pc' := 29) rfl rfl ?_
    refine jj_g rfl rfl wQ_o rfl ?_
    refine jj_s (pc' := 33) rfl rfl ?_
    refine jj_s (pc' := 34) rfl rfl ?_
    refine jj_v4 rfl rfl rfl wQ_o rfl rfl (c_rankFor hi _ _ _) ?_
    exact jj_iret rfl rfl ⟨by rw [rkN, if_neg c1]; rfl, rfl, rfl⟩
  · refine jj_s (pc' := 11) rfl rfl ?_
    refine jj_g rfl rfl wQ_o rfl ?_
    refine jj_s (pc' := 15) rfl rfl ?_
    refine jj_g rfl rfl wQ_o rfl ?_
    refine jj_s (pc' := 19) rfl rfl ?_
    refine jj_qld [] rfl rfl (by decide) (by first | assumption | omega) ?_
    refine jj_s (pc' := 21) rfl rfl ?_
    refine jj_s (pc' := 25) rfl rfl ?_
    refine jj_s (pc' := 26) rfl rfl ?_
    refine jj_s (pc' := 27) rfl rfl ?_
    refine jj_s (pc' := 28) rfl rfl ?_
    refine jj_s (pc' := 29) rfl rfl ?_
    refine jj_g rfl rfl wQ_o rfl ?_
    refine jj_s (pc' := 33) rfl rfl ?_
    refine jj_s (pc' := 34) rfl rfl ?_
    refine jj_v4 rfl rfl rfl wQ_o rfl rfl (c_rankFor hi _ _ _) ?_
    exact jj_iret rfl rfl ⟨by rw [rkN, if_pos c1], rfl, rfl⟩
end
section
/-! counting and looking over the items -/
def cn (P : Nat → Bool) : Nat → Nat
  | 0 => 0
  | k + 1 => cn P k + (if P k = true then 1 else 0)
theorem cn_le (P : Nat → Bool) (k : Nat) : cn P k ≤ k := by
  induction k with
  | zero => exact Nat.le_refl _
  | succ k ih => unfold cn; split <;> omega
def anyN (P : Nat → Bool) : Nat → Bool
  | 0 => false
  | k + 1 => anyN P k || P k
theorem anyN_iff (P : Nat → Bool) (k : Nat) : anyN P k = true ↔ ∃ i, i < k ∧ P i = true := by
  induction k with
  | zero => simp [anyN]
  | succ k ih =>
    unfold anyN
    rw [Bool.or_eq_true, ih]
    constructor
    · rintro (⟨i, h1, h2⟩ | h)
      · exact ⟨i, by omega, h2⟩
      · exact ⟨k, by omega, h⟩
    · rintro ⟨i, h1, h2⟩
      by_cases e : i = k
      · subst e; exact Or.inr h2
      · exact Or.inl ⟨i, by omega, h2⟩
/-- the first of those with the greatest rank -/
def pkB (P : Nat → Bool) (R : Nat → Int32) : Nat → Option Nat
  | 0 => none
  | k + 1 => match pkB P R k with
    | none => if P k = true then some k else none
    | some b => if P k = true ∧ R b < R k then some k else some b
def enc (o : Option Nat) : Int32 := match o with
  | none => -7
  | some b => nI b
def rkO (R : Nat → Int32) (o : Option Nat) : Int32 := match o with
  | none => 0
  | some b => R b
theorem pkB_lt (P : Nat → Bool) (R : Nat → Int32) (k b : Nat) (h : pkB P R k = some b) : b < k ∧ P b = true := by
  induction k generalizing b with
  | zero => cases h
  | succ k ih =>
    unfold pkB at h
    split at h
    next =>
      split at h
      next hp => cases h; exact ⟨by omega, hp⟩
      next => cases h
    next c hc =>
      have := ih c hc
      split at h
      next hp => cases h; exact ⟨by omega, hp.1⟩
      next => cases h; exact ⟨by omega, this.2⟩
theorem pkB_skip {P : Nat → Bool} {R : Nat → Int32} {k : Nat} (h : P k = false) : pkB P R (k + 1) = pkB P R k := by
  rw [pkB]
  cases pkB P R k <;> simp [h]
theorem pkB_none {P : Nat → Bool} {R : Nat → Int32} {k : Nat} (hp : pkB P R k = none) (h : P k = true) : pkB P R (k + 1) = some k := by
  rw [pkB, hp]
  simp [h]
theorem pkB_win {P : Nat → Bool} {R : Nat → Int32} {k b : Nat} (hp : pkB P R k = some b) (h : P k = true) (hr : R b < R k) : pkB P R (k + 1) = some k := by
  rw [pkB, hp]
  simp [h, hr]
theorem pkB_lose {P : Nat → Bool} {R : Nat → Int32} {k b : Nat} (hp : pkB P R k = some b) (hr : ¬ R b < R k) : pkB P R (k + 1) = some b := by
  rw [pkB, hp]
  simp [hr]
theorem enc_ne {b : Nat} (h : b < 2147483648) : ¬ nI b = -7 := by
  intro q
  have h1 := nI_pos (n := b) h
  rw [q] at h1
  exact h1 (by decide)
set_option maxHeartbeats 4000000 in
set_option maxRecDepth 100000 in
 theorem c_inFlightOf {G : GC} {B n : Nat} {h : HT} {q N : Nat} {S : Nat → Int32} {F : Nat → Nat → Int32} (hN : N ≤ 20) (w : Int32) : CtJ G B M5_inFlightOf [.ref (B + q), .int w] n (wQ B q N S F h) 0 0 (eqP (some (.int (nI (cn (fun i => decide (F 5 i = 2 ∧ F 3 i = w)) N)))) n (wQ B q N S F h)) := by
  unfold CtJ
  refine jj_lv (lv' := [some (.ref (B + q)), some (.int w), none, none]) rfl ?_
  refine jj_s (pc' := 1) rfl rfl ?_
  refine jj_s (pc' := 2) rfl rfl ?_
  refine jj_s (pc' := 3) rfl rfl ?_
  refine jj_s (pc' := 4) rfl rfl ?_
  have L : ∀ d k, k ≤ N → N + 1 ≤ k + d → JJ X0 G B M5_inFlightOf 4 [some (.ref (B + q)), some (.int w), some (.int (nI (cn (fun i => decide (F 5 i = 2 ∧ F 3 i = w)) k))), some (.int (nI k))] [] n (wQ B q N S F h) 0 0 (eqP (some (.int (nI (cn (fun i => decide (F 5 i = 2 ∧ F 3 i = w)) N)))) n (wQ B q N S F h)) := by
    intro d
    induction d with
    | zero => intro k h1 h2; exact absurd h2 (by omega)
    | succ d ih =>
      intro k h1 h2
      refine jj_s (pc' := 5) rfl rfl ?_
      refine jj_s (pc' := 6) rfl rfl ?_
      refine jj_g rfl rfl wQ_o rfl ?_
      refine jj_geN 41 rfl rfl (by omega) (by omega) (fun c => ?_) (fun c => ?_)
      · refine jj_s (pc' := 42) rfl rfl ?_
        exact jj_iret rfl rfl ⟨by rw [show k = N by omega], rfl, rfl⟩
      · refine jj_s (pc' := 13) rfl rfl ?_
        refine jj_g rfl rfl wQ_o rfl ?_
        refine jj_s (pc' := 17) rfl rfl ?_
        refine jj_qld [] rfl rfl (by decide) (by first | assumption | omega) ?_
        refine jj_s (pc' := 19) rfl rfl ?_
        refine jj_icmp_ne 35 rfl rfl (fun (c2 : ¬ F 5 k = 2) => ?_) (fun (c2 : F 5 k = 2) => ?_)
        · first | refine jj_inc rfl rfl ?_ | refine jj_s (pc' := 38) rfl rfl ?_
          refine jj_s (pc' := 4) rfl rfl ?_
          refine jj_lv ?_ (ih (k + 1) (by omega) (by omega))
          simp [cn, c2]
        · refine jj_s (pc' := 23) rfl rfl ?_
          refine jj_g rfl rfl wQ_o rfl ?_
          refine jj_s (pc' := 27) rfl rfl ?_
          refine jj_qld [] rfl rfl (by decide) (by first | assumption | omega) ?_
          refine jj_s (pc' := 29) rfl rfl ?_
          refine jj_icmp_ne 35 rfl rfl (fun c3 => ?_) (fun c3 => ?_)
          · first | refine jj_inc rfl rfl ?_ | refine jj_s (pc' := 38) rfl rfl ?_
            refine jj_s (pc' := 4) rfl rfl ?_
            refine jj_lv ?_ (ih (k + 1) (by omega) (by omega))
            simp [cn, c3]
          · first | refine jj_inc rfl rfl ?_ | refine jj_s (pc' := 35) rfl rfl ?_
            first | refine jj_inc rfl rfl ?_ | refine jj_s (pc' := 38) rfl rfl ?_
            refine jj_s (pc' := 4) rfl rfl ?_
            refine jj_lv ?_ (ih (k + 1) (by omega) (by omega))
            simp [cn, c2, c3]
  exact L (N + 1) 0 (by omega) (by omega)
/-- whether an item can be received -/
def cbr (S : Nat → Int32) (F : Nat → Nat → Int32) (N i : Nat) : Bool := decide (F 5 i = 1 ∧ F 6 i ≤ S 1 ∧ nI (cn (fun j => decide (F 5 j = 2 ∧ F 3 j = F 3 i)) N) < S 3)
set_option maxHeartbeats 4000000 in
set_option maxRecDepth 100000 in
 theorem c_canBeReceived {G : GC} {B n : Nat} {h : HT} {q N : Nat} {S : Nat → Int32} {F : Nat → Nat → Int32} (hN : N ≤ 20) {i : Nat} (hi : i < 20) : CtJ G B M5_canBeReceived [.ref (B + q), .int (nI i)] n (wQ B q N S F h) 0 0 (eqP (some (.int (bI (cbr S F N i)))) n (wQ B q N S F h)) := by
  unfold CtJ
  refine jj_lv (lv' := [some (.ref (B + q)), some (.int (nI i))]) rfl ?_
  refine jj_s (pc' := 1) rfl rfl ?_
  refine jj_g rfl rfl wQ_o rfl ?_
  refine jj_s (pc' := 5) rfl rfl ?_
  refine jj_qld [] rfl rfl (by decide) (by first | assumption | omega) ?_
  refine jj_s (pc' := 7) rfl rfl ?_
  refine jj_icmp_ne 44 rfl rfl (fun (c1 : ¬ F 5 i = 1) => ?_) (fun (c1 : F 5 i = 1) => ?_)
  · refine jj_s (pc' := 45) rfl rfl ?_
    exact jj_zret rfl rfl (Or.inl rfl) ⟨by simp [bI, cbr, c1], rfl, rfl⟩
  · refine jj_s (pc' := 11) rfl rfl ?_
    refine jj_g rfl rfl wQ_o rfl ?_
    refine jj_s (pc' := 15) rfl rfl ?_
    refine jj_qld [] rfl rfl (by decide) (by first | assumption | omega) ?_
    refine jj_s (pc' := 17) rfl rfl ?_
    refine jj_g rfl rfl wQ_o rfl ?_
    refine jj_icmp_gt 44 rfl rfl (fun c2 => ?_) (fun c2 => ?_)
    · refine jj_s (pc' := 45) rfl rfl ?_
      exact jj_zret rfl rfl (Or.inl rfl) ⟨by simp [bI, cbr, Int32.not_le.mpr c2], rfl, rfl⟩
    · refine jj_s (pc' := 24) rfl rfl ?_
      refine jj_s (pc' := 25) rfl rfl ?_
      refine jj_g rfl rfl wQ_o rfl ?_
      refine jj_s (pc' := 29) rfl rfl ?_
      refine jj_qld [] rfl rfl (by decide) (by first | assumption | omega) ?_
      refine jj_v1 rfl rfl rfl wQ_o rfl rfl (c_inFlightOf hN _) ?_
      refine jj_s (pc' := 34) rfl rfl ?_
      refine jj_g rfl rfl wQ_o rfl ?_
      refine jj_icmp_ge 44 rfl rfl (fun c3 => ?_) (fun c3 => ?_)
      · refine jj_s (pc' := 45) rfl rfl ?_
        exact jj_zret rfl rfl (Or.inl rfl) ⟨by rw [show cbr S F N i = false from decide_eq_false (fun z => Int32.not_lt.mpr c3 z.2.2)]; rfl, rfl, rfl⟩
      · refine jj_s (pc' := 41) rfl rfl ?_
        refine jj_s (pc' := 45) rfl rfl ?_
        exact jj_zret rfl rfl (Or.inr rfl) ⟨by rw [show cbr S F N i = true from decide_eq_true ⟨c1, Int32.not_lt.mp c2, Int32.not_le.mp c3⟩]; rfl, rfl, rfl⟩
set_option maxHeartbeats 4000000 in
set_option maxRecDepth 100000 in
 theorem c_nextToReceive {G : GC} {B n : Nat} {h : HT} {q N : Nat} {S : Nat → Int32} {F : Nat → Nat → Int32} (hN : N ≤ 20) {a : Nat} {H : Nat → Int32} (hH : (wQ B q N S F h) a = some (ia 20 H)) : CtJ G B M5_nextToReceive [.ref (B + q), .ref (B + a)] n (wQ B q N S F h) 0 0 (eqP (some (.int (enc (pkB (cbr S F N) (fun i => rkN S F i (H i)) N)))) n (wQ B q N S F h)) := by
  unfold CtJ
  refine jj_lv (lv' := [some (.ref (B + q)), some (.ref (B + a)), none, none, none, none]) rfl ?_
  refine jj_s (pc' := 2) rfl rfl ?_
  refine jj_s (pc' := 3) rfl rfl ?_
  refine jj_s (pc' := 4) rfl rfl ?_
  refine jj_s (pc' := 5) rfl rfl ?_
  refine jj_s (pc' := 6) rfl rfl ?_
  refine jj_s (pc' := 8) rfl rfl ?_
  have L : ∀ d k, k ≤ N → N + 1 ≤ k + d → ∀ z, JJ X0 G B M5_nextToReceive 8 [some (.ref (B + q)), some (.ref (B + a)), some (.int (enc (pkB (cbr S F N) (fun i => rkN S F i (H i)) k))), some (.int (rkO (fun i => rkN S F i (H i)) (pkB (cbr S F N) (fun i => rkN S F i (H i)) k))), some (.int (nI k)), z] [] n (wQ B q N S F h) 0 0 (eqP (some (.int (enc (pkB (cbr S F N) (fun i => rkN S F i (H i)) N)))) n (wQ B q N S F h)) := by
    intro d
    induction d with
    | zero => intro k h1 h2; exact absurd h2 (by omega)
    | succ d ih =>
      intro k h1 h2 z
      refine jj_s (pc' := 10) rfl rfl ?_
      refine jj_s (pc' := 11) rfl rfl ?_
      refine jj_g rfl rfl wQ_o rfl ?_
      refine jj_geN 62 rfl rfl (by omega) (by omega) (fun c => ?_) (fun c => ?_)
      · refine jj_s (pc' := 63) rfl rfl ?_
        exact jj_iret rfl rfl ⟨by rw [show k = N by omega], rfl, rfl⟩
      · refine jj_s (pc' := 18) rfl rfl ?_
        refine jj_s (pc' := 20) rfl rfl ?_
        refine jj_v1 rfl rfl rfl wQ_o rfl rfl (c_canBeReceived hN (by omega)) ?_
        refine jj_zT 56 rfl rfl (fun c2 => ?_) (fun c2 => ?_)
        · first | refine jj_inc rfl rfl ?_ | refine jj_s (pc' := 59) rfl rfl ?_
          refine jj_s (pc' := 8) rfl rfl ?_
          refine jj_lv ?_ (ih (k + 1) (by omega) (by omega) z)
          rw [pkB_skip c2]
          rfl
        · refine jj_s (pc' := 27) rfl rfl ?_
          refine jj_s (pc' := 29) rfl rfl ?_
          refine jj_s (pc' := 30) rfl rfl ?_
          refine jj_s (pc' := 32) rfl rfl ?_
          refine jj_ialdN rfl hH (by omega) rfl ?_
          refine jj_v2 rfl rfl rfl wQ_o rfl rfl (c_rankNow (by omega) _) ?_
          refine jj_s (pc' := 38) rfl rfl ?_
          refine jj_s (pc' := 39) rfl rfl ?_
          refine jj_s (pc' := 41) rfl rfl ?_
          cases hp : pkB (cbr S F N) (fun i => rkN S F i (H i)) k with
          | none =>
            refine jj_icmp_eq 50 rfl rfl (fun c3 => ?_) (fun c3 => absurd rfl c3)
            refine jj_s (pc' := 52) rfl rfl ?_
            refine jj_s (pc' := 53) rfl rfl ?_
            refine jj_s (pc' := 55) rfl rfl ?_
            refine jj_s (pc' := 56) rfl rfl ?_
            first | refine jj_inc rfl rfl ?_ | refine jj_s (pc' := 59) rfl rfl ?_
            refine jj_s (pc' := 8) rfl rfl ?_
            refine jj_lv ?_ (ih (k + 1) (by omega) (by omega) (some (.int (rkN S F k (H k)))))
            rw [pkB_none hp c2]
            rfl
          | some b =>
            refine jj_icmp_eq 50 rfl rfl (fun c3 => absurd c3 (enc_ne (by have := (pkB_lt _ _ _ _ hp).1; omega))) (fun c3 => ?_)
            refine jj_s (pc' := 46) rfl rfl ?_
            refine jj_s (pc' := 47) rfl rfl ?_
            refine jj_icmp_le 56 rfl rfl (fun c4 => ?_) (fun c4 => ?_)
            · first | refine jj_inc rfl rfl ?_ | refine jj_s (pc' := 59) rfl rfl ?_
              refine jj_s (pc' := 8) rfl rfl ?_
              refine jj_lv ?_ (ih (k + 1) (by omega) (by omega) (some (.int (rkN S F k (H k)))))
              have c4 : ¬ rkN S F b (H b) < rkN S F k (H k) := Int32.not_lt.mpr c4
              rw [pkB_lose hp c4]
              rfl
            · refine jj_s (pc' := 52) rfl rfl ?_
              refine jj_s (pc' := 53) rfl rfl ?_
              refine jj_s (pc' := 55) rfl rfl ?_
              refine jj_s (pc' := 56) rfl rfl ?_
              first | refine jj_inc rfl rfl ?_ | refine jj_s (pc' := 59) rfl rfl ?_
              refine jj_s (pc' := 8) rfl rfl ?_
              refine jj_lv ?_ (ih (k + 1) (by omega) (by omega) (some (.int (rkN S F k (H k)))))
              have c4 : rkN S F b (H b) < rkN S F k (H k) := Int32.not_le.mp c4
              rw [pkB_win hp c2 c4]
              rfl
  exact L (N + 1) 0 (by omega) (by omega) none
/-- the state that follows from the edges -/
def due (F : Nat → Nat → Int32) (N i : Nat) : Int32 := if anyN (fun p => bt (F 11 i) p && decide (3 < F 5 p)) N = true then 5 else if anyN (fun p => bt (prd F i) p && !decide (3 ≤ F 5 p)) N = true then 0 else 1
set_option maxHeartbeats 4000000 in
set_option maxRecDepth 100000 in
 theorem c_stateByEdges {G : GC} {B n : Nat} {h : HT} {q N : Nat} {S : Nat → Int32} {F : Nat → Nat → Int32} (hN : N ≤ 20) {i : Nat} (hi : i < 20) : CtJ G B M5_stateByEdges [.ref (B + q), .int (nI i)] n (wQ B q N S F h) 0 0 (eqP (some (.int (due F N i))) n (wQ B q N S F h)) := by
  unfold CtJ
  refine jj_lv (lv' := [some (.ref (B + q)), some (.int (nI i)), none, none]) rfl ?_
  refine jj_s (pc' := 1) rfl rfl ?_
  refine jj_s (pc' := 2) rfl rfl ?_
  refine jj_s (pc' := 3) rfl rfl ?_
  refine jj_s (pc' := 4) rfl rfl ?_
  have L : ∀ d k, k ≤ N → N + 1 ≤ k + d → anyN (fun p => bt (F 11 i) p && decide (3 < F 5 p)) k = false → JJ X0 G B M5_stateByEdges 4 [some (.ref (B + q)), some (.int (nI i)), some (.int (if anyN (fun p => bt (prd F i) p && !decide (3 ≤ F 5 p)) k = true then 0 else 1)), some (.int (nI k))] [] n (wQ B q N S F h) 0 0 (eqP (some (.int (due F N i))) n (wQ B q N S F h)) := by
    intro d
    induction d with
    | zero => intro k h1 h2; exact absurd h2 (by omega)
    | succ d ih =>
      intro k h1 h2 h3
      refine jj_s (pc' := 5) rfl rfl ?_
      refine jj_s (pc' := 6) rfl rfl ?_
      refine jj_g rfl rfl wQ_o rfl ?_
      refine jj_geN 63 rfl rfl (by omega) (by omega) (fun c => ?_) (fun c => ?_)
      · refine jj_s (pc' := 64) rfl rfl ?_
        exact jj_iret rfl rfl ⟨by rw [show k = N by omega] at h3 ⊢; simp [due, h3], rfl, rfl⟩
      · refine jj_s (pc' := 13) rfl rfl ?_
        refine jj_g rfl rfl wQ_o rfl ?_
        refine jj_s (pc' := 17) rfl rfl ?_
        refine jj_qld [] rfl rfl (by decide) (by first | assumption | omega) ?_
        refine jj_s (pc' := 19) rfl rfl ?_
        refine jj_t2 rfl rfl rfl rfl rfl (c_has (by omega)) ?_
        have A : (anyN (fun p => bt (F 11 i) p && decide (3 < F 5 p)) (k + 1) = false) → JJ X0 G B M5_stateByEdges 35 [some (.ref (B + q)), some (.int (nI i)), some (.int (if anyN (fun p => bt (prd F i) p && !decide (3 ≤ F 5 p)) k = true then 0 else 1)), some (.int (nI k))] [] n (wQ B q N S F h) 0 0 (eqP (some (.int (due F N i))) n (wQ B q N S F h)) := by
          intro h4
          refine jj_s (pc' := 36) rfl rfl ?_
          refine jj_s (pc' := 37) rfl rfl ?_
          refine jj_v1 rfl rfl rfl wQ_o rfl rfl (c_predecessors hi) ?_
          refine jj_s (pc' := 41) rfl rfl ?_
          refine jj_t2 rfl rfl rfl rfl rfl (c_has (by omega)) ?_
          refine jj_zT 57 rfl rfl (fun c5 => ?_) (fun c5 => ?_)
          · first | refine jj_inc rfl rfl ?_ | refine jj_s (pc' := 60) rfl rfl ?_
            refine jj_s (pc' := 4) rfl rfl ?_
            refine jj_lv ?_ (ih (k + 1) (by omega) (by omega) h4)
            simp [anyN, c5]
          · refine jj_s (pc' := 48) rfl rfl ?_
            refine jj_s (pc' := 49) rfl rfl ?_
            refine jj_v1 rfl rfl rfl wQ_o rfl rfl (c_hasEnded (by omega)) ?_
            refine jj_zF 57 rfl rfl (fun c6 => ?_) (fun c6 => ?_)
            · first | refine jj_inc rfl rfl ?_ | refine jj_s (pc' := 60) rfl rfl ?_
              refine jj_s (pc' := 4) rfl rfl ?_
              refine jj_lv ?_ (ih (k + 1) (by omega) (by omega) h4)
              simp only [anyN, c5, c6, Bool.not_true, Bool.and_false, Bool.or_false, List.set_cons_succ, List.set_cons_zero]
            · refine jj_s (pc' := 56) rfl rfl ?_
              refine jj_s (pc' := 57) rfl rfl ?_
              first | refine jj_inc rfl rfl ?_ | refine jj_s (pc' := 60) rfl rfl ?_
              refine jj_s (pc' := 4) rfl rfl ?_
              refine jj_lv ?_ (ih (k + 1) (by omega) (by omega) h4)
              simp only [anyN, c5, c6, Bool.not_false, Bool.and_true, Bool.or_true, if_true]
              rfl
        refine jj_zT 35 rfl rfl (fun c2 => ?_) (fun c2 => ?_)
        · exact A (by simp [anyN, h3, c2])
        · refine jj_s (pc' := 26) rfl rfl ?_
          refine jj_s (pc' := 27) rfl rfl ?_
          refine jj_v1 rfl rfl rfl wQ_o rfl rfl (c_hasFailed (by omega)) ?_
          refine jj_zT 35 rfl rfl (fun c3 => ?_) (fun c3 => ?_)
          · exact A (by simp only [anyN, h3, c3, Bool.and_false, Bool.or_false])
          · refine jj_s (pc' := 34) rfl rfl ?_
            refine jj_iret rfl rfl ⟨?_, rfl, rfl⟩
            have : anyN (fun p => bt (F 11 i) p && decide (3 < F 5 p)) N = true := (anyN_iff _ _).mpr ⟨k, c, by simp only [c2, c3, Bool.and_true]⟩
            rw [due, if_pos this]
            rfl
  exact L (N + 1) 0 (by omega) (by omega) rfl
/-- one item is settled -/
def si (S : Nat → Int32) (N : Nat) (F : Nat → Nat → Int32) (i : Nat) : (Nat → Nat → Int32) × Bool :=
  if F 5 i = 0 ∨ F 5 i = 1 then if due F N i = F 5 i then (F, false) else if due F N i = 1 then (uF (uF (uF F 5 i 1) 6 i (S 1 + F 4 i)) 7 i (S 1), true) else (uF F 5 i (due F N i), true) else (F, false)
set_option maxHeartbeats 4000000 in
set_option maxRecDepth 100000 in
 theorem c_settleItem {G : GC} {B n : Nat} {h : HT} {q N : Nat} {S : Nat → Int32} {F : Nat → Nat → Int32} (hN : N ≤ 20) {i : Nat} (hi : i < 20) : CtJ G B M5_settleItem [.ref (B + q), .int (nI i)] n (wQ B q N S F h) 0 0 (eqP (some (.int (bI (si S N F i).2))) n (wQ B q N S (si S N F i).1 h)) := by
  unfold CtJ
  refine jj_lv (lv' := [some (.ref (B + q)), some (.int (nI i)), none]) rfl ?_
  refine jj_s (pc' := 1) rfl rfl ?_
  refine jj_s (pc' := 2) rfl rfl ?_
  refine jj_v1 rfl rfl rfl wQ_o rfl rfl (c_followsEdges hi) ?_
  refine jj_zF 10 rfl rfl (fun c1 => ?_) (fun c1 => ?_)
  · have c1 : F 5 i = 0 ∨ F 5 i = 1 := of_decide_eq_true c1
    refine jj_s (pc' := 11) rfl rfl ?_
    refine jj_s (pc' := 12) rfl rfl ?_
    refine jj_v1 rfl rfl rfl wQ_o rfl rfl (c_stateByEdges hN hi) ?_
    refine jj_s (pc' := 16) rfl rfl ?_
    refine jj_s (pc' := 17) rfl rfl ?_
    refine jj_s (pc' := 18) rfl rfl ?_
    refine jj_g rfl rfl wQ_o rfl ?_
    refine jj_s (pc' := 22) rfl rfl ?_
    refine jj_qld [] rfl rfl (by decide) (by first | assumption | omega) ?_
    refine jj_icmp_ne 28 rfl rfl (fun c2 => ?_) (fun c2 => ?_)
    · refine jj_s (pc' := 29) rfl rfl ?_
      refine jj_s (pc' := 30) rfl rfl ?_
      refine jj_icmp_ne 47 rfl rfl (fun (c3 : ¬ due F N i = 1) => ?_) (fun (c3 : due F N i = 1) => ?_)
      · refine jj_s (pc' := 48) rfl rfl ?_
        refine jj_g rfl rfl wQ_o rfl ?_
        refine jj_s (pc' := 52) rfl rfl ?_
        refine jj_s (pc' := 53) rfl rfl ?_
        refine jj_qst [] rfl rfl (by decide) (by first | assumption | omega) ?_
        refine jj_s (pc' := 55) rfl rfl ?_
        have e : si S N F i = (uF F 5 i (due F N i), true) := by rw [si, if_pos c1, if_neg c2, if_neg c3]
        exact jj_zret rfl rfl (Or.inr rfl) ⟨by rw [e]; rfl, rfl, by rw [e]⟩
      · refine jj_s (pc' := 34) rfl rfl ?_
        refine jj_s (pc' := 35) rfl rfl ?_
        refine jj_s (pc' := 36) rfl rfl ?_
        refine jj_g rfl rfl wQ_o rfl ?_
        refine jj_s (pc' := 40) rfl rfl ?_
        refine jj_qld [] rfl rfl (by decide) (by first | assumption | omega) ?_
        refine jj_w2 rfl rfl rfl wQ_o rfl rfl (c_makeReady hi _) ?_
        refine jj_s (pc' := 54) rfl rfl ?_
        refine jj_s (pc' := 55) rfl rfl ?_
        have e : si S N F i = (uF (uF (uF F 5 i 1) 6 i (S 1 + F 4 i)) 7 i (S 1), true) := by rw [si, if_pos c1, if_neg c2, if_pos c3]
        exact jj_zret rfl rfl (Or.inr rfl) ⟨by rw [e]; rfl, rfl, by rw [e]⟩
    · refine jj_s (pc' := 27) rfl rfl ?_
      have e : si S N F i = (F, false) := by rw [si, if_pos c1, if_pos c2]
      exact jj_zret rfl rfl (Or.inl rfl) ⟨by rw [e]; rfl, rfl, by rw [e]⟩
  · have c1 : ¬ (F 5 i = 0 ∨ F 5 i = 1) := of_decide_eq_false c1
    refine jj_s (pc' := 9) rfl rfl ?_
    have e : si S N F i = (F, false) := by rw [si, if_neg c1]
    exact jj_zret rfl rfl (Or.inl rfl) ⟨by rw [e]; rfl, rfl, by rw [e]⟩
/-- one pass over the first k items; and passes until nothing changes -/
def pas (S : Nat → Int32) (N : Nat) (F : Nat → Nat → Int32) : Nat → (Nat → Nat → Int32) × Bool
  | 0 => (F, false)
  | k + 1 => ((si S N (pas S N F k).1 k).1, (pas S N F k).2 || (si S N (pas S N F k).1 k).2)
def stl (S : Nat → Int32) (N : Nat) : Nat → (Nat → Nat → Int32) → (Nat → Nat → Int32)
  | 0, F => F
  | m + 1, F => if (pas S N F N).2 = true then stl S N m (pas S N F N).1 else (pas S N F N).1
set_option maxHeartbeats 4000000 in
set_option maxRecDepth 100000 in
 theorem c_settle {G : GC} {B n : Nat} {h : HT} {q N : Nat} {S : Nat → Int32} {F : Nat → Nat → Int32} (hN : N ≤ 20) : CtJ G B M5_settle [.ref (B + q)] n (wQ B q N S F h) 0 0 (eqP none n (wQ B q N S (stl S N 1000 F) h)) := by
  unfold CtJ
  refine jj_lv (lv' := [some (.ref (B + q)), none, none, none]) rfl ?_
  refine jj_s (pc' := 1) rfl rfl ?_
  refine jj_s (pc' := 2) rfl rfl ?_
  refine jj_s (pc' := 3) rfl rfl ?_
  refine jj_s (pc' := 4) rfl rfl ?_
  have L : ∀ m (F : Nat → Nat → Int32) z, m ≤ 1000 → JJ X0 G B M5_settle 4 [some (.ref (B + q)), some (.int 1), some (.int (nI (1000 - m))), z] [] n (wQ B q N S F h) 0 0 (eqP none n (wQ B q N S (stl S N m F) h)) := by
    intro m
    induction m with
    | zero =>
      intro F z h0
      refine jj_s (pc' := 5) rfl rfl ?_
      refine jj_if_eq 49 rfl rfl (fun c => absurd c (by decide)) (fun c => ?_)
      refine jj_s (pc' := 9) rfl rfl ?_
      refine jj_s (pc' := 12) rfl rfl ?_
      refine jj_icmp_ge 49 rfl rfl (fun c => ?_) (fun c => absurd (by decide) c)
      exact jj_vret rfl rfl ⟨rfl, rfl, rfl⟩
    | succ m ihm =>
      intro F z h0
      refine jj_s (pc' := 5) rfl rfl ?_
      refine jj_if_eq 49 rfl rfl (fun c => absurd c (by decide)) (fun c => ?_)
      refine jj_s (pc' := 9) rfl rfl ?_
      refine jj_s (pc' := 12) rfl rfl ?_
      refine jj_icmp_ge 49 rfl rfl (fun c => absurd ((nI_leI (a := 1000) (b := 1000 - (m + 1)) (by omega) (by omega)).mp c) (by omega)) (fun c => ?_)
      refine jj_s (pc' := 16) rfl rfl ?_
      refine jj_s (pc' := 17) rfl rfl ?_
      refine jj_s (pc' := 18) rfl rfl ?_
      refine jj_s (pc' := 19) rfl rfl ?_
      have L2 : ∀ d k, k ≤ N → N + 1 ≤ k + d → JJ X0 G B M5_settle 19 [some (.ref (B + q)), some (.int (bI (pas S N F k).2)), some (.int (nI (1000 - (m + 1)))), some (.int (nI k))] [] n (wQ B q N S (pas S N F k).1 h) 0 0 (eqP none n (wQ B q N S (stl S N (m + 1) F) h)) := by
        intro d
        induction d with
        | zero => intro k h1 h2; exact absurd h2 (by omega)
        | succ d ih =>
          intro k h1 h2
          refine jj_s (pc' := 20) rfl rfl ?_
          refine jj_s (pc' := 21) rfl rfl ?_
          refine jj_g rfl rfl wQ_o rfl ?_
          refine jj_geN 43 rfl rfl (by omega) (by omega) (fun c => ?_) (fun c => ?_)
          · have hk : k = N := by omega
            subst hk
            first | refine jj_inc rfl rfl ?_ | refine jj_s (pc' := 46) rfl rfl ?_
            refine jj_s (pc' := 4) rfl rfl ?_
            cases hb : (pas S k F k).2 with
            | true =>
              have e : stl S k (m + 1) F = stl S k m (pas S k F k).1 := by rw [stl, if_pos hb]
              rw [e]
              rw [show 1000 - (m + 1) + 1 = 1000 - m by omega]
              exact ihm (pas S k F k).1 _ (by omega)
            | false =>
              have e : stl S k (m + 1) F = (pas S k F k).1 := by rw [stl, if_neg (by rw [hb]; decide)]
              rw [e]
              refine jj_s (pc' := 5) rfl rfl ?_
              refine jj_if_eq 49 rfl rfl (fun c => ?_) (fun c => absurd rfl c)
              exact jj_vret rfl rfl ⟨rfl, rfl, rfl⟩
          · refine jj_s (pc' := 28) rfl rfl ?_
            refine jj_s (pc' := 29) rfl rfl ?_
            refine jj_v1 rfl rfl rfl wQ_o rfl rfl (c_settleItem hN (by omega)) ?_
            refine jj_zT 37 rfl rfl (fun c3 => ?_) (fun c3 => ?_)
            · first | refine jj_inc rfl rfl ?_ | refine jj_s (pc' := 40) rfl rfl ?_
              refine jj_s (pc' := 19) rfl rfl ?_
              refine jj_lv ?_ (ih (k + 1) (by omega) (by omega))
              simp [pas, c3]
            · refine jj_s (pc' := 36) rfl rfl ?_
              refine jj_s (pc' := 37) rfl rfl ?_
              first | refine jj_inc rfl rfl ?_ | refine jj_s (pc' := 40) rfl rfl ?_
              refine jj_s (pc' := 19) rfl rfl ?_
              refine jj_lv ?_ (ih (k + 1) (by omega) (by omega))
              simp [pas, c3, bI]
      exact L2 (N + 1) 0 (by omega) (by omega)
  exact L 1000 F none (by omega)
end
section
/-! copying a row -/
theorem jj_copy {X : State → Prop} {G : GC} {B : Nat} {y : MT} {pc : Nat} {lv : List (Option Value)} {st : List Value} {n : Nat} {h : HT} {kc ks : Nat} {post : Option Value → Nat → HT → Prop} {idx a0 a1 : Nat} {f g : Nat → Int32} (hd : lk (M_tb y) pc = some (.invokestatic idx)) (hl : Cond.methodLink (M_nm y).cls idx arraycopyName ∈ tW) (w1 : Cond.native arraycopyName ∈ tW) (w2 : Cond.static arraycopyName ∈ tW) (w3 : Cond.initialized "java/lang/System" ∈ tW) (hc0 : h a0 = some (ia 20 f)) (hc1 : h a1 = some (ia 20 g)) (hf1 : 1 ≤ M_fr y) (hf2 : (st.map fun v => v.category).sum + 18 ≤ M_lo y) (K : JJ X G B y (pc + 3) lv st n (hu h a1 (ia 20 (va_cpy f g 0 0 20))) kc ks post) : JJ X G B y pc lv (.int 20 :: .int 0 :: .ref (B + a1) :: .int 0 :: .ref (B + a0) :: st) n h kc ks post := by
  intro p l e R s m args below meth c H locs cells slots ls mc ms C P S L k1 k2 k3 k4
  have C0 := C
  obtain ⟨hx, hb, hr, hml, hown, hts, hlk, hnm, hK, hB, hfr, hlo, hT, hXW, hX, hCO, ho⟩ := C
  have he0 := wd_get (G := G) (B := B) (P.2.2.lt hc0) hc0
  have he1 := wd_get (G := G) (B := B) (P.2.2.lt hc1) hc1
  intro T hT0 X1
  have q0 : H[B + a0]? = some (vp_cell G.2.1 (20, .inl f)) := P.1 a0 _ he0
  have q1 : H[B + a1]? = some (vp_cell G.2.1 (20, .inl g)) := P.1 a1 _ he1
  obtain ⟨-, k0, hk0, cm0, hkk0⟩ := (hK.2 0 _ rfl).1 20 (fun j => .int (f j))
  obtain ⟨-, k1', hk1, cm1, hkk1⟩ := (hK.2 0 _ rfl).1 20 (fun j => .int (g j))
  obtain ⟨vm', X', step⟩ := X1.arraycopy hx hown (hts _ hl) (hts _ w1) (hts _ w2) (hts _ w3) (src := B + a0) (dst := B + a1) (cs := vp_cell G.2.1 (20, .inl f)) (cd := vp_cell G.2.1 (20, .inl g)) (srcPos := 0) (destPos := 0) (n := 20) (by rw [hT0]; exact q0) (by rw [hT0]; exact q1)
    (fun _ h => by cases h) (fun _ h => by cases h) (fun h => by cases h) (fun h => by cases h) hk0 hk1 hkk0 hkk1 rfl (by decide) (by decide) (by decide)
    (by show ¬ _ > ((arrV G.2.1 20 (fun j => .int (f j))).slots.size : Int); rw [arrV_size]; decide)
    (by show ¬ _ > ((arrV G.2.1 20 (fun j => .int (g j))).slots.size : Int); rw [arrV_size]; decide)
    (fun vm₁ _ i hi => by
      have hi : i < 20 := hi
      have ee : (vp_cell G.2.1 (20, .inl f)).slots.getD ((0 : Int32).toNatClampNeg + i) .null = .int (f i) := by
        show (arrV G.2.1 20 (fun j => .int (f j))).slots.getD _ _ = _
        rw [Array.getD_eq_getD_getElem?, show (0 : Int32).toNatClampNeg + i = i from Nat.zero_add i, arrV_read _ _ hi]
        rfl
      refine ⟨?_, ?_⟩
      · rw [ee]; rfl
      · rw [ee]; exact trivial)
    (g := F0 m pc ls (.int 20 :: .int 0 :: .ref (B + a1) :: .int 0 :: .ref (B + a0) :: st)) rfl (by rw [hml]; exact L.1) (rest := st) rfl (by rw [hb]; exact hT.at hd rfl) (Nat.le_trans hf1 hfr) (by show 2 * 0 + _ + (nativeFrameWords "java/lang/System" "arraycopy" 5 + 11) ≤ _; rw [show nativeFrameWords "java/lang/System" "arraycopy" 5 = 7 from by decide]; omega)
  have e1 : copied (vp_cell G.2.1 (20, .inl f)) (vp_cell G.2.1 (20, .inl g)) 0 0 20 = vp_cell G.2.1 (20, .inl (va_cpy f g 0 0 20)) := va_copied (fun z => .int z) G.2.1 G.2.1 f g (sp := 0) (dp := 0) (n := 20) (Nat.le_refl 20)
  rw [e1] at X' step
  have hl' : B + a1 < H.size := (Array.getElem?_eq_some_iff.mp q1).1
  have hheap : ((T.setVm vm').setCell (B + a1) (vp_cell G.2.1 (20, .inl (va_cpy f g 0 0 20)))).heap = H.setIfInBounds (B + a1) (vp_cell G.2.1 (20, .inl (va_cpy f g 0 0 20))) := by rw [← hT0]; rfl
  have oq : ∀ q : Nat, q ≠ B + a1 → (H.setIfInBounds (B + a1) (vp_cell G.2.1 (20, .inl (va_cpy f g 0 0 20))))[q]? = H[q]? := fun q hq => by simp [Array.getElem?_setIfInBounds, Ne.symm hq]
  have hP' := P.1.set (e := cvE G (ia 20 (va_cpy f g 0 0 20))) wd_D he1 (show (H.setIfInBounds (B + a1) _)[B + a1]? = some _ by simp [Array.getElem?_setIfInBounds, hl']) oq
  obtain ⟨t, a1', b1⟩ := K p l e R s m args below meth c _ _ cells slots ls mc ms C0 ⟨by rw [← wd_set]; exact hP', by simp; exact P.2.1, P.2.2.set hc1⟩ ⟨by simp; exact S.1, fun q g1 g2 => by
      rw [oq q (fun e => g2 (by omega))]
      exact S.2.1 q g1 g2, fun q hq => by
      rcases List.mem_append.mp hq with h | h
      · exact S.2.2 q h
      · obtain ⟨z, -, hz⟩ := List.mem_map.mp h
        rw [← hz]
        exact Nat.le_add_right _ _⟩ L k1 k2 k3 k4 _ hheap X'
  exact ⟨t, step t a1', b1⟩
theorem tw_acl : Cond.methodLink RX5 140 arraycopyName ∈ tW := tm3 229 rfl rfl
theorem tw_acn : Cond.native arraycopyName ∈ tW := tm3 231 rfl rfl
theorem tw_acs : Cond.static arraycopyName ∈ tW := tm3 230 rfl rfl
theorem tw_aci : Cond.initialized "java/lang/System" ∈ tW := tm1 13 rfl rfl
/-- the first twenty of one row, then the other -/
abbrev cp (f g : Nat → Int32) : Nat → Int32 := va_cpy f g 0 0 20
theorem cp_lt (f g : Nat → Int32) {i : Nat} (h : i < 20) : cp f g i = f i := by
  unfold cp va_cpy
  rw [if_pos ⟨Nat.zero_le _, by omega⟩]
  congr 1
  omega
set_option maxHeartbeats 4000000 in
set_option maxRecDepth 100000 in
 theorem c_copyRow {G : GC} {B n : Nat} {h : HT} {a0 a1 : Nat} {f g : Nat → Int32} (hc0 : h a0 = some (ia 20 f)) (hc1 : h a1 = some (ia 20 g)) : CtJ G B M5_copyRow [.ref (B + a0), .ref (B + a1)] n h 0 0 (eqP none n (hu h a1 (ia 20 (cp f g)))) := by
  unfold CtJ
  refine jj_lv (lv' := [some (.ref (B + a0)), some (.ref (B + a1))]) rfl ?_
  refine jj_s (pc' := 1) rfl rfl ?_
  refine jj_s (pc' := 2) rfl rfl ?_
  refine jj_s (pc' := 3) rfl rfl ?_
  refine jj_s (pc' := 4) rfl rfl ?_
  refine jj_s (pc' := 6) rfl rfl ?_
  refine jj_copy rfl tw_acl tw_acn tw_acs tw_aci hc0 hc1 (by decide) (by decide) ?_
  exact jj_vret rfl rfl ⟨rfl, rfl, rfl⟩
theorem wQ_row {B q N : Nat} {S : Nat → Int32} {F : Nat → Nat → Int32} {h : HT} {j : Nat} {f : Nat → Int32} (hj : j < 13) : hu (wQ B q N S F h) (q + (j + 1)) (ia 20 f) = wQ B q N S (upF F j f) h := by
  funext k
  by_cases hk : k = q + (j + 1)
  · subst hk
    rw [hu_s, wQ_a hj]
    simp [upF]
  · rw [hu_n _ _ _ hk]
    unfold wQ
    split
    next => rfl
    next h1 =>
      split
      next h2 => rw [upF, if_neg (by omega)]
      next => rfl
theorem wQ_ext {B q N : Nat} {S : Nat → Int32} {F F' : Nat → Nat → Int32} {h : HT} (e : ∀ j, j < 13 → F j = F' j) : wQ B q N S F h = wQ B q N S F' h := by
  funext k
  unfold wQ
  split
  next => rfl
  next =>
    split
    next h2 => rw [e _ (by omega)]
    next => rfl
/-- the first j rows copied -/
def cpK (F2 F : Nat → Nat → Int32) (j : Nat) : Nat → Nat → Int32 := fun a => if a < j then cp (F2 a) (F a) else F a
theorem cpK_s (F2 F : Nat → Nat → Int32) (j : Nat) : upF (cpK F2 F j) j (cp (F2 j) (F j)) = cpK F2 F (j + 1) := by
  funext a
  unfold upF cpK
  by_cases h : a = j
  · subst h; simp
  · rw [if_neg h]
    by_cases h2 : a < j
    · rw [if_pos h2, if_pos (by omega)]
    · rw [if_neg h2, if_neg (by omega)]
theorem c_cpRow {G : GC} {B n : Nat} {h : HT} {q N : Nat} {S : Nat → Int32} {F : Nat → Nat → Int32} {q2 : Nat} {F2 : Nat → Nat → Int32} (j : Nat) (hj : j < 13) (ha : wQ B q N S (cpK F2 F j) h (q2 + (j + 1)) = some (ia 20 (F2 j))) : CtJ G B M5_copyRow [.ref (B + (q2 + (j + 1))), .ref (B + (q + (j + 1)))] n (wQ B q N S (cpK F2 F j) h) 0 0 (eqP none n (wQ B q N S (cpK F2 F (j + 1)) h)) := by
  have h1 := c_copyRow (G := G) (B := B) (n := n) ha (wQ_a hj)
  rw [wQ_row hj, show cpK F2 F j j = F j by simp [cpK], cpK_s] at h1
  exact h1
set_option maxHeartbeats 4000000 in
set_option maxRecDepth 100000 in
 theorem c_copyItems {G : GC} {B n : Nat} {h : HT} {q N : Nat} {S : Nat → Int32} {F : Nat → Nat → Int32} {q2 N2 : Nat} {S2 : Nat → Int32} {F2 : Nat → Nat → Int32} (hd : q2 + 14 ≤ q ∨ q + 14 ≤ q2) (hO : h q2 = some (ob 5 (qobj B q2 N2 S2))) (hA : ∀ j, j < 13 → h (q2 + (j + 1)) = some (ia 20 (F2 j))) : CtJ G B M5_copyItems [.ref (B + q), .ref (B + q2)] n (wQ B q N S F h) 0 0 (eqP none n (wQ B q N2 S (fun j => cp (F2 j) (F j)) h)) := by
  have o2 : ∀ (N : Nat) (S : Nat → Int32) (F : Nat → Nat → Int32), wQ B q N S F h q2 = some (ob 5 (qobj B q2 N2 S2)) := fun N S F => (wQ_n (by omega)).trans hO
  have a2 : ∀ (N : Nat) (S : Nat → Int32) (F : Nat → Nat → Int32) (j : Nat), j < 13 → wQ B q N S F h (q2 + (j + 1)) = some (ia 20 (F2 j)) := fun N S F j hj => (wQ_n (by omega)).trans (hA j hj)
  unfold CtJ
  refine jj_lv (lv' := [some (.ref (B + q)), some (.ref (B + q2))]) rfl ?_
  refine jj_s (pc' := 1) rfl rfl ?_
  refine jj_s (pc' := 2) rfl rfl ?_
  refine jj_g rfl rfl (o2 _ _ _) rfl ?_
  refine jj_qpt (N' := N2) (S' := S) rfl rfl rfl rfl ?_
  refine jj_h (h' := wQ B q N2 S (cpK F2 F 0) h) (wQ_ext (fun a _ => by simp [cpK])) ?_
  refine jj_s (pc' := 9) rfl rfl ?_
  refine jj_g rfl rfl (o2 _ _ _) rfl ?_
  refine jj_s (pc' := 13) rfl rfl ?_
  refine jj_g rfl rfl wQ_o rfl ?_
  refine jj_u2 (h' := wQ B q N2 S (cpK F2 F 1) h) rfl rfl rfl rfl rfl (c_cpRow 0 (by decide) (a2 _ _ _ 0 (by decide))) ?_
  refine jj_s (pc' := 20) rfl rfl ?_
  refine jj_g rfl rfl (o2 _ _ _) rfl ?_
  refine jj_s (pc' := 24) rfl rfl ?_
  refine jj_g rfl rfl wQ_o rfl ?_
  refine jj_u2 (h' := wQ B q N2 S (cpK F2 F 2) h) rfl rfl rfl rfl rfl (c_cpRow 1 (by decide) (a2 _ _ _ 1 (by decide))) ?_
  refine jj_s (pc' := 31) rfl rfl ?_
  refine jj_g rfl rfl (o2 _ _ _) rfl ?_
  refine jj_s (pc' := 35) rfl rfl ?_
  refine jj_g rfl rfl wQ_o rfl ?_
  refine jj_u2 (h' := wQ B q N2 S (cpK F2 F 3) h) rfl rfl rfl rfl rfl (c_cpRow 2 (by decide) (a2 _ _ _ 2 (by decide))) ?_
  refine jj_s (pc' := 42) rfl rfl ?_
  refine jj_g rfl rfl (o2 _ _ _) rfl ?_
  refine jj_s (pc' := 46) rfl rfl ?_
  refine jj_g rfl rfl wQ_o rfl ?_
  refine jj_u2 (h' := wQ B q N2 S (cpK F2 F 4) h) rfl rfl rfl rfl rfl (c_cpRow 3 (by decide) (a2 _ _ _ 3 (by decide))) ?_
  refine jj_s (pc' := 53) rfl rfl ?_
  refine jj_g rfl rfl (o2 _ _ _) rfl ?_
  refine jj_s (pc' := 57) rfl rfl ?_
  refine jj_g rfl rfl wQ_o rfl ?_
  refine jj_u2 (h' := wQ B q N2 S (cpK F2 F 5) h) rfl rfl rfl rfl rfl (c_cpRow 4 (by decide) (a2 _ _ _ 4 (by decide))) ?_
  refine jj_s (pc' := 64) rfl rfl ?_
  refine jj_g rfl rfl (o2 _ _ _) rfl ?_
  refine jj_s (pc' := 68) rfl rfl ?_
  refine jj_g rfl rfl wQ_o rfl ?_
  refine jj_u2 (h' := wQ B q N2 S (cpK F2 F 6) h) rfl rfl rfl rfl rfl (c_cpRow 5 (by decide) (a2 _ _ _ 5 (by decide))) ?_
  refine jj_s (pc' := 75) rfl rfl ?_
  refine jj_g rfl rfl (o2 _ _ _) rfl ?_
  refine jj_s (pc' := 79) rfl rfl ?_
  refine jj_g rfl rfl wQ_o rfl ?_
  refine jj_u2 (h' := wQ B q N2 S (cpK F2 F 7) h) rfl rfl rfl rfl rfl (c_cpRow 6 (by decide) (a2 _ _ _ 6 (by decide))) ?_
  refine jj_s (pc' := 86) rfl rfl ?_
  refine jj_g rfl rfl (o2 _ _ _) rfl ?_
  refine jj_s (pc' := 90) rfl rfl ?_
  refine jj_g rfl rfl wQ_o rfl ?_
  refine jj_u2 (h' := wQ B q N2 S (cpK F2 F 8) h) rfl rfl rfl rfl rfl (c_cpRow 7 (by decide) (a2 _ _ _ 7 (by decide))) ?_
  refine jj_s (pc' := 97) rfl rfl ?_
  refine jj_g rfl rfl (o2 _ _ _) rfl ?_
  refine jj_s (pc' := 101) rfl rfl ?_
  refine jj_g rfl rfl wQ_o rfl ?_
  refine jj_u2 (h' := wQ B q N2 S (cpK F2 F 9) h) rfl rfl rfl rfl rfl (c_cpRow 8 (by decide) (a2 _ _ _ 8 (by decide))) ?_
  refine jj_s (pc' := 108) rfl rfl ?_
  refine jj_g rfl rfl (o2 _ _ _) rfl ?_
  refine jj_s (pc' := 112) rfl rfl ?_
  refine jj_g rfl rfl wQ_o rfl ?_
  refine jj_u2 (h' := wQ B q N2 S (cpK F2 F 10) h) rfl rfl rfl rfl rfl (c_cpRow 9 (by decide) (a2 _ _ _ 9 (by decide))) ?_
  refine jj_s (pc' := 119) rfl rfl ?_
  refine jj_g rfl rfl (o2 _ _ _) rfl ?_
  refine jj_s (pc' := 123) rfl rfl ?_
  refine jj_g rfl rfl wQ_o rfl ?_
  refine jj_u2 (h' := wQ B q N2 S (cpK F2 F 11) h) rfl rfl rfl rfl rfl (c_cpRow 10 (by decide) (a2 _ _ _ 10 (by decide))) ?_
  refine jj_s (pc' := 130) rfl rfl ?_
  refine jj_g rfl rfl (o2 _ _ _) rfl ?_
  refine jj_s (pc' := 134) rfl rfl ?_
  refine jj_g rfl rfl wQ_o rfl ?_
  refine jj_u2 (h' := wQ B q N2 S (cpK F2 F 12) h) rfl rfl rfl rfl rfl (c_cpRow 11 (by decide) (a2 _ _ _ 11 (by decide))) ?_
  refine jj_s (pc' := 141) rfl rfl ?_
  refine jj_g rfl rfl (o2 _ _ _) rfl ?_
  refine jj_s (pc' := 145) rfl rfl ?_
  refine jj_g rfl rfl wQ_o rfl ?_
  refine jj_u2 (h' := wQ B q N2 S (cpK F2 F 13) h) rfl rfl rfl rfl rfl (c_cpRow 12 (by decide) (a2 _ _ _ 12 (by decide))) ?_
  exact jj_vret rfl rfl ⟨rfl, rfl, wQ_ext (fun j hj => by simp [cpK, hj])⟩
set_option maxHeartbeats 4000000 in
set_option maxRecDepth 100000 in
 theorem c_copyAll {G : GC} {B n : Nat} {h : HT} {q N : Nat} {S : Nat → Int32} {F : Nat → Nat → Int32} {q2 N2 : Nat} {S2 : Nat → Int32} {F2 : Nat → Nat → Int32} (hd : q2 + 14 ≤ q ∨ q + 14 ≤ q2) (hO : h q2 = some (ob 5 (qobj B q2 N2 S2))) (hA : ∀ j, j < 13 → h (q2 + (j + 1)) = some (ia 20 (F2 j))) : CtJ G B M5_copyAll [.ref (B + q), .ref (B + q2)] n (wQ B q N S F h) 0 0 (eqP none n (wQ B q N2 S2 (fun j => cp (F2 j) (F j)) h)) := by
  have o2 : ∀ (N : Nat) (S : Nat → Int32) (F : Nat → Nat → Int32), wQ B q N S F h q2 = some (ob 5 (qobj B q2 N2 S2)) := fun N S F => (wQ_n (by omega)).trans hO
  unfold CtJ
  refine jj_lv (lv' := [some (.ref (B + q)), some (.ref (B + q2))]) rfl ?_
  refine jj_s (pc' := 1) rfl rfl ?_
  refine jj_s (pc' := 2) rfl rfl ?_
  refine jj_w1 rfl rfl rfl wQ_o rfl rfl (c_copyItems hd hO hA) ?_
  refine jj_s (pc' := 6) rfl rfl ?_
  refine jj_s (pc' := 7) rfl rfl ?_
  refine jj_g rfl rfl (o2 _ _ _) rfl ?_
  refine jj_qpt (N' := N2) (S' := upd S 1 (S2 1)) rfl rfl rfl rfl ?_
  refine jj_s (pc' := 14) rfl rfl ?_
  refine jj_s (pc' := 15) rfl rfl ?_
  refine jj_g rfl rfl (o2 _ _ _) rfl ?_
  refine jj_qpt (N' := N2) (S' := upd (upd S 1 (S2 1)) 2 (S2 2)) rfl rfl rfl rfl ?_
  refine jj_s (pc' := 22) rfl rfl ?_
  refine jj_s (pc' := 23) rfl rfl ?_
  refine jj_g rfl rfl (o2 _ _ _) rfl ?_
  refine jj_qpt (N' := N2) (S' := upd (upd (upd S 1 (S2 1)) 2 (S2 2)) 3 (S2 3)) rfl rfl rfl rfl ?_
  refine jj_s (pc' := 30) rfl rfl ?_
  refine jj_s (pc' := 31) rfl rfl ?_
  refine jj_g rfl rfl (o2 _ _ _) rfl ?_
  refine jj_qpt (N' := N2) (S' := S2) rfl rfl rfl rfl ?_
  exact jj_vret rfl rfl ⟨rfl, rfl, rfl⟩
set_option maxHeartbeats 4000000 in
set_option maxRecDepth 100000 in
 theorem c_endAs_open {G : GC} {B n : Nat} {h : HT} {q N : Nat} {S : Nat → Int32} {F : Nat → Nat → Int32} (hN : N ≤ 20) {i : Nat} (hi : i < 20) (e w : Int32) (bc : Int32 → Int32) (hbc : ∀ (x : Int32) (n : Nat) (h : HT), CtJ G B M6_bitCount_0f7a4 [.int x] n h 0 0 (eqP (some (.int (bc x))) n h)) : CtJ G B M5_endAs [.ref (B + q), .int (nI i), .int e, .int w] n (wQ B q N S F h) 0 0 (eqP (some (.int (bc (msk (fun j => decide (stl S N 1000 (uF F 5 i e) 5 j = w)) N &&& (msk (fun j => decide (F 5 j = w)) N ^^^ -1))))) n (wQ B q N S (stl S N 1000 (uF F 5 i e)) h)) := by
  unfold CtJ
  refine jj_lv (lv' := [some (.ref (B + q)), some (.int (nI i)), some (.int e), some (.int w), none]) rfl ?_
  refine jj_s (pc' := 1) rfl rfl ?_
  refine jj_s (pc' := 2) rfl rfl ?_
  refine jj_v1 rfl rfl rfl wQ_o rfl rfl (c_setIn hN _) ?_
  refine jj_s (pc' := 7) rfl rfl ?_
  refine jj_s (pc' := 8) rfl rfl ?_
  refine jj_g rfl rfl wQ_o rfl ?_
  refine jj_s (pc' := 12) rfl rfl ?_
  refine jj_s (pc' := 13) rfl rfl ?_
  refine jj_qst [] rfl rfl (by decide) (by first | assumption | omega) ?_
  refine jj_s (pc' := 15) rfl rfl ?_
  refine jj_w0 rfl rfl rfl wQ_o rfl rfl (c_settle hN) ?_
  refine jj_s (pc' := 19) rfl rfl ?_
  refine jj_s (pc' := 20) rfl rfl ?_
  refine jj_v1 rfl rfl rfl wQ_o rfl rfl (c_setIn hN _) ?_
  refine jj_s (pc' := 25) rfl rfl ?_
  refine jj_s (pc' := 26) rfl rfl ?_
  refine jj_s (pc' := 27) rfl rfl ?_
  refine jj_s (pc' := 28) rfl rfl ?_
  refine jj_t1 rfl rfl rfl rfl rfl (hbc _ _ _) ?_
  exact jj_iret rfl rfl ⟨rfl, rfl, rfl⟩
/-- those whose deadline has come return, the first k looked at -/
def ptk (S : Nat → Int32) (F : Nat → Nat → Int32) : Nat → (Nat → Nat → Int32) × Nat
  | 0 => (F, 0)
  | k + 1 => if (ptk S F k).1 5 k = 2 ∧ (ptk S F k).1 8 k ≤ S 1 then (cbF S (ptk S F k).1 k 0, (ptk S F k).2 + 1) else ptk S F k
theorem ptk_le (S : Nat → Int32) (F : Nat → Nat → Int32) (k : Nat) : (ptk S F k).2 ≤ k := by
  induction k with
  | zero => exact Nat.le_refl _
  | succ k ih =>
    unfold ptk
    split
    next => show (ptk S F k).2 + 1 ≤ k + 1; omega
    next => omega
/-- one tick: the time has been counted already -/
def tck (S : Nat → Int32) (N : Nat) (F : Nat → Nat → Int32) : Nat → Nat → Int32 := if 0 < (ptk S F N).2 then stl S N 1000 (ptk S F N).1 else (ptk S F N).1
set_option maxHeartbeats 4000000 in
set_option maxRecDepth 100000 in
 theorem c_passTick {G : GC} {B n : Nat} {h : HT} {q N : Nat} {S : Nat → Int32} {F : Nat → Nat → Int32} (hN : N ≤ 20) : CtJ G B M5_passTick [.ref (B + q)] n (wQ B q N S F h) 0 0 (eqP (some (.int (nI (ptk (upd S 1 (S 1 + 1)) F N).2))) n (wQ B q N (upd S 1 (S 1 + 1)) (tck (upd S 1 (S 1 + 1)) N F) h)) := by
  unfold CtJ
  refine jj_lv (lv' := [some (.ref (B + q)), none, none]) rfl ?_
  refine jj_s (pc' := 1) rfl rfl ?_
  refine jj_s (pc' := 2) rfl rfl ?_
  refine jj_g rfl rfl wQ_o rfl ?_
  refine jj_s (pc' := 6) rfl rfl ?_
  refine jj_s (pc' := 7) rfl rfl ?_
  refine jj_qpt (N' := N) (S' := upd S 1 (S 1 + 1)) rfl rfl rfl rfl ?_
  generalize upd S 1 (S 1 + 1) = S
  refine jj_s (pc' := 11) rfl rfl ?_
  refine jj_s (pc' := 12) rfl rfl ?_
  refine jj_s (pc' := 13) rfl rfl ?_
  refine jj_s (pc' := 14) rfl rfl ?_
  have L : ∀ d k, k ≤ N → N + 1 ≤ k + d → JJ X0 G B M5_passTick 14 [some (.ref (B + q)), some (.int (nI (ptk S F k).2)), some (.int (nI k))] [] n (wQ B q N S (ptk S F k).1 h) 0 0 (eqP (some (.int (nI (ptk S F N).2))) n (wQ B q N S (tck S N F) h)) := by
    intro d
    induction d with
    | zero => intro k h1 h2; exact absurd h2 (by omega)
    | succ d ih =>
      intro k h1 h2
      refine jj_s (pc' := 15) rfl rfl ?_
      refine jj_s (pc' := 16) rfl rfl ?_
      refine jj_g rfl rfl wQ_o rfl ?_
      refine jj_geN 60 rfl rfl (by omega) (by omega) (fun c => ?_) (fun c => ?_)
      · have hk : k = N := by omega
        subst hk
        have hle := ptk_le S F k
        refine jj_s (pc' := 61) rfl rfl ?_
        refine jj_if_le 68 rfl rfl (fun c2 => ?_) (fun c2 => ?_)
        · have h0 : ¬ 0 < (ptk S F k).2 := fun z => nI_nle z (by omega) c2
          refine jj_s (pc' := 69) rfl rfl ?_
          exact jj_iret rfl rfl ⟨rfl, rfl, by rw [tck, if_neg h0]⟩
        · have h0 : 0 < (ptk S F k).2 := Nat.pos_of_ne_zero (fun z => c2 (by rw [z]; decide))
          refine jj_s (pc' := 65) rfl rfl ?_
          refine jj_w0 rfl rfl rfl wQ_o rfl rfl (c_settle hN) ?_
          refine jj_s (pc' := 69) rfl rfl ?_
          exact jj_iret rfl rfl ⟨rfl, rfl, by rw [tck, if_pos h0]⟩
      · refine jj_s (pc' := 23) rfl rfl ?_
        refine jj_g rfl rfl wQ_o rfl ?_
        refine jj_s (pc' := 27) rfl rfl ?_
        refine jj_qld [] rfl rfl (by decide) (by first | assumption | omega) ?_
        refine jj_s (pc' := 29) rfl rfl ?_
        refine jj_icmp_ne 54 rfl rfl (fun (c2 : ¬ (ptk S F k).1 5 k = 2) => ?_) (fun (c2 : (ptk S F k).1 5 k = 2) => ?_)
        · have e : ptk S F (k + 1) = ptk S F k := by rw [ptk, if_neg (fun z => c2 z.1)]
          first | refine jj_inc rfl rfl ?_ | refine jj_s (pc' := 57) rfl rfl ?_
          refine jj_s (pc' := 14) rfl rfl ?_
          refine jj_lv ?_ (jj_h ?_ (ih (k + 1) (by omega) (by omega)))
          · rw [e]; rfl
          · rw [e]
        · refine jj_s (pc' := 33) rfl rfl ?_
          refine jj_g rfl rfl wQ_o rfl ?_
          refine jj_s (pc' := 37) rfl rfl ?_
          refine jj_qld [] rfl rfl (by decide) (by first | assumption | omega) ?_
          refine jj_s (pc' := 39) rfl rfl ?_
          refine jj_g rfl rfl wQ_o rfl ?_
          refine jj_icmp_gt 54 rfl rfl (fun c3 => ?_) (fun c3 => ?_)
          · have e : ptk S F (k + 1) = ptk S F k := by rw [ptk, if_neg (fun z => Int32.not_le.mpr c3 z.2)]
            first | refine jj_inc rfl rfl ?_ | refine jj_s (pc' := 57) rfl rfl ?_
            refine jj_s (pc' := 14) rfl rfl ?_
            refine jj_lv ?_ (jj_h ?_ (ih (k + 1) (by omega) (by omega)))
            · rw [e]; rfl
            · rw [e]
          · have e : ptk S F (k + 1) = (cbF S (ptk S F k).1 k 0, (ptk S F k).2 + 1) := by rw [ptk, if_pos ⟨c2, Int32.not_lt.mp c3⟩]
            refine jj_s (pc' := 46) rfl rfl ?_
            refine jj_s (pc' := 47) rfl rfl ?_
            refine jj_s (pc' := 48) rfl rfl ?_
            refine jj_w2 rfl rfl rfl wQ_o rfl rfl (c_comeBack (by omega) _) ?_
            first | refine jj_inc rfl rfl ?_ | refine jj_s (pc' := 54) rfl rfl ?_
            first | refine jj_inc rfl rfl ?_ | refine jj_s (pc' := 57) rfl rfl ?_
            refine jj_s (pc' := 14) rfl rfl ?_
            refine jj_lv ?_ (jj_h ?_ (ih (k + 1) (by omega) (by omega)))
            · rw [e]; rfl
            · rw [e]; rfl
  exact L (N + 1) 0 (by omega) (by omega)
/-- what an item would doom: one pass over the first k, and passes -/
def dpk (F : Nat → Nat → Int32) (l : Int32) : Nat → Int32 × Bool
  | 0 => (l, false)
  | k + 1 => if (F 5 k = 0 ∨ F 5 k = 1) ∧ bt (dpk F l k).1 k = false ∧ ¬ F 11 k &&& (dpk F l k).1 = 0 then ((dpk F l k).1 ||| bit k, true) else dpk F l k
def dmk (F : Nat → Nat → Int32) (N : Nat) : Nat → Int32 → Int32
  | 0, l => l
  | m + 1, l => if (dpk F l N).2 = true then dmk F N m (dpk F l N).1 else (dpk F l N).1
set_option maxHeartbeats 4000000 in
set_option maxRecDepth 100000 in
 theorem c_doomedBy {G : GC} {B n : Nat} {h : HT} {q N : Nat} {S : Nat → Int32} {F : Nat → Nat → Int32} (hN : N ≤ 20) {i : Nat} (hi : i < 20) : CtJ G B M5_doomedBy [.ref (B + q), .int (nI i)] n (wQ B q N S F h) 0 0 (eqP (some (.int (dmk F N 1000 (bit i) &&& (bit i ^^^ -1)))) n (wQ B q N S F h)) := by
  unfold CtJ
  refine jj_lv (lv' := [some (.ref (B + q)), some (.int (nI i)), none, none, none, none]) rfl ?_
  refine jj_s (pc' := 1) rfl rfl ?_
  refine jj_s (pc' := 2) rfl rfl ?_
  refine jj_s (pc' := 3) rfl rfl ?_
  refine jj_s (pc' := 4) rfl rfl ?_
  refine jj_s (pc' := 5) rfl rfl ?_
  refine jj_s (pc' := 6) rfl rfl ?_
  refine jj_s (pc' := 7) rfl rfl ?_
  refine jj_s (pc' := 9) rfl rfl ?_
  have L : ∀ m l z, m ≤ 1000 → JJ X0 G B M5_doomedBy 9 [some (.ref (B + q)), some (.int (nI i)), some (.int l), some (.int 1), some (.int (nI (1000 - m))), z] [] n (wQ B q N S F h) 0 0 (eqP (some (.int (dmk F N m l &&& (bit i ^^^ -1)))) n (wQ B q N S F h)) := by
    intro m
    induction m with
    | zero =>
      intro l z h0
      refine jj_s (pc' := 10) rfl rfl ?_
      refine jj_if_eq 86 rfl rfl (fun c => absurd c (by decide)) (fun c => ?_)
      refine jj_s (pc' := 15) rfl rfl ?_
      refine jj_s (pc' := 18) rfl rfl ?_
      refine jj_icmp_ge 86 rfl rfl (fun c => ?_) (fun c => absurd (by decide) c)
      refine jj_s (pc' := 87) rfl rfl ?_
      refine jj_s (pc' := 88) rfl rfl ?_
      refine jj_s (pc' := 89) rfl rfl ?_
      refine jj_s (pc' := 90) rfl rfl ?_
      refine jj_s (pc' := 91) rfl rfl ?_
      refine jj_s (pc' := 92) rfl rfl ?_
      refine jj_s (pc' := 93) rfl rfl ?_
      exact jj_iret rfl rfl ⟨rfl, rfl, rfl⟩
    | succ m ihm =>
      intro l z h0
      refine jj_s (pc' := 10) rfl rfl ?_
      refine jj_if_eq 86 rfl rfl (fun c => absurd c (by decide)) (fun c => ?_)
      refine jj_s (pc' := 15) rfl rfl ?_
      refine jj_s (pc' := 18) rfl rfl ?_
      refine jj_icmp_ge 86 rfl rfl (fun c => absurd ((nI_leI (a := 1000) (b := 1000 - (m + 1)) (by omega) (by omega)).mp c) (by omega)) (fun c => ?_)
      refine jj_s (pc' := 22) rfl rfl ?_
      refine jj_s (pc' := 23) rfl rfl ?_
      refine jj_s (pc' := 24) rfl rfl ?_
      refine jj_s (pc' := 26) rfl rfl ?_
      have L2 : ∀ d k, k ≤ N → N + 1 ≤ k + d → JJ X0 G B M5_doomedBy 26 [some (.ref (B + q)), some (.int (nI i)), some (.int (dpk F l k).1), some (.int (bI (dpk F l k).2)), some (.int (nI (1000 - (m + 1)))), some (.int (nI k))] [] n (wQ B q N S F h) 0 0 (eqP (some (.int (dmk F N (m + 1) l &&& (bit i ^^^ -1)))) n (wQ B q N S F h)) := by
        intro d
        induction d with
        | zero => intro k h1 h2; exact absurd h2 (by omega)
        | succ d ih =>
          intro k h1 h2
          refine jj_s (pc' := 28) rfl rfl ?_
          refine jj_s (pc' := 29) rfl rfl ?_
          refine jj_g rfl rfl wQ_o rfl ?_
          refine jj_geN 80 rfl rfl (by omega) (by omega) (fun c => ?_) (fun c => ?_)
          · have hk : k = N := by omega
            subst hk
            first | refine jj_inc rfl rfl ?_ | refine jj_s (pc' := 83) rfl rfl ?_
            refine jj_s (pc' := 9) rfl rfl ?_
            cases hb : (dpk F l k).2 with
            | true =>
              have e : dmk F k (m + 1) l = dmk F k m (dpk F l k).1 := by rw [dmk, if_pos hb]
              rw [e]
              rw [show 1000 - (m + 1) + 1 = 1000 - m by omega]
              exact ihm (dpk F l k).1 _ (by omega)
            | false =>
              have e : dmk F k (m + 1) l = (dpk F l k).1 := by rw [dmk, if_neg (by rw [hb]; decide)]
              rw [e]
              refine jj_s (pc' := 10) rfl rfl ?_
              refine jj_if_eq 86 rfl rfl (fun c => ?_) (fun c => absurd rfl c)
              refine jj_s (pc' := 87) rfl rfl ?_
              refine jj_s (pc' := 88) rfl rfl ?_
              refine jj_s (pc' := 89) rfl rfl ?_
              refine jj_s (pc' := 90) rfl rfl ?_
              refine jj_s (pc' := 91) rfl rfl ?_
              refine jj_s (pc' := 92) rfl rfl ?_
              refine jj_s (pc' := 93) rfl rfl ?_
              exact jj_iret rfl rfl ⟨rfl, rfl, rfl⟩
          · have skip : ¬ ((F 5 k = 0 ∨ F 5 k = 1) ∧ bt (dpk F l k).1 k = false ∧ ¬ F 11 k &&& (dpk F l k).1 = 0) → JJ X0 G B M5_doomedBy 74 [some (.ref (B + q)), some (.int (nI i)), some (.int (dpk F l k).1), some (.int (bI (dpk F l k).2)), some (.int (nI (1000 - (m + 1)))), some (.int (nI k))] [] n (wQ B q N S F h) 0 0 (eqP (some (.int (dmk F N (m + 1) l &&& (bit i ^^^ -1)))) n (wQ B q N S F h)) := by
              intro hs
              have e : dpk F l (k + 1) = dpk F l k := by rw [dpk, if_neg hs]
              first | refine jj_inc rfl rfl ?_ | refine jj_s (pc' := 77) rfl rfl ?_
              refine jj_s (pc' := 26) rfl rfl ?_
              refine jj_lv ?_ (ih (k + 1) (by omega) (by omega))
              rw [e]; rfl
            refine jj_s (pc' := 36) rfl rfl ?_
            refine jj_s (pc' := 38) rfl rfl ?_
            refine jj_v1 rfl rfl rfl wQ_o rfl rfl (c_followsEdges (by omega)) ?_
            refine jj_zT 74 rfl rfl (fun c2 => ?_) (fun c2 => ?_)
            · exact skip (fun z => of_decide_eq_false c2 z.1)
            · refine jj_s (pc' := 45) rfl rfl ?_
              refine jj_s (pc' := 47) rfl rfl ?_
              refine jj_t2 rfl rfl rfl rfl rfl (c_has (by omega)) ?_
              refine jj_zF 74 rfl rfl (fun c3 => ?_) (fun c3 => ?_)
              · exact skip (fun z => by rw [c3] at z; cases z.2.1)
              · refine jj_s (pc' := 54) rfl rfl ?_
                refine jj_g rfl rfl wQ_o rfl ?_
                refine jj_s (pc' := 59) rfl rfl ?_
                refine jj_qld [] rfl rfl (by decide) (by first | assumption | omega) ?_
                refine jj_s (pc' := 61) rfl rfl ?_
                refine jj_s (pc' := 62) rfl rfl ?_
                refine jj_if_eq 74 rfl rfl (fun c4 => ?_) (fun c4 => ?_)
                · exact skip (fun z => z.2.2 c4)
                · have e : dpk F l (k + 1) = ((dpk F l k).1 ||| bit k, true) := by rw [dpk, if_pos ⟨of_decide_eq_true c2, c3, c4⟩]
                  refine jj_s (pc' := 66) rfl rfl ?_
                  refine jj_s (pc' := 67) rfl rfl ?_
                  refine jj_s (pc' := 69) rfl rfl ?_
                  refine jj_s (pc' := 70) rfl rfl ?_
                  refine jj_s (pc' := 71) rfl rfl ?_
                  refine jj_s (pc' := 72) rfl rfl ?_
                  refine jj_s (pc' := 73) rfl rfl ?_
                  refine jj_s (pc' := 74) rfl rfl ?_
                  first | refine jj_inc rfl rfl ?_ | refine jj_s (pc' := 77) rfl rfl ?_
                  refine jj_s (pc' := 26) rfl rfl ?_
                  refine jj_lv ?_ (ih (k + 1) (by omega) (by omega))
                  rw [e]; rfl
      exact L2 (N + 1) 0 (by omega) (by omega)
  exact L 1000 (bit i) none (by omega)
end
section
/-! an object with m rows of twenty behind it -/
def wA (o m : Nat) (obj : AE) (P : Nat → Nat → Int32) (h : HT) : HT := fun k => if k = o then some obj else if o < k ∧ k < o + 1 + m then some (ia 20 (P (k - (o + 1)))) else h k
theorem wA_o {o m : Nat} {obj : AE} {P : Nat → Nat → Int32} {h : HT} : wA o m obj P h o = some obj := if_pos rfl
theorem wA_a {o m : Nat} {obj : AE} {P : Nat → Nat → Int32} {h : HT} {j : Nat} (hj : j < m) : wA o m obj P h (o + (j + 1)) = some (ia 20 (P j)) := by
  unfold wA
  rw [if_neg (by omega), if_pos (by omega), show o + (j + 1) - (o + 1) = j by omega]
theorem wA_n {o m : Nat} {obj : AE} {P : Nat → Nat → Int32} {h : HT} {k : Nat} (hk : k < o ∨ o + 1 + m ≤ k) : wA o m obj P h k = h k := by
  unfold wA
  rw [if_neg (by omega), if_neg (by omega)]
theorem wA_put {o m : Nat} {obj : AE} {P : Nat → Nat → Int32} {h : HT} {j i : Nat} {x : Int32} (hj : j < m) : hu (wA o m obj P h) (o + (j + 1)) (ia 20 (upd (P j) i x)) = wA o m obj (uF P j i x) h := by
  funext k
  by_cases hk : k = o + (j + 1)
  · subst hk
    rw [hu_s, wA_a hj]
    simp [uF, upF]
  · rw [hu_n _ _ _ hk]
    unfold wA
    split
    next => rfl
    next h1 =>
      split
      next h2 => rw [uF_j _ _ _ _ (by omega)]
      next => rfl
theorem wA_obj {o m : Nat} {obj obj' : AE} {P : Nat → Nat → Int32} {h : HT} : hu (wA o m obj P h) o obj' = wA o m obj' P h := by
  funext k
  by_cases hk : k = o
  · subst hk
    rw [hu_s, wA_o]
  · rw [hu_n _ _ _ hk]
    unfold wA
    rw [if_neg hk, if_neg hk]
theorem wQ_hu {B q N : Nat} {S : Nat → Int32} {F : Nat → Nat → Int32} {h : HT} {k : Nat} {e : AE} (hk : k < q ∨ q + 14 ≤ k) : hu (wQ B q N S F h) k e = wQ B q N S F (hu h k e) := by
  funext j
  by_cases hj : j = k
  · subst hj
    rw [hu_s, wQ_n hk, hu_s]
  · rw [hu_n _ _ _ hj]
    unfold wQ
    split
    next => rfl
    next =>
      split
      next => rfl
      next => rw [hu_n _ _ _ hj]
theorem jj_ald1 {X : State → Prop} {G : GC} {B : Nat} {y : MT} {pc : Nat} {lv : List (Option Value)} {st : List Value} {n : Nat} {h : HT} {kc ks : Nat} {post : Option Value → Nat → HT → Prop} {o m : Nat} {obj : AE} {P : Nat → Nat → Int32} {j i : Nat} (hd : lk (M_tb y) pc = some .iaload) (hj : j < m) (hi : i < 20) (K : JJ X G B y (pc + 1) lv (.int (P j i) :: st) n (wA o m obj P h) kc ks post) : JJ X G B y pc lv (.int (nI i) :: .ref (B + (o + (j + 1))) :: st) n (wA o m obj P h) kc ks post := jj_ialdN hd (wA_a hj) hi rfl K
theorem jj_ast1 {X : State → Prop} {G : GC} {B : Nat} {y : MT} {pc : Nat} {lv : List (Option Value)} {st : List Value} {n : Nat} {h : HT} {kc ks : Nat} {post : Option Value → Nat → HT → Prop} {o m : Nat} {obj : AE} {P : Nat → Nat → Int32} {j i : Nat} {x : Int32} (hd : lk (M_tb y) pc = some .iastore) (hj : j < m) (hi : i < 20) (K : JJ X G B y (pc + 1) lv st n (wA o m obj (uF P j i x) h) kc ks post) : JJ X G B y pc lv (.int x :: .int (nI i) :: .ref (B + (o + (j + 1))) :: st) n (wA o m obj P h) kc ks post := jj_iastN hd (wA_a hj) hi rfl (jj_h (wA_put hj) K)
theorem wQA_a {B q N : Nat} {S : Nat → Int32} {F : Nat → Nat → Int32} {o m : Nat} {obj : AE} {P : Nat → Nat → Int32} {h : HT} {j : Nat} (hj : j < m) (hd : o + (m + 1) ≤ q ∨ q + 14 ≤ o) : wQ B q N S F (wA o m obj P h) (o + (j + 1)) = some (ia 20 (P j)) := (wQ_n (by omega)).trans (wA_a hj)
theorem wQA_o {B q N : Nat} {S : Nat → Int32} {F : Nat → Nat → Int32} {o m : Nat} {obj : AE} {P : Nat → Nat → Int32} {h : HT} (hd : o + (m + 1) ≤ q ∨ q + 14 ≤ o) : wQ B q N S F (wA o m obj P h) o = some obj := (wQ_n (by omega)).trans wA_o
theorem jj_ald2 {X : State → Prop} {G : GC} {B : Nat} {y : MT} {pc : Nat} {lv : List (Option Value)} {st : List Value} {n : Nat} {h : HT} {kc ks : Nat} {post : Option Value → Nat → HT → Prop} {q N : Nat} {S : Nat → Int32} {F : Nat → Nat → Int32} {o m : Nat} {obj : AE} {P : Nat → Nat → Int32} {j i : Nat} (hd : lk (M_tb y) pc = some .iaload) (hj : j < m) (hi : i < 20) (ha : o + (m + 1) ≤ q ∨ q + 14 ≤ o) (K : JJ X G B y (pc + 1) lv (.int (P j i) :: st) n (wQ B q N S F (wA o m obj P h)) kc ks post) : JJ X G B y pc lv (.int (nI i) :: .ref (B + (o + (j + 1))) :: st) n (wQ B q N S F (wA o m obj P h)) kc ks post := jj_ialdN hd (wQA_a hj ha) hi rfl K
theorem jj_ast2 {X : State → Prop} {G : GC} {B : Nat} {y : MT} {pc : Nat} {lv : List (Option Value)} {st : List Value} {n : Nat} {h : HT} {kc ks : Nat} {post : Option Value → Nat → HT → Prop} {q N : Nat} {S : Nat → Int32} {F : Nat → Nat → Int32} {o m : Nat} {obj : AE} {P : Nat → Nat → Int32} {j i : Nat} {x : Int32} (hd : lk (M_tb y) pc = some .iastore) (hj : j < m) (hi : i < 20) (ha : o + (m + 1) ≤ q ∨ q + 14 ≤ o) (K : JJ X G B y (pc + 1) lv st n (wQ B q N S F (wA o m obj (uF P j i x) h)) kc ks post) : JJ X G B y pc lv (.int x :: .int (nI i) :: .ref (B + (o + (j + 1))) :: st) n (wQ B q N S F (wA o m obj P h)) kc ks post := jj_iastN hd (wQA_a hj ha) hi rfl (jj_h ((wQ_hu (by omega)).trans (by rw [wA_put hj])) K)
/-! Integer.bitCount, as it is written -/
theorem tw_c265 : Cond.constant (M_nm M6_bitCount_0f7a4).cls 265 1431655765 ∈ tW := tm2 116 rfl rfl
theorem tw_c266 : Cond.constant (M_nm M6_bitCount_0f7a4).cls 266 858993459 ∈ tW := tm2 117 rfl rfl
theorem tw_c267 : Cond.constant (M_nm M6_bitCount_0f7a4).cls 267 252645135 ∈ tW := tm2 118 rfl rfl
def us (x : Int32) (k : Int32) : Int32 := (x.toUInt32 >>> (k.toUInt32 &&& Int32.toUInt32 31)).toInt32
def bc1 (x : Int32) : Int32 := x - (us x 1 &&& 1431655765)
def bc2 (x : Int32) : Int32 := (x &&& 858993459) + (us x 2 &&& 858993459)
def bc3 (x : Int32) : Int32 := (x + us x 4) &&& 252645135
def bc4 (x : Int32) : Int32 := x + us x 8
def bc5 (x : Int32) : Int32 := x + us x 16
def bcF (x : Int32) : Int32 := bc5 (bc4 (bc3 (bc2 (bc1 x)))) &&& 63
set_option maxHeartbeats 4000000 in
set_option maxRecDepth 100000 in
 theorem c_bitCount {G : GC} {B n : Nat} {h : HT} (x : Int32) : CtJ G B M6_bitCount_0f7a4 [.int x] n h 0 0 (eqP (some (.int (bcF x))) n h) := by
  unfold CtJ
  refine jj_lv (lv' := [some (.int x)]) rfl ?_
  unfold bcF
  refine jj_s (pc' := 1) rfl rfl ?_
  refine jj_s (pc' := 2) rfl rfl ?_
  refine jj_s (pc' := 3) rfl rfl ?_
  refine jj_s (pc' := 4) rfl rfl ?_
  refine jj_ldcw rfl tw_c265 ?_
  refine jj_s (pc' := 8) rfl rfl ?_
  refine jj_s (pc' := 9) rfl rfl ?_
  refine jj_s (pc' := 10) rfl rfl ?_
  refine jj_lv (lv' := [some (.int (bc1 x))]) rfl ?_
  generalize bc1 x = y
  refine jj_s (pc' := 11) rfl rfl ?_
  refine jj_ldcw rfl tw_c266 ?_
  refine jj_s (pc' := 15) rfl rfl ?_
  refine jj_s (pc' := 16) rfl rfl ?_
  refine jj_s (pc' := 17) rfl rfl ?_
  refine jj_s (pc' := 18) rfl rfl ?_
  refine jj_ldcw rfl tw_c266 ?_
  refine jj_s (pc' := 22) rfl rfl ?_
  refine jj_s (pc' := 23) rfl rfl ?_
  refine jj_s (pc' := 24) rfl rfl ?_
  refine jj_lv (lv' := [some (.int (bc2 y))]) rfl ?_
  generalize bc2 y = y
  refine jj_s (pc' := 25) rfl rfl ?_
  refine jj_s (pc' := 26) rfl rfl ?_
  refine jj_s (pc' := 27) rfl rfl ?_
  refine jj_s (pc' := 28) rfl rfl ?_
  refine jj_s (pc' := 29) rfl rfl ?_
  refine jj_ldcw rfl tw_c267 ?_
  refine jj_s (pc' := 33) rfl rfl ?_
  refine jj_s (pc' := 34) rfl rfl ?_
  refine jj_lv (lv' := [some (.int (bc3 y))]) rfl ?_
  generalize bc3 y = y
  refine jj_s (pc' := 35) rfl rfl ?_
  refine jj_s (pc' := 36) rfl rfl ?_
  refine jj_s (pc' := 38) rfl rfl ?_
  refine jj_s (pc' := 39) rfl rfl ?_
  refine jj_s (pc' := 40) rfl rfl ?_
  refine jj_s (pc' := 41) rfl rfl ?_
  refine jj_s (pc' := 42) rfl rfl ?_
  refine jj_s (pc' := 43) rfl rfl ?_
  refine jj_s (pc' := 45) rfl rfl ?_
  refine jj_s (pc' := 46) rfl rfl ?_
  refine jj_s (pc' := 47) rfl rfl ?_
  refine jj_s (pc' := 48) rfl rfl ?_
  refine jj_s (pc' := 49) rfl rfl ?_
  refine jj_s (pc' := 51) rfl rfl ?_
  refine jj_s (pc' := 52) rfl rfl ?_
  exact jj_iret rfl rfl ⟨rfl, rfl, rfl⟩
/-- a sum -/
def sm (f : Nat → Int32) : Nat → Int32
  | 0 => 0
  | k + 1 => sm f k + f k
set_option maxHeartbeats 4000000 in
set_option maxRecDepth 100000 in
 theorem c_edgeCount {G : GC} {B n : Nat} {h : HT} {q N : Nat} {S : Nat → Int32} {F : Nat → Nat → Int32} (hN : N ≤ 20) : CtJ G B M5_edgeCount [.ref (B + q)] n (wQ B q N S F h) 0 0 (eqP (some (.int (sm (fun i => bcF (prd F i)) N))) n (wQ B q N S F h)) := by
  unfold CtJ
  refine jj_lv (lv' := [some (.ref (B + q)), none, none]) rfl ?_
  refine jj_s (pc' := 1) rfl rfl ?_
  refine jj_s (pc' := 2) rfl rfl ?_
  refine jj_s (pc' := 3) rfl rfl ?_
  refine jj_s (pc' := 4) rfl rfl ?_
  have L : ∀ d k, k ≤ N → N + 1 ≤ k + d → JJ X0 G B M5_edgeCount 4 [some (.ref (B + q)), some (.int (sm (fun i => bcF (prd F i)) k)), some (.int (nI k))] [] n (wQ B q N S F h) 0 0 (eqP (some (.int (sm (fun i => bcF (prd F i)) N))) n (wQ B q N S F h)) := by
    intro d
    induction d with
    | zero => intro k h1 h2; exact absurd h2 (by omega)
    | succ d ih =>
      intro k h1 h2
      refine jj_s (pc' := 5) rfl rfl ?_
      refine jj_s (pc' := 6) rfl rfl ?_
      refine jj_g rfl rfl wQ_o rfl ?_
      refine jj_geN 29 rfl rfl (by omega) (by omega) (fun c => ?_) (fun c => ?_)
      · refine jj_s (pc' := 30) rfl rfl ?_
        exact jj_iret rfl rfl ⟨by rw [show k = N by omega], rfl, rfl⟩
      · refine jj_s (pc' := 13) rfl rfl ?_
        refine jj_s (pc' := 14) rfl rfl ?_
        refine jj_s (pc' := 15) rfl rfl ?_
        refine jj_v1 rfl rfl rfl wQ_o rfl rfl (c_predecessors (by omega)) ?_
        refine jj_t1 rfl rfl rfl rfl rfl (c_bitCount _) ?_
        refine jj_s (pc' := 22) rfl rfl ?_
        refine jj_s (pc' := 23) rfl rfl ?_
        first | refine jj_inc rfl rfl ?_ | refine jj_s (pc' := 26) rfl rfl ?_
        refine jj_s (pc' := 4) rfl rfl ?_
        exact ih (k + 1) (by omega) (by omega)
  exact L (N + 1) 0 (by omega) (by omega)
theorem c_endAs {G : GC} {B n : Nat} {h : HT} {q N : Nat} {S : Nat → Int32} {F : Nat → Nat → Int32} (hN : N ≤ 20) {i : Nat} (hi : i < 20) (e w : Int32) : CtJ G B M5_endAs [.ref (B + q), .int (nI i), .int e, .int w] n (wQ B q N S F h) 0 0 (eqP (some (.int (bcF (msk (fun j => decide (stl S N 1000 (uF F 5 i e) 5 j = w)) N &&& (msk (fun j => decide (F 5 j = w)) N ^^^ -1))))) n (wQ B q N S (stl S N 1000 (uF F 5 i e)) h)) := c_endAs_open hN hi e w bcF (fun x n h => c_bitCount x)
/-! Paths -/
abbrev pob (B o q : Nat) : AE := ob 3 [.ref (B + q), .ref (B + (o + 1)), .ref (B + (o + 2)), .ref (B + (o + 3))]
def bi (F P : Nat → Nat → Int32) : Nat → (Nat → Nat → Int32)
  | 0 => P
  | k + 1 => uF (bi F P k) 0 k (prd F k)
def wi (m : Nat) (P : Nat → Nat → Int32) : Nat → (Nat → Nat → Int32)
  | 0 => P
  | k + 1 => if bt (wi m P k 0 k) m = true then uF (wi m P k) 0 k (wi m P k 0 k ||| wi m P k 0 m) else wi m P k
def wo (N : Nat) (P : Nat → Nat → Int32) : Nat → (Nat → Nat → Int32)
  | 0 => P
  | m + 1 => wi m (wo N P m) N
def bfS (F : Nat → Nat → Int32) (N : Nat) (P : Nat → Nat → Int32) : Nat → Nat → Int32 := wo N (bi F P N) N
set_option maxHeartbeats 4000000 in
set_option maxRecDepth 100000 in
 theorem c_beforeSets {G : GC} {B n : Nat} {h : HT} {q N : Nat} {S : Nat → Int32} {F : Nat → Nat → Int32} {o : Nat} {P : Nat → Nat → Int32} (hN : N ≤ 20) (ha : o + 4 ≤ q ∨ q + 14 ≤ o) : CtJ G B M3_beforeSets [.ref (B + o)] n (wQ B q N S F (wA o 3 (pob B o q) P h)) 0 0 (eqP (some (.ref (B + (o + 1)))) n (wQ B q N S F (wA o 3 (pob B o q) (bfS F N P) h))) := by
  have oP : ∀ P, wQ B q N S F (wA o 3 (pob B o q) P h) o = some (pob B o q) := fun P => wQA_o ha
  unfold CtJ
  refine jj_lv (lv' := [some (.ref (B + o)), none, none]) rfl ?_
  refine jj_s (pc' := 1) rfl rfl ?_
  refine jj_s (pc' := 2) rfl rfl ?_
  have L1 : ∀ d k, k ≤ N → N + 1 ≤ k + d → JJ X0 G B M3_beforeSets 2 [some (.ref (B + o)), some (.int (nI k)), none] [] n (wQ B q N S F (wA o 3 (pob B o q) (bi F P k) h)) 0 0 (eqP (some (.ref (B + (o + 1)))) n (wQ B q N S F (wA o 3 (pob B o q) (bfS F N P) h))) := by
    intro d
    induction d with
    | zero => intro k h1 h2; exact absurd h2 (by omega)
    | succ d ih =>
      intro k h1 h2
      refine jj_s (pc' := 3) rfl rfl ?_
      refine jj_s (pc' := 4) rfl rfl ?_
      refine jj_g rfl rfl (oP _) rfl ?_
      refine jj_g rfl rfl wQ_o rfl ?_
      refine jj_geN 33 rfl rfl (by omega) (by omega) (fun c => ?_) (fun c => ?_)
      · rw [show k = N by omega]
        refine jj_s (pc' := 34) rfl rfl ?_
        refine jj_s (pc' := 35) rfl rfl ?_
        have L2 : ∀ d m z, m ≤ N → N + 1 ≤ m + d → JJ X0 G B M3_beforeSets 35 [some (.ref (B + o)), some (.int (nI m)), z] [] n (wQ B q N S F (wA o 3 (pob B o q) (wo N (bi F P N) m) h)) 0 0 (eqP (some (.ref (B + (o + 1)))) n (wQ B q N S F (wA o 3 (pob B o q) (bfS F N P) h))) := by
          intro d
          induction d with
          | zero => intro m z h1 h2; exact absurd h2 (by omega)
          | succ d ihm =>
            intro m z h1 h2
            refine jj_s (pc' := 36) rfl rfl ?_
            refine jj_s (pc' := 37) rfl rfl ?_
            refine jj_g rfl rfl (oP _) rfl ?_
            refine jj_g rfl rfl wQ_o rfl ?_
            refine jj_geN 99 rfl rfl (by omega) (by omega) (fun c => ?_) (fun c => ?_)
            · refine jj_s (pc' := 100) rfl rfl ?_
              refine jj_g rfl rfl (oP _) rfl ?_
              exact jj_aret rfl rfl ⟨rfl, rfl, by rw [show m = N by omega]; rfl⟩
            · refine jj_s (pc' := 47) rfl rfl ?_
              refine jj_s (pc' := 48) rfl rfl ?_
              have L3 : ∀ d k, k ≤ N → N + 1 ≤ k + d → JJ X0 G B M3_beforeSets 48 [some (.ref (B + o)), some (.int (nI m)), some (.int (nI k))] [] n (wQ B q N S F (wA o 3 (pob B o q) (wi m (wo N (bi F P N) m) k) h)) 0 0 (eqP (some (.ref (B + (o + 1)))) n (wQ B q N S F (wA o 3 (pob B o q) (bfS F N P) h))) := by
                intro d
                induction d with
                | zero => intro k h1 h2; exact absurd h2 (by omega)
                | succ d ihk =>
                  intro k h1 h2
                  refine jj_s (pc' := 49) rfl rfl ?_
                  refine jj_s (pc' := 50) rfl rfl ?_
                  refine jj_g rfl rfl (oP _) rfl ?_
                  refine jj_g rfl rfl wQ_o rfl ?_
                  refine jj_geN 93 rfl rfl (by omega) (by omega) (fun c => ?_) (fun c => ?_)
                  · rw [show k = N by omega]
                    first | refine jj_inc rfl rfl ?_ | refine jj_s (pc' := 96) rfl rfl ?_
                    refine jj_s (pc' := 35) rfl rfl ?_
                    exact ihm (m + 1) _ (by omega) (by omega)
                  · refine jj_s (pc' := 60) rfl rfl ?_
                    refine jj_g rfl rfl (oP _) rfl ?_
                    refine jj_s (pc' := 64) rfl rfl ?_
                    refine jj_ald2 rfl (by decide) (by first | assumption | omega) (by first | assumption | omega) ?_
                    refine jj_s (pc' := 66) rfl rfl ?_
                    refine jj_t2 rfl rfl rfl rfl rfl (c_has (by omega)) ?_
                    refine jj_zT 87 rfl rfl (fun c3 => ?_) (fun c3 => ?_)
                    · first | refine jj_inc rfl rfl ?_ | refine jj_s (pc' := 90) rfl rfl ?_
                      refine jj_s (pc' := 48) rfl rfl ?_
                      have e : wi m (wo N (bi F P N) m) (k + 1) = wi m (wo N (bi F P N) m) k := by rw [wi, if_neg (by rw [c3]; decide)]
                      refine jj_h ?_ (ihk (k + 1) (by omega) (by omega))
                      rw [e]
                    · refine jj_s (pc' := 73) rfl rfl ?_
                      refine jj_g rfl rfl (oP _) rfl ?_
                      refine jj_s (pc' := 77) rfl rfl ?_
                      refine jj_s (pc' := 78) rfl rfl ?_
                      refine jj_ald2 rfl (by decide) (by first | assumption | omega) (by first | assumption | omega) ?_
                      refine jj_s (pc' := 80) rfl rfl ?_
                      refine jj_g rfl rfl (oP _) rfl ?_
                      refine jj_s (pc' := 84) rfl rfl ?_
                      refine jj_ald2 rfl (by decide) (by first | assumption | omega) (by first | assumption | omega) ?_
                      refine jj_s (pc' := 86) rfl rfl ?_
                      refine jj_ast2 rfl (by decide) (by first | assumption | omega) (by first | assumption | omega) ?_
                      first | refine jj_inc rfl rfl ?_ | refine jj_s (pc' := 90) rfl rfl ?_
                      refine jj_s (pc' := 48) rfl rfl ?_
                      have e : wi m (wo N (bi F P N) m) (k + 1) = uF (wi m (wo N (bi F P N) m) k) 0 k (wi m (wo N (bi F P N) m) k 0 k ||| wi m (wo N (bi F P N) m) k 0 m) := by rw [wi, if_pos c3]
                      refine jj_h ?_ (ihk (k + 1) (by omega) (by omega))
                      rw [e]
              exact L3 (N + 1) 0 (by omega) (by omega)
        exact L2 (N + 1) 0 none (by omega) (by omega)
      · refine jj_s (pc' := 14) rfl rfl ?_
        refine jj_g rfl rfl (oP _) rfl ?_
        refine jj_s (pc' := 18) rfl rfl ?_
        refine jj_s (pc' := 19) rfl rfl ?_
        refine jj_g rfl rfl (oP _) rfl ?_
        refine jj_s (pc' := 23) rfl rfl ?_
        refine jj_v1 rfl rfl rfl wQ_o rfl rfl (c_predecessors (by omega)) ?_
        refine jj_ast2 rfl (by decide) (by omega) ha ?_
        first | refine jj_inc rfl rfl ?_ | refine jj_s (pc' := 30) rfl rfl ?_
        refine jj_s (pc' := 2) rfl rfl ?_
        exact ih (k + 1) (by omega) (by omega)
  exact L1 (N + 1) 0 (by omega) (by omega)
set_option maxHeartbeats 4000000 in
set_option maxRecDepth 100000 in
 theorem c_hasDetour {G : GC} {B n : Nat} {h : HT} {q N : Nat} {S : Nat → Int32} {F : Nat → Nat → Int32} {o : Nat} {P : Nat → Nat → Int32} (hN : N ≤ 20) (ha : o + 4 ≤ q ∨ q + 14 ≤ o) {p i : Nat} (hp : p < 20) (hi : i < 20) : CtJ G B M3_hasDetour [.ref (B + o), .int (nI p), .int (nI i)] n (wQ B q N S F (wA o 3 (pob B o q) P h)) 0 0 (eqP (some (.int (bI (anyN (fun k => bt (prd F i) k && bt (bfS F N P 0 k) p) N)))) n (wQ B q N S F (wA o 3 (pob B o q) (bfS F N P) h))) := by
  have oP : ∀ P, wQ B q N S F (wA o 3 (pob B o q) P h) o = some (pob B o q) := fun P => wQA_o ha
  unfold CtJ
  refine jj_lv (lv' := [some (.ref (B + o)), some (.int (nI p)), some (.int (nI i)), none, none]) rfl ?_
  refine jj_s (pc' := 1) rfl rfl ?_
  refine jj_v0 rfl rfl rfl (oP _) rfl rfl (c_beforeSets hN ha) ?_
  refine jj_s (pc' := 5) rfl rfl ?_
  refine jj_s (pc' := 6) rfl rfl ?_
  refine jj_s (pc' := 8) rfl rfl ?_
  have L : ∀ d k, k ≤ N → N + 1 ≤ k + d → anyN (fun k => bt (prd F i) k && bt (bfS F N P 0 k) p) k = false → JJ X0 G B M3_hasDetour 8 [some (.ref (B + o)), some (.int (nI p)), some (.int (nI i)), some (.ref (B + (o + 1))), some (.int (nI k))] [] n (wQ B q N S F (wA o 3 (pob B o q) (bfS F N P) h)) 0 0 (eqP (some (.int (bI (anyN (fun k => bt (prd F i) k && bt (bfS F N P 0 k) p) N)))) n (wQ B q N S F (wA o 3 (pob B o q) (bfS F N P) h))) := by
    intro d
    induction d with
    | zero => intro k h1 h2; exact absurd h2 (by omega)
    | succ d ih =>
      intro k h1 h2 h3
      refine jj_s (pc' := 10) rfl rfl ?_
      refine jj_s (pc' := 11) rfl rfl ?_
      refine jj_g rfl rfl (oP _) rfl ?_
      refine jj_g rfl rfl wQ_o rfl ?_
      refine jj_geN 55 rfl rfl (by omega) (by omega) (fun c => ?_) (fun c => ?_)
      · refine jj_s (pc' := 56) rfl rfl ?_
        exact jj_zret rfl rfl (Or.inl rfl) ⟨by rw [show k = N from by omega] at h3; rw [h3]; rfl, rfl, rfl⟩
      · refine jj_s (pc' := 21) rfl rfl ?_
        refine jj_g rfl rfl (oP _) rfl ?_
        refine jj_s (pc' := 25) rfl rfl ?_
        refine jj_v1 rfl rfl rfl wQ_o rfl rfl (c_predecessors hi) ?_
        refine jj_s (pc' := 30) rfl rfl ?_
        refine jj_t2 rfl rfl rfl rfl rfl (c_has (by omega)) ?_
        refine jj_zT 49 rfl rfl (fun c2 => ?_) (fun c2 => ?_)
        · first | refine jj_inc rfl rfl ?_ | refine jj_s (pc' := 52) rfl rfl ?_
          refine jj_s (pc' := 8) rfl rfl ?_
          exact ih (k + 1) (by omega) (by omega) (by simp [anyN, h3, c2])
        · refine jj_s (pc' := 37) rfl rfl ?_
          refine jj_s (pc' := 39) rfl rfl ?_
          refine jj_ald2 rfl (by decide) (by omega) ha ?_
          refine jj_s (pc' := 41) rfl rfl ?_
          refine jj_t2 rfl rfl rfl rfl rfl (c_has (by omega)) ?_
          refine jj_zT 49 rfl rfl (fun c3 => ?_) (fun c3 => ?_)
          · first | refine jj_inc rfl rfl ?_ | refine jj_s (pc' := 52) rfl rfl ?_
            refine jj_s (pc' := 8) rfl rfl ?_
            exact ih (k + 1) (by omega) (by omega) (by simp [anyN, h3, c3])
          · refine jj_s (pc' := 48) rfl rfl ?_
            exact jj_zret rfl rfl (Or.inr rfl) ⟨by rw [(anyN_iff _ _).mpr ⟨k, c, by simp [c2, c3]⟩]; rfl, rfl, rfl⟩
  exact L (N + 1) 0 (by omega) (by omega) rfl
/-- passes until nothing changes -/
def itr {α : Type} (f : α → α × Bool) : Nat → α → α
  | 0, x => x
  | m + 1, x => if (f x).2 = true then itr f m (f x).1 else (f x).1
def hi0 (F P : Nat → Nat → Int32) : Nat → (Nat → Nat → Int32)
  | 0 => P
  | k + 1 => uF (hi0 F P k) 1 k (wkL F k)
def rp (F : Nat → Nat → Int32) (t : Nat) (P : Nat → Nat → Int32) : Nat → (Nat → Nat → Int32) × Bool
  | 0 => (P, false)
  | k + 1 => if bt (prd F t) k = true ∧ (rp F t P k).1 1 k < wkL F k + (rp F t P k).1 1 t then (uF (rp F t P k).1 1 k (wkL F k + (rp F t P k).1 1 t), true) else rp F t P k
theorem rp_0 {F : Nat → Nat → Int32} {t : Nat} (h : prd F t = 0) (P : Nat → Nat → Int32) (k : Nat) : rp F t P k = (P, false) := by
  induction k with
  | zero => rfl
  | succ k ih => rw [rp, h, b_0, if_neg (fun z => by cases z.1), ih]
set_option maxHeartbeats 4000000 in
set_option maxRecDepth 100000 in
 theorem c_raisePredecessors {G : GC} {B n : Nat} {h : HT} {q N : Nat} {S : Nat → Int32} {F : Nat → Nat → Int32} {o : Nat} {P : Nat → Nat → Int32} (hN : N ≤ 20) (ha : o + 4 ≤ q ∨ q + 14 ≤ o) {t : Nat} (ht : t < 20) : CtJ G B M3_raisePredecessors [.ref (B + o), .int (nI t)] n (wQ B q N S F (wA o 3 (pob B o q) P h)) 0 0 (eqP (some (.int (bI (rp F t P N).2))) n (wQ B q N S F (wA o 3 (pob B o q) (rp F t P N).1 h))) := by
  have oP : ∀ P, wQ B q N S F (wA o 3 (pob B o q) P h) o = some (pob B o q) := fun P => wQA_o ha
  unfold CtJ
  refine jj_lv (lv' := [some (.ref (B + o)), some (.int (nI t)), none, none, none, none]) rfl ?_
  refine jj_s (pc' := 1) rfl rfl ?_
  refine jj_g rfl rfl (oP _) rfl ?_
  refine jj_s (pc' := 5) rfl rfl ?_
  refine jj_v1 rfl rfl rfl wQ_o rfl rfl (c_predecessors ht) ?_
  refine jj_s (pc' := 9) rfl rfl ?_
  refine jj_s (pc' := 10) rfl rfl ?_
  refine jj_s (pc' := 11) rfl rfl ?_
  refine jj_s (pc' := 12) rfl rfl ?_
  refine jj_s (pc' := 14) rfl rfl ?_
  have L : ∀ d k z, k ≤ N → N + 1 ≤ k + d → JJ X0 G B M3_raisePredecessors 14 [some (.ref (B + o)), some (.int (nI t)), some (.int (prd F t)), some (.int (bI (rp F t P k).2)), some (.int (nI k)), z] [] n (wQ B q N S F (wA o 3 (pob B o q) (rp F t P k).1 h)) 0 0 (eqP (some (.int (bI (rp F t P N).2))) n (wQ B q N S F (wA o 3 (pob B o q) (rp F t P N).1 h))) := by
    intro d
    induction d with
    | zero => intro k z h1 h2; exact absurd h2 (by omega)
    | succ d ih =>
      intro k z h1 h2
      refine jj_s (pc' := 15) rfl rfl ?_
      refine jj_if_eq 86 rfl rfl (fun c0 => ?_) (fun c0 => ?_)
      · refine jj_s (pc' := 87) rfl rfl ?_
        exact jj_zret rfl rfl (bI_01 _) ⟨by rw [rp_0 c0, rp_0 c0], rfl, by rw [rp_0 c0, rp_0 c0]⟩
      · refine jj_s (pc' := 20) rfl rfl ?_
        refine jj_s (pc' := 21) rfl rfl ?_
        refine jj_g rfl rfl (oP _) rfl ?_
        refine jj_g rfl rfl wQ_o rfl ?_
        refine jj_geN 86 rfl rfl (by omega) (by omega) (fun c => ?_) (fun c => ?_)
        · refine jj_s (pc' := 87) rfl rfl ?_
          exact jj_zret rfl rfl (bI_01 _) ⟨by rw [show k = N by omega], rfl, by rw [show k = N by omega]⟩
        · have skip : ¬ (bt (prd F t) k = true ∧ (rp F t P k).1 1 k < wkL F k + (rp F t P k).1 1 t) → ∀ z, JJ X0 G B M3_raisePredecessors 80 [some (.ref (B + o)), some (.int (nI t)), some (.int (prd F t)), some (.int (bI (rp F t P k).2)), some (.int (nI k)), z] [] n (wQ B q N S F (wA o 3 (pob B o q) (rp F t P k).1 h)) 0 0 (eqP (some (.int (bI (rp F t P N).2))) n (wQ B q N S F (wA o 3 (pob B o q) (rp F t P N).1 h))) := by
            intro hs z
            have e : rp F t P (k + 1) = rp F t P k := by rw [rp, if_neg hs]
            first | refine jj_inc rfl rfl ?_ | refine jj_s (pc' := 83) rfl rfl ?_
            refine jj_s (pc' := 14) rfl rfl ?_
            refine jj_lv ?_ (jj_h ?_ (ih (k + 1) z (by omega) (by omega)))
            · rw [e]; rfl
            · rw [e]
          refine jj_s (pc' := 31) rfl rfl ?_
          refine jj_g rfl rfl (oP _) rfl ?_
          refine jj_s (pc' := 36) rfl rfl ?_
          refine jj_v1 rfl rfl rfl wQ_o rfl rfl (c_workLeft (by omega)) ?_
          refine jj_s (pc' := 40) rfl rfl ?_
          refine jj_g rfl rfl (oP _) rfl ?_
          refine jj_s (pc' := 44) rfl rfl ?_
          refine jj_ald2 rfl (by decide) (by first | assumption | omega) (by first | assumption | omega) ?_
          refine jj_s (pc' := 46) rfl rfl ?_
          refine jj_s (pc' := 48) rfl rfl ?_
          refine jj_s (pc' := 49) rfl rfl ?_
          refine jj_s (pc' := 51) rfl rfl ?_
          refine jj_t2 rfl rfl rfl rfl rfl (c_has (by omega)) ?_
          refine jj_zT 80 rfl rfl (fun c2 => ?_) (fun c2 => ?_)
          · exact skip (fun z => by rw [c2] at z; cases z.1) _
          · refine jj_s (pc' := 59) rfl rfl ?_
            refine jj_s (pc' := 60) rfl rfl ?_
            refine jj_g rfl rfl (oP _) rfl ?_
            refine jj_s (pc' := 65) rfl rfl ?_
            refine jj_ald2 rfl (by decide) (by first | assumption | omega) (by first | assumption | omega) ?_
            refine jj_icmp_le 80 rfl rfl (fun c3 => ?_) (fun c3 => ?_)
            · exact skip (fun z => Int32.not_lt.mpr c3 z.2) _
            · have e : rp F t P (k + 1) = (uF (rp F t P k).1 1 k (wkL F k + (rp F t P k).1 1 t), true) := by rw [rp, if_pos ⟨c2, Int32.not_le.mp c3⟩]
              refine jj_s (pc' := 70) rfl rfl ?_
              refine jj_g rfl rfl (oP _) rfl ?_
              refine jj_s (pc' := 75) rfl rfl ?_
              refine jj_s (pc' := 77) rfl rfl ?_
              refine jj_ast2 rfl (by decide) (by first | assumption | omega) (by first | assumption | omega) ?_
              refine jj_s (pc' := 79) rfl rfl ?_
              refine jj_s (pc' := 80) rfl rfl ?_
              first | refine jj_inc rfl rfl ?_ | refine jj_s (pc' := 83) rfl rfl ?_
              refine jj_s (pc' := 14) rfl rfl ?_
              refine jj_lv ?_ (jj_h ?_ (ih (k + 1) (some (.int (wkL F k + (rp F t P k).1 1 t))) (by omega) (by omega)))
              · rw [e]; rfl
              · rw [e]
  exact L (N + 1) 0 none (by omega) (by omega)
def hpk (F : Nat → Nat → Int32) (N : Nat) (P : Nat → Nat → Int32) : Nat → (Nat → Nat → Int32) × Bool
  | 0 => (P, false)
  | k + 1 => ((rp F k (hpk F N P k).1 N).1, (hpk F N P k).2 || (rp F k (hpk F N P k).1 N).2)
def htS (F : Nat → Nat → Int32) (N : Nat) (P : Nat → Nat → Int32) : Nat → Nat → Int32 := itr (fun P => hpk F N P N) 1000 (hi0 F P N)
set_option maxHeartbeats 4000000 in
set_option maxRecDepth 100000 in
 theorem c_heights {G : GC} {B n : Nat} {h : HT} {q N : Nat} {S : Nat → Int32} {F : Nat → Nat → Int32} {o : Nat} {P : Nat → Nat → Int32} (hN : N ≤ 20) (ha : o + 4 ≤ q ∨ q + 14 ≤ o) : CtJ G B M3_heights [.ref (B + o)] n (wQ B q N S F (wA o 3 (pob B o q) P h)) 0 0 (eqP (some (.ref (B + (o + 2)))) n (wQ B q N S F (wA o 3 (pob B o q) (htS F N P) h))) := by
  have oP : ∀ P, wQ B q N S F (wA o 3 (pob B o q) P h) o = some (pob B o q) := fun P => wQA_o ha
  unfold CtJ
  refine jj_lv (lv' := [some (.ref (B + o)), none, none, none]) rfl ?_
  refine jj_s (pc' := 1) rfl rfl ?_
  refine jj_s (pc' := 2) rfl rfl ?_
  have L1 : ∀ d k, k ≤ N → N + 1 ≤ k + d → JJ X0 G B M3_heights 2 [some (.ref (B + o)), some (.int (nI k)), none, none] [] n (wQ B q N S F (wA o 3 (pob B o q) (hi0 F P k) h)) 0 0 (eqP (some (.ref (B + (o + 2)))) n (wQ B q N S F (wA o 3 (pob B o q) (htS F N P) h))) := by
    intro d
    induction d with
    | zero => intro k h1 h2; exact absurd h2 (by omega)
    | succ d ih =>
      intro k h1 h2
      refine jj_s (pc' := 3) rfl rfl ?_
      refine jj_s (pc' := 4) rfl rfl ?_
      refine jj_g rfl rfl (oP _) rfl ?_
      refine jj_g rfl rfl wQ_o rfl ?_
      refine jj_geN 33 rfl rfl (by omega) (by omega) (fun c => ?_) (fun c => ?_)
      · rw [show k = N by omega]
        refine jj_s (pc' := 34) rfl rfl ?_
        refine jj_s (pc' := 35) rfl rfl ?_
        refine jj_s (pc' := 36) rfl rfl ?_
        refine jj_s (pc' := 37) rfl rfl ?_
        unfold htS
        generalize hi0 F P N = P0
        have L : ∀ m (P : Nat → Nat → Int32) z, m ≤ 1000 → JJ X0 G B M3_heights 37 [some (.ref (B + o)), some (.int 1), some (.int (nI (1000 - m))), z] [] n (wQ B q N S F (wA o 3 (pob B o q) P h)) 0 0 (eqP (some (.ref (B + (o + 2)))) n (wQ B q N S F (wA o 3 (pob B o q) (itr (fun P => hpk F N P N) m P) h))) := by
          intro m
          induction m with
          | zero =>
            intro P z h0
            refine jj_s (pc' := 38) rfl rfl ?_
            refine jj_if_eq 85 rfl rfl (fun c => absurd c (by decide)) (fun c => ?_)
            refine jj_s (pc' := 42) rfl rfl ?_
            refine jj_s (pc' := 45) rfl rfl ?_
            refine jj_icmp_ge 85 rfl rfl (fun c => ?_) (fun c => absurd (by decide) c)
            refine jj_s (pc' := 86) rfl rfl ?_
            refine jj_g rfl rfl (oP _) rfl ?_
            exact jj_aret rfl rfl ⟨rfl, rfl, rfl⟩
          | succ m ihm =>
            intro P z h0
            refine jj_s (pc' := 38) rfl rfl ?_
            refine jj_if_eq 85 rfl rfl (fun c => absurd c (by decide)) (fun c => ?_)
            refine jj_s (pc' := 42) rfl rfl ?_
            refine jj_s (pc' := 45) rfl rfl ?_
            refine jj_icmp_ge 85 rfl rfl (fun c => absurd ((nI_leI (a := 1000) (b := 1000 - (m + 1)) (by omega) (by omega)).mp c) (by omega)) (fun c => ?_)
            refine jj_s (pc' := 49) rfl rfl ?_
            refine jj_s (pc' := 50) rfl rfl ?_
            refine jj_s (pc' := 51) rfl rfl ?_
            refine jj_s (pc' := 52) rfl rfl ?_
            have L2 : ∀ d k, k ≤ N → N + 1 ≤ k + d → JJ X0 G B M3_heights 52 [some (.ref (B + o)), some (.int (bI (hpk F N P k).2)), some (.int (nI (1000 - (m + 1)))), some (.int (nI k))] [] n (wQ B q N S F (wA o 3 (pob B o q) (hpk F N P k).1 h)) 0 0 (eqP (some (.ref (B + (o + 2)))) n (wQ B q N S F (wA o 3 (pob B o q) (itr (fun P => hpk F N P N) (m + 1) P) h))) := by
              intro d
              induction d with
              | zero => intro k h1 h2; exact absurd h2 (by omega)
              | succ d ih =>
                intro k h1 h2
                refine jj_s (pc' := 53) rfl rfl ?_
                refine jj_s (pc' := 54) rfl rfl ?_
                refine jj_g rfl rfl (oP _) rfl ?_
                refine jj_g rfl rfl wQ_o rfl ?_
                refine jj_geN 79 rfl rfl (by omega) (by omega) (fun c => ?_) (fun c => ?_)
                · rw [show k = N by omega]
                  first | refine jj_inc rfl rfl ?_ | refine jj_s (pc' := 82) rfl rfl ?_
                  refine jj_s (pc' := 37) rfl rfl ?_
                  cases hb : (hpk F N P N).2 with
                  | true =>
                    have e : itr (fun P => hpk F N P N) (m + 1) P = itr (fun P => hpk F N P N) m (hpk F N P N).1 := by rw [itr, if_pos hb]
                    rw [e]
                    rw [show 1000 - (m + 1) + 1 = 1000 - m by omega]
                    exact ihm (hpk F N P N).1 _ (by omega)
                  | false =>
                    have e : itr (fun P => hpk F N P N) (m + 1) P = (hpk F N P N).1 := by rw [itr, if_neg (by rw [hb]; decide)]
                    rw [e]
                    refine jj_s (pc' := 38) rfl rfl ?_
                    refine jj_if_eq 85 rfl rfl (fun c => ?_) (fun c => absurd rfl c)
                    refine jj_s (pc' := 86) rfl rfl ?_
                    refine jj_g rfl rfl (oP _) rfl ?_
                    exact jj_aret rfl rfl ⟨rfl, rfl, rfl⟩
                · refine jj_s (pc' := 64) rfl rfl ?_
                  refine jj_s (pc' := 65) rfl rfl ?_
                  refine jj_v1 rfl rfl rfl (oP _) rfl rfl (c_raisePredecessors hN ha (by omega)) ?_
                  refine jj_zT 73 rfl rfl (fun c3 => ?_) (fun c3 => ?_)
                  · first | refine jj_inc rfl rfl ?_ | refine jj_s (pc' := 76) rfl rfl ?_
                    refine jj_s (pc' := 52) rfl rfl ?_
                    refine jj_lv ?_ (ih (k + 1) (by omega) (by omega))
                    simp [hpk, c3]
                  · refine jj_s (pc' := 72) rfl rfl ?_
                    refine jj_s (pc' := 73) rfl rfl ?_
                    first | refine jj_inc rfl rfl ?_ | refine jj_s (pc' := 76) rfl rfl ?_
                    refine jj_s (pc' := 52) rfl rfl ?_
                    refine jj_lv ?_ (ih (k + 1) (by omega) (by omega))
                    simp [hpk, c3, bI]
            exact L2 (N + 1) 0 (by omega) (by omega)
        exact L 1000 P0 none (by omega)
      · refine jj_s (pc' := 14) rfl rfl ?_
        refine jj_g rfl rfl (oP _) rfl ?_
        refine jj_s (pc' := 18) rfl rfl ?_
        refine jj_s (pc' := 19) rfl rfl ?_
        refine jj_g rfl rfl (oP _) rfl ?_
        refine jj_s (pc' := 23) rfl rfl ?_
        refine jj_v1 rfl rfl rfl wQ_o rfl rfl (c_workLeft (by omega)) ?_
        refine jj_ast2 rfl (by decide) (by omega) ha ?_
        first | refine jj_inc rfl rfl ?_ | refine jj_s (pc' := 30) rfl rfl ?_
        refine jj_s (pc' := 2) rfl rfl ?_
        exact ih (k + 1) (by omega) (by omega)
  exact L1 (N + 1) 0 (by omega) (by omega)
def ld0 (P : Nat → Nat → Int32) : Nat → (Nat → Nat → Int32)
  | 0 => P
  | k + 1 => uF (ld0 P k) 2 k 0
def rl (F : Nat → Nat → Int32) (t : Nat) (P : Nat → Nat → Int32) : Nat → (Nat → Nat → Int32) × Bool
  | 0 => (P, false)
  | k + 1 => if bt (prd F t) k = true ∧ (rl F t P k).1 2 t < (rl F t P k).1 2 k + wkL F k then (uF (rl F t P k).1 2 t ((rl F t P k).1 2 k + wkL F k), true) else rl F t P k
theorem rl_0 {F : Nat → Nat → Int32} {t : Nat} (h : prd F t = 0) (P : Nat → Nat → Int32) (k : Nat) : rl F t P k = (P, false) := by
  induction k with
  | zero => rfl
  | succ k ih => rw [rl, h, b_0, if_neg (fun z => by cases z.1), ih]
set_option maxHeartbeats 4000000 in
set_option maxRecDepth 100000 in
 theorem c_raiseLead {G : GC} {B n : Nat} {h : HT} {q N : Nat} {S : Nat → Int32} {F : Nat → Nat → Int32} {o : Nat} {P : Nat → Nat → Int32} (hN : N ≤ 20) (ha : o + 4 ≤ q ∨ q + 14 ≤ o) {t : Nat} (ht : t < 20) : CtJ G B M3_raiseLead [.ref (B + o), .int (nI t)] n (wQ B q N S F (wA o 3 (pob B o q) P h)) 0 0 (eqP (some (.int (bI (rl F t P N).2))) n (wQ B q N S F (wA o 3 (pob B o q) (rl F t P N).1 h))) := by
  have oP : ∀ P, wQ B q N S F (wA o 3 (pob B o q) P h) o = some (pob B o q) := fun P => wQA_o ha
  unfold CtJ
  refine jj_lv (lv' := [some (.ref (B + o)), some (.int (nI t)), none, none, none, none]) rfl ?_
  refine jj_s (pc' := 1) rfl rfl ?_
  refine jj_g rfl rfl (oP _) rfl ?_
  refine jj_s (pc' := 5) rfl rfl ?_
  refine jj_v1 rfl rfl rfl wQ_o rfl rfl (c_predecessors ht) ?_
  refine jj_s (pc' := 9) rfl rfl ?_
  refine jj_s (pc' := 10) rfl rfl ?_
  refine jj_s (pc' := 11) rfl rfl ?_
  refine jj_s (pc' := 12) rfl rfl ?_
  refine jj_s (pc' := 14) rfl rfl ?_
  have L : ∀ d k z, k ≤ N → N + 1 ≤ k + d → JJ X0 G B M3_raiseLead 14 [some (.ref (B + o)), some (.int (nI t)), some (.int (prd F t)), some (.int (bI (rl F t P k).2)), some (.int (nI k)), z] [] n (wQ B q N S F (wA o 3 (pob B o q) (rl F t P k).1 h)) 0 0 (eqP (some (.int (bI (rl F t P N).2))) n (wQ B q N S F (wA o 3 (pob B o q) (rl F t P N).1 h))) := by
    intro d
    induction d with
    | zero => intro k z h1 h2; exact absurd h2 (by omega)
    | succ d ih =>
      intro k z h1 h2
      refine jj_s (pc' := 15) rfl rfl ?_
      refine jj_if_eq 85 rfl rfl (fun c0 => ?_) (fun c0 => ?_)
      · refine jj_s (pc' := 86) rfl rfl ?_
        exact jj_zret rfl rfl (bI_01 _) ⟨by rw [rl_0 c0, rl_0 c0], rfl, by rw [rl_0 c0, rl_0 c0]⟩
      · refine jj_s (pc' := 20) rfl rfl ?_
        refine jj_s (pc' := 21) rfl rfl ?_
        refine jj_g rfl rfl (oP _) rfl ?_
        refine jj_g rfl rfl wQ_o rfl ?_
        refine jj_geN 85 rfl rfl (by omega) (by omega) (fun c => ?_) (fun c => ?_)
        · refine jj_s (pc' := 86) rfl rfl ?_
          exact jj_zret rfl rfl (bI_01 _) ⟨by rw [show k = N by omega], rfl, by rw [show k = N by omega]⟩
        · have skip : ¬ (bt (prd F t) k = true ∧ (rl F t P k).1 2 t < (rl F t P k).1 2 k + wkL F k) → ∀ z, JJ X0 G B M3_raiseLead 79 [some (.ref (B + o)), some (.int (nI t)), some (.int (prd F t)), some (.int (bI (rl F t P k).2)), some (.int (nI k)), z] [] n (wQ B q N S F (wA o 3 (pob B o q) (rl F t P k).1 h)) 0 0 (eqP (some (.int (bI (rl F t P N).2))) n (wQ B q N S F (wA o 3 (pob B o q) (rl F t P N).1 h))) := by
            intro hs z
            have e : rl F t P (k + 1) = rl F t P k := by rw [rl, if_neg hs]
            first | refine jj_inc rfl rfl ?_ | refine jj_s (pc' := 82) rfl rfl ?_
            refine jj_s (pc' := 14) rfl rfl ?_
            refine jj_lv ?_ (jj_h ?_ (ih (k + 1) z (by omega) (by omega)))
            · rw [e]; rfl
            · rw [e]
          refine jj_s (pc' := 31) rfl rfl ?_
          refine jj_g rfl rfl (oP _) rfl ?_
          refine jj_s (pc' := 36) rfl rfl ?_
          refine jj_ald2 rfl (by decide) (by first | assumption | omega) (by first | assumption | omega) ?_
          refine jj_s (pc' := 38) rfl rfl ?_
          refine jj_g rfl rfl (oP _) rfl ?_
          refine jj_s (pc' := 43) rfl rfl ?_
          refine jj_v1 rfl rfl rfl wQ_o rfl rfl (c_workLeft (by omega)) ?_
          refine jj_s (pc' := 47) rfl rfl ?_
          refine jj_s (pc' := 49) rfl rfl ?_
          refine jj_s (pc' := 50) rfl rfl ?_
          refine jj_s (pc' := 52) rfl rfl ?_
          refine jj_t2 rfl rfl rfl rfl rfl (c_has (by omega)) ?_
          refine jj_zT 79 rfl rfl (fun c2 => ?_) (fun c2 => ?_)
          · exact skip (fun z => by rw [c2] at z; cases z.1) _
          · refine jj_s (pc' := 60) rfl rfl ?_
            refine jj_s (pc' := 61) rfl rfl ?_
            refine jj_g rfl rfl (oP _) rfl ?_
            refine jj_s (pc' := 65) rfl rfl ?_
            refine jj_ald2 rfl (by decide) (by first | assumption | omega) (by first | assumption | omega) ?_
            refine jj_icmp_le 79 rfl rfl (fun c3 => ?_) (fun c3 => ?_)
            · exact skip (fun z => Int32.not_lt.mpr c3 z.2) _
            · have e : rl F t P (k + 1) = (uF (rl F t P k).1 2 t ((rl F t P k).1 2 k + wkL F k), true) := by rw [rl, if_pos ⟨c2, Int32.not_le.mp c3⟩]
              refine jj_s (pc' := 70) rfl rfl ?_
              refine jj_g rfl rfl (oP _) rfl ?_
              refine jj_s (pc' := 74) rfl rfl ?_
              refine jj_s (pc' := 76) rfl rfl ?_
              refine jj_ast2 rfl (by decide) (by first | assumption | omega) (by first | assumption | omega) ?_
              refine jj_s (pc' := 78) rfl rfl ?_
              refine jj_s (pc' := 79) rfl rfl ?_
              first | refine jj_inc rfl rfl ?_ | refine jj_s (pc' := 82) rfl rfl ?_
              refine jj_s (pc' := 14) rfl rfl ?_
              refine jj_lv ?_ (jj_h ?_ (ih (k + 1) (some (.int ((rl F t P k).1 2 k + wkL F k))) (by omega) (by omega)))
              · rw [e]; rfl
              · rw [e]
  exact L (N + 1) 0 none (by omega) (by omega)
def lpk (F : Nat → Nat → Int32) (N : Nat) (P : Nat → Nat → Int32) : Nat → (Nat → Nat → Int32) × Bool
  | 0 => (P, false)
  | k + 1 => ((rl F k (lpk F N P k).1 N).1, (lpk F N P k).2 || (rl F k (lpk F N P k).1 N).2)
def leS (F : Nat → Nat → Int32) (N : Nat) (P : Nat → Nat → Int32) : Nat → Nat → Int32 := itr (fun P => lpk F N P N) 1000 (ld0 P N)
set_option maxHeartbeats 4000000 in
set_option maxRecDepth 100000 in
 theorem c_leads {G : GC} {B n : Nat} {h : HT} {q N : Nat} {S : Nat → Int32} {F : Nat → Nat → Int32} {o : Nat} {P : Nat → Nat → Int32} (hN : N ≤ 20) (ha : o + 4 ≤ q ∨ q + 14 ≤ o) : CtJ G B M3_leads [.ref (B + o)] n (wQ B q N S F (wA o 3 (pob B o q) P h)) 0 0 (eqP (some (.ref (B + (o + 3)))) n (wQ B q N S F (wA o 3 (pob B o q) (leS F N P) h))) := by
  have oP : ∀ P, wQ B q N S F (wA o 3 (pob B o q) P h) o = some (pob B o q) := fun P => wQA_o ha
  unfold CtJ
  refine jj_lv (lv' := [some (.ref (B + o)), none, none, none]) rfl ?_
  refine jj_s (pc' := 1) rfl rfl ?_
  refine jj_s (pc' := 2) rfl rfl ?_
  have L1 : ∀ d k, k ≤ N → N + 1 ≤ k + d → JJ X0 G B M3_leads 2 [some (.ref (B + o)), some (.int (nI k)), none, none] [] n (wQ B q N S F (wA o 3 (pob B o q) (ld0 P k) h)) 0 0 (eqP (some (.ref (B + (o + 3)))) n (wQ B q N S F (wA o 3 (pob B o q) (leS F N P) h))) := by
    intro d
    induction d with
    | zero => intro k h1 h2; exact absurd h2 (by omega)
    | succ d ih =>
      intro k h1 h2
      refine jj_s (pc' := 3) rfl rfl ?_
      refine jj_s (pc' := 4) rfl rfl ?_
      refine jj_g rfl rfl (oP _) rfl ?_
      refine jj_g rfl rfl wQ_o rfl ?_
      refine jj_geN 26 rfl rfl (by omega) (by omega) (fun c => ?_) (fun c => ?_)
      · rw [show k = N by omega]
        refine jj_s (pc' := 27) rfl rfl ?_
        refine jj_s (pc' := 28) rfl rfl ?_
        refine jj_s (pc' := 29) rfl rfl ?_
        refine jj_s (pc' := 30) rfl rfl ?_
        unfold leS
        generalize ld0 P N = P0
        have L : ∀ m (P : Nat → Nat → Int32) z, m ≤ 1000 → JJ X0 G B M3_leads 30 [some (.ref (B + o)), some (.int 1), some (.int (nI (1000 - m))), z] [] n (wQ B q N S F (wA o 3 (pob B o q) P h)) 0 0 (eqP (some (.ref (B + (o + 3)))) n (wQ B q N S F (wA o 3 (pob B o q) (itr (fun P => lpk F N P N) m P) h))) := by
          intro m
          induction m with
          | zero =>
            intro P z h0
            refine jj_s (pc' := 31) rfl rfl ?_
            refine jj_if_eq 78 rfl rfl (fun c => absurd c (by decide)) (fun c => ?_)
            refine jj_s (pc' := 35) rfl rfl ?_
            refine jj_s (pc' := 38) rfl rfl ?_
            refine jj_icmp_ge 78 rfl rfl (fun c => ?_) (fun c => absurd (by decide) c)
            refine jj_s (pc' := 79) rfl rfl ?_
            refine jj_g rfl rfl (oP _) rfl ?_
            exact jj_aret rfl rfl ⟨rfl, rfl, rfl⟩
          | succ m ihm =>
            intro P z h0
            refine jj_s (pc' := 31) rfl rfl ?_
            refine jj_if_eq 78 rfl rfl (fun c => absurd c (by decide)) (fun c => ?_)
            refine jj_s (pc' := 35) rfl rfl ?_
            refine jj_s (pc' := 38) rfl rfl ?_
            refine jj_icmp_ge 78 rfl rfl (fun c => absurd ((nI_leI (a := 1000) (b := 1000 - (m + 1)) (by omega) (by omega)).mp c) (by omega)) (fun c => ?_)
            refine jj_s (pc' := 42) rfl rfl ?_
            refine jj_s (pc' := 43) rfl rfl ?_
            refine jj_s (pc' := 44) rfl rfl ?_
            refine jj_s (pc' := 45) rfl rfl ?_
            have L2 : ∀ d k, k ≤ N → N + 1 ≤ k + d → JJ X0 G B M3_leads 45 [some (.ref (B + o)), some (.int (bI (lpk F N P k).2)), some (.int (nI (1000 - (m + 1)))), some (.int (nI k))] [] n (wQ B q N S F (wA o 3 (pob B o q) (lpk F N P k).1 h)) 0 0 (eqP (some (.ref (B + (o + 3)))) n (wQ B q N S F (wA o 3 (pob B o q) (itr (fun P => lpk F N P N) (m + 1) P) h))) := by
              intro d
              induction d with
              | zero => intro k h1 h2; exact absurd h2 (by omega)
              | succ d ih =>
                intro k h1 h2
                refine jj_s (pc' := 46) rfl rfl ?_
                refine jj_s (pc' := 47) rfl rfl ?_
                refine jj_g rfl rfl (oP _) rfl ?_
                refine jj_g rfl rfl wQ_o rfl ?_
                refine jj_geN 72 rfl rfl (by omega) (by omega) (fun c => ?_) (fun c => ?_)
                · rw [show k = N by omega]
                  first | refine jj_inc rfl rfl ?_ | refine jj_s (pc' := 75) rfl rfl ?_
                  refine jj_s (pc' := 30) rfl rfl ?_
                  cases hb : (lpk F N P N).2 with
                  | true =>
                    have e : itr (fun P => lpk F N P N) (m + 1) P = itr (fun P => lpk F N P N) m (lpk F N P N).1 := by rw [itr, if_pos hb]
                    rw [e]
                    rw [show 1000 - (m + 1) + 1 = 1000 - m by omega]
                    exact ihm (lpk F N P N).1 _ (by omega)
                  | false =>
                    have e : itr (fun P => lpk F N P N) (m + 1) P = (lpk F N P N).1 := by rw [itr, if_neg (by rw [hb]; decide)]
                    rw [e]
                    refine jj_s (pc' := 31) rfl rfl ?_
                    refine jj_if_eq 78 rfl rfl (fun c => ?_) (fun c => absurd rfl c)
                    refine jj_s (pc' := 79) rfl rfl ?_
                    refine jj_g rfl rfl (oP _) rfl ?_
                    exact jj_aret rfl rfl ⟨rfl, rfl, rfl⟩
                · refine jj_s (pc' := 57) rfl rfl ?_
                  refine jj_s (pc' := 58) rfl rfl ?_
                  refine jj_v1 rfl rfl rfl (oP _) rfl rfl (c_raiseLead hN ha (by omega)) ?_
                  refine jj_zT 66 rfl rfl (fun c3 => ?_) (fun c3 => ?_)
                  · first | refine jj_inc rfl rfl ?_ | refine jj_s (pc' := 69) rfl rfl ?_
                    refine jj_s (pc' := 45) rfl rfl ?_
                    refine jj_lv ?_ (ih (k + 1) (by omega) (by omega))
                    simp [lpk, c3]
                  · refine jj_s (pc' := 65) rfl rfl ?_
                    refine jj_s (pc' := 66) rfl rfl ?_
                    first | refine jj_inc rfl rfl ?_ | refine jj_s (pc' := 69) rfl rfl ?_
                    refine jj_s (pc' := 45) rfl rfl ?_
                    refine jj_lv ?_ (ih (k + 1) (by omega) (by omega))
                    simp [lpk, c3, bI]
            exact L2 (N + 1) 0 (by omega) (by omega)
        exact L 1000 P0 none (by omega)
      · refine jj_s (pc' := 14) rfl rfl ?_
        refine jj_g rfl rfl (oP _) rfl ?_
        refine jj_s (pc' := 18) rfl rfl ?_
        refine jj_s (pc' := 19) rfl rfl ?_
        refine jj_ast2 rfl (by decide) (by first | assumption | omega) (by first | assumption | omega) ?_
        first | refine jj_inc rfl rfl ?_ | refine jj_s (pc' := 23) rfl rfl ?_
        refine jj_s (pc' := 2) rfl rfl ?_
        exact ih (k + 1) (by omega) (by omega)
  exact L1 (N + 1) 0 (by omega) (by omega)
end
section
/-! Witness -/
abbrev wob (B o : Nat) (l : Int32) : AE := ob 7 [.int l, .ref (B + (o + 1)), .ref (B + (o + 2))]
/-- the first place from d on, at most m further, that is such -/
def fdF (P : Nat → Bool) : Nat → Nat → Nat
  | 0, d => d
  | m + 1, d => if P d = true then d else fdF P m (d + 1)
theorem fdF_le (P : Nat → Bool) (m d : Nat) : d ≤ fdF P m d ∧ fdF P m d ≤ d + m := by
  induction m generalizing d with
  | zero => exact ⟨Nat.le_refl _, Nat.le_refl _⟩
  | succ m ih =>
    unfold fdF
    split
    next => omega
    next => have := ih (d + 1); omega
theorem fdF_no (P : Nat → Bool) (m d : Nat) : ∀ j, d ≤ j → j < fdF P m d → P j = false := by
  induction m generalizing d with
  | zero => intro j h1 h2; unfold fdF at h2; omega
  | succ m ih =>
    intro j h1 h2
    unfold fdF at h2
    split at h2
    next => omega
    next hp =>
      by_cases e : j = d
      · subst e; simpa using hp
      · exact ih (d + 1) j (by omega) h2
theorem fdF_yes (P : Nat → Bool) (m d : Nat) (h : fdF P m d < d + m) : P (fdF P m d) = true := by
  induction m generalizing d with
  | zero => unfold fdF at h; omega
  | succ m ih =>
    unfold fdF at h ⊢
    split
    next hp => exact hp
    next hp => rw [if_neg hp] at h; exact ih (d + 1) (by omega)
theorem fdF_at {P : Nat → Bool} {m d : Nat} (h : ∃ j, d ≤ j ∧ j < d + m ∧ P j = true) : fdF P m d < d + m := by
  obtain ⟨j, h1, h2, h3⟩ := h
  rcases Nat.lt_or_ge j (fdF P m d) with q | q
  · rw [fdF_no P m d j h1 q] at h3; cases h3
  · omega
def poK (F : Nat → Nat → Int32) (s : Int32) : Nat → Int32
  | 0 => 0
  | k + 1 => if bt s k = true then poK F s k ||| prd F k else poK F s k
def rg (F : Nat → Nat → Int32) (N l : Nat) : Nat → Int32
  | 0 => bit l
  | d + 1 => poK F (rg F N l d) N
set_option maxHeartbeats 4000000 in
set_option maxRecDepth 100000 in
 theorem c_predecessorsOfAll {G : GC} {B n : Nat} {h : HT} {q N : Nat} {S : Nat → Int32} {F : Nat → Nat → Int32} (hN : N ≤ 20) (s : Int32) : CtJ G B M7_predecessorsOfAll [.ref (B + q), .int s] n (wQ B q N S F h) 0 0 (eqP (some (.int (poK F s N))) n (wQ B q N S F h)) := by
  unfold CtJ
  refine jj_lv (lv' := [some (.ref (B + q)), some (.int s), none, none]) rfl ?_
  refine jj_s (pc' := 1) rfl rfl ?_
  refine jj_s (pc' := 2) rfl rfl ?_
  refine jj_s (pc' := 3) rfl rfl ?_
  refine jj_s (pc' := 4) rfl rfl ?_
  have L : ∀ d k, k ≤ N → N + 1 ≤ k + d → JJ X0 G B M7_predecessorsOfAll 4 [some (.ref (B + q)), some (.int s), some (.int (poK F s k)), some (.int (nI k))] [] n (wQ B q N S F h) 0 0 (eqP (some (.int (poK F s N))) n (wQ B q N S F h)) := by
    intro d
    induction d with
    | zero => intro k h1 h2; exact absurd h2 (by omega)
    | succ d ih =>
      intro k h1 h2
      refine jj_s (pc' := 5) rfl rfl ?_
      refine jj_s (pc' := 6) rfl rfl ?_
      refine jj_g rfl rfl wQ_o rfl ?_
      refine jj_geN 34 rfl rfl (by omega) (by omega) (fun c => ?_) (fun c => ?_)
      · refine jj_s (pc' := 35) rfl rfl ?_
        exact jj_iret rfl rfl ⟨by rw [show k = N by omega], rfl, rfl⟩
      · refine jj_s (pc' := 13) rfl rfl ?_
        refine jj_s (pc' := 14) rfl rfl ?_
        refine jj_t2 rfl rfl rfl rfl rfl (c_has (by omega)) ?_
        refine jj_zT 28 rfl rfl (fun c2 => ?_) (fun c2 => ?_)
        · first | refine jj_inc rfl rfl ?_ | refine jj_s (pc' := 31) rfl rfl ?_
          refine jj_s (pc' := 4) rfl rfl ?_
          refine jj_lv ?_ (ih (k + 1) (by omega) (by omega))
          simp [poK, c2]
        · refine jj_s (pc' := 21) rfl rfl ?_
          refine jj_s (pc' := 22) rfl rfl ?_
          refine jj_s (pc' := 23) rfl rfl ?_
          refine jj_v1 rfl rfl rfl wQ_o rfl rfl (c_predecessors (by omega)) ?_
          refine jj_s (pc' := 27) rfl rfl ?_
          refine jj_s (pc' := 28) rfl rfl ?_
          first | refine jj_inc rfl rfl ?_ | refine jj_s (pc' := 31) rfl rfl ?_
          refine jj_s (pc' := 4) rfl rfl ?_
          refine jj_lv ?_ (ih (k + 1) (by omega) (by omega))
          simp [poK, c2]
  exact L (N + 1) 0 (by omega) (by omega)
/-- the lowest successor among the allowed; N: none -/
def lsc (F : Nat → Nat → Int32) (N t : Nat) (al : Int32) : Nat := fdF (fun j => bt al j && bt (prd F j) t) N 0
set_option maxHeartbeats 4000000 in
set_option maxRecDepth 100000 in
 theorem c_lowestSuccessor {G : GC} {B n : Nat} {h : HT} {q N : Nat} {S : Nat → Int32} {F : Nat → Nat → Int32} (hN : N ≤ 20) {t : Nat} (ht : t < 20) (al : Int32) (hf : lsc F N t al < N) : CtJ G B M7_lowestSuccessor [.ref (B + q), .int (nI t), .int al] n (wQ B q N S F h) 0 0 (eqP (some (.int (nI (lsc F N t al)))) n (wQ B q N S F h)) := by
  unfold CtJ
  refine jj_lv (lv' := [some (.ref (B + q)), some (.int (nI t)), some (.int al), none]) rfl ?_
  refine jj_s (pc' := 1) rfl rfl ?_
  refine jj_s (pc' := 2) rfl rfl ?_
  have L : ∀ d k, k + d = N → lsc F N t al = fdF (fun j => bt al j && bt (prd F j) t) d k → JJ X0 G B M7_lowestSuccessor 2 [some (.ref (B + q)), some (.int (nI t)), some (.int al), some (.int (nI k))] [] n (wQ B q N S F h) 0 0 (eqP (some (.int (nI (lsc F N t al)))) n (wQ B q N S F h)) := by
    intro d
    induction d with
    | zero => intro k h1 h2; unfold fdF at h2; omega
    | succ d ih =>
      intro k h1 h2
      refine jj_s (pc' := 3) rfl rfl ?_
      refine jj_s (pc' := 4) rfl rfl ?_
      refine jj_g rfl rfl wQ_o rfl ?_
      refine jj_geN 38 rfl rfl (by omega) (by omega) (fun c => absurd c (by omega)) (fun c => ?_)
      refine jj_s (pc' := 11) rfl rfl ?_
      refine jj_s (pc' := 12) rfl rfl ?_
      refine jj_t2 rfl rfl rfl rfl rfl (c_has (by omega)) ?_
      refine jj_zT 32 rfl rfl (fun c2 => ?_) (fun c2 => ?_)
      · first | refine jj_inc rfl rfl ?_ | refine jj_s (pc' := 35) rfl rfl ?_
        refine jj_s (pc' := 2) rfl rfl ?_
        exact ih (k + 1) (by omega) (by rw [h2, fdF, if_neg (by simp [c2])])
      · refine jj_s (pc' := 19) rfl rfl ?_
        refine jj_s (pc' := 20) rfl rfl ?_
        refine jj_v1 rfl rfl rfl wQ_o rfl rfl (c_predecessors (by omega)) ?_
        refine jj_s (pc' := 24) rfl rfl ?_
        refine jj_t2 rfl rfl rfl rfl rfl (c_has (by omega)) ?_
        refine jj_zT 32 rfl rfl (fun c3 => ?_) (fun c3 => ?_)
        · first | refine jj_inc rfl rfl ?_ | refine jj_s (pc' := 35) rfl rfl ?_
          refine jj_s (pc' := 2) rfl rfl ?_
          exact ih (k + 1) (by omega) (by rw [h2, fdF, if_neg (by simp [c3])])
        · refine jj_s (pc' := 31) rfl rfl ?_
          exact jj_iret rfl rfl ⟨by rw [h2, fdF, if_pos (by simp [c2, c3])], rfl, rfl⟩
  exact L N 0 (by omega) rfl
/-- the rings as they are laid -/
def rgP (F : Nat → Nat → Int32) (N l : Nat) (P : Nat → Nat → Int32) : Nat → (Nat → Nat → Int32)
  | 0 => uF P 1 0 (bit l)
  | d + 1 => uF (rgP F N l P d) 1 (d + 1) (rg F N l (d + 1))
theorem rgP_at (F : Nat → Nat → Int32) (N l : Nat) (P : Nat → Nat → Int32) (d : Nat) : ∀ j, j ≤ d → rgP F N l P d 1 j = rg F N l j := by
  induction d with
  | zero => intro j hj; rw [show j = 0 by omega]; exact uF_s _ _ _ _
  | succ d ih =>
    intro j hj
    unfold rgP
    by_cases e : j = d + 1
    · subst e; exact uF_s _ _ _ _
    · rw [uF_i _ _ _ _ e]; exact ih j (by omega)
def dsW (F : Nat → Nat → Int32) (N f l : Nat) : Nat := fdF (fun d => bt (rg F N l d) f) 19 0
set_option maxHeartbeats 4000000 in
set_option maxRecDepth 100000 in
 theorem c_drawRings {G : GC} {B n : Nat} {h : HT} {q N : Nat} {S : Nat → Int32} {F : Nat → Nat → Int32} {o : Nat} {P : Nat → Nat → Int32} {len : Int32} (hN : N ≤ 20) (ha : o + 3 ≤ q ∨ q + 14 ≤ o) {f l : Nat} (hf : f < 20) (hl : l < 20) : CtJ G B M7_drawRings [.ref (B + o), .ref (B + q), .int (nI f), .int (nI l)] n (wQ B q N S F (wA o 2 (wob B o len) P h)) 0 0 (eqP (some (.int (nI (dsW F N f l)))) n (wQ B q N S F (wA o 2 (wob B o len) (rgP F N l P (dsW F N f l)) h))) := by
  have oP : ∀ P, wQ B q N S F (wA o 2 (wob B o len) P h) o = some (wob B o len) := fun P => wQA_o ha
  unfold CtJ
  refine jj_lv (lv' := [some (.ref (B + o)), some (.ref (B + q)), some (.int (nI f)), some (.int (nI l)), none]) rfl ?_
  refine jj_s (pc' := 1) rfl rfl ?_
  refine jj_g rfl rfl (oP _) rfl ?_
  refine jj_s (pc' := 5) rfl rfl ?_
  refine jj_s (pc' := 6) rfl rfl ?_
  refine jj_s (pc' := 7) rfl rfl ?_
  refine jj_s (pc' := 8) rfl rfl ?_
  refine jj_ast2 (i := 0) rfl (by decide) (by omega) ha ?_
  refine jj_s (pc' := 10) rfl rfl ?_
  refine jj_s (pc' := 12) rfl rfl ?_
  have L : ∀ m d, d + m = 19 → dsW F N f l = fdF (fun d => bt (rg F N l d) f) m d → JJ X0 G B M7_drawRings 12 [some (.ref (B + o)), some (.ref (B + q)), some (.int (nI f)), some (.int (nI l)), some (.int (nI d))] [] n (wQ B q N S F (wA o 2 (wob B o len) (rgP F N l P d) h)) 0 0 (eqP (some (.int (nI (dsW F N f l)))) n (wQ B q N S F (wA o 2 (wob B o len) (rgP F N l P (dsW F N f l)) h))) := by
    intro m
    induction m with
    | zero =>
      intro d h1 h2
      have hd : d = 19 := by omega
      subst hd
      have e : dsW F N f l = 19 := h2
      refine jj_s (pc' := 14) rfl rfl ?_
      refine jj_s (pc' := 16) rfl rfl ?_
      refine jj_icmp_ge 59 rfl rfl (fun c => ?_) (fun c => absurd (by decide) c)
      refine jj_s (pc' := 61) rfl rfl ?_
      exact jj_iret rfl rfl ⟨by rw [e], rfl, by rw [e]⟩
    | succ m ih =>
      intro d h1 h2
      refine jj_s (pc' := 14) rfl rfl ?_
      refine jj_s (pc' := 16) rfl rfl ?_
      refine jj_geN (b := 19) 59 rfl rfl (by omega) (by omega) (fun c => absurd c (by omega)) (fun c => ?_)
      refine jj_s (pc' := 20) rfl rfl ?_
      refine jj_g rfl rfl (oP _) rfl ?_
      refine jj_s (pc' := 25) rfl rfl ?_
      refine jj_ald2 rfl (by decide) (by first | assumption | omega) (by first | assumption | omega) ?_
      refine jj_s (pc' := 27) rfl rfl ?_
      rw [rgP_at F N l P d d (Nat.le_refl _)]
      refine jj_t2 rfl rfl rfl rfl rfl (c_has (by omega)) ?_
      refine jj_zF 59 rfl rfl (fun c2 => ?_) (fun c2 => ?_)
      · refine jj_s (pc' := 61) rfl rfl ?_
        have e : dsW F N f l = d := by rw [h2, fdF, if_pos c2]
        exact jj_iret rfl rfl ⟨by rw [e], rfl, by rw [e]⟩
      · refine jj_s (pc' := 34) rfl rfl ?_
        refine jj_g rfl rfl (oP _) rfl ?_
        refine jj_s (pc' := 39) rfl rfl ?_
        refine jj_s (pc' := 40) rfl rfl ?_
        refine jj_s (pc' := 41) rfl rfl ?_
        refine jj_s (pc' := 42) rfl rfl ?_
        refine jj_s (pc' := 43) rfl rfl ?_
        refine jj_g rfl rfl (oP _) rfl ?_
        refine jj_s (pc' := 48) rfl rfl ?_
        refine jj_ald2 rfl (by decide) (by first | assumption | omega) (by first | assumption | omega) ?_
        rw [rgP_at F N l P d d (Nat.le_refl _)]
        refine jj_t2 rfl rfl rfl rfl rfl (c_predecessorsOfAll hN _) ?_
        refine jj_st (by rw [show nI d + Int32.ofInt 1 = nI (d + 1) from nI_1 d]) ?_
        refine jj_ast2 rfl (by decide) (by omega) ha ?_
        first | refine jj_inc rfl rfl ?_ | refine jj_s (pc' := 56) rfl rfl ?_
        refine jj_s (pc' := 12) rfl rfl ?_
        exact ih (d + 1) (by omega) (by rw [h2, fdF, if_neg (by rw [c2]; decide)])
  exact L 19 0 (by omega) rfl
/-- the path -/
def ptW (F : Nat → Nat → Int32) (N f l D : Nat) : Nat → Nat
  | 0 => f
  | i + 1 => lsc F N (ptW F N f l D i) (rg F N l (D - (i + 1)))
def ptP (F : Nat → Nat → Int32) (N f l D : Nat) (P : Nat → Nat → Int32) : Nat → (Nat → Nat → Int32)
  | 0 => uF P 0 0 (nI f)
  | i + 1 => uF (ptP F N f l D P i) 0 (i + 1) (nI (ptW F N f l D (i + 1)))
theorem ptP_at (F : Nat → Nat → Int32) (N f l D : Nat) (P : Nat → Nat → Int32) (d : Nat) : (∀ j, j ≤ d → ptP F N f l D P d 0 j = nI (ptW F N f l D j)) ∧ ptP F N f l D P d 1 = P 1 := by
  induction d with
  | zero => exact ⟨fun j hj => by rw [show j = 0 by omega]; exact uF_s _ _ _ _, uF_j _ _ _ _ (by decide)⟩
  | succ d ih =>
    refine ⟨fun j hj => ?_, ?_⟩
    · unfold ptP
      by_cases e : j = d + 1
      · subst e; exact uF_s _ _ _ _
      · rw [uF_i _ _ _ _ e]; exact ih.1 j (by omega)
    · unfold ptP
      rw [uF_j _ _ _ _ (by decide)]; exact ih.2
theorem bt_poK (F : Nat → Nat → Int32) (s : Int32) (k i : Nat) : bt (poK F s k) i = anyN (fun j => bt s j && bt (prd F j) i) k := by
  induction k with
  | zero => exact b_0 i
  | succ k ih =>
    unfold poK anyN
    split
    next hb => rw [b_or, ih, hb, Bool.true_and]
    next hb => rw [ih]; simp at hb; simp [hb]
/-- on the way there is always a next one -/
theorem ptW_ok {F : Nat → Nat → Int32} {N f l D : Nat} (hf : f < N) (hD : bt (rg F N l D) f = true) : ∀ i, i ≤ D → ptW F N f l D i < N ∧ bt (rg F N l (D - i)) (ptW F N f l D i) = true ∧ (i < D → lsc F N (ptW F N f l D i) (rg F N l (D - (i + 1))) < N) := by
  intro i
  have step : ∀ i, i < D → bt (rg F N l (D - i)) (ptW F N f l D i) = true → lsc F N (ptW F N f l D i) (rg F N l (D - (i + 1))) < N := by
    intro i hi hb
    rw [show D - i = (D - (i + 1)) + 1 by omega] at hb
    unfold rg at hb
    rw [bt_poK] at hb
    obtain ⟨j, h1, h2⟩ := (anyN_iff _ _).mp hb
    have := fdF_at (P := fun j => bt (rg F N l (D - (i + 1))) j && bt (prd F j) (ptW F N f l D i)) (m := N) (d := 0) ⟨j, by omega, by omega, h2⟩
    simpa [lsc] using this
  induction i with
  | zero => intro _; exact ⟨hf, hD, fun h => step 0 h hD⟩
  | succ i ih =>
    intro hi
    obtain ⟨h1, h2, h3⟩ := ih (by omega)
    have h3 := h3 (by omega)
    have h4 := fdF_yes (fun j => bt (rg F N l (D - (i + 1))) j && bt (prd F j) (ptW F N f l D i)) N 0 (by simpa [lsc] using h3)
    have h5 : bt (rg F N l (D - (i + 1))) (ptW F N f l D (i + 1)) = true := by
      simp only [Bool.and_eq_true] at h4
      exact h4.1
    exact ⟨h3, h5, fun h => step (i + 1) h h5⟩
set_option maxHeartbeats 4000000 in
set_option maxRecDepth 100000 in
 theorem c_remember {G : GC} {B n : Nat} {h : HT} {q N : Nat} {S : Nat → Int32} {F : Nat → Nat → Int32} {o : Nat} {P : Nat → Nat → Int32} {len : Int32} (hN : N ≤ 20) (ha : o + 3 ≤ q ∨ q + 14 ≤ o) {f l : Nat} (hf : f < N) (hl : l < N) (hD : bt (rg F N l (dsW F N f l)) f = true) : CtJ G B M7_remember [.ref (B + o), .ref (B + q), .int (nI f), .int (nI l)] n (wQ B q N S F (wA o 2 (wob B o len) P h)) 0 0 (eqP none n (wQ B q N S F (wA o 2 (wob B o (nI (dsW F N f l + 1))) (ptP F N f l (dsW F N f l) (rgP F N l P (dsW F N f l)) (dsW F N f l)) h))) := by
  have oP : ∀ P len, wQ B q N S F (wA o 2 (wob B o len) P h) o = some (wob B o len) := fun P len => wQA_o ha
  have hDl : dsW F N f l ≤ 19 := by have := (fdF_le (fun d => bt (rg F N l d) f) 19 0).2; unfold dsW; omega
  unfold CtJ
  refine jj_lv (lv' := [some (.ref (B + o)), some (.ref (B + q)), some (.int (nI f)), some (.int (nI l)), none, none]) rfl ?_
  refine jj_s (pc' := 1) rfl rfl ?_
  refine jj_s (pc' := 2) rfl rfl ?_
  refine jj_s (pc' := 3) rfl rfl ?_
  refine jj_s (pc' := 4) rfl rfl ?_
  refine jj_v3 rfl rfl rfl (oP _ _) rfl rfl (c_drawRings hN ha (by omega) (by omega)) ?_
  generalize hDe : dsW F N f l = D at hD hDl ⊢
  refine jj_s (pc' := 9) rfl rfl ?_
  refine jj_s (pc' := 10) rfl rfl ?_
  refine jj_g rfl rfl (oP _ _) rfl ?_
  refine jj_s (pc' := 14) rfl rfl ?_
  refine jj_s (pc' := 15) rfl rfl ?_
  refine jj_ast2 (i := 0) rfl (by decide) (by omega) ha ?_
  refine jj_s (pc' := 17) rfl rfl ?_
  refine jj_s (pc' := 19) rfl rfl ?_
  refine jj_s (pc' := 20) rfl rfl ?_
  refine jj_s (pc' := 21) rfl rfl ?_
  refine jj_p rfl rfl rfl rfl (oP _ _) rfl ?_
  refine jj_h (h' := wQ B q N S F (wA o 2 (wob B o (nI (D + 1))) (ptP F N f l D (rgP F N l P D) 0) h)) ((wQ_hu (by omega)).trans (by rw [wA_obj, ← nI_1]; rfl)) ?_
  refine jj_s (pc' := 25) rfl rfl ?_
  refine jj_s (pc' := 27) rfl rfl ?_
  have L : ∀ m i, i ≤ D → D + 1 ≤ i + m → JJ X0 G B M7_remember 27 [some (.ref (B + o)), some (.ref (B + q)), some (.int (nI f)), some (.int (nI l)), some (.int (nI D)), some (.int (nI (i + 1)))] [] n (wQ B q N S F (wA o 2 (wob B o (nI (D + 1))) (ptP F N f l D (rgP F N l P D) i) h)) 0 0 (eqP none n (wQ B q N S F (wA o 2 (wob B o (nI (D + 1))) (ptP F N f l D (rgP F N l P D) D) h))) := by
    intro m
    induction m with
    | zero => intro i h1 h2; exact absurd h2 (by omega)
    | succ m ih =>
      intro i h1 h2
      refine jj_s (pc' := 29) rfl rfl ?_
      refine jj_s (pc' := 31) rfl rfl ?_
      refine jj_icmp_gt 70 rfl rfl (fun c => ?_) (fun c => ?_)
      · have c := (nI_ltI (a := D) (b := i + 1) (by omega) (by omega)).mp c
        exact jj_vret rfl rfl ⟨rfl, rfl, by rw [show i = D by omega]⟩
      · have hi : i < D := by
          rcases Nat.lt_or_ge i D with q | q
          · exact q
          · exact absurd ((nI_ltI (a := D) (b := i + 1) (by omega) (by omega)).mpr (by omega)) c
        obtain ⟨w1, w2, w3⟩ := ptW_ok (l := l) hf hD i (by omega)
        refine jj_s (pc' := 35) rfl rfl ?_
        refine jj_g rfl rfl (oP _ _) rfl ?_
        refine jj_s (pc' := 40) rfl rfl ?_
        refine jj_s (pc' := 41) rfl rfl ?_
        refine jj_s (pc' := 42) rfl rfl ?_
        refine jj_g rfl rfl (oP _ _) rfl ?_
        refine jj_s (pc' := 47) rfl rfl ?_
        refine jj_s (pc' := 48) rfl rfl ?_
        refine jj_s (pc' := 49) rfl rfl ?_
        refine jj_st (by rw [show nI (i + 1) - Int32.ofInt 1 = nI i from nI_pred i]) ?_
        refine jj_ald2 rfl (by decide) (by omega) ha ?_
        rw [(ptP_at F N f l D (rgP F N l P D) i).1 i (Nat.le_refl _)]
        refine jj_s (pc' := 51) rfl rfl ?_
        refine jj_g rfl rfl (oP _ _) rfl ?_
        refine jj_s (pc' := 56) rfl rfl ?_
        refine jj_s (pc' := 58) rfl rfl ?_
        refine jj_s (pc' := 59) rfl rfl ?_
        refine jj_st (by rw [pk_sub (show i + 1 ≤ D by omega)]) ?_
        refine jj_ald2 rfl (by decide) (by omega) ha ?_
        rw [(ptP_at F N f l D (rgP F N l P D) i).2, rgP_at F N l P D _ (by omega)]
        refine jj_t3 rfl rfl rfl rfl rfl (c_lowestSuccessor hN (by omega) _ (w3 hi)) ?_
        refine jj_ast2 rfl (by decide) (by omega) ha ?_
        first | refine jj_inc rfl rfl ?_ | refine jj_s (pc' := 67) rfl rfl ?_
        refine jj_s (pc' := 27) rfl rfl ?_
        exact ih (i + 1) (by omega) (by omega)
  exact L (D + 1) 0 (by omega) (by omega)
set_option maxHeartbeats 4000000 in
set_option maxRecDepth 100000 in
 theorem c_forget {G : GC} {B n : Nat} {h : HT} {o : Nat} {P : Nat → Nat → Int32} {len : Int32} : CtJ G B M7_forget [.ref (B + o)] n (wA o 2 (wob B o len) P h) 0 0 (eqP none n (wA o 2 (wob B o 0) P h)) := by
  unfold CtJ
  refine jj_lv (lv' := [some (.ref (B + o))]) rfl ?_
  refine jj_s (pc' := 1) rfl rfl ?_
  refine jj_s (pc' := 2) rfl rfl ?_
  refine jj_p rfl rfl rfl rfl wA_o rfl ?_
  refine jj_h (h' := wA o 2 (wob B o 0) P h) wA_obj ?_
  exact jj_vret rfl rfl ⟨rfl, rfl, rfl⟩
end
section
/-! Plan -/
abbrev lob (B o : Nat) (V : Nat → Int32) : AE := ob 4 [.int (V 0), .ref (B + (o + 1)), .ref (B + (o + 2)), .ref (B + (o + 3)), .int (V 4), .int (V 5), .int (V 6), .int (V 7)]
/-- the heap of a plan: the Queue at q, the Plan at o -/
abbrev wL (B q N : Nat) (S : Nat → Int32) (F : Nat → Nat → Int32) (o : Nat) (V : Nat → Int32) (P : Nat → Nat → Int32) (h : HT) : HT := wQ B q N S F (wA o 3 (lob B o V) P h)
theorem jj_lpt {X : State → Prop} {G : GC} {B : Nat} {y : MT} {pc : Nat} {lv : List (Option Value)} {st : List Value} {n : Nat} {h : HT} {kc ks : Nat} {post : Option Value → Nat → HT → Prop} {q N : Nat} {S : Nat → Int32} {F : Nat → Nat → Int32} {o : Nat} {V : Nat → Int32} {P : Nat → Nat → Int32} {idx k : Nat} {x : Int32} (ha : o + 4 ≤ q ∨ q + 14 ≤ o) (hd : lk (M_tb y) pc = some (.putfield idx)) (hf : fld (M_own y) idx = some (4, k)) (hk : [0, 4, 5, 6, 7].elem k = true) (K : JJ X G B y (pc + 3) lv st n (wL B q N S F o (upd V k x) P h) kc ks post) : JJ X G B y pc lv (.int x :: .ref (B + o) :: st) n (wL B q N S F o V P h) kc ks post := by
  have hk : k ∈ [0, 4, 5, 6, 7] := by simpa using hk
  have e : ∀ obj, hu (wL B q N S F o V P h) o obj = wQ B q N S F (wA o 3 obj P h) := fun obj => (wQ_hu (by omega)).trans (by rw [wA_obj])
  simp only [List.mem_cons, List.not_mem_nil, or_false] at hk
  rcases hk with rfl | rfl | rfl | rfl | rfl <;> exact jj_p hd hf rfl rfl (wQA_o ha) rfl (jj_h (e _) K)
def ec (P : Nat → Nat → Int32) (V : Nat → Int32) : Nat → (Nat → Int32)
  | 0 => V
  | k + 1 => if bt (ec P V k 6) k = true ∧ P 1 k ≤ ec P V k 0 then upd (upd (ec P V k) 6 (ec P V k 6 &&& (bit k ^^^ -1))) 7 (ec P V k 7 + 1) else ec P V k
set_option maxHeartbeats 4000000 in
set_option maxRecDepth 100000 in
 theorem c_endCompleted {G : GC} {B n : Nat} {h : HT} {q N : Nat} {S : Nat → Int32} {F : Nat → Nat → Int32} {o : Nat} {V : Nat → Int32} {P : Nat → Nat → Int32} (hN : N ≤ 20) (ha : o + 4 ≤ q ∨ q + 14 ≤ o) : CtJ G B M4_endCompleted [.ref (B + o), .int (nI N)] n (wL B q N S F o V P h) 0 0 (eqP none n (wL B q N S F o (ec P V N) P h)) := by
  have oP : ∀ V, wL B q N S F o V P h o = some (lob B o V) := fun V => wQA_o ha
  unfold CtJ
  refine jj_lv (lv' := [some (.ref (B + o)), some (.int (nI N)), none]) rfl ?_
  refine jj_s (pc' := 1) rfl rfl ?_
  refine jj_s (pc' := 2) rfl rfl ?_
  have L : ∀ d k, k ≤ N → N + 1 ≤ k + d → JJ X0 G B M4_endCompleted 2 [some (.ref (B + o)), some (.int (nI N)), some (.int (nI k))] [] n (wL B q N S F o (ec P V k) P h) 0 0 (eqP none n (wL B q N S F o (ec P V N) P h)) := by
    intro d
    induction d with
    | zero => intro k h1 h2; exact absurd h2 (by omega)
    | succ d ih =>
      intro k h1 h2
      refine jj_s (pc' := 3) rfl rfl ?_
      refine jj_s (pc' := 4) rfl rfl ?_
      refine jj_geN 61 rfl rfl (by omega) (by omega) (fun c => ?_) (fun c => ?_)
      · exact jj_vret rfl rfl ⟨rfl, rfl, by rw [show k = N by omega]⟩
      · have skip : ¬ (bt (ec P V k 6) k = true ∧ P 1 k ≤ ec P V k 0) → JJ X0 G B M4_endCompleted 55 [some (.ref (B + o)), some (.int (nI N)), some (.int (nI k))] [] n (wL B q N S F o (ec P V k) P h) 0 0 (eqP none n (wL B q N S F o (ec P V N) P h)) := by
          intro hs
          have e : ec P V (k + 1) = ec P V k := by rw [ec, if_neg hs]
          first | refine jj_inc rfl rfl ?_ | refine jj_s (pc' := 58) rfl rfl ?_
          refine jj_s (pc' := 2) rfl rfl ?_
          exact jj_h (by rw [e]) (ih (k + 1) (by omega) (by omega))
        refine jj_s (pc' := 8) rfl rfl ?_
        refine jj_g rfl rfl (oP _) rfl ?_
        refine jj_s (pc' := 12) rfl rfl ?_
        refine jj_t2 rfl rfl rfl rfl rfl (c_has (by omega)) ?_
        refine jj_zT 55 rfl rfl (fun c2 => ?_) (fun c2 => ?_)
        · exact skip (fun z => by rw [c2] at z; cases z.1)
        · refine jj_s (pc' := 19) rfl rfl ?_
          refine jj_g rfl rfl (oP _) rfl ?_
          refine jj_s (pc' := 23) rfl rfl ?_
          refine jj_ald2 rfl (by decide) (by first | assumption | omega) (by first | assumption | omega) ?_
          refine jj_s (pc' := 25) rfl rfl ?_
          refine jj_g rfl rfl (oP _) rfl ?_
          refine jj_icmp_gt 55 rfl rfl (fun c3 => ?_) (fun c3 => ?_)
          · exact skip (fun z => Int32.not_le.mpr c3 z.2)
          · have e : ec P V (k + 1) = upd (upd (ec P V k) 6 (ec P V k 6 &&& (bit k ^^^ -1))) 7 (ec P V k 7 + 1) := by rw [ec, if_pos ⟨c2, Int32.not_lt.mp c3⟩]
            refine jj_s (pc' := 32) rfl rfl ?_
            refine jj_s (pc' := 33) rfl rfl ?_
            refine jj_g rfl rfl (oP _) rfl ?_
            refine jj_s (pc' := 37) rfl rfl ?_
            refine jj_s (pc' := 38) rfl rfl ?_
            refine jj_s (pc' := 39) rfl rfl ?_
            refine jj_s (pc' := 40) rfl rfl ?_
            refine jj_s (pc' := 41) rfl rfl ?_
            refine jj_s (pc' := 42) rfl rfl ?_
            refine jj_lpt ha rfl rfl rfl ?_
            refine jj_s (pc' := 46) rfl rfl ?_
            refine jj_s (pc' := 47) rfl rfl ?_
            refine jj_g rfl rfl (oP _) rfl ?_
            refine jj_s (pc' := 51) rfl rfl ?_
            refine jj_s (pc' := 52) rfl rfl ?_
            refine jj_lpt ha rfl rfl rfl ?_
            first | refine jj_inc rfl rfl ?_ | refine jj_s (pc' := 58) rfl rfl ?_
            refine jj_s (pc' := 2) rfl rfl ?_
            exact jj_h (by rw [e]; rfl) (ih (k + 1) (by omega) (by omega))
  exact L (N + 1) 0 (by omega) (by omega)
def fsL (F : Nat → Nat → Int32) (ne cd : Int32) (V : Nat → Int32) (P : Nat → Nat → Int32) : Nat → (Nat → Int32) × (Nat → Nat → Int32)
  | 0 => (V, P)
  | k + 1 => if bt cd k = true ∧ prd F k &&& ne = 0 then (upd (fsL F ne cd V P k).1 5 ((fsL F ne cd V P k).1 5 ||| bit k), uF (fsL F ne cd V P k).2 2 k ((fsL F ne cd V P k).1 0)) else fsL F ne cd V P k
theorem fsL_0 (F : Nat → Nat → Int32) (ne cd : Int32) (V : Nat → Int32) (P : Nat → Nat → Int32) (k : Nat) : ∀ j, j ≠ 5 → (fsL F ne cd V P k).1 j = V j := by
  intro j hj
  induction k with
  | zero => rfl
  | succ k ih =>
    unfold fsL
    split
    next => show upd _ 5 _ j = _; rw [pk_un hj]; exact ih
    next => exact ih
def fsS (F : Nat → Nat → Int32) (N : Nat) (V : Nat → Int32) (P : Nat → Nat → Int32) : (Nat → Int32) × (Nat → Nat → Int32) := fsL F (V 4 ||| V 6) (V 4 &&& (V 5 ^^^ -1)) V P N
set_option maxHeartbeats 4000000 in
set_option maxRecDepth 100000 in
 theorem c_findStartable {G : GC} {B n : Nat} {h : HT} {q N : Nat} {S : Nat → Int32} {F : Nat → Nat → Int32} {o : Nat} {V : Nat → Int32} {P : Nat → Nat → Int32} (hN : N ≤ 20) (ha : o + 4 ≤ q ∨ q + 14 ≤ o) : CtJ G B M4_findStartable [.ref (B + o), .ref (B + q)] n (wL B q N S F o V P h) 0 0 (eqP none n (wL B q N S F o (fsS F N V P).1 (fsS F N V P).2 h)) := by
  have oP : ∀ V P, wL B q N S F o V P h o = some (lob B o V) := fun V P => wQA_o ha
  unfold CtJ
  refine jj_lv (lv' := [some (.ref (B + o)), some (.ref (B + q)), none, none, none]) rfl ?_
  refine jj_s (pc' := 1) rfl rfl ?_
  refine jj_g rfl rfl (oP _ _) rfl ?_
  refine jj_s (pc' := 5) rfl rfl ?_
  refine jj_g rfl rfl (oP _ _) rfl ?_
  refine jj_s (pc' := 9) rfl rfl ?_
  refine jj_s (pc' := 10) rfl rfl ?_
  refine jj_s (pc' := 11) rfl rfl ?_
  refine jj_g rfl rfl (oP _ _) rfl ?_
  refine jj_s (pc' := 15) rfl rfl ?_
  refine jj_g rfl rfl (oP _ _) rfl ?_
  refine jj_s (pc' := 19) rfl rfl ?_
  refine jj_s (pc' := 20) rfl rfl ?_
  refine jj_s (pc' := 21) rfl rfl ?_
  refine jj_s (pc' := 22) rfl rfl ?_
  refine jj_s (pc' := 23) rfl rfl ?_
  refine jj_s (pc' := 25) rfl rfl ?_
  unfold fsS
  generalize V 4 ||| V 6 = ne
  refine jj_lv (lv' := [some (.ref (B + o)), some (.ref (B + q)), some (.int ne), some (.int (V 4 &&& (V 5 ^^^ -1))), some (.int (nI 0))]) rfl ?_
  generalize V 4 &&& (V 5 ^^^ -1) = cd
  have L : ∀ d k, k ≤ N → N + 1 ≤ k + d → JJ X0 G B M4_findStartable 25 [some (.ref (B + o)), some (.ref (B + q)), some (.int ne), some (.int cd), some (.int (nI k))] [] n (wL B q N S F o (fsL F ne cd V P k).1 (fsL F ne cd V P k).2 h) 0 0 (eqP none n (wL B q N S F o (fsL F ne cd V P N).1 (fsL F ne cd V P N).2 h)) := by
    intro d
    induction d with
    | zero => intro k h1 h2; exact absurd h2 (by omega)
    | succ d ih =>
      intro k h1 h2
      refine jj_s (pc' := 27) rfl rfl ?_
      refine jj_s (pc' := 28) rfl rfl ?_
      refine jj_g rfl rfl wQ_o rfl ?_
      refine jj_geN 84 rfl rfl (by omega) (by omega) (fun c => ?_) (fun c => ?_)
      · exact jj_vret rfl rfl ⟨rfl, rfl, by rw [show k = N by omega]⟩
      · have skip : ¬ (bt cd k = true ∧ prd F k &&& ne = 0) → JJ X0 G B M4_findStartable 78 [some (.ref (B + o)), some (.ref (B + q)), some (.int ne), some (.int cd), some (.int (nI k))] [] n (wL B q N S F o (fsL F ne cd V P k).1 (fsL F ne cd V P k).2 h) 0 0 (eqP none n (wL B q N S F o (fsL F ne cd V P N).1 (fsL F ne cd V P N).2 h)) := by
          intro hs
          have e : fsL F ne cd V P (k + 1) = fsL F ne cd V P k := by rw [fsL, if_neg hs]
          first | refine jj_inc rfl rfl ?_ | refine jj_s (pc' := 81) rfl rfl ?_
          refine jj_s (pc' := 25) rfl rfl ?_
          exact jj_h (by rw [e]) (ih (k + 1) (by omega) (by omega))
        refine jj_s (pc' := 35) rfl rfl ?_
        refine jj_s (pc' := 37) rfl rfl ?_
        refine jj_t2 rfl rfl rfl rfl rfl (c_has (by omega)) ?_
        refine jj_zT 78 rfl rfl (fun c2 => ?_) (fun c2 => ?_)
        · exact skip (fun z => by rw [c2] at z; cases z.1)
        · refine jj_s (pc' := 44) rfl rfl ?_
          refine jj_s (pc' := 46) rfl rfl ?_
          refine jj_v1 rfl rfl rfl wQ_o rfl rfl (c_predecessors (by omega)) ?_
          refine jj_s (pc' := 50) rfl rfl ?_
          refine jj_s (pc' := 51) rfl rfl ?_
          refine jj_if_ne 78 rfl rfl (fun c3 => ?_) (fun c3 => ?_)
          · exact skip (fun z => c3 z.2)
          · have e : fsL F ne cd V P (k + 1) = (upd (fsL F ne cd V P k).1 5 ((fsL F ne cd V P k).1 5 ||| bit k), uF (fsL F ne cd V P k).2 2 k ((fsL F ne cd V P k).1 0)) := by rw [fsL, if_pos ⟨c2, c3⟩]
            refine jj_s (pc' := 55) rfl rfl ?_
            refine jj_s (pc' := 56) rfl rfl ?_
            refine jj_g rfl rfl (oP _ _) rfl ?_
            refine jj_s (pc' := 60) rfl rfl ?_
            refine jj_s (pc' := 62) rfl rfl ?_
            refine jj_s (pc' := 63) rfl rfl ?_
            refine jj_s (pc' := 64) rfl rfl ?_
            refine jj_lpt ha rfl rfl rfl ?_
            refine jj_s (pc' := 68) rfl rfl ?_
            refine jj_g rfl rfl (oP _ _) rfl ?_
            refine jj_s (pc' := 73) rfl rfl ?_
            refine jj_s (pc' := 74) rfl rfl ?_
            refine jj_g rfl rfl (oP _ _) rfl ?_
            refine jj_ast2 rfl (by decide) (by first | assumption | omega) (by first | assumption | omega) ?_
            first | refine jj_inc rfl rfl ?_ | refine jj_s (pc' := 81) rfl rfl ?_
            refine jj_s (pc' := 25) rfl rfl ?_
            exact jj_h (by rw [e]; rfl) (ih (k + 1) (by omega) (by omega))
  exact L (N + 1) 0 (by omega) (by omega)
def bsR (F : Nat → Nat → Int32) (H : Nat → Int32) (pol : Int32) (V : Nat → Int32) (P : Nat → Nat → Int32) (i : Nat) : Int32 := rkF F i pol (H i) (V 0 - P 2 i)
def bsB (F : Nat → Nat → Int32) (N : Nat) (H : Nat → Int32) (pol : Int32) (V : Nat → Int32) (P : Nat → Nat → Int32) : Option Nat := pkB (bt (V 5)) (bsR F H pol V P) N
set_option maxHeartbeats 4000000 in
set_option maxRecDepth 100000 in
 theorem c_bestStartable {G : GC} {B n : Nat} {h : HT} {q N : Nat} {S : Nat → Int32} {F : Nat → Nat → Int32} {o a : Nat} {V : Nat → Int32} {P : Nat → Nat → Int32} {H : Nat → Int32} (hN : N ≤ 20) (ha : o + 4 ≤ q ∨ q + 14 ≤ o) (hH : wL B q N S F o V P h a = some (ia 20 H)) (pol : Int32) : CtJ G B M4_bestStartable [.ref (B + o), .ref (B + q), .ref (B + a), .int pol] n (wL B q N S F o V P h) 0 0 (eqP (some (.int (enc (bsB F N H pol V P)))) n (wL B q N S F o V P h)) := by
  have oP : wL B q N S F o V P h o = some (lob B o V) := wQA_o ha
  unfold CtJ
  refine jj_lv (lv' := [some (.ref (B + o)), some (.ref (B + q)), some (.ref (B + a)), some (.int pol), none, none, none, none]) rfl ?_
  refine jj_s (pc' := 2) rfl rfl ?_
  refine jj_s (pc' := 4) rfl rfl ?_
  refine jj_s (pc' := 5) rfl rfl ?_
  refine jj_s (pc' := 7) rfl rfl ?_
  refine jj_s (pc' := 8) rfl rfl ?_
  refine jj_s (pc' := 10) rfl rfl ?_
  unfold bsB
  have L : ∀ d k z, k ≤ N → N + 1 ≤ k + d → JJ X0 G B M4_bestStartable 10 [some (.ref (B + o)), some (.ref (B + q)), some (.ref (B + a)), some (.int pol), some (.int (enc (pkB (bt (V 5)) (bsR F H pol V P) k))), some (.int (rkO (bsR F H pol V P) (pkB (bt (V 5)) (bsR F H pol V P) k))), some (.int (nI k)), z] [] n (wL B q N S F o V P h) 0 0 (eqP (some (.int (enc (pkB (bt (V 5)) (bsR F H pol V P) N)))) n (wL B q N S F o V P h)) := by
    intro d
    induction d with
    | zero => intro k z h1 h2; exact absurd h2 (by omega)
    | succ d ih =>
      intro k z h1 h2
      refine jj_s (pc' := 12) rfl rfl ?_
      refine jj_s (pc' := 13) rfl rfl ?_
      refine jj_g rfl rfl wQ_o rfl ?_
      refine jj_geN 84 rfl rfl (by omega) (by omega) (fun c => ?_) (fun c => ?_)
      · refine jj_s (pc' := 86) rfl rfl ?_
        exact jj_iret rfl rfl ⟨by rw [show k = N by omega], rfl, rfl⟩
      · refine jj_s (pc' := 20) rfl rfl ?_
        refine jj_g rfl rfl oP rfl ?_
        refine jj_s (pc' := 25) rfl rfl ?_
        refine jj_t2 rfl rfl rfl rfl rfl (c_has (by omega)) ?_
        refine jj_zT 78 rfl rfl (fun c2 => ?_) (fun c2 => ?_)
        · first | refine jj_inc rfl rfl ?_ | refine jj_s (pc' := 81) rfl rfl ?_
          refine jj_s (pc' := 10) rfl rfl ?_
          refine jj_lv ?_ (ih (k + 1) z (by omega) (by omega))
          rw [pkB_skip c2]; rfl
        · refine jj_s (pc' := 32) rfl rfl ?_
          refine jj_s (pc' := 34) rfl rfl ?_
          refine jj_s (pc' := 35) rfl rfl ?_
          refine jj_s (pc' := 36) rfl rfl ?_
          refine jj_s (pc' := 38) rfl rfl ?_
          refine jj_ialdN rfl hH (by omega) rfl ?_
          refine jj_s (pc' := 40) rfl rfl ?_
          refine jj_g rfl rfl oP rfl ?_
          refine jj_s (pc' := 44) rfl rfl ?_
          refine jj_g rfl rfl oP rfl ?_
          refine jj_s (pc' := 49) rfl rfl ?_
          refine jj_ald2 rfl (by decide) (by first | assumption | omega) (by first | assumption | omega) ?_
          refine jj_s (pc' := 51) rfl rfl ?_
          refine jj_v4 rfl rfl rfl wQ_o rfl rfl (c_rankFor (by omega) _ _ _) ?_
          refine jj_s (pc' := 56) rfl rfl ?_
          refine jj_s (pc' := 58) rfl rfl ?_
          refine jj_s (pc' := 60) rfl rfl ?_
          cases hp : pkB (bt (V 5)) (bsR F H pol V P) k with
          | none =>
            refine jj_icmp_eq 70 rfl rfl (fun c3 => ?_) (fun c3 => absurd rfl c3)
            refine jj_s (pc' := 72) rfl rfl ?_
            refine jj_s (pc' := 74) rfl rfl ?_
            refine jj_s (pc' := 76) rfl rfl ?_
            refine jj_s (pc' := 78) rfl rfl ?_
            first | refine jj_inc rfl rfl ?_ | refine jj_s (pc' := 81) rfl rfl ?_
            refine jj_s (pc' := 10) rfl rfl ?_
            refine jj_lv ?_ (ih (k + 1) (some (.int (bsR F H pol V P k))) (by omega) (by omega))
            rw [pkB_none hp c2]; rfl
          | some b =>
            refine jj_icmp_eq 70 rfl rfl (fun c3 => absurd c3 (enc_ne (by have := (pkB_lt _ _ _ _ hp).1; omega))) (fun c3 => ?_)
            refine jj_s (pc' := 65) rfl rfl ?_
            refine jj_s (pc' := 67) rfl rfl ?_
            refine jj_icmp_le 78 rfl rfl (fun c4 => ?_) (fun c4 => ?_)
            · first | refine jj_inc rfl rfl ?_ | refine jj_s (pc' := 81) rfl rfl ?_
              refine jj_s (pc' := 10) rfl rfl ?_
              refine jj_lv ?_ (ih (k + 1) (some (.int (bsR F H pol V P k))) (by omega) (by omega))
              have c4 : ¬ bsR F H pol V P b < bsR F H pol V P k := Int32.not_lt.mpr c4
              rw [pkB_lose hp c4]; rfl
            · refine jj_s (pc' := 72) rfl rfl ?_
              refine jj_s (pc' := 74) rfl rfl ?_
              refine jj_s (pc' := 76) rfl rfl ?_
              refine jj_s (pc' := 78) rfl rfl ?_
              first | refine jj_inc rfl rfl ?_ | refine jj_s (pc' := 81) rfl rfl ?_
              refine jj_s (pc' := 10) rfl rfl ?_
              refine jj_lv ?_ (ih (k + 1) (some (.int (bsR F H pol V P k))) (by omega) (by omega))
              have c4 : bsR F H pol V P b < bsR F H pol V P k := Int32.not_le.mp c4
              rw [pkB_win hp c2 c4]; rfl
  exact L (N + 1) 0 none (by omega) (by omega)
def st1V (V : Nat → Int32) (b : Nat) : Nat → Int32 := upd (upd (upd (upd V 5 (V 5 &&& (bit b ^^^ -1))) 4 (V 4 &&& (bit b ^^^ -1))) 6 (V 6 ||| bit b)) 7 (V 7 - 1)
def st1P (F : Nat → Nat → Int32) (V : Nat → Int32) (P : Nat → Nat → Int32) (b : Nat) : Nat → Nat → Int32 := uF (uF P 0 b (V 0)) 1 b (V 0 + F 1 b)
def sIL (F : Nat → Nat → Int32) (N : Nat) (H : Nat → Int32) (pol : Int32) : Nat → (Nat → Int32) → (Nat → Nat → Int32) → (Nat → Int32) × (Nat → Nat → Int32)
  | 0, V, P => (V, P)
  | m + 1, V, P => if V 7 ≤ 0 ∨ V 5 = 0 then (V, P) else match bsB F N H pol V P with
    | none => sIL F N H pol m V P
    | some b => sIL F N H pol m (st1V V b) (st1P F V P b)
set_option maxHeartbeats 4000000 in
set_option maxRecDepth 100000 in
 theorem c_startItems {G : GC} {B n : Nat} {h : HT} {q N : Nat} {S : Nat → Int32} {F : Nat → Nat → Int32} {o a : Nat} {V : Nat → Int32} {P : Nat → Nat → Int32} {H : Nat → Int32} (hN : N ≤ 20) (ha : o + 4 ≤ q ∨ q + 14 ≤ o) (hH : h a = some (ia 20 H)) (ha1 : a < q ∨ q + 14 ≤ a) (ha2 : a < o ∨ o + 4 ≤ a) (pol : Int32) : CtJ G B M4_startItems [.ref (B + o), .ref (B + q), .ref (B + a), .int pol] n (wL B q N S F o V P h) 0 0 (eqP none n (wL B q N S F o (sIL F N H pol 6 V P).1 (sIL F N H pol 6 V P).2 h)) := by
  have oP : ∀ V P, wL B q N S F o V P h o = some (lob B o V) := fun V P => wQA_o ha
  have hHH : ∀ V P, wL B q N S F o V P h a = some (ia 20 H) := fun V P => (wQ_n ha1).trans ((wA_n (by omega)).trans hH)
  unfold CtJ
  refine jj_lv (lv' := [some (.ref (B + o)), some (.ref (B + q)), some (.ref (B + a)), some (.int pol), none, none]) rfl ?_
  refine jj_s (pc' := 1) rfl rfl ?_
  refine jj_s (pc' := 3) rfl rfl ?_
  have L : ∀ m (V : Nat → Int32) (P : Nat → Nat → Int32) z, m ≤ 6 → JJ X0 G B M4_startItems 3 [some (.ref (B + o)), some (.ref (B + q)), some (.ref (B + a)), some (.int pol), some (.int (nI (6 - m))), z] [] n (wL B q N S F o V P h) 0 0 (eqP none n (wL B q N S F o (sIL F N H pol m V P).1 (sIL F N H pol m V P).2 h)) := by
    intro m
    induction m with
    | zero =>
      intro V P z h0
      refine jj_s (pc' := 5) rfl rfl ?_
      refine jj_s (pc' := 7) rfl rfl ?_
      refine jj_icmp_ge 131 rfl rfl (fun c => ?_) (fun c => absurd (by decide) c)
      exact jj_vret rfl rfl ⟨rfl, rfl, rfl⟩
    | succ m ih =>
      intro V P z h0
      refine jj_s (pc' := 5) rfl rfl ?_
      refine jj_s (pc' := 7) rfl rfl ?_
      refine jj_geN (b := 6) 131 rfl rfl (by omega) (by omega) (fun c => absurd c (by omega)) (fun c => ?_)
      refine jj_s (pc' := 11) rfl rfl ?_
      refine jj_g rfl rfl (oP _ _) rfl ?_
      refine jj_if_le 131 rfl rfl (fun c1 => ?_) (fun c1 => ?_)
      · exact jj_vret rfl rfl ⟨rfl, rfl, by rw [sIL, if_pos (Or.inl c1)]⟩
      · refine jj_s (pc' := 18) rfl rfl ?_
        refine jj_g rfl rfl (oP _ _) rfl ?_
        refine jj_if_eq 131 rfl rfl (fun c2 => ?_) (fun c2 => ?_)
        · exact jj_vret rfl rfl ⟨rfl, rfl, by rw [sIL, if_pos (Or.inr c2)]⟩
        · have hs : ¬ (V 7 ≤ 0 ∨ V 5 = 0) := fun z => z.elim c1 c2
          refine jj_s (pc' := 25) rfl rfl ?_
          refine jj_s (pc' := 26) rfl rfl ?_
          refine jj_s (pc' := 27) rfl rfl ?_
          refine jj_s (pc' := 28) rfl rfl ?_
          refine jj_v3 rfl rfl rfl (oP _ _) rfl rfl (c_bestStartable hN ha (hHH _ _) pol) ?_
          refine jj_s (pc' := 33) rfl rfl ?_
          refine jj_s (pc' := 34) rfl rfl ?_
          refine jj_s (pc' := 36) rfl rfl ?_
          refine jj_v1 rfl rfl rfl wQ_o rfl rfl (c_holds _) ?_
          cases hb : bsB F N H pol V P with
          | none =>
            have e : sIL F N H pol (m + 1) V P = sIL F N H pol m V P := by rw [sIL, if_neg hs, hb]
            refine jj_zT 125 rfl rfl (fun c3 => ?_) (fun c3 => absurd c3 (by simp [enc]))
            first | refine jj_inc rfl rfl ?_ | refine jj_s (pc' := 128) rfl rfl ?_
            refine jj_s (pc' := 3) rfl rfl ?_
            refine jj_lv ?_ ((congrArg (fun r : (Nat → Int32) × (Nat → Nat → Int32) => JJ X0 G B M4_startItems 3 [some (.ref (B + o)), some (.ref (B + q)), some (.ref (B + a)), some (.int pol), some (.int (nI (6 - m))), some (.int (-7))] [] n (wL B q N S F o V P h) 0 0 (eqP none n (wL B q N S F o r.1 r.2 h))) e).mpr (ih V P (some (.int (-7))) (by omega)))
            rw [show 6 - (m + 1) + 1 = 6 - m by omega]; rfl
          | some b =>
            have hbN := (pkB_lt _ _ _ _ hb).1
            have e : sIL F N H pol (m + 1) V P = sIL F N H pol m (st1V V b) (st1P F V P b) := by rw [sIL, if_neg hs, hb]
            refine jj_zT 125 rfl rfl (fun c3 => absurd (show 0 ≤ enc (some b) ∧ enc (some b) < nI N from ⟨nI_pos' (by omega), nI_lt hbN (by omega)⟩) (of_decide_eq_false c3)) (fun c3 => ?_)
            refine jj_s (pc' := 43) rfl rfl ?_
            refine jj_s (pc' := 44) rfl rfl ?_
            refine jj_g rfl rfl (oP _ _) rfl ?_
            refine jj_s (pc' := 48) rfl rfl ?_
            refine jj_s (pc' := 50) rfl rfl ?_
            refine jj_s (pc' := 51) rfl rfl ?_
            refine jj_s (pc' := 52) rfl rfl ?_
            refine jj_s (pc' := 53) rfl rfl ?_
            refine jj_s (pc' := 54) rfl rfl ?_
            refine jj_lpt ha rfl rfl rfl ?_
            refine jj_s (pc' := 58) rfl rfl ?_
            refine jj_s (pc' := 59) rfl rfl ?_
            refine jj_g rfl rfl (oP _ _) rfl ?_
            refine jj_s (pc' := 63) rfl rfl ?_
            refine jj_s (pc' := 65) rfl rfl ?_
            refine jj_s (pc' := 66) rfl rfl ?_
            refine jj_s (pc' := 67) rfl rfl ?_
            refine jj_s (pc' := 68) rfl rfl ?_
            refine jj_s (pc' := 69) rfl rfl ?_
            refine jj_lpt ha rfl rfl rfl ?_
            refine jj_s (pc' := 73) rfl rfl ?_
            refine jj_s (pc' := 74) rfl rfl ?_
            refine jj_g rfl rfl (oP _ _) rfl ?_
            refine jj_s (pc' := 78) rfl rfl ?_
            refine jj_s (pc' := 80) rfl rfl ?_
            refine jj_s (pc' := 81) rfl rfl ?_
            refine jj_s (pc' := 82) rfl rfl ?_
            refine jj_lpt ha rfl rfl rfl ?_
            refine jj_s (pc' := 86) rfl rfl ?_
            refine jj_s (pc' := 87) rfl rfl ?_
            refine jj_g rfl rfl (oP _ _) rfl ?_
            refine jj_s (pc' := 91) rfl rfl ?_
            refine jj_s (pc' := 92) rfl rfl ?_
            refine jj_lpt ha rfl rfl rfl ?_
            refine jj_lv (lv' := [some (.ref (B + o)), some (.ref (B + q)), some (.ref (B + a)), some (.int pol), some (.int (nI (6 - (m + 1)))), some (.int (nI b))]) rfl ?_
            refine jj_s (pc' := 96) rfl rfl ?_
            refine jj_g rfl rfl (oP _ _) rfl ?_
            refine jj_s (pc' := 101) rfl rfl ?_
            refine jj_s (pc' := 102) rfl rfl ?_
            refine jj_g rfl rfl (oP _ _) rfl ?_
            refine jj_ast2 rfl (by decide) (by first | assumption | omega) (by first | assumption | omega) ?_
            refine jj_s (pc' := 107) rfl rfl ?_
            refine jj_g rfl rfl (oP _ _) rfl ?_
            refine jj_s (pc' := 112) rfl rfl ?_
            refine jj_s (pc' := 113) rfl rfl ?_
            refine jj_g rfl rfl (oP _ _) rfl ?_
            refine jj_s (pc' := 117) rfl rfl ?_
            refine jj_g rfl rfl wQ_o rfl ?_
            refine jj_s (pc' := 122) rfl rfl ?_
            refine jj_qld [] rfl rfl (by decide) (by first | assumption | omega) ?_
            refine jj_s (pc' := 124) rfl rfl ?_
            refine jj_ast2 rfl (by decide) (by first | assumption | omega) (by first | assumption | omega) ?_
            first | refine jj_inc rfl rfl ?_ | refine jj_s (pc' := 128) rfl rfl ?_
            refine jj_s (pc' := 3) rfl rfl ?_
            refine jj_lv ?_ ((congrArg (fun r : (Nat → Int32) × (Nat → Nat → Int32) => JJ X0 G B M4_startItems 3 [some (.ref (B + o)), some (.ref (B + q)), some (.ref (B + a)), some (.int pol), some (.int (nI (6 - m))), some (.int (nI b))] [] n (wL B q N S F o (st1V V b) (st1P F V P b) h) 0 0 (eqP none n (wL B q N S F o r.1 r.2 h))) e).mpr (ih (st1V V b) (st1P F V P b) (some (.int (nI b))) (by omega)))
            rw [show 6 - (m + 1) + 1 = 6 - m by omega]; rfl
  exact L 6 V P none (by omega)
def neL (P : Nat → Nat → Int32) (V : Nat → Int32) : Nat → Int32
  | 0 => V 0
  | k + 1 => if bt (V 6) k = true ∧ (neL P V k = V 0 ∨ P 1 k < neL P V k) then P 1 k else neL P V k
set_option maxHeartbeats 4000000 in
set_option maxRecDepth 100000 in
 theorem c_nextEnd {G : GC} {B n : Nat} {h : HT} {q N : Nat} {S : Nat → Int32} {F : Nat → Nat → Int32} {o : Nat} {V : Nat → Int32} {P : Nat → Nat → Int32} (hN : N ≤ 20) (ha : o + 4 ≤ q ∨ q + 14 ≤ o) : CtJ G B M4_nextEnd [.ref (B + o), .int (nI N)] n (wL B q N S F o V P h) 0 0 (eqP (some (.int (neL P V N))) n (wL B q N S F o V P h)) := by
  have oP : wL B q N S F o V P h o = some (lob B o V) := wQA_o ha
  unfold CtJ
  refine jj_lv (lv' := [some (.ref (B + o)), some (.int (nI N)), none, none]) rfl ?_
  refine jj_s (pc' := 1) rfl rfl ?_
  refine jj_g rfl rfl oP rfl ?_
  refine jj_s (pc' := 5) rfl rfl ?_
  refine jj_s (pc' := 6) rfl rfl ?_
  refine jj_s (pc' := 7) rfl rfl ?_
  have L : ∀ d k, k ≤ N → N + 1 ≤ k + d → JJ X0 G B M4_nextEnd 7 [some (.ref (B + o)), some (.int (nI N)), some (.int (neL P V k)), some (.int (nI k))] [] n (wL B q N S F o V P h) 0 0 (eqP (some (.int (neL P V N))) n (wL B q N S F o V P h)) := by
    intro d
    induction d with
    | zero => intro k h1 h2; exact absurd h2 (by omega)
    | succ d ih =>
      intro k h1 h2
      refine jj_s (pc' := 8) rfl rfl ?_
      refine jj_s (pc' := 9) rfl rfl ?_
      refine jj_geN 54 rfl rfl (by omega) (by omega) (fun c => ?_) (fun c => ?_)
      · refine jj_s (pc' := 55) rfl rfl ?_
        exact jj_iret rfl rfl ⟨by rw [show k = N by omega], rfl, rfl⟩
      · have skip : ¬ (bt (V 6) k = true ∧ (neL P V k = V 0 ∨ P 1 k < neL P V k)) → JJ X0 G B M4_nextEnd 48 [some (.ref (B + o)), some (.int (nI N)), some (.int (neL P V k)), some (.int (nI k))] [] n (wL B q N S F o V P h) 0 0 (eqP (some (.int (neL P V N))) n (wL B q N S F o V P h)) := by
          intro hs
          have e : neL P V (k + 1) = neL P V k := by rw [neL, if_neg hs]
          first | refine jj_inc rfl rfl ?_ | refine jj_s (pc' := 51) rfl rfl ?_
          refine jj_s (pc' := 7) rfl rfl ?_
          exact jj_lv (by rw [e]; rfl) (ih (k + 1) (by omega) (by omega))
        have take : bt (V 6) k = true ∧ (neL P V k = V 0 ∨ P 1 k < neL P V k) → JJ X0 G B M4_nextEnd 41 [some (.ref (B + o)), some (.int (nI N)), some (.int (neL P V k)), some (.int (nI k))] [] n (wL B q N S F o V P h) 0 0 (eqP (some (.int (neL P V N))) n (wL B q N S F o V P h)) := by
          intro hs
          have e : neL P V (k + 1) = P 1 k := by rw [neL, if_pos hs]
          refine jj_s (pc' := 42) rfl rfl ?_
          refine jj_g rfl rfl oP rfl ?_
          refine jj_s (pc' := 46) rfl rfl ?_
          refine jj_ald2 rfl (by decide) (by first | assumption | omega) (by first | assumption | omega) ?_
          refine jj_s (pc' := 48) rfl rfl ?_
          first | refine jj_inc rfl rfl ?_ | refine jj_s (pc' := 51) rfl rfl ?_
          refine jj_s (pc' := 7) rfl rfl ?_
          exact jj_lv (by rw [e]; rfl) (ih (k + 1) (by omega) (by omega))
        refine jj_s (pc' := 13) rfl rfl ?_
        refine jj_g rfl rfl oP rfl ?_
        refine jj_s (pc' := 17) rfl rfl ?_
        refine jj_t2 rfl rfl rfl rfl rfl (c_has (by omega)) ?_
        refine jj_zT 48 rfl rfl (fun c2 => ?_) (fun c2 => ?_)
        · exact skip (fun z => by rw [c2] at z; cases z.1)
        · refine jj_s (pc' := 24) rfl rfl ?_
          refine jj_s (pc' := 25) rfl rfl ?_
          refine jj_g rfl rfl oP rfl ?_
          refine jj_icmp_eq 41 rfl rfl (fun c3 => ?_) (fun c3 => ?_)
          · exact take ⟨c2, Or.inl c3⟩
          · refine jj_s (pc' := 32) rfl rfl ?_
            refine jj_g rfl rfl oP rfl ?_
            refine jj_s (pc' := 36) rfl rfl ?_
            refine jj_ald2 rfl (by decide) (by first | assumption | omega) (by first | assumption | omega) ?_
            refine jj_s (pc' := 38) rfl rfl ?_
            refine jj_icmp_ge 48 rfl rfl (fun c4 => ?_) (fun c4 => ?_)
            · exact skip (fun z => z.2.elim c3 (Int32.not_lt.mpr c4))
            · exact take ⟨c2, Or.inr (Int32.not_le.mp c4)⟩
  exact L (N + 1) 0 (by omega) (by omega)
/-- one time of the plan -/
def mk1 (F : Nat → Nat → Int32) (N : Nat) (H : Nat → Int32) (pol : Int32) (V : Nat → Int32) (P : Nat → Nat → Int32) : (Nat → Int32) × (Nat → Nat → Int32) :=
  let a := fsS F N (ec P V N) P
  let b := sIL F N H pol 6 a.1 a.2
  (upd b.1 0 (neL b.2 b.1 N), b.2)
def mkL (F : Nat → Nat → Int32) (N : Nat) (H : Nat → Int32) (pol : Int32) : Nat → (Nat → Int32) → (Nat → Nat → Int32) → (Nat → Int32) × (Nat → Nat → Int32)
  | 0, V, P => (V, P)
  | m + 1, V, P => if V 4 ||| V 6 = 0 then (V, P) else mkL F N H pol m (mk1 F N H pol V P).1 (mk1 F N H pol V P).2
def une (F : Nat → Nat → Int32) (N : Nat) : Int32 := msk (fun i => decide (F 5 i = 0)) N ||| msk (fun i => decide (F 5 i = 1)) N ||| msk (fun i => decide (F 5 i = 2)) N
def mkV (F : Nat → Nat → Int32) (N : Nat) (w : Int32) (V : Nat → Int32) : Nat → Int32 := upd (upd (upd (upd (upd V 4 (une F N)) 5 0) 6 0) 7 w) 0 0
set_option maxHeartbeats 4000000 in
set_option maxRecDepth 100000 in
 theorem c_make {G : GC} {B n : Nat} {h : HT} {q N : Nat} {S : Nat → Int32} {F : Nat → Nat → Int32} {o a : Nat} {V : Nat → Int32} {P : Nat → Nat → Int32} {H : Nat → Int32} (hN : N ≤ 20) (ha : o + 4 ≤ q ∨ q + 14 ≤ o) (hH : h a = some (ia 20 H)) (ha1 : a < q ∨ q + 14 ≤ a) (ha2 : a < o ∨ o + 4 ≤ a) (w pol : Int32) : CtJ G B M4_make [.ref (B + o), .ref (B + q), .ref (B + a), .int w, .int pol] n (wL B q N S F o V P h) 0 0 (eqP none n (wL B q N S F o (mkL F N H pol 21 (mkV F N w V) P).1 (mkL F N H pol 21 (mkV F N w V) P).2 h)) := by
  have oP : ∀ V P, wL B q N S F o V P h o = some (lob B o V) := fun V P => wQA_o ha
  unfold CtJ
  refine jj_lv (lv' := [some (.ref (B + o)), some (.ref (B + q)), some (.ref (B + a)), some (.int w), some (.int pol), none]) rfl ?_
  refine jj_s (pc' := 1) rfl rfl ?_
  refine jj_s (pc' := 2) rfl rfl ?_
  refine jj_v0 rfl rfl rfl wQ_o rfl rfl (c_unendedSet hN) ?_
  refine jj_lpt ha rfl rfl rfl ?_
  refine jj_s (pc' := 9) rfl rfl ?_
  refine jj_s (pc' := 10) rfl rfl ?_
  refine jj_lpt ha rfl rfl rfl ?_
  refine jj_s (pc' := 14) rfl rfl ?_
  refine jj_s (pc' := 15) rfl rfl ?_
  refine jj_lpt ha rfl rfl rfl ?_
  refine jj_s (pc' := 19) rfl rfl ?_
  refine jj_s (pc' := 20) rfl rfl ?_
  refine jj_lpt ha rfl rfl rfl ?_
  refine jj_s (pc' := 24) rfl rfl ?_
  refine jj_s (pc' := 25) rfl rfl ?_
  refine jj_lpt ha rfl rfl rfl ?_
  refine jj_s (pc' := 29) rfl rfl ?_
  refine jj_s (pc' := 31) rfl rfl ?_
  refine jj_h (h' := wL B q N S F o (mkV F N w V) P h) rfl ?_
  generalize mkV F N w V = V
  have L : ∀ m (V : Nat → Int32) (P : Nat → Nat → Int32), m ≤ 21 → JJ X0 G B M4_make 31 [some (.ref (B + o)), some (.ref (B + q)), some (.ref (B + a)), some (.int w), some (.int pol), some (.int (nI (21 - m)))] [] n (wL B q N S F o V P h) 0 0 (eqP none n (wL B q N S F o (mkL F N H pol m V P).1 (mkL F N H pol m V P).2 h)) := by
    intro m
    induction m with
    | zero =>
      intro V P h0
      refine jj_s (pc' := 33) rfl rfl ?_
      refine jj_s (pc' := 35) rfl rfl ?_
      refine jj_icmp_gt 89 rfl rfl (fun c => ?_) (fun c => absurd (by decide) c)
      exact jj_vret rfl rfl ⟨rfl, rfl, rfl⟩
    | succ m ih =>
      intro V P h0
      refine jj_s (pc' := 33) rfl rfl ?_
      refine jj_s (pc' := 35) rfl rfl ?_
      refine jj_icmp_gt 89 rfl rfl (fun c => absurd ((nI_ltI (a := 20) (b := 21 - (m + 1)) (by omega) (by omega)).mp c) (by omega)) (fun c => ?_)
      refine jj_s (pc' := 39) rfl rfl ?_
      refine jj_g rfl rfl (oP _ _) rfl ?_
      refine jj_s (pc' := 43) rfl rfl ?_
      refine jj_g rfl rfl (oP _ _) rfl ?_
      refine jj_s (pc' := 47) rfl rfl ?_
      refine jj_if_eq 89 rfl rfl (fun c1 => ?_) (fun c1 => ?_)
      · exact jj_vret rfl rfl ⟨rfl, rfl, by rw [mkL, if_pos c1]⟩
      · have e : mkL F N H pol (m + 1) V P = mkL F N H pol m (mk1 F N H pol V P).1 (mk1 F N H pol V P).2 := by rw [mkL, if_neg c1]
        refine jj_s (pc' := 51) rfl rfl ?_
        refine jj_s (pc' := 52) rfl rfl ?_
        refine jj_g rfl rfl wQ_o rfl ?_
        refine jj_w1 rfl rfl rfl (oP _ _) rfl rfl (c_endCompleted hN ha) ?_
        refine jj_s (pc' := 59) rfl rfl ?_
        refine jj_s (pc' := 60) rfl rfl ?_
        refine jj_w1 rfl rfl rfl (oP _ _) rfl rfl (c_findStartable hN ha) ?_
        refine jj_s (pc' := 64) rfl rfl ?_
        refine jj_s (pc' := 65) rfl rfl ?_
        refine jj_s (pc' := 66) rfl rfl ?_
        refine jj_s (pc' := 68) rfl rfl ?_
        refine jj_w3 rfl rfl rfl (oP _ _) rfl rfl (c_startItems hN ha hH ha1 ha2 pol) ?_
        refine jj_s (pc' := 72) rfl rfl ?_
        refine jj_s (pc' := 73) rfl rfl ?_
        refine jj_s (pc' := 74) rfl rfl ?_
        refine jj_g rfl rfl wQ_o rfl ?_
        refine jj_v1 rfl rfl rfl (oP _ _) rfl rfl (c_nextEnd hN ha) ?_
        refine jj_lpt ha rfl rfl rfl ?_
        first | refine jj_inc rfl rfl ?_ | refine jj_s (pc' := 86) rfl rfl ?_
        refine jj_s (pc' := 31) rfl rfl ?_
        rw [e]
        refine jj_lv ?_ (ih (mk1 F N H pol V P).1 (mk1 F N H pol V P).2 (by omega))
        rw [show 21 - (m + 1) + 1 = 21 - m by omega]; rfl
  exact L 21 V P (by omega)
end
section
/-! cells that are alike: the same below their length -/
def smE (e e' : AE) : Prop := e = e' ∨ (∃ (n : Nat) (f f' : Nat → Int32), e = ia n f ∧ e' = ia n f' ∧ ∀ j, j < n → f j = f' j) ∨ ∃ (n : Nat) (f f' : Nat → Int64), e = la n f ∧ e' = la n f' ∧ ∀ j, j < n → f j = f' j
def smH (h h' : HT) : Prop := ∀ k, h k = h' k ∨ ∃ e e', h k = some e ∧ h' k = some e' ∧ smE e e'
theorem arrV_ext {c : ClassId} {n : Nat} {f f' : Nat → Value} (h : ∀ j, j < n → f j = f' j) : arrV c n f = arrV c n f' := by
  unfold arrV
  congr 1
  apply Array.ext
  · simp
  · intro i h1 h2
    simp at h1
    simp [h i h1]
theorem smE_at {G : GC} {e e' : AE} (hs : smE e e') {a : Nat} {H : Heap} (h : va_at G.1 clG (a, cvE G e) H) : va_at G.1 clG (a, cvE G e') H := by
  rcases hs with rfl | ⟨n, f, f', rfl, rfl, hf⟩ | ⟨n, f, f', rfl, rfl, hf⟩
  · exact h
  · have h1 : H[a]? = some (vp_cell G.2.1 (n, .inl f)) := h
    show H[a]? = some (vp_cell G.2.1 (n, .inl f'))
    rw [h1, vp_cell_i, vp_cell_i, arrV_ext (fun j hj => by rw [hf j hj])]
  · have h1 : H[a]? = some (vp_cell G.2.2.1 (n, .inr (.inl f))) := h
    show H[a]? = some (vp_cell G.2.2.1 (n, .inr (.inl f')))
    rw [h1, vp_cell_l, vp_cell_l, arrV_ext (fun j hj => by rw [hf j hj])]
theorem smH_pic {G : GC} {B n : Nat} {h h' : HT} (hs : smH h h') {H : Heap} (p : PicJ G B n h H) : PicJ G B n h' H := by
  obtain ⟨p1, p2, p3⟩ := p
  have hn : ∀ k, h' k = none ↔ h k = none := by
    intro k
    rcases hs k with e | ⟨e, e', g1, g2, -⟩
    · rw [e]
    · rw [g1, g2]; simp
  refine ⟨?_, p2, fun k => (hn k).trans (p3 k)⟩
  intro k q hq
  unfold wd at hq
  rw [List.getElem?_map] at hq
  cases h1 : (List.range n)[k]? with
  | none => rw [h1] at hq; cases hq
  | some a =>
    rw [h1] at hq
    have ha : a = k := by
      obtain ⟨_, g⟩ := List.getElem?_eq_some_iff.mp h1
      rw [← g, List.getElem_range]
    subst ha
    have han : a < n := by
      have := (List.getElem?_eq_some_iff.mp h1).1
      simpa using this
    have hq : (B + a, cvE G ((h' a).getD (.inr (0, [])))) = q := Option.some.inj hq
    subst hq
    cases hh : h a with
    | none => exact absurd ((p3 a).mp hh) (by omega)
    | some e =>
      have g := p1 a _ (wd_get (G := G) (B := B) han hh)
      rcases hs a with e1 | ⟨e1, e2, g1, g2, g3⟩
      · rw [← e1, hh]; exact g
      · rw [hh] at g1
        cases g1
        rw [g2]
        exact smE_at g3 g
theorem jj_sm {X : State → Prop} {G : GC} {B : Nat} {y : MT} {pc : Nat} {lv : List (Option Value)} {st : List Value} {n : Nat} {h h' : HT} {kc ks : Nat} {post : Option Value → Nat → HT → Prop} (hs : smH h h') (K : JJ X G B y pc lv st n h' kc ks post) : JJ X G B y pc lv st n h kc ks post := by
  intro p l e R s m args below meth c H locs cells slots ls mc ms C P S L k1 k2 k3 k4
  exact K p l e R s m args below meth c H locs cells slots ls mc ms C (smH_pic hs P) S L k1 k2 k3 k4
theorem smH_A {o m : Nat} {obj : AE} {P P' : Nat → Nat → Int32} {h : HT} (hp : ∀ j, j < m → ∀ i, i < 20 → P j i = P' j i) : smH (wA o m obj P h) (wA o m obj P' h) := by
  intro k
  unfold wA
  split
  next => exact Or.inl rfl
  next =>
    split
    next h2 => exact Or.inr ⟨_, _, rfl, rfl, Or.inr (Or.inl ⟨20, _, _, rfl, rfl, fun j hj => hp _ (by omega) j hj⟩)⟩
    next => exact Or.inl rfl
/-! ChainCover -/
abbrev cob (B o : Nat) : AE := ob 1 [.ref (B + (o + 1)), .ref (B + (o + 2)), .ref (B + (o + 3))]
def CP (nx pv : Nat → Option Nat) (O : Nat → Int32) : Nat → Nat → Int32 := fun j => if j = 0 then fun i => enc (nx i) else if j = 1 then fun i => enc (pv i) else if j = 2 then O else fun _ => 0
theorem CP_0 {nx pv : Nat → Option Nat} {O : Nat → Int32} {i : Nat} {v : Option Nat} : uF (CP nx pv O) 0 i (enc v) = CP (va_up nx i v) pv O := by
  funext a k
  rw [uF_at]
  unfold CP va_up
  by_cases h0 : a = 0
  · subst h0
    by_cases hk : k = i
    · subst hk; simp
    · simp [hk]
  · simp [h0]
theorem CP_1 {nx pv : Nat → Option Nat} {O : Nat → Int32} {i : Nat} {v : Option Nat} : uF (CP nx pv O) 1 i (enc v) = CP nx (va_up pv i v) O := by
  funext a k
  rw [uF_at]
  unfold CP va_up
  by_cases h0 : a = 1
  · subst h0
    by_cases hk : k = i
    · subst hk; simp
    · simp [hk]
  · by_cases h1 : a = 0 <;> simp [h0, h1]
theorem CP_2 {nx pv : Nat → Option Nat} {O : Nat → Int32} {i : Nat} {x : Int32} : uF (CP nx pv O) 2 i x = CP nx pv (upd O i x) := by
  funext a k
  rw [uF_at]
  unfold CP
  by_cases h0 : a = 0
  · simp [h0]
  · by_cases h1 : a = 1
    · simp [h1]
    · by_cases h2 : a = 2
      · subst h2
        by_cases hk : k = i
        · subst hk; simp [upd]
        · simp [hk, upd]
      · simp [h0, h1, h2]
/-- the lowest of a set -/
def lo (s : Int32) : Option Nat := if fdF (bt s) 20 0 < 20 then some (fdF (bt s) 20 0) else none
theorem lo_some {s : Int32} {j : Nat} (h : lo s = some j) : j < 20 ∧ bt s j = true := by
  unfold lo at h
  split at h
  next hlt => cases h; exact ⟨hlt, fdF_yes _ 20 0 (by omega)⟩
  next => cases h
theorem lo_none {s : Int32} (h : lo s = none) : ∀ j, j < 20 → bt s j = false := by
  intro j hj
  unfold lo at h
  split at h
  next => cases h
  next hlt => exact fdF_no (bt s) 20 0 j (by omega) (by omega)
set_option maxHeartbeats 4000000 in
set_option maxRecDepth 100000 in
 theorem c_lowestOf {G : GC} {B n : Nat} {h : HT} (s : Int32) : CtJ G B M1_lowestOf [.int s] n h 0 0 (eqP (some (.int (enc (lo s)))) n h) := by
  unfold CtJ
  refine jj_lv (lv' := [some (.int s), none]) rfl ?_
  refine jj_s (pc' := 1) rfl rfl ?_
  refine jj_s (pc' := 2) rfl rfl ?_
  have L : ∀ d k, k + d = 20 → fdF (bt s) 20 0 = fdF (bt s) d k → JJ X0 G B M1_lowestOf 2 [some (.int s), some (.int (nI k))] [] n h 0 0 (eqP (some (.int (enc (lo s)))) n h) := by
    intro d
    induction d with
    | zero =>
      intro k h1 h2
      have hk : k = 20 := by omega
      subst hk
      refine jj_s (pc' := 3) rfl rfl ?_
      refine jj_s (pc' := 5) rfl rfl ?_
      refine jj_icmp_ge 24 rfl rfl (fun c => ?_) (fun c => absurd (by decide) c)
      refine jj_s (pc' := 26) rfl rfl ?_
      have e : lo s = none := by unfold lo; rw [h2, fdF, if_neg (by omega)]
      exact jj_iret rfl rfl ⟨by rw [e]; rfl, rfl, rfl⟩
    | succ d ih =>
      intro k h1 h2
      refine jj_s (pc' := 3) rfl rfl ?_
      refine jj_s (pc' := 5) rfl rfl ?_
      refine jj_geN (b := 20) 24 rfl rfl (by omega) (by omega) (fun c => absurd c (by omega)) (fun c => ?_)
      refine jj_s (pc' := 9) rfl rfl ?_
      refine jj_s (pc' := 10) rfl rfl ?_
      refine jj_t2 rfl rfl rfl rfl rfl (c_has (by omega)) ?_
      refine jj_zT 18 rfl rfl (fun c2 => ?_) (fun c2 => ?_)
      · first | refine jj_inc rfl rfl ?_ | refine jj_s (pc' := 21) rfl rfl ?_
        refine jj_s (pc' := 2) rfl rfl ?_
        exact ih (k + 1) (by omega) (by rw [h2, fdF, if_neg (by rw [c2]; decide)])
      · refine jj_s (pc' := 17) rfl rfl ?_
        have e : lo s = some k := by unfold lo; rw [h2, fdF, if_pos c2, if_pos (by omega)]
        exact jj_iret rfl rfl ⟨by rw [e]; rfl, rfl, rfl⟩
  exact L 20 0 (by omega) rfl
/-- pairing along the way -/
def pa (og : Nat → Nat) : Nat → Option Nat → (Nat → Option Nat) → (Nat → Option Nat) → (Nat → Option Nat) × (Nat → Option Nat)
  | 0, _, nx, pv => (nx, pv)
  | _ + 1, none, nx, pv => (nx, pv)
  | m + 1, some i, nx, pv => pa og m (nx (og i)) (va_up nx (og i) (some i)) (va_up pv i (some (og i)))
set_option maxHeartbeats 4000000 in
set_option maxRecDepth 100000 in
 theorem c_pairAlong {G : GC} {B n : Nat} {h : HT} {o : Nat} {nx pv : Nat → Option Nat} {O : Nat → Int32} (og : Nat → Nat) (R : Nat → Prop) (hR : ∀ i, R i → i < 20 ∧ O i = nI (og i) ∧ og i < 20) (hn : ∀ i, R i → ∀ j, nx (og i) = some j → R j) {l : Nat} (hl : R l) : CtJ G B M1_pairAlong [.ref (B + o), .int (nI l)] n (wA o 3 (cob B o) (CP nx pv O) h) 0 0 (eqP none n (wA o 3 (cob B o) (CP (pa og 20 (some l) nx pv).1 (pa og 20 (some l) nx pv).2 O) h)) := by
  unfold CtJ
  refine jj_lv (lv' := [some (.ref (B + o)), some (.int (nI l)), none, none, none, none]) rfl ?_
  refine jj_s (pc' := 1) rfl rfl ?_
  refine jj_s (pc' := 2) rfl rfl ?_
  refine jj_s (pc' := 3) rfl rfl ?_
  refine jj_s (pc' := 4) rfl rfl ?_
  have L : ∀ m (t : Option Nat) (nx pv : Nat → Option Nat) z1 z2, m ≤ 20 → (∀ i, t = some i → R i) → (∀ i, R i → ∀ j, nx (og i) = some j → R j) → JJ X0 G B M1_pairAlong 4 [some (.ref (B + o)), some (.int (nI l)), some (.int (enc t)), some (.int (nI (20 - m))), z1, z2] [] n (wA o 3 (cob B o) (CP nx pv O) h) 0 0 (eqP none n (wA o 3 (cob B o) (CP (pa og m t nx pv).1 (pa og m t nx pv).2 O) h)) := by
    intro m
    induction m with
    | zero =>
      intro t nx pv z1 z2 h0 ht hn
      refine jj_s (pc' := 5) rfl rfl ?_
      refine jj_s (pc' := 7) rfl rfl ?_
      refine jj_icmp_ge 58 rfl rfl (fun c => ?_) (fun c => absurd (by decide) c)
      exact jj_vret rfl rfl ⟨rfl, rfl, rfl⟩
    | succ m ih =>
      intro t nx pv z1 z2 h0 ht hn
      refine jj_s (pc' := 5) rfl rfl ?_
      refine jj_s (pc' := 7) rfl rfl ?_
      refine jj_geN (b := 20) 58 rfl rfl (by omega) (by omega) (fun c => absurd c (by omega)) (fun c => ?_)
      cases t with
      | none =>
        refine jj_s (pc' := 11) rfl rfl ?_
        refine jj_s (pc' := 13) rfl rfl ?_
        refine jj_icmp_eq 58 rfl rfl (fun c2 => ?_) (fun c2 => absurd rfl c2)
        exact jj_vret rfl rfl ⟨rfl, rfl, rfl⟩
      | some i =>
        obtain ⟨r1, r2, r3⟩ := hR i (ht i rfl)
        refine jj_lv (lv' := [some (.ref (B + o)), some (.int (nI l)), some (.int (nI i)), some (.int (nI (20 - (m + 1)))), z1, z2]) rfl ?_
        refine jj_s (pc' := 11) rfl rfl ?_
        refine jj_s (pc' := 13) rfl rfl ?_
        refine jj_icmp_eq 58 rfl rfl (fun c2 => absurd c2 (enc_ne (by omega))) (fun c2 => ?_)
        refine jj_s (pc' := 17) rfl rfl ?_
        refine jj_g rfl rfl wA_o rfl ?_
        refine jj_s (pc' := 21) rfl rfl ?_
        refine jj_ald1 rfl (by decide) (by first | assumption | omega) ?_
        refine jj_s (pc' := 24) rfl rfl ?_
        refine jj_lv (lv' := [some (.ref (B + o)), some (.int (nI l)), some (.int (nI i)), some (.int (nI (20 - (m + 1)))), some (.int (nI (og i))), z2]) (by rw [← r2]; rfl) ?_
        refine jj_s (pc' := 25) rfl rfl ?_
        refine jj_g rfl rfl wA_o rfl ?_
        refine jj_s (pc' := 30) rfl rfl ?_
        refine jj_ald1 rfl (by decide) (by first | assumption | omega) ?_
        refine jj_s (pc' := 33) rfl rfl ?_
        refine jj_lv (lv' := [some (.ref (B + o)), some (.int (nI l)), some (.int (nI i)), some (.int (nI (20 - (m + 1)))), some (.int (nI (og i))), some (.int (enc (nx (og i))))]) rfl ?_
        refine jj_s (pc' := 34) rfl rfl ?_
        refine jj_g rfl rfl wA_o rfl ?_
        refine jj_s (pc' := 39) rfl rfl ?_
        refine jj_s (pc' := 40) rfl rfl ?_
        refine jj_ast1 rfl (by decide) (by first | assumption | omega) ?_
        refine jj_h (h' := wA o 3 (cob B o) (CP (va_up nx (og i) (some i)) pv O) h) (by rw [← CP_0]; rfl) ?_
        refine jj_s (pc' := 42) rfl rfl ?_
        refine jj_g rfl rfl wA_o rfl ?_
        refine jj_s (pc' := 46) rfl rfl ?_
        refine jj_s (pc' := 48) rfl rfl ?_
        refine jj_ast1 rfl (by decide) (by first | assumption | omega) ?_
        refine jj_h (h' := wA o 3 (cob B o) (CP (va_up nx (og i) (some i)) (va_up pv i (some (og i))) O) h) (by rw [← CP_1]; rfl) ?_
        refine jj_s (pc' := 51) rfl rfl ?_
        refine jj_s (pc' := 52) rfl rfl ?_
        first | refine jj_inc rfl rfl ?_ | refine jj_s (pc' := 55) rfl rfl ?_
        refine jj_s (pc' := 4) rfl rfl ?_
        refine jj_lv ?_ (ih (nx (og i)) (va_up nx (og i) (some i)) (va_up pv i (some (og i))) (some (.int (nI (og i)))) (some (.int (enc (nx (og i))))) (by omega) (fun j hj => hn i (ht i rfl) j hj) (fun a ha j hj => ?_))
        · rw [show 20 - (m + 1) + 1 = 20 - m by omega]; rfl
        · unfold va_up at hj
          split at hj
          next => cases hj; exact ht _ rfl
          next => exact hn a ha j hj
  exact L 20 (some l) nx pv none none (by omega) (fun i hi => by cases hi; exact hl) hn
/-- one turn of the search: the items from k on, d of them -/
def fnI (bf : Nat → Int32) (pv : Nat → Option Nat) (sk : Int32) : Nat → Nat → Int32 → Int32 → (Nat → Int32) → ((Int32 × Int32 × (Nat → Int32)) ⊕ (Nat × Int32 × (Nat → Int32)))
  | 0, _, u, rb, O => .inl (u, rb, O)
  | d + 1, k, u, rb, O => match (if bt u k = true then lo (sk &&& bf k) else none) with
    | none => fnI bf pv sk d (k + 1) u rb O
    | some s => match pv k with
      | none => .inr (k, u &&& (bit k ^^^ -1), upd O k (nI s))
      | some p => fnI bf pv sk d (k + 1) (u &&& (bit k ^^^ -1)) (rb ||| bit p) (upd O k (nI s))
/-- the search: where it ends (if it finds one), what is unreached then, the origins -/
def fnC (r : (Int32 × Int32 × (Nat → Int32)) ⊕ (Nat × Int32 × (Nat → Int32))) (g : Int32 → Int32 → (Nat → Int32) → (Option Nat × Int32 × (Nat → Int32))) : Option Nat × Int32 × (Nat → Int32) := match r with
  | .inl (u', rb, O') => g u' rb O'
  | .inr (k, u', O') => (some k, u', O')
def fnO (bf : Nat → Int32) (pv : Nat → Option Nat) : Nat → Int32 → Int32 → (Nat → Int32) → (Option Nat × Int32 × (Nat → Int32))
  | 0, u, _, O => (none, u, O)
  | m + 1, u, sk, O => if sk = 0 then (none, u, O) else fnC (fnI bf pv sk 20 0 u 0 O) (fun u' rb O' => fnO bf pv m u' rb O')
abbrev fnG (bf : Nat → Int32) (pv : Nat → Option Nat) (m : Nat) (r : (Int32 × Int32 × (Nat → Int32)) ⊕ (Nat × Int32 × (Nat → Int32))) : Option Nat × Int32 × (Nat → Int32) := fnC r (fun u' rb O' => fnO bf pv m u' rb O')
/-- reached ones have an origin that is the first, or was robbed -/
def rch (op u : Int32) (j : Nat) : Prop := j < 20 ∧ bt op j = true ∧ bt u j = false
def okO (f : Nat) (op : Int32) (pv : Nat → Option Nat) (u : Int32) (O : Nat → Int32) : Prop := ∀ i, rch op u i → ∃ s, s < 20 ∧ O i = nI s ∧ (s = f ∨ ∃ j, rch op u j ∧ pv j = some s)
def okS (f : Nat) (op : Int32) (pv : Nat → Option Nat) (u sk : Int32) : Prop := ∀ s, bt sk s = true → s < 20 → (s = f ∨ ∃ j, rch op u j ∧ pv j = some s)
theorem rch_less {op u : Int32} {k : Nat} (hk : k < 20) {j : Nat} (h : rch op u j) : rch op (u &&& (bit k ^^^ -1)) j := ⟨h.1, h.2.1, by rw [b_drop (by omega), h.2.2]; rfl⟩
theorem okO_step {f : Nat} {op : Int32} {pv : Nat → Option Nat} {u sk : Int32} {O : Nat → Int32} {k s : Nat} (hk : k < 20) (hs20 : s < 20) (hO : okO f op pv u O) (hS : okS f op pv u sk) (hu : bt u k = true) (hs : bt sk s = true) : okO f op pv (u &&& (bit k ^^^ -1)) (upd O k (nI s)) := by
  intro i hi
  have up : ∀ {s : Nat}, (s = f ∨ ∃ j, rch op u j ∧ pv j = some s) → (s = f ∨ ∃ j, rch op (u &&& (bit k ^^^ -1)) j ∧ pv j = some s) := fun h => h.elim Or.inl (fun ⟨j, h1, h2⟩ => Or.inr ⟨j, rch_less hk h1, h2⟩)
  by_cases e : i = k
  · subst e
    exact ⟨s, hs20, pk_us, up (hS s hs hs20)⟩
  · obtain ⟨h1, h2, h3⟩ := hi
    rw [b_drop (by omega)] at h3
    have h3 : bt u i = false := by simpa [e] using h3
    obtain ⟨s', g1, g2, g3⟩ := hO i ⟨h1, h2, h3⟩
    exact ⟨s', g1, by rw [pk_un e]; exact g2, up g3⟩
theorem okS_less {f : Nat} {op : Int32} {pv : Nat → Option Nat} {u sk : Int32} {k : Nat} (hk : k < 20) (hS : okS f op pv u sk) : okS f op pv (u &&& (bit k ^^^ -1)) sk := fun s h1 h2 => (hS s h1 h2).elim Or.inl (fun ⟨j, g1, g2⟩ => Or.inr ⟨j, rch_less hk g1, g2⟩)
theorem okS_put {f : Nat} {op : Int32} {pv : Nat → Option Nat} {u rb : Int32} {k p : Nat} (hk : k < 20) (hp : p < 20) (ho : bt op k = true) (hpv : pv k = some p) (hS : okS f op pv u rb) : okS f op pv (u &&& (bit k ^^^ -1)) (rb ||| bit p) := by
  intro s h1 h2
  rw [b_put (by omega)] at h1
  by_cases e : s = p
  · subst e
    exact Or.inr ⟨k, ⟨hk, ho, by rw [b_drop (by omega)]; simp⟩, hpv⟩
  · exact okS_less hk hS s (by simpa [e] using h1) h2
/-- what the pairing needs, at the end of the search -/
theorem okO_pair {f : Nat} {op : Int32} {nx pv : Nat → Option Nat} {u : Int32} {O : Nat → Int32} (hO : okO f op pv u O) (hm : ∀ p j, pv j = some p → nx p = some j) (hf : nx f = none) : (∀ i, rch op u i → i < 20 ∧ O i = nI ((O i).toNatClampNeg) ∧ (O i).toNatClampNeg < 20) ∧ ∀ i, rch op u i → ∀ j, nx ((O i).toNatClampNeg) = some j → rch op u j := by
  refine ⟨fun i hi => ?_, fun i hi j hj => ?_⟩
  · obtain ⟨s, h1, h2, -⟩ := hO i hi
    rw [h2, nI_clamp (by omega)]
    exact ⟨hi.1, rfl, h1⟩
  · obtain ⟨s, h1, h2, h3⟩ := hO i hi
    rw [h2, nI_clamp (by omega)] at hj
    rcases h3 with rfl | ⟨j', g1, g2⟩
    · rw [hf] at hj; cases hj
    · have := hm s j' g2
      rw [this] at hj
      cases hj
      exact g1
/-- behind the search: the pairs and the origins -/
def fnF (nx pv : Nat → Option Nat) (r : Option Nat × Int32 × (Nat → Int32)) : (Nat → Option Nat) × (Nat → Option Nat) × (Nat → Int32) × Bool := match r with
  | (none, _, O') => (nx, pv, O', false)
  | (some k, _, O') => ((pa (fun i => (O' i).toNatClampNeg) 20 (some k) nx pv).1, (pa (fun i => (O' i).toNatClampNeg) 20 (some k) nx pv).2, O', true)
def fnE (bf : Nat → Int32) (nx pv : Nat → Option Nat) (O : Nat → Int32) (f : Nat) (op : Int32) : (Nat → Option Nat) × (Nat → Option Nat) × (Nat → Int32) × Bool := fnF nx pv (fnO bf pv 20 op (bit f) O)
set_option maxHeartbeats 4000000 in
set_option maxRecDepth 100000 in
 theorem c_findNext {G : GC} {B n : Nat} {h : HT} {o a : Nat} {nx pv : Nat → Option Nat} {O : Nat → Int32} {bf : Nat → Int32} (hb : h a = some (ia 20 bf)) (ha : a < o ∨ o + 4 ≤ a) (hp20 : ∀ j p, pv j = some p → p < 20) (hm : ∀ p j, pv j = some p → nx p = some j) {f : Nat} (hf20 : f < 20) (hf : nx f = none) (op : Int32) : CtJ G B M1_findNext [.ref (B + o), .int (nI f), .int op, .ref (B + a)] n (wA o 3 (cob B o) (CP nx pv O) h) 0 0 (eqP (some (.int (bI (fnE bf nx pv O f op).2.2.2))) n (wA o 3 (cob B o) (CP (fnE bf nx pv O f op).1 (fnE bf nx pv O f op).2.1 (fnE bf nx pv O f op).2.2.1) h)) := by
  have hbb : ∀ O, wA o 3 (cob B o) (CP nx pv O) h a = some (ia 20 bf) := fun O => (wA_n (by omega)).trans hb
  unfold CtJ
  refine jj_lv (lv' := [some (.ref (B + o)), some (.int (nI f)), some (.int op), some (.ref (B + a)), none, none, none, none, none, none]) rfl ?_
  refine jj_s (pc' := 1) rfl rfl ?_
  refine jj_s (pc' := 3) rfl rfl ?_
  refine jj_s (pc' := 4) rfl rfl ?_
  refine jj_s (pc' := 5) rfl rfl ?_
  refine jj_s (pc' := 6) rfl rfl ?_
  refine jj_s (pc' := 8) rfl rfl ?_
  refine jj_s (pc' := 9) rfl rfl ?_
  refine jj_s (pc' := 11) rfl rfl ?_
  refine jj_lv (lv' := [some (.ref (B + o)), some (.int (nI f)), some (.int op), some (.ref (B + a)), some (.int op), some (.int (bit f)), some (.int (nI (20 - 20))), none, none, none]) rfl ?_
  have L : ∀ m u sk O z1 z2 z3, m ≤ 20 → okO f op pv u O → okS f op pv u sk → (∀ j, bt u j = true → bt op j = true) → ∀ E : (Nat → Option Nat) × (Nat → Option Nat) × (Nat → Int32) × Bool, E = fnF nx pv (fnO bf pv m u sk O) → JJ X0 G B M1_findNext 11 [some (.ref (B + o)), some (.int (nI f)), some (.int op), some (.ref (B + a)), some (.int u), some (.int sk), some (.int (nI (20 - m))), z1, z2, z3] [] n (wA o 3 (cob B o) (CP nx pv O) h) 0 0 (eqP (some (.int (bI E.2.2.2))) n (wA o 3 (cob B o) (CP E.1 E.2.1 E.2.2.1) h)) := by
    intro m
    induction m with
    | zero =>
      intro u sk O z1 z2 z3 h0 hO hS hu E hE
      refine jj_s (pc' := 13) rfl rfl ?_
      refine jj_s (pc' := 15) rfl rfl ?_
      refine jj_icmp_ge 140 rfl rfl (fun c => ?_) (fun c => absurd (by decide) c)
      refine jj_s (pc' := 141) rfl rfl ?_
      exact jj_zret rfl rfl (Or.inl rfl) ⟨by rw [hE]; rfl, rfl, by rw [hE]; rfl⟩
    | succ m ihm =>
      intro u sk O z1 z2 z3 h0 hO hS hu E hE
      refine jj_s (pc' := 13) rfl rfl ?_
      refine jj_s (pc' := 15) rfl rfl ?_
      refine jj_geN (b := 20) 140 rfl rfl (by omega) (by omega) (fun c => absurd c (by omega)) (fun c => ?_)
      refine jj_s (pc' := 20) rfl rfl ?_
      refine jj_if_eq 140 rfl rfl (fun c1 => ?_) (fun c1 => ?_)
      · refine jj_s (pc' := 141) rfl rfl ?_
        rw [fnO, if_pos c1] at hE
        exact jj_zret rfl rfl (Or.inl rfl) ⟨by rw [hE]; rfl, rfl, by rw [hE]; rfl⟩
      · rw [fnO, if_neg c1] at hE
        refine jj_s (pc' := 24) rfl rfl ?_
        refine jj_s (pc' := 26) rfl rfl ?_
        refine jj_s (pc' := 27) rfl rfl ?_
        refine jj_s (pc' := 29) rfl rfl ?_
        have L2 : ∀ d k u rb O z3, k + d = 20 → okO f op pv u O → okS f op pv u sk → okS f op pv u rb → (∀ j, bt u j = true → bt op j = true) → E = fnF nx pv (fnG bf pv m (fnI bf pv sk d k u rb O)) → JJ X0 G B M1_findNext 29 [some (.ref (B + o)), some (.int (nI f)), some (.int op), some (.ref (B + a)), some (.int u), some (.int sk), some (.int (nI (20 - (m + 1)))), some (.int rb), some (.int (nI k)), z3] [] n (wA o 3 (cob B o) (CP nx pv O) h) 0 0 (eqP (some (.int (bI E.2.2.2))) n (wA o 3 (cob B o) (CP E.1 E.2.1 E.2.2.1) h)) := by
          intro d
          induction d with
          | zero =>
            intro k u rb O z3 hk hO hS hrb hu hE
            have hk : k = 20 := by omega
            subst hk
            refine jj_s (pc' := 31) rfl rfl ?_
            refine jj_s (pc' := 33) rfl rfl ?_
            refine jj_icmp_ge 130 rfl rfl (fun c => ?_) (fun c => absurd (by decide) c)
            refine jj_s (pc' := 132) rfl rfl ?_
            refine jj_s (pc' := 134) rfl rfl ?_
            first | refine jj_inc rfl rfl ?_ | refine jj_s (pc' := 137) rfl rfl ?_
            refine jj_s (pc' := 11) rfl rfl ?_
            refine jj_lv ?_ (ihm u rb O (some (.int rb)) (some (.int (nI 20))) z3 (by omega) hO hrb hu E hE)
            rw [show 20 - (m + 1) + 1 = 20 - m by omega]; rfl
          | succ d ih =>
            intro k u rb O z3 hk hO hS hrb hu hE
            have skip : ∀ z3, fnI bf pv sk (d + 1) k u rb O = fnI bf pv sk d (k + 1) u rb O → JJ X0 G B M1_findNext 124 [some (.ref (B + o)), some (.int (nI f)), some (.int op), some (.ref (B + a)), some (.int u), some (.int sk), some (.int (nI (20 - (m + 1)))), some (.int rb), some (.int (nI k)), z3] [] n (wA o 3 (cob B o) (CP nx pv O) h) 0 0 (eqP (some (.int (bI E.2.2.2))) n (wA o 3 (cob B o) (CP E.1 E.2.1 E.2.2.1) h)) := by
              intro z3 hs
              rw [hs] at hE
              first | refine jj_inc rfl rfl ?_ | refine jj_s (pc' := 127) rfl rfl ?_
              refine jj_s (pc' := 29) rfl rfl ?_
              exact ih (k + 1) u rb O z3 (by omega) hO hS hrb hu hE
            refine jj_s (pc' := 31) rfl rfl ?_
            refine jj_s (pc' := 33) rfl rfl ?_
            refine jj_geN (b := 20) 130 rfl rfl (by omega) (by omega) (fun c => absurd c (by omega)) (fun c => ?_)
            refine jj_s (pc' := 38) rfl rfl ?_
            refine jj_s (pc' := 40) rfl rfl ?_
            refine jj_t2 rfl rfl rfl rfl rfl (c_has (by omega)) ?_
            refine jj_zT 59 rfl rfl (fun c2 => ?_) (fun c2 => ?_)
            · refine jj_s (pc' := 61) rfl rfl ?_
              refine jj_s (pc' := 63) rfl rfl ?_
              refine jj_s (pc' := 65) rfl rfl ?_
              refine jj_s (pc' := 67) rfl rfl ?_
              refine jj_icmp_eq 124 rfl rfl (fun c3 => ?_) (fun c3 => absurd rfl c3)
              exact skip _ (by rw [fnI, if_neg (by rw [c2]; decide)])
            · refine jj_s (pc' := 48) rfl rfl ?_
              refine jj_s (pc' := 49) rfl rfl ?_
              refine jj_s (pc' := 51) rfl rfl ?_
              refine jj_ialdN rfl (hbb O) (by omega) rfl ?_
              refine jj_s (pc' := 53) rfl rfl ?_
              refine jj_t1 rfl rfl rfl rfl rfl (c_lowestOf _) ?_
              refine jj_s (pc' := 61) rfl rfl ?_
              refine jj_s (pc' := 63) rfl rfl ?_
              refine jj_s (pc' := 65) rfl rfl ?_
              refine jj_s (pc' := 67) rfl rfl ?_
              cases hlo : lo (sk &&& bf k) with
              | none =>
                refine jj_icmp_eq 124 rfl rfl (fun c3 => ?_) (fun c3 => absurd rfl c3)
                exact skip _ (by rw [fnI, if_pos c2, hlo])
              | some s =>
                obtain ⟨s1, s2⟩ := lo_some hlo
                rw [b_and, Bool.and_eq_true] at s2
                refine jj_icmp_eq 124 rfl rfl (fun c3 => absurd c3 (enc_ne (by omega))) (fun c3 => ?_)
                refine jj_s (pc' := 72) rfl rfl ?_
                refine jj_s (pc' := 73) rfl rfl ?_
                refine jj_s (pc' := 75) rfl rfl ?_
                refine jj_s (pc' := 76) rfl rfl ?_
                refine jj_s (pc' := 77) rfl rfl ?_
                refine jj_s (pc' := 78) rfl rfl ?_
                refine jj_s (pc' := 79) rfl rfl ?_
                refine jj_s (pc' := 81) rfl rfl ?_
                refine jj_s (pc' := 82) rfl rfl ?_
                refine jj_g rfl rfl wA_o rfl ?_
                refine jj_s (pc' := 87) rfl rfl ?_
                refine jj_s (pc' := 89) rfl rfl ?_
                refine jj_ast1 rfl (by decide) (by first | assumption | omega) ?_
                refine jj_h (h' := wA o 3 (cob B o) (CP nx pv (upd O k (nI s))) h) (by rw [← CP_2]; rfl) ?_
                refine jj_lv (lv' := [some (.ref (B + o)), some (.int (nI f)), some (.int op), some (.ref (B + a)), some (.int (u &&& (bit k ^^^ -1))), some (.int sk), some (.int (nI (20 - (m + 1)))), some (.int rb), some (.int (nI k)), some (.int (nI s))]) rfl ?_
                have hO' := okO_step (k := k) (by omega) s1 hO hS c2 s2.1
                have hu' : ∀ j, bt (u &&& (bit k ^^^ -1)) j = true → bt op j = true := fun j hj => by rw [b_drop (by omega)] at hj; exact hu j (by simp at hj; exact hj.1)
                refine jj_s (pc' := 91) rfl rfl ?_
                refine jj_g rfl rfl wA_o rfl ?_
                refine jj_s (pc' := 96) rfl rfl ?_
                refine jj_ald1 rfl (by decide) (by first | assumption | omega) ?_
                refine jj_s (pc' := 99) rfl rfl ?_
                refine jj_st (st' := [.int (-7), .int (enc (pv k))]) rfl ?_
                cases hpv : pv k with
                | none =>
                  refine jj_icmp_ne 110 rfl rfl (fun c4 => absurd rfl c4) (fun c4 => ?_)
                  have e : fnI bf pv sk (d + 1) k u rb O = .inr (k, u &&& (bit k ^^^ -1), upd O k (nI s)) := by rw [fnI, if_pos c2, hlo]; dsimp only; rw [hpv]
                  rw [e] at hE
                  obtain ⟨r1, r2⟩ := okO_pair hO' hm hf
                  refine jj_s (pc' := 103) rfl rfl ?_
                  refine jj_s (pc' := 105) rfl rfl ?_
                  refine jj_w1 rfl rfl rfl wA_o rfl rfl (c_pairAlong (fun i => ((upd O k (nI s)) i).toNatClampNeg) (rch op (u &&& (bit k ^^^ -1))) r1 r2 ⟨by omega, hu k c2, by rw [b_drop (by omega)]; simp⟩) ?_
                  refine jj_s (pc' := 109) rfl rfl ?_
                  exact jj_zret rfl rfl (Or.inr rfl) ⟨by rw [hE]; rfl, rfl, by rw [hE]; rfl⟩
                | some p =>
                  refine jj_icmp_ne 110 rfl rfl (fun c4 => ?_) (fun c4 => absurd c4 (enc_ne (by have := hp20 k p hpv; omega)))
                  have e : fnI bf pv sk (d + 1) k u rb O = fnI bf pv sk d (k + 1) (u &&& (bit k ^^^ -1)) (rb ||| bit p) (upd O k (nI s)) := by rw [fnI, if_pos c2, hlo]; dsimp only; rw [hpv]
                  rw [e] at hE
                  refine jj_s (pc' := 112) rfl rfl ?_
                  refine jj_s (pc' := 113) rfl rfl ?_
                  refine jj_s (pc' := 114) rfl rfl ?_
                  refine jj_g rfl rfl wA_o rfl ?_
                  refine jj_s (pc' := 119) rfl rfl ?_
                  refine jj_ald1 rfl (by decide) (by first | assumption | omega) ?_
                  refine jj_s (pc' := 121) rfl rfl ?_
                  refine jj_s (pc' := 122) rfl rfl ?_
                  refine jj_s (pc' := 124) rfl rfl ?_
                  refine jj_lv (lv' := [some (.ref (B + o)), some (.int (nI f)), some (.int op), some (.ref (B + a)), some (.int (u &&& (bit k ^^^ -1))), some (.int sk), some (.int (nI (20 - (m + 1)))), some (.int (rb ||| bit p)), some (.int (nI k)), some (.int (nI s))]) (by rw [show bit p = (1 : Int32) <<< (enc (pv k) &&& 31) by rw [hpv]; rfl]; rfl) ?_
                  first | refine jj_inc rfl rfl ?_ | refine jj_s (pc' := 127) rfl rfl ?_
                  refine jj_s (pc' := 29) rfl rfl ?_
                  exact ih (k + 1) _ _ _ _ (by omega) hO' (okS_less (by omega) hS) (okS_put (by omega) (hp20 k p hpv) (hu k c2) hpv hrb) hu' hE
        exact L2 20 0 u 0 O z3 (by omega) hO hS (fun s hs => by rw [b_0] at hs; cases hs) hu hE
  exact L 20 op (bit f) O none none none (by omega) (fun i hi => absurd (hi.2.1.symm.trans hi.2.2) (by decide)) (fun s hs _ => Or.inl (by rw [bt_bit (by omega)] at hs; simpa using hs)) (fun j hj => hj) (fnE bf nx pv O f op) rfl
end
section
/-! counting the pairs of a chain cover -/
def cvK (bf : Nat → Int32) (op : Int32) (O : Nat → Int32) : Nat → (Nat → Option Nat) × (Nat → Option Nat) × (Nat → Int32) × Nat
  | 0 => (fun _ => none, fun _ => none, O, 0)
  | k + 1 => if bt op k = true then
      let s := cvK bf op O k
      let E := fnE bf s.1 s.2.1 s.2.2.1 k op
      (E.1, E.2.1, E.2.2.1, s.2.2.2 + (if E.2.2.2 = true then 1 else 0)) else cvK bf op O k
def c0K (P : Nat → Nat → Int32) : Nat → (Nat → Nat → Int32)
  | 0 => P
  | k + 1 => uF (uF (c0K P k) 0 k (-7)) 1 k (-7)
theorem c0K_at (P : Nat → Nat → Int32) (k : Nat) : (∀ i, i < k → c0K P k 0 i = -7 ∧ c0K P k 1 i = -7) ∧ c0K P k 2 = P 2 := by
  induction k with
  | zero => exact ⟨fun i hi => absurd hi (by omega), rfl⟩
  | succ k ih =>
    unfold c0K
    refine ⟨fun i hi => ?_, ?_⟩
    · rw [uF_at, uF_at, uF_at, uF_at]
      by_cases e : i = k
      · subst e; simp
      · have := ih.1 i (by omega)
        simp [e, this.1, this.2]
    · rw [uF_j _ _ _ _ (by decide), uF_j _ _ _ _ (by decide)]
      exact ih.2
theorem cvK_le (bf : Nat → Int32) (op : Int32) (O : Nat → Int32) (k : Nat) : (cvK bf op O k).2.2.2 ≤ k := by
  induction k with
  | zero => exact Nat.le_refl _
  | succ k ih =>
    unfold cvK
    split
    next =>
      dsimp only
      split <;> omega
    next => omega
set_option maxHeartbeats 4000000 in
set_option maxRecDepth 100000 in
 theorem c_countPairs {G : GC} {B n : Nat} {h : HT} {o a : Nat} {P : Nat → Nat → Int32} {bf : Nat → Int32} (hb : h a = some (ia 20 bf)) (ha : a < o ∨ o + 4 ≤ a) (op : Int32) (hok : ∀ k, k < 20 → bt op k = true → (∀ j p, (cvK bf op (P 2) k).2.1 j = some p → p < 20) ∧ (∀ p j, (cvK bf op (P 2) k).2.1 j = some p → (cvK bf op (P 2) k).1 p = some j) ∧ (cvK bf op (P 2) k).1 k = none) : CtJ G B M1_countPairs [.ref (B + o), .int op, .ref (B + a)] n (wA o 3 (cob B o) P h) 0 0 (eqP (some (.int (nI (cvK bf op (P 2) 20).2.2.2))) n (wA o 3 (cob B o) (CP (cvK bf op (P 2) 20).1 (cvK bf op (P 2) 20).2.1 (cvK bf op (P 2) 20).2.2.1) h)) := by
  unfold CtJ
  refine jj_lv (lv' := [some (.ref (B + o)), some (.int op), some (.ref (B + a)), none, none]) rfl ?_
  refine jj_s (pc' := 1) rfl rfl ?_
  refine jj_s (pc' := 2) rfl rfl ?_
  have L1 : ∀ d k, k + d = 20 → JJ X0 G B M1_countPairs 2 [some (.ref (B + o)), some (.int op), some (.ref (B + a)), some (.int (nI k)), none] [] n (wA o 3 (cob B o) (c0K P k) h) 0 0 (eqP (some (.int (nI (cvK bf op (P 2) 20).2.2.2))) n (wA o 3 (cob B o) (CP (cvK bf op (P 2) 20).1 (cvK bf op (P 2) 20).2.1 (cvK bf op (P 2) 20).2.2.1) h)) := by
    intro d
    induction d with
    | zero =>
      intro k hk
      have hk : k = 20 := by omega
      subst hk
      refine jj_s (pc' := 3) rfl rfl ?_
      refine jj_s (pc' := 5) rfl rfl ?_
      refine jj_icmp_ge 30 rfl rfl (fun c => ?_) (fun c => absurd (by decide) c)
      refine jj_s (pc' := 31) rfl rfl ?_
      refine jj_s (pc' := 32) rfl rfl ?_
      refine jj_s (pc' := 33) rfl rfl ?_
      refine jj_s (pc' := 35) rfl rfl ?_
      refine jj_sm (h' := wA o 3 (cob B o) (CP (fun _ => none) (fun _ => none) (P 2)) h) (smH_A (fun j hj i hi => ?_)) ?_
      · have g := c0K_at P 20
        match j, hj with
        | 0, _ => exact (g.1 i hi).1
        | 1, _ => exact (g.1 i hi).2
        | 2, _ => rw [g.2]; rfl
      · have L2 : ∀ d k, k + d = 20 → JJ X0 G B M1_countPairs 35 [some (.ref (B + o)), some (.int op), some (.ref (B + a)), some (.int (nI (cvK bf op (P 2) k).2.2.2)), some (.int (nI k))] [] n (wA o 3 (cob B o) (CP (cvK bf op (P 2) k).1 (cvK bf op (P 2) k).2.1 (cvK bf op (P 2) k).2.2.1) h) 0 0 (eqP (some (.int (nI (cvK bf op (P 2) 20).2.2.2))) n (wA o 3 (cob B o) (CP (cvK bf op (P 2) 20).1 (cvK bf op (P 2) 20).2.1 (cvK bf op (P 2) 20).2.2.1) h)) := by
          intro d
          induction d with
          | zero =>
            intro k hk
            have hk : k = 20 := by omega
            subst hk
            refine jj_s (pc' := 37) rfl rfl ?_
            refine jj_s (pc' := 39) rfl rfl ?_
            refine jj_icmp_ge 71 rfl rfl (fun c => ?_) (fun c => absurd (by decide) c)
            refine jj_s (pc' := 72) rfl rfl ?_
            exact jj_iret rfl rfl ⟨rfl, rfl, rfl⟩
          | succ d ih =>
            intro k hk
            refine jj_s (pc' := 37) rfl rfl ?_
            refine jj_s (pc' := 39) rfl rfl ?_
            refine jj_geN (b := 20) 71 rfl rfl (by omega) (by omega) (fun c => absurd c (by omega)) (fun c => ?_)
            refine jj_s (pc' := 43) rfl rfl ?_
            refine jj_s (pc' := 45) rfl rfl ?_
            refine jj_t2 rfl rfl rfl rfl rfl (c_has (by omega)) ?_
            refine jj_zT 65 rfl rfl (fun c2 => ?_) (fun c2 => ?_)
            · have e : cvK bf op (P 2) (k + 1) = cvK bf op (P 2) k := by rw [cvK, if_neg (by rw [c2]; decide)]
              first | refine jj_inc rfl rfl ?_ | refine jj_s (pc' := 68) rfl rfl ?_
              refine jj_s (pc' := 35) rfl rfl ?_
              refine jj_lv ?_ (jj_h ?_ (ih (k + 1) (by omega)))
              · rw [e]; rfl
              · rw [e]
            · obtain ⟨o1, o2, o3⟩ := hok k (by omega) c2
              have e : cvK bf op (P 2) (k + 1) = ((fnE bf (cvK bf op (P 2) k).1 (cvK bf op (P 2) k).2.1 (cvK bf op (P 2) k).2.2.1 k op).1, (fnE bf (cvK bf op (P 2) k).1 (cvK bf op (P 2) k).2.1 (cvK bf op (P 2) k).2.2.1 k op).2.1, (fnE bf (cvK bf op (P 2) k).1 (cvK bf op (P 2) k).2.1 (cvK bf op (P 2) k).2.2.1 k op).2.2.1, (cvK bf op (P 2) k).2.2.2 + (if (fnE bf (cvK bf op (P 2) k).1 (cvK bf op (P 2) k).2.1 (cvK bf op (P 2) k).2.2.1 k op).2.2.2 = true then 1 else 0)) := by rw [cvK, if_pos c2]
              refine jj_s (pc' := 52) rfl rfl ?_
              refine jj_s (pc' := 54) rfl rfl ?_
              refine jj_s (pc' := 55) rfl rfl ?_
              refine jj_s (pc' := 56) rfl rfl ?_
              refine jj_v3 rfl rfl rfl wA_o rfl rfl (c_findNext hb ha o1 o2 (by omega) o3 op) ?_
              refine jj_zT 65 rfl rfl (fun c3 => ?_) (fun c3 => ?_)
              · first | refine jj_inc rfl rfl ?_ | refine jj_s (pc' := 68) rfl rfl ?_
                refine jj_s (pc' := 35) rfl rfl ?_
                refine jj_lv ?_ (jj_h ?_ (ih (k + 1) (by omega)))
                · rw [e, c3]; rfl
                · rw [e]
              · first | refine jj_inc rfl rfl ?_ | refine jj_s (pc' := 65) rfl rfl ?_
                first | refine jj_inc rfl rfl ?_ | refine jj_s (pc' := 68) rfl rfl ?_
                refine jj_s (pc' := 35) rfl rfl ?_
                refine jj_lv ?_ (jj_h ?_ (ih (k + 1) (by omega)))
                · rw [e, c3]; rfl
                · rw [e]
        exact L2 20 0 (by omega)
    | succ d ih =>
      intro k hk
      refine jj_s (pc' := 3) rfl rfl ?_
      refine jj_s (pc' := 5) rfl rfl ?_
      refine jj_geN (b := 20) 30 rfl rfl (by omega) (by omega) (fun c => absurd c (by omega)) (fun c => ?_)
      refine jj_s (pc' := 9) rfl rfl ?_
      refine jj_g rfl rfl wA_o rfl ?_
      refine jj_s (pc' := 13) rfl rfl ?_
      refine jj_s (pc' := 15) rfl rfl ?_
      refine jj_ast1 rfl (by decide) (by first | assumption | omega) ?_
      refine jj_s (pc' := 17) rfl rfl ?_
      refine jj_g rfl rfl wA_o rfl ?_
      refine jj_s (pc' := 21) rfl rfl ?_
      refine jj_s (pc' := 23) rfl rfl ?_
      refine jj_ast1 rfl (by decide) (by first | assumption | omega) ?_
      first | refine jj_inc rfl rfl ?_ | refine jj_s (pc' := 27) rfl rfl ?_
      refine jj_s (pc' := 2) rfl rfl ?_
      exact ih (k + 1) (by omega)
  exact L1 20 0 (by omega)
/-! OrderCount -/
abbrev oob (B o : Nat) : AE := ob 2 [.ref (B + (o + 1)), .ref (B + (o + 2)), .ref (B + (o + 3))]
def wO (B o : Nat) (w : Nat → Int64) (mb nd : Nat → Int32) (h : HT) : HT := fun k => if k = o then some (oob B o) else if k = o + 1 then some (la 4096 w) else if k = o + 2 then some (ia 12 mb) else if k = o + 3 then some (ia 12 nd) else h k
theorem wO_o {B o : Nat} {w : Nat → Int64} {mb nd : Nat → Int32} {h : HT} : wO B o w mb nd h o = some (oob B o) := if_pos rfl
theorem wO_w {B o : Nat} {w : Nat → Int64} {mb nd : Nat → Int32} {h : HT} : wO B o w mb nd h (o + 1) = some (la 4096 w) := by unfold wO; rw [if_neg (by omega), if_pos rfl]
theorem wO_m {B o : Nat} {w : Nat → Int64} {mb nd : Nat → Int32} {h : HT} : wO B o w mb nd h (o + 2) = some (ia 12 mb) := by unfold wO; rw [if_neg (by omega), if_neg (by omega), if_pos rfl]
theorem wO_d {B o : Nat} {w : Nat → Int64} {mb nd : Nat → Int32} {h : HT} : wO B o w mb nd h (o + 3) = some (ia 12 nd) := by unfold wO; rw [if_neg (by omega), if_neg (by omega), if_neg (by omega), if_pos rfl]
theorem wO_n {B o : Nat} {w : Nat → Int64} {mb nd : Nat → Int32} {h : HT} {k : Nat} (hk : k < o ∨ o + 4 ≤ k) : wO B o w mb nd h k = h k := by unfold wO; rw [if_neg (by omega), if_neg (by omega), if_neg (by omega), if_neg (by omega)]
theorem wO_pw {B o : Nat} {w w' : Nat → Int64} {mb nd : Nat → Int32} {h : HT} : hu (wO B o w mb nd h) (o + 1) (la 4096 w') = wO B o w' mb nd h := by
  funext k
  by_cases e : k = o + 1
  · subst e; rw [hu_s, wO_w]
  · rw [hu_n _ _ _ e]; unfold wO; simp only [e, if_false]
theorem wO_pm {B o : Nat} {w : Nat → Int64} {mb mb' nd : Nat → Int32} {h : HT} : hu (wO B o w mb nd h) (o + 2) (ia 12 mb') = wO B o w mb' nd h := by
  funext k
  by_cases e : k = o + 2
  · subst e; rw [hu_s, wO_m]
  · rw [hu_n _ _ _ e]; unfold wO; simp only [e, if_false]
theorem wO_pd {B o : Nat} {w : Nat → Int64} {mb nd nd' : Nat → Int32} {h : HT} : hu (wO B o w mb nd h) (o + 3) (ia 12 nd') = wO B o w mb nd' h := by
  funext k
  by_cases e : k = o + 3
  · subst e; rw [hu_s, wO_d]
  · rw [hu_n _ _ _ e]; unfold wO; simp only [e, if_false]
def lmK (op : Int32) (mb : Nat → Int32) : Nat → (Nat → Int32) × Nat
  | 0 => (mb, 0)
  | k + 1 => if bt op k = true ∧ (lmK op mb k).2 < 12 then (upd (lmK op mb k).1 (lmK op mb k).2 (nI k), (lmK op mb k).2 + 1) else lmK op mb k
theorem lmK_full {op : Int32} {mb : Nat → Int32} {k : Nat} (h : ¬ (lmK op mb k).2 < 12) : ∀ j, lmK op mb (k + j) = lmK op mb k := by
  intro j
  induction j with
  | zero => rfl
  | succ j ih => rw [← Nat.add_assoc, lmK, ih, if_neg (fun z => h z.2)]
theorem lmK_le (op : Int32) (mb : Nat → Int32) (k : Nat) : (lmK op mb k).2 ≤ 12 := by
  induction k with
  | zero => exact Nat.zero_le _
  | succ k ih =>
    unfold lmK
    split
    next h => show (lmK op mb k).2 + 1 ≤ 12; omega
    next => exact ih
set_option maxHeartbeats 4000000 in
set_option maxRecDepth 100000 in
 theorem c_listMembers {G : GC} {B n : Nat} {h : HT} {o : Nat} {w : Nat → Int64} {mb nd : Nat → Int32} (op : Int32) : CtJ G B M2_listMembers [.ref (B + o), .int op] n (wO B o w mb nd h) 0 0 (eqP (some (.int (nI (lmK op mb 20).2))) n (wO B o w (lmK op mb 20).1 nd h)) := by
  unfold CtJ
  refine jj_lv (lv' := [some (.ref (B + o)), some (.int op), none, none]) rfl ?_
  refine jj_s (pc' := 1) rfl rfl ?_
  refine jj_s (pc' := 2) rfl rfl ?_
  refine jj_s (pc' := 3) rfl rfl ?_
  refine jj_s (pc' := 4) rfl rfl ?_
  have L : ∀ d k, k + d = 20 → JJ X0 G B M2_listMembers 4 [some (.ref (B + o)), some (.int op), some (.int (nI (lmK op mb k).2)), some (.int (nI k))] [] n (wO B o w (lmK op mb k).1 nd h) 0 0 (eqP (some (.int (nI (lmK op mb 20).2))) n (wO B o w (lmK op mb 20).1 nd h)) := by
    intro d
    induction d with
    | zero =>
      intro k hk
      have hk : k = 20 := by omega
      subst hk
      refine jj_s (pc' := 5) rfl rfl ?_
      refine jj_s (pc' := 7) rfl rfl ?_
      refine jj_icmp_ge 40 rfl rfl (fun c => ?_) (fun c => absurd (by decide) c)
      refine jj_s (pc' := 41) rfl rfl ?_
      exact jj_iret rfl rfl ⟨rfl, rfl, rfl⟩
    | succ d ih =>
      intro k hk
      have hle := lmK_le op mb k
      refine jj_s (pc' := 5) rfl rfl ?_
      refine jj_s (pc' := 7) rfl rfl ?_
      refine jj_geN (b := 20) 40 rfl rfl (by omega) (by omega) (fun c => absurd c (by omega)) (fun c => ?_)
      refine jj_s (pc' := 11) rfl rfl ?_
      refine jj_s (pc' := 13) rfl rfl ?_
      refine jj_geN (b := 12) 40 rfl rfl (by omega) (by omega) (fun c1 => ?_) (fun c1 => ?_)
      · refine jj_s (pc' := 41) rfl rfl ?_
        have e : lmK op mb 20 = lmK op mb k := by rw [show 20 = k + (20 - k) by omega, lmK_full (by omega)]
        exact jj_iret rfl rfl ⟨by rw [e], rfl, by rw [e]⟩
      · refine jj_s (pc' := 17) rfl rfl ?_
        refine jj_s (pc' := 18) rfl rfl ?_
        refine jj_t2 rfl rfl rfl rfl rfl (c_has (by omega)) ?_
        refine jj_zT 34 rfl rfl (fun c2 => ?_) (fun c2 => ?_)
        · have e : lmK op mb (k + 1) = lmK op mb k := by rw [lmK, if_neg (fun z => by rw [c2] at z; cases z.1)]
          first | refine jj_inc rfl rfl ?_ | refine jj_s (pc' := 37) rfl rfl ?_
          refine jj_s (pc' := 4) rfl rfl ?_
          refine jj_lv ?_ (jj_h ?_ (ih (k + 1) (by omega)))
          · rw [e]; rfl
          · rw [e]
        · have e : lmK op mb (k + 1) = (upd (lmK op mb k).1 (lmK op mb k).2 (nI k), (lmK op mb k).2 + 1) := by rw [lmK, if_pos ⟨c2, c1⟩]
          refine jj_s (pc' := 25) rfl rfl ?_
          refine jj_g rfl rfl wO_o rfl ?_
          refine jj_s (pc' := 29) rfl rfl ?_
          refine jj_s (pc' := 30) rfl rfl ?_
          refine jj_iastN rfl wO_m c1 rfl (jj_h wO_pm ?_)
          first | refine jj_inc rfl rfl ?_ | refine jj_s (pc' := 34) rfl rfl ?_
          first | refine jj_inc rfl rfl ?_ | refine jj_s (pc' := 37) rfl rfl ?_
          refine jj_s (pc' := 4) rfl rfl ?_
          refine jj_lv ?_ (jj_h ?_ (ih (k + 1) (by omega)))
          · rw [e]; rfl
          · rw [e]
  exact L 20 0 (by omega)
theorem upd_upd (f : Nat → Int32) (i : Nat) (x w : Int32) : upd (upd f i x) i w = upd f i w := by
  funext k
  unfold upd
  split <;> rfl
def lnK (bf : Nat → Int32) (mm : Nat → Nat) (c : Nat) (nd : Nat → Int32) : Nat → (Nat → Int32)
  | 0 => nd
  | i + 1 => upd (lnK bf mm c nd i) i (msk (fun k => bt (bf (mm i)) (mm k)) c)
set_option maxHeartbeats 4000000 in
set_option maxRecDepth 100000 in
 theorem c_listNeeds {G : GC} {B n : Nat} {h : HT} {o a : Nat} {w : Nat → Int64} {mb nd bf : Nat → Int32} {c : Nat} (mm : Nat → Nat) (hc : c ≤ 12) (hm : ∀ i, i < c → mb i = nI (mm i) ∧ mm i < 20) (hb : h a = some (ia 20 bf)) (ha : a < o ∨ o + 4 ≤ a) : CtJ G B M2_listNeeds [.ref (B + o), .int (nI c), .ref (B + a)] n (wO B o w mb nd h) 0 0 (eqP none n (wO B o w mb (lnK bf mm c nd c) h)) := by
  have hbb : ∀ nd, wO B o w mb nd h a = some (ia 20 bf) := fun nd => (wO_n ha).trans hb
  unfold CtJ
  refine jj_lv (lv' := [some (.ref (B + o)), some (.int (nI c)), some (.ref (B + a)), none, none]) rfl ?_
  refine jj_s (pc' := 1) rfl rfl ?_
  refine jj_s (pc' := 2) rfl rfl ?_
  have L : ∀ d i z, i ≤ c → c + 1 ≤ i + d → JJ X0 G B M2_listNeeds 2 [some (.ref (B + o)), some (.int (nI c)), some (.ref (B + a)), some (.int (nI i)), z] [] n (wO B o w mb (lnK bf mm c nd i) h) 0 0 (eqP none n (wO B o w mb (lnK bf mm c nd c) h)) := by
    intro d
    induction d with
    | zero => intro i z h1 h2; exact absurd h2 (by omega)
    | succ d ih =>
      intro i z h1 h2
      refine jj_s (pc' := 3) rfl rfl ?_
      refine jj_s (pc' := 4) rfl rfl ?_
      refine jj_geN 69 rfl rfl (by omega) (by omega) (fun c1 => ?_) (fun c1 => ?_)
      · exact jj_vret rfl rfl ⟨rfl, rfl, by rw [show i = c by omega]⟩
      · refine jj_s (pc' := 8) rfl rfl ?_
        refine jj_g rfl rfl wO_o rfl ?_
        refine jj_s (pc' := 12) rfl rfl ?_
        refine jj_s (pc' := 13) rfl rfl ?_
        refine jj_iastN rfl wO_d (by omega) rfl (jj_h wO_pd ?_)
        refine jj_s (pc' := 15) rfl rfl ?_
        refine jj_s (pc' := 17) rfl rfl ?_
        have L2 : ∀ d k, k ≤ c → c + 1 ≤ k + d → JJ X0 G B M2_listNeeds 17 [some (.ref (B + o)), some (.int (nI c)), some (.ref (B + a)), some (.int (nI i)), some (.int (nI k))] [] n (wO B o w mb (upd (lnK bf mm c nd i) i (msk (fun k => bt (bf (mm i)) (mm k)) k)) h) 0 0 (eqP none n (wO B o w mb (lnK bf mm c nd c) h)) := by
          intro d
          induction d with
          | zero => intro k h1 h2; exact absurd h2 (by omega)
          | succ d ihk =>
            intro k h1 h2
            refine jj_s (pc' := 19) rfl rfl ?_
            refine jj_s (pc' := 20) rfl rfl ?_
            refine jj_geN 63 rfl rfl (by omega) (by omega) (fun c2 => ?_) (fun c2 => ?_)
            · rw [show k = c by omega]
              first | refine jj_inc rfl rfl ?_ | refine jj_s (pc' := 66) rfl rfl ?_
              refine jj_s (pc' := 2) rfl rfl ?_
              exact ih (i + 1) _ (by omega) (by omega)
            · refine jj_s (pc' := 24) rfl rfl ?_
              refine jj_s (pc' := 25) rfl rfl ?_
              refine jj_g rfl rfl wO_o rfl ?_
              refine jj_s (pc' := 29) rfl rfl ?_
              refine jj_ialdN rfl wO_m (by omega) rfl ?_
              rw [(hm i c1).1]
              refine jj_ialdN rfl (hbb _) (hm i c1).2 rfl ?_
              refine jj_s (pc' := 32) rfl rfl ?_
              refine jj_g rfl rfl wO_o rfl ?_
              refine jj_s (pc' := 37) rfl rfl ?_
              refine jj_ialdN rfl wO_m (by omega) rfl ?_
              rw [(hm k c2).1]
              refine jj_t2 rfl rfl rfl rfl rfl (c_has (by have := (hm k c2).2; omega)) ?_
              refine jj_zT 57 rfl rfl (fun c3 => ?_) (fun c3 => ?_)
              · first | refine jj_inc rfl rfl ?_ | refine jj_s (pc' := 60) rfl rfl ?_
                refine jj_s (pc' := 17) rfl rfl ?_
                refine jj_h ?_ (ihk (k + 1) (by omega) (by omega))
                rw [msk, if_neg (by rw [c3]; decide)]
              · refine jj_s (pc' := 45) rfl rfl ?_
                refine jj_g rfl rfl wO_o rfl ?_
                refine jj_s (pc' := 49) rfl rfl ?_
                refine jj_s (pc' := 50) rfl rfl ?_
                refine jj_ialdN rfl wO_d (by omega) rfl ?_
                refine jj_s (pc' := 52) rfl rfl ?_
                refine jj_s (pc' := 54) rfl rfl ?_
                refine jj_s (pc' := 55) rfl rfl ?_
                refine jj_s (pc' := 56) rfl rfl ?_
                refine jj_iastN rfl wO_d (by omega) rfl (jj_h wO_pd ?_)
                first | refine jj_inc rfl rfl ?_ | refine jj_s (pc' := 60) rfl rfl ?_
                refine jj_s (pc' := 17) rfl rfl ?_
                refine jj_h ?_ (ihk (k + 1) (by omega) (by omega))
                rw [msk, if_pos c3, pk_us, upd_upd]
                rfl
        exact L2 (c + 1) 0 (by omega) (by omega)
  exact L (c + 1) 0 none (by omega) (by omega)
/-- a set as a number -/
theorem bt_nI {s : Nat} (hs : s < 4294967296) (i : Nat) : bt (nI s) i = s.testBit i := by
  unfold bt nI
  show (BitVec.ofNat 32 s).getLsbD i = _
  rw [BitVec.getLsbD_ofNat]
  rcases Nat.lt_or_ge i 32 with h | h
  · simp [h]
  · simp [Nat.not_lt.mpr h]
    exact Nat.testBit_lt_two_pow (Nat.lt_of_lt_of_le hs (by simpa using Nat.pow_le_pow_right (n := 2) (by decide) h))
theorem nI_or {s i : Nat} (hs : s < 4096) (hi : i < 12) : nI s ||| bit i = nI (s ||| 2 ^ i) ∧ s ||| 2 ^ i < 4096 := by
  have h2 : s ||| 2 ^ i < 4096 := Nat.or_lt_two_pow (n := 12) hs (Nat.pow_lt_pow_right (by decide) hi)
  refine ⟨b_ext fun j hj => ?_, h2⟩
  rw [b_put (by omega), bt_nI (by omega), bt_nI (by omega), Nat.testBit_or, Nat.testBit_two_pow]
  by_cases e : i = j
  · subst e; simp
  · have : ¬ j = i := fun z => e z.symm
    simp [e, this]
def gfK (nd : Nat → Int32) (s : Nat) (w : Nat → Int64) : Nat → (Nat → Int64)
  | 0 => w
  | i + 1 => if s.testBit i = false ∧ nd i &&& (nI s ^^^ -1) = 0 then vp_updL (gfK nd s w i) (s ||| 2 ^ i) (gfK nd s w i (s ||| 2 ^ i) + gfK nd s w i s) else gfK nd s w i
set_option maxHeartbeats 4000000 in
set_option maxRecDepth 100000 in
 theorem c_goOnFrom {G : GC} {B n : Nat} {h : HT} {o : Nat} {w : Nat → Int64} {mb nd : Nat → Int32} {s c : Nat} (hs : s < 4096) (hc : c ≤ 12) : CtJ G B M2_goOnFrom [.ref (B + o), .int (nI s), .int (nI c)] n (wO B o w mb nd h) 0 0 (eqP none n (wO B o (gfK nd s w c) mb nd h)) := by
  unfold CtJ
  refine jj_lv (lv' := [some (.ref (B + o)), some (.int (nI s)), some (.int (nI c)), none]) rfl ?_
  refine jj_s (pc' := 1) rfl rfl ?_
  refine jj_s (pc' := 2) rfl rfl ?_
  have L : ∀ d i, i ≤ c → c + 1 ≤ i + d → JJ X0 G B M2_goOnFrom 2 [some (.ref (B + o)), some (.int (nI s)), some (.int (nI c)), some (.int (nI i))] [] n (wO B o (gfK nd s w i) mb nd h) 0 0 (eqP none n (wO B o (gfK nd s w c) mb nd h)) := by
    intro d
    induction d with
    | zero => intro i h1 h2; exact absurd h2 (by omega)
    | succ d ih =>
      intro i h1 h2
      refine jj_s (pc' := 3) rfl rfl ?_
      refine jj_s (pc' := 4) rfl rfl ?_
      refine jj_geN 53 rfl rfl (by omega) (by omega) (fun c1 => ?_) (fun c1 => ?_)
      · exact jj_vret rfl rfl ⟨rfl, rfl, by rw [show i = c by omega]⟩
      · have skip : ¬ (s.testBit i = false ∧ nd i &&& (nI s ^^^ -1) = 0) → JJ X0 G B M2_goOnFrom 47 [some (.ref (B + o)), some (.int (nI s)), some (.int (nI c)), some (.int (nI i))] [] n (wO B o (gfK nd s w i) mb nd h) 0 0 (eqP none n (wO B o (gfK nd s w c) mb nd h)) := by
          intro hs
          first | refine jj_inc rfl rfl ?_ | refine jj_s (pc' := 50) rfl rfl ?_
          refine jj_s (pc' := 2) rfl rfl ?_
          exact jj_h (by rw [gfK, if_neg hs]) (ih (i + 1) (by omega) (by omega))
        refine jj_s (pc' := 8) rfl rfl ?_
        refine jj_s (pc' := 9) rfl rfl ?_
        refine jj_t2 rfl rfl rfl rfl rfl (c_has (by omega)) ?_
        rw [bt_nI (by omega)]
        refine jj_zF 47 rfl rfl (fun c2 => ?_) (fun c2 => ?_)
        · exact skip (fun z => by rw [c2] at z; cases z.1)
        · refine jj_s (pc' := 16) rfl rfl ?_
          refine jj_g rfl rfl wO_o rfl ?_
          refine jj_s (pc' := 20) rfl rfl ?_
          refine jj_ialdN rfl wO_d (by omega) rfl ?_
          refine jj_s (pc' := 22) rfl rfl ?_
          refine jj_s (pc' := 23) rfl rfl ?_
          refine jj_s (pc' := 24) rfl rfl ?_
          refine jj_s (pc' := 25) rfl rfl ?_
          refine jj_if_ne 47 rfl rfl (fun c3 => ?_) (fun c3 => ?_)
          · exact skip (fun z => c3 z.2)
          · obtain ⟨o1, o2⟩ := nI_or (i := i) hs (by omega)
            refine jj_s (pc' := 29) rfl rfl ?_
            refine jj_g rfl rfl wO_o rfl ?_
            refine jj_s (pc' := 33) rfl rfl ?_
            refine jj_s (pc' := 34) rfl rfl ?_
            refine jj_s (pc' := 35) rfl rfl ?_
            refine jj_s (pc' := 36) rfl rfl ?_
            refine jj_s (pc' := 37) rfl rfl ?_
            refine jj_st (st' := [.int (nI (s ||| 2 ^ i)), .ref (B + (o + 1))]) (by rw [← o1]; rfl) ?_
            refine jj_s (pc' := 38) rfl rfl ?_
            refine jj_laldN rfl wO_w o2 rfl ?_
            refine jj_s (pc' := 40) rfl rfl ?_
            refine jj_g rfl rfl wO_o rfl ?_
            refine jj_s (pc' := 44) rfl rfl ?_
            refine jj_laldN rfl wO_w hs rfl ?_
            refine jj_s (pc' := 46) rfl rfl ?_
            refine jj_lastN rfl wO_w o2 rfl (jj_h wO_pw ?_)
            first | refine jj_inc rfl rfl ?_ | refine jj_s (pc' := 50) rfl rfl ?_
            refine jj_s (pc' := 2) rfl rfl ?_
            exact jj_h (by rw [gfK, if_pos ⟨c2, c3⟩]) (ih (i + 1) (by omega) (by omega))
  exact L (c + 1) 0 (by omega) (by omega)
def w0K (w : Nat → Int64) : Nat → (Nat → Int64)
  | 0 => w
  | k + 1 => vp_updL (w0K w k) k 0
def cwK (nd : Nat → Int32) (c : Nat) (w : Nat → Int64) : Nat → (Nat → Int64)
  | 0 => vp_updL (w0K w (2 ^ c)) 0 1
  | s + 1 => if cwK nd c w s s = 0 then cwK nd c w s else gfK nd s (cwK nd c w s) c
theorem all_nI {c : Nat} (hc : c ≤ 12) : bit c - 1 = nI (2 ^ c - 1) ∧ 2 ^ c ≤ 4096 ∧ 1 ≤ 2 ^ c := by
  have h : ∀ c, c ≤ 12 → bit c - 1 = nI (2 ^ c - 1) := by decide +kernel
  exact ⟨h c hc, by simpa using Nat.pow_le_pow_right (n := 2) (by decide) hc, Nat.one_le_two_pow⟩
theorem lcmp0 (x : Int64) : lg_cmp x 0 = 0 ↔ x = 0 := by
  unfold lg_cmp
  by_cases h : x = 0
  · subst h; simp
  · rcases Int64.lt_or_lt_of_ne h with q | q
    · have q2 : ¬ (0 : Int64) < x := Int64.lt_asymm q
      simp [h, q2]
    · simp [h, q]
set_option maxHeartbeats 4000000 in
set_option maxRecDepth 100000 in
 theorem c_countFor {G : GC} {B n : Nat} {h : HT} {o a : Nat} {w : Nat → Int64} {mb nd bf : Nat → Int32} (op : Int32) (mm : Nat → Nat) (hm : ∀ i, i < (lmK op mb 20).2 → (lmK op mb 20).1 i = nI (mm i) ∧ mm i < 20) (hb : h a = some (ia 20 bf)) (ha : a < o ∨ o + 4 ≤ a) : CtJ G B M2_countFor [.ref (B + o), .int op, .ref (B + a)] n (wO B o w mb nd h) 0 0 (eqP (some (.long (cwK (lnK bf mm (lmK op mb 20).2 nd (lmK op mb 20).2) (lmK op mb 20).2 w (2 ^ (lmK op mb 20).2 - 1) (2 ^ (lmK op mb 20).2 - 1)))) n (wO B o (cwK (lnK bf mm (lmK op mb 20).2 nd (lmK op mb 20).2) (lmK op mb 20).2 w (2 ^ (lmK op mb 20).2 - 1)) (lmK op mb 20).1 (lnK bf mm (lmK op mb 20).2 nd (lmK op mb 20).2) h)) := by
  have hle := lmK_le op mb 20
  unfold CtJ
  refine jj_lv (lv' := [some (.ref (B + o)), some (.int op), some (.ref (B + a)), none, none, none]) rfl ?_
  refine jj_s (pc' := 1) rfl rfl ?_
  refine jj_s (pc' := 2) rfl rfl ?_
  refine jj_v1 rfl rfl rfl wO_o rfl rfl (c_listMembers op) ?_
  generalize hce : (lmK op mb 20).2 = c at hle hm ⊢
  generalize (lmK op mb 20).1 = mb at hm ⊢
  refine jj_s (pc' := 6) rfl rfl ?_
  refine jj_s (pc' := 7) rfl rfl ?_
  refine jj_s (pc' := 8) rfl rfl ?_
  refine jj_s (pc' := 9) rfl rfl ?_
  refine jj_w2 rfl rfl rfl wO_o rfl rfl (c_listNeeds mm hle hm hb ha) ?_
  generalize lnK bf mm c nd c = nd
  refine jj_s (pc' := 13) rfl rfl ?_
  refine jj_s (pc' := 14) rfl rfl ?_
  refine jj_s (pc' := 15) rfl rfl ?_
  refine jj_s (pc' := 16) rfl rfl ?_
  refine jj_s (pc' := 17) rfl rfl ?_
  refine jj_s (pc' := 19) rfl rfl ?_
  refine jj_s (pc' := 20) rfl rfl ?_
  refine jj_s (pc' := 22) rfl rfl ?_
  obtain ⟨a1, a2, a3⟩ := all_nI hle
  refine jj_lv (lv' := [some (.ref (B + o)), some (.int op), some (.ref (B + a)), some (.int (nI c)), some (.int (nI (2 ^ c - 1))), some (.int (nI 0))]) (by rw [← a1]; rfl) ?_
  have L1 : ∀ d k, k + d = 2 ^ c → JJ X0 G B M2_countFor 22 [some (.ref (B + o)), some (.int op), some (.ref (B + a)), some (.int (nI c)), some (.int (nI (2 ^ c - 1))), some (.int (nI k))] [] n (wO B o (w0K w k) mb nd h) 0 0 (eqP (some (.long (cwK nd c w (2 ^ c - 1) (2 ^ c - 1)))) n (wO B o (cwK nd c w (2 ^ c - 1)) mb nd h)) := by
    intro d
    induction d with
    | zero =>
      intro k hk
      have hk : k = 2 ^ c := by omega
      subst hk
      refine jj_s (pc' := 24) rfl rfl ?_
      refine jj_s (pc' := 26) rfl rfl ?_
      refine jj_icmp_gt 43 rfl rfl (fun c1 => ?_) (fun c1 => absurd ((nI_ltI (a := 2 ^ c - 1) (b := 2 ^ c) (by omega) (by omega)).mpr (by omega)) c1)
      refine jj_s (pc' := 44) rfl rfl ?_
      refine jj_g rfl rfl wO_o rfl ?_
      refine jj_s (pc' := 48) rfl rfl ?_
      refine jj_s (pc' := 49) rfl rfl ?_
      refine jj_lastN (j := 0) rfl wO_w (by omega) rfl (jj_h wO_pw ?_)
      refine jj_s (pc' := 51) rfl rfl ?_
      refine jj_s (pc' := 53) rfl rfl ?_
      have L2 : ∀ d s, s + d = 2 ^ c - 1 → JJ X0 G B M2_countFor 53 [some (.ref (B + o)), some (.int op), some (.ref (B + a)), some (.int (nI c)), some (.int (nI (2 ^ c - 1))), some (.int (nI s))] [] n (wO B o (cwK nd c w s) mb nd h) 0 0 (eqP (some (.long (cwK nd c w (2 ^ c - 1) (2 ^ c - 1)))) n (wO B o (cwK nd c w (2 ^ c - 1)) mb nd h)) := by
        intro d
        induction d with
        | zero =>
          intro s hs
          have hs : s = 2 ^ c - 1 := by omega
          subst hs
          refine jj_s (pc' := 55) rfl rfl ?_
          refine jj_s (pc' := 57) rfl rfl ?_
          refine jj_geN 85 rfl rfl (by omega) (by omega) (fun c2 => ?_) (fun c2 => absurd c2 (by omega))
          refine jj_s (pc' := 86) rfl rfl ?_
          refine jj_g rfl rfl wO_o rfl ?_
          refine jj_s (pc' := 91) rfl rfl ?_
          refine jj_laldN rfl wO_w (by omega) rfl ?_
          exact jj_lret rfl rfl ⟨rfl, rfl, rfl⟩
        | succ d ihs =>
          intro s hs
          refine jj_s (pc' := 55) rfl rfl ?_
          refine jj_s (pc' := 57) rfl rfl ?_
          refine jj_geN 85 rfl rfl (by omega) (by omega) (fun c2 => absurd c2 (by omega)) (fun c2 => ?_)
          refine jj_s (pc' := 61) rfl rfl ?_
          refine jj_g rfl rfl wO_o rfl ?_
          refine jj_s (pc' := 66) rfl rfl ?_
          refine jj_laldN rfl wO_w (by omega) rfl ?_
          refine jj_s (pc' := 68) rfl rfl ?_
          refine jj_lcmp rfl ?_
          refine jj_if_eq 79 rfl rfl (fun c3 => ?_) (fun c3 => ?_)
          · have c3 := (lcmp0 _).mp c3
            first | refine jj_inc rfl rfl ?_ | refine jj_s (pc' := 82) rfl rfl ?_
            refine jj_s (pc' := 53) rfl rfl ?_
            exact jj_h (by rw [cwK, if_pos c3]) (ihs (s + 1) (by omega))
          · have c3 := fun z => c3 ((lcmp0 _).mpr z)
            refine jj_s (pc' := 73) rfl rfl ?_
            refine jj_s (pc' := 75) rfl rfl ?_
            refine jj_s (pc' := 76) rfl rfl ?_
            refine jj_w2 rfl rfl rfl wO_o rfl rfl (c_goOnFrom (by omega) hle) ?_
            first | refine jj_inc rfl rfl ?_ | refine jj_s (pc' := 82) rfl rfl ?_
            refine jj_s (pc' := 53) rfl rfl ?_
            exact jj_h (by rw [cwK, if_neg c3]) (ihs (s + 1) (by omega))
      exact L2 (2 ^ c - 1) 0 (by omega)
    | succ d ih =>
      intro k hk
      refine jj_s (pc' := 24) rfl rfl ?_
      refine jj_s (pc' := 26) rfl rfl ?_
      refine jj_icmp_gt 43 rfl rfl (fun c1 => absurd ((nI_ltI (a := 2 ^ c - 1) (b := k) (by omega) (by omega)).mp c1) (by omega)) (fun c1 => ?_)
      refine jj_s (pc' := 30) rfl rfl ?_
      refine jj_g rfl rfl wO_o rfl ?_
      refine jj_s (pc' := 35) rfl rfl ?_
      refine jj_s (pc' := 36) rfl rfl ?_
      refine jj_lastN rfl wO_w (by omega) rfl (jj_h wO_pw ?_)
      first | refine jj_inc rfl rfl ?_ | refine jj_s (pc' := 40) rfl rfl ?_
      refine jj_s (pc' := 22) rfl rfl ?_
      exact ih (k + 1) (by omega)
  exact L1 (2 ^ c) 0 (by omega)
end
section
/-! Text: its object at o, its draft at o + 1, its codes at o + 15 -/
abbrev tob (B o len at' : Nat) : AE := ob 6 [.int (nI len), .ref (B + (o + 1)), .ref (B + (o + 15)), .int (nI at')]
def wT (B o len at' : Nat) (C : Nat → Int32) (h : HT) : HT := fun k => if k = o then some (tob B o len at') else if k = o + 15 then some (ia 200 C) else h k
/-- with the draft -/
abbrev wX (B o len at' : Nat) (C : Nat → Int32) (N : Nat) (S : Nat → Int32) (F : Nat → Nat → Int32) (h : HT) : HT := wQ B (o + 1) N S F (wT B o len at' C h)
theorem wX_o {B o len at' : Nat} {C : Nat → Int32} {N : Nat} {S : Nat → Int32} {F : Nat → Nat → Int32} {h : HT} : wX B o len at' C N S F h o = some (tob B o len at') := (wQ_n (by omega)).trans (if_pos rfl)
theorem wX_c {B o len at' : Nat} {C : Nat → Int32} {N : Nat} {S : Nat → Int32} {F : Nat → Nat → Int32} {h : HT} : wX B o len at' C N S F h (o + 15) = some (ia 200 C) := (wQ_n (by omega)).trans (by unfold wT; rw [if_neg (by omega), if_pos rfl])
theorem wX_pc {B o len at' : Nat} {C C' : Nat → Int32} {N : Nat} {S : Nat → Int32} {F : Nat → Nat → Int32} {h : HT} : hu (wX B o len at' C N S F h) (o + 15) (ia 200 C') = wX B o len at' C' N S F h := by
  refine (wQ_hu (by omega)).trans ?_
  congr 1
  funext k
  by_cases e : k = o + 15
  · subst e; rw [hu_s]; unfold wT; rw [if_neg (by omega), if_pos rfl]
  · rw [hu_n _ _ _ e]; unfold wT; simp only [e, if_false]
theorem wX_po {B o len at' len2 at2 : Nat} {C : Nat → Int32} {N : Nat} {S : Nat → Int32} {F : Nat → Nat → Int32} {h : HT} {fs : List Value} (he : ob 6 fs = tob B o len2 at2) : hu (wX B o len at' C N S F h) o (ob 6 fs) = wX B o len2 at2 C N S F h := by
  rw [he]
  refine (wQ_hu (by omega)).trans ?_
  congr 1
  funext k
  by_cases e : k = o
  · subst e; rw [hu_s]; unfold wT; rw [if_pos rfl]
  · rw [hu_n _ _ _ e]; unfold wT; simp only [e, if_false]
theorem jj_tat {X : State → Prop} {G : GC} {B : Nat} {y : MT} {pc : Nat} {lv : List (Option Value)} {st : List Value} {n : Nat} {h : HT} {kc ks : Nat} {post : Option Value → Nat → HT → Prop} {o len a : Nat} {C : Nat → Int32} {N : Nat} {S : Nat → Int32} {F : Nat → Nat → Int32} {idx : Nat} (hd : lk (M_tb y) pc = some (.putfield idx)) (hf : fld (M_own y) idx = some (6, 3)) (K : JJ X G B y (pc + 3) lv st n (wX B o len (a + 1) C N S F h) kc ks post) : JJ X G B y pc lv (.int (nI a + Int32.ofInt 1) :: .ref (B + o) :: st) n (wX B o len a C N S F h) kc ks post := by
  refine jj_p hd hf rfl rfl wX_o rfl (jj_h (wX_po (len2 := len) (at2 := a + 1) ?_) K)
  show ob 6 [.int (nI len), .ref (B + (o + 1)), .ref (B + (o + 15)), .int (nI a + Int32.ofInt 1)] = ob 6 [.int (nI len), .ref (B + (o + 1)), .ref (B + (o + 15)), .int (nI (a + 1))]
  rw [show nI a + Int32.ofInt 1 = nI (a + 1) from nI_1 a]
def cH (C : Nat → Int32) (len a : Nat) : Int32 := if a < len then C a else 0
set_option maxHeartbeats 4000000 in
set_option maxRecDepth 100000 in
 theorem c_codeHere {G : GC} {B n : Nat} {h : HT} {o len a : Nat} {C : Nat → Int32} {N : Nat} {S : Nat → Int32} {F : Nat → Nat → Int32} (hl : len ≤ 200) (ha : a < 1000) : CtJ G B M6_codeHere [.ref (B + o)] n (wX B o len a C N S F h) 0 0 (eqP (some (.int (cH C len a))) n (wX B o len a C N S F h)) := by
  unfold CtJ
  refine jj_lv (lv' := [some (.ref (B + o))]) rfl ?_
  refine jj_s (pc' := 1) rfl rfl ?_
  refine jj_g rfl rfl wX_o rfl ?_
  refine jj_s (pc' := 5) rfl rfl ?_
  refine jj_g rfl rfl wX_o rfl ?_
  refine jj_geN 23 rfl rfl (by omega) (by omega) (fun c => ?_) (fun c => ?_)
  · refine jj_s (pc' := 24) rfl rfl ?_
    exact jj_iret rfl rfl ⟨by rw [cH, if_neg (by omega)]; rfl, rfl, rfl⟩
  · refine jj_s (pc' := 12) rfl rfl ?_
    refine jj_g rfl rfl wX_o rfl ?_
    refine jj_s (pc' := 16) rfl rfl ?_
    refine jj_g rfl rfl wX_o rfl ?_
    refine jj_ialdN rfl wX_c (by omega) rfl ?_
    refine jj_s (pc' := 24) rfl rfl ?_
    exact jj_iret rfl rfl ⟨by rw [cH, if_pos c], rfl, rfl⟩
def isD (c : Int32) : Bool := decide (48 ≤ c ∧ c ≤ 57)
set_option maxHeartbeats 4000000 in
set_option maxRecDepth 100000 in
 theorem c_isDigit {G : GC} {B n : Nat} {h : HT} (x : Int32) : CtJ G B M6_isDigit [.int x] n h 0 0 (eqP (some (.int (bI (isD x)))) n h) := by
  unfold CtJ
  refine jj_lv (lv' := [some (.int x)]) rfl ?_
  refine jj_s (pc' := 1) rfl rfl ?_
  refine jj_s (pc' := 3) rfl rfl ?_
  refine jj_icmp_lt 16 rfl rfl (fun (c1 : x < 48) => ?_) (fun (c1 : ¬ x < 48) => ?_)
  · refine jj_s (pc' := 17) rfl rfl ?_
    exact jj_zret rfl rfl (Or.inl rfl) ⟨by simp [isD, bI, Int32.not_le.mpr c1], rfl, rfl⟩
  · refine jj_s (pc' := 7) rfl rfl ?_
    refine jj_s (pc' := 9) rfl rfl ?_
    refine jj_icmp_gt 16 rfl rfl (fun (c2 : 57 < x) => ?_) (fun (c2 : ¬ 57 < x) => ?_)
    · refine jj_s (pc' := 17) rfl rfl ?_
      exact jj_zret rfl rfl (Or.inl rfl) ⟨by simp [isD, bI, Int32.not_le.mpr c2], rfl, rfl⟩
    · refine jj_s (pc' := 13) rfl rfl ?_
      refine jj_s (pc' := 17) rfl rfl ?_
      exact jj_zret rfl rfl (Or.inr rfl) ⟨by simp [isD, bI, Int32.not_lt.mp c1, Int32.not_lt.mp c2], rfl, rfl⟩
/-- a digit's number -/
def dv (c : Int32) : Nat := (c - 48).toNatClampNeg
theorem isD_dv {c : Int32} (h : isD c = true) : c - 48 = nI (dv c) ∧ dv c ≤ 9 ∧ c = nI (dv c + 48) := by
  have h := of_decide_eq_true h
  obtain ⟨j, h1, h2⟩ := nI_of2 (x := c) (M := 57) (n := 57) rfl (fun z => absurd (Int32.lt_of_lt_of_le z (by decide : (0 : Int32) ≤ 48)) (Int32.not_lt.mpr h.1)) h.2
  have h3 : 48 ≤ j := by
    have := h.1
    rw [h2] at this
    exact (nI_leI (a := 48) (b := j) (by omega) (by omega)).mp this
  have e : c - 48 = nI (j - 48) := by rw [h2]; exact pk_sub (a := j) (b := 48) h3
  have e2 : dv c = j - 48 := by unfold dv; rw [e, nI_clamp (by omega)]
  rw [e2]
  exact ⟨e, by omega, by rw [h2]; congr 1; omega⟩
theorem num2 {c : Int32} (h : isD c = true) (d : Nat) : nI d * 10 + c - 48 = nI (10 * d + dv c) := by
  obtain ⟨-, -, g3⟩ := isD_dv h
  generalize dv c = e at g3 ⊢
  subst g3
  show nI d * nI 10 + nI (e + 48) - nI 48 = _
  rw [pk_mul, nI_add, pk_sub (by omega)]
  congr 1
  omega
theorem cH_0 {C : Nat → Int32} {len a : Nat} (h : ¬ cH C len a = 0) : a < len := by
  rcases Nat.lt_or_ge a len with q | q
  · exact q
  · exact absurd (by rw [cH, if_neg (by omega)]) h
theorem isD_lt {C : Nat → Int32} {len a : Nat} (h : isD (cH C len a) = true) : a < len := cH_0 (fun z => by rw [z] at h; exact absurd h (by decide))
def rN (C : Nat → Int32) (len a : Nat) : Option Nat × Nat := if isD (cH C len a) = true then (if isD (cH C len (a + 1)) = true then (some (10 * dv (cH C len a) + dv (cH C len (a + 1))), a + 2) else (some (dv (cH C len a)), a + 1)) else (none, a)
theorem rN_le {C : Nat → Int32} {len a : Nat} : a ≤ (rN C len a).2 ∧ ((rN C len a).2 ≤ len ∨ (rN C len a).2 = a) ∧ ∀ v, (rN C len a).1 = some v → v ≤ 99 := by
  unfold rN
  split
  next h1 =>
    have := isD_lt h1
    have g1 := (isD_dv h1).2.1
    split
    next h2 =>
      have := isD_lt h2
      have g2 := (isD_dv h2).2.1
      exact ⟨by simp, Or.inl (by simp; omega), fun v hv => by cases hv; omega⟩
    next => exact ⟨by simp, Or.inl (by simp; omega), fun v hv => by cases hv; omega⟩
  next => exact ⟨Nat.le_refl _, Or.inr rfl, fun v hv => by cases hv⟩
theorem m1_ne {b : Nat} (h : b < 2147483648) : ¬ nI b = -1 := by
  intro q
  have h1 := nI_pos (n := b) h
  rw [q] at h1
  exact h1 (by decide)
def enN (v : Option Nat) : Int32 := match v with
  | none => -1
  | some v => nI v
set_option maxHeartbeats 4000000 in
set_option maxRecDepth 100000 in
 theorem c_readNumber {G : GC} {B n : Nat} {h : HT} {o len a : Nat} {C : Nat → Int32} {N : Nat} {S : Nat → Int32} {F : Nat → Nat → Int32} (hl : len ≤ 200) (ha : a < 900) : CtJ G B M6_readNumber [.ref (B + o)] n (wX B o len a C N S F h) 0 0 (eqP (some (.int (enN (rN C len a).1))) n (wX B o len (rN C len a).2 C N S F h)) := by
  unfold CtJ
  refine jj_lv (lv' := [some (.ref (B + o)), none]) rfl ?_
  refine jj_s (pc' := 1) rfl rfl ?_
  refine jj_v0 rfl rfl rfl wX_o rfl rfl (c_codeHere hl (by omega)) ?_
  refine jj_t1 rfl rfl rfl rfl rfl (c_isDigit _) ?_
  refine jj_zF 12 rfl rfl (fun c1 => ?_) (fun c1 => ?_)
  · obtain ⟨d1, d2, d3⟩ := isD_dv c1
    refine jj_s (pc' := 13) rfl rfl ?_
    refine jj_v0 rfl rfl rfl wX_o rfl rfl (c_codeHere hl (by omega)) ?_
    refine jj_s (pc' := 18) rfl rfl ?_
    refine jj_s (pc' := 19) rfl rfl ?_
    refine jj_s (pc' := 20) rfl rfl ?_
    refine jj_lv (lv' := [some (.ref (B + o)), some (.int (nI (dv (cH C len a))))]) (by rw [← d1]; rfl) ?_
    refine jj_s (pc' := 21) rfl rfl ?_
    refine jj_s (pc' := 22) rfl rfl ?_
    refine jj_g rfl rfl wX_o rfl ?_
    refine jj_s (pc' := 26) rfl rfl ?_
    refine jj_s (pc' := 27) rfl rfl ?_
    refine jj_tat rfl rfl ?_
    refine jj_s (pc' := 31) rfl rfl ?_
    refine jj_v0 rfl rfl rfl wX_o rfl rfl (c_codeHere hl (by omega)) ?_
    refine jj_t1 rfl rfl rfl rfl rfl (c_isDigit _) ?_
    refine jj_zT 63 rfl rfl (fun c2 => ?_) (fun c2 => ?_)
    · have e : rN C len a = (some (dv (cH C len a)), a + 1) := by rw [rN, if_pos c1, if_neg (by rw [c2]; decide)]
      refine jj_s (pc' := 64) rfl rfl ?_
      exact jj_iret rfl rfl ⟨by rw [e]; rfl, rfl, by rw [e]⟩
    · have e : rN C len a = (some (10 * dv (cH C len a) + dv (cH C len (a + 1))), a + 2) := by rw [rN, if_pos c1, if_pos c2]
      obtain ⟨g1, g2, g3⟩ := isD_dv c2
      refine jj_s (pc' := 41) rfl rfl ?_
      refine jj_s (pc' := 43) rfl rfl ?_
      refine jj_s (pc' := 44) rfl rfl ?_
      refine jj_s (pc' := 45) rfl rfl ?_
      refine jj_v0 rfl rfl rfl wX_o rfl rfl (c_codeHere hl (by omega)) ?_
      refine jj_s (pc' := 49) rfl rfl ?_
      refine jj_s (pc' := 51) rfl rfl ?_
      refine jj_s (pc' := 52) rfl rfl ?_
      refine jj_s (pc' := 53) rfl rfl ?_
      refine jj_lv (lv' := [some (.ref (B + o)), some (.int (nI (10 * dv (cH C len a) + dv (cH C len (a + 1)))))]) (by rw [← num2 c2 (dv (cH C len a))]; rfl) ?_
      refine jj_s (pc' := 54) rfl rfl ?_
      refine jj_s (pc' := 55) rfl rfl ?_
      refine jj_g rfl rfl wX_o rfl ?_
      refine jj_s (pc' := 59) rfl rfl ?_
      refine jj_s (pc' := 60) rfl rfl ?_
      refine jj_tat rfl rfl ?_
      refine jj_s (pc' := 64) rfl rfl ?_
      exact jj_iret rfl rfl ⟨by rw [e]; rfl, rfl, by rw [e]⟩
  · have e : rN C len a = (none, a) := by rw [rN, if_neg (by rw [c1]; decide)]
    refine jj_s (pc' := 11) rfl rfl ?_
    exact jj_iret rfl rfl ⟨by rw [e]; rfl, rfl, by rw [e]⟩
/-- the edges of item t -/
def rE (C : Nat → Int32) (len t : Nat) : Nat → (Nat → Nat → Int32) → Nat → Int32 × (Nat → Nat → Int32) × Nat
  | 0, F, a => (-7, F, a + 1)
  | m + 1, F, a => if cH C len a = 59 then (-7, F, a + 1) else if cH C len a = 60 ∨ cH C len a = 33 then (match (rN C len (a + 1)).1 with
      | none => (nI (a + 1), F, (rN C len (a + 1)).2)
      | some v => if v < t ∧ bt (prd F t) v = false then rE C len t m (ptF F v t (if cH C len a = 60 then 0 else 1)) (rN C len (a + 1)).2 else (nI (a + 1), F, (rN C len (a + 1)).2)) else (nI a, F, a)
set_option maxHeartbeats 4000000 in
set_option maxRecDepth 100000 in
 theorem c_readEdges {G : GC} {B n : Nat} {h : HT} {o len a : Nat} {C : Nat → Int32} {N : Nat} {S : Nat → Int32} {F : Nat → Nat → Int32} (hl : len ≤ 200) (ha : a ≤ 210) {t : Nat} (ht : t < 20) : CtJ G B M6_readEdges [.ref (B + o), .int (nI t)] n (wX B o len a C N S F h) 0 0 (eqP (some (.int (rE C len t 200 F a).1)) n (wX B o len (rE C len t 200 F a).2.2 C N S (rE C len t 200 F a).2.1 h)) := by
  unfold CtJ
  refine jj_lv (lv' := [some (.ref (B + o)), some (.int (nI t)), none, none, none, none, none]) rfl ?_
  refine jj_s (pc' := 1) rfl rfl ?_
  refine jj_s (pc' := 2) rfl rfl ?_
  have L : ∀ m (F : Nat → Nat → Int32) a z1 z2 z3 z4, m ≤ 200 → a ≤ 210 → JJ X0 G B M6_readEdges 2 [some (.ref (B + o)), some (.int (nI t)), some (.int (nI (200 - m))), z1, z2, z3, z4] [] n (wX B o len a C N S F h) 0 0 (eqP (some (.int (rE C len t m F a).1)) n (wX B o len (rE C len t m F a).2.2 C N S (rE C len t m F a).2.1 h)) := by
    intro m
    induction m with
    | zero =>
      intro F a z1 z2 z3 z4 h0 ha
      refine jj_s (pc' := 3) rfl rfl ?_
      refine jj_s (pc' := 6) rfl rfl ?_
      refine jj_icmp_ge 132 rfl rfl (fun c => ?_) (fun c => absurd (by decide) c)
      refine jj_s (pc' := 133) rfl rfl ?_
      refine jj_s (pc' := 134) rfl rfl ?_
      refine jj_g rfl rfl wX_o rfl ?_
      refine jj_s (pc' := 138) rfl rfl ?_
      refine jj_s (pc' := 139) rfl rfl ?_
      refine jj_tat rfl rfl ?_
      refine jj_s (pc' := 144) rfl rfl ?_
      exact jj_iret rfl rfl ⟨rfl, rfl, rfl⟩
    | succ m ih =>
      intro F a z1 z2 z3 z4 h0 ha
      refine jj_s (pc' := 3) rfl rfl ?_
      refine jj_s (pc' := 6) rfl rfl ?_
      refine jj_geN (b := 200) 132 rfl rfl (by omega) (by omega) (fun c => absurd c (by omega)) (fun c => ?_)
      refine jj_s (pc' := 10) rfl rfl ?_
      refine jj_v0 rfl rfl rfl wX_o rfl rfl (c_codeHere hl (by omega)) ?_
      refine jj_s (pc' := 15) rfl rfl ?_
      refine jj_icmp_eq 132 rfl rfl (fun (c1 : cH C len a = 59) => ?_) (fun (c1 : ¬ cH C len a = 59) => ?_)
      · have e : rE C len t (m + 1) F a = (-7, F, a + 1) := by rw [rE, if_pos c1]
        refine jj_s (pc' := 133) rfl rfl ?_
        refine jj_s (pc' := 134) rfl rfl ?_
        refine jj_g rfl rfl wX_o rfl ?_
        refine jj_s (pc' := 138) rfl rfl ?_
        refine jj_s (pc' := 139) rfl rfl ?_
        refine jj_tat rfl rfl ?_
        refine jj_s (pc' := 144) rfl rfl ?_
        exact jj_iret rfl rfl ⟨by rw [e]; rfl, rfl, by rw [e]⟩
      · have G40 : (cH C len a = 60 ∨ cH C len a = 33) → JJ X0 G B M6_readEdges 40 [some (.ref (B + o)), some (.int (nI t)), some (.int (nI (200 - (m + 1)))), some (.int (cH C len a)), z2, z3, z4] [] n (wX B o len a C N S F h) 0 0 (eqP (some (.int (rE C len t (m + 1) F a).1)) n (wX B o len (rE C len t (m + 1) F a).2.2 C N S (rE C len t (m + 1) F a).2.1 h)) := by
          intro c2
          have hal : a < len := cH_0 (fun z => by rw [z] at c2; exact absurd c2 (by decide))
          have e0 := c2
          refine jj_s (pc' := 41) rfl rfl ?_
          refine jj_s (pc' := 42) rfl rfl ?_
          refine jj_g rfl rfl wX_o rfl ?_
          refine jj_s (pc' := 46) rfl rfl ?_
          refine jj_s (pc' := 47) rfl rfl ?_
          refine jj_tat rfl rfl ?_
          refine jj_s (pc' := 51) rfl rfl ?_
          refine jj_g rfl rfl wX_o rfl ?_
          refine jj_s (pc' := 56) rfl rfl ?_
          refine jj_s (pc' := 57) rfl rfl ?_
          refine jj_v0 rfl rfl rfl wX_o rfl rfl (c_readNumber hl (by omega)) ?_
          obtain ⟨q1, q2, q3⟩ := rN_le (C := C) (len := len) (a := a + 1)
          have er : rE C len t (m + 1) F a = (match (rN C len (a + 1)).1 with
            | none => (nI (a + 1), F, (rN C len (a + 1)).2)
            | some v => if v < t ∧ bt (prd F t) v = false then rE C len t m (ptF F v t (if cH C len a = 60 then 0 else 1)) (rN C len (a + 1)).2 else (nI (a + 1), F, (rN C len (a + 1)).2)) := by rw [rE, if_neg c1, if_pos c2]
          rw [er]
          generalize hr1 : (rN C len (a + 1)).1 = r1 at q3 ⊢
          generalize hr2 : (rN C len (a + 1)).2 = a2 at q1 q2 ⊢
          cases r1 with
          | none =>
            refine jj_s (pc' := 62) rfl rfl ?_
            refine jj_s (pc' := 64) rfl rfl ?_
            refine jj_s (pc' := 65) rfl rfl ?_
            refine jj_icmp_eq 78 rfl rfl (fun c3 => ?_) (fun c3 => absurd rfl c3)
            refine jj_s (pc' := 79) rfl rfl ?_
            refine jj_s (pc' := 81) rfl rfl ?_
            refine jj_s (pc' := 83) rfl rfl ?_
            refine jj_if_eq 102 rfl rfl (fun c4 => ?_) (fun c4 => absurd rfl c4)
            refine jj_s (pc' := 104) rfl rfl ?_
            exact jj_iret rfl rfl ⟨rfl, rfl, rfl⟩
          | some v =>
            have hv := q3 v rfl
            refine jj_s (pc' := 62) rfl rfl ?_
            refine jj_s (pc' := 64) rfl rfl ?_
            refine jj_s (pc' := 65) rfl rfl ?_
            refine jj_icmp_eq 78 rfl rfl (fun c3 => absurd c3 (m1_ne (by omega))) (fun c3 => ?_)
            refine jj_lv (lv' := [some (.ref (B + o)), some (.int (nI t)), some (.int (nI (200 - (m + 1)))), some (.int (cH C len a)), some (.int (nI (a + 1))), some (.int (nI v)), z4]) rfl ?_
            refine jj_s (pc' := 70) rfl rfl ?_
            refine jj_s (pc' := 71) rfl rfl ?_
            refine jj_geN 78 rfl rfl (by omega) (by omega) (fun c4 => ?_) (fun c4 => ?_)
            · refine jj_s (pc' := 79) rfl rfl ?_
              refine jj_s (pc' := 81) rfl rfl ?_
              refine jj_s (pc' := 83) rfl rfl ?_
              refine jj_if_eq 102 rfl rfl (fun c5 => ?_) (fun c5 => absurd rfl c5)
              refine jj_s (pc' := 104) rfl rfl ?_
              have e : (if v < t ∧ bt (prd F t) v = false then rE C len t m (ptF F v t (if cH C len a = 60 then 0 else 1)) a2 else (nI (a + 1), F, a2)) = (nI (a + 1), F, a2) := if_neg (fun z => by omega)
              exact jj_iret rfl rfl ⟨by dsimp only; rw [e], rfl, by dsimp only; rw [e]⟩
            · refine jj_s (pc' := 75) rfl rfl ?_
              refine jj_s (pc' := 79) rfl rfl ?_
              refine jj_s (pc' := 81) rfl rfl ?_
              refine jj_s (pc' := 83) rfl rfl ?_
              refine jj_if_eq 102 rfl rfl (fun c5 => absurd c5 (by decide)) (fun c5 => ?_)
              refine jj_s (pc' := 87) rfl rfl ?_
              refine jj_g rfl rfl wX_o rfl ?_
              refine jj_s (pc' := 91) rfl rfl ?_
              refine jj_v1 rfl rfl rfl wQ_o rfl rfl (c_predecessors ht) ?_
              refine jj_s (pc' := 96) rfl rfl ?_
              refine jj_t2 rfl rfl rfl rfl rfl (c_has (by omega)) ?_
              refine jj_zT 105 rfl rfl (fun c6 => ?_) (fun c6 => ?_)
              · have e : (if v < t ∧ bt (prd F t) v = false then rE C len t m (ptF F v t (if cH C len a = 60 then 0 else 1)) a2 else (nI (a + 1), F, a2)) = rE C len t m (ptF F v t (if cH C len a = 60 then 0 else 1)) a2 := if_pos ⟨c4, c6⟩
                dsimp only
                rw [e]
                refine jj_s (pc' := 106) rfl rfl ?_
                refine jj_g rfl rfl wX_o rfl ?_
                refine jj_s (pc' := 111) rfl rfl ?_
                refine jj_s (pc' := 112) rfl rfl ?_
                refine jj_s (pc' := 113) rfl rfl ?_
                refine jj_s (pc' := 115) rfl rfl ?_
                refine jj_icmp_ne 122 rfl rfl (fun (c7 : ¬ cH C len a = 60) => ?_) (fun (c7 : cH C len a = 60) => ?_)
                · rw [if_neg c7]
                  refine jj_s (pc' := 123) rfl rfl ?_
                  refine jj_w3 rfl rfl rfl wQ_o rfl rfl (c_putEdge ht _) ?_
                  first | refine jj_inc rfl rfl ?_ | refine jj_s (pc' := 129) rfl rfl ?_
                  refine jj_s (pc' := 2) rfl rfl ?_
                  refine jj_lv ?_ (ih (ptF F v t 1) a2 (some (.int (cH C len a))) (some (.int (nI (a + 1)))) (some (.int (nI v))) (some (.int 1)) (by omega) (by omega))
                  rw [show 200 - (m + 1) + 1 = 200 - m by omega]; rfl
                · rw [if_pos c7]
                  refine jj_s (pc' := 119) rfl rfl ?_
                  refine jj_s (pc' := 123) rfl rfl ?_
                  refine jj_w3 rfl rfl rfl wQ_o rfl rfl (c_putEdge ht _) ?_
                  first | refine jj_inc rfl rfl ?_ | refine jj_s (pc' := 129) rfl rfl ?_
                  refine jj_s (pc' := 2) rfl rfl ?_
                  refine jj_lv ?_ (ih (ptF F v t 0) a2 (some (.int (cH C len a))) (some (.int (nI (a + 1)))) (some (.int (nI v))) (some (.int 1)) (by omega) (by omega))
                  rw [show 200 - (m + 1) + 1 = 200 - m by omega]; rfl
              · refine jj_s (pc' := 104) rfl rfl ?_
                have e : (if v < t ∧ bt (prd F t) v = false then rE C len t m (ptF F v t (if cH C len a = 60 then 0 else 1)) a2 else (nI (a + 1), F, a2)) = (nI (a + 1), F, a2) := if_neg (fun z => by rw [c6] at z; cases z.2)
                exact jj_iret rfl rfl ⟨by dsimp only; rw [e], rfl, by dsimp only; rw [e]⟩
        refine jj_s (pc' := 19) rfl rfl ?_
        refine jj_v0 rfl rfl rfl wX_o rfl rfl (c_codeHere hl (by omega)) ?_
        refine jj_s (pc' := 23) rfl rfl ?_
        refine jj_s (pc' := 24) rfl rfl ?_
        refine jj_s (pc' := 26) rfl rfl ?_
        refine jj_icmp_eq 40 rfl rfl (fun (c2 : cH C len a = 60) => ?_) (fun (c2 : ¬ cH C len a = 60) => ?_)
        · exact G40 (Or.inl c2)
        · refine jj_s (pc' := 30) rfl rfl ?_
          refine jj_s (pc' := 32) rfl rfl ?_
          refine jj_icmp_eq 40 rfl rfl (fun (c3 : cH C len a = 33) => ?_) (fun (c3 : ¬ cH C len a = 33) => ?_)
          · exact G40 (Or.inr c3)
          · have e : rE C len t (m + 1) F a = (nI a, F, a) := by rw [rE, if_neg c1, if_neg (fun z => z.elim c2 c3)]
            refine jj_s (pc' := 36) rfl rfl ?_
            refine jj_g rfl rfl wX_o rfl ?_
            exact jj_iret rfl rfl ⟨by rw [e], rfl, by rw [e]⟩
  exact L 200 F a none none none none (by omega) ha
/-- one item -/
def rI (C : Nat → Int32) (len N : Nat) (F : Nat → Nat → Int32) (a : Nat) : Int32 × Nat × (Nat → Nat → Int32) × Nat :=
  if N = 20 ∨ isD (cH C len a) = false then (nI a, N, F, a) else if ¬ cH C len (a + 1) = 119 then (nI (a + 1), N, F, a + 1) else
    match (rN C len (a + 2)).1 with
    | none => (nI (a + 2), N, F, (rN C len (a + 2)).2)
    | some v => if 1 ≤ v ∧ v ≤ 20 then ((rE C len N 200 (apF F N (cH C len a - 48) (nI v) 3 0 0) (rN C len (a + 2)).2).1, N + 1, (rE C len N 200 (apF F N (cH C len a - 48) (nI v) 3 0 0) (rN C len (a + 2)).2).2.1, (rE C len N 200 (apF F N (cH C len a - 48) (nI v) 3 0 0) (rN C len (a + 2)).2).2.2) else (nI (a + 2), N, F, (rN C len (a + 2)).2)
set_option maxHeartbeats 4000000 in
set_option maxRecDepth 100000 in
 theorem c_readItem {G : GC} {B n : Nat} {h : HT} {o len a : Nat} {C : Nat → Int32} {N : Nat} {S : Nat → Int32} {F : Nat → Nat → Int32} (hl : len ≤ 200) (ha : a ≤ 201) (hN : N ≤ 20) : CtJ G B M6_readItem [.ref (B + o)] n (wX B o len a C N S F h) 0 0 (eqP (some (.int (rI C len N F a).1)) n (wX B o len (rI C len N F a).2.2.2 C (rI C len N F a).2.1 S (rI C len N F a).2.2.1 h)) := by
  unfold CtJ
  refine jj_lv (lv' := [some (.ref (B + o)), none, none, none]) rfl ?_
  have G20 : (N = 20 ∨ isD (cH C len a) = false) → JJ X0 G B M6_readItem 20 [some (.ref (B + o)), none, none, none] [] n (wX B o len a C N S F h) 0 0 (eqP (some (.int (rI C len N F a).1)) n (wX B o len (rI C len N F a).2.2.2 C (rI C len N F a).2.1 S (rI C len N F a).2.2.1 h)) := by
    intro hc
    have e : rI C len N F a = (nI a, N, F, a) := by rw [rI, if_pos hc]
    refine jj_s (pc' := 21) rfl rfl ?_
    refine jj_g rfl rfl wX_o rfl ?_
    exact jj_iret rfl rfl ⟨by rw [e], rfl, by rw [e]⟩
  refine jj_s (pc' := 1) rfl rfl ?_
  refine jj_g rfl rfl wX_o rfl ?_
  refine jj_v0 rfl rfl rfl wQ_o rfl rfl c_isFull ?_
  refine jj_zF 20 rfl rfl (fun c1 => ?_) (fun c1 => ?_)
  · exact G20 (Or.inl (by have := (nI_leI (a := 20) (b := N) (by omega) (by omega)).mp (of_decide_eq_true c1); omega))
  · have c1 : ¬ N = 20 := fun z => of_decide_eq_false c1 (nI_le (a := 20) (b := N) (by omega) (by omega))
    refine jj_s (pc' := 11) rfl rfl ?_
    refine jj_v0 rfl rfl rfl wX_o rfl rfl (c_codeHere hl (by omega)) ?_
    refine jj_t1 rfl rfl rfl rfl rfl (c_isDigit _) ?_
    refine jj_zF 25 rfl rfl (fun c2 => ?_) (fun c2 => G20 (Or.inr c2))
    have hc : ¬ (N = 20 ∨ isD (cH C len a) = false) := fun z => z.elim c1 (fun z => by rw [c2] at z; cases z)
    refine jj_s (pc' := 26) rfl rfl ?_
    refine jj_v0 rfl rfl rfl wX_o rfl rfl (c_codeHere hl (by omega)) ?_
    refine jj_s (pc' := 31) rfl rfl ?_
    refine jj_s (pc' := 32) rfl rfl ?_
    refine jj_s (pc' := 33) rfl rfl ?_
    refine jj_s (pc' := 34) rfl rfl ?_
    refine jj_s (pc' := 35) rfl rfl ?_
    refine jj_g rfl rfl wX_o rfl ?_
    refine jj_s (pc' := 39) rfl rfl ?_
    refine jj_s (pc' := 40) rfl rfl ?_
    refine jj_tat rfl rfl ?_
    refine jj_s (pc' := 44) rfl rfl ?_
    refine jj_v0 rfl rfl rfl wX_o rfl rfl (c_codeHere hl (by omega)) ?_
    refine jj_s (pc' := 49) rfl rfl ?_
    refine jj_icmp_eq 57 rfl rfl (fun (c3 : cH C len (a + 1) = 119) => ?_) (fun (c3 : ¬ cH C len (a + 1) = 119) => ?_)
    · refine jj_s (pc' := 58) rfl rfl ?_
      refine jj_s (pc' := 59) rfl rfl ?_
      refine jj_g rfl rfl wX_o rfl ?_
      refine jj_s (pc' := 63) rfl rfl ?_
      refine jj_s (pc' := 64) rfl rfl ?_
      refine jj_tat rfl rfl ?_
      refine jj_s (pc' := 68) rfl rfl ?_
      refine jj_g rfl rfl wX_o rfl ?_
      refine jj_s (pc' := 72) rfl rfl ?_
      refine jj_s (pc' := 73) rfl rfl ?_
      refine jj_v0 rfl rfl rfl wX_o rfl rfl (c_readNumber hl (by omega)) ?_
      obtain ⟨q1, q2, q3⟩ := rN_le (C := C) (len := len) (a := a + 2)
      have hal := isD_lt c2
      refine jj_s (pc' := 77) rfl rfl ?_
      refine jj_s (pc' := 78) rfl rfl ?_
      refine jj_s (pc' := 79) rfl rfl ?_
      refine jj_s (pc' := 81) rfl rfl ?_
      refine jj_tn3 rfl rfl rfl rfl rfl (c_isWithin _ _ _) ?_
      refine jj_zF 89 rfl rfl (fun c4 => ?_) (fun c4 => ?_)
      · have c4 := of_decide_eq_true c4
        have hv : ∃ v, (rN C len (a + 2)).1 = some v ∧ 1 ≤ v ∧ v ≤ 20 := by
          cases hr : (rN C len (a + 2)).1 with
          | none => rw [show a + 1 + 1 = a + 2 from rfl, hr] at c4; exact absurd c4.1 (by decide)
          | some v =>
            rw [show a + 1 + 1 = a + 2 from rfl, hr] at c4
            have hv := q3 v hr
            exact ⟨v, rfl, (nI_leI (a := 1) (b := v) (by omega) (by omega)).mp c4.1, (nI_leI (a := v) (b := 20) (by omega) (by omega)).mp c4.2⟩
        obtain ⟨v, hr, v1, v2⟩ := hv
        have e : rI C len N F a = ((rE C len N 200 (apF F N (cH C len a - 48) (nI v) 3 0 0) (rN C len (a + 2)).2).1, N + 1, (rE C len N 200 (apF F N (cH C len a - 48) (nI v) 3 0 0) (rN C len (a + 2)).2).2.1, (rE C len N 200 (apF F N (cH C len a - 48) (nI v) 3 0 0) (rN C len (a + 2)).2).2.2) := by
          rw [rI, if_neg hc, if_neg (fun z => z c3), hr]
          dsimp only
          rw [if_pos ⟨v1, v2⟩]
        rw [e]
        rw [show a + 1 + 1 = a + 2 from rfl, hr]
        generalize (rN C len (a + 2)).2 = a2 at q1 q2 ⊢
        refine jj_s (pc' := 90) rfl rfl ?_
        refine jj_s (pc' := 91) rfl rfl ?_
        refine jj_g rfl rfl wX_o rfl ?_
        refine jj_s (pc' := 95) rfl rfl ?_
        refine jj_s (pc' := 96) rfl rfl ?_
        refine jj_s (pc' := 97) rfl rfl ?_
        refine jj_s (pc' := 98) rfl rfl ?_
        refine jj_s (pc' := 99) rfl rfl ?_
        refine jj_v5 rfl rfl rfl wQ_o rfl rfl (c_append (by omega) _ _ _ _ _) ?_
        refine jj_v1 rfl rfl rfl wX_o rfl rfl (c_readEdges hl (by omega) (by omega)) ?_
        exact jj_iret rfl rfl ⟨rfl, rfl, rfl⟩
      · have c4 := of_decide_eq_false c4
        have e : rI C len N F a = (nI (a + 2), N, F, (rN C len (a + 2)).2) := by
          rw [rI, if_neg hc, if_neg (fun z => z c3)]
          cases hr : (rN C len (a + 2)).1 with
          | none => rfl
          | some v =>
            dsimp only
            rw [if_neg]
            intro z
            have hv := q3 v hr
            rw [show a + 1 + 1 = a + 2 from rfl, hr] at c4
            exact c4 ⟨nI_le (a := 1) (b := v) z.1 (by omega), nI_le (a := v) (b := 20) z.2 (by omega)⟩
        rw [e]
        refine jj_s (pc' := 88) rfl rfl ?_
        exact jj_iret rfl rfl ⟨rfl, rfl, rfl⟩
    · have e : rI C len N F a = (nI (a + 1), N, F, a + 1) := by rw [rI, if_neg hc, if_pos c3]
      rw [e]
      refine jj_s (pc' := 53) rfl rfl ?_
      refine jj_g rfl rfl wX_o rfl ?_
      exact jj_iret rfl rfl ⟨rfl, rfl, rfl⟩
/-- the reading: at most m items more -/
def rdL (C : Nat → Int32) (len : Nat) : Nat → Int32 → Nat → (Nat → Nat → Int32) → Nat → Int32 × Nat × (Nat → Nat → Int32) × Nat
  | 0, r, N, F, a => (r, N, F, a)
  | m + 1, r, N, F, a => if a < len ∧ r = -7 then rdL C len m (rI C len N F a).1 (rI C len N F a).2.1 (rI C len N F a).2.2.1 (rI C len N F a).2.2.2 else (r, N, F, a)
theorem rE_le (C : Nat → Int32) {len : Nat} (t : Nat) : ∀ m F a, a ≤ len + 1 → (rE C len t m F a).2.2 ≤ len + 2 ∧ ((rE C len t m F a).1 = -7 → m = 0 ∨ (rE C len t m F a).2.2 ≤ len ∨ True) := by
  intro m
  induction m with
  | zero => intro F a ha; exact ⟨by simp [rE]; omega, fun _ => Or.inl rfl⟩
  | succ m ih =>
    intro F a ha
    refine ⟨?_, fun _ => Or.inr (Or.inr trivial)⟩
    unfold rE
    split
    next c1 => show a + 1 ≤ len + 2; omega
    next =>
      split
      next c2 =>
        have hal : a < len := cH_0 (fun z => by rw [z] at c2; exact absurd c2 (by decide))
        obtain ⟨q1, q2, q3⟩ := rN_le (C := C) (len := len) (a := a + 1)
        split
        next => show (rN C len (a + 1)).2 ≤ len + 2; omega
        next =>
          split
          next => exact (ih _ _ (by omega)).1
          next => show (rN C len (a + 1)).2 ≤ len + 2; omega
      next => show a ≤ len + 2; omega
theorem rI_le (C : Nat → Int32) {len N : Nat} (F : Nat → Nat → Int32) {a : Nat} (ha : a < len) (hN : N ≤ 20) : (rI C len N F a).2.2.2 ≤ len + 2 ∧ (rI C len N F a).2.1 ≤ 20 := by
  obtain ⟨q1, q2, q3⟩ := rN_le (C := C) (len := len) (a := a + 2)
  unfold rI
  split
  next => exact ⟨by show a ≤ len + 2; omega, hN⟩
  next hc =>
    split
    next => exact ⟨by show a + 1 ≤ len + 2; omega, hN⟩
    next c3 =>
      have hal : a + 1 < len := cH_0 (fun z => by rw [z] at c3; exact c3 (by decide))
      split
      next => exact ⟨by show (rN C len (a + 2)).2 ≤ len + 2; omega, hN⟩
      next =>
        split
        next => exact ⟨(rE_le C N 200 _ _ (by omega)).1, by have : ¬ N = 20 := fun z => hc (Or.inl z); show N + 1 ≤ 20; omega⟩
        next => exact ⟨by show (rN C len (a + 2)).2 ≤ len + 2; omega, hN⟩
def rdS (C : Nat → Int32) (len : Nat) (F : Nat → Nat → Int32) : Int32 × Nat × (Nat → Nat → Int32) × Nat := rdL C len 200 (-7) 0 F 0
set_option maxHeartbeats 4000000 in
set_option maxRecDepth 100000 in
 theorem c_read {G : GC} {B n : Nat} {h : HT} {o len a : Nat} {C : Nat → Int32} {N : Nat} {S : Nat → Int32} {F : Nat → Nat → Int32} (hl : len ≤ 200) : CtJ G B M6_read [.ref (B + o)] n (wX B o len a C N S F h) 0 0 (eqP (some (.int (rdS C len F).1)) n (wX B o len (rdS C len F).2.2.2 C (rdS C len F).2.1 S (rdS C len F).2.2.1 h)) := by
  unfold CtJ
  refine jj_lv (lv' := [some (.ref (B + o)), none, none]) rfl ?_
  refine jj_s (pc' := 1) rfl rfl ?_
  refine jj_g rfl rfl wX_o rfl ?_
  refine jj_w0 rfl rfl rfl wQ_o rfl rfl c_removeItems ?_
  refine jj_s (pc' := 8) rfl rfl ?_
  refine jj_s (pc' := 9) rfl rfl ?_
  refine jj_p rfl rfl rfl rfl wX_o rfl (jj_h (wX_po (len2 := len) (at2 := 0) rfl) ?_)
  refine jj_s (pc' := 14) rfl rfl ?_
  refine jj_s (pc' := 15) rfl rfl ?_
  refine jj_s (pc' := 16) rfl rfl ?_
  refine jj_s (pc' := 17) rfl rfl ?_
  unfold rdS
  have L : ∀ m r N (F : Nat → Nat → Int32) a, m ≤ 200 → N ≤ 20 → a ≤ len + 2 → JJ X0 G B M6_read 17 [some (.ref (B + o)), some (.int r), some (.int (nI (200 - m)))] [] n (wX B o len a C N S F h) 0 0 (eqP (some (.int (rdL C len m r N F a).1)) n (wX B o len (rdL C len m r N F a).2.2.2 C (rdL C len m r N F a).2.1 S (rdL C len m r N F a).2.2.1 h)) := by
    intro m
    induction m with
    | zero =>
      intro r N F a h0 hN ha
      refine jj_s (pc' := 18) rfl rfl ?_
      refine jj_s (pc' := 21) rfl rfl ?_
      refine jj_icmp_ge 52 rfl rfl (fun c => ?_) (fun c => absurd (by decide) c)
      refine jj_s (pc' := 53) rfl rfl ?_
      exact jj_iret rfl rfl ⟨rfl, rfl, rfl⟩
    | succ m ih =>
      intro r N F a h0 hN ha
      refine jj_s (pc' := 18) rfl rfl ?_
      refine jj_s (pc' := 21) rfl rfl ?_
      refine jj_geN (b := 200) 52 rfl rfl (by omega) (by omega) (fun c => absurd c (by omega)) (fun c => ?_)
      have stop : ¬ (a < len ∧ r = -7) → JJ X0 G B M6_read 52 [some (.ref (B + o)), some (.int r), some (.int (nI (200 - (m + 1))))] [] n (wX B o len a C N S F h) 0 0 (eqP (some (.int (rdL C len (m + 1) r N F a).1)) n (wX B o len (rdL C len (m + 1) r N F a).2.2.2 C (rdL C len (m + 1) r N F a).2.1 S (rdL C len (m + 1) r N F a).2.2.1 h)) := by
        intro hc
        have e : rdL C len (m + 1) r N F a = (r, N, F, a) := by rw [rdL, if_neg hc]
        rw [e]
        refine jj_s (pc' := 53) rfl rfl ?_
        exact jj_iret rfl rfl ⟨rfl, rfl, rfl⟩
      refine jj_s (pc' := 25) rfl rfl ?_
      refine jj_g rfl rfl wX_o rfl ?_
      refine jj_s (pc' := 29) rfl rfl ?_
      refine jj_g rfl rfl wX_o rfl ?_
      refine jj_geN 52 rfl rfl (by omega) (by omega) (fun c1 => stop (fun z => by omega)) (fun c1 => ?_)
      refine jj_s (pc' := 36) rfl rfl ?_
      refine jj_s (pc' := 38) rfl rfl ?_
      refine jj_icmp_ne 52 rfl rfl (fun c2 => stop (fun z => c2 z.2)) (fun (c2 : r = -7) => ?_)
      have e : rdL C len (m + 1) r N F a = rdL C len m (rI C len N F a).1 (rI C len N F a).2.1 (rI C len N F a).2.2.1 (rI C len N F a).2.2.2 := by rw [rdL, if_pos ⟨c1, c2⟩]
      rw [e]
      refine jj_s (pc' := 42) rfl rfl ?_
      refine jj_v0 rfl rfl rfl wX_o rfl rfl (c_readItem hl (by omega) hN) ?_
      refine jj_s (pc' := 46) rfl rfl ?_
      first | refine jj_inc rfl rfl ?_ | refine jj_s (pc' := 49) rfl rfl ?_
      refine jj_s (pc' := 17) rfl rfl ?_
      obtain ⟨w1, w2⟩ := rI_le C F c1 hN
      refine jj_lv ?_ (ih _ _ _ _ (by omega) w2 w1)
      rw [show 200 - (m + 1) + 1 = 200 - m by omega]; rfl
  exact L 200 (-7) 0 F 0 (by omega) (by omega) (by omega)
set_option maxHeartbeats 4000000 in
set_option maxRecDepth 100000 in
 theorem c_tappend {G : GC} {B n : Nat} {h : HT} {o len a : Nat} {C : Nat → Int32} {N : Nat} {S : Nat → Int32} {F : Nat → Nat → Int32} (hl : len < 200) (x : Int32) : CtJ G B M6_append [.ref (B + o), .int x] n (wX B o len a C N S F h) 0 0 (eqP none n (wX B o (len + 1) a (upd C len x) N S F h)) := by
  unfold CtJ
  refine jj_lv (lv' := [some (.ref (B + o)), some (.int x)]) rfl ?_
  refine jj_s (pc' := 1) rfl rfl ?_
  refine jj_g rfl rfl wX_o rfl ?_
  refine jj_s (pc' := 5) rfl rfl ?_
  refine jj_g rfl rfl wX_o rfl ?_
  refine jj_s (pc' := 9) rfl rfl ?_
  refine jj_iastN rfl wX_c hl rfl (jj_h wX_pc ?_)
  refine jj_s (pc' := 11) rfl rfl ?_
  refine jj_s (pc' := 12) rfl rfl ?_
  refine jj_g rfl rfl wX_o rfl ?_
  refine jj_s (pc' := 16) rfl rfl ?_
  refine jj_s (pc' := 17) rfl rfl ?_
  refine jj_p rfl rfl rfl rfl wX_o rfl (jj_h (wX_po (len2 := len + 1) (at2 := a) ?_) ?_)
  · show ob 6 [.int (nI len + Int32.ofInt 1), .ref (B + (o + 1)), .ref (B + (o + 15)), .int (nI a)] = ob 6 [.int (nI (len + 1)), .ref (B + (o + 1)), .ref (B + (o + 15)), .int (nI a)]
    rw [show nI len + Int32.ofInt 1 = nI (len + 1) from nI_1 len]
  · exact jj_vret rfl rfl ⟨rfl, rfl, rfl⟩
end
section
/-! the class's cells, all of them -/
def sQ (B q N : Nat) (S : Nat → Int32) (F : Nat → Nat → Int32) (H : HT) : Prop := H q = some (ob 5 (qobj B q N S)) ∧ ∀ j, j < 13 → H (q + (j + 1)) = some (ia 20 (F j))
def sA (o m : Nat) (obj : AE) (P : Nat → Nat → Int32) (H : HT) : Prop := H o = some obj ∧ ∀ j, j < m → H (o + (j + 1)) = some (ia 20 (P j))
theorem sQ.kept {B q N : Nat} {S : Nat → Int32} {F : Nat → Nat → Int32} {H H' : HT} (h : sQ B q N S F H) (e : ∀ k, q ≤ k → k < q + 14 → H' k = H k) : sQ B q N S F H' := ⟨(e _ (by omega) (by omega)).trans h.1, fun j hj => (e _ (by omega) (by omega)).trans (h.2 j hj)⟩
theorem sA.kept {o m : Nat} {obj : AE} {P : Nat → Nat → Int32} {H H' : HT} (h : sA o m obj P H) (e : ∀ k, o ≤ k → k < o + 1 + m → H' k = H k) : sA o m obj P H' := ⟨(e _ (by omega) (by omega)).trans h.1, fun j hj => (e _ (by omega) (by omega)).trans (h.2 j hj)⟩
theorem sQ.w {B q N : Nat} {S : Nat → Int32} {F : Nat → Nat → Int32} {H : HT} : sQ B q N S F (wQ B q N S F H) := ⟨wQ_o, fun _ hj => wQ_a hj⟩
theorem sA.w {o m : Nat} {obj : AE} {P : Nat → Nat → Int32} {H : HT} : sA o m obj P (wA o m obj P H) := ⟨wA_o, fun _ hj => wA_a hj⟩
theorem sQ.id {B q N : Nat} {S : Nat → Int32} {F : Nat → Nat → Int32} {H : HT} (h : sQ B q N S F H) : H = wQ B q N S F H := (wQ_id h.1 h.2).symm
theorem sA.id {o m : Nat} {obj : AE} {P : Nat → Nat → Int32} {H : HT} (h : sA o m obj P H) : H = wA o m obj P H := by
  funext k
  by_cases hk : k = o
  · subst hk; rw [wA_o, h.1]
  · by_cases h1 : o < k ∧ k < o + 1 + m
    · have := h.2 (k - (o + 1)) (by omega)
      rw [show o + (k - (o + 1) + 1) = k by omega] at this
      unfold wA
      rw [if_neg hk, if_pos h1, this]
    · exact (wA_n (by omega)).symm
theorem wA_comm {o m o' m' : Nat} {obj obj' : AE} {P P' : Nat → Nat → Int32} {H : HT} (hd : o + 1 + m ≤ o' ∨ o' + 1 + m' ≤ o) : wA o m obj P (wA o' m' obj' P' H) = wA o' m' obj' P' (wA o m obj P H) := by
  funext k
  by_cases h1 : o ≤ k ∧ k < o + 1 + m
  · rw [wA_n (o := o') (by omega)]
    unfold wA
    by_cases h2 : k = o
    · rw [if_pos h2, if_pos h2]
    · rw [if_neg h2, if_neg h2, if_pos (by omega), if_pos (by omega)]
  · rw [wA_n (o := o) (by omega)]
    unfold wA
    by_cases h2 : k = o'
    · rw [if_pos h2, if_pos h2]
    · rw [if_neg h2, if_neg h2]
      by_cases h3 : o' < k ∧ k < o' + 1 + m'
      · rw [if_pos h3, if_pos h3]
      · rw [if_neg h3, if_neg h3, if_neg (by omega), if_neg (by omega)]
abbrev dob (B : Nat) : AE := ob 8 [.ref (B + 1), .ref (B + 15), .ref (B + 16), .ref (B + 20), .ref (B + 23), .ref (B + 27), .ref (B + 31), .ref (B + 35)]
def sO (B : Nat) (w : Nat → Int64) (mb nd : Nat → Int32) (H : HT) : Prop := H 31 = some (oob B 31) ∧ H 32 = some (la 4096 w) ∧ H 33 = some (ia 12 mb) ∧ H 34 = some (ia 12 nd)
def sT (B len a : Nat) (C : Nat → Int32) (H : HT) : Prop := H 35 = some (tob B 35 len a) ∧ H 50 = some (ia 200 C)
theorem sO.id {B : Nat} {w : Nat → Int64} {mb nd : Nat → Int32} {H : HT} (h : sO B w mb nd H) : H = wO B 31 w mb nd H := by
  funext k
  unfold wO
  by_cases h0 : k = 31
  · subst h0; rw [if_pos rfl]; exact h.1
  · by_cases h1 : k = 32
    · subst h1; rw [if_neg (by omega), if_pos rfl]; exact h.2.1
    · by_cases h2 : k = 33
      · subst h2; rw [if_neg (by omega), if_neg (by omega), if_pos rfl]; exact h.2.2.1
      · by_cases h3 : k = 34
        · subst h3; rw [if_neg (by omega), if_neg (by omega), if_neg (by omega), if_pos rfl]; exact h.2.2.2
        · rw [if_neg h0, if_neg h1, if_neg h2, if_neg h3]
theorem sT.id {B len a : Nat} {C : Nat → Int32} {H : HT} (h : sT B len a C H) : H = wT B 35 len a C H := by
  funext k
  unfold wT
  by_cases h0 : k = 35
  · subst h0; rw [if_pos rfl]; exact h.1
  · by_cases h1 : k = 50
    · subst h1; rw [if_neg (by omega), if_pos rfl]; exact h.2
    · rw [if_neg h0, if_neg h1]
/-- everything, also what is only used within a call -/
def CLx (B N : Nat) (S : Nat → Int32) (F : Nat → Nat → Int32) (f : Nat → Option Nat) (wl : Int32) (len : Nat) (C : Nat → Int32) (P Wr : Nat → Nat → Int32) (V : Nat → Int32) (Lr Cr : Nat → Nat → Int32) (w : Nat → Int64) (mb nd : Nat → Int32) (a Nd : Nat) (Sd : Nat → Int32) (Fd : Nat → Nat → Int32) (H : HT) : Prop :=
  H 0 = some (dob B) ∧ sQ B 1 N S F H ∧ H 15 = some (qa 2 f) ∧ sA 16 3 (pob B 16 1) P H ∧ sA 20 2 (wob B 20 wl) Wr H ∧ sA 23 3 (lob B 23 V) Lr H ∧ sA 27 3 (cob B 27) Cr H ∧ sO B w mb nd H ∧ sT B len a C H ∧ sQ B 36 Nd Sd Fd H
section
variable {B N : Nat} {S : Nat → Int32} {F : Nat → Nat → Int32} {f : Nat → Option Nat} {wl : Int32} {len : Nat} {C : Nat → Int32} {P Wr : Nat → Nat → Int32} {V : Nat → Int32} {Lr Cr : Nat → Nat → Int32} {w : Nat → Int64} {mb nd : Nat → Int32} {a Nd : Nat} {Sd : Nat → Int32} {Fd : Nat → Nat → Int32} {H : HT}
theorem CLx.q (h : CLx B N S F f wl len C P Wr V Lr Cr w mb nd a Nd Sd Fd H) (N' : Nat) (S' : Nat → Int32) (F' : Nat → Nat → Int32) : CLx B N' S' F' f wl len C P Wr V Lr Cr w mb nd a Nd Sd Fd (wQ B 1 N' S' F' H) := by
  obtain ⟨h0, h1, h2, h3, h4, h5, h6, h7, h8, h9⟩ := h
  have e : ∀ k, k < 1 ∨ 15 ≤ k → wQ B 1 N' S' F' H k = H k := fun k hk => wQ_n (by omega)
  exact ⟨(e _ (by omega)).trans h0, sQ.w, (e _ (by omega)).trans h2, h3.kept (fun k _ _ => e k (by omega)), h4.kept (fun k _ _ => e k (by omega)), h5.kept (fun k _ _ => e k (by omega)), h6.kept (fun k _ _ => e k (by omega)), ⟨(e _ (by omega)).trans h7.1, (e _ (by omega)).trans h7.2.1, (e _ (by omega)).trans h7.2.2.1, (e _ (by omega)).trans h7.2.2.2⟩, ⟨(e _ (by omega)).trans h8.1, (e _ (by omega)).trans h8.2⟩, h9.kept (fun k _ _ => e k (by omega))⟩
theorem CLx.p (h : CLx B N S F f wl len C P Wr V Lr Cr w mb nd a Nd Sd Fd H) (P' : Nat → Nat → Int32) : CLx B N S F f wl len C P' Wr V Lr Cr w mb nd a Nd Sd Fd (wA 16 3 (pob B 16 1) P' H) := by
  obtain ⟨h0, h1, h2, h3, h4, h5, h6, h7, h8, h9⟩ := h
  have e : ∀ k, k < 16 ∨ 20 ≤ k → wA 16 3 (pob B 16 1) P' H k = H k := fun k hk => wA_n (by omega)
  exact ⟨(e _ (by omega)).trans h0, h1.kept (fun k _ _ => e k (by omega)), (e _ (by omega)).trans h2, sA.w, h4.kept (fun k _ _ => e k (by omega)), h5.kept (fun k _ _ => e k (by omega)), h6.kept (fun k _ _ => e k (by omega)), ⟨(e _ (by omega)).trans h7.1, (e _ (by omega)).trans h7.2.1, (e _ (by omega)).trans h7.2.2.1, (e _ (by omega)).trans h7.2.2.2⟩, ⟨(e _ (by omega)).trans h8.1, (e _ (by omega)).trans h8.2⟩, h9.kept (fun k _ _ => e k (by omega))⟩
theorem CLx.wi (h : CLx B N S F f wl len C P Wr V Lr Cr w mb nd a Nd Sd Fd H) (wl' : Int32) (Wr' : Nat → Nat → Int32) : CLx B N S F f wl' len C P Wr' V Lr Cr w mb nd a Nd Sd Fd (wA 20 2 (wob B 20 wl') Wr' H) := by
  obtain ⟨h0, h1, h2, h3, h4, h5, h6, h7, h8, h9⟩ := h
  have e : ∀ k, k < 20 ∨ 23 ≤ k → wA 20 2 (wob B 20 wl') Wr' H k = H k := fun k hk => wA_n (by omega)
  exact ⟨(e _ (by omega)).trans h0, h1.kept (fun k _ _ => e k (by omega)), (e _ (by omega)).trans h2, h3.kept (fun k _ _ => e k (by omega)), sA.w, h5.kept (fun k _ _ => e k (by omega)), h6.kept (fun k _ _ => e k (by omega)), ⟨(e _ (by omega)).trans h7.1, (e _ (by omega)).trans h7.2.1, (e _ (by omega)).trans h7.2.2.1, (e _ (by omega)).trans h7.2.2.2⟩, ⟨(e _ (by omega)).trans h8.1, (e _ (by omega)).trans h8.2⟩, h9.kept (fun k _ _ => e k (by omega))⟩
theorem CLx.l (h : CLx B N S F f wl len C P Wr V Lr Cr w mb nd a Nd Sd Fd H) (V' : Nat → Int32) (Lr' : Nat → Nat → Int32) : CLx B N S F f wl len C P Wr V' Lr' Cr w mb nd a Nd Sd Fd (wA 23 3 (lob B 23 V') Lr' H) := by
  obtain ⟨h0, h1, h2, h3, h4, h5, h6, h7, h8, h9⟩ := h
  have e : ∀ k, k < 23 ∨ 27 ≤ k → wA 23 3 (lob B 23 V') Lr' H k = H k := fun k hk => wA_n (by omega)
  exact ⟨(e _ (by omega)).trans h0, h1.kept (fun k _ _ => e k (by omega)), (e _ (by omega)).trans h2, h3.kept (fun k _ _ => e k (by omega)), h4.kept (fun k _ _ => e k (by omega)), sA.w, h6.kept (fun k _ _ => e k (by omega)), ⟨(e _ (by omega)).trans h7.1, (e _ (by omega)).trans h7.2.1, (e _ (by omega)).trans h7.2.2.1, (e _ (by omega)).trans h7.2.2.2⟩, ⟨(e _ (by omega)).trans h8.1, (e _ (by omega)).trans h8.2⟩, h9.kept (fun k _ _ => e k (by omega))⟩
theorem CLx.c (h : CLx B N S F f wl len C P Wr V Lr Cr w mb nd a Nd Sd Fd H) (Cr' : Nat → Nat → Int32) : CLx B N S F f wl len C P Wr V Lr Cr' w mb nd a Nd Sd Fd (wA 27 3 (cob B 27) Cr' H) := by
  obtain ⟨h0, h1, h2, h3, h4, h5, h6, h7, h8, h9⟩ := h
  have e : ∀ k, k < 27 ∨ 31 ≤ k → wA 27 3 (cob B 27) Cr' H k = H k := fun k hk => wA_n (by omega)
  exact ⟨(e _ (by omega)).trans h0, h1.kept (fun k _ _ => e k (by omega)), (e _ (by omega)).trans h2, h3.kept (fun k _ _ => e k (by omega)), h4.kept (fun k _ _ => e k (by omega)), h5.kept (fun k _ _ => e k (by omega)), sA.w, ⟨(e _ (by omega)).trans h7.1, (e _ (by omega)).trans h7.2.1, (e _ (by omega)).trans h7.2.2.1, (e _ (by omega)).trans h7.2.2.2⟩, ⟨(e _ (by omega)).trans h8.1, (e _ (by omega)).trans h8.2⟩, h9.kept (fun k _ _ => e k (by omega))⟩
theorem CLx.o (h : CLx B N S F f wl len C P Wr V Lr Cr w mb nd a Nd Sd Fd H) (w' : Nat → Int64) (mb' nd' : Nat → Int32) : CLx B N S F f wl len C P Wr V Lr Cr w' mb' nd' a Nd Sd Fd (wO B 31 w' mb' nd' H) := by
  obtain ⟨h0, h1, h2, h3, h4, h5, h6, h7, h8, h9⟩ := h
  have e : ∀ k, k < 31 ∨ 35 ≤ k → wO B 31 w' mb' nd' H k = H k := fun k hk => wO_n (by omega)
  exact ⟨(e _ (by omega)).trans h0, h1.kept (fun k _ _ => e k (by omega)), (e _ (by omega)).trans h2, h3.kept (fun k _ _ => e k (by omega)), h4.kept (fun k _ _ => e k (by omega)), h5.kept (fun k _ _ => e k (by omega)), h6.kept (fun k _ _ => e k (by omega)), ⟨wO_o, wO_w, wO_m, wO_d⟩, ⟨(e _ (by omega)).trans h8.1, (e _ (by omega)).trans h8.2⟩, h9.kept (fun k _ _ => e k (by omega))⟩
theorem wX_n {B o len at' : Nat} {C : Nat → Int32} {N : Nat} {S : Nat → Int32} {F : Nat → Nat → Int32} {h : HT} {k : Nat} (hk : k < o ∨ o + 16 ≤ k) : wX B o len at' C N S F h k = h k := (wQ_n (by omega)).trans (by unfold wT; rw [if_neg (by omega), if_neg (by omega)])
theorem CLx.x (h : CLx B N S F f wl len C P Wr V Lr Cr w mb nd a Nd Sd Fd H) (len' a' : Nat) (C' : Nat → Int32) (Nd' : Nat) (Sd' : Nat → Int32) (Fd' : Nat → Nat → Int32) : CLx B N S F f wl len' C' P Wr V Lr Cr w mb nd a' Nd' Sd' Fd' (wX B 35 len' a' C' Nd' Sd' Fd' H) := by
  obtain ⟨h0, h1, h2, h3, h4, h5, h6, h7, h8, h9⟩ := h
  have e : ∀ k, k < 35 ∨ 51 ≤ k → wX B 35 len' a' C' Nd' Sd' Fd' H k = H k := fun k hk => wX_n (by omega)
  exact ⟨(e _ (by omega)).trans h0, h1.kept (fun k _ _ => e k (by omega)), (e _ (by omega)).trans h2, h3.kept (fun k _ _ => e k (by omega)), h4.kept (fun k _ _ => e k (by omega)), h5.kept (fun k _ _ => e k (by omega)), h6.kept (fun k _ _ => e k (by omega)), ⟨(e _ (by omega)).trans h7.1, (e _ (by omega)).trans h7.2.1, (e _ (by omega)).trans h7.2.2.1, (e _ (by omega)).trans h7.2.2.2⟩, ⟨wX_o, wX_c⟩, sQ.w⟩
theorem CLx.xid (h : CLx B N S F f wl len C P Wr V Lr Cr w mb nd a Nd Sd Fd H) : H = wX B 35 len a C Nd Sd Fd H := by
  have h1 := h.2.2.2.2.2.2.2.2.1.id
  have h2 := h.2.2.2.2.2.2.2.2.2.id
  show H = wQ B 36 Nd Sd Fd (wT B 35 len a C H)
  rw [← h1]
  exact h2
end
/-- what later calls can see of the class -/
def CL (B N : Nat) (S : Nat → Int32) (F : Nat → Nat → Int32) (f : Nat → Option Nat) (wl : Int32) (pt : Nat → Int32) (len : Nat) (C : Nat → Int32) (H : HT) : Prop := ∃ (P Wr : Nat → Nat → Int32) (V : Nat → Int32) (Lr Cr : Nat → Nat → Int32) (w : Nat → Int64) (mb nd : Nat → Int32) (a Nd : Nat) (Sd : Nat → Int32) (Fd : Nat → Nat → Int32), CLx B N S F f wl len C P Wr V Lr Cr w mb nd a Nd Sd Fd H ∧ Wr 0 = pt
/-- the other cells stay -/
def tl51 (H H' : HT) : Prop := ∀ k, 51 ≤ k → H' k = H k
end
section
/-! the class's calls: what they answer, and what they leave -/
def isN (N : Nat) (x : Int32) : Bool := decide (0 ≤ x ∧ x < nI N)
def ix (x : Int32) : Nat := x.toNatClampNeg
theorem ix_nI {i : Nat} (h : i < 2147483648) : ix (nI i) = i := nI_clamp h
theorem isN_of {N : Nat} (hN : N ≤ 20) {x : Int32} (h : isN N x = true) : ∃ i, i < N ∧ x = nI i := by
  have h := of_decide_eq_true h
  obtain ⟨j, h1, h2⟩ := nI_of (x := x) (Int32.not_lt.mpr h.1)
  subst h2
  exact ⟨j, (nI_ltI h1 (by omega)).mp h.2, rfl⟩
theorem isN_nI {N i : Nat} (hN : N ≤ 20) (h : i < N) : isN N (nI i) = true := decide_eq_true ⟨nI_pos' (by omega), nI_lt h (by omega)⟩
def wth (x a b : Int32) : Bool := decide (a ≤ x ∧ x ≤ b)
set_option maxHeartbeats 4000000 in
set_option maxRecDepth 100000 in
 theorem d_items {G : GC} {B n N : Nat} {S : Nat → Int32} {F : Nat → Nat → Int32} {f : Nat → Option Nat} {wl : Int32} {pt : Nat → Int32} {len : Nat} {C : Nat → Int32} {h : HT} (hN : N ≤ 20) (hC : CL B N S F f wl pt len C h) : CtJ G B M8_items [.ref (B + 0)] n h 0 0 (fun r2 n2 h2 => r2 = some (.int (nI N)) ∧ n2 = n ∧ CL B N S F f wl pt len C h2 ∧ tl51 h h2) := by
  obtain ⟨P, Wr, V, Lr, Cr, w, mb, nd, a, Nd, Sd, Fd, hc, hpt⟩ := hC
  have dO : ∀ N S F, wQ B 1 N S F h 0 = some (dob B) := fun N S F => (wQ_n (by omega)).trans hc.1
  have fin : ∀ N' S' F', CL B N' S' F' f wl pt len C (wQ B 1 N' S' F' h) ∧ tl51 h (wQ B 1 N' S' F' h) := fun N' S' F' => ⟨⟨P, Wr, V, Lr, Cr, w, mb, nd, a, Nd, Sd, Fd, hc.q _ _ _, hpt⟩, fun k hk => wQ_n (by omega)⟩
  unfold CtJ
  refine jj_lv (lv' := [some (.ref (B + 0))]) rfl ?_
  refine jj_h (h' := wQ B 1 N S F h) hc.2.1.id ?_
  refine jj_s (pc' := 1) rfl rfl ?_
  refine jj_g rfl rfl (dO _ _ _) rfl ?_
  refine jj_g rfl rfl wQ_o rfl ?_
  exact jj_iret rfl rfl ⟨rfl, rfl, fin _ _ _⟩
set_option maxHeartbeats 4000000 in
set_option maxRecDepth 100000 in
 theorem d_time {G : GC} {B n N : Nat} {S : Nat → Int32} {F : Nat → Nat → Int32} {f : Nat → Option Nat} {wl : Int32} {pt : Nat → Int32} {len : Nat} {C : Nat → Int32} {h : HT} (hN : N ≤ 20) (hC : CL B N S F f wl pt len C h) : CtJ G B M8_time [.ref (B + 0)] n h 0 0 (fun r2 n2 h2 => r2 = some (.int (S 1)) ∧ n2 = n ∧ CL B N S F f wl pt len C h2 ∧ tl51 h h2) := by
  obtain ⟨P, Wr, V, Lr, Cr, w, mb, nd, a, Nd, Sd, Fd, hc, hpt⟩ := hC
  have dO : ∀ N S F, wQ B 1 N S F h 0 = some (dob B) := fun N S F => (wQ_n (by omega)).trans hc.1
  have fin : ∀ N' S' F', CL B N' S' F' f wl pt len C (wQ B 1 N' S' F' h) ∧ tl51 h (wQ B 1 N' S' F' h) := fun N' S' F' => ⟨⟨P, Wr, V, Lr, Cr, w, mb, nd, a, Nd, Sd, Fd, hc.q _ _ _, hpt⟩, fun k hk => wQ_n (by omega)⟩
  unfold CtJ
  refine jj_lv (lv' := [some (.ref (B + 0))]) rfl ?_
  refine jj_h (h' := wQ B 1 N S F h) hc.2.1.id ?_
  refine jj_s (pc' := 1) rfl rfl ?_
  refine jj_g rfl rfl (dO _ _ _) rfl ?_
  refine jj_g rfl rfl wQ_o rfl ?_
  exact jj_iret rfl rfl ⟨rfl, rfl, fin _ _ _⟩
set_option maxHeartbeats 4000000 in
set_option maxRecDepth 100000 in
 theorem d_edges {G : GC} {B n N : Nat} {S : Nat → Int32} {F : Nat → Nat → Int32} {f : Nat → Option Nat} {wl : Int32} {pt : Nat → Int32} {len : Nat} {C : Nat → Int32} {h : HT} (hN : N ≤ 20) (hC : CL B N S F f wl pt len C h) : CtJ G B M8_edges [.ref (B + 0)] n h 0 0 (fun r2 n2 h2 => r2 = some (.int (sm (fun i => bcF (prd F i)) N)) ∧ n2 = n ∧ CL B N S F f wl pt len C h2 ∧ tl51 h h2) := by
  obtain ⟨P, Wr, V, Lr, Cr, w, mb, nd, a, Nd, Sd, Fd, hc, hpt⟩ := hC
  have dO : ∀ N S F, wQ B 1 N S F h 0 = some (dob B) := fun N S F => (wQ_n (by omega)).trans hc.1
  have fin : ∀ N' S' F', CL B N' S' F' f wl pt len C (wQ B 1 N' S' F' h) ∧ tl51 h (wQ B 1 N' S' F' h) := fun N' S' F' => ⟨⟨P, Wr, V, Lr, Cr, w, mb, nd, a, Nd, Sd, Fd, hc.q _ _ _, hpt⟩, fun k hk => wQ_n (by omega)⟩
  unfold CtJ
  refine jj_lv (lv' := [some (.ref (B + 0))]) rfl ?_
  refine jj_h (h' := wQ B 1 N S F h) hc.2.1.id ?_
  refine jj_s (pc' := 1) rfl rfl ?_
  refine jj_g rfl rfl (dO _ _ _) rfl ?_
  refine jj_v0 rfl rfl rfl wQ_o rfl rfl (c_edgeCount hN) ?_
  exact jj_iret rfl rfl ⟨rfl, rfl, fin _ _ _⟩
def zAdd (N : Nat) (S : Nat → Int32) (F : Nat → Nat → Int32) (p k t g d : Int32) : Int32 × Nat × (Nat → Nat → Int32) :=
  if (wth p 0 9 && wth k 1 20 && wth t 1 5 && wth g 0 3 && wth d 0 20) = true then (if N = 20 then (-3, N, F) else (nI N, N + 1, uF (uF (uF (apF F N p k t g d) 5 N 1) 6 N (S 1 + d)) 7 N (S 1))) else (-2, N, F)
set_option maxHeartbeats 4000000 in
set_option maxRecDepth 100000 in
 theorem d_add {G : GC} {B n N : Nat} {S : Nat → Int32} {F : Nat → Nat → Int32} {f : Nat → Option Nat} {wl : Int32} {pt : Nat → Int32} {len : Nat} {C : Nat → Int32} {h : HT} (hN : N ≤ 20) (hC : CL B N S F f wl pt len C h) (p k t g d : Int32) : CtJ G B M8_add [.ref (B + 0), .int p, .int k, .int t, .int g, .int d] n h 0 0 (fun r2 n2 h2 => r2 = some (.int ((zAdd N S F p k t g d).1)) ∧ n2 = n ∧ CL B (zAdd N S F p k t g d).2.1 S (zAdd N S F p k t g d).2.2 f wl pt len C h2 ∧ tl51 h h2) := by
  obtain ⟨P, Wr, V, Lr, Cr, w, mb, nd, a, Nd, Sd, Fd, hc, hpt⟩ := hC
  have dO : ∀ N S F, wQ B 1 N S F h 0 = some (dob B) := fun N S F => (wQ_n (by omega)).trans hc.1
  have fin : ∀ N' S' F', CL B N' S' F' f wl pt len C (wQ B 1 N' S' F' h) ∧ tl51 h (wQ B 1 N' S' F' h) := fun N' S' F' => ⟨⟨P, Wr, V, Lr, Cr, w, mb, nd, a, Nd, Sd, Fd, hc.q _ _ _, hpt⟩, fun k hk => wQ_n (by omega)⟩
  unfold CtJ
  refine jj_lv (lv' := [some (.ref (B + 0)), some (.int p), some (.int k), some (.int t), some (.int g), some (.int d), none, none]) rfl ?_
  refine jj_h (h' := wQ B 1 N S F h) hc.2.1.id ?_
  have bad : (wth p 0 9 && wth k 1 20 && wth t 1 5 && wth g 0 3 && wth d 0 20) = false → JJ X0 G B M8_add 54 [some (.ref (B + 0)), some (.int p), some (.int k), some (.int t), some (.int g), some (.int d), none, none] [] n (wQ B 1 N S F h) 0 0 (fun r2 n2 h2 => r2 = some (.int ((zAdd N S F p k t g d).1)) ∧ n2 = n ∧ CL B (zAdd N S F p k t g d).2.1 S (zAdd N S F p k t g d).2.2 f wl pt len C h2 ∧ tl51 h h2) := by
    intro hb
    have e : zAdd N S F p k t g d = (-2, N, F) := by rw [zAdd, if_neg (by rw [hb]; decide)]
    rw [e]
    refine jj_s (pc' := 55) rfl rfl ?_
    refine jj_s (pc' := 57) rfl rfl ?_
    refine jj_s (pc' := 59) rfl rfl ?_
    refine jj_if_ne 65 rfl rfl (fun c => absurd rfl c) (fun c => ?_)
    refine jj_s (pc' := 64) rfl rfl ?_
    exact jj_iret rfl rfl ⟨rfl, rfl, fin _ _ _⟩
  refine jj_s (pc' := 1) rfl rfl ?_
  refine jj_s (pc' := 2) rfl rfl ?_
  refine jj_s (pc' := 4) rfl rfl ?_
  refine jj_t3 rfl rfl rfl rfl rfl (c_isWithin _ _ _) ?_
  refine jj_zT 54 rfl rfl (fun c1 => bad (by rw [show wth p 0 9 = false from c1]; rfl)) (fun c1 => ?_)
  refine jj_s (pc' := 11) rfl rfl ?_
  refine jj_s (pc' := 12) rfl rfl ?_
  refine jj_s (pc' := 14) rfl rfl ?_
  refine jj_t3 rfl rfl rfl rfl rfl (c_isWithin _ _ _) ?_
  refine jj_zT 54 rfl rfl (fun c2 => bad (by rw [show wth k 1 20 = false from c2]; simp)) (fun c2 => ?_)
  refine jj_s (pc' := 21) rfl rfl ?_
  refine jj_s (pc' := 22) rfl rfl ?_
  refine jj_s (pc' := 23) rfl rfl ?_
  refine jj_t3 rfl rfl rfl rfl rfl (c_isWithin _ _ _) ?_
  refine jj_zT 54 rfl rfl (fun c3 => bad (by rw [show wth t 1 5 = false from c3]; simp)) (fun c3 => ?_)
  refine jj_s (pc' := 31) rfl rfl ?_
  refine jj_s (pc' := 32) rfl rfl ?_
  refine jj_s (pc' := 33) rfl rfl ?_
  refine jj_t3 rfl rfl rfl rfl rfl (c_isWithin _ _ _) ?_
  refine jj_zT 54 rfl rfl (fun c4 => bad (by rw [show wth g 0 3 = false from c4]; simp)) (fun c4 => ?_)
  refine jj_s (pc' := 41) rfl rfl ?_
  refine jj_s (pc' := 42) rfl rfl ?_
  refine jj_s (pc' := 44) rfl rfl ?_
  refine jj_t3 rfl rfl rfl rfl rfl (c_isWithin _ _ _) ?_
  refine jj_zT 54 rfl rfl (fun c5 => bad (by rw [show wth d 0 20 = false from c5]; simp)) (fun c5 => ?_)
  have ok : (wth p 0 9 && wth k 1 20 && wth t 1 5 && wth g 0 3 && wth d 0 20) = true := by rw [show wth p 0 9 = true from c1, show wth k 1 20 = true from c2, show wth t 1 5 = true from c3, show wth g 0 3 = true from c4, show wth d 0 20 = true from c5]; rfl
  refine jj_s (pc' := 51) rfl rfl ?_
  refine jj_s (pc' := 55) rfl rfl ?_
  refine jj_s (pc' := 57) rfl rfl ?_
  refine jj_s (pc' := 59) rfl rfl ?_
  refine jj_if_ne 65 rfl rfl (fun c => ?_) (fun c => absurd c (by decide))
  refine jj_s (pc' := 66) rfl rfl ?_
  refine jj_g rfl rfl (dO _ _ _) rfl ?_
  refine jj_v0 rfl rfl rfl wQ_o rfl rfl c_isFull ?_
  refine jj_zT 78 rfl rfl (fun c6 => ?_) (fun c6 => ?_)
  · have hlt : N < 20 := by
      rcases Nat.lt_or_ge N 20 with z | z
      · exact z
      · exact absurd (nI_le (a := 20) (b := N) z (by omega)) (of_decide_eq_false c6)
    have e : zAdd N S F p k t g d = (nI N, N + 1, uF (uF (uF (apF F N p k t g d) 5 N 1) 6 N (S 1 + d)) 7 N (S 1)) := by rw [zAdd, if_pos ok, if_neg (by omega)]
    rw [e]
    refine jj_s (pc' := 79) rfl rfl ?_
    refine jj_g rfl rfl (dO _ _ _) rfl ?_
    refine jj_s (pc' := 83) rfl rfl ?_
    refine jj_s (pc' := 84) rfl rfl ?_
    refine jj_s (pc' := 85) rfl rfl ?_
    refine jj_s (pc' := 87) rfl rfl ?_
    refine jj_s (pc' := 89) rfl rfl ?_
    refine jj_v5 rfl rfl rfl wQ_o rfl rfl (c_append hlt _ _ _ _ _) ?_
    refine jj_s (pc' := 94) rfl rfl ?_
    refine jj_s (pc' := 95) rfl rfl ?_
    refine jj_g rfl rfl (dO _ _ _) rfl ?_
    refine jj_s (pc' := 100) rfl rfl ?_
    refine jj_s (pc' := 102) rfl rfl ?_
    refine jj_w2 rfl rfl rfl wQ_o rfl rfl (c_makeReady hlt _) ?_
    refine jj_s (pc' := 107) rfl rfl ?_
    exact jj_iret rfl rfl ⟨rfl, rfl, fin _ _ _⟩
  · have hlt : N = 20 := by have := (nI_leI (a := 20) (b := N) (by omega) (by omega)).mp (of_decide_eq_true c6); omega
    have e : zAdd N S F p k t g d = (-3, N, F) := by rw [zAdd, if_pos ok, if_pos hlt]
    rw [e]
    refine jj_s (pc' := 77) rfl rfl ?_
    exact jj_iret rfl rfl ⟨rfl, rfl, fin _ _ _⟩
def zUnl (N : Nat) (S : Nat → Int32) (F : Nat → Nat → Int32) (x y : Int32) : Int32 × (Nat → Nat → Int32) :=
  if (isN N x && isN N y) = true then (if bt (prd F (ix y)) (ix x) = true ∧ (F 5 (ix y) = 0 ∨ F 5 (ix y) = 1) then (sm (fun i => bcF (prd (stl S N 1000 (drF F (ix x) (ix y))) i)) N, stl S N 1000 (drF F (ix x) (ix y))) else (-4, F)) else (-1, F)
set_option maxHeartbeats 4000000 in
set_option maxRecDepth 100000 in
 theorem d_unlink {G : GC} {B n N : Nat} {S : Nat → Int32} {F : Nat → Nat → Int32} {f : Nat → Option Nat} {wl : Int32} {pt : Nat → Int32} {len : Nat} {C : Nat → Int32} {h : HT} (hN : N ≤ 20) (hC : CL B N S F f wl pt len C h) (x y : Int32) : CtJ G B M8_unlink [.ref (B + 0), .int x, .int y] n h 0 0 (fun r2 n2 h2 => r2 = some (.int ((zUnl N S F x y).1)) ∧ n2 = n ∧ CL B N S (zUnl N S F x y).2 f wl pt len C h2 ∧ tl51 h h2) := by
  obtain ⟨P, Wr, V, Lr, Cr, w, mb, nd, a, Nd, Sd, Fd, hc, hpt⟩ := hC
  have dO : ∀ N S F, wQ B 1 N S F h 0 = some (dob B) := fun N S F => (wQ_n (by omega)).trans hc.1
  have fin : ∀ N' S' F', CL B N' S' F' f wl pt len C (wQ B 1 N' S' F' h) ∧ tl51 h (wQ B 1 N' S' F' h) := fun N' S' F' => ⟨⟨P, Wr, V, Lr, Cr, w, mb, nd, a, Nd, Sd, Fd, hc.q _ _ _, hpt⟩, fun k hk => wQ_n (by omega)⟩
  unfold CtJ
  refine jj_lv (lv' := [some (.ref (B + 0)), some (.int x), some (.int y)]) rfl ?_
  refine jj_h (h' := wQ B 1 N S F h) hc.2.1.id ?_
  have bad : (isN N x && isN N y) = false → JJ X0 G B M8_unlink 22 [some (.ref (B + 0)), some (.int x), some (.int y)] [] n (wQ B 1 N S F h) 0 0 (fun r2 n2 h2 => r2 = some (.int ((zUnl N S F x y).1)) ∧ n2 = n ∧ CL B N S (zUnl N S F x y).2 f wl pt len C h2 ∧ tl51 h h2) := by
    intro hb
    have e : zUnl N S F x y = (-1, F) := by rw [zUnl, if_neg (by rw [hb]; decide)]
    rw [e]
    refine jj_s (pc' := 23) rfl rfl ?_
    exact jj_iret rfl rfl ⟨rfl, rfl, fin _ _ _⟩
  refine jj_s (pc' := 1) rfl rfl ?_
  refine jj_g rfl rfl (dO _ _ _) rfl ?_
  refine jj_s (pc' := 5) rfl rfl ?_
  refine jj_v1 rfl rfl rfl wQ_o rfl rfl (c_holds _) ?_
  refine jj_zT 22 rfl rfl (fun c1 => bad (by rw [show isN N x = false from c1]; rfl)) (fun c1 => ?_)
  refine jj_s (pc' := 12) rfl rfl ?_
  refine jj_g rfl rfl (dO _ _ _) rfl ?_
  refine jj_s (pc' := 16) rfl rfl ?_
  refine jj_v1 rfl rfl rfl wQ_o rfl rfl (c_holds _) ?_
  refine jj_zF 24 rfl rfl (fun c2 => ?_) (fun c2 => bad (by rw [show isN N y = false from c2]; simp))
  have ok : (isN N x && isN N y) = true := by rw [show isN N x = true from c1, show isN N y = true from c2]; rfl
  obtain ⟨i, hi, rfl⟩ := isN_of hN c1
  obtain ⟨j, hj, rfl⟩ := isN_of hN c2
  have no : ¬ (bt (prd F j) i = true ∧ (F 5 j = 0 ∨ F 5 j = 1)) → JJ X0 G B M8_unlink 50 [some (.ref (B + 0)), some (.int (nI i)), some (.int (nI j))] [] n (wQ B 1 N S F h) 0 0 (fun r2 n2 h2 => r2 = some (.int ((zUnl N S F (nI i) (nI j)).1)) ∧ n2 = n ∧ CL B N S (zUnl N S F (nI i) (nI j)).2 f wl pt len C h2 ∧ tl51 h h2) := by
    intro hb
    have e : zUnl N S F (nI i) (nI j) = (-4, F) := by rw [zUnl, if_pos ok, ix_nI (by omega), ix_nI (by omega), if_neg hb]
    rw [e]
    refine jj_s (pc' := 52) rfl rfl ?_
    exact jj_iret rfl rfl ⟨rfl, rfl, fin _ _ _⟩
  refine jj_s (pc' := 25) rfl rfl ?_
  refine jj_g rfl rfl (dO _ _ _) rfl ?_
  refine jj_s (pc' := 29) rfl rfl ?_
  refine jj_v1 rfl rfl rfl wQ_o rfl rfl (c_predecessors (by omega)) ?_
  refine jj_s (pc' := 33) rfl rfl ?_
  refine jj_t2 rfl rfl rfl rfl rfl (c_has (by omega)) ?_
  refine jj_zT 50 rfl rfl (fun c3 => no (fun z => by rw [c3] at z; cases z.1)) (fun c3 => ?_)
  refine jj_s (pc' := 40) rfl rfl ?_
  refine jj_g rfl rfl (dO _ _ _) rfl ?_
  refine jj_s (pc' := 44) rfl rfl ?_
  refine jj_v1 rfl rfl rfl wQ_o rfl rfl (c_followsEdges (by omega)) ?_
  refine jj_zF 53 rfl rfl (fun c4 => ?_) (fun c4 => no (fun z => of_decide_eq_false c4 z.2))
  have e : zUnl N S F (nI i) (nI j) = (sm (fun k => bcF (prd (stl S N 1000 (drF F i j)) k)) N, stl S N 1000 (drF F i j)) := by rw [zUnl, if_pos ok, ix_nI (by omega), ix_nI (by omega), if_pos ⟨c3, of_decide_eq_true c4⟩]
  rw [e]
  refine jj_s (pc' := 54) rfl rfl ?_
  refine jj_g rfl rfl (dO _ _ _) rfl ?_
  refine jj_s (pc' := 58) rfl rfl ?_
  refine jj_s (pc' := 59) rfl rfl ?_
  refine jj_w2 rfl rfl rfl wQ_o rfl rfl (c_dropEdge (by omega)) ?_
  refine jj_s (pc' := 63) rfl rfl ?_
  refine jj_g rfl rfl (dO _ _ _) rfl ?_
  refine jj_w0 rfl rfl rfl wQ_o rfl rfl (c_settle hN) ?_
  refine jj_s (pc' := 70) rfl rfl ?_
  refine jj_g rfl rfl (dO _ _ _) rfl ?_
  refine jj_v0 rfl rfl rfl wQ_o rfl rfl (c_edgeCount hN) ?_
  exact jj_iret rfl rfl ⟨rfl, rfl, fin _ _ _⟩
def zPri (N : Nat) (F : Nat → Nat → Int32) (x p : Int32) : Int32 × (Nat → Nat → Int32) :=
  if isN N x = true then (if wth p 0 9 = true then (if 3 ≤ F 5 (ix x) then (-4, F) else (F 0 (ix x), uF F 0 (ix x) p)) else (-2, F)) else (-1, F)
set_option maxHeartbeats 4000000 in
set_option maxRecDepth 100000 in
 theorem d_setPriority {G : GC} {B n N : Nat} {S : Nat → Int32} {F : Nat → Nat → Int32} {f : Nat → Option Nat} {wl : Int32} {pt : Nat → Int32} {len : Nat} {C : Nat → Int32} {h : HT} (hN : N ≤ 20) (hC : CL B N S F f wl pt len C h) (x p : Int32) : CtJ G B M8_setPriority [.ref (B + 0), .int x, .int p] n h 0 0 (fun r2 n2 h2 => r2 = some (.int ((zPri N F x p).1)) ∧ n2 = n ∧ CL B N S (zPri N F x p).2 f wl pt len C h2 ∧ tl51 h h2) := by
  obtain ⟨P, Wr, V, Lr, Cr, w, mb, nd, a, Nd, Sd, Fd, hc, hpt⟩ := hC
  have dO : ∀ N S F, wQ B 1 N S F h 0 = some (dob B) := fun N S F => (wQ_n (by omega)).trans hc.1
  have fin : ∀ N' S' F', CL B N' S' F' f wl pt len C (wQ B 1 N' S' F' h) ∧ tl51 h (wQ B 1 N' S' F' h) := fun N' S' F' => ⟨⟨P, Wr, V, Lr, Cr, w, mb, nd, a, Nd, Sd, Fd, hc.q _ _ _, hpt⟩, fun k hk => wQ_n (by omega)⟩
  unfold CtJ
  refine jj_lv (lv' := [some (.ref (B + 0)), some (.int x), some (.int p), none]) rfl ?_
  refine jj_h (h' := wQ B 1 N S F h) hc.2.1.id ?_
  refine jj_s (pc' := 1) rfl rfl ?_
  refine jj_g rfl rfl (dO _ _ _) rfl ?_
  refine jj_s (pc' := 5) rfl rfl ?_
  refine jj_v1 rfl rfl rfl wQ_o rfl rfl (c_holds _) ?_
  refine jj_zF 13 rfl rfl (fun c1 => ?_) (fun c1 => ?_)
  · have c1 : isN N x = true := c1
    obtain ⟨i, hi, rfl⟩ := isN_of hN c1
    refine jj_s (pc' := 14) rfl rfl ?_
    refine jj_s (pc' := 15) rfl rfl ?_
    refine jj_s (pc' := 17) rfl rfl ?_
    refine jj_t3 rfl rfl rfl rfl rfl (c_isWithin _ _ _) ?_
    refine jj_zF 26 rfl rfl (fun (c2 : wth p 0 9 = true) => ?_) (fun (c2 : wth p 0 9 = false) => ?_)
    · refine jj_s (pc' := 27) rfl rfl ?_
      refine jj_g rfl rfl (dO _ _ _) rfl ?_
      refine jj_s (pc' := 31) rfl rfl ?_
      refine jj_v1 rfl rfl rfl wQ_o rfl rfl (c_hasEnded (by omega)) ?_
      refine jj_zT 40 rfl rfl (fun c3 => ?_) (fun c3 => ?_)
      · have e : zPri N F (nI i) p = (F 0 i, uF F 0 i p) := by rw [zPri, if_pos c1, if_pos c2, ix_nI (by omega), if_neg (of_decide_eq_false c3)]
        rw [e]
        refine jj_s (pc' := 41) rfl rfl ?_
        refine jj_g rfl rfl (dO _ _ _) rfl ?_
        refine jj_g rfl rfl wQ_o rfl ?_
        refine jj_s (pc' := 48) rfl rfl ?_
        refine jj_qld [] rfl rfl (by decide) (by first | assumption | omega) ?_
        refine jj_s (pc' := 50) rfl rfl ?_
        refine jj_s (pc' := 51) rfl rfl ?_
        refine jj_g rfl rfl (dO _ _ _) rfl ?_
        refine jj_g rfl rfl wQ_o rfl ?_
        refine jj_s (pc' := 58) rfl rfl ?_
        refine jj_s (pc' := 59) rfl rfl ?_
        refine jj_qst [] rfl rfl (by decide) (by first | assumption | omega) ?_
        refine jj_s (pc' := 61) rfl rfl ?_
        exact jj_iret rfl rfl ⟨rfl, rfl, fin _ _ _⟩
      · have e : zPri N F (nI i) p = (-4, F) := by rw [zPri, if_pos c1, if_pos c2, ix_nI (by omega), if_pos (of_decide_eq_true c3)]
        rw [e]
        refine jj_s (pc' := 39) rfl rfl ?_
        exact jj_iret rfl rfl ⟨rfl, rfl, fin _ _ _⟩
    · have e : zPri N F (nI i) p = (-2, F) := by rw [zPri, if_pos c1, if_neg (by rw [c2]; decide)]
      rw [e]
      refine jj_s (pc' := 25) rfl rfl ?_
      exact jj_iret rfl rfl ⟨rfl, rfl, fin _ _ _⟩
  · have c1 : isN N x = false := c1
    have e : zPri N F x p = (-1, F) := by rw [zPri, if_neg (by rw [c1]; decide)]
    rw [e]
    refine jj_s (pc' := 12) rfl rfl ?_
    exact jj_iret rfl rfl ⟨rfl, rfl, fin _ _ _⟩
def zPol (S : Nat → Int32) (x : Int32) : Int32 × (Nat → Int32) := if wth x 0 2 = true then (S 2, upd S 2 x) else (-2, S)
set_option maxHeartbeats 4000000 in
set_option maxRecDepth 100000 in
 theorem d_setPolicy {G : GC} {B n N : Nat} {S : Nat → Int32} {F : Nat → Nat → Int32} {f : Nat → Option Nat} {wl : Int32} {pt : Nat → Int32} {len : Nat} {C : Nat → Int32} {h : HT} (hN : N ≤ 20) (hC : CL B N S F f wl pt len C h) (x : Int32) : CtJ G B M8_setPolicy [.ref (B + 0), .int x] n h 0 0 (fun r2 n2 h2 => r2 = some (.int ((zPol S x).1)) ∧ n2 = n ∧ CL B N (zPol S x).2 F f wl pt len C h2 ∧ tl51 h h2) := by
  obtain ⟨P, Wr, V, Lr, Cr, w, mb, nd, a, Nd, Sd, Fd, hc, hpt⟩ := hC
  have dO : ∀ N S F, wQ B 1 N S F h 0 = some (dob B) := fun N S F => (wQ_n (by omega)).trans hc.1
  have fin : ∀ N' S' F', CL B N' S' F' f wl pt len C (wQ B 1 N' S' F' h) ∧ tl51 h (wQ B 1 N' S' F' h) := fun N' S' F' => ⟨⟨P, Wr, V, Lr, Cr, w, mb, nd, a, Nd, Sd, Fd, hc.q _ _ _, hpt⟩, fun k hk => wQ_n (by omega)⟩
  unfold CtJ
  refine jj_lv (lv' := [some (.ref (B + 0)), some (.int x), none]) rfl ?_
  refine jj_h (h' := wQ B 1 N S F h) hc.2.1.id ?_
  refine jj_s (pc' := 1) rfl rfl ?_
  refine jj_s (pc' := 2) rfl rfl ?_
  refine jj_s (pc' := 3) rfl rfl ?_
  refine jj_t3 rfl rfl rfl rfl rfl (c_isWithin _ _ _) ?_
  refine jj_zF 12 rfl rfl (fun (c2 : wth x 0 2 = true) => ?_) (fun (c2 : wth x 0 2 = false) => ?_)
  · have e : zPol S x = (S 2, upd S 2 x) := by rw [zPol, if_pos c2]
    rw [e]
    refine jj_s (pc' := 13) rfl rfl ?_
    refine jj_g rfl rfl (dO _ _ _) rfl ?_
    refine jj_g rfl rfl wQ_o rfl ?_
    refine jj_s (pc' := 20) rfl rfl ?_
    refine jj_s (pc' := 21) rfl rfl ?_
    refine jj_g rfl rfl (dO _ _ _) rfl ?_
    refine jj_s (pc' := 25) rfl rfl ?_
    refine jj_qpt (N' := N) (S' := upd S 2 x) rfl rfl rfl rfl ?_
    refine jj_s (pc' := 29) rfl rfl ?_
    exact jj_iret rfl rfl ⟨rfl, rfl, fin _ _ _⟩
  · have e : zPol S x = (-2, S) := by rw [zPol, if_neg (by rw [c2]; decide)]
    rw [e]
    refine jj_s (pc' := 11) rfl rfl ?_
    exact jj_iret rfl rfl ⟨rfl, rfl, fin _ _ _⟩
def zLim (S : Nat → Int32) (x : Int32) : Int32 × (Nat → Int32) := if wth x 1 9 = true then (S 3, upd S 3 x) else (-2, S)
set_option maxHeartbeats 4000000 in
set_option maxRecDepth 100000 in
 theorem d_setGroupLimit {G : GC} {B n N : Nat} {S : Nat → Int32} {F : Nat → Nat → Int32} {f : Nat → Option Nat} {wl : Int32} {pt : Nat → Int32} {len : Nat} {C : Nat → Int32} {h : HT} (hN : N ≤ 20) (hC : CL B N S F f wl pt len C h) (x : Int32) : CtJ G B M8_setGroupLimit [.ref (B + 0), .int x] n h 0 0 (fun r2 n2 h2 => r2 = some (.int ((zLim S x).1)) ∧ n2 = n ∧ CL B N (zLim S x).2 F f wl pt len C h2 ∧ tl51 h h2) := by
  obtain ⟨P, Wr, V, Lr, Cr, w, mb, nd, a, Nd, Sd, Fd, hc, hpt⟩ := hC
  have dO : ∀ N S F, wQ B 1 N S F h 0 = some (dob B) := fun N S F => (wQ_n (by omega)).trans hc.1
  have fin : ∀ N' S' F', CL B N' S' F' f wl pt len C (wQ B 1 N' S' F' h) ∧ tl51 h (wQ B 1 N' S' F' h) := fun N' S' F' => ⟨⟨P, Wr, V, Lr, Cr, w, mb, nd, a, Nd, Sd, Fd, hc.q _ _ _, hpt⟩, fun k hk => wQ_n (by omega)⟩
  unfold CtJ
  refine jj_lv (lv' := [some (.ref (B + 0)), some (.int x), none]) rfl ?_
  refine jj_h (h' := wQ B 1 N S F h) hc.2.1.id ?_
  refine jj_s (pc' := 1) rfl rfl ?_
  refine jj_s (pc' := 2) rfl rfl ?_
  refine jj_s (pc' := 4) rfl rfl ?_
  refine jj_t3 rfl rfl rfl rfl rfl (c_isWithin _ _ _) ?_
  refine jj_zF 13 rfl rfl (fun (c2 : wth x 1 9 = true) => ?_) (fun (c2 : wth x 1 9 = false) => ?_)
  · have e : zLim S x = (S 3, upd S 3 x) := by rw [zLim, if_pos c2]
    rw [e]
    refine jj_s (pc' := 14) rfl rfl ?_
    refine jj_g rfl rfl (dO _ _ _) rfl ?_
    refine jj_g rfl rfl wQ_o rfl ?_
    refine jj_s (pc' := 21) rfl rfl ?_
    refine jj_s (pc' := 22) rfl rfl ?_
    refine jj_g rfl rfl (dO _ _ _) rfl ?_
    refine jj_s (pc' := 26) rfl rfl ?_
    refine jj_qpt (N' := N) (S' := upd S 3 x) rfl rfl rfl rfl ?_
    refine jj_s (pc' := 30) rfl rfl ?_
    exact jj_iret rfl rfl ⟨rfl, rfl, fin _ _ _⟩
  · have e : zLim S x = (-2, S) := by rw [zLim, if_neg (by rw [c2]; decide)]
    rw [e]
    refine jj_s (pc' := 12) rfl rfl ?_
    exact jj_iret rfl rfl ⟨rfl, rfl, fin _ _ _⟩
/-- one row's place of an item, or BAD_ITEM -/
def zRow (N : Nat) (g : Nat → Int32) (x : Int32) : Int32 := if isN N x = true then g (ix x) else -1
set_option maxHeartbeats 4000000 in
set_option maxRecDepth 100000 in
 theorem d_receipt {G : GC} {B n N : Nat} {S : Nat → Int32} {F : Nat → Nat → Int32} {f : Nat → Option Nat} {wl : Int32} {pt : Nat → Int32} {len : Nat} {C : Nat → Int32} {h : HT} (hN : N ≤ 20) (hC : CL B N S F f wl pt len C h) (x : Int32) : CtJ G B M8_receipt [.ref (B + 0), .int x] n h 0 0 (fun r2 n2 h2 => r2 = some (.int (zRow N (F 10) x)) ∧ n2 = n ∧ CL B N S F f wl pt len C h2 ∧ tl51 h h2) := by
  obtain ⟨P, Wr, V, Lr, Cr, w, mb, nd, a, Nd, Sd, Fd, hc, hpt⟩ := hC
  have dO : ∀ N S F, wQ B 1 N S F h 0 = some (dob B) := fun N S F => (wQ_n (by omega)).trans hc.1
  have fin : ∀ N' S' F', CL B N' S' F' f wl pt len C (wQ B 1 N' S' F' h) ∧ tl51 h (wQ B 1 N' S' F' h) := fun N' S' F' => ⟨⟨P, Wr, V, Lr, Cr, w, mb, nd, a, Nd, Sd, Fd, hc.q _ _ _, hpt⟩, fun k hk => wQ_n (by omega)⟩
  unfold CtJ
  refine jj_lv (lv' := [some (.ref (B + 0)), some (.int x)]) rfl ?_
  refine jj_h (h' := wQ B 1 N S F h) hc.2.1.id ?_
  refine jj_s (pc' := 1) rfl rfl ?_
  refine jj_g rfl rfl (dO _ _ _) rfl ?_
  refine jj_s (pc' := 5) rfl rfl ?_
  refine jj_v1 rfl rfl rfl wQ_o rfl rfl (c_holds _) ?_
  refine jj_zT 23 rfl rfl (fun (c1 : isN N x = false) => ?_) (fun (c1 : isN N x = true) => ?_)
  · refine jj_s (pc' := 24) rfl rfl ?_
    exact jj_iret rfl rfl ⟨by rw [zRow, if_neg (by rw [c1]; decide)]; rfl, rfl, fin _ _ _⟩
  · obtain ⟨i, hi, rfl⟩ := isN_of hN c1
    refine jj_s (pc' := 12) rfl rfl ?_
    refine jj_g rfl rfl (dO _ _ _) rfl ?_
    refine jj_g rfl rfl wQ_o rfl ?_
    refine jj_s (pc' := 19) rfl rfl ?_
    refine jj_qld [] rfl rfl (by decide) (by first | assumption | omega) ?_
    refine jj_s (pc' := 24) rfl rfl ?_
    exact jj_iret rfl rfl ⟨by rw [zRow, if_pos c1, ix_nI (by omega)], rfl, fin _ _ _⟩
set_option maxHeartbeats 4000000 in
set_option maxRecDepth 100000 in
 theorem d_state {G : GC} {B n N : Nat} {S : Nat → Int32} {F : Nat → Nat → Int32} {f : Nat → Option Nat} {wl : Int32} {pt : Nat → Int32} {len : Nat} {C : Nat → Int32} {h : HT} (hN : N ≤ 20) (hC : CL B N S F f wl pt len C h) (x : Int32) : CtJ G B M8_state [.ref (B + 0), .int x] n h 0 0 (fun r2 n2 h2 => r2 = some (.int (zRow N (F 5) x)) ∧ n2 = n ∧ CL B N S F f wl pt len C h2 ∧ tl51 h h2) := by
  obtain ⟨P, Wr, V, Lr, Cr, w, mb, nd, a, Nd, Sd, Fd, hc, hpt⟩ := hC
  have dO : ∀ N S F, wQ B 1 N S F h 0 = some (dob B) := fun N S F => (wQ_n (by omega)).trans hc.1
  have fin : ∀ N' S' F', CL B N' S' F' f wl pt len C (wQ B 1 N' S' F' h) ∧ tl51 h (wQ B 1 N' S' F' h) := fun N' S' F' => ⟨⟨P, Wr, V, Lr, Cr, w, mb, nd, a, Nd, Sd, Fd, hc.q _ _ _, hpt⟩, fun k hk => wQ_n (by omega)⟩
  unfold CtJ
  refine jj_lv (lv' := [some (.ref (B + 0)), some (.int x)]) rfl ?_
  refine jj_h (h' := wQ B 1 N S F h) hc.2.1.id ?_
  refine jj_s (pc' := 1) rfl rfl ?_
  refine jj_g rfl rfl (dO _ _ _) rfl ?_
  refine jj_s (pc' := 5) rfl rfl ?_
  refine jj_v1 rfl rfl rfl wQ_o rfl rfl (c_holds _) ?_
  refine jj_zT 23 rfl rfl (fun (c1 : isN N x = false) => ?_) (fun (c1 : isN N x = true) => ?_)
  · refine jj_s (pc' := 24) rfl rfl ?_
    exact jj_iret rfl rfl ⟨by rw [zRow, if_neg (by rw [c1]; decide)]; rfl, rfl, fin _ _ _⟩
  · obtain ⟨i, hi, rfl⟩ := isN_of hN c1
    refine jj_s (pc' := 12) rfl rfl ?_
    refine jj_g rfl rfl (dO _ _ _) rfl ?_
    refine jj_g rfl rfl wQ_o rfl ?_
    refine jj_s (pc' := 19) rfl rfl ?_
    refine jj_qld [] rfl rfl (by decide) (by first | assumption | omega) ?_
    refine jj_s (pc' := 24) rfl rfl ?_
    exact jj_iret rfl rfl ⟨by rw [zRow, if_pos c1, ix_nI (by omega)], rfl, fin _ _ _⟩
def zIn (N : Nat) (F : Nat → Nat → Int32) (x : Int32) : Int32 := if wth x 0 6 = true then msk (fun i => decide (F 5 i = x)) N else -2
set_option maxHeartbeats 4000000 in
set_option maxRecDepth 100000 in
 theorem d_itemsIn {G : GC} {B n N : Nat} {S : Nat → Int32} {F : Nat → Nat → Int32} {f : Nat → Option Nat} {wl : Int32} {pt : Nat → Int32} {len : Nat} {C : Nat → Int32} {h : HT} (hN : N ≤ 20) (hC : CL B N S F f wl pt len C h) (x : Int32) : CtJ G B M8_itemsIn [.ref (B + 0), .int x] n h 0 0 (fun r2 n2 h2 => r2 = some (.int (zIn N F x)) ∧ n2 = n ∧ CL B N S F f wl pt len C h2 ∧ tl51 h h2) := by
  obtain ⟨P, Wr, V, Lr, Cr, w, mb, nd, a, Nd, Sd, Fd, hc, hpt⟩ := hC
  have dO : ∀ N S F, wQ B 1 N S F h 0 = some (dob B) := fun N S F => (wQ_n (by omega)).trans hc.1
  have fin : ∀ N' S' F', CL B N' S' F' f wl pt len C (wQ B 1 N' S' F' h) ∧ tl51 h (wQ B 1 N' S' F' h) := fun N' S' F' => ⟨⟨P, Wr, V, Lr, Cr, w, mb, nd, a, Nd, Sd, Fd, hc.q _ _ _, hpt⟩, fun k hk => wQ_n (by omega)⟩
  unfold CtJ
  refine jj_lv (lv' := [some (.ref (B + 0)), some (.int x)]) rfl ?_
  refine jj_h (h' := wQ B 1 N S F h) hc.2.1.id ?_
  refine jj_s (pc' := 1) rfl rfl ?_
  refine jj_s (pc' := 2) rfl rfl ?_
  refine jj_s (pc' := 4) rfl rfl ?_
  refine jj_t3 rfl rfl rfl rfl rfl (c_isWithin _ _ _) ?_
  refine jj_zT 21 rfl rfl (fun (c1 : wth x 0 6 = false) => ?_) (fun (c1 : wth x 0 6 = true) => ?_)
  · refine jj_s (pc' := 23) rfl rfl ?_
    exact jj_iret rfl rfl ⟨by rw [zIn, if_neg (by rw [c1]; decide)]; rfl, rfl, fin _ _ _⟩
  · refine jj_s (pc' := 11) rfl rfl ?_
    refine jj_g rfl rfl (dO _ _ _) rfl ?_
    refine jj_s (pc' := 15) rfl rfl ?_
    refine jj_v1 rfl rfl rfl wQ_o rfl rfl (c_setIn hN _) ?_
    refine jj_s (pc' := 23) rfl rfl ?_
    exact jj_iret rfl rfl ⟨by rw [zIn, if_pos c1], rfl, fin _ _ _⟩
def zEdg (N : Nat) (F : Nat → Nat → Int32) (x y : Int32) : Int32 := if (isN N x && isN N y) = true then (if bt (F 11 (ix y)) (ix x) = true then 0 else if bt (F 12 (ix y)) (ix x) = true then 1 else -7) else -1
set_option maxHeartbeats 4000000 in
set_option maxRecDepth 100000 in
 theorem d_edge {G : GC} {B n N : Nat} {S : Nat → Int32} {F : Nat → Nat → Int32} {f : Nat → Option Nat} {wl : Int32} {pt : Nat → Int32} {len : Nat} {C : Nat → Int32} {h : HT} (hN : N ≤ 20) (hC : CL B N S F f wl pt len C h) (x y : Int32) : CtJ G B M8_edge [.ref (B + 0), .int x, .int y] n h 0 0 (fun r2 n2 h2 => r2 = some (.int (zEdg N F x y)) ∧ n2 = n ∧ CL B N S F f wl pt len C h2 ∧ tl51 h h2) := by
  obtain ⟨P, Wr, V, Lr, Cr, w, mb, nd, a, Nd, Sd, Fd, hc, hpt⟩ := hC
  have dO : ∀ N S F, wQ B 1 N S F h 0 = some (dob B) := fun N S F => (wQ_n (by omega)).trans hc.1
  have fin : ∀ N' S' F', CL B N' S' F' f wl pt len C (wQ B 1 N' S' F' h) ∧ tl51 h (wQ B 1 N' S' F' h) := fun N' S' F' => ⟨⟨P, Wr, V, Lr, Cr, w, mb, nd, a, Nd, Sd, Fd, hc.q _ _ _, hpt⟩, fun k hk => wQ_n (by omega)⟩
  unfold CtJ
  refine jj_lv (lv' := [some (.ref (B + 0)), some (.int x), some (.int y)]) rfl ?_
  refine jj_h (h' := wQ B 1 N S F h) hc.2.1.id ?_
  have bad : (isN N x && isN N y) = false → JJ X0 G B M8_edge 22 [some (.ref (B + 0)), some (.int x), some (.int y)] [] n (wQ B 1 N S F h) 0 0 (fun r2 n2 h2 => r2 = some (.int (zEdg N F x y)) ∧ n2 = n ∧ CL B N S F f wl pt len C h2 ∧ tl51 h h2) := by
    intro hb
    refine jj_s (pc' := 23) rfl rfl ?_
    exact jj_iret rfl rfl ⟨by rw [zEdg, if_neg (by rw [hb]; decide)]; rfl, rfl, fin _ _ _⟩
  refine jj_s (pc' := 1) rfl rfl ?_
  refine jj_g rfl rfl (dO _ _ _) rfl ?_
  refine jj_s (pc' := 5) rfl rfl ?_
  refine jj_v1 rfl rfl rfl wQ_o rfl rfl (c_holds _) ?_
  refine jj_zT 22 rfl rfl (fun c1 => bad (by rw [show isN N x = false from c1]; rfl)) (fun c1 => ?_)
  refine jj_s (pc' := 12) rfl rfl ?_
  refine jj_g rfl rfl (dO _ _ _) rfl ?_
  refine jj_s (pc' := 16) rfl rfl ?_
  refine jj_v1 rfl rfl rfl wQ_o rfl rfl (c_holds _) ?_
  refine jj_zF 24 rfl rfl (fun c2 => ?_) (fun c2 => bad (by rw [show isN N y = false from c2]; simp))
  have ok : (isN N x && isN N y) = true := by rw [show isN N x = true from c1, show isN N y = true from c2]; rfl
  obtain ⟨i, hi, rfl⟩ := isN_of hN c1
  obtain ⟨j, hj, rfl⟩ := isN_of hN c2
  refine jj_s (pc' := 25) rfl rfl ?_
  refine jj_g rfl rfl (dO _ _ _) rfl ?_
  refine jj_s (pc' := 29) rfl rfl ?_
  refine jj_s (pc' := 30) rfl rfl ?_
  refine jj_v2 rfl rfl rfl wQ_o rfl rfl (c_edgeKind (by omega) (by omega)) ?_
  exact jj_iret rfl rfl ⟨by rw [zEdg, if_pos ok, ix_nI (by omega), ix_nI (by omega)], rfl, fin _ _ _⟩
/-- how many come to be in the watched state, and the rows then -/
def zEnd (N : Nat) (S : Nat → Int32) (F : Nat → Nat → Int32) (i : Nat) (e w : Int32) : Int32 × (Nat → Nat → Int32) := (bcF (msk (fun j => decide (stl S N 1000 (uF F 5 i e) 5 j = w)) N &&& (msk (fun j => decide (F 5 j = w)) N ^^^ -1)), stl S N 1000 (uF F 5 i e))
def zFin (N : Nat) (S : Nat → Int32) (F : Nat → Nat → Int32) (x r : Int32) : Int32 × (Nat → Nat → Int32) := if isN N x = true then (if F 5 (ix x) = 2 ∧ F 10 (ix x) = r then zEnd N S F (ix x) 3 1 else (-6, F)) else (-1, F)
set_option maxHeartbeats 4000000 in
set_option maxRecDepth 100000 in
 theorem d_finish {G : GC} {B n N : Nat} {S : Nat → Int32} {F : Nat → Nat → Int32} {f : Nat → Option Nat} {wl : Int32} {pt : Nat → Int32} {len : Nat} {C : Nat → Int32} {h : HT} (hN : N ≤ 20) (hC : CL B N S F f wl pt len C h) (x r : Int32) : CtJ G B M8_finish [.ref (B + 0), .int x, .int r] n h 0 0 (fun r2 n2 h2 => r2 = some (.int ((zFin N S F x r).1)) ∧ n2 = n ∧ CL B N S (zFin N S F x r).2 f wl pt len C h2 ∧ tl51 h h2) := by
  obtain ⟨P, Wr, V, Lr, Cr, w, mb, nd, a, Nd, Sd, Fd, hc, hpt⟩ := hC
  have dO : ∀ N S F, wQ B 1 N S F h 0 = some (dob B) := fun N S F => (wQ_n (by omega)).trans hc.1
  have fin : ∀ N' S' F', CL B N' S' F' f wl pt len C (wQ B 1 N' S' F' h) ∧ tl51 h (wQ B 1 N' S' F' h) := fun N' S' F' => ⟨⟨P, Wr, V, Lr, Cr, w, mb, nd, a, Nd, Sd, Fd, hc.q _ _ _, hpt⟩, fun k hk => wQ_n (by omega)⟩
  unfold CtJ
  refine jj_lv (lv' := [some (.ref (B + 0)), some (.int x), some (.int r)]) rfl ?_
  refine jj_h (h' := wQ B 1 N S F h) hc.2.1.id ?_
  refine jj_s (pc' := 1) rfl rfl ?_
  refine jj_g rfl rfl (dO _ _ _) rfl ?_
  refine jj_s (pc' := 5) rfl rfl ?_
  refine jj_v1 rfl rfl rfl wQ_o rfl rfl (c_holds _) ?_
  refine jj_zF 13 rfl rfl (fun (c1 : isN N x = true) => ?_) (fun (c1 : isN N x = false) => ?_)
  · obtain ⟨i, hi, rfl⟩ := isN_of hN c1
    refine jj_s (pc' := 14) rfl rfl ?_
    refine jj_g rfl rfl (dO _ _ _) rfl ?_
    refine jj_s (pc' := 18) rfl rfl ?_
    refine jj_s (pc' := 19) rfl rfl ?_
    refine jj_v2 rfl rfl rfl wQ_o rfl rfl (c_isValid (by omega) _) ?_
    refine jj_zF 28 rfl rfl (fun c2 => ?_) (fun c2 => ?_)
    · have e : zFin N S F (nI i) r = zEnd N S F i 3 1 := by rw [zFin, if_pos c1, ix_nI (by omega), if_pos (of_decide_eq_true c2)]
      rw [e]
      refine jj_s (pc' := 29) rfl rfl ?_
      refine jj_g rfl rfl (dO _ _ _) rfl ?_
      refine jj_s (pc' := 33) rfl rfl ?_
      refine jj_s (pc' := 34) rfl rfl ?_
      refine jj_s (pc' := 35) rfl rfl ?_
      refine jj_v3 rfl rfl rfl wQ_o rfl rfl (c_endAs hN (by omega) _ _) ?_
      exact jj_iret rfl rfl ⟨rfl, rfl, fin _ _ _⟩
    · have e : zFin N S F (nI i) r = (-6, F) := by rw [zFin, if_pos c1, ix_nI (by omega), if_neg (of_decide_eq_false c2)]
      rw [e]
      refine jj_s (pc' := 27) rfl rfl ?_
      exact jj_iret rfl rfl ⟨rfl, rfl, fin _ _ _⟩
  · have e : zFin N S F x r = (-1, F) := by rw [zFin, if_neg (by rw [c1]; decide)]
    rw [e]
    refine jj_s (pc' := 12) rfl rfl ?_
    exact jj_iret rfl rfl ⟨rfl, rfl, fin _ _ _⟩
def zCan (N : Nat) (S : Nat → Int32) (F : Nat → Nat → Int32) (x : Int32) : Int32 × (Nat → Nat → Int32) := if isN N x = true then (if 3 ≤ F 5 (ix x) then (-4, F) else zEnd N S F (ix x) 4 5) else (-1, F)
set_option maxHeartbeats 4000000 in
set_option maxRecDepth 100000 in
 theorem d_cancel {G : GC} {B n N : Nat} {S : Nat → Int32} {F : Nat → Nat → Int32} {f : Nat → Option Nat} {wl : Int32} {pt : Nat → Int32} {len : Nat} {C : Nat → Int32} {h : HT} (hN : N ≤ 20) (hC : CL B N S F f wl pt len C h) (x : Int32) : CtJ G B M8_cancel [.ref (B + 0), .int x] n h 0 0 (fun r2 n2 h2 => r2 = some (.int ((zCan N S F x).1)) ∧ n2 = n ∧ CL B N S (zCan N S F x).2 f wl pt len C h2 ∧ tl51 h h2) := by
  obtain ⟨P, Wr, V, Lr, Cr, w, mb, nd, a, Nd, Sd, Fd, hc, hpt⟩ := hC
  have dO : ∀ N S F, wQ B 1 N S F h 0 = some (dob B) := fun N S F => (wQ_n (by omega)).trans hc.1
  have fin : ∀ N' S' F', CL B N' S' F' f wl pt len C (wQ B 1 N' S' F' h) ∧ tl51 h (wQ B 1 N' S' F' h) := fun N' S' F' => ⟨⟨P, Wr, V, Lr, Cr, w, mb, nd, a, Nd, Sd, Fd, hc.q _ _ _, hpt⟩, fun k hk => wQ_n (by omega)⟩
  unfold CtJ
  refine jj_lv (lv' := [some (.ref (B + 0)), some (.int x)]) rfl ?_
  refine jj_h (h' := wQ B 1 N S F h) hc.2.1.id ?_
  refine jj_s (pc' := 1) rfl rfl ?_
  refine jj_g rfl rfl (dO _ _ _) rfl ?_
  refine jj_s (pc' := 5) rfl rfl ?_
  refine jj_v1 rfl rfl rfl wQ_o rfl rfl (c_holds _) ?_
  refine jj_zF 13 rfl rfl (fun (c1 : isN N x = true) => ?_) (fun (c1 : isN N x = false) => ?_)
  · obtain ⟨i, hi, rfl⟩ := isN_of hN c1
    refine jj_s (pc' := 14) rfl rfl ?_
    refine jj_g rfl rfl (dO _ _ _) rfl ?_
    refine jj_s (pc' := 18) rfl rfl ?_
    refine jj_v1 rfl rfl rfl wQ_o rfl rfl (c_hasEnded (by omega)) ?_
    refine jj_zT 27 rfl rfl (fun c2 => ?_) (fun c2 => ?_)
    · have e : zCan N S F (nI i) = zEnd N S F i 4 5 := by rw [zCan, if_pos c1, ix_nI (by omega), if_neg (of_decide_eq_false c2)]
      rw [e]
      refine jj_s (pc' := 28) rfl rfl ?_
      refine jj_g rfl rfl (dO _ _ _) rfl ?_
      refine jj_s (pc' := 32) rfl rfl ?_
      refine jj_s (pc' := 33) rfl rfl ?_
      refine jj_s (pc' := 34) rfl rfl ?_
      refine jj_v3 rfl rfl rfl wQ_o rfl rfl (c_endAs hN (by omega) _ _) ?_
      exact jj_iret rfl rfl ⟨rfl, rfl, fin _ _ _⟩
    · have e : zCan N S F (nI i) = (-4, F) := by rw [zCan, if_pos c1, ix_nI (by omega), if_pos (of_decide_eq_true c2)]
      rw [e]
      refine jj_s (pc' := 26) rfl rfl ?_
      exact jj_iret rfl rfl ⟨rfl, rfl, fin _ _ _⟩
  · have e : zCan N S F x = (-1, F) := by rw [zCan, if_neg (by rw [c1]; decide)]
    rw [e]
    refine jj_s (pc' := 12) rfl rfl ?_
    exact jj_iret rfl rfl ⟨rfl, rfl, fin _ _ _⟩
def zRev (N : Nat) (S : Nat → Int32) (F : Nat → Nat → Int32) (x : Int32) : Int32 × (Nat → Nat → Int32) := if isN N x = true then (if 3 < F 5 (ix x) then (stl S N 1000 (uF (uF (uF F 5 (ix x) 0) 9 (ix x) 0) 10 (ix x) (-7)) 5 (ix x), stl S N 1000 (uF (uF (uF F 5 (ix x) 0) 9 (ix x) 0) 10 (ix x) (-7))) else (-4, F)) else (-1, F)
set_option maxHeartbeats 4000000 in
set_option maxRecDepth 100000 in
 theorem d_revive {G : GC} {B n N : Nat} {S : Nat → Int32} {F : Nat → Nat → Int32} {f : Nat → Option Nat} {wl : Int32} {pt : Nat → Int32} {len : Nat} {C : Nat → Int32} {h : HT} (hN : N ≤ 20) (hC : CL B N S F f wl pt len C h) (x : Int32) : CtJ G B M8_revive [.ref (B + 0), .int x] n h 0 0 (fun r2 n2 h2 => r2 = some (.int ((zRev N S F x).1)) ∧ n2 = n ∧ CL B N S (zRev N S F x).2 f wl pt len C h2 ∧ tl51 h h2) := by
  obtain ⟨P, Wr, V, Lr, Cr, w, mb, nd, a, Nd, Sd, Fd, hc, hpt⟩ := hC
  have dO : ∀ N S F, wQ B 1 N S F h 0 = some (dob B) := fun N S F => (wQ_n (by omega)).trans hc.1
  have fin : ∀ N' S' F', CL B N' S' F' f wl pt len C (wQ B 1 N' S' F' h) ∧ tl51 h (wQ B 1 N' S' F' h) := fun N' S' F' => ⟨⟨P, Wr, V, Lr, Cr, w, mb, nd, a, Nd, Sd, Fd, hc.q _ _ _, hpt⟩, fun k hk => wQ_n (by omega)⟩
  unfold CtJ
  refine jj_lv (lv' := [some (.ref (B + 0)), some (.int x)]) rfl ?_
  refine jj_h (h' := wQ B 1 N S F h) hc.2.1.id ?_
  refine jj_s (pc' := 1) rfl rfl ?_
  refine jj_g rfl rfl (dO _ _ _) rfl ?_
  refine jj_s (pc' := 5) rfl rfl ?_
  refine jj_v1 rfl rfl rfl wQ_o rfl rfl (c_holds _) ?_
  refine jj_zF 13 rfl rfl (fun (c1 : isN N x = true) => ?_) (fun (c1 : isN N x = false) => ?_)
  · obtain ⟨i, hi, rfl⟩ := isN_of hN c1
    refine jj_s (pc' := 14) rfl rfl ?_
    refine jj_g rfl rfl (dO _ _ _) rfl ?_
    refine jj_s (pc' := 18) rfl rfl ?_
    refine jj_v1 rfl rfl rfl wQ_o rfl rfl (c_hasFailed (by omega)) ?_
    refine jj_zF 27 rfl rfl (fun c2 => ?_) (fun c2 => ?_)
    · have e : zRev N S F (nI i) = (stl S N 1000 (uF (uF (uF F 5 i 0) 9 i 0) 10 i (-7)) 5 i, stl S N 1000 (uF (uF (uF F 5 i 0) 9 i 0) 10 i (-7))) := by rw [zRev, if_pos c1, ix_nI (by omega), if_pos (of_decide_eq_true c2)]
      rw [e]
      refine jj_s (pc' := 28) rfl rfl ?_
      refine jj_g rfl rfl (dO _ _ _) rfl ?_
      refine jj_s (pc' := 32) rfl rfl ?_
      refine jj_w1 rfl rfl rfl wQ_o rfl rfl (c_startAnew (by omega)) ?_
      refine jj_s (pc' := 36) rfl rfl ?_
      refine jj_g rfl rfl (dO _ _ _) rfl ?_
      refine jj_w0 rfl rfl rfl wQ_o rfl rfl (c_settle hN) ?_
      refine jj_s (pc' := 43) rfl rfl ?_
      refine jj_g rfl rfl (dO _ _ _) rfl ?_
      refine jj_g rfl rfl wQ_o rfl ?_
      refine jj_s (pc' := 50) rfl rfl ?_
      refine jj_qld [] rfl rfl (by decide) (by first | assumption | omega) ?_
      exact jj_iret rfl rfl ⟨rfl, rfl, fin _ _ _⟩
    · have e : zRev N S F (nI i) = (-4, F) := by rw [zRev, if_pos c1, ix_nI (by omega), if_neg (of_decide_eq_false c2)]
      rw [e]
      refine jj_s (pc' := 26) rfl rfl ?_
      exact jj_iret rfl rfl ⟨rfl, rfl, fin _ _ _⟩
  · have e : zRev N S F x = (-1, F) := by rw [zRev, if_neg (by rw [c1]; decide)]
    rw [e]
    refine jj_s (pc' := 12) rfl rfl ?_
    exact jj_iret rfl rfl ⟨rfl, rfl, fin _ _ _⟩
def zGiv (N : Nat) (S : Nat → Int32) (F : Nat → Nat → Int32) (x r p : Int32) : Int32 × (Nat → Nat → Int32) := if isN N x = true then (if wth p 0 10 = true then (if F 5 (ix x) = 2 ∧ F 10 (ix x) = r then (stl S N 1000 (cbF S F (ix x) (p * ((1 : Int32) <<< ((F 9 (ix x) - 1) &&& 31)))) 5 (ix x), stl S N 1000 (cbF S F (ix x) (p * ((1 : Int32) <<< ((F 9 (ix x) - 1) &&& 31))))) else (-6, F)) else (-2, F)) else (-1, F)
set_option maxHeartbeats 4000000 in
set_option maxRecDepth 100000 in
 theorem d_giveBack {G : GC} {B n N : Nat} {S : Nat → Int32} {F : Nat → Nat → Int32} {f : Nat → Option Nat} {wl : Int32} {pt : Nat → Int32} {len : Nat} {C : Nat → Int32} {h : HT} (hN : N ≤ 20) (hC : CL B N S F f wl pt len C h) (x r p : Int32) : CtJ G B M8_giveBack [.ref (B + 0), .int x, .int r, .int p] n h 0 0 (fun r2 n2 h2 => r2 = some (.int ((zGiv N S F x r p).1)) ∧ n2 = n ∧ CL B N S (zGiv N S F x r p).2 f wl pt len C h2 ∧ tl51 h h2) := by
  obtain ⟨P, Wr, V, Lr, Cr, w, mb, nd, a, Nd, Sd, Fd, hc, hpt⟩ := hC
  have dO : ∀ N S F, wQ B 1 N S F h 0 = some (dob B) := fun N S F => (wQ_n (by omega)).trans hc.1
  have fin : ∀ N' S' F', CL B N' S' F' f wl pt len C (wQ B 1 N' S' F' h) ∧ tl51 h (wQ B 1 N' S' F' h) := fun N' S' F' => ⟨⟨P, Wr, V, Lr, Cr, w, mb, nd, a, Nd, Sd, Fd, hc.q _ _ _, hpt⟩, fun k hk => wQ_n (by omega)⟩
  unfold CtJ
  refine jj_lv (lv' := [some (.ref (B + 0)), some (.int x), some (.int r), some (.int p)]) rfl ?_
  refine jj_h (h' := wQ B 1 N S F h) hc.2.1.id ?_
  refine jj_s (pc' := 1) rfl rfl ?_
  refine jj_g rfl rfl (dO _ _ _) rfl ?_
  refine jj_s (pc' := 5) rfl rfl ?_
  refine jj_v1 rfl rfl rfl wQ_o rfl rfl (c_holds _) ?_
  refine jj_zF 13 rfl rfl (fun (c1 : isN N x = true) => ?_) (fun (c1 : isN N x = false) => ?_)
  · obtain ⟨i, hi, rfl⟩ := isN_of hN c1
    refine jj_s (pc' := 14) rfl rfl ?_
    refine jj_s (pc' := 15) rfl rfl ?_
    refine jj_s (pc' := 17) rfl rfl ?_
    refine jj_t3 rfl rfl rfl rfl rfl (c_isWithin _ _ _) ?_
    refine jj_zF 26 rfl rfl (fun (c2 : wth p 0 10 = true) => ?_) (fun (c2 : wth p 0 10 = false) => ?_)
    · refine jj_s (pc' := 27) rfl rfl ?_
      refine jj_g rfl rfl (dO _ _ _) rfl ?_
      refine jj_s (pc' := 31) rfl rfl ?_
      refine jj_s (pc' := 32) rfl rfl ?_
      refine jj_v2 rfl rfl rfl wQ_o rfl rfl (c_isValid (by omega) _) ?_
      refine jj_zF 41 rfl rfl (fun c3 => ?_) (fun c3 => ?_)
      · have e : zGiv N S F (nI i) r p = (stl S N 1000 (cbF S F i (p * ((1 : Int32) <<< ((F 9 i - 1) &&& 31)))) 5 i, stl S N 1000 (cbF S F i (p * ((1 : Int32) <<< ((F 9 i - 1) &&& 31))))) := by rw [zGiv, if_pos c1, if_pos c2, ix_nI (by omega), if_pos (of_decide_eq_true c3)]
        rw [e]
        refine jj_s (pc' := 42) rfl rfl ?_
        refine jj_g rfl rfl (dO _ _ _) rfl ?_
        refine jj_s (pc' := 46) rfl rfl ?_
        refine jj_s (pc' := 47) rfl rfl ?_
        refine jj_s (pc' := 48) rfl rfl ?_
        refine jj_s (pc' := 49) rfl rfl ?_
        refine jj_g rfl rfl (dO _ _ _) rfl ?_
        refine jj_g rfl rfl wQ_o rfl ?_
        refine jj_s (pc' := 56) rfl rfl ?_
        refine jj_qld [] rfl rfl (by decide) (by first | assumption | omega) ?_
        refine jj_s (pc' := 58) rfl rfl ?_
        refine jj_s (pc' := 59) rfl rfl ?_
        refine jj_s (pc' := 60) rfl rfl ?_
        refine jj_s (pc' := 61) rfl rfl ?_
        refine jj_w2 rfl rfl rfl wQ_o rfl rfl (c_comeBack (by omega) _) ?_
        refine jj_s (pc' := 65) rfl rfl ?_
        refine jj_g rfl rfl (dO _ _ _) rfl ?_
        refine jj_w0 rfl rfl rfl wQ_o rfl rfl (c_settle hN) ?_
        refine jj_s (pc' := 72) rfl rfl ?_
        refine jj_g rfl rfl (dO _ _ _) rfl ?_
        refine jj_g rfl rfl wQ_o rfl ?_
        refine jj_s (pc' := 79) rfl rfl ?_
        refine jj_qld [] rfl rfl (by decide) (by first | assumption | omega) ?_
        exact jj_iret rfl rfl ⟨rfl, rfl, fin _ _ _⟩
      · have e : zGiv N S F (nI i) r p = (-6, F) := by rw [zGiv, if_pos c1, if_pos c2, ix_nI (by omega), if_neg (of_decide_eq_false c3)]
        rw [e]
        refine jj_s (pc' := 40) rfl rfl ?_
        exact jj_iret rfl rfl ⟨rfl, rfl, fin _ _ _⟩
    · have e : zGiv N S F (nI i) r p = (-2, F) := by rw [zGiv, if_pos c1, if_neg (by rw [c2]; decide)]
      rw [e]
      refine jj_s (pc' := 25) rfl rfl ?_
      exact jj_iret rfl rfl ⟨rfl, rfl, fin _ _ _⟩
  · have e : zGiv N S F x r p = (-1, F) := by rw [zGiv, if_neg (by rw [c1]; decide)]
    rw [e]
    refine jj_s (pc' := 12) rfl rfl ?_
    exact jj_iret rfl rfl ⟨rfl, rfl, fin _ _ _⟩
def zExt (N : Nat) (S : Nat → Int32) (F : Nat → Nat → Int32) (x r v : Int32) : Int32 × (Nat → Nat → Int32) := if isN N x = true then (if wth v 1 30 = true then (if F 5 (ix x) = 2 ∧ F 10 (ix x) = r then (F 8 (ix x), uF F 8 (ix x) (S 1 + v)) else (-6, F)) else (-2, F)) else (-1, F)
set_option maxHeartbeats 4000000 in
set_option maxRecDepth 100000 in
 theorem d_extend {G : GC} {B n N : Nat} {S : Nat → Int32} {F : Nat → Nat → Int32} {f : Nat → Option Nat} {wl : Int32} {pt : Nat → Int32} {len : Nat} {C : Nat → Int32} {h : HT} (hN : N ≤ 20) (hC : CL B N S F f wl pt len C h) (x r v : Int32) : CtJ G B M8_extend [.ref (B + 0), .int x, .int r, .int v] n h 0 0 (fun r2 n2 h2 => r2 = some (.int ((zExt N S F x r v).1)) ∧ n2 = n ∧ CL B N S (zExt N S F x r v).2 f wl pt len C h2 ∧ tl51 h h2) := by
  obtain ⟨P, Wr, V, Lr, Cr, w, mb, nd, a, Nd, Sd, Fd, hc, hpt⟩ := hC
  have dO : ∀ N S F, wQ B 1 N S F h 0 = some (dob B) := fun N S F => (wQ_n (by omega)).trans hc.1
  have fin : ∀ N' S' F', CL B N' S' F' f wl pt len C (wQ B 1 N' S' F' h) ∧ tl51 h (wQ B 1 N' S' F' h) := fun N' S' F' => ⟨⟨P, Wr, V, Lr, Cr, w, mb, nd, a, Nd, Sd, Fd, hc.q _ _ _, hpt⟩, fun k hk => wQ_n (by omega)⟩
  unfold CtJ
  refine jj_lv (lv' := [some (.ref (B + 0)), some (.int x), some (.int r), some (.int v), none]) rfl ?_
  refine jj_h (h' := wQ B 1 N S F h) hc.2.1.id ?_
  refine jj_s (pc' := 1) rfl rfl ?_
  refine jj_g rfl rfl (dO _ _ _) rfl ?_
  refine jj_s (pc' := 5) rfl rfl ?_
  refine jj_v1 rfl rfl rfl wQ_o rfl rfl (c_holds _) ?_
  refine jj_zF 13 rfl rfl (fun (c1 : isN N x = true) => ?_) (fun (c1 : isN N x = false) => ?_)
  · obtain ⟨i, hi, rfl⟩ := isN_of hN c1
    refine jj_s (pc' := 14) rfl rfl ?_
    refine jj_s (pc' := 15) rfl rfl ?_
    refine jj_s (pc' := 17) rfl rfl ?_
    refine jj_t3 rfl rfl rfl rfl rfl (c_isWithin _ _ _) ?_
    refine jj_zF 26 rfl rfl (fun (c2 : wth v 1 30 = true) => ?_) (fun (c2 : wth v 1 30 = false) => ?_)
    · refine jj_s (pc' := 27) rfl rfl ?_
      refine jj_g rfl rfl (dO _ _ _) rfl ?_
      refine jj_s (pc' := 31) rfl rfl ?_
      refine jj_s (pc' := 32) rfl rfl ?_
      refine jj_v2 rfl rfl rfl wQ_o rfl rfl (c_isValid (by omega) _) ?_
      refine jj_zF 41 rfl rfl (fun c3 => ?_) (fun c3 => ?_)
      · have e : zExt N S F (nI i) r v = (F 8 i, uF F 8 i (S 1 + v)) := by rw [zExt, if_pos c1, if_pos c2, ix_nI (by omega), if_pos (of_decide_eq_true c3)]
        rw [e]
        refine jj_s (pc' := 42) rfl rfl ?_
        refine jj_g rfl rfl (dO _ _ _) rfl ?_
        refine jj_g rfl rfl wQ_o rfl ?_
        refine jj_s (pc' := 49) rfl rfl ?_
        refine jj_qld [] rfl rfl (by decide) (by first | assumption | omega) ?_
        refine jj_s (pc' := 52) rfl rfl ?_
        refine jj_s (pc' := 53) rfl rfl ?_
        refine jj_g rfl rfl (dO _ _ _) rfl ?_
        refine jj_g rfl rfl wQ_o rfl ?_
        refine jj_s (pc' := 60) rfl rfl ?_
        refine jj_s (pc' := 61) rfl rfl ?_
        refine jj_g rfl rfl (dO _ _ _) rfl ?_
        refine jj_g rfl rfl wQ_o rfl ?_
        refine jj_s (pc' := 68) rfl rfl ?_
        refine jj_s (pc' := 69) rfl rfl ?_
        refine jj_qst [] rfl rfl (by decide) (by first | assumption | omega) ?_
        refine jj_s (pc' := 72) rfl rfl ?_
        exact jj_iret rfl rfl ⟨rfl, rfl, fin _ _ _⟩
      · have e : zExt N S F (nI i) r v = (-6, F) := by rw [zExt, if_pos c1, if_pos c2, ix_nI (by omega), if_neg (of_decide_eq_false c3)]
        rw [e]
        refine jj_s (pc' := 40) rfl rfl ?_
        exact jj_iret rfl rfl ⟨rfl, rfl, fin _ _ _⟩
    · have e : zExt N S F (nI i) r v = (-2, F) := by rw [zExt, if_pos c1, if_neg (by rw [c2]; decide)]
      rw [e]
      refine jj_s (pc' := 25) rfl rfl ?_
      exact jj_iret rfl rfl ⟨rfl, rfl, fin _ _ _⟩
  · have e : zExt N S F x r v = (-1, F) := by rw [zExt, if_neg (by rw [c1]; decide)]
    rw [e]
    refine jj_s (pc' := 12) rfl rfl ?_
    exact jj_iret rfl rfl ⟨rfl, rfl, fin _ _ _⟩
/-- k ticks: the scalars, the rows, how many returned -/
def tkK (N : Nat) (S : Nat → Int32) (F : Nat → Nat → Int32) : Nat → (Nat → Int32) × (Nat → Nat → Int32) × Int32
  | 0 => (S, F, 0)
  | k + 1 =>
    let r := tkK N S F k
    (upd r.1 1 (r.1 1 + 1), tck (upd r.1 1 (r.1 1 + 1)) N r.2.1, r.2.2 + nI (ptk (upd r.1 1 (r.1 1 + 1)) r.2.1 N).2)
def zTic (N : Nat) (S : Nat → Int32) (F : Nat → Nat → Int32) (x : Int32) : Int32 × (Nat → Int32) × (Nat → Nat → Int32) := if wth x 1 30 = true then ((tkK N S F (ix x)).2.2, (tkK N S F (ix x)).1, (tkK N S F (ix x)).2.1) else (-2, S, F)
set_option maxHeartbeats 4000000 in
set_option maxRecDepth 100000 in
 theorem d_tick {G : GC} {B n N : Nat} {S : Nat → Int32} {F : Nat → Nat → Int32} {f : Nat → Option Nat} {wl : Int32} {pt : Nat → Int32} {len : Nat} {C : Nat → Int32} {h : HT} (hN : N ≤ 20) (hC : CL B N S F f wl pt len C h) (x : Int32) : CtJ G B M8_tick [.ref (B + 0), .int x] n h 0 0 (fun r2 n2 h2 => r2 = some (.int ((zTic N S F x).1)) ∧ n2 = n ∧ CL B N (zTic N S F x).2.1 (zTic N S F x).2.2 f wl pt len C h2 ∧ tl51 h h2) := by
  obtain ⟨P, Wr, V, Lr, Cr, w, mb, nd, a, Nd, Sd, Fd, hc, hpt⟩ := hC
  have dO : ∀ N S F, wQ B 1 N S F h 0 = some (dob B) := fun N S F => (wQ_n (by omega)).trans hc.1
  have fin : ∀ N' S' F', CL B N' S' F' f wl pt len C (wQ B 1 N' S' F' h) ∧ tl51 h (wQ B 1 N' S' F' h) := fun N' S' F' => ⟨⟨P, Wr, V, Lr, Cr, w, mb, nd, a, Nd, Sd, Fd, hc.q _ _ _, hpt⟩, fun k hk => wQ_n (by omega)⟩
  unfold CtJ
  refine jj_lv (lv' := [some (.ref (B + 0)), some (.int x), none, none]) rfl ?_
  refine jj_h (h' := wQ B 1 N S F h) hc.2.1.id ?_
  refine jj_s (pc' := 1) rfl rfl ?_
  refine jj_s (pc' := 2) rfl rfl ?_
  refine jj_s (pc' := 4) rfl rfl ?_
  refine jj_t3 rfl rfl rfl rfl rfl (c_isWithin _ _ _) ?_
  refine jj_zF 13 rfl rfl (fun (c1 : wth x 1 30 = true) => ?_) (fun (c1 : wth x 1 30 = false) => ?_)
  · have c2 := of_decide_eq_true c1
    obtain ⟨t, ht, rfl⟩ := nI_of2 (x := x) (M := 30) (n := 30) rfl (fun z => absurd (Int32.lt_of_lt_of_le z (by decide : (0 : Int32) ≤ 1)) (Int32.not_lt.mpr c2.1)) c2.2
    have e : zTic N S F (nI t) = ((tkK N S F t).2.2, (tkK N S F t).1, (tkK N S F t).2.1) := by rw [zTic, if_pos c1, ix_nI (by omega)]
    rw [e]
    refine jj_s (pc' := 14) rfl rfl ?_
    refine jj_s (pc' := 15) rfl rfl ?_
    refine jj_s (pc' := 16) rfl rfl ?_
    refine jj_s (pc' := 17) rfl rfl ?_
    have L : ∀ d k, k ≤ t → t + 1 ≤ k + d → JJ X0 G B M8_tick 17 [some (.ref (B + 0)), some (.int (nI t)), some (.int (tkK N S F k).2.2), some (.int (nI k))] [] n (wQ B 1 N (tkK N S F k).1 (tkK N S F k).2.1 h) 0 0 (fun r2 n2 h2 => r2 = some (.int ((tkK N S F t).2.2)) ∧ n2 = n ∧ CL B N (tkK N S F t).1 (tkK N S F t).2.1 f wl pt len C h2 ∧ tl51 h h2) := by
      intro d
      induction d with
      | zero => intro k h1 h2; exact absurd h2 (by omega)
      | succ d ih =>
        intro k h1 h2
        refine jj_s (pc' := 18) rfl rfl ?_
        refine jj_s (pc' := 19) rfl rfl ?_
        refine jj_geN 38 rfl rfl (by omega) (by omega) (fun c => ?_) (fun c => ?_)
        · rw [show k = t by omega]
          refine jj_s (pc' := 39) rfl rfl ?_
          exact jj_iret rfl rfl ⟨rfl, rfl, fin _ _ _⟩
        · refine jj_s (pc' := 23) rfl rfl ?_
          refine jj_s (pc' := 24) rfl rfl ?_
          refine jj_g rfl rfl (dO _ _ _) rfl ?_
          refine jj_v0 rfl rfl rfl wQ_o rfl rfl (c_passTick hN) ?_
          refine jj_s (pc' := 31) rfl rfl ?_
          refine jj_s (pc' := 32) rfl rfl ?_
          first | refine jj_inc rfl rfl ?_ | refine jj_s (pc' := 35) rfl rfl ?_
          refine jj_s (pc' := 17) rfl rfl ?_
          exact ih (k + 1) (by omega) (by omega)
    exact L (t + 1) 0 (by omega) (by omega)
  · have e : zTic N S F x = (-2, S, F) := by rw [zTic, if_neg (by rw [c1]; decide)]
    rw [e]
    refine jj_s (pc' := 12) rfl rfl ?_
    exact jj_iret rfl rfl ⟨rfl, rfl, fin _ _ _⟩
def zDoo (N : Nat) (F : Nat → Nat → Int32) (x : Int32) : Int32 := if isN N x = true then (if 3 ≤ F 5 (ix x) then -4 else dmk F N 1000 (bit (ix x)) &&& (bit (ix x) ^^^ -1)) else -1
set_option maxHeartbeats 4000000 in
set_option maxRecDepth 100000 in
 theorem d_wouldDoom {G : GC} {B n N : Nat} {S : Nat → Int32} {F : Nat → Nat → Int32} {f : Nat → Option Nat} {wl : Int32} {pt : Nat → Int32} {len : Nat} {C : Nat → Int32} {h : HT} (hN : N ≤ 20) (hC : CL B N S F f wl pt len C h) (x : Int32) : CtJ G B M8_wouldDoom [.ref (B + 0), .int x] n h 0 0 (fun r2 n2 h2 => r2 = some (.int (zDoo N F x)) ∧ n2 = n ∧ CL B N S F f wl pt len C h2 ∧ tl51 h h2) := by
  obtain ⟨P, Wr, V, Lr, Cr, w, mb, nd, a, Nd, Sd, Fd, hc, hpt⟩ := hC
  have dO : ∀ N S F, wQ B 1 N S F h 0 = some (dob B) := fun N S F => (wQ_n (by omega)).trans hc.1
  have fin : ∀ N' S' F', CL B N' S' F' f wl pt len C (wQ B 1 N' S' F' h) ∧ tl51 h (wQ B 1 N' S' F' h) := fun N' S' F' => ⟨⟨P, Wr, V, Lr, Cr, w, mb, nd, a, Nd, Sd, Fd, hc.q _ _ _, hpt⟩, fun k hk => wQ_n (by omega)⟩
  unfold CtJ
  refine jj_lv (lv' := [some (.ref (B + 0)), some (.int x)]) rfl ?_
  refine jj_h (h' := wQ B 1 N S F h) hc.2.1.id ?_
  refine jj_s (pc' := 1) rfl rfl ?_
  refine jj_g rfl rfl (dO _ _ _) rfl ?_
  refine jj_s (pc' := 5) rfl rfl ?_
  refine jj_v1 rfl rfl rfl wQ_o rfl rfl (c_holds _) ?_
  refine jj_zF 13 rfl rfl (fun (c1 : isN N x = true) => ?_) (fun (c1 : isN N x = false) => ?_)
  · obtain ⟨i, hi, rfl⟩ := isN_of hN c1
    refine jj_s (pc' := 14) rfl rfl ?_
    refine jj_g rfl rfl (dO _ _ _) rfl ?_
    refine jj_s (pc' := 18) rfl rfl ?_
    refine jj_v1 rfl rfl rfl wQ_o rfl rfl (c_hasEnded (by omega)) ?_
    refine jj_zT 27 rfl rfl (fun c2 => ?_) (fun c2 => ?_)
    · refine jj_s (pc' := 28) rfl rfl ?_
      refine jj_g rfl rfl (dO _ _ _) rfl ?_
      refine jj_s (pc' := 32) rfl rfl ?_
      refine jj_v1 rfl rfl rfl wQ_o rfl rfl (c_doomedBy hN (by omega)) ?_
      exact jj_iret rfl rfl ⟨by rw [zDoo, if_pos c1, ix_nI (by omega), if_neg (of_decide_eq_false c2)], rfl, fin _ _ _⟩
    · refine jj_s (pc' := 26) rfl rfl ?_
      exact jj_iret rfl rfl ⟨by rw [zDoo, if_pos c1, ix_nI (by omega), if_pos (of_decide_eq_true c2)]; rfl, rfl, fin _ _ _⟩
  · refine jj_s (pc' := 12) rfl rfl ?_
    exact jj_iret rfl rfl ⟨by rw [zDoo, if_neg (by rw [c1]; decide)]; rfl, rfl, fin _ _ _⟩
end
section
/-! the class's calls that look at paths -/
def zPro (N : Nat) (F : Nat → Nat → Int32) (x y : Int32) : Int32 := if isN N x = true then (if y = 0 then F 0 (ix x) else if y = 1 then F 1 (ix x) else if y = 2 then F 2 (ix x) else if y = 3 then F 3 (ix x) else if y = 4 then F 4 (ix x) else if y = 5 then F 9 (ix x) else if y = 6 then (if F 5 (ix x) = 1 then F 6 (ix x) else -7) else if y = 7 then (if F 5 (ix x) = 2 then F 8 (ix x) else -7) else -2) else -1
set_option maxHeartbeats 4000000 in
set_option maxRecDepth 100000 in
 theorem d_property {G : GC} {B n N : Nat} {S : Nat → Int32} {F : Nat → Nat → Int32} {f : Nat → Option Nat} {wl : Int32} {pt : Nat → Int32} {len : Nat} {C : Nat → Int32} {h : HT} (hN : N ≤ 20) (hC : CL B N S F f wl pt len C h) (x y : Int32) : CtJ G B M8_property [.ref (B + 0), .int x, .int y] n h 0 0 (fun r2 n2 h2 => r2 = some (.int (zPro N F x y)) ∧ n2 = n ∧ CL B N S F f wl pt len C h2 ∧ tl51 h h2) := by
  obtain ⟨P, Wr, V, Lr, Cr, w, mb, nd, a, Nd, Sd, Fd, hc, hpt⟩ := hC
  have dO : ∀ N S F, wQ B 1 N S F h 0 = some (dob B) := fun N S F => (wQ_n (by omega)).trans hc.1
  have fin : ∀ N' S' F', CL B N' S' F' f wl pt len C (wQ B 1 N' S' F' h) ∧ tl51 h (wQ B 1 N' S' F' h) := fun N' S' F' => ⟨⟨P, Wr, V, Lr, Cr, w, mb, nd, a, Nd, Sd, Fd, hc.q _ _ _, hpt⟩, fun k hk => wQ_n (by omega)⟩
  unfold CtJ
  refine jj_lv (lv' := [some (.ref (B + 0)), some (.int x), some (.int y)]) rfl ?_
  refine jj_h (h' := wQ B 1 N S F h) hc.2.1.id ?_
  refine jj_s (pc' := 1) rfl rfl ?_
  refine jj_g rfl rfl (dO _ _ _) rfl ?_
  refine jj_s (pc' := 5) rfl rfl ?_
  refine jj_v1 rfl rfl rfl wQ_o rfl rfl (c_holds _) ?_
  refine jj_zF 13 rfl rfl (fun (c1 : isN N x = true) => ?_) (fun (c1 : isN N x = false) => ?_)
  · obtain ⟨i, hi, rfl⟩ := isN_of hN c1
    refine jj_s (pc' := 14) rfl rfl ?_
    by_cases hy : y.toInt < 0 ∨ 7 < y.toInt
    · refine jj_swOut 176 rfl hy rfl ?_
      refine jj_s (pc' := 178) rfl rfl ?_
      refine jj_iret rfl rfl ⟨?_, rfl, fin _ _ _⟩
      have ne : ∀ k : Int32, 0 ≤ k.toInt → k.toInt ≤ 7 → ¬ y = k := fun k h1 h2 z => by rw [z] at hy; omega
      rw [zPro, if_pos c1, if_neg (ne 0 (by decide) (by decide)), if_neg (ne 1 (by decide) (by decide)), if_neg (ne 2 (by decide) (by decide)), if_neg (ne 3 (by decide) (by decide)), if_neg (ne 4 (by decide) (by decide)), if_neg (ne 5 (by decide) (by decide)), if_neg (ne 6 (by decide) (by decide)), if_neg (ne 7 (by decide) (by decide))]
      rfl
    · have hy1 : ¬ y.toInt < 0 := fun z => hy (Or.inl z)
      have hy2 : ¬ 7 < y.toInt := fun z => hy (Or.inr z)
      have hys : y = 0 ∨ y = 1 ∨ y = 2 ∨ y = 3 ∨ y = 4 ∨ y = 5 ∨ y = 6 ∨ y = 7 := by
        have : y.toInt = 0 ∨ y.toInt = 1 ∨ y.toInt = 2 ∨ y.toInt = 3 ∨ y.toInt = 4 ∨ y.toInt = 5 ∨ y.toInt = 6 ∨ y.toInt = 7 := by omega
        rcases this with z | z | z | z | z | z | z | z
        · exact Or.inl (Int32.toInt_inj.mp z)
        · exact Or.inr (Or.inl (Int32.toInt_inj.mp z))
        · exact Or.inr (Or.inr (Or.inl (Int32.toInt_inj.mp z)))
        · exact Or.inr (Or.inr (Or.inr (Or.inl (Int32.toInt_inj.mp z))))
        · exact Or.inr (Or.inr (Or.inr (Or.inr (Or.inl (Int32.toInt_inj.mp z)))))
        · exact Or.inr (Or.inr (Or.inr (Or.inr (Or.inr (Or.inl (Int32.toInt_inj.mp z))))))
        · exact Or.inr (Or.inr (Or.inr (Or.inr (Or.inr (Or.inr (Or.inl (Int32.toInt_inj.mp z)))))))
        · exact Or.inr (Or.inr (Or.inr (Or.inr (Or.inr (Or.inr (Or.inr (Int32.toInt_inj.mp z)))))))
      rcases hys with rfl | rfl | rfl | rfl | rfl | rfl | rfl | rfl
      · refine jj_swIn 60 rfl hy1 hy2 rfl rfl ?_
        refine jj_s (pc' := 61) rfl rfl ?_
        refine jj_g rfl rfl (dO _ _ _) rfl ?_
        refine jj_g rfl rfl wQ_o rfl ?_
        refine jj_s (pc' := 68) rfl rfl ?_
        refine jj_qld [] rfl rfl (by decide) (by first | assumption | omega) ?_
        exact jj_iret rfl rfl ⟨by rw [zPro, if_pos c1, ix_nI (by omega)]; rfl, rfl, fin _ _ _⟩
      · refine jj_swIn 70 rfl hy1 hy2 rfl rfl ?_
        refine jj_s (pc' := 71) rfl rfl ?_
        refine jj_g rfl rfl (dO _ _ _) rfl ?_
        refine jj_g rfl rfl wQ_o rfl ?_
        refine jj_s (pc' := 78) rfl rfl ?_
        refine jj_qld [] rfl rfl (by decide) (by first | assumption | omega) ?_
        exact jj_iret rfl rfl ⟨by rw [zPro, if_pos c1, ix_nI (by omega)]; rfl, rfl, fin _ _ _⟩
      · refine jj_swIn 80 rfl hy1 hy2 rfl rfl ?_
        refine jj_s (pc' := 81) rfl rfl ?_
        refine jj_g rfl rfl (dO _ _ _) rfl ?_
        refine jj_g rfl rfl wQ_o rfl ?_
        refine jj_s (pc' := 88) rfl rfl ?_
        refine jj_qld [] rfl rfl (by decide) (by first | assumption | omega) ?_
        exact jj_iret rfl rfl ⟨by rw [zPro, if_pos c1, ix_nI (by omega)]; rfl, rfl, fin _ _ _⟩
      · refine jj_swIn 90 rfl hy1 hy2 rfl rfl ?_
        refine jj_s (pc' := 91) rfl rfl ?_
        refine jj_g rfl rfl (dO _ _ _) rfl ?_
        refine jj_g rfl rfl wQ_o rfl ?_
        refine jj_s (pc' := 98) rfl rfl ?_
        refine jj_qld [] rfl rfl (by decide) (by first | assumption | omega) ?_
        exact jj_iret rfl rfl ⟨by rw [zPro, if_pos c1, ix_nI (by omega)]; rfl, rfl, fin _ _ _⟩
      · refine jj_swIn 100 rfl hy1 hy2 rfl rfl ?_
        refine jj_s (pc' := 101) rfl rfl ?_
        refine jj_g rfl rfl (dO _ _ _) rfl ?_
        refine jj_g rfl rfl wQ_o rfl ?_
        refine jj_s (pc' := 108) rfl rfl ?_
        refine jj_qld [] rfl rfl (by decide) (by first | assumption | omega) ?_
        exact jj_iret rfl rfl ⟨by rw [zPro, if_pos c1, ix_nI (by omega)]; rfl, rfl, fin _ _ _⟩
      · refine jj_swIn 110 rfl hy1 hy2 rfl rfl ?_
        refine jj_s (pc' := 111) rfl rfl ?_
        refine jj_g rfl rfl (dO _ _ _) rfl ?_
        refine jj_g rfl rfl wQ_o rfl ?_
        refine jj_s (pc' := 118) rfl rfl ?_
        refine jj_qld [] rfl rfl (by decide) (by first | assumption | omega) ?_
        exact jj_iret rfl rfl ⟨by rw [zPro, if_pos c1, ix_nI (by omega)]; rfl, rfl, fin _ _ _⟩
      · refine jj_swIn 120 rfl hy1 hy2 rfl rfl ?_
        refine jj_s (pc' := 121) rfl rfl ?_
        refine jj_g rfl rfl (dO _ _ _) rfl ?_
        refine jj_g rfl rfl wQ_o rfl ?_
        refine jj_s (pc' := 128) rfl rfl ?_
        refine jj_qld [] rfl rfl (by decide) (by first | assumption | omega) ?_
        refine jj_s (pc' := 130) rfl rfl ?_
        have e : zPro N F (nI i) 6 = if F 5 i = 1 then F 6 i else -7 := by rw [zPro, if_pos c1, ix_nI (by omega)]; rfl
        refine jj_icmp_ne 145 rfl rfl (fun (c2 : ¬ F 5 i = 1) => ?_) (fun (c2 : F 5 i = 1) => ?_)
        · refine jj_s (pc' := 147) rfl rfl ?_
          exact jj_iret rfl rfl ⟨by rw [e, if_neg c2]; rfl, rfl, fin _ _ _⟩
        · refine jj_s (pc' := 134) rfl rfl ?_
          refine jj_g rfl rfl (dO _ _ _) rfl ?_
          refine jj_g rfl rfl wQ_o rfl ?_
          refine jj_s (pc' := 141) rfl rfl ?_
          refine jj_qld [] rfl rfl (by decide) (by first | assumption | omega) ?_
          refine jj_s (pc' := 147) rfl rfl ?_
          exact jj_iret rfl rfl ⟨by rw [e, if_pos c2], rfl, fin _ _ _⟩
      · refine jj_swIn 148 rfl hy1 hy2 rfl rfl ?_
        refine jj_s (pc' := 149) rfl rfl ?_
        refine jj_g rfl rfl (dO _ _ _) rfl ?_
        refine jj_g rfl rfl wQ_o rfl ?_
        refine jj_s (pc' := 156) rfl rfl ?_
        refine jj_qld [] rfl rfl (by decide) (by first | assumption | omega) ?_
        refine jj_s (pc' := 158) rfl rfl ?_
        have e : zPro N F (nI i) 7 = if F 5 i = 2 then F 8 i else -7 := by rw [zPro, if_pos c1, ix_nI (by omega)]; rfl
        refine jj_icmp_ne 173 rfl rfl (fun (c2 : ¬ F 5 i = 2) => ?_) (fun (c2 : F 5 i = 2) => ?_)
        · refine jj_s (pc' := 175) rfl rfl ?_
          exact jj_iret rfl rfl ⟨by rw [e, if_neg c2]; rfl, rfl, fin _ _ _⟩
        · refine jj_s (pc' := 162) rfl rfl ?_
          refine jj_g rfl rfl (dO _ _ _) rfl ?_
          refine jj_g rfl rfl wQ_o rfl ?_
          refine jj_s (pc' := 169) rfl rfl ?_
          refine jj_qld [] rfl rfl (by decide) (by first | assumption | omega) ?_
          refine jj_s (pc' := 175) rfl rfl ?_
          exact jj_iret rfl rfl ⟨by rw [e, if_pos c2], rfl, fin _ _ _⟩
  · refine jj_s (pc' := 12) rfl rfl ?_
    exact jj_iret rfl rfl ⟨by rw [zPro, if_neg (by rw [c1]; decide)]; rfl, rfl, fin _ _ _⟩
set_option maxHeartbeats 4000000 in
set_option maxRecDepth 100000 in
 theorem d_before {G : GC} {B n N : Nat} {S : Nat → Int32} {F : Nat → Nat → Int32} {f : Nat → Option Nat} {wl : Int32} {pt : Nat → Int32} {len : Nat} {C : Nat → Int32} {h : HT} (hN : N ≤ 20) (hC : CL B N S F f wl pt len C h) (x : Int32) (bf : Nat → Int32) (hbf : ∀ P i, i < N → bfS F N P 0 i = bf i) : CtJ G B M8_before [.ref (B + 0), .int x] n h 0 0 (fun r2 n2 h2 => r2 = some (.int (zRow N bf x)) ∧ n2 = n ∧ CL B N S F f wl pt len C h2 ∧ tl51 h h2) := by
  obtain ⟨P, Wr, V, Lr, Cr, w, mb, nd, a, Nd, Sd, Fd, hc, hpt⟩ := hC
  have hp : h = wA 16 3 (pob B 16 1) P h := hc.2.2.2.1.id
  have dO : ∀ N S F, wQ B 1 N S F h 0 = some (dob B) := fun N S F => (wQ_n (by omega)).trans hc.1
  have dP : ∀ N S F P, wQ B 1 N S F (wA 16 3 (pob B 16 1) P h) 0 = some (dob B) := fun N S F P => (wQ_n (by omega)).trans ((wA_n (by omega)).trans hc.1)
  have fin : ∀ N' S' F', CL B N' S' F' f wl pt len C (wQ B 1 N' S' F' h) ∧ tl51 h (wQ B 1 N' S' F' h) := fun N' S' F' => ⟨⟨P, Wr, V, Lr, Cr, w, mb, nd, a, Nd, Sd, Fd, hc.q _ _ _, hpt⟩, fun k hk => wQ_n (by omega)⟩
  have finp : ∀ N' S' F' P', CL B N' S' F' f wl pt len C (wQ B 1 N' S' F' (wA 16 3 (pob B 16 1) P' h)) ∧ tl51 h (wQ B 1 N' S' F' (wA 16 3 (pob B 16 1) P' h)) := fun N' S' F' P' => ⟨⟨P', Wr, V, Lr, Cr, w, mb, nd, a, Nd, Sd, Fd, (hc.p P').q _ _ _, hpt⟩, fun k hk => (wQ_n (by omega)).trans (wA_n (by omega))⟩
  unfold CtJ
  refine jj_lv (lv' := [some (.ref (B + 0)), some (.int x)]) rfl ?_
  refine jj_h (h' := wQ B 1 N S F h) hc.2.1.id ?_
  refine jj_s (pc' := 1) rfl rfl ?_
  refine jj_g rfl rfl (dO _ _ _) rfl ?_
  refine jj_s (pc' := 5) rfl rfl ?_
  refine jj_v1 rfl rfl rfl wQ_o rfl rfl (c_holds _) ?_
  refine jj_zT 23 rfl rfl (fun (c1 : isN N x = false) => ?_) (fun (c1 : isN N x = true) => ?_)
  · refine jj_s (pc' := 24) rfl rfl ?_
    exact jj_iret rfl rfl ⟨by rw [zRow, if_neg (by rw [c1]; decide)]; rfl, rfl, fin _ _ _⟩
  · obtain ⟨i, hi, rfl⟩ := isN_of hN c1
    refine jj_h (h' := wQ B 1 N S F (wA 16 3 (pob B 16 1) P h)) (by rw [← hp]) ?_
    refine jj_s (pc' := 12) rfl rfl ?_
    refine jj_g rfl rfl (dP _ _ _ _) rfl ?_
    refine jj_v0 rfl rfl rfl (wQA_o (by omega)) rfl rfl (c_beforeSets hN (by omega)) ?_
    refine jj_s (pc' := 19) rfl rfl ?_
    refine jj_ald2 (o := 16) (j := 0) rfl (by decide) (by omega) (by omega) ?_
    refine jj_s (pc' := 24) rfl rfl ?_
    exact jj_iret rfl rfl ⟨by rw [zRow, if_pos c1, ix_nI (by omega), hbf P i hi], rfl, finp _ _ _ _⟩
set_option maxHeartbeats 4000000 in
set_option maxRecDepth 100000 in
 theorem d_height {G : GC} {B n N : Nat} {S : Nat → Int32} {F : Nat → Nat → Int32} {f : Nat → Option Nat} {wl : Int32} {pt : Nat → Int32} {len : Nat} {C : Nat → Int32} {h : HT} (hN : N ≤ 20) (hC : CL B N S F f wl pt len C h) (x : Int32) (hg : Nat → Int32) (hhg : ∀ P i, i < N → htS F N P 1 i = hg i) : CtJ G B M8_height [.ref (B + 0), .int x] n h 0 0 (fun r2 n2 h2 => r2 = some (.int (zRow N hg x)) ∧ n2 = n ∧ CL B N S F f wl pt len C h2 ∧ tl51 h h2) := by
  obtain ⟨P, Wr, V, Lr, Cr, w, mb, nd, a, Nd, Sd, Fd, hc, hpt⟩ := hC
  have hp : h = wA 16 3 (pob B 16 1) P h := hc.2.2.2.1.id
  have dO : ∀ N S F, wQ B 1 N S F h 0 = some (dob B) := fun N S F => (wQ_n (by omega)).trans hc.1
  have dP : ∀ N S F P, wQ B 1 N S F (wA 16 3 (pob B 16 1) P h) 0 = some (dob B) := fun N S F P => (wQ_n (by omega)).trans ((wA_n (by omega)).trans hc.1)
  have fin : ∀ N' S' F', CL B N' S' F' f wl pt len C (wQ B 1 N' S' F' h) ∧ tl51 h (wQ B 1 N' S' F' h) := fun N' S' F' => ⟨⟨P, Wr, V, Lr, Cr, w, mb, nd, a, Nd, Sd, Fd, hc.q _ _ _, hpt⟩, fun k hk => wQ_n (by omega)⟩
  have finp : ∀ N' S' F' P', CL B N' S' F' f wl pt len C (wQ B 1 N' S' F' (wA 16 3 (pob B 16 1) P' h)) ∧ tl51 h (wQ B 1 N' S' F' (wA 16 3 (pob B 16 1) P' h)) := fun N' S' F' P' => ⟨⟨P', Wr, V, Lr, Cr, w, mb, nd, a, Nd, Sd, Fd, (hc.p P').q _ _ _, hpt⟩, fun k hk => (wQ_n (by omega)).trans (wA_n (by omega))⟩
  unfold CtJ
  refine jj_lv (lv' := [some (.ref (B + 0)), some (.int x)]) rfl ?_
  refine jj_h (h' := wQ B 1 N S F h) hc.2.1.id ?_
  refine jj_s (pc' := 1) rfl rfl ?_
  refine jj_g rfl rfl (dO _ _ _) rfl ?_
  refine jj_s (pc' := 5) rfl rfl ?_
  refine jj_v1 rfl rfl rfl wQ_o rfl rfl (c_holds _) ?_
  refine jj_zT 23 rfl rfl (fun (c1 : isN N x = false) => ?_) (fun (c1 : isN N x = true) => ?_)
  · refine jj_s (pc' := 24) rfl rfl ?_
    exact jj_iret rfl rfl ⟨by rw [zRow, if_neg (by rw [c1]; decide)]; rfl, rfl, fin _ _ _⟩
  · obtain ⟨i, hi, rfl⟩ := isN_of hN c1
    refine jj_h (h' := wQ B 1 N S F (wA 16 3 (pob B 16 1) P h)) (by rw [← hp]) ?_
    refine jj_s (pc' := 12) rfl rfl ?_
    refine jj_g rfl rfl (dP _ _ _ _) rfl ?_
    refine jj_v0 rfl rfl rfl (wQA_o (by omega)) rfl rfl (c_heights hN (by omega)) ?_
    refine jj_s (pc' := 19) rfl rfl ?_
    refine jj_ald2 (o := 16) (j := 1) rfl (by decide) (by omega) (by omega) ?_
    refine jj_s (pc' := 24) rfl rfl ?_
    exact jj_iret rfl rfl ⟨by rw [zRow, if_pos c1, ix_nI (by omega), hhg P i hi], rfl, finp _ _ _ _⟩
set_option maxHeartbeats 4000000 in
set_option maxRecDepth 100000 in
 theorem d_rank {G : GC} {B n N : Nat} {S : Nat → Int32} {F : Nat → Nat → Int32} {f : Nat → Option Nat} {wl : Int32} {pt : Nat → Int32} {len : Nat} {C : Nat → Int32} {h : HT} (hN : N ≤ 20) (hC : CL B N S F f wl pt len C h) (x : Int32) (hg : Nat → Int32) (hhg : ∀ P i, i < N → htS F N P 1 i = hg i) : CtJ G B M8_rank [.ref (B + 0), .int x] n h 0 0 (fun r2 n2 h2 => r2 = some (.int (zRow N (fun i => rkN S F i (hg i)) x)) ∧ n2 = n ∧ CL B N S F f wl pt len C h2 ∧ tl51 h h2) := by
  obtain ⟨P, Wr, V, Lr, Cr, w, mb, nd, a, Nd, Sd, Fd, hc, hpt⟩ := hC
  have hp : h = wA 16 3 (pob B 16 1) P h := hc.2.2.2.1.id
  have dO : ∀ N S F, wQ B 1 N S F h 0 = some (dob B) := fun N S F => (wQ_n (by omega)).trans hc.1
  have dP : ∀ N S F P, wQ B 1 N S F (wA 16 3 (pob B 16 1) P h) 0 = some (dob B) := fun N S F P => (wQ_n (by omega)).trans ((wA_n (by omega)).trans hc.1)
  have fin : ∀ N' S' F', CL B N' S' F' f wl pt len C (wQ B 1 N' S' F' h) ∧ tl51 h (wQ B 1 N' S' F' h) := fun N' S' F' => ⟨⟨P, Wr, V, Lr, Cr, w, mb, nd, a, Nd, Sd, Fd, hc.q _ _ _, hpt⟩, fun k hk => wQ_n (by omega)⟩
  have finp : ∀ N' S' F' P', CL B N' S' F' f wl pt len C (wQ B 1 N' S' F' (wA 16 3 (pob B 16 1) P' h)) ∧ tl51 h (wQ B 1 N' S' F' (wA 16 3 (pob B 16 1) P' h)) := fun N' S' F' P' => ⟨⟨P', Wr, V, Lr, Cr, w, mb, nd, a, Nd, Sd, Fd, (hc.p P').q _ _ _, hpt⟩, fun k hk => (wQ_n (by omega)).trans (wA_n (by omega))⟩
  unfold CtJ
  refine jj_lv (lv' := [some (.ref (B + 0)), some (.int x)]) rfl ?_
  refine jj_h (h' := wQ B 1 N S F h) hc.2.1.id ?_
  refine jj_s (pc' := 1) rfl rfl ?_
  refine jj_g rfl rfl (dO _ _ _) rfl ?_
  refine jj_s (pc' := 5) rfl rfl ?_
  refine jj_v1 rfl rfl rfl wQ_o rfl rfl (c_holds _) ?_
  refine jj_zF 13 rfl rfl (fun (c1 : isN N x = true) => ?_) (fun (c1 : isN N x = false) => ?_)
  · obtain ⟨i, hi, rfl⟩ := isN_of hN c1
    refine jj_h (h' := wQ B 1 N S F (wA 16 3 (pob B 16 1) P h)) (by rw [← hp]) ?_
    refine jj_s (pc' := 14) rfl rfl ?_
    refine jj_g rfl rfl (dP _ _ _ _) rfl ?_
    refine jj_s (pc' := 18) rfl rfl ?_
    refine jj_s (pc' := 19) rfl rfl ?_
    refine jj_g rfl rfl (dP _ _ _ _) rfl ?_
    refine jj_v0 rfl rfl rfl (wQA_o (by omega)) rfl rfl (c_heights hN (by omega)) ?_
    refine jj_s (pc' := 26) rfl rfl ?_
    refine jj_ald2 (o := 16) (j := 1) rfl (by decide) (by omega) (by omega) ?_
    refine jj_v2 rfl rfl rfl wQ_o rfl rfl (c_rankNow (by omega) _) ?_
    exact jj_iret rfl rfl ⟨by rw [zRow, if_pos c1, ix_nI (by omega), hhg P i hi], rfl, finp _ _ _ _⟩
  · refine jj_s (pc' := 12) rfl rfl ?_
    exact jj_iret rfl rfl ⟨by rw [zRow, if_neg (by rw [c1]; decide)]; rfl, rfl, fin _ _ _⟩
theorem pkB_cong {P : Nat → Bool} {R R' : Nat → Int32} {k : Nat} (h : ∀ i, i < k → R i = R' i) : pkB P R k = pkB P R' k := by
  induction k with
  | zero => rfl
  | succ k ih =>
    have e := ih (fun i hi => h i (by omega))
    cases hp : pkB P R k with
    | none =>
      rw [pkB, pkB, ← e, hp]
    | some b =>
      have hb := (pkB_lt _ _ _ _ hp).1
      rw [pkB, pkB, ← e, hp]
      dsimp only
      rw [h b (by omega), h k (by omega)]
def zRec (N : Nat) (S : Nat → Int32) (F : Nat → Nat → Int32) (hg : Nat → Int32) (v : Int32) : Int32 × (Nat → Int32) × (Nat → Nat → Int32) := if wth v 1 30 = true then (match pkB (cbr S F N) (fun i => rkN S F i (hg i)) N with
  | none => (-7, S, F)
  | some b => (nI b, upd S 4 (S 4 + 1), toF S F b v)) else (-2, S, F)
set_option maxHeartbeats 4000000 in
set_option maxRecDepth 100000 in
 theorem d_receive {G : GC} {B n N : Nat} {S : Nat → Int32} {F : Nat → Nat → Int32} {f : Nat → Option Nat} {wl : Int32} {pt : Nat → Int32} {len : Nat} {C : Nat → Int32} {h : HT} (hN : N ≤ 20) (hC : CL B N S F f wl pt len C h) (v : Int32) (hg : Nat → Int32) (hhg : ∀ P i, i < N → htS F N P 1 i = hg i) : CtJ G B M8_receive [.ref (B + 0), .int v] n h 0 0 (fun r2 n2 h2 => r2 = some (.int ((zRec N S F hg v).1)) ∧ n2 = n ∧ CL B N (zRec N S F hg v).2.1 (zRec N S F hg v).2.2 f wl pt len C h2 ∧ tl51 h h2) := by
  obtain ⟨P, Wr, V, Lr, Cr, w, mb, nd, a, Nd, Sd, Fd, hc, hpt⟩ := hC
  have hp : h = wA 16 3 (pob B 16 1) P h := hc.2.2.2.1.id
  have dO : ∀ N S F, wQ B 1 N S F h 0 = some (dob B) := fun N S F => (wQ_n (by omega)).trans hc.1
  have dP : ∀ N S F P, wQ B 1 N S F (wA 16 3 (pob B 16 1) P h) 0 = some (dob B) := fun N S F P => (wQ_n (by omega)).trans ((wA_n (by omega)).trans hc.1)
  have fin : ∀ N' S' F', CL B N' S' F' f wl pt len C (wQ B 1 N' S' F' h) ∧ tl51 h (wQ B 1 N' S' F' h) := fun N' S' F' => ⟨⟨P, Wr, V, Lr, Cr, w, mb, nd, a, Nd, Sd, Fd, hc.q _ _ _, hpt⟩, fun k hk => wQ_n (by omega)⟩
  have finp : ∀ N' S' F' P', CL B N' S' F' f wl pt len C (wQ B 1 N' S' F' (wA 16 3 (pob B 16 1) P' h)) ∧ tl51 h (wQ B 1 N' S' F' (wA 16 3 (pob B 16 1) P' h)) := fun N' S' F' P' => ⟨⟨P', Wr, V, Lr, Cr, w, mb, nd, a, Nd, Sd, Fd, (hc.p P').q _ _ _, hpt⟩, fun k hk => (wQ_n (by omega)).trans (wA_n (by omega))⟩
  unfold CtJ
  refine jj_lv (lv' := [some (.ref (B + 0)), some (.int v), none]) rfl ?_
  refine jj_h (h' := wQ B 1 N S F h) hc.2.1.id ?_
  refine jj_s (pc' := 1) rfl rfl ?_
  refine jj_s (pc' := 2) rfl rfl ?_
  refine jj_s (pc' := 4) rfl rfl ?_
  refine jj_t3 rfl rfl rfl rfl rfl (c_isWithin _ _ _) ?_
  refine jj_zF 13 rfl rfl (fun (c1 : wth v 1 30 = true) => ?_) (fun (c1 : wth v 1 30 = false) => ?_)
  · refine jj_h (h' := wQ B 1 N S F (wA 16 3 (pob B 16 1) P h)) (by rw [← hp]) ?_
    refine jj_s (pc' := 14) rfl rfl ?_
    refine jj_g rfl rfl (dP _ _ _ _) rfl ?_
    refine jj_s (pc' := 18) rfl rfl ?_
    refine jj_g rfl rfl (dP _ _ _ _) rfl ?_
    refine jj_v0 rfl rfl rfl (wQA_o (by omega)) rfl rfl (c_heights hN (by omega)) ?_
    refine jj_v1 rfl rfl rfl wQ_o rfl rfl (c_nextToReceive hN (a := 18) (wQA_a (o := 16) (j := 1) (by decide) (by omega))) ?_
    rw [pkB_cong (R' := fun i => rkN S F i (hg i)) (fun i hi => by rw [hhg P i hi])]
    cases hb : pkB (cbr S F N) (fun i => rkN S F i (hg i)) N with
    | none =>
      have e : zRec N S F hg v = (-7, S, F) := by rw [zRec, if_pos c1, hb]
      rw [e]
      refine jj_s (pc' := 28) rfl rfl ?_
      refine jj_s (pc' := 29) rfl rfl ?_
      refine jj_g rfl rfl (dP _ _ _ _) rfl ?_
      refine jj_s (pc' := 33) rfl rfl ?_
      refine jj_v1 rfl rfl rfl wQ_o rfl rfl (c_holds _) ?_
      refine jj_zT 48 rfl rfl (fun c3 => ?_) (fun c3 => absurd c3 (by simp [enc]))
      refine jj_s (pc' := 49) rfl rfl ?_
      exact jj_iret rfl rfl ⟨rfl, rfl, finp _ _ _ _⟩
    | some b =>
      have hbN := (pkB_lt _ _ _ _ hb).1
      have e : zRec N S F hg v = (nI b, upd S 4 (S 4 + 1), toF S F b v) := by rw [zRec, if_pos c1, hb]
      rw [e]
      refine jj_s (pc' := 28) rfl rfl ?_
      refine jj_s (pc' := 29) rfl rfl ?_
      refine jj_g rfl rfl (dP _ _ _ _) rfl ?_
      refine jj_s (pc' := 33) rfl rfl ?_
      refine jj_v1 rfl rfl rfl wQ_o rfl rfl (c_holds _) ?_
      refine jj_zT 48 rfl rfl (fun c3 => absurd (show 0 ≤ enc (some b) ∧ enc (some b) < nI N from ⟨nI_pos' (by omega), nI_lt hbN (by omega)⟩) (of_decide_eq_false c3)) (fun c3 => ?_)
      refine jj_s (pc' := 40) rfl rfl ?_
      refine jj_g rfl rfl (dP _ _ _ _) rfl ?_
      refine jj_s (pc' := 44) rfl rfl ?_
      refine jj_s (pc' := 45) rfl rfl ?_
      refine jj_w2 rfl rfl rfl wQ_o rfl rfl (c_takeOut (by omega) _) ?_
      refine jj_s (pc' := 49) rfl rfl ?_
      exact jj_iret rfl rfl ⟨rfl, rfl, finp _ _ _ _⟩
  · have e : zRec N S F hg v = (-2, S, F) := by rw [zRec, if_neg (by rw [c1]; decide)]
    rw [e]
    refine jj_s (pc' := 12) rfl rfl ?_
    exact jj_iret rfl rfl ⟨rfl, rfl, fin _ _ _⟩
theorem anyN_cong {P P' : Nat → Bool} {k : Nat} (h : ∀ i, i < k → P i = P' i) : anyN P k = anyN P' k := by
  induction k with
  | zero => rfl
  | succ k ih => rw [anyN, anyN, ih (fun i hi => h i (by omega)), h k (by omega)]
def zSup (N : Nat) (F : Nat → Nat → Int32) (bf : Nat → Int32) (x y : Int32) : Int32 := if (isN N x && isN N y) = true then (if bt (prd F (ix y)) (ix x) = true then bI (anyN (fun k => bt (prd F (ix y)) k && bt (bf k) (ix x)) N) else -7) else -1
set_option maxHeartbeats 4000000 in
set_option maxRecDepth 100000 in
 theorem d_isSuperfluous {G : GC} {B n N : Nat} {S : Nat → Int32} {F : Nat → Nat → Int32} {f : Nat → Option Nat} {wl : Int32} {pt : Nat → Int32} {len : Nat} {C : Nat → Int32} {h : HT} (hN : N ≤ 20) (hC : CL B N S F f wl pt len C h) (x y : Int32) (bf : Nat → Int32) (hbf : ∀ P i, i < N → bfS F N P 0 i = bf i) : CtJ G B M8_isSuperfluous [.ref (B + 0), .int x, .int y] n h 0 0 (fun r2 n2 h2 => r2 = some (.int (zSup N F bf x y)) ∧ n2 = n ∧ CL B N S F f wl pt len C h2 ∧ tl51 h h2) := by
  obtain ⟨P, Wr, V, Lr, Cr, w, mb, nd, a, Nd, Sd, Fd, hc, hpt⟩ := hC
  have hp : h = wA 16 3 (pob B 16 1) P h := hc.2.2.2.1.id
  have dO : ∀ N S F, wQ B 1 N S F h 0 = some (dob B) := fun N S F => (wQ_n (by omega)).trans hc.1
  have dP : ∀ N S F P, wQ B 1 N S F (wA 16 3 (pob B 16 1) P h) 0 = some (dob B) := fun N S F P => (wQ_n (by omega)).trans ((wA_n (by omega)).trans hc.1)
  have fin : ∀ N' S' F', CL B N' S' F' f wl pt len C (wQ B 1 N' S' F' h) ∧ tl51 h (wQ B 1 N' S' F' h) := fun N' S' F' => ⟨⟨P, Wr, V, Lr, Cr, w, mb, nd, a, Nd, Sd, Fd, hc.q _ _ _, hpt⟩, fun k hk => wQ_n (by omega)⟩
  have finp : ∀ N' S' F' P', CL B N' S' F' f wl pt len C (wQ B 1 N' S' F' (wA 16 3 (pob B 16 1) P' h)) ∧ tl51 h (wQ B 1 N' S' F' (wA 16 3 (pob B 16 1) P' h)) := fun N' S' F' P' => ⟨⟨P', Wr, V, Lr, Cr, w, mb, nd, a, Nd, Sd, Fd, (hc.p P').q _ _ _, hpt⟩, fun k hk => (wQ_n (by omega)).trans (wA_n (by omega))⟩
  unfold CtJ
  refine jj_lv (lv' := [some (.ref (B + 0)), some (.int x), some (.int y)]) rfl ?_
  refine jj_h (h' := wQ B 1 N S F h) hc.2.1.id ?_
  have bad : (isN N x && isN N y) = false → JJ X0 G B M8_isSuperfluous 22 [some (.ref (B + 0)), some (.int x), some (.int y)] [] n (wQ B 1 N S F h) 0 0 (fun r2 n2 h2 => r2 = some (.int (zSup N F bf x y)) ∧ n2 = n ∧ CL B N S F f wl pt len C h2 ∧ tl51 h h2) := by
    intro hb
    refine jj_s (pc' := 23) rfl rfl ?_
    exact jj_iret rfl rfl ⟨by rw [zSup, if_neg (by rw [hb]; decide)]; rfl, rfl, fin _ _ _⟩
  refine jj_s (pc' := 1) rfl rfl ?_
  refine jj_g rfl rfl (dO _ _ _) rfl ?_
  refine jj_s (pc' := 5) rfl rfl ?_
  refine jj_v1 rfl rfl rfl wQ_o rfl rfl (c_holds _) ?_
  refine jj_zT 22 rfl rfl (fun c1 => bad (by rw [show isN N x = false from c1]; rfl)) (fun c1 => ?_)
  refine jj_s (pc' := 12) rfl rfl ?_
  refine jj_g rfl rfl (dO _ _ _) rfl ?_
  refine jj_s (pc' := 16) rfl rfl ?_
  refine jj_v1 rfl rfl rfl wQ_o rfl rfl (c_holds _) ?_
  refine jj_zF 24 rfl rfl (fun c2 => ?_) (fun c2 => bad (by rw [show isN N y = false from c2]; simp))
  have ok : (isN N x && isN N y) = true := by rw [show isN N x = true from c1, show isN N y = true from c2]; rfl
  obtain ⟨i, hi, rfl⟩ := isN_of hN c1
  obtain ⟨j, hj, rfl⟩ := isN_of hN c2
  refine jj_s (pc' := 25) rfl rfl ?_
  refine jj_g rfl rfl (dO _ _ _) rfl ?_
  refine jj_s (pc' := 29) rfl rfl ?_
  refine jj_v1 rfl rfl rfl wQ_o rfl rfl (c_predecessors (by omega)) ?_
  refine jj_s (pc' := 33) rfl rfl ?_
  refine jj_t2 rfl rfl rfl rfl rfl (c_has (by omega)) ?_
  refine jj_zF 42 rfl rfl (fun c3 => ?_) (fun c3 => ?_)
  · refine jj_h (h' := wQ B 1 N S F (wA 16 3 (pob B 16 1) P h)) (by rw [← hp]) ?_
    refine jj_s (pc' := 43) rfl rfl ?_
    refine jj_g rfl rfl (dP _ _ _ _) rfl ?_
    refine jj_s (pc' := 47) rfl rfl ?_
    refine jj_s (pc' := 48) rfl rfl ?_
    refine jj_v2 rfl rfl rfl (wQA_o (by omega)) rfl rfl (c_hasDetour hN (by omega) (by omega) (by omega)) ?_
    have e : zSup N F bf (nI i) (nI j) = bI (anyN (fun k => bt (prd F j) k && bt (bfS F N P 0 k) i) N) := by
      rw [zSup, if_pos ok, ix_nI (by omega), ix_nI (by omega), if_pos c3]
      rw [anyN_cong (P' := fun k => bt (prd F j) k && bt (bfS F N P 0 k) i) (fun k hk => by rw [hbf P k hk])]
    refine jj_zT 58 rfl rfl (fun c4 => ?_) (fun c4 => ?_)
    · refine jj_s (pc' := 59) rfl rfl ?_
      exact jj_iret rfl rfl ⟨by rw [e, c4]; rfl, rfl, finp _ _ _ _⟩
    · refine jj_s (pc' := 55) rfl rfl ?_
      refine jj_s (pc' := 59) rfl rfl ?_
      exact jj_iret rfl rfl ⟨by rw [e, c4]; rfl, rfl, finp _ _ _ _⟩
  · refine jj_s (pc' := 41) rfl rfl ?_
    exact jj_iret rfl rfl ⟨by rw [zSup, if_pos ok, ix_nI (by omega), ix_nI (by omega), if_neg (by rw [c3]; decide)]; rfl, rfl, fin _ _ _⟩
end
section
/-! the class's calls, the rest -/
section
variable {B N : Nat} {S : Nat → Int32} {F : Nat → Nat → Int32} {f : Nat → Option Nat} {wl : Int32} {len : Nat} {C : Nat → Int32} {P Wr : Nat → Nat → Int32} {V : Nat → Int32} {Lr Cr : Nat → Nat → Int32} {w : Nat → Int64} {mb nd : Nat → Int32} {a Nd : Nat} {Sd : Nat → Int32} {Fd : Nat → Nat → Int32} {H : HT}
theorem CLx.iq (h : CLx B N S F f wl len C P Wr V Lr Cr w mb nd a Nd Sd Fd H) : H = wQ B 1 N S F H := h.2.1.id
theorem CLx.ip (h : CLx B N S F f wl len C P Wr V Lr Cr w mb nd a Nd Sd Fd H) : H = wQ B 1 N S F (wA 16 3 (pob B 16 1) P H) := by rw [← h.2.2.2.1.id]; exact h.2.1.id
theorem CLx.iw (h : CLx B N S F f wl len C P Wr V Lr Cr w mb nd a Nd Sd Fd H) : H = wQ B 1 N S F (wA 20 2 (wob B 20 wl) Wr H) := by rw [← h.2.2.2.2.1.id]; exact h.2.1.id
theorem CLx.il (h : CLx B N S F f wl len C P Wr V Lr Cr w mb nd a Nd Sd Fd H) : H = wL B 1 N S F 23 V Lr H := by show H = wQ B 1 N S F (wA 23 3 (lob B 23 V) Lr H); rw [← h.2.2.2.2.2.1.id]; exact h.2.1.id
theorem CLx.iv (h : CLx B N S F f wl len C P Wr V Lr Cr w mb nd a Nd Sd Fd H) : H = wA 20 2 (wob B 20 wl) Wr H := h.2.2.2.2.1.id
theorem CLx.ic (h : CLx B N S F f wl len C P Wr V Lr Cr w mb nd a Nd Sd Fd H) : H = wA 27 3 (cob B 27) Cr H := h.2.2.2.2.2.2.1.id
theorem CLx.io (h : CLx B N S F f wl len C P Wr V Lr Cr w mb nd a Nd Sd Fd H) : H = wO B 31 w mb nd H := h.2.2.2.2.2.2.2.1.id
theorem CLx.cl (h : CLx B N S F f wl len C P Wr V Lr Cr w mb nd a Nd Sd Fd H) {pt : Nat → Int32} (hpt : Wr 0 = pt) : CL B N S F f wl pt len C H := ⟨P, Wr, V, Lr, Cr, w, mb, nd, a, Nd, Sd, Fd, h, hpt⟩
end
theorem tl_q {B N : Nat} {S : Nat → Int32} {F : Nat → Nat → Int32} {h H : HT} (t : tl51 h H) : tl51 h (wQ B 1 N S F H) := fun k hk => (wQ_n (by omega)).trans (t k hk)
theorem tl_a {o m : Nat} {obj : AE} {P : Nat → Nat → Int32} {h H : HT} (ho : o + 1 + m ≤ 51) (t : tl51 h H) : tl51 h (wA o m obj P H) := fun k hk => (wA_n (by omega)).trans (t k hk)
theorem tl_o {B : Nat} {w : Nat → Int64} {mb nd : Nat → Int32} {h H : HT} (t : tl51 h H) : tl51 h (wO B 31 w mb nd H) := fun k hk => (wO_n (by omega)).trans (t k hk)
theorem tl_x {B len a : Nat} {C : Nat → Int32} {N : Nat} {S : Nat → Int32} {F : Nat → Nat → Int32} {h H : HT} (t : tl51 h H) : tl51 h (wX B 35 len a C N S F H) := fun k hk => (wX_n (by omega)).trans (t k hk)
theorem tl_0 {h : HT} : tl51 h h := fun _ _ => rfl
def zWit (L : Nat) (pt : Nat → Int32) (x : Int32) : Int32 := if x < 0 then -2 else if x < nI L then pt (ix x) else -7
set_option maxHeartbeats 4000000 in
set_option maxRecDepth 100000 in
 theorem d_witness {G : GC} {B n N : Nat} {S : Nat → Int32} {F : Nat → Nat → Int32} {f : Nat → Option Nat} {L : Nat} {pt : Nat → Int32} {len : Nat} {C : Nat → Int32} {h : HT} (hL : L ≤ 20) (hC : CL B N S F f (nI L) pt len C h) (x : Int32) : CtJ G B M8_witness [.ref (B + 0), .int x] n h 0 0 (fun r2 n2 h2 => r2 = some (.int (zWit L pt x)) ∧ n2 = n ∧ CL B N S F f (nI L) pt len C h2 ∧ tl51 h h2) := by
  obtain ⟨P, Wr, V, Lr, Cr, w, mb, nd, a, Nd, Sd, Fd, hc, hpt⟩ := hC
  unfold CtJ
  refine jj_lv (lv' := [some (.ref (B + 0)), some (.int x)]) rfl ?_
  refine jj_s (pc' := 1) rfl rfl ?_
  refine jj_if_ge 7 rfl rfl (fun c1 => ?_) (fun c1 => ?_)
  · have c1 : ¬ x < 0 := Int32.not_lt.mpr c1
    refine jj_s (pc' := 8) rfl rfl ?_
    refine jj_s (pc' := 9) rfl rfl ?_
    refine jj_g rfl rfl hc.1 rfl ?_
    refine jj_g rfl rfl hc.2.2.2.2.1.1 rfl ?_
    refine jj_icmp_ge 30 rfl rfl (fun c2 => ?_) (fun c2 => ?_)
    · refine jj_s (pc' := 32) rfl rfl ?_
      exact jj_iret rfl rfl ⟨by rw [zWit, if_neg c1, if_neg (Int32.not_lt.mpr c2)]; rfl, rfl, hc.cl hpt, tl_0⟩
    · have c2 := Int32.not_le.mp c2
      obtain ⟨i, hi, rfl⟩ := nI_of c1
      have hiL := (nI_ltI (a := i) (b := L) (by omega) (by omega)).mp c2
      refine jj_s (pc' := 19) rfl rfl ?_
      refine jj_g rfl rfl hc.1 rfl ?_
      refine jj_g rfl rfl hc.2.2.2.2.1.1 rfl ?_
      refine jj_s (pc' := 26) rfl rfl ?_
      refine jj_ialdN rfl (hc.2.2.2.2.1.2 0 (by decide)) (by omega) rfl ?_
      refine jj_s (pc' := 32) rfl rfl ?_
      exact jj_iret rfl rfl ⟨by rw [zWit, if_neg c1, if_pos c2, ix_nI (by omega), ← hpt], rfl, hc.cl hpt, tl_0⟩
  · have c1 := Int32.not_le.mp c1
    refine jj_s (pc' := 6) rfl rfl ?_
    exact jj_iret rfl rfl ⟨by rw [zWit, if_pos c1]; rfl, rfl, hc.cl hpt, tl_0⟩
set_option maxHeartbeats 4000000 in
set_option maxRecDepth 100000 in
 theorem d_clear {G : GC} {B n N : Nat} {S : Nat → Int32} {F : Nat → Nat → Int32} {f : Nat → Option Nat} {wl : Int32} {pt : Nat → Int32} {len : Nat} {C : Nat → Int32} {h : HT} (hN : N ≤ 20) (hC : CL B N S F f wl pt len C h) : CtJ G B M8_clear [.ref (B + 0)] n h 0 0 (fun r2 n2 h2 => r2 = some (.int (nI N)) ∧ n2 = n ∧ CL B 0 S F f 0 pt len C h2 ∧ tl51 h h2) := by
  obtain ⟨P, Wr, V, Lr, Cr, w, mb, nd, a, Nd, Sd, Fd, hc, hpt⟩ := hC
  have hc1 := hc.q 0 S F
  unfold CtJ
  refine jj_lv (lv' := [some (.ref (B + 0)), none]) rfl ?_
  refine jj_s (pc' := 1) rfl rfl ?_
  refine jj_g rfl rfl hc.1 rfl ?_
  refine jj_g rfl rfl hc.2.1.1 rfl ?_
  refine jj_s (pc' := 8) rfl rfl ?_
  refine jj_s (pc' := 9) rfl rfl ?_
  refine jj_g rfl rfl hc.1 rfl ?_
  refine jj_h hc.iq ?_
  refine jj_w0 rfl rfl rfl wQ_o rfl rfl c_removeItems ?_
  refine jj_s (pc' := 16) rfl rfl ?_
  refine jj_g rfl rfl hc1.1 rfl ?_
  refine jj_h hc1.iv ?_
  refine jj_w0 rfl rfl rfl wA_o rfl rfl c_forget ?_
  refine jj_s (pc' := 23) rfl rfl ?_
  exact jj_iret rfl rfl ⟨rfl, rfl, (hc1.wi 0 Wr).cl hpt, tl_a (by omega) (tl_q tl_0)⟩
/-- the answer of a plan -/
def zPln (w p v : Int32) : Int32 := if (wth w 1 6 && wth p 0 2) = true then v else -2
set_option maxHeartbeats 4000000 in
set_option maxRecDepth 100000 in
 theorem d_planLength {G : GC} {B n N : Nat} {S : Nat → Int32} {F : Nat → Nat → Int32} {f : Nat → Option Nat} {wl : Int32} {pt : Nat → Int32} {len : Nat} {C : Nat → Int32} {h : HT} (hN : N ≤ 20) (hC : CL B N S F f wl pt len C h) (x p v : Int32) (hg : Nat → Int32) (hhg : ∀ P i, i < N → htS F N P 1 i = hg i) (hv : (wth x 1 6 && wth p 0 2) = true → ∀ Hh V Lr, (∀ i, i < N → Hh i = hg i) → (mkL F N Hh p 21 (mkV F N x V) Lr).1 0 = v) : CtJ G B M8_planLength [.ref (B + 0), .int x, .int p] n h 0 0 (fun r2 n2 h2 => r2 = some (.int (zPln x p v)) ∧ n2 = n ∧ CL B N S F f wl pt len C h2 ∧ tl51 h h2) := by
  obtain ⟨P, Wr, V, Lr, Cr, w, mb, nd, a, Nd, Sd, Fd, hc, hpt⟩ := hC
  unfold CtJ
  refine jj_lv (lv' := [some (.ref (B + 0)), some (.int x), some (.int p)]) rfl ?_
  have bad : (wth x 1 6 && wth p 0 2) = false → JJ X0 G B M8_planLength 19 [some (.ref (B + 0)), some (.int x), some (.int p)] [] n h 0 0 (fun r2 n2 h2 => r2 = some (.int (zPln x p v)) ∧ n2 = n ∧ CL B N S F f wl pt len C h2 ∧ tl51 h h2) := by
    intro hb
    refine jj_s (pc' := 21) rfl rfl ?_
    exact jj_iret rfl rfl ⟨by rw [zPln, if_neg (by rw [hb]; decide)]; rfl, rfl, hc.cl hpt, tl_0⟩
  refine jj_s (pc' := 1) rfl rfl ?_
  refine jj_s (pc' := 2) rfl rfl ?_
  refine jj_s (pc' := 4) rfl rfl ?_
  refine jj_t3 rfl rfl rfl rfl rfl (c_isWithin _ _ _) ?_
  refine jj_zT 19 rfl rfl (fun c1 => bad (by rw [show wth x 1 6 = false from c1]; rfl)) (fun c1 => ?_)
  refine jj_s (pc' := 11) rfl rfl ?_
  refine jj_s (pc' := 12) rfl rfl ?_
  refine jj_s (pc' := 13) rfl rfl ?_
  refine jj_t3 rfl rfl rfl rfl rfl (c_isWithin _ _ _) ?_
  refine jj_zF 22 rfl rfl (fun c2 => ?_) (fun c2 => bad (by rw [show wth p 0 2 = false from c2]; simp))
  have ok : (wth x 1 6 && wth p 0 2) = true := by rw [show wth x 1 6 = true from c1, show wth p 0 2 = true from c2]; rfl
  refine jj_s (pc' := 23) rfl rfl ?_
  refine jj_g rfl rfl hc.1 rfl ?_
  refine jj_s (pc' := 27) rfl rfl ?_
  refine jj_g rfl rfl hc.1 rfl ?_
  refine jj_s (pc' := 31) rfl rfl ?_
  refine jj_g rfl rfl hc.1 rfl ?_
  refine jj_h hc.ip ?_
  refine jj_v0 rfl rfl rfl (wQA_o (by omega)) rfl rfl (c_heights hN (by omega)) ?_
  have hc1 := (hc.p (htS F N P)).q N S F
  have hh1 := hc1.2.2.2.1.2 1 (by decide)
  refine jj_s (pc' := 38) rfl rfl ?_
  refine jj_s (pc' := 39) rfl rfl ?_
  refine jj_h hc1.il ?_
  refine jj_w4 rfl rfl rfl (wQA_o (by omega)) rfl rfl (c_make (a := 18) hN (by omega) hh1 (by omega) (by omega) _ _) ?_
  have hc2 := (hc1.l (mkL F N (htS F N P 1) p 21 (mkV F N x V) Lr).1 (mkL F N (htS F N P 1) p 21 (mkV F N x V) Lr).2).q N S F
  refine jj_s (pc' := 43) rfl rfl ?_
  refine jj_g rfl rfl hc2.1 rfl ?_
  refine jj_g rfl rfl (wQA_o (by omega)) rfl ?_
  exact jj_iret rfl rfl ⟨by rw [zPln, if_pos ok, hv ok _ _ _ (fun i hi => hhg P i hi)], rfl, hc2.cl hpt, tl_q (tl_a (by omega) (tl_q (tl_a (by omega) tl_0)))⟩
def zPlS (N : Nat) (F : Nat → Nat → Int32) (x w p v : Int32) : Int32 := if isN N x = true then (if (wth w 1 6 && wth p 0 2) = true then (if 3 ≤ F 5 (ix x) then -7 else v) else -2) else -1
set_option maxHeartbeats 4000000 in
set_option maxRecDepth 100000 in
 theorem d_planStart {G : GC} {B n N : Nat} {S : Nat → Int32} {F : Nat → Nat → Int32} {f : Nat → Option Nat} {wl : Int32} {pt : Nat → Int32} {len : Nat} {C : Nat → Int32} {h : HT} (hN : N ≤ 20) (hC : CL B N S F f wl pt len C h) (x y p v : Int32) (hg : Nat → Int32) (hhg : ∀ P i, i < N → htS F N P 1 i = hg i) (hv : isN N x = true → (wth y 1 6 && wth p 0 2) = true → ¬ 3 ≤ F 5 (ix x) → ∀ Hh V Lr, (∀ i, i < N → Hh i = hg i) → (mkL F N Hh p 21 (mkV F N y V) Lr).2 0 (ix x) = v) : CtJ G B M8_planStart [.ref (B + 0), .int x, .int y, .int p] n h 0 0 (fun r2 n2 h2 => r2 = some (.int (zPlS N F x y p v)) ∧ n2 = n ∧ CL B N S F f wl pt len C h2 ∧ tl51 h h2) := by
  obtain ⟨P, Wr, V, Lr, Cr, w, mb, nd, a, Nd, Sd, Fd, hc, hpt⟩ := hC
  unfold CtJ
  refine jj_lv (lv' := [some (.ref (B + 0)), some (.int x), some (.int y), some (.int p)]) rfl ?_
  refine jj_s (pc' := 1) rfl rfl ?_
  refine jj_g rfl rfl hc.1 rfl ?_
  refine jj_s (pc' := 5) rfl rfl ?_
  refine jj_h hc.iq ?_
  refine jj_v1 rfl rfl rfl wQ_o rfl rfl (c_holds _) ?_
  refine jj_h hc.iq.symm ?_
  refine jj_zF 13 rfl rfl (fun (c0 : isN N x = true) => ?_) (fun (c0 : isN N x = false) => ?_)
  · obtain ⟨i, hi, rfl⟩ := isN_of hN c0
    have bad : (wth y 1 6 && wth p 0 2) = false → JJ X0 G B M8_planStart 32 [some (.ref (B + 0)), some (.int (nI i)), some (.int y), some (.int p)] [] n h 0 0 (fun r2 n2 h2 => r2 = some (.int (zPlS N F (nI i) y p v)) ∧ n2 = n ∧ CL B N S F f wl pt len C h2 ∧ tl51 h h2) := by
      intro hb
      refine jj_s (pc' := 34) rfl rfl ?_
      exact jj_iret rfl rfl ⟨by rw [zPlS, if_pos c0, if_neg (by rw [hb]; decide)]; rfl, rfl, hc.cl hpt, tl_0⟩
    refine jj_s (pc' := 14) rfl rfl ?_
    refine jj_s (pc' := 15) rfl rfl ?_
    refine jj_s (pc' := 17) rfl rfl ?_
    refine jj_t3 rfl rfl rfl rfl rfl (c_isWithin _ _ _) ?_
    refine jj_zT 32 rfl rfl (fun c1 => bad (by rw [show wth y 1 6 = false from c1]; rfl)) (fun c1 => ?_)
    refine jj_s (pc' := 24) rfl rfl ?_
    refine jj_s (pc' := 25) rfl rfl ?_
    refine jj_s (pc' := 26) rfl rfl ?_
    refine jj_t3 rfl rfl rfl rfl rfl (c_isWithin _ _ _) ?_
    refine jj_zF 35 rfl rfl (fun c2 => ?_) (fun c2 => bad (by rw [show wth p 0 2 = false from c2]; simp))
    have ok : (wth y 1 6 && wth p 0 2) = true := by rw [show wth y 1 6 = true from c1, show wth p 0 2 = true from c2]; rfl
    refine jj_s (pc' := 36) rfl rfl ?_
    refine jj_g rfl rfl hc.1 rfl ?_
    refine jj_s (pc' := 40) rfl rfl ?_
    refine jj_h hc.iq ?_
    refine jj_v1 rfl rfl rfl wQ_o rfl rfl (c_hasEnded (by omega)) ?_
    refine jj_h hc.iq.symm ?_
    refine jj_zT 49 rfl rfl (fun c3 => ?_) (fun c3 => ?_)
    · have c3 := of_decide_eq_false c3
      refine jj_s (pc' := 50) rfl rfl ?_
      refine jj_g rfl rfl hc.1 rfl ?_
      refine jj_s (pc' := 54) rfl rfl ?_
      refine jj_g rfl rfl hc.1 rfl ?_
      refine jj_s (pc' := 58) rfl rfl ?_
      refine jj_g rfl rfl hc.1 rfl ?_
      refine jj_h hc.ip ?_
      refine jj_v0 rfl rfl rfl (wQA_o (by omega)) rfl rfl (c_heights hN (by omega)) ?_
      have hc1 := (hc.p (htS F N P)).q N S F
      have hh1 := hc1.2.2.2.1.2 1 (by decide)
      refine jj_s (pc' := 65) rfl rfl ?_
      refine jj_s (pc' := 66) rfl rfl ?_
      refine jj_h hc1.il ?_
      refine jj_w4 rfl rfl rfl (wQA_o (by omega)) rfl rfl (c_make (a := 18) hN (by omega) hh1 (by omega) (by omega) _ _) ?_
      have hc2 := (hc1.l (mkL F N (htS F N P 1) p 21 (mkV F N y V) Lr).1 (mkL F N (htS F N P 1) p 21 (mkV F N y V) Lr).2).q N S F
      refine jj_s (pc' := 70) rfl rfl ?_
      refine jj_g rfl rfl hc2.1 rfl ?_
      refine jj_g rfl rfl (wQA_o (by omega)) rfl ?_
      refine jj_s (pc' := 77) rfl rfl ?_
      refine jj_ald2 (o := 23) (j := 0) rfl (by decide) (by omega) (by omega) ?_
      have e := hv c0 ok (by rw [ix_nI (by omega)]; exact c3) (htS F N P 1) V Lr (fun i hi => hhg P i hi)
      rw [ix_nI (by omega)] at e
      exact jj_iret rfl rfl ⟨by rw [zPlS, if_pos c0, if_pos ok, ix_nI (by omega), if_neg c3, e], rfl, hc2.cl hpt, tl_q (tl_a (by omega) (tl_q (tl_a (by omega) tl_0)))⟩
    · refine jj_s (pc' := 48) rfl rfl ?_
      exact jj_iret rfl rfl ⟨by rw [zPlS, if_pos c0, if_pos ok, ix_nI (by omega), if_pos (of_decide_eq_true c3)]; rfl, rfl, hc.cl hpt, tl_0⟩
  · refine jj_s (pc' := 12) rfl rfl ?_
    exact jj_iret rfl rfl ⟨by rw [zPlS, if_neg (by rw [c0]; decide)]; rfl, rfl, hc.cl hpt, tl_0⟩
/-- the best number of workers up to k, and its length -/
def bwK (pl : Nat → Int32) : Nat → Int32 × Int32
  | 0 => (1, pl 1)
  | k + 1 => if pl (k + 2) < (bwK pl k).2 then (nI (k + 2), pl (k + 2)) else bwK pl k
set_option maxHeartbeats 4000000 in
set_option maxRecDepth 100000 in
 theorem d_bestWorkers {G : GC} {B n N : Nat} {S : Nat → Int32} {F : Nat → Nat → Int32} {f : Nat → Option Nat} {wl : Int32} {pt : Nat → Int32} {len : Nat} {C : Nat → Int32} {h : HT} (hN : N ≤ 20) (hC : CL B N S F f wl pt len C h) (p : Int32) (pl : Nat → Int32) (hg : Nat → Int32) (hhg : ∀ P i, i < N → htS F N P 1 i = hg i) (hv : wth p 0 2 = true → ∀ k, 1 ≤ k → k ≤ 6 → ∀ Hh V Lr, (∀ i, i < N → Hh i = hg i) → (mkL F N Hh p 21 (mkV F N (nI k) V) Lr).1 0 = pl k) : CtJ G B M8_bestWorkers [.ref (B + 0), .int p] n h 0 0 (fun r2 n2 h2 => r2 = some (.int (if wth p 0 2 = true then (bwK pl 5).1 else -2)) ∧ n2 = n ∧ CL B N S F f wl pt len C h2 ∧ tl51 h h2) := by
  obtain ⟨P, Wr, V, Lr, Cr, w, mb, nd, a, Nd, Sd, Fd, hc, hpt⟩ := hC
  unfold CtJ
  refine jj_lv (lv' := [some (.ref (B + 0)), some (.int p), none, none, none, none]) rfl ?_
  refine jj_s (pc' := 1) rfl rfl ?_
  refine jj_s (pc' := 2) rfl rfl ?_
  refine jj_s (pc' := 3) rfl rfl ?_
  refine jj_t3 rfl rfl rfl rfl rfl (c_isWithin _ _ _) ?_
  refine jj_zF 12 rfl rfl (fun (c1 : wth p 0 2 = true) => ?_) (fun (c1 : wth p 0 2 = false) => ?_)
  · rw [if_pos c1]
    refine jj_s (pc' := 13) rfl rfl ?_
    refine jj_g rfl rfl hc.1 rfl ?_
    refine jj_h hc.ip ?_
    refine jj_v0 rfl rfl rfl (wQA_o (by omega)) rfl rfl (c_heights hN (by omega)) ?_
    have hc1 := (hc.p (htS F N P)).q N S F
    have hh1 := hc1.2.2.2.1.2 1 (by decide)
    have ht1 : tl51 h (wQ B 1 N S F (wA 16 3 (pob B 16 1) (htS F N P) h)) := tl_q (tl_a (by omega) tl_0)
    have hag : ∀ i, i < N → htS F N P 1 i = hg i := fun i hi => hhg P i hi
    generalize htS F N P = P' at hc1 hh1 ht1 hag ⊢
    generalize wQ B 1 N S F (wA 16 3 (pob B 16 1) P' h) = H1 at hc1 hh1 ht1 ⊢
    refine jj_s (pc' := 20) rfl rfl ?_
    refine jj_s (pc' := 21) rfl rfl ?_
    refine jj_g rfl rfl hc1.1 rfl ?_
    refine jj_s (pc' := 25) rfl rfl ?_
    refine jj_g rfl rfl hc1.1 rfl ?_
    refine jj_s (pc' := 29) rfl rfl ?_
    refine jj_s (pc' := 30) rfl rfl ?_
    refine jj_s (pc' := 31) rfl rfl ?_
    refine jj_h hc1.il ?_
    refine jj_w4 rfl rfl rfl (wQA_o (by omega)) rfl rfl (c_make (a := 18) hN (by omega) hh1 (by omega) (by omega) _ _) ?_
    have hc2 := (hc1.l (mkL F N (P' 1) p 21 (mkV F N (nI 1) V) Lr).1 (mkL F N (P' 1) p 21 (mkV F N (nI 1) V) Lr).2).q N S F
    refine jj_s (pc' := 35) rfl rfl ?_
    refine jj_s (pc' := 36) rfl rfl ?_
    refine jj_s (pc' := 37) rfl rfl ?_
    refine jj_g rfl rfl hc2.1 rfl ?_
    refine jj_g rfl rfl (wQA_o (by omega)) rfl ?_
    refine jj_s (pc' := 45) rfl rfl ?_
    refine jj_s (pc' := 46) rfl rfl ?_
    refine jj_s (pc' := 48) rfl rfl ?_
    have e1 := hv c1 1 (by omega) (by omega) (P' 1) V Lr hag
    refine jj_lv (lv' := [some (.ref (B + 0)), some (.int p), some (.ref (B + 18)), some (.int (bwK pl 0).1), some (.int (bwK pl 0).2), some (.int (nI 2))]) (by rw [show (bwK pl 0).2 = _ from e1.symm]; rfl) ?_
    have L : ∀ d k V Lr, k + d = 5 → JJ X0 G B M8_bestWorkers 48 [some (.ref (B + 0)), some (.int p), some (.ref (B + 18)), some (.int (bwK pl k).1), some (.int (bwK pl k).2), some (.int (nI (k + 2)))] [] n (wL B 1 N S F 23 V Lr H1) 0 0 (fun r2 n2 h2 => r2 = some (.int ((bwK pl 5).1)) ∧ n2 = n ∧ CL B N S F f wl pt len C h2 ∧ tl51 h h2) := by
      intro d
      induction d with
      | zero =>
        intro k V Lr hk
        have hk : k = 5 := by omega
        subst hk
        refine jj_s (pc' := 50) rfl rfl ?_
        refine jj_s (pc' := 52) rfl rfl ?_
        refine jj_icmp_gt 100 rfl rfl (fun c => ?_) (fun c => absurd (by decide) c)
        refine jj_s (pc' := 101) rfl rfl ?_
        exact jj_iret rfl rfl ⟨rfl, rfl, ((hc1.l V Lr).q N S F).cl hpt, tl_q (tl_a (by omega) ht1)⟩
      | succ d ih =>
        intro k V Lr hk
        have hc2 := (hc1.l V Lr).q N S F
        refine jj_s (pc' := 50) rfl rfl ?_
        refine jj_s (pc' := 52) rfl rfl ?_
        refine jj_icmp_gt 100 rfl rfl (fun c => absurd ((nI_ltI (a := 6) (b := k + 2) (by omega) (by omega)).mp c) (by omega)) (fun c => ?_)
        refine jj_s (pc' := 56) rfl rfl ?_
        refine jj_g rfl rfl hc2.1 rfl ?_
        refine jj_s (pc' := 60) rfl rfl ?_
        refine jj_g rfl rfl hc2.1 rfl ?_
        refine jj_s (pc' := 64) rfl rfl ?_
        refine jj_s (pc' := 66) rfl rfl ?_
        refine jj_s (pc' := 67) rfl rfl ?_
        refine jj_w4 rfl rfl rfl (wQA_o (by omega)) rfl rfl (c_make (a := 18) hN (by omega) hh1 (by omega) (by omega) _ _) ?_
        have hc3 := (hc1.l (mkL F N (P' 1) p 21 (mkV F N (nI (k + 2)) V) Lr).1 (mkL F N (P' 1) p 21 (mkV F N (nI (k + 2)) V) Lr).2).q N S F
        have e2 := hv c1 (k + 2) (by omega) (by omega) (P' 1) V Lr hag
        refine jj_s (pc' := 71) rfl rfl ?_
        refine jj_g rfl rfl hc3.1 rfl ?_
        refine jj_g rfl rfl (wQA_o (by omega)) rfl ?_
        refine jj_s (pc' := 79) rfl rfl ?_
        rw [e2]
        refine jj_icmp_ge 94 rfl rfl (fun c2 => ?_) (fun c2 => ?_)
        · have e : bwK pl (k + 1) = bwK pl k := by rw [bwK, if_neg (Int32.not_lt.mpr c2)]
          first | refine jj_inc rfl rfl ?_ | refine jj_s (pc' := 97) rfl rfl ?_
          refine jj_s (pc' := 48) rfl rfl ?_
          refine jj_lv ?_ (ih (k + 1) _ _ (by omega))
          rw [e]; rfl
        · have e : bwK pl (k + 1) = (nI (k + 2), pl (k + 2)) := by rw [bwK, if_pos (Int32.not_le.mp c2)]
          refine jj_s (pc' := 84) rfl rfl ?_
          refine jj_s (pc' := 85) rfl rfl ?_
          refine jj_s (pc' := 86) rfl rfl ?_
          refine jj_g rfl rfl hc3.1 rfl ?_
          refine jj_g rfl rfl (wQA_o (by omega)) rfl ?_
          refine jj_s (pc' := 94) rfl rfl ?_
          first | refine jj_inc rfl rfl ?_ | refine jj_s (pc' := 97) rfl rfl ?_
          refine jj_s (pc' := 48) rfl rfl ?_
          rw [e2]
          refine jj_lv ?_ (ih (k + 1) _ _ (by omega))
          rw [e]; rfl
    exact L 5 0 _ _ (by omega)
  · rw [if_neg (by rw [c1]; decide)]
    refine jj_s (pc' := 11) rfl rfl ?_
    exact jj_iret rfl rfl ⟨rfl, rfl, hc.cl hpt, tl_0⟩
/-- the greatest height of those that have not ended -/
def gmK (F : Nat → Nat → Int32) (g : Nat → Int32) : Nat → Int32
  | 0 => 0
  | k + 1 => if 3 ≤ F 5 k then gmK F g k else (if gmK F g k < g k then g k else gmK F g k)
theorem gmK_cong {F : Nat → Nat → Int32} {g g' : Nat → Int32} {k : Nat} (h : ∀ i, i < k → g i = g' i) : gmK F g k = gmK F g' k := by
  induction k with
  | zero => rfl
  | succ k ih => rw [gmK, gmK, ih (fun i hi => h i (by omega)), h k (by omega)]
theorem tw_mx1 : Cond.static Lib.Math.max.name ∈ tW := tm3 118 rfl rfl
theorem tw_mx2 : Cond.initialized "java/lang/Math" ∈ tW := tm1 12 rfl rfl
theorem tw_mx3 : Cond.code Lib.Math.max.name Lib.Math.max.code 2 (some .int) ∈ tW := tm3 119 rfl rfl
theorem tw_mx0 : Cond.methodLink RX8 232 Lib.Math.max.name ∈ tW := tm3 117 rfl rfl
def zSlk (N : Nat) (F : Nat → Nat → Int32) (hg ld : Nat → Int32) (x : Int32) : Int32 := if isN N x = true then (if 3 ≤ F 5 (ix x) then -4 else gmK F hg N - hg (ix x) - ld (ix x)) else -1
set_option maxHeartbeats 4000000 in
set_option maxRecDepth 100000 in
 theorem d_slack {G : GC} {B n N : Nat} {S : Nat → Int32} {F : Nat → Nat → Int32} {f : Nat → Option Nat} {wl : Int32} {pt : Nat → Int32} {len : Nat} {C : Nat → Int32} {h : HT} (hN : N ≤ 20) (hC : CL B N S F f wl pt len C h) (x : Int32) (hg ld : Nat → Int32) (hhg : ∀ P i, i < N → htS F N P 1 i = hg i) (hld : ∀ P i, i < N → leS F N P 2 i = ld i) : CtJ G B M8_slack [.ref (B + 0), .int x] n h 0 0 (fun r2 n2 h2 => r2 = some (.int (zSlk N F hg ld x)) ∧ n2 = n ∧ CL B N S F f wl pt len C h2 ∧ tl51 h h2) := by
  obtain ⟨P, Wr, V, Lr, Cr, w, mb, nd, a, Nd, Sd, Fd, hc, hpt⟩ := hC
  unfold CtJ
  refine jj_lv (lv' := [some (.ref (B + 0)), some (.int x), none, none, none]) rfl ?_
  refine jj_s (pc' := 1) rfl rfl ?_
  refine jj_g rfl rfl hc.1 rfl ?_
  refine jj_s (pc' := 5) rfl rfl ?_
  refine jj_h hc.iq ?_
  refine jj_v1 rfl rfl rfl wQ_o rfl rfl (c_holds _) ?_
  refine jj_h hc.iq.symm ?_
  refine jj_zF 13 rfl rfl (fun (c0 : isN N x = true) => ?_) (fun (c0 : isN N x = false) => ?_)
  · obtain ⟨i, hi, rfl⟩ := isN_of hN c0
    refine jj_s (pc' := 14) rfl rfl ?_
    refine jj_g rfl rfl hc.1 rfl ?_
    refine jj_s (pc' := 18) rfl rfl ?_
    refine jj_h hc.iq ?_
    refine jj_v1 rfl rfl rfl wQ_o rfl rfl (c_hasEnded (by omega)) ?_
    refine jj_h hc.iq.symm ?_
    refine jj_zT 27 rfl rfl (fun c3 => ?_) (fun c3 => ?_)
    · have c3 := of_decide_eq_false c3
      refine jj_s (pc' := 28) rfl rfl ?_
      refine jj_g rfl rfl hc.1 rfl ?_
      refine jj_h hc.ip ?_
      refine jj_v0 rfl rfl rfl (wQA_o (by omega)) rfl rfl (c_heights hN (by omega)) ?_
      have hc1 := (hc.p (htS F N P)).q N S F
      have ht1 : tl51 h (wQ B 1 N S F (wA 16 3 (pob B 16 1) (htS F N P) h)) := tl_q (tl_a (by omega) tl_0)
      have hag : ∀ i, i < N → htS F N P 1 i = hg i := fun i hi => hhg P i hi
      generalize htS F N P = P' at hc1 ht1 hag ⊢
      refine jj_s (pc' := 35) rfl rfl ?_
      refine jj_s (pc' := 36) rfl rfl ?_
      refine jj_s (pc' := 37) rfl rfl ?_
      refine jj_s (pc' := 38) rfl rfl ?_
      refine jj_s (pc' := 40) rfl rfl ?_
      have L : ∀ d k, k ≤ N → N + 1 ≤ k + d → JJ X0 G B M8_slack 40 [some (.ref (B + 0)), some (.int (nI i)), some (.ref (B + 18)), some (.int (gmK F (P' 1) k)), some (.int (nI k))] [] n (wQ B 1 N S F (wA 16 3 (pob B 16 1) P' h)) 0 0 (fun r2 n2 h2 => r2 = some (.int (zSlk N F hg ld (nI i))) ∧ n2 = n ∧ CL B N S F f wl pt len C h2 ∧ tl51 h h2) := by
        intro d
        induction d with
        | zero => intro k h1 h2; exact absurd h2 (by omega)
        | succ d ih =>
          intro k h1 h2
          refine jj_s (pc' := 42) rfl rfl ?_
          refine jj_s (pc' := 43) rfl rfl ?_
          refine jj_g rfl rfl hc1.1 rfl ?_
          refine jj_g rfl rfl wQ_o rfl ?_
          refine jj_geN 79 rfl rfl (by omega) (by omega) (fun c => ?_) (fun c => ?_)
          · rw [show k = N by omega]
            refine jj_s (pc' := 80) rfl rfl ?_
            refine jj_s (pc' := 81) rfl rfl ?_
            refine jj_s (pc' := 82) rfl rfl ?_
            refine jj_ald2 (o := 16) (j := 1) rfl (by decide) (by omega) (by omega) ?_
            refine jj_s (pc' := 84) rfl rfl ?_
            refine jj_s (pc' := 85) rfl rfl ?_
            refine jj_g rfl rfl hc1.1 rfl ?_
            refine jj_v0 rfl rfl rfl (wQA_o (by omega)) rfl rfl (c_leads hN (by omega)) ?_
            refine jj_s (pc' := 92) rfl rfl ?_
            refine jj_ald2 (o := 16) (j := 2) rfl (by decide) (by omega) (by omega) ?_
            refine jj_s (pc' := 94) rfl rfl ?_
            exact jj_iret rfl rfl ⟨by rw [zSlk, if_pos c0, ix_nI (by omega), if_neg c3, hag i hi, hld P' i hi, gmK_cong hag], rfl, ((hc.p (leS F N P')).q N S F).cl hpt, tl_q (tl_a (by omega) tl_0)⟩
          · refine jj_s (pc' := 53) rfl rfl ?_
            refine jj_g rfl rfl hc1.1 rfl ?_
            refine jj_s (pc' := 58) rfl rfl ?_
            refine jj_v1 rfl rfl rfl wQ_o rfl rfl (c_hasEnded (by omega)) ?_
            refine jj_zF 73 rfl rfl (fun c4 => ?_) (fun c4 => ?_)
            · first | refine jj_inc rfl rfl ?_ | refine jj_s (pc' := 76) rfl rfl ?_
              refine jj_s (pc' := 40) rfl rfl ?_
              refine jj_lv ?_ (ih (k + 1) (by omega) (by omega))
              rw [gmK, if_pos (of_decide_eq_true c4)]; rfl
            · refine jj_s (pc' := 65) rfl rfl ?_
              refine jj_s (pc' := 66) rfl rfl ?_
              refine jj_s (pc' := 68) rfl rfl ?_
              refine jj_ald2 (o := 16) (j := 1) rfl (by decide) (by omega) (by omega) ?_
              refine jj_max rfl tw_mx0 tw_mx1 tw_mx2 tw_mx3 (by decide) (by decide) ?_
              refine jj_s (pc' := 73) rfl rfl ?_
              first | refine jj_inc rfl rfl ?_ | refine jj_s (pc' := 76) rfl rfl ?_
              refine jj_s (pc' := 40) rfl rfl ?_
              refine jj_lv ?_ (ih (k + 1) (by omega) (by omega))
              rw [gmK, if_neg (of_decide_eq_false c4)]; rfl
      exact L (N + 1) 0 (by omega) (by omega)
    · refine jj_s (pc' := 26) rfl rfl ?_
      exact jj_iret rfl rfl ⟨by rw [zSlk, if_pos c0, ix_nI (by omega), if_pos (of_decide_eq_true c3)]; rfl, rfl, hc.cl hpt, tl_0⟩
  · refine jj_s (pc' := 12) rfl rfl ?_
    exact jj_iret rfl rfl ⟨by rw [zSlk, if_neg (by rw [c0]; decide)]; rfl, rfl, hc.cl hpt, tl_0⟩
set_option maxHeartbeats 4000000 in
set_option maxRecDepth 100000 in
 theorem d_width {G : GC} {B n N : Nat} {S : Nat → Int32} {F : Nat → Nat → Int32} {f : Nat → Option Nat} {wl : Int32} {pt : Nat → Int32} {len : Nat} {C : Nat → Int32} {h : HT} (hN : N ≤ 20) (hC : CL B N S F f wl pt len C h) (v : Nat) (bf : Nat → Int32) (hbf : ∀ P i, i < N → bfS F N P 0 i = bf i) (hok : ∀ b2 O, (∀ i, i < N → b2 i = bf i) → (cvK b2 (une F N) O 20).2.2.2 = v ∧ ∀ k, k < 20 → bt (une F N) k = true → (∀ j p, (cvK b2 (une F N) O k).2.1 j = some p → p < 20) ∧ (∀ p j, (cvK b2 (une F N) O k).2.1 j = some p → (cvK b2 (une F N) O k).1 p = some j) ∧ (cvK b2 (une F N) O k).1 k = none) : CtJ G B M8_width [.ref (B + 0)] n h 0 0 (fun r2 n2 h2 => r2 = some (.int (bcF (une F N) - nI v)) ∧ n2 = n ∧ CL B N S F f wl pt len C h2 ∧ tl51 h h2) := by
  obtain ⟨P, Wr, V, Lr, Cr, w, mb, nd, a, Nd, Sd, Fd, hc, hpt⟩ := hC
  unfold CtJ
  refine jj_lv (lv' := [some (.ref (B + 0)), none]) rfl ?_
  refine jj_s (pc' := 1) rfl rfl ?_
  refine jj_g rfl rfl hc.1 rfl ?_
  refine jj_h hc.iq ?_
  refine jj_v0 rfl rfl rfl wQ_o rfl rfl (c_unendedSet hN) ?_
  refine jj_h hc.iq.symm ?_
  refine jj_st (st' := [.int (une F N)]) rfl ?_
  refine jj_s (pc' := 8) rfl rfl ?_
  refine jj_s (pc' := 9) rfl rfl ?_
  refine jj_t1 rfl rfl rfl rfl rfl (c_bitCount _) ?_
  refine jj_s (pc' := 13) rfl rfl ?_
  refine jj_g rfl rfl hc.1 rfl ?_
  refine jj_s (pc' := 17) rfl rfl ?_
  refine jj_s (pc' := 18) rfl rfl ?_
  refine jj_g rfl rfl hc.1 rfl ?_
  refine jj_h hc.ip ?_
  refine jj_v0 rfl rfl rfl (wQA_o (by omega)) rfl rfl (c_beforeSets hN (by omega)) ?_
  have hc1 := (hc.p (bfS F N P)).q N S F
  have hh1 := hc1.2.2.2.1.2 0 (by decide)
  obtain ⟨o1, o2⟩ := hok (bfS F N P 0) (Cr 2) (fun i hi => hbf P i hi)
  refine jj_h hc1.ic ?_
  refine jj_v2 rfl rfl rfl wA_o rfl rfl (c_countPairs (a := 17) hh1 (by omega) _ o2) ?_
  rw [o1]
  refine jj_s (pc' := 28) rfl rfl ?_
  exact jj_iret rfl rfl ⟨rfl, rfl, (hc1.c _).cl hpt, tl_a (by omega) (tl_q (tl_a (by omega) tl_0))⟩
theorem tw_l4 : Cond.constantLong RX8 252 (-4) ∈ tW := tm3 154 rfl rfl
set_option maxHeartbeats 4000000 in
set_option maxRecDepth 100000 in
 theorem d_orders {G : GC} {B n N : Nat} {S : Nat → Int32} {F : Nat → Nat → Int32} {f : Nat → Option Nat} {wl : Int32} {pt : Nat → Int32} {len : Nat} {C : Nat → Int32} {h : HT} (hN : N ≤ 20) (hC : CL B N S F f wl pt len C h) (v : Int64) (mm : Nat → Nat) (bf : Nat → Int32) (hbf : ∀ P i, i < N → bfS F N P 0 i = bf i) (hm : ∀ mb i, i < (lmK (une F N) mb 20).2 → (lmK (une F N) mb 20).1 i = nI (mm i) ∧ mm i < 20) (hv : bcF (une F N) ≤ 12 → ∀ b2 w mb nd, (∀ i, i < N → b2 i = bf i) → cwK (lnK b2 mm (lmK (une F N) mb 20).2 nd (lmK (une F N) mb 20).2) (lmK (une F N) mb 20).2 w (2 ^ (lmK (une F N) mb 20).2 - 1) (2 ^ (lmK (une F N) mb 20).2 - 1) = v) : CtJ G B M8_orders [.ref (B + 0)] n h 0 0 (fun r2 n2 h2 => r2 = some (.long (if bcF (une F N) ≤ 12 then v else -4)) ∧ n2 = n ∧ CL B N S F f wl pt len C h2 ∧ tl51 h h2) := by
  obtain ⟨P, Wr, V, Lr, Cr, w, mb, nd, a, Nd, Sd, Fd, hc, hpt⟩ := hC
  unfold CtJ
  refine jj_lv (lv' := [some (.ref (B + 0)), none]) rfl ?_
  refine jj_s (pc' := 1) rfl rfl ?_
  refine jj_g rfl rfl hc.1 rfl ?_
  refine jj_h hc.iq ?_
  refine jj_v0 rfl rfl rfl wQ_o rfl rfl (c_unendedSet hN) ?_
  refine jj_h hc.iq.symm ?_
  refine jj_st (st' := [.int (une F N)]) rfl ?_
  refine jj_s (pc' := 8) rfl rfl ?_
  refine jj_s (pc' := 9) rfl rfl ?_
  refine jj_t1 rfl rfl rfl rfl rfl (c_bitCount _) ?_
  refine jj_s (pc' := 14) rfl rfl ?_
  refine jj_icmp_le 21 rfl rfl (fun (c1 : bcF (une F N) ≤ 12) => ?_) (fun (c1 : ¬ bcF (une F N) ≤ 12) => ?_)
  · refine jj_s (pc' := 22) rfl rfl ?_
    refine jj_g rfl rfl hc.1 rfl ?_
    refine jj_s (pc' := 26) rfl rfl ?_
    refine jj_s (pc' := 27) rfl rfl ?_
    refine jj_g rfl rfl hc.1 rfl ?_
    refine jj_h hc.ip ?_
    refine jj_v0 rfl rfl rfl (wQA_o (by omega)) rfl rfl (c_beforeSets hN (by omega)) ?_
    have hc1 := (hc.p (bfS F N P)).q N S F
    have hh1 := hc1.2.2.2.1.2 0 (by decide)
    refine jj_h hc1.io ?_
    refine jj_v2 rfl rfl rfl wO_o rfl rfl (c_countFor (a := 17) _ mm (hm mb) hh1 (by omega)) ?_
    exact jj_lret rfl rfl ⟨by rw [if_pos c1, hv c1 _ _ _ _ (fun i hi => hbf P i hi)], rfl, (hc1.o _ _ _).cl hpt, tl_o (tl_q (tl_a (by omega) tl_0))⟩
  · refine jj_ldc2 rfl tw_l4 ?_
    exact jj_lret rfl rfl ⟨by rw [if_neg c1], rfl, hc.cl hpt, tl_0⟩
def zWri (len : Nat) (C : Nat → Int32) (x : Int32) : Int32 × Nat × (Nat → Int32) := if wth x 32 126 = true then (if len = 200 then (-3, len, C) else (nI (len + 1), len + 1, upd C len x)) else (-2, len, C)
set_option maxHeartbeats 4000000 in
set_option maxRecDepth 100000 in
 theorem d_write {G : GC} {B n N : Nat} {S : Nat → Int32} {F : Nat → Nat → Int32} {f : Nat → Option Nat} {wl : Int32} {pt : Nat → Int32} {len : Nat} {C : Nat → Int32} {h : HT} (hN : N ≤ 20) (hC : CL B N S F f wl pt len C h) (hl : len ≤ 200) (x : Int32) : CtJ G B M8_write [.ref (B + 0), .int x] n h 0 0 (fun r2 n2 h2 => r2 = some (.int ((zWri len C x).1)) ∧ n2 = n ∧ CL B N S F f wl pt (zWri len C x).2.1 (zWri len C x).2.2 h2 ∧ tl51 h h2) := by
  obtain ⟨P, Wr, V, Lr, Cr, w, mb, nd, a, Nd, Sd, Fd, hc, hpt⟩ := hC
  have hx := hc.2.2.2.2.2.2.2.2.1.1
  unfold CtJ
  refine jj_lv (lv' := [some (.ref (B + 0)), some (.int x)]) rfl ?_
  refine jj_s (pc' := 1) rfl rfl ?_
  refine jj_s (pc' := 3) rfl rfl ?_
  refine jj_s (pc' := 5) rfl rfl ?_
  refine jj_t3 rfl rfl rfl rfl rfl (c_isWithin _ _ _) ?_
  refine jj_zF 14 rfl rfl (fun (c1 : wth x 32 126 = true) => ?_) (fun (c1 : wth x 32 126 = false) => ?_)
  · refine jj_s (pc' := 15) rfl rfl ?_
    refine jj_g rfl rfl hc.1 rfl ?_
    refine jj_g rfl rfl hx rfl ?_
    refine jj_s (pc' := 24) rfl rfl ?_
    refine jj_icmp_lt 30 rfl rfl (fun c2 => ?_) (fun c2 => ?_)
    · have c2 := (nI_ltI (a := len) (b := 200) (by omega) (by omega)).mp c2
      have e : zWri len C x = (nI (len + 1), len + 1, upd C len x) := by rw [zWri, if_pos c1, if_neg (by omega)]
      have hc1 := hc.x (len + 1) a (upd C len x) Nd Sd Fd
      rw [e]
      refine jj_s (pc' := 31) rfl rfl ?_
      refine jj_g rfl rfl hc.1 rfl ?_
      refine jj_s (pc' := 35) rfl rfl ?_
      refine jj_h hc.xid ?_
      refine jj_w1 rfl rfl rfl wX_o rfl rfl (c_tappend c2 _) ?_
      refine jj_s (pc' := 39) rfl rfl ?_
      refine jj_g rfl rfl hc1.1 rfl ?_
      refine jj_g rfl rfl wX_o rfl ?_
      exact jj_iret rfl rfl ⟨rfl, rfl, hc1.cl hpt, tl_x tl_0⟩
    · have e : zWri len C x = (-3, len, C) := by
        rw [zWri, if_pos c1, if_pos]
        rcases Nat.lt_or_ge len 200 with z | z
        · exact absurd ((nI_ltI (a := len) (b := 200) (by omega) (by omega)).mpr z) c2
        · omega
      rw [e]
      refine jj_s (pc' := 29) rfl rfl ?_
      exact jj_iret rfl rfl ⟨rfl, rfl, hc.cl hpt, tl_0⟩
  · have e : zWri len C x = (-2, len, C) := by rw [zWri, if_neg (by rw [c1]; decide)]
    rw [e]
    refine jj_s (pc' := 13) rfl rfl ?_
    exact jj_iret rfl rfl ⟨rfl, rfl, hc.cl hpt, tl_0⟩
set_option maxHeartbeats 4000000 in
set_option maxRecDepth 100000 in
 theorem d_wipe {G : GC} {B n N : Nat} {S : Nat → Int32} {F : Nat → Nat → Int32} {f : Nat → Option Nat} {wl : Int32} {pt : Nat → Int32} {len : Nat} {C : Nat → Int32} {h : HT} (hN : N ≤ 20) (hC : CL B N S F f wl pt len C h) : CtJ G B M8_wipe [.ref (B + 0)] n h 0 0 (fun r2 n2 h2 => r2 = some (.int (nI len)) ∧ n2 = n ∧ CL B N S F f wl pt 0 C h2 ∧ tl51 h h2) := by
  obtain ⟨P, Wr, V, Lr, Cr, w, mb, nd, a, Nd, Sd, Fd, hc, hpt⟩ := hC
  have hc1 := hc.x 0 a C Nd Sd Fd
  unfold CtJ
  refine jj_lv (lv' := [some (.ref (B + 0)), none]) rfl ?_
  refine jj_h hc.xid ?_
  have dX : wX B 35 len a C Nd Sd Fd h 0 = some (dob B) := (wX_n (by omega)).trans hc.1
  refine jj_s (pc' := 1) rfl rfl ?_
  refine jj_g rfl rfl dX rfl ?_
  refine jj_g rfl rfl wX_o rfl ?_
  refine jj_s (pc' := 8) rfl rfl ?_
  refine jj_s (pc' := 9) rfl rfl ?_
  refine jj_g rfl rfl dX rfl ?_
  refine jj_s (pc' := 13) rfl rfl ?_
  refine jj_p rfl rfl rfl rfl wX_o rfl (jj_h (wX_po (len2 := 0) (at2 := a) rfl) ?_)
  refine jj_s (pc' := 17) rfl rfl ?_
  exact jj_iret rfl rfl ⟨rfl, rfl, hc1.cl hpt, tl_x tl_0⟩
set_option maxHeartbeats 4000000 in
set_option maxRecDepth 100000 in
 theorem d_fault {G : GC} {B n N : Nat} {S : Nat → Int32} {F : Nat → Nat → Int32} {f : Nat → Option Nat} {wl : Int32} {pt : Nat → Int32} {len : Nat} {C : Nat → Int32} {h : HT} (hN : N ≤ 20) (hC : CL B N S F f wl pt len C h) (hl : len ≤ 200) (v : Int32) (hv : ∀ Fd, (rdS C len Fd).1 = v) : CtJ G B M8_fault [.ref (B + 0)] n h 0 0 (fun r2 n2 h2 => r2 = some (.int (v)) ∧ n2 = n ∧ CL B N S F f wl pt len C h2 ∧ tl51 h h2) := by
  obtain ⟨P, Wr, V, Lr, Cr, w, mb, nd, a, Nd, Sd, Fd, hc, hpt⟩ := hC
  unfold CtJ
  refine jj_lv (lv' := [some (.ref (B + 0))]) rfl ?_
  refine jj_s (pc' := 1) rfl rfl ?_
  refine jj_g rfl rfl hc.1 rfl ?_
  refine jj_h hc.xid ?_
  refine jj_v0 rfl rfl rfl wX_o rfl rfl (c_read hl) ?_
  exact jj_iret rfl rfl ⟨by rw [hv Fd], rfl, (hc.x _ _ _ _ _ _).cl hpt, tl_x tl_0⟩
set_option maxHeartbeats 4000000 in
set_option maxRecDepth 100000 in
 theorem d_load {G : GC} {B n N : Nat} {S : Nat → Int32} {F : Nat → Nat → Int32} {f : Nat → Option Nat} {wl : Int32} {pt : Nat → Int32} {len : Nat} {C : Nat → Int32} {h : HT} (hN : N ≤ 20) (hC : CL B N S F f wl pt len C h) (hl : len ≤ 200) (v : Int32) (hv : ∀ Fd, (rdS C len Fd).1 = v ∧ (rdS C len Fd).2.1 ≤ 20) : CtJ G B M8_load [.ref (B + 0)] n h 0 0 (fun r2 n2 h2 => n2 = n ∧ tl51 h h2 ∧ if v = -7 then (∃ Fd, r2 = some (.int (nI (rdS C len Fd).2.1)) ∧ CL B (rdS C len Fd).2.1 S (stl S (rdS C len Fd).2.1 1000 (fun j => cp ((rdS C len Fd).2.2.1 j) (F j))) f 0 pt len C h2) else (r2 = some (.int (-4)) ∧ CL B N S F f wl pt len C h2)) := by
  obtain ⟨P, Wr, V, Lr, Cr, w, mb, nd, a, Nd, Sd, Fd, hc, hpt⟩ := hC
  obtain ⟨v1, v2⟩ := hv Fd
  have hc1 := hc.x len (rdS C len Fd).2.2.2 C (rdS C len Fd).2.1 Sd (rdS C len Fd).2.2.1
  have ht1 : tl51 h (wX B 35 len (rdS C len Fd).2.2.2 C (rdS C len Fd).2.1 Sd (rdS C len Fd).2.2.1 h) := tl_x tl_0
  unfold CtJ
  refine jj_lv (lv' := [some (.ref (B + 0))]) rfl ?_
  refine jj_s (pc' := 1) rfl rfl ?_
  refine jj_g rfl rfl hc.1 rfl ?_
  refine jj_h hc.xid ?_
  refine jj_v0 rfl rfl rfl wX_o rfl rfl (c_read hl) ?_
  rw [v1]
  refine jj_s (pc' := 9) rfl rfl ?_
  refine jj_icmp_eq 15 rfl rfl (fun (c1 : v = -7) => ?_) (fun (c1 : ¬ v = -7) => ?_)
  · refine jj_s (pc' := 16) rfl rfl ?_
    refine jj_g rfl rfl hc1.1 rfl ?_
    refine jj_s (pc' := 20) rfl rfl ?_
    refine jj_g rfl rfl hc1.1 rfl ?_
    refine jj_g rfl rfl wX_o rfl ?_
    refine jj_h hc1.iq ?_
    have h9 := hc1.2.2.2.2.2.2.2.2.2
    refine jj_w1 rfl rfl rfl wQ_o rfl rfl (c_copyItems (q2 := 36) (by omega) h9.1 h9.2) ?_
    have hc2 := hc1.q (rdS C len Fd).2.1 S (fun j => cp ((rdS C len Fd).2.2.1 j) (F j))
    refine jj_s (pc' := 30) rfl rfl ?_
    refine jj_g rfl rfl hc2.1 rfl ?_
    refine jj_w0 rfl rfl rfl wQ_o rfl rfl (c_settle v2) ?_
    have hc3 := hc1.q (rdS C len Fd).2.1 S (stl S (rdS C len Fd).2.1 1000 (fun j => cp ((rdS C len Fd).2.2.1 j) (F j)))
    refine jj_s (pc' := 37) rfl rfl ?_
    refine jj_g rfl rfl hc3.1 rfl ?_
    refine jj_h hc3.iv ?_
    refine jj_w0 rfl rfl rfl wA_o rfl rfl c_forget ?_
    have hc4 := hc3.wi 0 Wr
    refine jj_s (pc' := 44) rfl rfl ?_
    refine jj_g rfl rfl hc4.1 rfl ?_
    refine jj_g rfl rfl hc4.2.1.1 rfl ?_
    exact jj_iret rfl rfl ⟨rfl, tl_a (by omega) (tl_q ht1), by rw [if_pos c1]; exact ⟨Fd, rfl, hc4.cl hpt⟩⟩
  · refine jj_s (pc' := 14) rfl rfl ?_
    exact jj_iret rfl rfl ⟨rfl, ht1, by rw [if_neg c1]; exact ⟨rfl, hc1.cl hpt⟩⟩
end
section
/-! link -/
def zCyc (N : Nat) (bf : Nat → Int32) (x y k : Int32) : Bool := (isN N x && isN N y) && (wth k 0 1 && (decide (x = y) || bt (bf (ix x)) (ix y)))
def zLnk (N : Nat) (S : Nat → Int32) (F : Nat → Nat → Int32) (bf : Nat → Int32) (x y k : Int32) : Int32 × (Nat → Nat → Int32) :=
  if (isN N x && isN N y) = true then (if wth k 0 1 = true then (if (decide (x = y) || bt (bf (ix x)) (ix y)) = true then (-5, F) else if F 5 (ix y) = 0 ∨ F 5 (ix y) = 1 then (sm (fun i => bcF (prd (stl S N 1000 (ptF F (ix x) (ix y) k)) i)) N, stl S N 1000 (ptF F (ix x) (ix y) k)) else (-4, F)) else (-2, F)) else (-1, F)
/-- what is left of the witness -/
def zWt (N : Nat) (F : Nat → Nat → Int32) (bf : Nat → Int32) (x y k : Int32) (wl wl' : Int32) (pt pt' : Nat → Int32) : Prop :=
  if zCyc N bf x y k = true then (wl' = nI (dsW F N (ix y) (ix x) + 1) ∧ ∀ j, j ≤ dsW F N (ix y) (ix x) → pt' j = nI (ptW F N (ix y) (ix x) (dsW F N (ix y) (ix x)) j)) else (wl' = wl ∧ pt' = pt)
set_option maxHeartbeats 4000000 in
set_option maxRecDepth 100000 in
 theorem d_link {G : GC} {B n N : Nat} {S : Nat → Int32} {F : Nat → Nat → Int32} {f : Nat → Option Nat} {wl : Int32} {pt : Nat → Int32} {len : Nat} {C : Nat → Int32} {h : HT} (hN : N ≤ 20) (hC : CL B N S F f wl pt len C h) (x y k : Int32) (bf : Nat → Int32) (hbf : ∀ P i, i < N → bfS F N P 0 i = bf i) (hD : zCyc N bf x y k = true → bt (rg F N (ix x) (dsW F N (ix y) (ix x))) (ix y) = true) : CtJ G B M8_link [.ref (B + 0), .int x, .int y, .int k] n h 0 0 (fun r2 n2 h2 => r2 = some (.int (zLnk N S F bf x y k).1) ∧ n2 = n ∧ tl51 h h2 ∧ ∃ wl' pt', CL B N S (zLnk N S F bf x y k).2 f wl' pt' len C h2 ∧ zWt N F bf x y k wl wl' pt pt') := by
  obtain ⟨P, Wr, V, Lr, Cr, w, mb, nd, a, Nd, Sd, Fd, hc, hpt⟩ := hC
  unfold CtJ
  refine jj_lv (lv' := [some (.ref (B + 0)), some (.int x), some (.int y), some (.int k)]) rfl ?_
  have bad : (isN N x && isN N y) = false → JJ X0 G B M8_link 22 [some (.ref (B + 0)), some (.int x), some (.int y), some (.int k)] [] n h 0 0 (fun r2 n2 h2 => r2 = some (.int (zLnk N S F bf x y k).1) ∧ n2 = n ∧ tl51 h h2 ∧ ∃ wl' pt', CL B N S (zLnk N S F bf x y k).2 f wl' pt' len C h2 ∧ zWt N F bf x y k wl wl' pt pt') := by
    intro hb
    have e : zLnk N S F bf x y k = (-1, F) := by rw [zLnk, if_neg (by rw [hb]; decide)]
    have e2 : zWt N F bf x y k wl wl pt pt := by unfold zWt; rw [if_neg (by rw [zCyc, hb]; simp)]; exact ⟨rfl, rfl⟩
    rw [e]
    refine jj_s (pc' := 23) rfl rfl ?_
    exact jj_iret rfl rfl ⟨rfl, rfl, tl_0, wl, pt, hc.cl hpt, e2⟩
  refine jj_s (pc' := 1) rfl rfl ?_
  refine jj_g rfl rfl hc.1 rfl ?_
  refine jj_s (pc' := 5) rfl rfl ?_
  refine jj_h hc.iq ?_
  refine jj_v1 rfl rfl rfl wQ_o rfl rfl (c_holds _) ?_
  refine jj_h hc.iq.symm ?_
  refine jj_zT 22 rfl rfl (fun c1 => bad (by rw [show isN N x = false from c1]; rfl)) (fun c1 => ?_)
  refine jj_s (pc' := 12) rfl rfl ?_
  refine jj_g rfl rfl hc.1 rfl ?_
  refine jj_s (pc' := 16) rfl rfl ?_
  refine jj_h hc.iq ?_
  refine jj_v1 rfl rfl rfl wQ_o rfl rfl (c_holds _) ?_
  refine jj_h hc.iq.symm ?_
  refine jj_zF 24 rfl rfl (fun c2 => ?_) (fun c2 => bad (by rw [show isN N y = false from c2]; simp))
  have ok : (isN N x && isN N y) = true := by rw [show isN N x = true from c1, show isN N y = true from c2]; rfl
  obtain ⟨i, hi, rfl⟩ := isN_of hN c1
  obtain ⟨j, hj, rfl⟩ := isN_of hN c2
  refine jj_s (pc' := 25) rfl rfl ?_
  refine jj_s (pc' := 26) rfl rfl ?_
  refine jj_s (pc' := 27) rfl rfl ?_
  refine jj_t3 rfl rfl rfl rfl rfl (c_isWithin _ _ _) ?_
  refine jj_zF 36 rfl rfl (fun (c3 : wth k 0 1 = true) => ?_) (fun (c3 : wth k 0 1 = false) => ?_)
  · have cyc : (decide ((nI i) = (nI j)) || bt (bf i) j) = true → ∀ P h1, CLx B N S F f wl len C P Wr V Lr Cr w mb nd a Nd Sd Fd h1 → tl51 h h1 → JJ X0 G B M8_link 57 [some (.ref (B + 0)), some (.int (nI i)), some (.int (nI j)), some (.int k)] [] n h1 0 0 (fun r2 n2 h2 => r2 = some (.int (zLnk N S F bf (nI i) (nI j) k).1) ∧ n2 = n ∧ tl51 h h2 ∧ ∃ wl' pt', CL B N S (zLnk N S F bf (nI i) (nI j) k).2 f wl' pt' len C h2 ∧ zWt N F bf (nI i) (nI j) k wl wl' pt pt') := by
      intro hb P h1 hc1 ht1
      have e : zLnk N S F bf (nI i) (nI j) k = (-5, F) := by rw [zLnk, if_pos ok, if_pos c3, ix_nI (by omega), ix_nI (by omega), if_pos hb]
      have e3 : zCyc N bf (nI i) (nI j) k = true := by rw [zCyc, ok, c3, ix_nI (by omega), ix_nI (by omega), hb]; rfl
      have hD := hD e3
      rw [ix_nI (by omega), ix_nI (by omega)] at hD
      rw [e]
      refine jj_s (pc' := 58) rfl rfl ?_
      refine jj_g rfl rfl hc1.1 rfl ?_
      refine jj_s (pc' := 62) rfl rfl ?_
      refine jj_g rfl rfl hc1.1 rfl ?_
      refine jj_s (pc' := 66) rfl rfl ?_
      refine jj_s (pc' := 67) rfl rfl ?_
      refine jj_h hc1.iw ?_
      refine jj_w3 rfl rfl rfl (wQA_o (by omega)) rfl rfl (c_remember hN (by omega) hj hi hD) ?_
      have hc2 := (hc1.wi (nI (dsW F N j i + 1)) (ptP F N j i (dsW F N j i) (rgP F N i Wr (dsW F N j i)) (dsW F N j i))).q N S F
      refine jj_s (pc' := 72) rfl rfl ?_
      refine jj_iret rfl rfl ⟨rfl, rfl, tl_q (tl_a (by omega) ht1), _, _, hc2.cl rfl, ?_⟩
      unfold zWt
      rw [if_pos e3, ix_nI (by omega), ix_nI (by omega)]
      exact ⟨rfl, (ptP_at _ _ _ _ _ _ _).1⟩
    refine jj_s (pc' := 37) rfl rfl ?_
    refine jj_s (pc' := 38) rfl rfl ?_
    refine jj_icmp_eq 57 rfl rfl (fun c4 => cyc (by simp [c4]) P h hc tl_0) (fun c4 => ?_)
    refine jj_s (pc' := 42) rfl rfl ?_
    refine jj_g rfl rfl hc.1 rfl ?_
    refine jj_h hc.ip ?_
    refine jj_v0 rfl rfl rfl (wQA_o (by omega)) rfl rfl (c_beforeSets hN (by omega)) ?_
    have hc1 := (hc.p (bfS F N P)).q N S F
    have ht1 : tl51 h (wQ B 1 N S F (wA 16 3 (pob B 16 1) (bfS F N P) h)) := tl_q (tl_a (by omega) tl_0)
    refine jj_s (pc' := 49) rfl rfl ?_
    refine jj_ald2 (o := 16) (j := 0) rfl (by decide) (by omega) (by omega) ?_
    rw [hbf P i hi]
    refine jj_s (pc' := 51) rfl rfl ?_
    refine jj_t2 rfl rfl rfl rfl rfl (c_has (by omega)) ?_
    refine jj_zT 73 rfl rfl (fun c5 => ?_) (fun c5 => cyc (by rw [c5]; simp) _ _ hc1 ht1)
    have ncy : ¬ (decide ((nI i) = (nI j)) || bt (bf i) j) = true := by rw [c5, decide_eq_false c4]; decide
    have e2 : ∀ wl pt, zWt N F bf (nI i) (nI j) k wl wl pt pt := by
      intro wl pt
      unfold zWt
      rw [if_neg (by rw [zCyc, ok, c3, ix_nI (by omega), ix_nI (by omega), Bool.true_and, Bool.true_and]; exact ncy)]
      exact ⟨rfl, rfl⟩
    refine jj_s (pc' := 74) rfl rfl ?_
    refine jj_g rfl rfl hc1.1 rfl ?_
    refine jj_s (pc' := 78) rfl rfl ?_
    refine jj_v1 rfl rfl rfl wQ_o rfl rfl (c_followsEdges (by omega)) ?_
    refine jj_zF 87 rfl rfl (fun c6 => ?_) (fun c6 => ?_)
    · have e : zLnk N S F bf (nI i) (nI j) k = (sm (fun a => bcF (prd (stl S N 1000 (ptF F i j k)) a)) N, stl S N 1000 (ptF F i j k)) := by rw [zLnk, if_pos ok, if_pos c3, ix_nI (by omega), ix_nI (by omega), if_neg ncy, if_pos (of_decide_eq_true c6)]
      rw [e]
      refine jj_s (pc' := 88) rfl rfl ?_
      refine jj_g rfl rfl hc1.1 rfl ?_
      refine jj_s (pc' := 92) rfl rfl ?_
      refine jj_s (pc' := 93) rfl rfl ?_
      refine jj_s (pc' := 94) rfl rfl ?_
      refine jj_w3 rfl rfl rfl wQ_o rfl rfl (c_putEdge (by omega) _) ?_
      have hc2 := (hc.p (bfS F N P)).q N S (ptF F i j k)
      refine jj_s (pc' := 98) rfl rfl ?_
      refine jj_g rfl rfl hc2.1 rfl ?_
      refine jj_w0 rfl rfl rfl wQ_o rfl rfl (c_settle hN) ?_
      have hc3 := (hc.p (bfS F N P)).q N S (stl S N 1000 (ptF F i j k))
      refine jj_s (pc' := 105) rfl rfl ?_
      refine jj_g rfl rfl hc3.1 rfl ?_
      refine jj_v0 rfl rfl rfl wQ_o rfl rfl (c_edgeCount hN) ?_
      exact jj_iret rfl rfl ⟨rfl, rfl, tl_q (tl_a (by omega) tl_0), _, _, hc3.cl hpt, e2 _ _⟩
    · have e : zLnk N S F bf (nI i) (nI j) k = (-4, F) := by rw [zLnk, if_pos ok, if_pos c3, ix_nI (by omega), ix_nI (by omega), if_neg ncy, if_neg (of_decide_eq_false c6)]
      rw [e]
      refine jj_s (pc' := 86) rfl rfl ?_
      exact jj_iret rfl rfl ⟨rfl, rfl, ht1, _, _, hc1.cl hpt, e2 _ _⟩
  · have e : zLnk N S F bf (nI i) (nI j) k = (-2, F) := by rw [zLnk, if_pos ok, if_neg (by rw [c3]; decide)]
    have e2 : zWt N F bf (nI i) (nI j) k wl wl pt pt := by unfold zWt; rw [if_neg (by rw [zCyc, ok, c3]; simp)]; exact ⟨rfl, rfl⟩
    rw [e]
    refine jj_s (pc' := 35) rfl rfl ?_
    exact jj_iret rfl rfl ⟨rfl, rfl, tl_0, wl, pt, hc.cl hpt, e2⟩
end
section
/-! new objects: a heap with cells laid from n on -/
def gl (h : HT) (n : Nat) (L : List AE) : HT := fun k => if n ≤ k ∧ k < n + L.length then L[k - n]? else h k
theorem gl_at {h : HT} {n i : Nat} {L : List AE} {e : AE} (hi : L[i]? = some e) : gl h n L (n + i) = some e := by
  have := (List.getElem?_eq_some_iff.mp hi).1
  unfold gl
  rw [if_pos (by omega), show n + i - n = i by omega, hi]
theorem gl_n {h : HT} {n k : Nat} {L : List AE} (hk : k < n) : gl h n L k = h k := by
  unfold gl
  rw [if_neg (by omega)]
theorem gl_put {h : HT} {n i : Nat} {L : List AE} {e : AE} (hi : i < L.length) : hu (gl h n L) (n + i) e = gl h n (L.set i e) := by
  funext k
  unfold hu gl
  by_cases hk : k = n + i
  · subst hk
    rw [if_pos rfl, List.length_set, if_pos (by omega), show n + i - n = i by omega, List.getElem?_set_self hi]
  · rw [if_neg hk, List.length_set]
    by_cases h1 : n ≤ k ∧ k < n + L.length
    · rw [if_pos h1, if_pos h1, List.getElem?_set_ne (by omega)]
    · rw [if_neg h1, if_neg h1]
theorem gl_new {h : HT} {n : Nat} {L : List AE} {e : AE} : hu (gl h n L) (n + L.length) e = gl h n (L ++ [e]) := by
  funext k
  unfold hu gl
  rw [List.length_append, List.length_singleton]
  by_cases hk : k = n + L.length
  · subst hk
    rw [if_pos rfl, if_pos (by omega), show n + L.length - n = L.length by omega]
    simp
  · rw [if_neg hk]
    by_cases h1 : n ≤ k ∧ k < n + L.length
    · rw [if_pos h1, if_pos (by omega), List.getElem?_append_left (by omega)]
    · rw [if_neg h1, if_neg (by omega)]
theorem gl_gl {h : HT} {n : Nat} {L M : List AE} : gl (gl h n L) (n + L.length) M = gl h n (L ++ M) := by
  funext k
  unfold gl
  rw [List.length_append]
  by_cases h1 : n + L.length ≤ k ∧ k < n + L.length + M.length
  · rw [if_pos h1, if_pos (by omega), List.getElem?_append_right (by omega), show k - n - L.length = k - (n + L.length) by omega]
  · rw [if_neg h1]
    by_cases h2 : n ≤ k ∧ k < n + L.length
    · rw [if_pos h2, if_pos (by omega), List.getElem?_append_left (by omega)]
    · rw [if_neg h2, if_neg (by omega)]
theorem gl_one {h : HT} {n : Nat} {e : AE} : hu h n e = gl h n [e] := by
  funext k
  unfold hu gl
  by_cases hk : k = n
  · subst hk
    simp
  · rw [if_neg hk, if_neg (by simp; omega)]
theorem tw_oi : Cond.instanceMethod objectInit ∈ tW := tm1 20 rfl rfl
theorem tw_oc : Cond.code objectInit ⟨#[0xb1]⟩ 1 none ∈ tW := tm1 21 rfl rfl
theorem tw_ai : Cond.arrayClass .int ∈ tW := tm1 101 rfl rfl
theorem tw_al : Cond.arrayClass .long ∈ tW := tm1 205 rfl rfl
def dcl (ci k : Nat) : Option String := clG[ci]?.map fun q => (q.2.1 k).1
theorem dcl_use {ci k : Nat} {s : String} (h : dcl ci k = some s) : ∀ q, clG[ci]? = some q → (q.2.1 k).1 = s := by
  intro q hq
  unfold dcl at h
  rw [hq] at h
  exact Option.some.inj h
/-- a reference into a field -/
theorem jj_pr {X : State → Prop} {G : GC} {B : Nat} {y : MT} {pc : Nat} {lv : List (Option Value)} {n : Nat} {h : HT} {kc ks : Nat} {post : Option Value → Nat → HT → Prop} {st : List Value} {idx ci k z z' : Nat} {fs : List Value} {L : List AE} (hd : lk (M_tb y) pc = some (.putfield idx)) (hf : fld (M_own y) idx = some (ci, k)) (hi0 : (M_nm y).name = "<init>") (hfin : finG ci k = true) (hdc : dcl ci k = some (M_nm y).cls) (hn : narrow (tyG ci k) (.ref (B + z)) = .ref (B + z)) (hfit : fits (tyG ci k) (.ref (B + z)) = true) (hl : Nat.blt k fs.length = true) (K : JJ X G B y (pc + 3) lv st (z') (gl h n (ob ci (fs.set k (.ref (B + z))) :: L)) kc ks post) : JJ X G B y pc lv (.ref (B + z) :: .ref (B + n) :: st) z' (gl h n (ob ci fs :: L)) kc ks post := by
  refine jj_putF hd (fld_ok hf) hi0 hfin (dcl_use hdc) hn hfit (gl_at (n := n) (i := 0) rfl) (by have := hl; simp at this; exact this) (jj_h ?_ K)
  exact gl_put (i := 0) (by simp)
theorem jj_pi {X : State → Prop} {G : GC} {B : Nat} {y : MT} {pc : Nat} {lv : List (Option Value)} {n : Nat} {h : HT} {kc ks : Nat} {post : Option Value → Nat → HT → Prop} {st : List Value} {idx ci k z' : Nat} {fs : List Value} {L : List AE} {x : Int32} (hd : lk (M_tb y) pc = some (.putfield idx)) (hf : fld (M_own y) idx = some (ci, k)) (hty : tyG ci k = .int) (hfin : finG ci k = false) (hl : Nat.blt k fs.length = true) (K : JJ X G B y (pc + 3) lv st z' (gl h n (ob ci (fs.set k (.int x)) :: L)) kc ks post) : JJ X G B y pc lv (.int x :: .ref (B + n) :: st) z' (gl h n (ob ci fs :: L)) kc ks post := by
  refine jj_p hd hf hty hfin (gl_at (n := n) (i := 0) rfl) hl (jj_h ?_ K)
  exact gl_put (i := 0) (by simp)
theorem jj_na {X : State → Prop} {G : GC} {B : Nat} {y : MT} {pc : Nat} {lv : List (Option Value)} {n : Nat} {h : HT} {kc ks : Nat} {post : Option Value → Nat → HT → Prop} {st : List Value} {idx ci k cnt : Nat} {fs : List Value} {L : List AE} {v : Int32} (N : Nat) (hd1 : lk (M_tb y) pc = some (.newarray .int)) (hd2 : lk (M_tb y) (pc + 2) = some (.putfield idx)) (hf : fld (M_own y) idx = some (ci, k)) (hi0 : (M_nm y).name = "<init>") (hfin : finG ci k = true) (hdc : dcl ci k = some (M_nm y).cls) (hn : narrow (tyG ci k) (.ref (B + cnt)) = .ref (B + cnt)) (hfit : fits (tyG ci k) (.ref (B + cnt)) = true) (hl : Nat.blt k fs.length = true) (hv : ¬ v < 0) (hN : v.toNatClampNeg = N) (hby : Nat.ble (N * 4) 536870912 = true) (hcnt : cnt = n + (L.length + 1)) (K : JJ X G B y (pc + 5) lv st (cnt + 1) (gl h n (ob ci (fs.set k (.ref (B + cnt))) :: (L ++ [ia N (fun _ => 0)]))) kc ks post) : JJ X G B y pc lv (.int v :: .ref (B + n) :: st) cnt (gl h n (ob ci fs :: L)) (kc + 1) (ks + N) post := by
  refine jj_newi N hd1 tw_ai hv hN (Nat.le_of_ble_eq_true hby) (jj_h (h' := gl h n (ob ci fs :: (L ++ [ia N (fun _ => 0)]))) ?_ (jj_pr hd2 hf hi0 hfin hdc hn hfit hl K))
  subst hcnt
  exact gl_new (L := ob ci fs :: L)
theorem jj_nl {X : State → Prop} {G : GC} {B : Nat} {y : MT} {pc : Nat} {lv : List (Option Value)} {n : Nat} {h : HT} {kc ks : Nat} {post : Option Value → Nat → HT → Prop} {st : List Value} {idx ci k cnt : Nat} {fs : List Value} {L : List AE} {v : Int32} (N : Nat) (hd1 : lk (M_tb y) pc = some (.newarray .long)) (hd2 : lk (M_tb y) (pc + 2) = some (.putfield idx)) (hf : fld (M_own y) idx = some (ci, k)) (hi0 : (M_nm y).name = "<init>") (hfin : finG ci k = true) (hdc : dcl ci k = some (M_nm y).cls) (hn : narrow (tyG ci k) (.ref (B + cnt)) = .ref (B + cnt)) (hfit : fits (tyG ci k) (.ref (B + cnt)) = true) (hl : Nat.blt k fs.length = true) (hv : ¬ v < 0) (hN : v.toNatClampNeg = N) (hby : Nat.ble (N * 8) 536870912 = true) (hcnt : cnt = n + (L.length + 1)) (K : JJ X G B y (pc + 5) lv st (cnt + 1) (gl h n (ob ci (fs.set k (.ref (B + cnt))) :: (L ++ [la N (fun _ => 0)]))) kc ks post) : JJ X G B y pc lv (.int v :: .ref (B + n) :: st) cnt (gl h n (ob ci fs :: L)) (kc + 1) (ks + N) post := by
  refine jj_newl N hd1 tw_al hv hN (Nat.le_of_ble_eq_true hby) (jj_h (h' := gl h n (ob ci fs :: (L ++ [la N (fun _ => 0)]))) ?_ (jj_pr hd2 hf hi0 hfin hdc hn hfit hl K))
  subst hcnt
  exact gl_new (L := ob ci fs :: L)
def iOk (y y' : MT) (k : Nat) : Bool := roomOk y y' && (M_np y' == k) && Nat.ble (k + 1) (M_ml y')
theorem jj_ig {X : State → Prop} {G : GC} {B : Nat} {y : MT} {pc : Nat} {lv : List (Option Value)} {n : Nat} {h : HT} {kc ks : Nat} {post : Option Value → Nat → HT → Prop} {st rest : List Value} {y' : MT} {idx mc' ms' n' : Nat} {h' : HT} {as : List Value} {r : Option Value} {a : Nat} (hd : lk (M_tb y) pc = some (.invokespecial idx)) (hl : cal (M_own y) idx = some (2, y')) (hv : iOk y y' as.length = true) (hvoid : M_rt y' = none) (hst : st = as.reverse ++ .ref (B + a) :: rest) (hcat : as.all (fun v => v.category == 1) = true) (hrest : Nat.ble (rest.map fun v => v.category).sum 8 = true) (hC : CtJ G B y' (.ref (B + a) :: as) n h mc' ms' (eqP r n' h')) (K : JJ X G B y (pc + 3) lv (r.toList ++ rest) n' h' kc ks post) : JJ X G B y pc lv st n h (kc + mc') (ks + ms') post := by
  intro p l e R s m args below meth c H locs cells slots ls mc ms C P S L k1 k2 k3 k4
  obtain ⟨hok, how, hlk⟩ := cal_ok hl
  have hown : OwnOk y := C.2.2.2.2.2.2.2.2.2.2.2.2.2.2.2.2
  unfold iOk at hv
  simp only [Bool.and_eq_true, beq_iff_eq, Nat.ble_eq] at hv
  obtain ⟨⟨v1, v3⟩, v4⟩ := hv
  exact jj_cI hd hok how v1 ((hlk y rfl hown).2.2.1 rfl) hvoid hst v3.symm (cat_all hcat) v4 (Nat.le_of_ble_eq_true hrest) (Nat.le_add_left _ _) (Nat.le_add_left _ _) hC (by rw [Nat.add_sub_cancel, Nat.add_sub_cancel]; exact K) p l e R s m args below meth c H locs cells slots ls mc ms C P S L k1 k2 k3 k4
theorem jj_ing {X : State → Prop} {G : GC} {B : Nat} {y : MT} {pc : Nat} {lv : List (Option Value)} {n : Nat} {h : HT} {kc ks : Nat} {post : Option Value → Nat → HT → Prop} {st rest : List Value} {y' : MT} {idx mc' ms' n' : Nat} {h' : HT} {as : List Value} {r : Option Value} {a : Nat} (hd : lk (M_tb y) pc = some (.invokespecial idx)) (hl : cal (M_own y) idx = some (12, y')) (hv : iOk y y' as.length = true) (hvoid : M_rt y' = none) (hst : st = as.reverse ++ .ref (B + a) :: rest) (hcat : as.all (fun v => v.category == 1) = true) (hrest : Nat.ble (rest.map fun v => v.category).sum 8 = true) (hC : CtJ G B y' (.ref (B + a) :: as) n h mc' ms' (eqP r n' h')) (K : JJ X G B y (pc + 3) lv (r.toList ++ rest) n' h' kc ks post) : JJ X G B y pc lv st n h (kc + mc') (ks + ms') post := by
  intro p l e R s m args below meth c H locs cells slots ls mc ms C P S L k1 k2 k3 k4
  obtain ⟨hok, how, hlk⟩ := cal_ok hl
  have hown : OwnOk y := C.2.2.2.2.2.2.2.2.2.2.2.2.2.2.2.2
  unfold iOk at hv
  simp only [Bool.and_eq_true, beq_iff_eq, Nat.ble_eq] at hv
  obtain ⟨⟨v1, v3⟩, v4⟩ := hv
  exact jj_cIN hd hok how v1 ((hlk y rfl hown).2.2.2.2 rfl) hvoid hst v3.symm (cat_all hcat) v4 (Nat.le_of_ble_eq_true hrest) (Nat.le_add_left _ _) (Nat.le_add_left _ _) hC (by rw [Nat.add_sub_cancel, Nat.add_sub_cancel]; exact K) p l e R s m args below meth c H locs cells slots ls mc ms C P S L k1 k2 k3 k4
theorem jj_mk {X : State → Prop} {G : GC} {B : Nat} {y : MT} {pc : Nat} {lv : List (Option Value)} {n : Nat} {h : HT} {kc ks : Nat} {post : Option Value → Nat → HT → Prop} {st : List Value} {y' : MT} {idx idx2 ci N cnt cnt' mc' ms' : Nat} {Cn : String} {Tn : u_T} {L M : List AE} (fs : List Value) (hd1 : lk (M_tb y) pc = some (.new idx)) (hd2 : lk (M_tb y) (pc + 3) = some .dup) (hd3 : lk (M_tb y) (pc + 4) = some (.invokespecial idx2)) (hq : clG[ci]? = some (Cn, Tn, N)) (hcl : Cond.classLink (M_nm y).cls idx Cn ∈ tW) (hin : Cond.instantiable Cn N ∈ tW) (hini : Cond.initialized Cn ∈ tW) (hfs : ∀ j, j < N → defaultValue (tyG ci j) = vp_V fs j) (hl : cal (M_own y) idx2 = some (2, y')) (hv : iOk y y' 0 = true) (hvoid : M_rt y' = none) (hrest : Nat.ble ((Value.ref (B + cnt) :: st).map fun v => v.category).sum 8 = true) (hcnt : cnt = n + L.length) (hC : ∀ h, CtJ G B y' [.ref (B + cnt)] (cnt + 1) (gl h cnt [ob ci fs]) mc' ms' (eqP none cnt' (gl h cnt M))) (K : JJ X G B y (pc + 7) lv (.ref (B + cnt) :: st) cnt' (gl h n (L ++ M)) kc ks post) : JJ X G B y pc lv st cnt (gl h n L) (kc + mc' + 1) (ks + ms' + N) post := by
  refine jj_new fs hd1 hq hcl hin hini hfs ?_
  refine jj_s (pc' := pc + 4) hd2 rfl ?_
  refine jj_h gl_one ?_
  refine jj_ig (as := []) hd3 hl hv hvoid rfl rfl hrest (hC _) ?_
  subst hcnt
  exact jj_h gl_gl K
theorem jj_mkn {X : State → Prop} {G : GC} {B : Nat} {y : MT} {pc : Nat} {lv : List (Option Value)} {n : Nat} {h : HT} {kc ks : Nat} {post : Option Value → Nat → HT → Prop} {st : List Value} {y' : MT} {idx idx2 ci N cnt cnt' mc' ms' : Nat} {Cn : String} {Tn : u_T} {L M : List AE} (fs : List Value) (hd1 : lk (M_tb y) pc = some (.new idx)) (hd2 : lk (M_tb y) (pc + 3) = some .dup) (hd3 : lk (M_tb y) (pc + 4) = some (.invokespecial idx2)) (hq : clG[ci]? = some (Cn, Tn, N)) (hcl : Cond.classLink (M_nm y).cls idx Cn ∈ tW) (hin : Cond.instantiable Cn N ∈ tW) (hini : Cond.initialized Cn ∈ tW) (hfs : ∀ j, j < N → defaultValue (tyG ci j) = vp_V fs j) (hl : cal (M_own y) idx2 = some (12, y')) (hv : iOk y y' 0 = true) (hvoid : M_rt y' = none) (hrest : Nat.ble ((Value.ref (B + cnt) :: st).map fun v => v.category).sum 8 = true) (hcnt : cnt = n + L.length) (hC : ∀ h, CtJ G B y' [.ref (B + cnt)] (cnt + 1) (gl h cnt [ob ci fs]) mc' ms' (eqP none cnt' (gl h cnt M))) (K : JJ X G B y (pc + 7) lv (.ref (B + cnt) :: st) cnt' (gl h n (L ++ M)) kc ks post) : JJ X G B y pc lv st cnt (gl h n L) (kc + mc' + 1) (ks + ms' + N) post := by
  refine jj_new fs hd1 hq hcl hin hini hfs ?_
  refine jj_s (pc' := pc + 4) hd2 rfl ?_
  refine jj_h gl_one ?_
  refine jj_ing (as := []) hd3 hl hv hvoid rfl rfl hrest (hC _) ?_
  subst hcnt
  exact jj_h gl_gl K
theorem tw_in1 : Cond.instantiable RX1 3 ∈ tW := tm1 174 rfl rfl
theorem tw_ii1 : Cond.initialized RX1 ∈ tW := tm1 6 rfl rfl
theorem tw_ol1 : Cond.methodLink RX1 3 objectInit ∈ tW := tm1 178 rfl rfl
theorem dfl1 : ∀ j, j < 3 → defaultValue (tyG 1 j) = vp_V [.null, .null, .null] j := (fun j hj => by
    have hz : j = 0 ∨ j = 1 ∨ j = 2 := by omega
    rcases hz with rfl | rfl | rfl <;> rfl)
theorem tw_in2 : Cond.instantiable RX2 3 ∈ tW := tm1 190 rfl rfl
theorem tw_ii2 : Cond.initialized RX2 ∈ tW := tm1 7 rfl rfl
theorem tw_ol2 : Cond.methodLink RX2 3 objectInit ∈ tW := tm1 194 rfl rfl
theorem dfl2 : ∀ j, j < 3 → defaultValue (tyG 2 j) = vp_V [.null, .null, .null] j := (fun j hj => by
    have hz : j = 0 ∨ j = 1 ∨ j = 2 := by omega
    rcases hz with rfl | rfl | rfl <;> rfl)
theorem tw_in3 : Cond.instantiable RX3 4 ∈ tW := tm1 104 rfl rfl
theorem tw_ii3 : Cond.initialized RX3 ∈ tW := tm1 3 rfl rfl
theorem tw_ol3 : Cond.methodLink RX3 3 objectInit ∈ tW := tm1 108 rfl rfl
theorem dfl3 : ∀ j, j < 4 → defaultValue (tyG 3 j) = vp_V [.null, .null, .null, .null] j := (fun j hj => by
    have hz : j = 0 ∨ j = 1 ∨ j = 2 ∨ j = 3 := by omega
    rcases hz with rfl | rfl | rfl | rfl <;> rfl)
theorem tw_in4 : Cond.instantiable RX4 8 ∈ tW := tm1 141 rfl rfl
theorem tw_ii4 : Cond.initialized RX4 ∈ tW := tm1 5 rfl rfl
theorem tw_ol4 : Cond.methodLink RX4 3 objectInit ∈ tW := tm1 145 rfl rfl
theorem dfl4 : ∀ j, j < 8 → defaultValue (tyG 4 j) = vp_V [.int 0, .null, .null, .null, .int 0, .int 0, .int 0, .int 0] j := (fun j hj => by
    have hz : j = 0 ∨ j = 1 ∨ j = 2 ∨ j = 3 ∨ j = 4 ∨ j = 5 ∨ j = 6 ∨ j = 7 := by omega
    rcases hz with rfl | rfl | rfl | rfl | rfl | rfl | rfl | rfl <;> rfl)
theorem tw_in5 : Cond.instantiable RX5 18 ∈ tW := tm1 23 rfl rfl
theorem tw_ii5 : Cond.initialized RX5 ∈ tW := tm1 2 rfl rfl
theorem tw_ol5 : Cond.methodLink RX5 3 objectInit ∈ tW := tm1 27 rfl rfl
theorem dfl5 : ∀ j, j < 18 → defaultValue (tyG 5 j) = vp_V [.int 0, .int 0, .int 0, .int 0, .int 0, .null, .null, .null, .null, .null, .null, .null, .null, .null, .null, .null, .null, .null] j := (fun j hj => by
    have hz : j = 0 ∨ j = 1 ∨ j = 2 ∨ j = 3 ∨ j = 4 ∨ j = 5 ∨ j = 6 ∨ j = 7 ∨ j = 8 ∨ j = 9 ∨ j = 10 ∨ j = 11 ∨ j = 12 ∨ j = 13 ∨ j = 14 ∨ j = 15 ∨ j = 16 ∨ j = 17 := by omega
    rcases hz with rfl | rfl | rfl | rfl | rfl | rfl | rfl | rfl | rfl | rfl | rfl | rfl | rfl | rfl | rfl | rfl | rfl | rfl <;> rfl)
theorem tw_in6 : Cond.instantiable RX6 4 ∈ tW := tm1 207 rfl rfl
theorem tw_ii6 : Cond.initialized RX6 ∈ tW := tm1 8 rfl rfl
theorem tw_ol6 : Cond.methodLink RX6 3 objectInit ∈ tW := tm1 211 rfl rfl
theorem dfl6 : ∀ j, j < 4 → defaultValue (tyG 6 j) = vp_V [.int 0, .null, .null, .int 0] j := (fun j hj => by
    have hz : j = 0 ∨ j = 1 ∨ j = 2 ∨ j = 3 := by omega
    rcases hz with rfl | rfl | rfl | rfl <;> rfl)
theorem tw_in7 : Cond.instantiable RX7 3 ∈ tW := tm1 123 rfl rfl
theorem tw_ii7 : Cond.initialized RX7 ∈ tW := tm1 4 rfl rfl
theorem tw_ol7 : Cond.methodLink RX7 3 objectInit ∈ tW := tm1 127 rfl rfl
theorem dfl7 : ∀ j, j < 3 → defaultValue (tyG 7 j) = vp_V [.int 0, .null, .null] j := (fun j hj => by
    have hz : j = 0 ∨ j = 1 ∨ j = 2 := by omega
    rcases hz with rfl | rfl | rfl <;> rfl)
theorem tw_in8 : Cond.instantiable RX8 8 ∈ tW := tm1 15 rfl rfl
theorem tw_ii8 : Cond.initialized RX8 ∈ tW := tm1 1 rfl rfl
theorem tw_ol8 : Cond.methodLink RX8 1 objectInit ∈ tW := tm1 19 rfl rfl
theorem dfl8 : ∀ j, j < 8 → defaultValue (tyG 8 j) = vp_V [.null, .null, .null, .null, .null, .null, .null, .null] j := (fun j hj => by
    have hz : j = 0 ∨ j = 1 ∨ j = 2 ∨ j = 3 ∨ j = 4 ∨ j = 5 ∨ j = 6 ∨ j = 7 := by omega
    rcases hz with rfl | rfl | rfl | rfl | rfl | rfl | rfl | rfl <;> rfl)
theorem tw_in9 : Cond.instantiable RX9 26 ∈ tW := tm4 6 rfl rfl
theorem tw_ii9 : Cond.initialized RX9 ∈ tW := tm1 9 rfl rfl
theorem tw_ol9 : Cond.methodLink RX9 1 objectInit ∈ tW := tm4 10 rfl rfl
theorem dfl9 : ∀ j, j < 26 → defaultValue (tyG 9 j) = vp_V [.null, .null, .int 0, .null, .int 0, .null, .int 0, .int 0, .int 0, .null, .null, .null, .null, .null, .null, .null, .null, .null, .null, .null, .int 0, .int 0, .null, .null, .null, .int 0] j := (fun j hj => by
    have hz : j = 0 ∨ j = 1 ∨ j = 2 ∨ j = 3 ∨ j = 4 ∨ j = 5 ∨ j = 6 ∨ j = 7 ∨ j = 8 ∨ j = 9 ∨ j = 10 ∨ j = 11 ∨ j = 12 ∨ j = 13 ∨ j = 14 ∨ j = 15 ∨ j = 16 ∨ j = 17 ∨ j = 18 ∨ j = 19 ∨ j = 20 ∨ j = 21 ∨ j = 22 ∨ j = 23 ∨ j = 24 ∨ j = 25 := by omega
    rcases hz with rfl | rfl | rfl | rfl | rfl | rfl | rfl | rfl | rfl | rfl | rfl | rfl | rfl | rfl | rfl | rfl | rfl | rfl | rfl | rfl | rfl | rfl | rfl | rfl | rfl | rfl <;> rfl)
theorem tw_cl8_7 : Cond.classLink RX8 7 RX5 ∈ tW := tm1 22 rfl rfl
theorem tw_cl8_20 : Cond.classLink RX8 20 RX3 ∈ tW := tm1 103 rfl rfl
theorem tw_cl8_29 : Cond.classLink RX8 29 RX7 ∈ tW := tm1 122 rfl rfl
theorem tw_cl8_36 : Cond.classLink RX8 36 RX4 ∈ tW := tm1 140 rfl rfl
theorem tw_cl8_43 : Cond.classLink RX8 43 RX1 ∈ tW := tm1 173 rfl rfl
theorem tw_cl8_50 : Cond.classLink RX8 50 RX2 ∈ tW := tm1 189 rfl rfl
theorem tw_cl8_57 : Cond.classLink RX8 57 RX6 ∈ tW := tm1 206 rfl rfl
theorem tw_cl6_15 : Cond.classLink RX6 15 RX5 ∈ tW := tm1 212 rfl rfl
abbrev zr : AE := ia 20 (fun _ => 0)
def S0 : Nat → Int32 := fun k => if k = 3 then 9 else 0
abbrev F00 : Nat → Nat → Int32 := fun _ _ => 0
set_option maxHeartbeats 4000000 in
set_option maxRecDepth 100000 in
 theorem c_Qinit {G : GC} {B n : Nat} {h : HT} : CtJ G B M5_init [.ref (B + n)] (n + 1) (gl h n [ob 5 [.int 0, .int 0, .int 0, .int 0, .int 0, .null, .null, .null, .null, .null, .null, .null, .null, .null, .null, .null, .null, .null]]) 13 260 (eqP none (n + 14) (gl h n (ob 5 (qobj B n 0 S0) :: List.replicate 13 zr))) := by
  unfold CtJ
  refine jj_lv (lv' := [some (.ref (B + n))]) rfl ?_
  refine jj_s (pc' := 1) rfl rfl ?_
  refine jj_oinit rfl tw_ol5 tw_oi tw_oc (by decide) (by decide) ?_
  refine jj_s (pc' := 5) rfl rfl ?_
  refine jj_s (pc' := 6) rfl rfl ?_
  refine jj_pi rfl rfl rfl rfl rfl ?_
  refine jj_s (pc' := 10) rfl rfl ?_
  refine jj_s (pc' := 11) rfl rfl ?_
  refine jj_pi rfl rfl rfl rfl rfl ?_
  refine jj_s (pc' := 15) rfl rfl ?_
  refine jj_s (pc' := 16) rfl rfl ?_
  refine jj_pi rfl rfl rfl rfl rfl ?_
  refine jj_s (pc' := 20) rfl rfl ?_
  refine jj_s (pc' := 22) rfl rfl ?_
  refine jj_pi rfl rfl rfl rfl rfl ?_
  refine jj_s (pc' := 26) rfl rfl ?_
  refine jj_s (pc' := 27) rfl rfl ?_
  refine jj_pi rfl rfl rfl rfl rfl ?_
  refine jj_s (pc' := 31) rfl rfl ?_
  refine jj_s (pc' := 33) rfl rfl ?_
  refine jj_na 20 rfl rfl rfl rfl rfl rfl rfl rfl rfl (by decide) rfl rfl rfl ?_
  refine jj_s (pc' := 39) rfl rfl ?_
  refine jj_s (pc' := 41) rfl rfl ?_
  refine jj_na 20 rfl rfl rfl rfl rfl rfl rfl rfl rfl (by decide) rfl rfl rfl ?_
  refine jj_s (pc' := 47) rfl rfl ?_
  refine jj_s (pc' := 49) rfl rfl ?_
  refine jj_na 20 rfl rfl rfl rfl rfl rfl rfl rfl rfl (by decide) rfl rfl rfl ?_
  refine jj_s (pc' := 55) rfl rfl ?_
  refine jj_s (pc' := 57) rfl rfl ?_
  refine jj_na 20 rfl rfl rfl rfl rfl rfl rfl rfl rfl (by decide) rfl rfl rfl ?_
  refine jj_s (pc' := 63) rfl rfl ?_
  refine jj_s (pc' := 65) rfl rfl ?_
  refine jj_na 20 rfl rfl rfl rfl rfl rfl rfl rfl rfl (by decide) rfl rfl rfl ?_
  refine jj_s (pc' := 71) rfl rfl ?_
  refine jj_s (pc' := 73) rfl rfl ?_
  refine jj_na 20 rfl rfl rfl rfl rfl rfl rfl rfl rfl (by decide) rfl rfl rfl ?_
  refine jj_s (pc' := 79) rfl rfl ?_
  refine jj_s (pc' := 81) rfl rfl ?_
  refine jj_na 20 rfl rfl rfl rfl rfl rfl rfl rfl rfl (by decide) rfl rfl rfl ?_
  refine jj_s (pc' := 87) rfl rfl ?_
  refine jj_s (pc' := 89) rfl rfl ?_
  refine jj_na 20 rfl rfl rfl rfl rfl rfl rfl rfl rfl (by decide) rfl rfl rfl ?_
  refine jj_s (pc' := 95) rfl rfl ?_
  refine jj_s (pc' := 97) rfl rfl ?_
  refine jj_na 20 rfl rfl rfl rfl rfl rfl rfl rfl rfl (by decide) rfl rfl rfl ?_
  refine jj_s (pc' := 103) rfl rfl ?_
  refine jj_s (pc' := 105) rfl rfl ?_
  refine jj_na 20 rfl rfl rfl rfl rfl rfl rfl rfl rfl (by decide) rfl rfl rfl ?_
  refine jj_s (pc' := 111) rfl rfl ?_
  refine jj_s (pc' := 113) rfl rfl ?_
  refine jj_na 20 rfl rfl rfl rfl rfl rfl rfl rfl rfl (by decide) rfl rfl rfl ?_
  refine jj_s (pc' := 119) rfl rfl ?_
  refine jj_s (pc' := 121) rfl rfl ?_
  refine jj_na 20 rfl rfl rfl rfl rfl rfl rfl rfl rfl (by decide) rfl rfl rfl ?_
  refine jj_s (pc' := 127) rfl rfl ?_
  refine jj_s (pc' := 129) rfl rfl ?_
  refine jj_na 20 rfl rfl rfl rfl rfl rfl rfl rfl rfl (by decide) rfl rfl rfl ?_
  exact jj_vret rfl rfl ⟨rfl, rfl, rfl⟩
set_option maxHeartbeats 4000000 in
set_option maxRecDepth 100000 in
 theorem c_Winit {G : GC} {B n : Nat} {h : HT} : CtJ G B M7_init [.ref (B + n)] (n + 1) (gl h n [ob 7 [.int 0, .null, .null]]) 2 40 (eqP none (n + 3) (gl h n (wob B n 0 :: [zr, zr]))) := by
  unfold CtJ
  refine jj_lv (lv' := [some (.ref (B + n))]) rfl ?_
  refine jj_s (pc' := 1) rfl rfl ?_
  refine jj_oinit rfl tw_ol7 tw_oi tw_oc (by decide) (by decide) ?_
  refine jj_s (pc' := 5) rfl rfl ?_
  refine jj_s (pc' := 6) rfl rfl ?_
  refine jj_pi rfl rfl rfl rfl rfl ?_
  refine jj_s (pc' := 10) rfl rfl ?_
  refine jj_s (pc' := 12) rfl rfl ?_
  refine jj_na 20 rfl rfl rfl rfl rfl rfl rfl rfl rfl (by decide) rfl rfl rfl ?_
  refine jj_s (pc' := 18) rfl rfl ?_
  refine jj_s (pc' := 20) rfl rfl ?_
  refine jj_na 20 rfl rfl rfl rfl rfl rfl rfl rfl rfl (by decide) rfl rfl rfl ?_
  exact jj_vret rfl rfl ⟨rfl, rfl, rfl⟩
set_option maxHeartbeats 4000000 in
set_option maxRecDepth 100000 in
 theorem c_Linit {G : GC} {B n : Nat} {h : HT} : CtJ G B M4_init [.ref (B + n)] (n + 1) (gl h n [ob 4 [.int 0, .null, .null, .null, .int 0, .int 0, .int 0, .int 0]]) 3 60 (eqP none (n + 4) (gl h n (lob B n (fun _ => 0) :: [zr, zr, zr]))) := by
  unfold CtJ
  refine jj_lv (lv' := [some (.ref (B + n))]) rfl ?_
  refine jj_s (pc' := 1) rfl rfl ?_
  refine jj_oinit rfl tw_ol4 tw_oi tw_oc (by decide) (by decide) ?_
  refine jj_s (pc' := 5) rfl rfl ?_
  refine jj_s (pc' := 6) rfl rfl ?_
  refine jj_pi rfl rfl rfl rfl rfl ?_
  refine jj_s (pc' := 10) rfl rfl ?_
  refine jj_s (pc' := 12) rfl rfl ?_
  refine jj_na 20 rfl rfl rfl rfl rfl rfl rfl rfl rfl (by decide) rfl rfl rfl ?_
  refine jj_s (pc' := 18) rfl rfl ?_
  refine jj_s (pc' := 20) rfl rfl ?_
  refine jj_na 20 rfl rfl rfl rfl rfl rfl rfl rfl rfl (by decide) rfl rfl rfl ?_
  refine jj_s (pc' := 26) rfl rfl ?_
  refine jj_s (pc' := 28) rfl rfl ?_
  refine jj_na 20 rfl rfl rfl rfl rfl rfl rfl rfl rfl (by decide) rfl rfl rfl ?_
  refine jj_s (pc' := 34) rfl rfl ?_
  refine jj_s (pc' := 35) rfl rfl ?_
  refine jj_pi rfl rfl rfl rfl rfl ?_
  refine jj_s (pc' := 39) rfl rfl ?_
  refine jj_s (pc' := 40) rfl rfl ?_
  refine jj_pi rfl rfl rfl rfl rfl ?_
  refine jj_s (pc' := 44) rfl rfl ?_
  refine jj_s (pc' := 45) rfl rfl ?_
  refine jj_pi rfl rfl rfl rfl rfl ?_
  refine jj_s (pc' := 49) rfl rfl ?_
  refine jj_s (pc' := 50) rfl rfl ?_
  refine jj_pi rfl rfl rfl rfl rfl ?_
  exact jj_vret rfl rfl ⟨rfl, rfl, rfl⟩
set_option maxHeartbeats 4000000 in
set_option maxRecDepth 100000 in
 theorem c_Cinit {G : GC} {B n : Nat} {h : HT} : CtJ G B M1_init [.ref (B + n)] (n + 1) (gl h n [ob 1 [.null, .null, .null]]) 3 60 (eqP none (n + 4) (gl h n (cob B n :: [zr, zr, zr]))) := by
  unfold CtJ
  refine jj_lv (lv' := [some (.ref (B + n))]) rfl ?_
  refine jj_s (pc' := 1) rfl rfl ?_
  refine jj_oinit rfl tw_ol1 tw_oi tw_oc (by decide) (by decide) ?_
  refine jj_s (pc' := 5) rfl rfl ?_
  refine jj_s (pc' := 7) rfl rfl ?_
  refine jj_na 20 rfl rfl rfl rfl rfl rfl rfl rfl rfl (by decide) rfl rfl rfl ?_
  refine jj_s (pc' := 13) rfl rfl ?_
  refine jj_s (pc' := 15) rfl rfl ?_
  refine jj_na 20 rfl rfl rfl rfl rfl rfl rfl rfl rfl (by decide) rfl rfl rfl ?_
  refine jj_s (pc' := 21) rfl rfl ?_
  refine jj_s (pc' := 23) rfl rfl ?_
  refine jj_na 20 rfl rfl rfl rfl rfl rfl rfl rfl rfl (by decide) rfl rfl rfl ?_
  exact jj_vret rfl rfl ⟨rfl, rfl, rfl⟩
set_option maxHeartbeats 4000000 in
set_option maxRecDepth 100000 in
 theorem c_Oinit {G : GC} {B n : Nat} {h : HT} : CtJ G B M2_init [.ref (B + n)] (n + 1) (gl h n [ob 2 [.null, .null, .null]]) 3 4120 (eqP none (n + 4) (gl h n (oob B n :: [la 4096 (fun _ => 0), ia 12 (fun _ => 0), ia 12 (fun _ => 0)]))) := by
  unfold CtJ
  refine jj_lv (lv' := [some (.ref (B + n))]) rfl ?_
  refine jj_s (pc' := 1) rfl rfl ?_
  refine jj_oinit rfl tw_ol2 tw_oi tw_oc (by decide) (by decide) ?_
  refine jj_s (pc' := 5) rfl rfl ?_
  refine jj_s (pc' := 8) rfl rfl ?_
  refine jj_nl 4096 rfl rfl rfl rfl rfl rfl rfl rfl rfl (by decide) rfl rfl rfl ?_
  refine jj_s (pc' := 14) rfl rfl ?_
  refine jj_s (pc' := 16) rfl rfl ?_
  refine jj_na 12 rfl rfl rfl rfl rfl rfl rfl rfl rfl (by decide) rfl rfl rfl ?_
  refine jj_s (pc' := 22) rfl rfl ?_
  refine jj_s (pc' := 24) rfl rfl ?_
  refine jj_na 12 rfl rfl rfl rfl rfl rfl rfl rfl rfl (by decide) rfl rfl rfl ?_
  exact jj_vret rfl rfl ⟨rfl, rfl, rfl⟩
set_option maxHeartbeats 4000000 in
set_option maxRecDepth 100000 in
 theorem c_Pinit {G : GC} {B n : Nat} {h : HT} {q : Nat} : CtJ G B M3_init [.ref (B + n), .ref (B + q)] (n + 1) (gl h n [ob 3 [.null, .null, .null, .null]]) 3 60 (eqP none (n + 4) (gl h n (pob B n q :: [zr, zr, zr]))) := by
  unfold CtJ
  refine jj_lv (lv' := [some (.ref (B + n)), some (.ref (B + q))]) rfl ?_
  refine jj_s (pc' := 1) rfl rfl ?_
  refine jj_oinit rfl tw_ol3 tw_oi tw_oc (by decide) (by decide) ?_
  refine jj_s (pc' := 5) rfl rfl ?_
  refine jj_s (pc' := 7) rfl rfl ?_
  refine jj_na 20 rfl rfl rfl rfl rfl rfl rfl rfl rfl (by decide) rfl rfl rfl ?_
  refine jj_s (pc' := 13) rfl rfl ?_
  refine jj_s (pc' := 15) rfl rfl ?_
  refine jj_na 20 rfl rfl rfl rfl rfl rfl rfl rfl rfl (by decide) rfl rfl rfl ?_
  refine jj_s (pc' := 21) rfl rfl ?_
  refine jj_s (pc' := 23) rfl rfl ?_
  refine jj_na 20 rfl rfl rfl rfl rfl rfl rfl rfl rfl (by decide) rfl rfl rfl ?_
  refine jj_s (pc' := 29) rfl rfl ?_
  refine jj_s (pc' := 30) rfl rfl ?_
  refine jj_pr rfl rfl rfl rfl rfl rfl rfl rfl ?_
  exact jj_vret rfl rfl ⟨rfl, rfl, rfl⟩
set_option maxHeartbeats 4000000 in
set_option maxRecDepth 100000 in
 theorem c_Tinit {G : GC} {B n : Nat} {h : HT} : CtJ G B M6_init [.ref (B + n)] (n + 1) (gl h n [ob 6 [.int 0, .null, .null, .int 0]]) 15 478 (eqP none (n + 16) (gl h n (tob B n 0 0 :: (ob 5 (qobj B (n + 1) 0 S0) :: List.replicate 13 zr ++ [ia 200 (fun _ => 0)])))) := by
  unfold CtJ
  refine jj_lv (lv' := [some (.ref (B + n))]) rfl ?_
  refine jj_s (pc' := 1) rfl rfl ?_
  refine jj_oinit rfl tw_ol6 tw_oi tw_oc (by decide) (by decide) ?_
  refine jj_s (pc' := 5) rfl rfl ?_
  refine jj_s (pc' := 6) rfl rfl ?_
  refine jj_pi rfl rfl rfl rfl rfl ?_
  refine jj_s (pc' := 10) rfl rfl ?_
  refine jj_mkn (N := 18) [.int 0, .int 0, .int 0, .int 0, .int 0, .null, .null, .null, .null, .null, .null, .null, .null, .null, .null, .null, .null, .null] rfl rfl rfl rfl tw_cl6_15 tw_in5 tw_ii5 dfl5 rfl rfl rfl rfl rfl (fun h => c_Qinit) ?_
  refine jj_pr rfl rfl rfl rfl rfl rfl rfl rfl ?_
  refine jj_s (pc' := 21) rfl rfl ?_
  refine jj_s (pc' := 24) rfl rfl ?_
  refine jj_na 200 rfl rfl rfl rfl rfl rfl rfl rfl rfl (by decide) rfl rfl rfl ?_
  refine jj_s (pc' := 30) rfl rfl ?_
  refine jj_s (pc' := 31) rfl rfl ?_
  refine jj_pi rfl rfl rfl rfl rfl ?_
  exact jj_vret rfl rfl ⟨rfl, rfl, rfl⟩
end
