section
-- ===== PART A: goes FIRST, ahead of the names: the tables' words, and 'selects' of the private methods out of them =====
/-- a private method of a class that the tables say can be made, by its rows of tables_1 -/
def lw_okq (q : MethodName × Nat) : Prop := (q.1.cls ≠ "java/lang/invoke/MethodHandle" ∧ q.1.cls ≠ "java/lang/invoke/VarHandle") ∧ Cond.instantiable q.1.cls q.2 ∈ tables_1 ∧ Cond.privateMethod q.1 ∈ tables_1 ∧ Cond.instanceMethod q.1 ∈ tables_1
theorem lw_p0 : lw_okq (⟨"DependencyQueue$Witness", "drawRings", "(LDependencyQueue$Queue;II)I"⟩, 3) := ⟨⟨by decide +kernel, by decide +kernel⟩, List.mem_of_getElem? (i := 123) (by decide +kernel), List.mem_of_getElem? (i := 302) (by decide +kernel), List.mem_of_getElem? (i := 303) (by decide +kernel)⟩
theorem lw_p1 : lw_okq (⟨"DependencyQueue$Queue", "settleItem", "(I)Z"⟩, 18) := ⟨⟨by decide +kernel, by decide +kernel⟩, List.mem_of_getElem? (i := 23) (by decide +kernel), List.mem_of_getElem? (i := 330) (by decide +kernel), List.mem_of_getElem? (i := 331) (by decide +kernel)⟩
theorem lw_p2 : lw_okq (⟨"DependencyQueue$Queue", "stateByEdges", "(I)I"⟩, 18) := ⟨⟨by decide +kernel, by decide +kernel⟩, List.mem_of_getElem? (i := 23) (by decide +kernel), List.mem_of_getElem? (i := 335) (by decide +kernel), List.mem_of_getElem? (i := 336) (by decide +kernel)⟩
theorem lw_p3 : lw_okq (⟨"DependencyQueue$Paths", "raisePredecessors", "(I)Z"⟩, 4) := ⟨⟨by decide +kernel, by decide +kernel⟩, List.mem_of_getElem? (i := 104) (by decide +kernel), List.mem_of_getElem? (i := 407) (by decide +kernel), List.mem_of_getElem? (i := 408) (by decide +kernel)⟩
theorem lw_p4 : lw_okq (⟨"DependencyQueue$Queue", "canBeReceived", "(I)Z"⟩, 18) := ⟨⟨by decide +kernel, by decide +kernel⟩, List.mem_of_getElem? (i := 23) (by decide +kernel), List.mem_of_getElem? (i := 415) (by decide +kernel), List.mem_of_getElem? (i := 416) (by decide +kernel)⟩
theorem lw_p5 : lw_okq (⟨"DependencyQueue$Queue", "inFlightOf", "(I)I"⟩, 18) := ⟨⟨by decide +kernel, by decide +kernel⟩, List.mem_of_getElem? (i := 23) (by decide +kernel), List.mem_of_getElem? (i := 419) (by decide +kernel), List.mem_of_getElem? (i := 420) (by decide +kernel)⟩
theorem lw_p6 : lw_okq (⟨"DependencyQueue$Plan", "endCompleted", "(I)V"⟩, 8) := ⟨⟨by decide +kernel, by decide +kernel⟩, List.mem_of_getElem? (i := 141) (by decide +kernel), List.mem_of_getElem? (i := 562) (by decide +kernel), List.mem_of_getElem? (i := 563) (by decide +kernel)⟩
theorem lw_p7 : lw_okq (⟨"DependencyQueue$Plan", "findStartable", "(LDependencyQueue$Queue;)V"⟩, 8) := ⟨⟨by decide +kernel, by decide +kernel⟩, List.mem_of_getElem? (i := 141) (by decide +kernel), List.mem_of_getElem? (i := 567) (by decide +kernel), List.mem_of_getElem? (i := 568) (by decide +kernel)⟩
theorem lw_p8 : lw_okq (⟨"DependencyQueue$Plan", "startItems", "(LDependencyQueue$Queue;[II)V"⟩, 8) := ⟨⟨by decide +kernel, by decide +kernel⟩, List.mem_of_getElem? (i := 141) (by decide +kernel), List.mem_of_getElem? (i := 572) (by decide +kernel), List.mem_of_getElem? (i := 573) (by decide +kernel)⟩
theorem lw_p9 : lw_okq (⟨"DependencyQueue$Plan", "bestStartable", "(LDependencyQueue$Queue;[II)I"⟩, 8) := ⟨⟨by decide +kernel, by decide +kernel⟩, List.mem_of_getElem? (i := 141) (by decide +kernel), List.mem_of_getElem? (i := 576) (by decide +kernel), List.mem_of_getElem? (i := 577) (by decide +kernel)⟩
theorem lw_p10 : lw_okq (⟨"DependencyQueue$Plan", "nextEnd", "(I)I"⟩, 8) := ⟨⟨by decide +kernel, by decide +kernel⟩, List.mem_of_getElem? (i := 141) (by decide +kernel), List.mem_of_getElem? (i := 582) (by decide +kernel), List.mem_of_getElem? (i := 583) (by decide +kernel)⟩
theorem lw_p11 : lw_okq (⟨"DependencyQueue$Paths", "raiseLead", "(I)Z"⟩, 4) := ⟨⟨by decide +kernel, by decide +kernel⟩, List.mem_of_getElem? (i := 104) (by decide +kernel), List.mem_of_getElem? (i := 605) (by decide +kernel), List.mem_of_getElem? (i := 606) (by decide +kernel)⟩
theorem lw_p12 : lw_okq (⟨"DependencyQueue$ChainCover", "findNext", "(II[I)Z"⟩, 3) := ⟨⟨by decide +kernel, by decide +kernel⟩, List.mem_of_getElem? (i := 174) (by decide +kernel), List.mem_of_getElem? (i := 620) (by decide +kernel), List.mem_of_getElem? (i := 621) (by decide +kernel)⟩
theorem lw_p13 : lw_okq (⟨"DependencyQueue$ChainCover", "pairAlong", "(I)V"⟩, 3) := ⟨⟨by decide +kernel, by decide +kernel⟩, List.mem_of_getElem? (i := 174) (by decide +kernel), List.mem_of_getElem? (i := 627) (by decide +kernel), List.mem_of_getElem? (i := 628) (by decide +kernel)⟩
theorem lw_p14 : lw_okq (⟨"DependencyQueue$OrderCount", "listMembers", "(I)I"⟩, 3) := ⟨⟨by decide +kernel, by decide +kernel⟩, List.mem_of_getElem? (i := 190) (by decide +kernel), List.mem_of_getElem? (i := 640) (by decide +kernel), List.mem_of_getElem? (i := 641) (by decide +kernel)⟩
theorem lw_p15 : lw_okq (⟨"DependencyQueue$OrderCount", "listNeeds", "(I[I)V"⟩, 3) := ⟨⟨by decide +kernel, by decide +kernel⟩, List.mem_of_getElem? (i := 190) (by decide +kernel), List.mem_of_getElem? (i := 645) (by decide +kernel), List.mem_of_getElem? (i := 646) (by decide +kernel)⟩
def lw_privs_1 : List (MethodName × Nat) := [(⟨"DependencyQueue$Witness", "drawRings", "(LDependencyQueue$Queue;II)I"⟩, 3), (⟨"DependencyQueue$Queue", "settleItem", "(I)Z"⟩, 18), (⟨"DependencyQueue$Queue", "stateByEdges", "(I)I"⟩, 18), (⟨"DependencyQueue$Paths", "raisePredecessors", "(I)Z"⟩, 4), (⟨"DependencyQueue$Queue", "canBeReceived", "(I)Z"⟩, 18), (⟨"DependencyQueue$Queue", "inFlightOf", "(I)I"⟩, 18), (⟨"DependencyQueue$Plan", "endCompleted", "(I)V"⟩, 8), (⟨"DependencyQueue$Plan", "findStartable", "(LDependencyQueue$Queue;)V"⟩, 8), (⟨"DependencyQueue$Plan", "startItems", "(LDependencyQueue$Queue;[II)V"⟩, 8), (⟨"DependencyQueue$Plan", "bestStartable", "(LDependencyQueue$Queue;[II)I"⟩, 8), (⟨"DependencyQueue$Plan", "nextEnd", "(I)I"⟩, 8), (⟨"DependencyQueue$Paths", "raiseLead", "(I)Z"⟩, 4), (⟨"DependencyQueue$ChainCover", "findNext", "(II[I)Z"⟩, 3), (⟨"DependencyQueue$ChainCover", "pairAlong", "(I)V"⟩, 3), (⟨"DependencyQueue$OrderCount", "listMembers", "(I)I"⟩, 3), (⟨"DependencyQueue$OrderCount", "listNeeds", "(I[I)V"⟩, 3)]
theorem lw_r1 : ∀ q ∈ lw_privs_1, lw_okq q := List.forall_mem_cons.mpr ⟨lw_p0, List.forall_mem_cons.mpr ⟨lw_p1, List.forall_mem_cons.mpr ⟨lw_p2, List.forall_mem_cons.mpr ⟨lw_p3, List.forall_mem_cons.mpr ⟨lw_p4, List.forall_mem_cons.mpr ⟨lw_p5, List.forall_mem_cons.mpr ⟨lw_p6, List.forall_mem_cons.mpr ⟨lw_p7, List.forall_mem_cons.mpr ⟨lw_p8, List.forall_mem_cons.mpr ⟨lw_p9, List.forall_mem_cons.mpr ⟨lw_p10, List.forall_mem_cons.mpr ⟨lw_p11, List.forall_mem_cons.mpr ⟨lw_p12, List.forall_mem_cons.mpr ⟨lw_p13, List.forall_mem_cons.mpr ⟨lw_p14, List.forall_mem_cons.mpr ⟨lw_p15, fun _ h => absurd h List.not_mem_nil⟩⟩⟩⟩⟩⟩⟩⟩⟩⟩⟩⟩⟩⟩⟩⟩
theorem lw_p16 : lw_okq (⟨"DependencyQueue$OrderCount", "goOnFrom", "(II)V"⟩, 3) := ⟨⟨by decide +kernel, by decide +kernel⟩, List.mem_of_getElem? (i := 190) (by decide +kernel), List.mem_of_getElem? (i := 649) (by decide +kernel), List.mem_of_getElem? (i := 650) (by decide +kernel)⟩
theorem lw_p17 : lw_okq (⟨"DependencyQueue$Text", "readItem", "()I"⟩, 4) := ⟨⟨by decide +kernel, by decide +kernel⟩, List.mem_of_getElem? (i := 207) (by decide +kernel), List.mem_of_getElem? (i := 674) (by decide +kernel), List.mem_of_getElem? (i := 675) (by decide +kernel)⟩
theorem lw_p18 : lw_okq (⟨"DependencyQueue$Text", "codeHere", "()I"⟩, 4) := ⟨⟨by decide +kernel, by decide +kernel⟩, List.mem_of_getElem? (i := 207) (by decide +kernel), List.mem_of_getElem? (i := 679) (by decide +kernel), List.mem_of_getElem? (i := 680) (by decide +kernel)⟩
theorem lw_p19 : lw_okq (⟨"DependencyQueue$Text", "readNumber", "()I"⟩, 4) := ⟨⟨by decide +kernel, by decide +kernel⟩, List.mem_of_getElem? (i := 207) (by decide +kernel), List.mem_of_getElem? (i := 686) (by decide +kernel), List.mem_of_getElem? (i := 687) (by decide +kernel)⟩
theorem lw_p20 : lw_okq (⟨"DependencyQueue$Text", "readEdges", "(I)I"⟩, 4) := ⟨⟨by decide +kernel, by decide +kernel⟩, List.mem_of_getElem? (i := 207) (by decide +kernel), List.mem_of_getElem? (i := 692) (by decide +kernel), List.mem_of_getElem? (i := 693) (by decide +kernel)⟩
theorem lw_p21 : lw_okq (⟨"DependencyQueueModel", "append", "(IIIII)I"⟩, 26) := ⟨⟨by decide +kernel, by decide +kernel⟩, List.mem_of_getElem? (i := 726) (by decide +kernel), List.mem_of_getElem? (i := 818) (by decide +kernel), List.mem_of_getElem? (i := 819) (by decide +kernel)⟩
theorem lw_p22 : lw_okq (⟨"DependencyQueueModel", "set", "(III)V"⟩, 26) := ⟨⟨by decide +kernel, by decide +kernel⟩, List.mem_of_getElem? (i := 726) (by decide +kernel), List.mem_of_getElem? (i := 822) (by decide +kernel), List.mem_of_getElem? (i := 823) (by decide +kernel)⟩
theorem lw_p23 : lw_okq (⟨"DependencyQueueModel", "settle", "()V"⟩, 26) := ⟨⟨by decide +kernel, by decide +kernel⟩, List.mem_of_getElem? (i := 726) (by decide +kernel), List.mem_of_getElem? (i := 826) (by decide +kernel), List.mem_of_getElem? (i := 827) (by decide +kernel)⟩
theorem lw_p24 : lw_okq (⟨"DependencyQueueModel", "of", "(II)I"⟩, 26) := ⟨⟨by decide +kernel, by decide +kernel⟩, List.mem_of_getElem? (i := 726) (by decide +kernel), List.mem_of_getElem? (i := 830) (by decide +kernel), List.mem_of_getElem? (i := 831) (by decide +kernel)⟩
theorem lw_p25 : lw_okq (⟨"DependencyQueueModel", "due", "(I)I"⟩, 26) := ⟨⟨by decide +kernel, by decide +kernel⟩, List.mem_of_getElem? (i := 726) (by decide +kernel), List.mem_of_getElem? (i := 834) (by decide +kernel), List.mem_of_getElem? (i := 835) (by decide +kernel)⟩
theorem lw_p26 : lw_okq (⟨"DependencyQueueModel", "kindOf", "(II)I"⟩, 26) := ⟨⟨by decide +kernel, by decide +kernel⟩, List.mem_of_getElem? (i := 726) (by decide +kernel), List.mem_of_getElem? (i := 838) (by decide +kernel), List.mem_of_getElem? (i := 839) (by decide +kernel)⟩
theorem lw_p27 : lw_okq (⟨"DependencyQueueModel", "hasEnded", "(I)Z"⟩, 26) := ⟨⟨by decide +kernel, by decide +kernel⟩, List.mem_of_getElem? (i := 726) (by decide +kernel), List.mem_of_getElem? (i := 842) (by decide +kernel), List.mem_of_getElem? (i := 843) (by decide +kernel)⟩
theorem lw_p28 : lw_okq (⟨"DependencyQueueModel", "becomesReady", "(II)V"⟩, 26) := ⟨⟨by decide +kernel, by decide +kernel⟩, List.mem_of_getElem? (i := 726) (by decide +kernel), List.mem_of_getElem? (i := 846) (by decide +kernel), List.mem_of_getElem? (i := 847) (by decide +kernel)⟩
theorem lw_p29 : lw_okq (⟨"DependencyQueueModel", "isItem", "(I)Z"⟩, 26) := ⟨⟨by decide +kernel, by decide +kernel⟩, List.mem_of_getElem? (i := 726) (by decide +kernel), List.mem_of_getElem? (i := 854) (by decide +kernel), List.mem_of_getElem? (i := 855) (by decide +kernel)⟩
theorem lw_p30 : lw_okq (⟨"DependencyQueueModel", "measureTo", "(I)V"⟩, 26) := ⟨⟨by decide +kernel, by decide +kernel⟩, List.mem_of_getElem? (i := 726) (by decide +kernel), List.mem_of_getElem? (i := 858) (by decide +kernel), List.mem_of_getElem? (i := 859) (by decide +kernel)⟩
theorem lw_p31 : lw_okq (⟨"DependencyQueueModel", "keepPath", "(II)V"⟩, 26) := ⟨⟨by decide +kernel, by decide +kernel⟩, List.mem_of_getElem? (i := 726) (by decide +kernel), List.mem_of_getElem? (i := 862) (by decide +kernel), List.mem_of_getElem? (i := 863) (by decide +kernel)⟩
def lw_privs_2 : List (MethodName × Nat) := [(⟨"DependencyQueue$OrderCount", "goOnFrom", "(II)V"⟩, 3), (⟨"DependencyQueue$Text", "readItem", "()I"⟩, 4), (⟨"DependencyQueue$Text", "codeHere", "()I"⟩, 4), (⟨"DependencyQueue$Text", "readNumber", "()I"⟩, 4), (⟨"DependencyQueue$Text", "readEdges", "(I)I"⟩, 4), (⟨"DependencyQueueModel", "append", "(IIIII)I"⟩, 26), (⟨"DependencyQueueModel", "set", "(III)V"⟩, 26), (⟨"DependencyQueueModel", "settle", "()V"⟩, 26), (⟨"DependencyQueueModel", "of", "(II)I"⟩, 26), (⟨"DependencyQueueModel", "due", "(I)I"⟩, 26), (⟨"DependencyQueueModel", "kindOf", "(II)I"⟩, 26), (⟨"DependencyQueueModel", "hasEnded", "(I)Z"⟩, 26), (⟨"DependencyQueueModel", "becomesReady", "(II)V"⟩, 26), (⟨"DependencyQueueModel", "isItem", "(I)Z"⟩, 26), (⟨"DependencyQueueModel", "measureTo", "(I)V"⟩, 26), (⟨"DependencyQueueModel", "keepPath", "(II)V"⟩, 26)]
theorem lw_r2 : ∀ q ∈ lw_privs_2, lw_okq q := List.forall_mem_cons.mpr ⟨lw_p16, List.forall_mem_cons.mpr ⟨lw_p17, List.forall_mem_cons.mpr ⟨lw_p18, List.forall_mem_cons.mpr ⟨lw_p19, List.forall_mem_cons.mpr ⟨lw_p20, List.forall_mem_cons.mpr ⟨lw_p21, List.forall_mem_cons.mpr ⟨lw_p22, List.forall_mem_cons.mpr ⟨lw_p23, List.forall_mem_cons.mpr ⟨lw_p24, List.forall_mem_cons.mpr ⟨lw_p25, List.forall_mem_cons.mpr ⟨lw_p26, List.forall_mem_cons.mpr ⟨lw_p27, List.forall_mem_cons.mpr ⟨lw_p28, List.forall_mem_cons.mpr ⟨lw_p29, List.forall_mem_cons.mpr ⟨lw_p30, List.forall_mem_cons.mpr ⟨lw_p31, fun _ h => absurd h List.not_mem_nil⟩⟩⟩⟩⟩⟩⟩⟩⟩⟩⟩⟩⟩⟩⟩⟩
theorem lw_p32 : lw_okq (⟨"DependencyQueueModel", "measure", "()V"⟩, 26) := ⟨⟨by decide +kernel, by decide +kernel⟩, List.mem_of_getElem? (i := 726) (by decide +kernel), List.mem_of_getElem? (i := 898) (by decide +kernel), List.mem_of_getElem? (i := 899) (by decide +kernel)⟩
theorem lw_p33 : lw_okq (⟨"DependencyQueueModel", "ownWork", "(I)I"⟩, 26) := ⟨⟨by decide +kernel, by decide +kernel⟩, List.mem_of_getElem? (i := 726) (by decide +kernel), List.mem_of_getElem? (i := 902) (by decide +kernel), List.mem_of_getElem? (i := 903) (by decide +kernel)⟩
theorem lw_p34 : lw_okq (⟨"DependencyQueueModel", "canReceive", "(I)Z"⟩, 26) := ⟨⟨by decide +kernel, by decide +kernel⟩, List.mem_of_getElem? (i := 726) (by decide +kernel), List.mem_of_getElem? (i := 906) (by decide +kernel), List.mem_of_getElem? (i := 907) (by decide +kernel)⟩
theorem lw_p35 : lw_okq (⟨"DependencyQueueModel", "rankOf", "(I)I"⟩, 26) := ⟨⟨by decide +kernel, by decide +kernel⟩, List.mem_of_getElem? (i := 726) (by decide +kernel), List.mem_of_getElem? (i := 910) (by decide +kernel), List.mem_of_getElem? (i := 911) (by decide +kernel)⟩
theorem lw_p36 : lw_okq (⟨"DependencyQueueModel", "isValid", "(II)Z"⟩, 26) := ⟨⟨by decide +kernel, by decide +kernel⟩, List.mem_of_getElem? (i := 726) (by decide +kernel), List.mem_of_getElem? (i := 922) (by decide +kernel), List.mem_of_getElem? (i := 923) (by decide +kernel)⟩
theorem lw_p37 : lw_okq (⟨"DependencyQueueModel", "comeBack", "(II)V"⟩, 26) := ⟨⟨by decide +kernel, by decide +kernel⟩, List.mem_of_getElem? (i := 726) (by decide +kernel), List.mem_of_getElem? (i := 930) (by decide +kernel), List.mem_of_getElem? (i := 931) (by decide +kernel)⟩
theorem lw_p38 : lw_okq (⟨"DependencyQueueModel", "layAhead", "()V"⟩, 26) := ⟨⟨by decide +kernel, by decide +kernel⟩, List.mem_of_getElem? (i := 726) (by decide +kernel), List.mem_of_getElem? (i := 987) (by decide +kernel), List.mem_of_getElem? (i := 988) (by decide +kernel)⟩
theorem lw_p39 : lw_okq (⟨"DependencyQueueModel", "planned", "(II)I"⟩, 26) := ⟨⟨by decide +kernel, by decide +kernel⟩, List.mem_of_getElem? (i := 726) (by decide +kernel), List.mem_of_getElem? (i := 1003) (by decide +kernel), List.mem_of_getElem? (i := 1004) (by decide +kernel)⟩
theorem lw_p40 : lw_okq (⟨"DependencyQueueModel", "possibleAt", "(II)I"⟩, 26) := ⟨⟨by decide +kernel, by decide +kernel⟩, List.mem_of_getElem? (i := 726) (by decide +kernel), List.mem_of_getElem? (i := 1007) (by decide +kernel), List.mem_of_getElem? (i := 1008) (by decide +kernel)⟩
theorem lw_p41 : lw_okq (⟨"DependencyQueueModel", "planRank", "(III)I"⟩, 26) := ⟨⟨by decide +kernel, by decide +kernel⟩, List.mem_of_getElem? (i := 726) (by decide +kernel), List.mem_of_getElem? (i := 1011) (by decide +kernel), List.mem_of_getElem? (i := 1012) (by decide +kernel)⟩
theorem lw_p42 : lw_okq (⟨"DependencyQueueModel", "isMatched", "(I)Z"⟩, 26) := ⟨⟨by decide +kernel, by decide +kernel⟩, List.mem_of_getElem? (i := 726) (by decide +kernel), List.mem_of_getElem? (i := 1031) (by decide +kernel), List.mem_of_getElem? (i := 1032) (by decide +kernel)⟩
theorem lw_p43 : lw_okq (⟨"DependencyQueueModel", "changePartners", "(II)V"⟩, 26) := ⟨⟨by decide +kernel, by decide +kernel⟩, List.mem_of_getElem? (i := 726) (by decide +kernel), List.mem_of_getElem? (i := 1035) (by decide +kernel), List.mem_of_getElem? (i := 1036) (by decide +kernel)⟩
theorem lw_p44 : lw_okq (⟨"DependencyQueueModel", "isLast", "(III)Z"⟩, 26) := ⟨⟨by decide +kernel, by decide +kernel⟩, List.mem_of_getElem? (i := 726) (by decide +kernel), List.mem_of_getElem? (i := 1044) (by decide +kernel), List.mem_of_getElem? (i := 1045) (by decide +kernel)⟩
theorem lw_p45 : lw_okq (⟨"DependencyQueueModel", "readItem", "()V"⟩, 26) := ⟨⟨by decide +kernel, by decide +kernel⟩, List.mem_of_getElem? (i := 726) (by decide +kernel), List.mem_of_getElem? (i := 1060) (by decide +kernel), List.mem_of_getElem? (i := 1061) (by decide +kernel)⟩
theorem lw_p46 : lw_okq (⟨"DependencyQueueModel", "isDigit", "()Z"⟩, 26) := ⟨⟨by decide +kernel, by decide +kernel⟩, List.mem_of_getElem? (i := 726) (by decide +kernel), List.mem_of_getElem? (i := 1064) (by decide +kernel), List.mem_of_getElem? (i := 1065) (by decide +kernel)⟩
theorem lw_p47 : lw_okq (⟨"DependencyQueueModel", "fails", "(I)V"⟩, 26) := ⟨⟨by decide +kernel, by decide +kernel⟩, List.mem_of_getElem? (i := 726) (by decide +kernel), List.mem_of_getElem? (i := 1068) (by decide +kernel), List.mem_of_getElem? (i := 1069) (by decide +kernel)⟩
def lw_privs_3 : List (MethodName × Nat) := [(⟨"DependencyQueueModel", "measure", "()V"⟩, 26), (⟨"DependencyQueueModel", "ownWork", "(I)I"⟩, 26), (⟨"DependencyQueueModel", "canReceive", "(I)Z"⟩, 26), (⟨"DependencyQueueModel", "rankOf", "(I)I"⟩, 26), (⟨"DependencyQueueModel", "isValid", "(II)Z"⟩, 26), (⟨"DependencyQueueModel", "comeBack", "(II)V"⟩, 26), (⟨"DependencyQueueModel", "layAhead", "()V"⟩, 26), (⟨"DependencyQueueModel", "planned", "(II)I"⟩, 26), (⟨"DependencyQueueModel", "possibleAt", "(II)I"⟩, 26), (⟨"DependencyQueueModel", "planRank", "(III)I"⟩, 26), (⟨"DependencyQueueModel", "isMatched", "(I)Z"⟩, 26), (⟨"DependencyQueueModel", "changePartners", "(II)V"⟩, 26), (⟨"DependencyQueueModel", "isLast", "(III)Z"⟩, 26), (⟨"DependencyQueueModel", "readItem", "()V"⟩, 26), (⟨"DependencyQueueModel", "isDigit", "()Z"⟩, 26), (⟨"DependencyQueueModel", "fails", "(I)V"⟩, 26)]
theorem lw_r3 : ∀ q ∈ lw_privs_3, lw_okq q := List.forall_mem_cons.mpr ⟨lw_p32, List.forall_mem_cons.mpr ⟨lw_p33, List.forall_mem_cons.mpr ⟨lw_p34, List.forall_mem_cons.mpr ⟨lw_p35, List.forall_mem_cons.mpr ⟨lw_p36, List.forall_mem_cons.mpr ⟨lw_p37, List.forall_mem_cons.mpr ⟨lw_p38, List.forall_mem_cons.mpr ⟨lw_p39, List.forall_mem_cons.mpr ⟨lw_p40, List.forall_mem_cons.mpr ⟨lw_p41, List.forall_mem_cons.mpr ⟨lw_p42, List.forall_mem_cons.mpr ⟨lw_p43, List.forall_mem_cons.mpr ⟨lw_p44, List.forall_mem_cons.mpr ⟨lw_p45, List.forall_mem_cons.mpr ⟨lw_p46, List.forall_mem_cons.mpr ⟨lw_p47, fun _ h => absurd h List.not_mem_nil⟩⟩⟩⟩⟩⟩⟩⟩⟩⟩⟩⟩⟩⟩⟩⟩
theorem lw_p48 : lw_okq (⟨"DependencyQueueModel", "number", "()I"⟩, 26) := ⟨⟨by decide +kernel, by decide +kernel⟩, List.mem_of_getElem? (i := 726) (by decide +kernel), List.mem_of_getElem? (i := 1072) (by decide +kernel), List.mem_of_getElem? (i := 1073) (by decide +kernel)⟩
def lw_privs_4 : List (MethodName × Nat) := [(⟨"DependencyQueueModel", "number", "()I"⟩, 26)]
theorem lw_r4 : ∀ q ∈ lw_privs_4, lw_okq q := List.forall_mem_cons.mpr ⟨lw_p48, fun _ h => absurd h List.not_mem_nil⟩
def lw_privs : List (MethodName × Nat) := lw_privs_1 ++ (lw_privs_2 ++ (lw_privs_3 ++ (lw_privs_4)))
def lw_tbl : List Cond := k2_sels lw_privs ++ tables_1
theorem lw_privs_ok : ∀ q ∈ lw_privs, lw_okq q := by
  show ∀ q ∈ lw_privs_1 ++ (lw_privs_2 ++ (lw_privs_3 ++ (lw_privs_4))), lw_okq q
  exact List.forall_mem_append.mpr ⟨lw_r1, List.forall_mem_append.mpr ⟨lw_r2, List.forall_mem_append.mpr ⟨lw_r3, lw_r4⟩⟩⟩
-- names: classes RXk, fields TXk, types tyXk, methods yX.., bytes cX.. (as printed)
def RX0 : String := "DependencyQueue$Bits"
def TX0 : u_T := fun k => match k with
  | _ => ("", "", "", false)
def tyX0 : Nat → FieldType := fun k => match k with
  | _ => .int
theorem nmX0 : ∀ a, a < 0 → ∀ b, b < 0 → a ≠ b → (TX0 a).2.1 ≠ (TX0 b).2.1 := by decide +kernel
theorem tyX0_ok : ∀ k, k < 0 → parseFieldDescriptor (TX0 k).2.2.1 = some (tyX0 k) := by decide +kernel
abbrev cX0_has : ByteArray := prog_2_method_2_code
def yX0_has : MethodName := ⟨RX0, "has", "(II)Z"⟩
def RX1 : String := "DependencyQueue$ChainCover"
def TX1 : u_T := fun k => match k with
  | 0 => ("DependencyQueue$ChainCover", "next", "[I", true)
  | 1 => ("DependencyQueue$ChainCover", "previous", "[I", true)
  | _ => ("DependencyQueue$ChainCover", "origin", "[I", true)
def tyX1 : Nat → FieldType := fun k => match k with
  | 0 => .array .int
  | 1 => .array .int
  | _ => .array .int
theorem nmX1 : ∀ a, a < 3 → ∀ b, b < 3 → a ≠ b → (TX1 a).2.1 ≠ (TX1 b).2.1 := by decide +kernel
theorem tyX1_ok : ∀ k, k < 3 → parseFieldDescriptor (TX1 k).2.2.1 = some (tyX1 k) := by decide +kernel
abbrev cX1_init : ByteArray := prog_3_method_1_code
def yX1_init : MethodName := ⟨RX1, "<init>", "()V"⟩
abbrev cX1_countPairs : ByteArray := prog_3_method_2_code
def yX1_countPairs : MethodName := ⟨RX1, "countPairs", "(I[I)I"⟩
abbrev cX1_findNext : ByteArray := prog_3_method_3_code
def yX1_findNext : MethodName := ⟨RX1, "findNext", "(II[I)Z"⟩
abbrev cX1_lowestOf : ByteArray := prog_3_method_4_code
def yX1_lowestOf : MethodName := ⟨RX1, "lowestOf", "(I)I"⟩
abbrev cX1_pairAlong : ByteArray := prog_3_method_5_code
def yX1_pairAlong : MethodName := ⟨RX1, "pairAlong", "(I)V"⟩
def RX2 : String := "DependencyQueue$OrderCount"
def TX2 : u_T := fun k => match k with
  | 0 => ("DependencyQueue$OrderCount", "ways", "[J", true)
  | 1 => ("DependencyQueue$OrderCount", "member", "[I", true)
  | _ => ("DependencyQueue$OrderCount", "need", "[I", true)
def tyX2 : Nat → FieldType := fun k => match k with
  | 0 => .array .long
  | 1 => .array .int
  | _ => .array .int
theorem nmX2 : ∀ a, a < 3 → ∀ b, b < 3 → a ≠ b → (TX2 a).2.1 ≠ (TX2 b).2.1 := by decide +kernel
theorem tyX2_ok : ∀ k, k < 3 → parseFieldDescriptor (TX2 k).2.2.1 = some (tyX2 k) := by decide +kernel
abbrev cX2_init : ByteArray := prog_4_method_1_code
def yX2_init : MethodName := ⟨RX2, "<init>", "()V"⟩
abbrev cX2_countFor : ByteArray := prog_4_method_2_code
def yX2_countFor : MethodName := ⟨RX2, "countFor", "(I[I)J"⟩
abbrev cX2_listMembers : ByteArray := prog_4_method_3_code
def yX2_listMembers : MethodName := ⟨RX2, "listMembers", "(I)I"⟩
abbrev cX2_listNeeds : ByteArray := prog_4_method_4_code
def yX2_listNeeds : MethodName := ⟨RX2, "listNeeds", "(I[I)V"⟩
abbrev cX2_goOnFrom : ByteArray := prog_4_method_5_code
def yX2_goOnFrom : MethodName := ⟨RX2, "goOnFrom", "(II)V"⟩
def RX3 : String := "DependencyQueue$Paths"
def TX3 : u_T := fun k => match k with
  | 0 => ("DependencyQueue$Paths", "queue", "LDependencyQueue$Queue;", true)
  | 1 => ("DependencyQueue$Paths", "beforeRow", "[I", true)
  | 2 => ("DependencyQueue$Paths", "heightRow", "[I", true)
  | _ => ("DependencyQueue$Paths", "leadRow", "[I", true)
def tyX3 : Nat → FieldType := fun k => match k with
  | 0 => .object "DependencyQueue$Queue"
  | 1 => .array .int
  | 2 => .array .int
  | _ => .array .int
theorem nmX3 : ∀ a, a < 4 → ∀ b, b < 4 → a ≠ b → (TX3 a).2.1 ≠ (TX3 b).2.1 := by decide +kernel
theorem tyX3_ok : ∀ k, k < 4 → parseFieldDescriptor (TX3 k).2.2.1 = some (tyX3 k) := by decide +kernel
abbrev cX3_init : ByteArray := prog_5_method_1_code
def yX3_init : MethodName := ⟨RX3, "<init>", "(LDependencyQueue$Queue;)V"⟩
abbrev cX3_beforeSets : ByteArray := prog_5_method_2_code
def yX3_beforeSets : MethodName := ⟨RX3, "beforeSets", "()[I"⟩
abbrev cX3_hasDetour : ByteArray := prog_5_method_3_code
def yX3_hasDetour : MethodName := ⟨RX3, "hasDetour", "(II)Z"⟩
abbrev cX3_heights : ByteArray := prog_5_method_4_code
def yX3_heights : MethodName := ⟨RX3, "heights", "()[I"⟩
abbrev cX3_raisePredecessors : ByteArray := prog_5_method_5_code
def yX3_raisePredecessors : MethodName := ⟨RX3, "raisePredecessors", "(I)Z"⟩
abbrev cX3_leads : ByteArray := prog_5_method_6_code
def yX3_leads : MethodName := ⟨RX3, "leads", "()[I"⟩
abbrev cX3_raiseLead : ByteArray := prog_5_method_7_code
def yX3_raiseLead : MethodName := ⟨RX3, "raiseLead", "(I)Z"⟩
def RX4 : String := "DependencyQueue$Plan"
def TX4 : u_T := fun k => match k with
  | 0 => ("DependencyQueue$Plan", "length", "I", false)
  | 1 => ("DependencyQueue$Plan", "start", "[I", true)
  | 2 => ("DependencyQueue$Plan", "end", "[I", true)
  | 3 => ("DependencyQueue$Plan", "since", "[I", true)
  | 4 => ("DependencyQueue$Plan", "unstarted", "I", false)
  | 5 => ("DependencyQueue$Plan", "startable", "I", false)
  | 6 => ("DependencyQueue$Plan", "running", "I", false)
  | _ => ("DependencyQueue$Plan", "free", "I", false)
def tyX4 : Nat → FieldType := fun k => match k with
  | 0 => .int
  | 1 => .array .int
  | 2 => .array .int
  | 3 => .array .int
  | 4 => .int
  | 5 => .int
  | 6 => .int
  | _ => .int
theorem nmX4 : ∀ a, a < 8 → ∀ b, b < 8 → a ≠ b → (TX4 a).2.1 ≠ (TX4 b).2.1 := by decide +kernel
theorem tyX4_ok : ∀ k, k < 8 → parseFieldDescriptor (TX4 k).2.2.1 = some (tyX4 k) := by decide +kernel
abbrev cX4_init : ByteArray := prog_6_method_1_code
def yX4_init : MethodName := ⟨RX4, "<init>", "()V"⟩
abbrev cX4_make : ByteArray := prog_6_method_2_code
def yX4_make : MethodName := ⟨RX4, "make", "(LDependencyQueue$Queue;[III)V"⟩
abbrev cX4_endCompleted : ByteArray := prog_6_method_3_code
def yX4_endCompleted : MethodName := ⟨RX4, "endCompleted", "(I)V"⟩
abbrev cX4_findStartable : ByteArray := prog_6_method_4_code
def yX4_findStartable : MethodName := ⟨RX4, "findStartable", "(LDependencyQueue$Queue;)V"⟩
abbrev cX4_startItems : ByteArray := prog_6_method_5_code
def yX4_startItems : MethodName := ⟨RX4, "startItems", "(LDependencyQueue$Queue;[II)V"⟩
abbrev cX4_bestStartable : ByteArray := prog_6_method_6_code
def yX4_bestStartable : MethodName := ⟨RX4, "bestStartable", "(LDependencyQueue$Queue;[II)I"⟩
abbrev cX4_nextEnd : ByteArray := prog_6_method_7_code
def yX4_nextEnd : MethodName := ⟨RX4, "nextEnd", "(I)I"⟩
def RX5 : String := "DependencyQueue$Queue"
def TX5 : u_T := fun k => match k with
  | 0 => ("DependencyQueue$Queue", "count", "I", false)
  | 1 => ("DependencyQueue$Queue", "now", "I", false)
  | 2 => ("DependencyQueue$Queue", "policy", "I", false)
  | 3 => ("DependencyQueue$Queue", "groupLimit", "I", false)
  | 4 => ("DependencyQueue$Queue", "receipts", "I", false)
  | 5 => ("DependencyQueue$Queue", "priority", "[I", true)
  | 6 => ("DependencyQueue$Queue", "work", "[I", true)
  | 7 => ("DependencyQueue$Queue", "attempts", "[I", true)
  | 8 => ("DependencyQueue$Queue", "group", "[I", true)
  | 9 => ("DependencyQueue$Queue", "delay", "[I", true)
  | 10 => ("DependencyQueue$Queue", "state", "[I", true)
  | 11 => ("DependencyQueue$Queue", "readyTime", "[I", true)
  | 12 => ("DependencyQueue$Queue", "readySince", "[I", true)
  | 13 => ("DependencyQueue$Queue", "deadline", "[I", true)
  | 14 => ("DependencyQueue$Queue", "receives", "[I", true)
  | 15 => ("DependencyQueue$Queue", "receipt", "[I", true)
  | 16 => ("DependencyQueue$Queue", "needDone", "[I", true)
  | _ => ("DependencyQueue$Queue", "needEnd", "[I", true)
def tyX5 : Nat → FieldType := fun k => match k with
  | 0 => .int
  | 1 => .int
  | 2 => .int
  | 3 => .int
  | 4 => .int
  | 5 => .array .int
  | 6 => .array .int
  | 7 => .array .int
  | 8 => .array .int
  | 9 => .array .int
  | 10 => .array .int
  | 11 => .array .int
  | 12 => .array .int
  | 13 => .array .int
  | 14 => .array .int
  | 15 => .array .int
  | 16 => .array .int
  | _ => .array .int
theorem nmX5 : ∀ a, a < 18 → ∀ b, b < 18 → a ≠ b → (TX5 a).2.1 ≠ (TX5 b).2.1 := by decide +kernel
theorem tyX5_ok : ∀ k, k < 18 → parseFieldDescriptor (TX5 k).2.2.1 = some (tyX5 k) := by decide +kernel
abbrev cX5_init : ByteArray := prog_7_method_1_code
def yX5_init : MethodName := ⟨RX5, "<init>", "()V"⟩
abbrev cX5_holds : ByteArray := prog_7_method_2_code
def yX5_holds : MethodName := ⟨RX5, "holds", "(I)Z"⟩
abbrev cX5_isFull : ByteArray := prog_7_method_3_code
def yX5_isFull : MethodName := ⟨RX5, "isFull", "()Z"⟩
abbrev cX5_hasEnded : ByteArray := prog_7_method_4_code
def yX5_hasEnded : MethodName := ⟨RX5, "hasEnded", "(I)Z"⟩
abbrev cX5_hasFailed : ByteArray := prog_7_method_5_code
def yX5_hasFailed : MethodName := ⟨RX5, "hasFailed", "(I)Z"⟩
abbrev cX5_followsEdges : ByteArray := prog_7_method_6_code
def yX5_followsEdges : MethodName := ⟨RX5, "followsEdges", "(I)Z"⟩
abbrev cX5_isValid : ByteArray := prog_7_method_7_code
def yX5_isValid : MethodName := ⟨RX5, "isValid", "(II)Z"⟩
abbrev cX5_workLeft : ByteArray := prog_7_method_8_code
def yX5_workLeft : MethodName := ⟨RX5, "workLeft", "(I)I"⟩
abbrev cX5_setIn : ByteArray := prog_7_method_9_code
def yX5_setIn : MethodName := ⟨RX5, "setIn", "(I)I"⟩
abbrev cX5_unendedSet : ByteArray := prog_7_method_10_code
def yX5_unendedSet : MethodName := ⟨RX5, "unendedSet", "()I"⟩
abbrev cX5_append : ByteArray := prog_7_method_11_code
def yX5_append : MethodName := ⟨RX5, "append", "(IIIII)I"⟩
abbrev cX5_startAnew : ByteArray := prog_7_method_12_code
def yX5_startAnew : MethodName := ⟨RX5, "startAnew", "(I)V"⟩
abbrev cX5_makeReady : ByteArray := prog_7_method_13_code
def yX5_makeReady : MethodName := ⟨RX5, "makeReady", "(II)V"⟩
abbrev cX5_removeItems : ByteArray := prog_7_method_14_code
def yX5_removeItems : MethodName := ⟨RX5, "removeItems", "()V"⟩
abbrev cX5_predecessors : ByteArray := prog_7_method_15_code
def yX5_predecessors : MethodName := ⟨RX5, "predecessors", "(I)I"⟩
abbrev cX5_edgeCount : ByteArray := prog_7_method_16_code
def yX5_edgeCount : MethodName := ⟨RX5, "edgeCount", "()I"⟩
abbrev cX5_edgeKind : ByteArray := prog_7_method_17_code
def yX5_edgeKind : MethodName := ⟨RX5, "edgeKind", "(II)I"⟩
abbrev cX5_putEdge : ByteArray := prog_7_method_18_code
def yX5_putEdge : MethodName := ⟨RX5, "putEdge", "(III)V"⟩
abbrev cX5_dropEdge : ByteArray := prog_7_method_19_code
def yX5_dropEdge : MethodName := ⟨RX5, "dropEdge", "(II)V"⟩
abbrev cX5_settle : ByteArray := prog_7_method_20_code
def yX5_settle : MethodName := ⟨RX5, "settle", "()V"⟩
abbrev cX5_settleItem : ByteArray := prog_7_method_21_code
def yX5_settleItem : MethodName := ⟨RX5, "settleItem", "(I)Z"⟩
abbrev cX5_stateByEdges : ByteArray := prog_7_method_22_code
def yX5_stateByEdges : MethodName := ⟨RX5, "stateByEdges", "(I)I"⟩
abbrev cX5_endAs : ByteArray := prog_7_method_23_code
def yX5_endAs : MethodName := ⟨RX5, "endAs", "(III)I"⟩
abbrev cX5_comeBack : ByteArray := prog_7_method_24_code
def yX5_comeBack : MethodName := ⟨RX5, "comeBack", "(II)V"⟩
abbrev cX5_passTick : ByteArray := prog_7_method_25_code
def yX5_passTick : MethodName := ⟨RX5, "passTick", "()I"⟩
abbrev cX5_rankFor : ByteArray := prog_7_method_26_code
def yX5_rankFor : MethodName := ⟨RX5, "rankFor", "(IIII)I"⟩
abbrev cX5_rankNow : ByteArray := prog_7_method_27_code
def yX5_rankNow : MethodName := ⟨RX5, "rankNow", "(II)I"⟩
abbrev cX5_nextToReceive : ByteArray := prog_7_method_28_code
def yX5_nextToReceive : MethodName := ⟨RX5, "nextToReceive", "([I)I"⟩
abbrev cX5_canBeReceived : ByteArray := prog_7_method_29_code
def yX5_canBeReceived : MethodName := ⟨RX5, "canBeReceived", "(I)Z"⟩
abbrev cX5_inFlightOf : ByteArray := prog_7_method_30_code
def yX5_inFlightOf : MethodName := ⟨RX5, "inFlightOf", "(I)I"⟩
abbrev cX5_takeOut : ByteArray := prog_7_method_31_code
def yX5_takeOut : MethodName := ⟨RX5, "takeOut", "(II)V"⟩
abbrev cX5_doomedBy : ByteArray := prog_7_method_32_code
def yX5_doomedBy : MethodName := ⟨RX5, "doomedBy", "(I)I"⟩
abbrev cX5_copyAll : ByteArray := prog_7_method_33_code
def yX5_copyAll : MethodName := ⟨RX5, "copyAll", "(LDependencyQueue$Queue;)V"⟩
abbrev cX5_copyItems : ByteArray := prog_7_method_34_code
def yX5_copyItems : MethodName := ⟨RX5, "copyItems", "(LDependencyQueue$Queue;)V"⟩
abbrev cX5_copyRow : ByteArray := prog_7_method_35_code
def yX5_copyRow : MethodName := ⟨RX5, "copyRow", "([I[I)V"⟩
def RX6 : String := "DependencyQueue$Text"
def TX6 : u_T := fun k => match k with
  | 0 => ("DependencyQueue$Text", "length", "I", false)
  | 1 => ("DependencyQueue$Text", "draft", "LDependencyQueue$Queue;", true)
  | 2 => ("DependencyQueue$Text", "codes", "[I", true)
  | _ => ("DependencyQueue$Text", "at", "I", false)
def tyX6 : Nat → FieldType := fun k => match k with
  | 0 => .int
  | 1 => .object "DependencyQueue$Queue"
  | 2 => .array .int
  | _ => .int
theorem nmX6 : ∀ a, a < 4 → ∀ b, b < 4 → a ≠ b → (TX6 a).2.1 ≠ (TX6 b).2.1 := by decide +kernel
theorem tyX6_ok : ∀ k, k < 4 → parseFieldDescriptor (TX6 k).2.2.1 = some (tyX6 k) := by decide +kernel
abbrev cX6_init : ByteArray := prog_8_method_1_code
def yX6_init : MethodName := ⟨RX6, "<init>", "()V"⟩
abbrev cX6_append : ByteArray := prog_8_method_2_code
def yX6_append : MethodName := ⟨RX6, "append", "(I)V"⟩
abbrev cX6_read : ByteArray := prog_8_method_3_code
def yX6_read : MethodName := ⟨RX6, "read", "()I"⟩
abbrev cX6_readItem : ByteArray := prog_8_method_4_code
def yX6_readItem : MethodName := ⟨RX6, "readItem", "()I"⟩
abbrev cX6_readEdges : ByteArray := prog_8_method_5_code
def yX6_readEdges : MethodName := ⟨RX6, "readEdges", "(I)I"⟩
abbrev cX6_readNumber : ByteArray := prog_8_method_6_code
def yX6_readNumber : MethodName := ⟨RX6, "readNumber", "()I"⟩
abbrev cX6_codeHere : ByteArray := prog_8_method_7_code
def yX6_codeHere : MethodName := ⟨RX6, "codeHere", "()I"⟩
abbrev cX6_isDigit : ByteArray := prog_8_method_8_code
def yX6_isDigit : MethodName := ⟨RX6, "isDigit", "(I)Z"⟩
def RX7 : String := "DependencyQueue$Witness"
def TX7 : u_T := fun k => match k with
  | 0 => ("DependencyQueue$Witness", "length", "I", false)
  | 1 => ("DependencyQueue$Witness", "path", "[I", true)
  | _ => ("DependencyQueue$Witness", "ring", "[I", true)
def tyX7 : Nat → FieldType := fun k => match k with
  | 0 => .int
  | 1 => .array .int
  | _ => .array .int
theorem nmX7 : ∀ a, a < 3 → ∀ b, b < 3 → a ≠ b → (TX7 a).2.1 ≠ (TX7 b).2.1 := by decide +kernel
theorem tyX7_ok : ∀ k, k < 3 → parseFieldDescriptor (TX7 k).2.2.1 = some (tyX7 k) := by decide +kernel
abbrev cX7_init : ByteArray := prog_9_method_1_code
def yX7_init : MethodName := ⟨RX7, "<init>", "()V"⟩
abbrev cX7_forget : ByteArray := prog_9_method_2_code
def yX7_forget : MethodName := ⟨RX7, "forget", "()V"⟩
abbrev cX7_remember : ByteArray := prog_9_method_3_code
def yX7_remember : MethodName := ⟨RX7, "remember", "(LDependencyQueue$Queue;II)V"⟩
abbrev cX7_drawRings : ByteArray := prog_9_method_4_code
def yX7_drawRings : MethodName := ⟨RX7, "drawRings", "(LDependencyQueue$Queue;II)I"⟩
abbrev cX7_predecessorsOfAll : ByteArray := prog_9_method_5_code
def yX7_predecessorsOfAll : MethodName := ⟨RX7, "predecessorsOfAll", "(LDependencyQueue$Queue;I)I"⟩
abbrev cX7_lowestSuccessor : ByteArray := prog_9_method_6_code
def yX7_lowestSuccessor : MethodName := ⟨RX7, "lowestSuccessor", "(LDependencyQueue$Queue;II)I"⟩
def RX8 : String := "DependencyQueue"
def TX8 : u_T := fun k => match k with
  | 0 => ("DependencyQueue", "queue", "LDependencyQueue$Queue;", true)
  | 1 => ("DependencyQueue", "saved", "[LDependencyQueue$Queue;", true)
  | 2 => ("DependencyQueue", "paths", "LDependencyQueue$Paths;", true)
  | 3 => ("DependencyQueue", "cyclePath", "LDependencyQueue$Witness;", true)
  | 4 => ("DependencyQueue", "plan", "LDependencyQueue$Plan;", true)
  | 5 => ("DependencyQueue", "cover", "LDependencyQueue$ChainCover;", true)
  | 6 => ("DependencyQueue", "orderCount", "LDependencyQueue$OrderCount;", true)
  | _ => ("DependencyQueue", "text", "LDependencyQueue$Text;", true)
def tyX8 : Nat → FieldType := fun k => match k with
  | 0 => .object "DependencyQueue$Queue"
  | 1 => .array (.object "DependencyQueue$Queue")
  | 2 => .object "DependencyQueue$Paths"
  | 3 => .object "DependencyQueue$Witness"
  | 4 => .object "DependencyQueue$Plan"
  | 5 => .object "DependencyQueue$ChainCover"
  | 6 => .object "DependencyQueue$OrderCount"
  | _ => .object "DependencyQueue$Text"
theorem nmX8 : ∀ a, a < 8 → ∀ b, b < 8 → a ≠ b → (TX8 a).2.1 ≠ (TX8 b).2.1 := by decide +kernel
theorem tyX8_ok : ∀ k, k < 8 → parseFieldDescriptor (TX8 k).2.2.1 = some (tyX8 k) := by decide +kernel
abbrev cX8_init : ByteArray := prog_1_method_1_code
def yX8_init : MethodName := ⟨RX8, "<init>", "()V"⟩
abbrev cX8_add : ByteArray := prog_1_method_2_code
def yX8_add : MethodName := ⟨RX8, "add", "(IIIII)I"⟩
abbrev cX8_link : ByteArray := prog_1_method_3_code
def yX8_link : MethodName := ⟨RX8, "link", "(III)I"⟩
abbrev cX8_witness : ByteArray := prog_1_method_4_code
def yX8_witness : MethodName := ⟨RX8, "witness", "(I)I"⟩
abbrev cX8_unlink : ByteArray := prog_1_method_5_code
def yX8_unlink : MethodName := ⟨RX8, "unlink", "(II)I"⟩
abbrev cX8_setPriority : ByteArray := prog_1_method_6_code
def yX8_setPriority : MethodName := ⟨RX8, "setPriority", "(II)I"⟩
abbrev cX8_setPolicy : ByteArray := prog_1_method_7_code
def yX8_setPolicy : MethodName := ⟨RX8, "setPolicy", "(I)I"⟩
abbrev cX8_setGroupLimit : ByteArray := prog_1_method_8_code
def yX8_setGroupLimit : MethodName := ⟨RX8, "setGroupLimit", "(I)I"⟩
abbrev cX8_clear : ByteArray := prog_1_method_9_code
def yX8_clear : MethodName := ⟨RX8, "clear", "()I"⟩
abbrev cX8_receive : ByteArray := prog_1_method_10_code
def yX8_receive : MethodName := ⟨RX8, "receive", "(I)I"⟩
abbrev cX8_receipt : ByteArray := prog_1_method_11_code
def yX8_receipt : MethodName := ⟨RX8, "receipt", "(I)I"⟩
abbrev cX8_finish : ByteArray := prog_1_method_12_code
def yX8_finish : MethodName := ⟨RX8, "finish", "(II)I"⟩
abbrev cX8_giveBack : ByteArray := prog_1_method_13_code
def yX8_giveBack : MethodName := ⟨RX8, "giveBack", "(III)I"⟩
abbrev cX8_extend : ByteArray := prog_1_method_14_code
def yX8_extend : MethodName := ⟨RX8, "extend", "(III)I"⟩
abbrev cX8_cancel : ByteArray := prog_1_method_15_code
def yX8_cancel : MethodName := ⟨RX8, "cancel", "(I)I"⟩
abbrev cX8_revive : ByteArray := prog_1_method_16_code
def yX8_revive : MethodName := ⟨RX8, "revive", "(I)I"⟩
abbrev cX8_tick : ByteArray := prog_1_method_17_code
def yX8_tick : MethodName := ⟨RX8, "tick", "(I)I"⟩
abbrev cX8_items : ByteArray := prog_1_method_18_code
def yX8_items : MethodName := ⟨RX8, "items", "()I"⟩
abbrev cX8_edges : ByteArray := prog_1_method_19_code
def yX8_edges : MethodName := ⟨RX8, "edges", "()I"⟩
abbrev cX8_time : ByteArray := prog_1_method_20_code
def yX8_time : MethodName := ⟨RX8, "time", "()I"⟩
abbrev cX8_state : ByteArray := prog_1_method_21_code
def yX8_state : MethodName := ⟨RX8, "state", "(I)I"⟩
abbrev cX8_itemsIn : ByteArray := prog_1_method_22_code
def yX8_itemsIn : MethodName := ⟨RX8, "itemsIn", "(I)I"⟩
abbrev cX8_property : ByteArray := prog_1_method_23_code
def yX8_property : MethodName := ⟨RX8, "property", "(II)I"⟩
abbrev cX8_edge : ByteArray := prog_1_method_24_code
def yX8_edge : MethodName := ⟨RX8, "edge", "(II)I"⟩
abbrev cX8_rank : ByteArray := prog_1_method_25_code
def yX8_rank : MethodName := ⟨RX8, "rank", "(I)I"⟩
abbrev cX8_height : ByteArray := prog_1_method_26_code
def yX8_height : MethodName := ⟨RX8, "height", "(I)I"⟩
abbrev cX8_before : ByteArray := prog_1_method_27_code
def yX8_before : MethodName := ⟨RX8, "before", "(I)I"⟩
abbrev cX8_wouldDoom : ByteArray := prog_1_method_28_code
def yX8_wouldDoom : MethodName := ⟨RX8, "wouldDoom", "(I)I"⟩
abbrev cX8_isSuperfluous : ByteArray := prog_1_method_29_code
def yX8_isSuperfluous : MethodName := ⟨RX8, "isSuperfluous", "(II)I"⟩
abbrev cX8_planLength : ByteArray := prog_1_method_30_code
def yX8_planLength : MethodName := ⟨RX8, "planLength", "(II)I"⟩
abbrev cX8_planStart : ByteArray := prog_1_method_31_code
def yX8_planStart : MethodName := ⟨RX8, "planStart", "(III)I"⟩
abbrev cX8_bestWorkers : ByteArray := prog_1_method_32_code
def yX8_bestWorkers : MethodName := ⟨RX8, "bestWorkers", "(I)I"⟩
abbrev cX8_slack : ByteArray := prog_1_method_33_code
def yX8_slack : MethodName := ⟨RX8, "slack", "(I)I"⟩
abbrev cX8_width : ByteArray := prog_1_method_34_code
def yX8_width : MethodName := ⟨RX8, "width", "()I"⟩
abbrev cX8_orders : ByteArray := prog_1_method_35_code
def yX8_orders : MethodName := ⟨RX8, "orders", "()J"⟩
abbrev cX8_write : ByteArray := prog_1_method_36_code
def yX8_write : MethodName := ⟨RX8, "write", "(I)I"⟩
abbrev cX8_wipe : ByteArray := prog_1_method_37_code
def yX8_wipe : MethodName := ⟨RX8, "wipe", "()I"⟩
abbrev cX8_fault : ByteArray := prog_1_method_38_code
def yX8_fault : MethodName := ⟨RX8, "fault", "()I"⟩
abbrev cX8_load : ByteArray := prog_1_method_39_code
def yX8_load : MethodName := ⟨RX8, "load", "()I"⟩
abbrev cX8_save : ByteArray := prog_1_method_40_code
def yX8_save : MethodName := ⟨RX8, "save", "(I)I"⟩
abbrev cX8_restore : ByteArray := prog_1_method_41_code
def yX8_restore : MethodName := ⟨RX8, "restore", "(I)I"⟩
abbrev cX8_isWithin : ByteArray := prog_1_method_42_code
def yX8_isWithin : MethodName := ⟨RX8, "isWithin", "(III)Z"⟩
def RX9 : String := "DependencyQueueModel"
def TX9 : u_T := fun k => match k with
  | 0 => ("DependencyQueueModel", "w", "[I", true)
  | 1 => ("DependencyQueueModel", "slots", "[I", true)
  | 2 => ("DependencyQueueModel", "filled", "I", false)
  | 3 => ("DependencyQueueModel", "path", "[I", true)
  | 4 => ("DependencyQueueModel", "pathLength", "I", false)
  | 5 => ("DependencyQueueModel", "text", "[I", true)
  | 6 => ("DependencyQueueModel", "length", "I", false)
  | 7 => ("DependencyQueueModel", "becameReady", "I", false)
  | 8 => ("DependencyQueueModel", "becameDoomed", "I", false)
  | 9 => ("DependencyQueueModel", "steps", "[I", true)
  | 10 => ("DependencyQueueModel", "heights", "[I", true)
  | 11 => ("DependencyQueueModel", "depths", "[I", true)
  | 12 => ("DependencyQueueModel", "ahead", "[I", true)
  | 13 => ("DependencyQueueModel", "startAt", "[I", true)
  | 14 => ("DependencyQueueModel", "endAt", "[I", true)
  | 15 => ("DependencyQueueModel", "partner", "[I", true)
  | 16 => ("DependencyQueueModel", "from", "[I", true)
  | 17 => ("DependencyQueueModel", "waits", "[I", true)
  | 18 => ("DependencyQueueModel", "ways", "[J", true)
  | 19 => ("DependencyQueueModel", "open", "[I", true)
  | 20 => ("DependencyQueueModel", "at", "I", false)
  | 21 => ("DependencyQueueModel", "wrong", "I", false)
  | 22 => ("DependencyQueueModel", "priorities", "[I", true)
  | 23 => ("DependencyQueueModel", "works", "[I", true)
  | 24 => ("DependencyQueueModel", "found", "[I", true)
  | _ => ("DependencyQueueModel", "described", "I", false)
def tyX9 : Nat → FieldType := fun k => match k with
  | 0 => .array .int
  | 1 => .array .int
  | 2 => .int
  | 3 => .array .int
  | 4 => .int
  | 5 => .array .int
  | 6 => .int
  | 7 => .int
  | 8 => .int
  | 9 => .array .int
  | 10 => .array .int
  | 11 => .array .int
  | 12 => .array .int
  | 13 => .array .int
  | 14 => .array .int
  | 15 => .array .int
  | 16 => .array .int
  | 17 => .array .int
  | 18 => .array .long
  | 19 => .array .int
  | 20 => .int
  | 21 => .int
  | 22 => .array .int
  | 23 => .array .int
  | 24 => .array .int
  | _ => .int
theorem nmX9 : ∀ a, a < 26 → ∀ b, b < 26 → a ≠ b → (TX9 a).2.1 ≠ (TX9 b).2.1 := by decide +kernel
theorem tyX9_ok : ∀ k, k < 26 → parseFieldDescriptor (TX9 k).2.2.1 = some (tyX9 k) := by decide +kernel
abbrev cX9_init : ByteArray := prog_11_method_1_code
def yX9_init : MethodName := ⟨RX9, "<init>", "()V"⟩
abbrev cX9_isIn : ByteArray := prog_11_method_2_code
def yX9_isIn : MethodName := ⟨RX9, "isIn", "(III)Z"⟩
abbrev cX9_isItem : ByteArray := prog_11_method_3_code
def yX9_isItem : MethodName := ⟨RX9, "isItem", "(I)Z"⟩
abbrev cX9_of : ByteArray := prog_11_method_4_code
def yX9_of : MethodName := ⟨RX9, "of", "(II)I"⟩
abbrev cX9_set : ByteArray := prog_11_method_5_code
def yX9_set : MethodName := ⟨RX9, "set", "(III)V"⟩
abbrev cX9_kindOf : ByteArray := prog_11_method_6_code
def yX9_kindOf : MethodName := ⟨RX9, "kindOf", "(II)I"⟩
abbrev cX9_hasEnded : ByteArray := prog_11_method_7_code
def yX9_hasEnded : MethodName := ⟨RX9, "hasEnded", "(I)Z"⟩
abbrev cX9_append : ByteArray := prog_11_method_8_code
def yX9_append : MethodName := ⟨RX9, "append", "(IIIII)I"⟩
abbrev cX9_due : ByteArray := prog_11_method_9_code
def yX9_due : MethodName := ⟨RX9, "due", "(I)I"⟩
abbrev cX9_becomesReady : ByteArray := prog_11_method_10_code
def yX9_becomesReady : MethodName := ⟨RX9, "becomesReady", "(II)V"⟩
abbrev cX9_settle : ByteArray := prog_11_method_11_code
def yX9_settle : MethodName := ⟨RX9, "settle", "()V"⟩
abbrev cX9_add : ByteArray := prog_11_method_12_code
def yX9_add : MethodName := ⟨RX9, "add", "(IIIII)I"⟩
abbrev cX9_measureTo : ByteArray := prog_11_method_13_code
def yX9_measureTo : MethodName := ⟨RX9, "measureTo", "(I)V"⟩
abbrev cX9_keepPath : ByteArray := prog_11_method_14_code
def yX9_keepPath : MethodName := ⟨RX9, "keepPath", "(II)V"⟩
abbrev cX9_link : ByteArray := prog_11_method_15_code
def yX9_link : MethodName := ⟨RX9, "link", "(III)I"⟩
abbrev cX9_witness : ByteArray := prog_11_method_16_code
def yX9_witness : MethodName := ⟨RX9, "witness", "(I)I"⟩
abbrev cX9_unlink : ByteArray := prog_11_method_17_code
def yX9_unlink : MethodName := ⟨RX9, "unlink", "(II)I"⟩
abbrev cX9_setPriority : ByteArray := prog_11_method_18_code
def yX9_setPriority : MethodName := ⟨RX9, "setPriority", "(II)I"⟩
abbrev cX9_setPolicy : ByteArray := prog_11_method_19_code
def yX9_setPolicy : MethodName := ⟨RX9, "setPolicy", "(I)I"⟩
abbrev cX9_setGroupLimit : ByteArray := prog_11_method_20_code
def yX9_setGroupLimit : MethodName := ⟨RX9, "setGroupLimit", "(I)I"⟩
abbrev cX9_clear : ByteArray := prog_11_method_21_code
def yX9_clear : MethodName := ⟨RX9, "clear", "()I"⟩
abbrev cX9_ownWork : ByteArray := prog_11_method_22_code
def yX9_ownWork : MethodName := ⟨RX9, "ownWork", "(I)I"⟩
abbrev cX9_measure : ByteArray := prog_11_method_23_code
def yX9_measure : MethodName := ⟨RX9, "measure", "()V"⟩
abbrev cX9_rankOf : ByteArray := prog_11_method_24_code
def yX9_rankOf : MethodName := ⟨RX9, "rankOf", "(I)I"⟩
abbrev cX9_canReceive : ByteArray := prog_11_method_25_code
def yX9_canReceive : MethodName := ⟨RX9, "canReceive", "(I)Z"⟩
abbrev cX9_receive : ByteArray := prog_11_method_26_code
def yX9_receive : MethodName := ⟨RX9, "receive", "(I)I"⟩
abbrev cX9_receipt : ByteArray := prog_11_method_27_code
def yX9_receipt : MethodName := ⟨RX9, "receipt", "(I)I"⟩
abbrev cX9_isValid : ByteArray := prog_11_method_28_code
def yX9_isValid : MethodName := ⟨RX9, "isValid", "(II)Z"⟩
abbrev cX9_finish : ByteArray := prog_11_method_29_code
def yX9_finish : MethodName := ⟨RX9, "finish", "(II)I"⟩
abbrev cX9_comeBack : ByteArray := prog_11_method_30_code
def yX9_comeBack : MethodName := ⟨RX9, "comeBack", "(II)V"⟩
abbrev cX9_giveBack : ByteArray := prog_11_method_31_code
def yX9_giveBack : MethodName := ⟨RX9, "giveBack", "(III)I"⟩
abbrev cX9_extend : ByteArray := prog_11_method_32_code
def yX9_extend : MethodName := ⟨RX9, "extend", "(III)I"⟩
abbrev cX9_cancel : ByteArray := prog_11_method_33_code
def yX9_cancel : MethodName := ⟨RX9, "cancel", "(I)I"⟩
abbrev cX9_revive : ByteArray := prog_11_method_34_code
def yX9_revive : MethodName := ⟨RX9, "revive", "(I)I"⟩
abbrev cX9_tick : ByteArray := prog_11_method_35_code
def yX9_tick : MethodName := ⟨RX9, "tick", "(I)I"⟩
abbrev cX9_items : ByteArray := prog_11_method_36_code
def yX9_items : MethodName := ⟨RX9, "items", "()I"⟩
abbrev cX9_edges : ByteArray := prog_11_method_37_code
def yX9_edges : MethodName := ⟨RX9, "edges", "()I"⟩
abbrev cX9_time : ByteArray := prog_11_method_38_code
def yX9_time : MethodName := ⟨RX9, "time", "()I"⟩
abbrev cX9_state : ByteArray := prog_11_method_39_code
def yX9_state : MethodName := ⟨RX9, "state", "(I)I"⟩
abbrev cX9_itemsIn : ByteArray := prog_11_method_40_code
def yX9_itemsIn : MethodName := ⟨RX9, "itemsIn", "(I)I"⟩
abbrev cX9_property : ByteArray := prog_11_method_41_code
def yX9_property : MethodName := ⟨RX9, "property", "(II)I"⟩
abbrev cX9_edge : ByteArray := prog_11_method_42_code
def yX9_edge : MethodName := ⟨RX9, "edge", "(II)I"⟩
abbrev cX9_rank : ByteArray := prog_11_method_43_code
def yX9_rank : MethodName := ⟨RX9, "rank", "(I)I"⟩
abbrev cX9_height : ByteArray := prog_11_method_44_code
def yX9_height : MethodName := ⟨RX9, "height", "(I)I"⟩
abbrev cX9_layAhead : ByteArray := prog_11_method_45_code
def yX9_layAhead : MethodName := ⟨RX9, "layAhead", "()V"⟩
abbrev cX9_before : ByteArray := prog_11_method_46_code
def yX9_before : MethodName := ⟨RX9, "before", "(I)I"⟩
abbrev cX9_wouldDoom : ByteArray := prog_11_method_47_code
def yX9_wouldDoom : MethodName := ⟨RX9, "wouldDoom", "(I)I"⟩
abbrev cX9_isSuperfluous : ByteArray := prog_11_method_48_code
def yX9_isSuperfluous : MethodName := ⟨RX9, "isSuperfluous", "(II)I"⟩
abbrev cX9_possibleAt : ByteArray := prog_11_method_49_code
def yX9_possibleAt : MethodName := ⟨RX9, "possibleAt", "(II)I"⟩
abbrev cX9_planRank : ByteArray := prog_11_method_50_code
def yX9_planRank : MethodName := ⟨RX9, "planRank", "(III)I"⟩
abbrev cX9_planned : ByteArray := prog_11_method_51_code
def yX9_planned : MethodName := ⟨RX9, "planned", "(II)I"⟩
abbrev cX9_planLength : ByteArray := prog_11_method_52_code
def yX9_planLength : MethodName := ⟨RX9, "planLength", "(II)I"⟩
abbrev cX9_planStart : ByteArray := prog_11_method_53_code
def yX9_planStart : MethodName := ⟨RX9, "planStart", "(III)I"⟩
abbrev cX9_bestWorkers : ByteArray := prog_11_method_54_code
def yX9_bestWorkers : MethodName := ⟨RX9, "bestWorkers", "(I)I"⟩
abbrev cX9_slack : ByteArray := prog_11_method_55_code
def yX9_slack : MethodName := ⟨RX9, "slack", "(I)I"⟩
abbrev cX9_isMatched : ByteArray := prog_11_method_56_code
def yX9_isMatched : MethodName := ⟨RX9, "isMatched", "(I)Z"⟩
abbrev cX9_changePartners : ByteArray := prog_11_method_57_code
def yX9_changePartners : MethodName := ⟨RX9, "changePartners", "(II)V"⟩
abbrev cX9_width : ByteArray := prog_11_method_58_code
def yX9_width : MethodName := ⟨RX9, "width", "()I"⟩
abbrev cX9_orders : ByteArray := prog_11_method_59_code
def yX9_orders : MethodName := ⟨RX9, "orders", "()J"⟩
abbrev cX9_isLast : ByteArray := prog_11_method_60_code
def yX9_isLast : MethodName := ⟨RX9, "isLast", "(III)Z"⟩
abbrev cX9_write : ByteArray := prog_11_method_61_code
def yX9_write : MethodName := ⟨RX9, "write", "(I)I"⟩
abbrev cX9_wipe : ByteArray := prog_11_method_62_code
def yX9_wipe : MethodName := ⟨RX9, "wipe", "()I"⟩
abbrev cX9_isDigit : ByteArray := prog_11_method_63_code
def yX9_isDigit : MethodName := ⟨RX9, "isDigit", "()Z"⟩
abbrev cX9_fails : ByteArray := prog_11_method_64_code
def yX9_fails : MethodName := ⟨RX9, "fails", "(I)V"⟩
abbrev cX9_number : ByteArray := prog_11_method_65_code
def yX9_number : MethodName := ⟨RX9, "number", "()I"⟩
abbrev cX9_readItem : ByteArray := prog_11_method_66_code
def yX9_readItem : MethodName := ⟨RX9, "readItem", "()V"⟩
abbrev cX9_fault : ByteArray := prog_11_method_67_code
def yX9_fault : MethodName := ⟨RX9, "fault", "()I"⟩
abbrev cX9_load : ByteArray := prog_11_method_68_code
def yX9_load : MethodName := ⟨RX9, "load", "()I"⟩
abbrev cX9_save : ByteArray := prog_11_method_69_code
def yX9_save : MethodName := ⟨RX9, "save", "(I)I"⟩
abbrev cX9_restore : ByteArray := prog_11_method_70_code
def yX9_restore : MethodName := ⟨RX9, "restore", "(I)I"⟩
def RJ6 : String := "java/lang/Integer"
abbrev cJ6_bitCount_0f7a4 : ByteArray := prog_12_method_49_code
def yJ6_bitCount_0f7a4 : MethodName := ⟨RJ6, "bitCount", "(I)I"⟩
def RJ9 : String := "java/lang/Math"
abbrev cJ9_max_7cf53 : ByteArray := prog_13_method_65_code
def yJ9_max_7cf53 : MethodName := ⟨RJ9, "max", "(II)I"⟩
def RJ10 : String := "java/lang/System"
abbrev cL_law : ByteArray := code
end
section
/-! the machine under a picture: cells by number, refs are 'B + number' -/
abbrev AE : Type := vp_A ⊕ (Nat × List Value)
abbrev HT : Type := Nat → Option AE
abbrev GC : Type := va_G × ClassId × ClassId × ClassId
abbrev ia (n : Nat) (f : Nat → Int32) : AE := .inl (n, .inl f)
abbrev la (n : Nat) (f : Nat → Int64) : AE := .inl (n, .inr (.inl f))
abbrev qa (n : Nat) (f : Nat → Option Nat) : AE := .inl (n, .inr (.inr (.inr (.inr f))))
abbrev ob (ci : Nat) (fs : List Value) : AE := .inr (ci, fs)
def cvE (G : GC) : AE → va_E
  | .inr o => .inr o
  | .inl (n, .inl f) => .inl (G.2.1, n, .inl f)
  | .inl (n, .inr (.inl f)) => .inl (G.2.2.1, n, .inr (.inl f))
  | .inl (n, .inr (.inr r)) => .inl (G.2.2.2, n, .inr (.inr r))
def wd (G : GC) (B n : Nat) (h : HT) : va_W := (List.range n).map fun k => (B + k, cvE G ((h k).getD (.inr (0, []))))
def hu (h : HT) (k : Nat) (e : AE) : HT := fun j => if j = k then some e else h j
theorem hu_s (h : HT) (k : Nat) (e : AE) : hu h k e k = some e := if_pos rfl
theorem hu_n (h : HT) (k : Nat) (e : AE) {j : Nat} (hj : j ≠ k) : hu h k e j = h j := if_neg hj
theorem wd_get {G : GC} {B n : Nat} {h : HT} {k : Nat} {e : AE} (hk : k < n) (he : h k = some e) : (wd G B n h)[k]? = some (B + k, cvE G e) := by
  simp [wd, hk, he]
theorem wd_set {G : GC} {B n : Nat} {h : HT} {k : Nat} {e : AE} : (wd G B n h).set k (B + k, cvE G e) = wd G B n (hu h k e) := by
  apply List.ext_getElem?
  intro j
  by_cases hj : j = k
  · subst hj
    by_cases hn : j < n
    · simp [wd, hn, hu_s]
    · simp [wd, hn]
  · rw [List.getElem?_set_ne (fun q => hj q.symm)]
    by_cases hn : j < n
    · simp [wd, hn, hu_n h k e hj]
    · simp [wd, hn]
theorem wd_push {G : GC} {B n : Nat} {h : HT} {e : AE} : wd G B n h ++ [(B + n, cvE G e)] = wd G B (n + 1) (hu h n e) := by
  unfold wd
  rw [List.range_succ, List.map_append]
  congr 1
  · apply List.map_congr_left
    intro k hk
    rw [hu_n h n e (Nat.ne_of_lt (List.mem_range.mp hk))]
  · simp [hu_s]
theorem wd_D {G : GC} {B n : Nat} {h : HT} : va_D (fun q => B ≤ q) (wd G B n h) := by
  refine ⟨fun i j p q hi hj hpq => ?_, fun k q hk => ?_⟩
  · unfold wd at hi hj
    rw [List.getElem?_map] at hi hj
    cases h1 : (List.range n)[i]? with
    | none => rw [h1] at hi; cases hi
    | some a =>
      cases h2 : (List.range n)[j]? with
      | none => rw [h2] at hj; cases hj
      | some b =>
        rw [h1] at hi; rw [h2] at hj
        have e1 : p.1 = B + a := by cases hi; rfl
        have e2 : q.1 = B + b := by cases hj; rfl
        have g1 : a = i := by
          obtain ⟨_, g⟩ := List.getElem?_eq_some_iff.mp h1
          rw [← g, List.getElem_range]
        have g2 : b = j := by
          obtain ⟨_, g⟩ := List.getElem?_eq_some_iff.mp h2
          rw [← g, List.getElem_range]
        omega
  · unfold wd at hk
    rw [List.getElem?_map] at hk
    cases h1 : (List.range n)[k]? with
    | none => rw [h1] at hk; cases hk
    | some a => rw [h1] at hk; cases hk; exact Nat.le_add_right _ _
def tysG (G : GC) : List (ClassId × FieldType) := [(G.2.1, .int), (G.2.2.1, .long), (G.2.2.2, .object "DependencyQueue$Queue")]
def HOk (n : Nat) (h : HT) : Prop := ∀ k, h k = none ↔ n ≤ k
theorem HOk.lt {n : Nat} {h : HT} (H : HOk n h) {k : Nat} {e : AE} (he : h k = some e) : k < n := Nat.not_le.mp fun q => by rw [(H k).mpr q] at he; cases he
theorem HOk.set {n : Nat} {h : HT} (H : HOk n h) {k : Nat} {e0 e : AE} (he : h k = some e0) : HOk n (hu h k e) := by
  intro j
  by_cases hj : j = k
  · subst hj
    rw [hu_s]
    have := H.lt he
    exact ⟨fun q => (by cases q), fun q => (by omega)⟩
  · rw [hu_n h k e hj]
    exact H j
theorem HOk.push {n : Nat} {h : HT} (H : HOk n h) {e : AE} : HOk (n + 1) (hu h n e) := by
  intro j
  by_cases hj : j = n
  · subst hj
    rw [hu_s]
    exact ⟨fun q => (by cases q), fun q => (by omega)⟩
  · rw [hu_n h n e hj]
    have := H j
    constructor
    · intro q
      have := this.mp q
      omega
    · intro q
      exact this.mpr (by omega)
/-! methods -/
abbrev MT : Type := Nat × MethodName × ByteArray × Nat × Option FieldType × Nat × Nat × Nat × List (Option Instr)
abbrev M_own (y : MT) : Nat := y.1
abbrev M_nm (y : MT) : MethodName := y.2.1
abbrev M_by (y : MT) : ByteArray := y.2.2.1
abbrev M_ml (y : MT) : Nat := y.2.2.2.1
abbrev M_rt (y : MT) : Option FieldType := y.2.2.2.2.1
abbrev M_np (y : MT) : Nat := y.2.2.2.2.2.1
abbrev M_fr (y : MT) : Nat := y.2.2.2.2.2.2.1
abbrev M_lo (y : MT) : Nat := y.2.2.2.2.2.2.2.1
abbrev M_tb (y : MT) : List (Option Instr) := y.2.2.2.2.2.2.2.2
def lk : List (Option Instr) → Nat → Option Instr
  | [], _ => none
  | a :: _, 0 => a
  | _ :: l, n + 1 => lk l n
theorem lk_get (l : List (Option Instr)) (n : Nat) (i : Instr) (h : lk l n = some i) : n < l.length := by
  induction l generalizing n with
  | nil => cases h
  | cons a l ih =>
    cases n with
    | zero => simp
    | succ n => have := ih n h; simp; omega
/-- how long an instruction is; 0: it differs -/
def ilen : Instr → Nat
  | .tableswitch .. => 0
  | .bipush _ => 2 | .iload _ => 2 | .istore _ => 2 | .aload _ => 2 | .astore _ => 2 | .newarray _ => 2
  | .sipush _ => 3 | .iinc .. => 3 | .goto _ => 3 | .if_icmp .. => 3 | .ifCond .. => 3 | .ifnonnull _ => 3 | .getfield _ => 3 | .putfield _ => 3
  | .invokevirtual _ => 3 | .invokestatic _ => 3 | .invokespecial _ => 3 | .new _ => 3 | .anewarray _ => 3 | .ldc2_w _ => 3 | .ldc_w _ => 3
  | _ => 1
def TbOk (y : MT) : Prop := ∀ pc i, lk (M_tb y) pc = some i → ∃ len, decode (M_by y) pc = .ok (i, len) ∧ (ilen i = 0 ∨ len = ilen i)
theorem TbOk.at {y : MT} (h : TbOk y) {pc L : Nat} {i : Instr} (hd : lk (M_tb y) pc = some i) (hl : ilen i = L + 1) : decode (M_by y) pc = .ok (i, L + 1) := by
  obtain ⟨len, h1, h2⟩ := h pc i hd
  rw [hl] at h2
  rcases h2 with h2 | h2
  · cases h2
  · rw [h1, h2]
def chkT (b : ByteArray) (tb : List (Option Instr)) : Bool := (List.range tb.length).all fun pc => match lk tb pc with
  | none => true
  | some i => match decode b pc with
    | .ok (j, len) => decide (j = i) && (ilen i == 0 || len == ilen i)
    | .error _ => false
theorem TbOk_of {y : MT} (h : chkT (M_by y) (M_tb y) = true) : TbOk y := by
  intro pc i hi
  have h1 := List.all_eq_true.mp h pc (List.mem_range.mpr (lk_get _ _ _ hi))
  rw [hi] at h1
  dsimp only at h1
  split at h1
  next j len hd =>
    simp only [Bool.and_eq_true, decide_eq_true_eq, Bool.or_eq_true, beq_iff_eq] at h1
    obtain ⟨rfl, h3⟩ := h1
    exact ⟨len, hd, h3⟩
  next => cases h1
/-! what the tables say -/
def tW : List Cond := lw_tbl.filter goodWord
theorem tW_in {w : Cond} (h : w ∈ lw_tbl) (g : goodWord w = true) : w ∈ tW := List.mem_filter.mpr ⟨h, g⟩
theorem tW_good : GoodIn tW tW := fun w h => ⟨h, good_of_word (List.mem_filter.mp h).2⟩
def nstL : List (String × Nat × MethodName × String) := [("DependencyQueue", 9, yX5_init, "DependencyQueue"), ("DependencyQueue", 31, yX7_init, "DependencyQueue"), ("DependencyQueue", 38, yX4_init, "DependencyQueue"), ("DependencyQueue", 45, yX1_init, "DependencyQueue"), ("DependencyQueue", 52, yX2_init, "DependencyQueue"), ("DependencyQueue", 59, yX6_init, "DependencyQueue"), ("DependencyQueue$Text", 17, yX5_init, "DependencyQueue"), ("DependencyQueue$Text", 50, yX8_isWithin, "DependencyQueue")]
def XW (s : State) : Prop := (∀ q ∈ nstL, va_Nw (.methodLinkNest q.1 q.2.1 q.2.2.1 q.2.2.2) s) ∧ va_AO "DependencyQueue$Queue" s
theorem XW.moved {s U : State} (hW : s.WarmedH U.vm) (h : XW s) : XW U := ⟨fun q hq => va_Nw.warmM hW (h.1 q hq), va_AO.moved hW.alike h.2⟩
abbrev clG : List vw_C := [(RX0, TX0, 0), (RX1, TX1, 3), (RX2, TX2, 3), (RX3, TX3, 4), (RX4, TX4, 8), (RX5, TX5, 18), (RX6, TX6, 4), (RX7, TX7, 3), (RX8, TX8, 8), (RX9, TX9, 26)]
/-- the types of the fields, class by class -/
def tyG : Nat → Nat → FieldType := fun c => match c with
  | 0 => tyX0 | 1 => tyX1 | 2 => tyX2 | 3 => tyX3 | 4 => tyX4 | 5 => tyX5 | 6 => tyX6 | 7 => tyX7 | 8 => tyX8 | _ => tyX9
def CO (ci : Nat) (q : vw_C) : Prop := (∀ w ∈ u_ws q.1 q.2.1 q.2.2, w ∈ tW) ∧ (∀ k, k < q.2.2 → parseFieldDescriptor (q.2.1 k).2.2.1 = some (tyG ci k)) ∧ (∀ a, a < q.2.2 → ∀ b, b < q.2.2 → a ≠ b → (q.2.1 a).2.1 ≠ (q.2.1 b).2.1)
def FLc (own idx ci k : Nat) : Prop := ∃ q o : vw_C, clG[ci]? = some q ∧ clG[own]? = some o ∧ k < q.2.2 ∧ Cond.fieldLink o.1 idx (q.2.1 k).1 (q.2.1 k).2.1 (q.2.1 k).2.2.1 ∈ tW
def MOk (y : MT) : Prop := TbOk y ∧ plainName (M_nm y).cls = true ∧ Cond.code (M_nm y) (M_by y) (M_ml y) (M_rt y) ∈ tW ∧ ((M_nm y).cls ≠ "java/lang/invoke/MethodHandle" ∧ (M_nm y).cls ≠ "java/lang/invoke/VarHandle") ∧ Cond.initialized (M_nm y).cls ∈ tW ∧ (parseMethodDescriptor (M_nm y).desc).map (fun d => d.parameters.length) = some (M_np y)
end
section
/-! the judgement: from pc on, with these locals, stack and cells, the method ends, and 'post' holds of its answer and its cells -/
def PicJ (G : GC) (B n : Nat) (h : HT) (H : Heap) : Prop := va_P G.1 clG (wd G B n h) H ∧ H.size = B + n ∧ HOk n h
def QJ (G : GC) (B : Nat) (post : Option Value → Nat → HT → Prop) : Array Value → State → Outcome → State → Prop := fun _ st o t =>
  ∃ (r : Option Value) (n : Nat) (h : HT), o = .returned r ∧ post r n h ∧ PicJ G B n h t.heap ∧ st.heap.size ≤ t.heap.size ∧ ∀ q : Nat, q < B → t.heap[q]? = st.heap[q]?
def lvl (ls : Array Slot) (nL : Nat) (lv : List (Option Value)) : Prop := ls.size = nL ∧ lv_wf ls ∧ lv.length = nL ∧ ∀ (i : Nat) (v : Value), lv[i]? = some (some v) → ls[i]? = some (.val v) ∧ v.category = 1
def CxJ (X : State → Prop) (G : GC) (B : Nat) (y : MT) (p : Program) (R : Room) (s : State) (m : MethodId) (args : Array Value) (meth : Method) (c : Code) : Prop :=
  p.tables.exec = Jvm.exec ∧ c.code = M_by y ∧ meth.sig.returnType = M_rt y ∧ c.maxLocals = M_ml y ∧ s.vm.findClass (M_nm y).cls = some m.cls ∧ (∀ w ∈ tW, w.before args s = true) ∧ meth.locks = false ∧ meth.name = (M_nm y).name ∧ va_K G.1 clG (tysG G) s ∧ B ≤ s.heap.size ∧ M_fr y ≤ R.frames ∧ M_lo y ≤ R.locals ∧ TbOk y ∧ XW s ∧ X s ∧ (∀ ci q, clG[ci]? = some q → CO ci q) ∧ ∀ o, clG[M_own y]? = some o → o.1 = (M_nm y).cls
def JJ (X : State → Prop) (G : GC) (B : Nat) (y : MT) (pc : Nat) (lv : List (Option Value)) (st : List Value) (n : Nat) (h : HT) (kc ks : Nat) (post : Option Value → Nat → HT → Prop) : Prop :=
  ∀ (p : Program) (l : Launch) (e : Env) (R : Room) (s : State) (m : MethodId) (args : Array Value) (below : List Frame) (meth : Method) (c : Code) (H : Heap) (locs : List Loc) (cells slots : Nat) (ls : Array Slot) (mc ms : Nat),
    CxJ X G B y p R s m args meth c → PicJ G B n h H → va_S (fun q => B ≤ q) s.heap H locs → lvl ls (M_ml y) lv → cells + kc ≤ mc → slots + ks ≤ ms → mc ≤ R.cells → ms ≤ R.slots →
      W p l e R s m args below meth c H locs cells slots (MQ below (QJ G B post) args s mc ms (fun q => B ≤ q)) (F0 m pc ls st)
/-- no more is asked of the start -/
abbrev X0 : State → Prop := fun _ => True
def lpre (lv : List (Option Value)) : List (Nat × Value) := (List.range lv.length).filterMap fun i => match lv[i]? with
  | some (some v) => some (i, v)
  | _ => none
theorem lpre_mem {lv : List (Option Value)} {i : Nat} {v : Value} : (i, v) ∈ lpre lv ↔ lv[i]? = some (some v) := by
  unfold lpre
  rw [List.mem_filterMap]
  constructor
  · rintro ⟨a, -, ha⟩
    split at ha
    next w hw => cases ha; exact hw
    next => cases ha
  · intro h
    refine ⟨i, List.mem_range.mpr (List.getElem?_eq_some_iff.mp h).1, ?_⟩
    rw [h]
theorem lvl.has {ls : Array Slot} {nL : Nat} {lv : List (Option Value)} (h : lvl ls nL lv) : lv_has ls nL (lpre lv) := ⟨h.1, h.2.1, fun q hq => (h.2.2.2 q.1 q.2 (lpre_mem.mp hq)).1⟩
theorem lvl.store {ls ls' : Array Slot} {nL : Nat} {lv : List (Option Value)} {i : Nat} {v : Value} (h : lvl ls nL lv) (hc : v.category = 1) (hi : i < nL) (h' : lv_has ls' nL ((i, v) :: (lpre lv).filter (fun q => !(q.1 == i) && !(q.1 + 1 == i && q.2.category == 2)))) : lvl ls' nL (lv.set i (some v)) := by
  refine ⟨h'.1, h'.2.1, by rw [List.length_set]; exact h.2.2.1, fun j w hj => ?_⟩
  by_cases hji : j = i
  · subst hji
    rw [List.getElem?_set_self (by rw [h.2.2.1]; exact hi)] at hj
    cases hj
    exact ⟨h'.2.2 (j, v) List.mem_cons_self, hc⟩
  · rw [List.getElem?_set_ne (fun q => hji q.symm)] at hj
    have g := h.2.2.2 j w hj
    refine ⟨h'.2.2 (j, w) (List.mem_cons_of_mem _ (List.mem_filter.mpr ⟨lpre_mem.mpr hj, ?_⟩)), g.2⟩
    simp [hji, g.2]
theorem lvl.entry (vs : List Value) {n : Nat} (hn : vs.length ≤ n) (hc : ∀ v ∈ vs, v.category = 1) : lvl ((lg_sl vs ++ List.replicate (n - (lg_sl vs).length) Slot.unset).toArray) n (vs.map some ++ List.replicate (n - vs.length) none) := by
  have e : ∀ l : List Value, (∀ v ∈ l, v.category = 1) → lg_sl l = l.map Slot.val := by
    intro l hl
    induction l with
    | nil => rfl
    | cons a l ih =>
      have ha : ¬ a.category = 2 := by rw [hl a List.mem_cons_self]; decide
      show (if a.category = 2 then [Slot.val a, .second] else [Slot.val a]) ++ lg_sl l = _
      rw [if_neg ha, ih (fun v hv => hl v (List.mem_cons_of_mem _ hv))]
      rfl
  have hlen : (lg_sl vs).length = vs.length := by rw [e vs hc, List.length_map]
  obtain ⟨h1, h2, h3⟩ := lv_entry vs (n := n) (by rw [hlen]; exact hn)
  refine ⟨h1, h2, by simp; omega, fun i v hi => ?_⟩
  by_cases hl : i < vs.length
  · rw [List.getElem?_append_left (by rw [List.length_map]; exact hl), List.getElem?_map] at hi
    cases hv : vs[i]? with
    | none => rw [hv] at hi; cases hi
    | some w =>
      rw [hv] at hi
      cases hi
      refine ⟨?_, hc _ (List.mem_of_getElem? hv)⟩
      rw [e vs hc, List.getElem?_toArray, List.getElem?_append_left (by rw [List.length_map]; exact hl), List.getElem?_map, hv]
      rfl
  · rw [List.getElem?_append_right (by rw [List.length_map]; omega)] at hi
    rw [List.getElem?_replicate] at hi
    split at hi <;> cases hi
/-- what an instruction does that touches no cell -/
def stp (ins : Instr) (pc : Nat) (lv : List (Option Value)) (st : List Value) : Option (Nat × List (Option Value) × List Value) :=
  match ins with
  | .iconst n => some (pc + 1, lv, .int (Int32.ofInt n) :: st)
  | .bipush n => some (pc + 2, lv, .int ((Int8.ofInt n).toInt32) :: st)
  | .sipush n => some (pc + 3, lv, .int ((Int16.ofInt n).toInt32) :: st)
  | .lconst n => some (pc + 1, lv, .long (Int64.ofNat (n : Nat)) :: st)
  | .iload_n k => match lv[(k : Nat)]? with
    | some (some (.int x)) => some (pc + 1, lv, .int x :: st)
    | _ => none
  | .iload k => match lv[k]? with
    | some (some (.int x)) => some (pc + 2, lv, .int x :: st)
    | _ => none
  | .aload_n k => match lv[(k : Nat)]? with
    | some (some (.ref x)) => some (pc + 1, lv, .ref x :: st)
    | _ => none
  | .aload k => match lv[k]? with
    | some (some (.ref x)) => some (pc + 2, lv, .ref x :: st)
    | _ => none
  | .istore_n k => match st, lv[(k : Nat)]? with
    | .int x :: r, some _ => some (pc + 1, lv.set (k : Nat) (some (.int x)), r)
    | _, _ => none
  | .istore k => match st, lv[k]? with
    | .int x :: r, some _ => some (pc + 2, lv.set k (some (.int x)), r)
    | _, _ => none
  | .astore_n k => match st, lv[(k : Nat)]? with
    | .ref x :: r, some _ => some (pc + 1, lv.set (k : Nat) (some (.ref x)), r)
    | _, _ => none
  | .astore k => match st, lv[k]? with
    | .ref x :: r, some _ => some (pc + 2, lv.set k (some (.ref x)), r)
    | _, _ => none
  | .iinc k c => match lv[k]? with
    | some (some (.int x)) => some (pc + 3, lv.set k (some (.int (x + Int32.ofInt c))), st)
    | _ => none
  | .iadd => match st with
    | .int y :: .int x :: r => some (pc + 1, lv, .int (x + y) :: r)
    | _ => none
  | .isub => match st with
    | .int y :: .int x :: r => some (pc + 1, lv, .int (x - y) :: r)
    | _ => none
  | .imul => match st with
    | .int y :: .int x :: r => some (pc + 1, lv, .int (x * y) :: r)
    | _ => none
  | .iand => match st with
    | .int y :: .int x :: r => some (pc + 1, lv, .int (x &&& y) :: r)
    | _ => none
  | .ior => match st with
    | .int y :: .int x :: r => some (pc + 1, lv, .int (x ||| y) :: r)
    | _ => none
  | .ixor => match st with
    | .int y :: .int x :: r => some (pc + 1, lv, .int (x ^^^ y) :: r)
    | _ => none
  | .ishl => match st with
    | .int y :: .int x :: r => some (pc + 1, lv, .int (x <<< (y &&& 31)) :: r)
    | _ => none
  | .ishr => match st with
    | .int y :: .int x :: r => some (pc + 1, lv, .int (x >>> (y &&& 31)) :: r)
    | _ => none
  | .iushr => match st with
    | .int y :: .int x :: r => some (pc + 1, lv, .int ((x.toUInt32 >>> (y.toUInt32 &&& Int32.toUInt32 31)).toInt32) :: r)
    | _ => none
  | .ladd => match st with
    | .long y :: .long x :: r => some (pc + 1, lv, .long (x + y) :: r)
    | _ => none
  | .dup => match st with
    | .int x :: r => some (pc + 1, lv, .int x :: .int x :: r)
    | .ref x :: r => some (pc + 1, lv, .ref x :: .ref x :: r)
    | _ => none
  | .dup2 => match st with
    | .int y :: .ref x :: r => some (pc + 1, lv, .int y :: .ref x :: .int y :: .ref x :: r)
    | _ => none
  | .goto off => match (pc : Int) + off with
    | .ofNat t => some (t, lv, st)
    | _ => none
  | _ => none
theorem jj_s {X : State → Prop} {G : GC} {B : Nat} {y : MT} {pc : Nat} {lv : List (Option Value)} {st : List Value} {n : Nat} {h : HT} {kc ks : Nat} {post : Option Value → Nat → HT → Prop} {ins : Instr} {pc' : Nat} {lv' : List (Option Value)} {st' : List Value}
    (hd : lk (M_tb y) pc = some ins) (hs : stp ins pc lv st = some (pc', lv', st')) (k : JJ X G B y pc' lv' st' n h kc ks post) : JJ X G B y pc lv st n h kc ks post := by
  intro p l e R s m args below meth c H locs cells slots ls mc ms C P S L k1 k2 k3 k4
  have K := fun ls' L' => k p l e R s m args below meth c H locs cells slots ls' mc ms C P S L' k1 k2 k3 k4
  obtain ⟨hx, hb, hr, hml, hown, hts, hlk, hnm, hK, hB, hfr, hlo, hT, hXW, hX, hCO, ho⟩ := C
  cases ins <;> simp only [stp] at hs <;> first | (cases hs; done) | skip
  case aload k =>
    split at hs
    next x hv => cases hs; exact lv_aload hx hb (hT.at hd rfl) (L.2.2.2 _ _ hv).1 (K ls L)
    next => cases hs
  case aload_n k =>
    split at hs
    next x hv => cases hs; exact lv_aload_n hx hb (hT.at hd rfl) rfl (L.2.2.2 _ _ hv).1 (K ls L)
    next => cases hs
  case astore k =>
    split at hs
    next x r w hv => cases hs; have hn := (List.getElem?_eq_some_iff.mp hv).1; rw [L.2.2.1] at hn; exact lv_astore hx hb (hT.at hd rfl) L.has hn rfl (fun ls' h' => K ls' (L.store rfl hn h'))
    next => cases hs
  case astore_n k =>
    split at hs
    next x r w hv => cases hs; have hn := (List.getElem?_eq_some_iff.mp hv).1; rw [L.2.2.1] at hn; exact lv_astore_n hx hb (hT.at hd rfl) rfl L.has hn rfl (fun ls' h' => K ls' (L.store rfl hn h'))
    next => cases hs
  case bipush k => cases hs; exact lv_bipush hx hb (hT.at hd rfl) rfl (K ls L)
  case dup =>
    split at hs
    next => cases hs; exact lv_dup hx hb (hT.at hd rfl) rfl (K ls L)
    next => cases hs; exact lv_dup hx hb (hT.at hd rfl) rfl (K ls L)
    next => cases hs
  case dup2 =>
    split at hs
    next => cases hs; exact lv_dup2_11 hx hb (hT.at hd rfl) rfl rfl (K ls L)
    next => cases hs
  case goto off =>
    split at hs
    next t ht => cases hs; exact lv_goto hx hb (hT.at hd rfl) ht (K ls L)
    next => cases hs
  case iadd =>
    split at hs
    next => cases hs; exact lv_iadd hx hb (hT.at hd rfl) (K ls L)
    next => cases hs
  case iand =>
    split at hs
    next => cases hs; exact lv_iand hx hb (hT.at hd rfl) (K ls L)
    next => cases hs
  case iconst k => cases hs; exact lv_iconst hx hb (hT.at hd rfl) rfl (K ls L)
  case iinc k c =>
    split at hs
    next x hv =>
      cases hs
      have hn := (List.getElem?_eq_some_iff.mp hv).1
      rw [L.2.2.1] at hn
      obtain ⟨j, hj⟩ := List.getElem?_of_mem (lpre_mem.mpr hv)
      exact lv_iinc hx hb (hT.at hd rfl) L.has hj rfl hn rfl (fun ls' h' => K ls' (L.store rfl hn h'))
    next => cases hs
  case iload k =>
    split at hs
    next x hv => cases hs; exact lv_iload hx hb (hT.at hd rfl) (L.2.2.2 _ _ hv).1 (K ls L)
    next => cases hs
  case iload_n k =>
    split at hs
    next x hv => cases hs; exact lv_iload_n hx hb (hT.at hd rfl) rfl (L.2.2.2 _ _ hv).1 (K ls L)
    next => cases hs
  case imul =>
    split at hs
    next => cases hs; exact lv_imul hx hb (hT.at hd rfl) (K ls L)
    next => cases hs
  case ior =>
    split at hs
    next => cases hs; exact lv_ior hx hb (hT.at hd rfl) (K ls L)
    next => cases hs
  case ishl =>
    split at hs
    next => cases hs; exact lv_ishl hx hb (hT.at hd rfl) (K ls L)
    next => cases hs
  case ishr =>
    split at hs
    next => cases hs; exact lv_ishr hx hb (hT.at hd rfl) (K ls L)
    next => cases hs
  case istore k =>
    split at hs
    next x r w hv => cases hs; have hn := (List.getElem?_eq_some_iff.mp hv).1; rw [L.2.2.1] at hn; exact lv_istore hx hb (hT.at hd rfl) L.has hn rfl (fun ls' h' => K ls' (L.store rfl hn h'))
    next => cases hs
  case istore_n k =>
    split at hs
    next x r w hv => cases hs; have hn := (List.getElem?_eq_some_iff.mp hv).1; rw [L.2.2.1] at hn; exact lv_istore_n hx hb (hT.at hd rfl) rfl L.has hn rfl (fun ls' h' => K ls' (L.store rfl hn h'))
    next => cases hs
  case isub =>
    split at hs
    next => cases hs; exact lv_isub hx hb (hT.at hd rfl) (K ls L)
    next => cases hs
  case iushr =>
    split at hs
    next => cases hs; exact lv_iushr hx hb (hT.at hd rfl) rfl (K ls L)
    next => cases hs
  case ixor =>
    split at hs
    next => cases hs; exact lv_ixor hx hb (hT.at hd rfl) (K ls L)
    next => cases hs
  case ladd =>
    split at hs
    next => cases hs; exact lv_ladd hx hb (hT.at hd rfl) (K ls L)
    next => cases hs
  case lconst k => cases hs; exact lv_lconst hx hb (hT.at hd rfl) rfl (K ls L)
  case sipush k => cases hs; exact lv_sipush hx hb (hT.at hd rfl) rfl (K ls L)
end
section
theorem jj_icmp_eq {X : State → Prop} {G : GC} {B : Nat} {y : MT} {pc : Nat} {lv : List (Option Value)} {st : List Value} {n : Nat} {h : HT} {kc ks : Nat} {post : Option Value → Nat → HT → Prop} {x w : Int32} {off : Int} (tgt : Nat) (hd : lk (M_tb y) pc = some (.if_icmp .eq off)) (ht : (pc : Int) + off = (tgt : Int))
    (kt : x = w → JJ X G B y tgt lv st n h kc ks post) (kf : ¬ x = w → JJ X G B y (pc + 3) lv st n h kc ks post) : JJ X G B y pc lv (.int w :: .int x :: st) n h kc ks post := by
  intro p l e R s m args below meth c H locs cells slots ls mc ms C P S L k1 k2 k3 k4
  have C0 := C
  obtain ⟨hx, hb, hr, hml, hown, hts, hlk, hnm, hK, hB, hfr, hlo, hT, hXW, hX, hCO, ho⟩ := C
  exact lv_icmp_eq hx hb (hT.at hd rfl) ht (fun q => kt q p l e R s m args below meth c H locs cells slots ls mc ms C0 P S L k1 k2 k3 k4) (fun q => kf q p l e R s m args below meth c H locs cells slots ls mc ms C0 P S L k1 k2 k3 k4)
theorem jj_icmp_ne {X : State → Prop} {G : GC} {B : Nat} {y : MT} {pc : Nat} {lv : List (Option Value)} {st : List Value} {n : Nat} {h : HT} {kc ks : Nat} {post : Option Value → Nat → HT → Prop} {x w : Int32} {off : Int} (tgt : Nat) (hd : lk (M_tb y) pc = some (.if_icmp .ne off)) (ht : (pc : Int) + off = (tgt : Int))
    (kt : ¬ x = w → JJ X G B y tgt lv st n h kc ks post) (kf : x = w → JJ X G B y (pc + 3) lv st n h kc ks post) : JJ X G B y pc lv (.int w :: .int x :: st) n h kc ks post := by
  intro p l e R s m args below meth c H locs cells slots ls mc ms C P S L k1 k2 k3 k4
  have C0 := C
  obtain ⟨hx, hb, hr, hml, hown, hts, hlk, hnm, hK, hB, hfr, hlo, hT, hXW, hX, hCO, ho⟩ := C
  exact lv_icmp_ne hx hb (hT.at hd rfl) ht (fun q => kt q p l e R s m args below meth c H locs cells slots ls mc ms C0 P S L k1 k2 k3 k4) (fun q => kf q p l e R s m args below meth c H locs cells slots ls mc ms C0 P S L k1 k2 k3 k4)
theorem jj_icmp_lt {X : State → Prop} {G : GC} {B : Nat} {y : MT} {pc : Nat} {lv : List (Option Value)} {st : List Value} {n : Nat} {h : HT} {kc ks : Nat} {post : Option Value → Nat → HT → Prop} {x w : Int32} {off : Int} (tgt : Nat) (hd : lk (M_tb y) pc = some (.if_icmp .lt off)) (ht : (pc : Int) + off = (tgt : Int))
    (kt : x < w → JJ X G B y tgt lv st n h kc ks post) (kf : ¬ x < w → JJ X G B y (pc + 3) lv st n h kc ks post) : JJ X G B y pc lv (.int w :: .int x :: st) n h kc ks post := by
  intro p l e R s m args below meth c H locs cells slots ls mc ms C P S L k1 k2 k3 k4
  have C0 := C
  obtain ⟨hx, hb, hr, hml, hown, hts, hlk, hnm, hK, hB, hfr, hlo, hT, hXW, hX, hCO, ho⟩ := C
  exact lv_icmp_lt hx hb (hT.at hd rfl) ht (fun q => kt q p l e R s m args below meth c H locs cells slots ls mc ms C0 P S L k1 k2 k3 k4) (fun q => kf q p l e R s m args below meth c H locs cells slots ls mc ms C0 P S L k1 k2 k3 k4)
theorem jj_icmp_ge {X : State → Prop} {G : GC} {B : Nat} {y : MT} {pc : Nat} {lv : List (Option Value)} {st : List Value} {n : Nat} {h : HT} {kc ks : Nat} {post : Option Value → Nat → HT → Prop} {x w : Int32} {off : Int} (tgt : Nat) (hd : lk (M_tb y) pc = some (.if_icmp .ge off)) (ht : (pc : Int) + off = (tgt : Int))
    (kt : w ≤ x → JJ X G B y tgt lv st n h kc ks post) (kf : ¬ w ≤ x → JJ X G B y (pc + 3) lv st n h kc ks post) : JJ X G B y pc lv (.int w :: .int x :: st) n h kc ks post := by
  intro p l e R s m args below meth c H locs cells slots ls mc ms C P S L k1 k2 k3 k4
  have C0 := C
  obtain ⟨hx, hb, hr, hml, hown, hts, hlk, hnm, hK, hB, hfr, hlo, hT, hXW, hX, hCO, ho⟩ := C
  exact lv_icmp_ge hx hb (hT.at hd rfl) ht (fun q => kt q p l e R s m args below meth c H locs cells slots ls mc ms C0 P S L k1 k2 k3 k4) (fun q => kf q p l e R s m args below meth c H locs cells slots ls mc ms C0 P S L k1 k2 k3 k4)
theorem jj_icmp_gt {X : State → Prop} {G : GC} {B : Nat} {y : MT} {pc : Nat} {lv : List (Option Value)} {st : List Value} {n : Nat} {h : HT} {kc ks : Nat} {post : Option Value → Nat → HT → Prop} {x w : Int32} {off : Int} (tgt : Nat) (hd : lk (M_tb y) pc = some (.if_icmp .gt off)) (ht : (pc : Int) + off = (tgt : Int))
    (kt : w < x → JJ X G B y tgt lv st n h kc ks post) (kf : ¬ w < x → JJ X G B y (pc + 3) lv st n h kc ks post) : JJ X G B y pc lv (.int w :: .int x :: st) n h kc ks post := by
  intro p l e R s m args below meth c H locs cells slots ls mc ms C P S L k1 k2 k3 k4
  have C0 := C
  obtain ⟨hx, hb, hr, hml, hown, hts, hlk, hnm, hK, hB, hfr, hlo, hT, hXW, hX, hCO, ho⟩ := C
  exact lv_icmp_gt hx hb (hT.at hd rfl) ht (fun q => kt q p l e R s m args below meth c H locs cells slots ls mc ms C0 P S L k1 k2 k3 k4) (fun q => kf q p l e R s m args below meth c H locs cells slots ls mc ms C0 P S L k1 k2 k3 k4)
theorem jj_icmp_le {X : State → Prop} {G : GC} {B : Nat} {y : MT} {pc : Nat} {lv : List (Option Value)} {st : List Value} {n : Nat} {h : HT} {kc ks : Nat} {post : Option Value → Nat → HT → Prop} {x w : Int32} {off : Int} (tgt : Nat) (hd : lk (M_tb y) pc = some (.if_icmp .le off)) (ht : (pc : Int) + off = (tgt : Int))
    (kt : x ≤ w → JJ X G B y tgt lv st n h kc ks post) (kf : ¬ x ≤ w → JJ X G B y (pc + 3) lv st n h kc ks post) : JJ X G B y pc lv (.int w :: .int x :: st) n h kc ks post := by
  intro p l e R s m args below meth c H locs cells slots ls mc ms C P S L k1 k2 k3 k4
  have C0 := C
  obtain ⟨hx, hb, hr, hml, hown, hts, hlk, hnm, hK, hB, hfr, hlo, hT, hXW, hX, hCO, ho⟩ := C
  exact lv_icmp_le hx hb (hT.at hd rfl) ht (fun q => kt q p l e R s m args below meth c H locs cells slots ls mc ms C0 P S L k1 k2 k3 k4) (fun q => kf q p l e R s m args below meth c H locs cells slots ls mc ms C0 P S L k1 k2 k3 k4)
theorem jj_if_eq {X : State → Prop} {G : GC} {B : Nat} {y : MT} {pc : Nat} {lv : List (Option Value)} {st : List Value} {n : Nat} {h : HT} {kc ks : Nat} {post : Option Value → Nat → HT → Prop} {x : Int32} {off : Int} (tgt : Nat) (hd : lk (M_tb y) pc = some (.ifCond .eq off)) (ht : (pc : Int) + off = (tgt : Int))
    (kt : x = 0 → JJ X G B y tgt lv st n h kc ks post) (kf : ¬ x = 0 → JJ X G B y (pc + 3) lv st n h kc ks post) : JJ X G B y pc lv (.int x :: st) n h kc ks post := by
  intro p l e R s m args below meth c H locs cells slots ls mc ms C P S L k1 k2 k3 k4
  have C0 := C
  obtain ⟨hx, hb, hr, hml, hown, hts, hlk, hnm, hK, hB, hfr, hlo, hT, hXW, hX, hCO, ho⟩ := C
  exact lv_if_eq hx hb (hT.at hd rfl) ht (fun q => kt q p l e R s m args below meth c H locs cells slots ls mc ms C0 P S L k1 k2 k3 k4) (fun q => kf q p l e R s m args below meth c H locs cells slots ls mc ms C0 P S L k1 k2 k3 k4)
theorem jj_if_ne {X : State → Prop} {G : GC} {B : Nat} {y : MT} {pc : Nat} {lv : List (Option Value)} {st : List Value} {n : Nat} {h : HT} {kc ks : Nat} {post : Option Value → Nat → HT → Prop} {x : Int32} {off : Int} (tgt : Nat) (hd : lk (M_tb y) pc = some (.ifCond .ne off)) (ht : (pc : Int) + off = (tgt : Int))
    (kt : ¬ x = 0 → JJ X G B y tgt lv st n h kc ks post) (kf : x = 0 → JJ X G B y (pc + 3) lv st n h kc ks post) : JJ X G B y pc lv (.int x :: st) n h kc ks post := by
  intro p l e R s m args below meth c H locs cells slots ls mc ms C P S L k1 k2 k3 k4
  have C0 := C
  obtain ⟨hx, hb, hr, hml, hown, hts, hlk, hnm, hK, hB, hfr, hlo, hT, hXW, hX, hCO, ho⟩ := C
  exact lv_if_ne hx hb (hT.at hd rfl) ht (fun q => kt q p l e R s m args below meth c H locs cells slots ls mc ms C0 P S L k1 k2 k3 k4) (fun q => kf q p l e R s m args below meth c H locs cells slots ls mc ms C0 P S L k1 k2 k3 k4)
theorem jj_if_lt {X : State → Prop} {G : GC} {B : Nat} {y : MT} {pc : Nat} {lv : List (Option Value)} {st : List Value} {n : Nat} {h : HT} {kc ks : Nat} {post : Option Value → Nat → HT → Prop} {x : Int32} {off : Int} (tgt : Nat) (hd : lk (M_tb y) pc = some (.ifCond .lt off)) (ht : (pc : Int) + off = (tgt : Int))
    (kt : x < 0 → JJ X G B y tgt lv st n h kc ks post) (kf : ¬ x < 0 → JJ X G B y (pc + 3) lv st n h kc ks post) : JJ X G B y pc lv (.int x :: st) n h kc ks post := by
  intro p l e R s m args below meth c H locs cells slots ls mc ms C P S L k1 k2 k3 k4
  have C0 := C
  obtain ⟨hx, hb, hr, hml, hown, hts, hlk, hnm, hK, hB, hfr, hlo, hT, hXW, hX, hCO, ho⟩ := C
  exact lv_if_lt hx hb (hT.at hd rfl) ht (fun q => kt q p l e R s m args below meth c H locs cells slots ls mc ms C0 P S L k1 k2 k3 k4) (fun q => kf q p l e R s m args below meth c H locs cells slots ls mc ms C0 P S L k1 k2 k3 k4)
theorem jj_if_ge {X : State → Prop} {G : GC} {B : Nat} {y : MT} {pc : Nat} {lv : List (Option Value)} {st : List Value} {n : Nat} {h : HT} {kc ks : Nat} {post : Option Value → Nat → HT → Prop} {x : Int32} {off : Int} (tgt : Nat) (hd : lk (M_tb y) pc = some (.ifCond .ge off)) (ht : (pc : Int) + off = (tgt : Int))
    (kt : 0 ≤ x → JJ X G B y tgt lv st n h kc ks post) (kf : ¬ 0 ≤ x → JJ X G B y (pc + 3) lv st n h kc ks post) : JJ X G B y pc lv (.int x :: st) n h kc ks post := by
  intro p l e R s m args below meth c H locs cells slots ls mc ms C P S L k1 k2 k3 k4
  have C0 := C
  obtain ⟨hx, hb, hr, hml, hown, hts, hlk, hnm, hK, hB, hfr, hlo, hT, hXW, hX, hCO, ho⟩ := C
  exact lv_if_ge hx hb (hT.at hd rfl) ht (fun q => kt q p l e R s m args below meth c H locs cells slots ls mc ms C0 P S L k1 k2 k3 k4) (fun q => kf q p l e R s m args below meth c H locs cells slots ls mc ms C0 P S L k1 k2 k3 k4)
theorem jj_if_gt {X : State → Prop} {G : GC} {B : Nat} {y : MT} {pc : Nat} {lv : List (Option Value)} {st : List Value} {n : Nat} {h : HT} {kc ks : Nat} {post : Option Value → Nat → HT → Prop} {x : Int32} {off : Int} (tgt : Nat) (hd : lk (M_tb y) pc = some (.ifCond .gt off)) (ht : (pc : Int) + off = (tgt : Int))
    (kt : 0 < x → JJ X G B y tgt lv st n h kc ks post) (kf : ¬ 0 < x → JJ X G B y (pc + 3) lv st n h kc ks post) : JJ X G B y pc lv (.int x :: st) n h kc ks post := by
  intro p l e R s m args below meth c H locs cells slots ls mc ms C P S L k1 k2 k3 k4
  have C0 := C
  obtain ⟨hx, hb, hr, hml, hown, hts, hlk, hnm, hK, hB, hfr, hlo, hT, hXW, hX, hCO, ho⟩ := C
  exact lv_if_gt hx hb (hT.at hd rfl) ht (fun q => kt q p l e R s m args below meth c H locs cells slots ls mc ms C0 P S L k1 k2 k3 k4) (fun q => kf q p l e R s m args below meth c H locs cells slots ls mc ms C0 P S L k1 k2 k3 k4)
theorem jj_if_le {X : State → Prop} {G : GC} {B : Nat} {y : MT} {pc : Nat} {lv : List (Option Value)} {st : List Value} {n : Nat} {h : HT} {kc ks : Nat} {post : Option Value → Nat → HT → Prop} {x : Int32} {off : Int} (tgt : Nat) (hd : lk (M_tb y) pc = some (.ifCond .le off)) (ht : (pc : Int) + off = (tgt : Int))
    (kt : x ≤ 0 → JJ X G B y tgt lv st n h kc ks post) (kf : ¬ x ≤ 0 → JJ X G B y (pc + 3) lv st n h kc ks post) : JJ X G B y pc lv (.int x :: st) n h kc ks post := by
  intro p l e R s m args below meth c H locs cells slots ls mc ms C P S L k1 k2 k3 k4
  have C0 := C
  obtain ⟨hx, hb, hr, hml, hown, hts, hlk, hnm, hK, hB, hfr, hlo, hT, hXW, hX, hCO, ho⟩ := C
  exact lv_if_le hx hb (hT.at hd rfl) ht (fun q => kt q p l e R s m args below meth c H locs cells slots ls mc ms C0 P S L k1 k2 k3 k4) (fun q => kf q p l e R s m args below meth c H locs cells slots ls mc ms C0 P S L k1 k2 k3 k4)
theorem jj_nn {X : State → Prop} {G : GC} {B : Nat} {y : MT} {pc : Nat} {lv : List (Option Value)} {st : List Value} {n : Nat} {h : HT} {kc ks : Nat} {post : Option Value → Nat → HT → Prop} {x : Nat} {off : Int} (tgt : Nat) (hd : lk (M_tb y) pc = some (.ifnonnull off)) (ht : (pc : Int) + off = (tgt : Int)) (k : JJ X G B y tgt lv st n h kc ks post) : JJ X G B y pc lv (.ref x :: st) n h kc ks post := by
  intro p l e R s m args below meth c H locs cells slots ls mc ms C P S L k1 k2 k3 k4
  have C0 := C
  obtain ⟨hx, hb, hr, hml, hown, hts, hlk, hnm, hK, hB, hfr, hlo, hT, hXW, hX, hCO, ho⟩ := C
  exact lv_ifnonnull hx hb (hT.at hd rfl) ht (k p l e R s m args below meth c H locs cells slots ls mc ms C0 P S L k1 k2 k3 k4)
theorem jj_nnN {X : State → Prop} {G : GC} {B : Nat} {y : MT} {pc : Nat} {lv : List (Option Value)} {st : List Value} {n : Nat} {h : HT} {kc ks : Nat} {post : Option Value → Nat → HT → Prop} {off : Int} (hd : lk (M_tb y) pc = some (.ifnonnull off)) (k : JJ X G B y (pc + 3) lv st n h kc ks post) : JJ X G B y pc lv (.null :: st) n h kc ks post := by
  intro p l e R s m args below meth c H locs cells slots ls mc ms C P S L k1 k2 k3 k4
  have C0 := C
  obtain ⟨hx, hb, hr, hml, hown, hts, hlk, hnm, hK, hB, hfr, hlo, hT, hXW, hX, hCO, ho⟩ := C
  exact lv_ifnonnullN hx hb (hT.at hd rfl) (k p l e R s m args below meth c H locs cells slots ls mc ms C0 P S L k1 k2 k3 k4)
theorem jj_lcmp {X : State → Prop} {G : GC} {B : Nat} {y : MT} {pc : Nat} {lv : List (Option Value)} {st : List Value} {n : Nat} {h : HT} {kc ks : Nat} {post : Option Value → Nat → HT → Prop} {x w : Int64} (hd : lk (M_tb y) pc = some .lcmp) (k : JJ X G B y (pc + 1) lv (.int (lg_cmp x w) :: st) n h kc ks post) : JJ X G B y pc lv (.long w :: .long x :: st) n h kc ks post := by
  intro p l e R s m args below meth c H locs cells slots ls mc ms C P S L k1 k2 k3 k4
  have C0 := C
  obtain ⟨hx, hb, hr, hml, hown, hts, hlk, hnm, hK, hB, hfr, hlo, hT, hXW, hX, hCO, ho⟩ := C
  exact W.lcmp hx hb (hT.at hd rfl) (k p l e R s m args below meth c H locs cells slots ls mc ms C0 P S L k1 k2 k3 k4)
theorem jj_ldc2 {X : State → Prop} {G : GC} {B : Nat} {y : MT} {pc : Nat} {lv : List (Option Value)} {st : List Value} {n : Nat} {h : HT} {kc ks : Nat} {post : Option Value → Nat → HT → Prop} {idx : Nat} {v : Int64} (hd : lk (M_tb y) pc = some (.ldc2_w idx)) (hc : Cond.constantLong (M_nm y).cls idx v ∈ tW) (k : JJ X G B y (pc + 3) lv (.long v :: st) n h kc ks post) : JJ X G B y pc lv st n h kc ks post := by
  intro p l e R s m args below meth c H locs cells slots ls mc ms C P S L k1 k2 k3 k4
  have C0 := C
  obtain ⟨hx, hb, hr, hml, hown, hts, hlk, hnm, hK, hB, hfr, hlo, hT, hXW, hX, hCO, ho⟩ := C
  exact lv_ldc2 hx hb hown (hts _ hc) (hT.at hd rfl) (k p l e R s m args below meth c H locs cells slots ls mc ms C0 P S L k1 k2 k3 k4)
theorem jj_ldcw {X : State → Prop} {G : GC} {B : Nat} {y : MT} {pc : Nat} {lv : List (Option Value)} {st : List Value} {n : Nat} {h : HT} {kc ks : Nat} {post : Option Value → Nat → HT → Prop} {idx : Nat} {v : Int32} (hd : lk (M_tb y) pc = some (.ldc_w idx)) (hc : Cond.constant (M_nm y).cls idx v ∈ tW) (k : JJ X G B y (pc + 3) lv (.int v :: st) n h kc ks post) : JJ X G B y pc lv st n h kc ks post := by
  intro p l e R s m args below meth c H locs cells slots ls mc ms C P S L k1 k2 k3 k4
  have C0 := C
  obtain ⟨hx, hb, hr, hml, hown, hts, hlk, hnm, hK, hB, hfr, hlo, hT, hXW, hX, hCO, ho⟩ := C
  exact lv_ldcw hx hb hown (hts _ hc) (hT.at hd rfl) (k p l e R s m args below meth c H locs cells slots ls mc ms C0 P S L k1 k2 k3 k4)
theorem jj_swOut {X : State → Prop} {G : GC} {B : Nat} {y : MT} {pc : Nat} {lv : List (Option Value)} {st : List Value} {n : Nat} {h : HT} {kc ks : Nat} {post : Option Value → Nat → HT → Prop} {x : Int32} {d lo hi : Int} {os : Array Int} (tgt : Nat) (hd : lk (M_tb y) pc = some (.tableswitch d lo hi os)) (hx0 : x.toInt < lo ∨ hi < x.toInt) (ht : (pc : Int) + d = (tgt : Int)) (k : JJ X G B y tgt lv st n h kc ks post) : JJ X G B y pc lv (.int x :: st) n h kc ks post := by
  intro p l e R s m args below meth c H locs cells slots ls mc ms C P S L k1 k2 k3 k4
  have C0 := C
  obtain ⟨hx, hb, hr, hml, hown, hts, hlk, hnm, hK, hB, hfr, hlo, hT, hXW, hX, hCO, ho⟩ := C
  obtain ⟨len, hd', -⟩ := hT _ _ hd
  exact lv_tableOut hx hb hd' hx0 ht (k p l e R s m args below meth c H locs cells slots ls mc ms C0 P S L k1 k2 k3 k4)
theorem jj_swIn {X : State → Prop} {G : GC} {B : Nat} {y : MT} {pc : Nat} {lv : List (Option Value)} {st : List Value} {n : Nat} {h : HT} {kc ks : Nat} {post : Option Value → Nat → HT → Prop} {x : Int32} {d lo hi off : Int} {os : Array Int} (tgt : Nat) (hd : lk (M_tb y) pc = some (.tableswitch d lo hi os)) (h1 : ¬ x.toInt < lo) (h2 : ¬ hi < x.toInt) (h3 : os[(x.toInt - lo).toNat]? = some off) (ht : (pc : Int) + off = (tgt : Int)) (k : JJ X G B y tgt lv st n h kc ks post) : JJ X G B y pc lv (.int x :: st) n h kc ks post := by
  intro p l e R s m args below meth c H locs cells slots ls mc ms C P S L k1 k2 k3 k4
  have C0 := C
  obtain ⟨hx, hb, hr, hml, hown, hts, hlk, hnm, hK, hB, hfr, hlo, hT, hXW, hX, hCO, ho⟩ := C
  obtain ⟨len, hd', -⟩ := hT _ _ hd
  exact lv_tableIn hx hb hd' h1 h2 h3 ht (k p l e R s m args below meth c H locs cells slots ls mc ms C0 P S L k1 k2 k3 k4)
theorem jj_get {X : State → Prop} {G : GC} {B : Nat} {y : MT} {pc : Nat} {lv : List (Option Value)} {st : List Value} {n : Nat} {h : HT} {kc ks : Nat} {post : Option Value → Nat → HT → Prop} {idx ci k a : Nat} {fs : List Value} {v : Value} (hd : lk (M_tb y) pc = some (.getfield idx)) (hf : FLc (M_own y) idx ci k) (hc : h a = some (ob ci fs)) (hv : fs[k]? = some v) (K : JJ X G B y (pc + 3) lv (v :: st) n h kc ks post) : JJ X G B y pc lv (.ref (B + a) :: st) n h kc ks post := by
  intro p l e R s m args below meth c H locs cells slots ls mc ms C P S L k1 k2 k3 k4
  have C0 := C
  obtain ⟨hx, hb, hr, hml, hown, hts, hlk, hnm, hK, hB, hfr, hlo, hT, hXW, hX, hCO, ho⟩ := C
  obtain ⟨⟨qC, qT, qN⟩, o, g1, g2, g3, g4⟩ := hf
  rw [ho o g2] at g4
  exact va_get hx hb hts (hCO ci _ g1).1 hown hK P.1 a (wd_get (P.2.2.lt hc) hc) g1 k g3 (hts _ g4) (fun _ z => z) hv (hT.at hd rfl) (K p l e R s m args below meth c H locs cells slots ls mc ms C0 P S L k1 k2 k3 k4)
/-- is a field final -/
def finG (ci k : Nat) : Bool := match clG[ci]? with
  | some q => (q.2.1 k).2.2.2
  | none => true
theorem jj_put {X : State → Prop} {G : GC} {B : Nat} {y : MT} {pc : Nat} {lv : List (Option Value)} {st : List Value} {n : Nat} {h : HT} {kc ks : Nat} {post : Option Value → Nat → HT → Prop} {idx ci k a : Nat} {fs : List Value} {x : Int32} (hd : lk (M_tb y) pc = some (.putfield idx)) (hf : FLc (M_own y) idx ci k) (hty : tyG ci k = .int) (hfin : finG ci k = false) (hc : h a = some (ob ci fs)) (hl : k < fs.length) (K : JJ X G B y (pc + 3) lv st n (hu h a (ob ci (fs.set k (.int x)))) kc ks post) : JJ X G B y pc lv (.int x :: .ref (B + a) :: st) n h kc ks post := by
  intro p l e R s m args below meth c H locs cells slots ls mc ms C P S L k1 k2 k3 k4
  have C0 := C
  obtain ⟨hx, hb, hr, hml, hown, hts, hlk, hnm, hK, hB, hfr, hlo, hT, hXW, hX, hCO, ho⟩ := C
  obtain ⟨⟨qC, qT, qN⟩, o, g1, g2, g3, g4⟩ := hf
  rw [ho o g2] at g4
  obtain ⟨c1, c2, c3⟩ := hCO ci _ g1
  have hfin : (qT k).2.2.2 = false := by unfold finG at hfin; rw [g1] at hfin; exact hfin
  have hdesc : parseFieldDescriptor (qT k).2.2.1 = some .int := by rw [← hty]; exact c2 k g3
  have he := wd_get (G := G) (B := B) (P.2.2.lt hc) hc
  have hap := va_apart (own := (M_nm y).cls) hts c1 (tyG ci) c2 c3 hK g1
  obtain ⟨r, h1, cell, q1, q2, q3, q4⟩ := P.1 a _ he
  have hr' : r = (qC, qT, qN) := Option.some.inj (h1.symm.trans g1)
  subst hr'
  obtain ⟨hS, hfc, kC, hkC, hkind⟩ := hK.1 ci _ g1
  obtain ⟨cf, kf, fi, f, hi, hsl⟩ := hS k g3
  have hlay := hts _ (c1 _ (u_in_lay g3))
  unfold u_lay at hlay
  rw [if_neg (by rw [hfin]; decide)] at hlay
  have hst := (u_facts hfc hkC (u_lays hts c1 g3) hi).1
  have h6 := u_store hfc hkC hkind hlay hi hdesc (v := .int x) rfl rfl
  refine W.putK hx hb (f := f) ⟨hown, hts _ g4, ⟨_, _, _, hi⟩, hst⟩ (by rw [q2]; exact h6) q1 q3 (by rw [hsl]; exact k2_hasslot (q4 k g3)) rfl rfl (hT.at hd rfl) fun H' e1 e2 e3 => ?_
  rw [hsl] at e1 ⊢
  have hP' := P.1.set (e := .inr (ci, fs.set k (.int x))) wd_D he ⟨_, g1, t_OB.to (V := updV (vp_V fs) k (.int x)) ⟨_, e1, q2, q3, t_set q4 hap g3 (.int x)⟩ (fun j _ => vp_updV_set hl (.int x) j)⟩ e3
  exact K p l e R s m args below meth c H' _ cells slots ls mc ms C0 ⟨by rw [← wd_set]; exact hP', by rw [e2]; exact P.2.1, P.2.2.set hc⟩ (S.put e2 e3 (Nat.le_add_right _ _)) L k1 k2 k3 k4
theorem jj_putF {X : State → Prop} {G : GC} {B : Nat} {y : MT} {pc : Nat} {lv : List (Option Value)} {st : List Value} {n : Nat} {h : HT} {kc ks : Nat} {post : Option Value → Nat → HT → Prop} {idx ci k a : Nat} {fs : List Value} {v : Value} (hd : lk (M_tb y) pc = some (.putfield idx)) (hf : FLc (M_own y) idx ci k) (hi0 : (M_nm y).name = "<init>") (hfin : finG ci k = true) (hdecl : ∀ q, clG[ci]? = some q → (q.2.1 k).1 = (M_nm y).cls) (hn : narrow (tyG ci k) v = v) (hfit : fits (tyG ci k) v = true) (hc : h a = some (ob ci fs)) (hl : k < fs.length) (K : JJ X G B y (pc + 3) lv st n (hu h a (ob ci (fs.set k v))) kc ks post) : JJ X G B y pc lv (v :: .ref (B + a) :: st) n h kc ks post := by
  intro p l e R s m args below meth c H locs cells slots ls mc ms C P S L k1 k2 k3 k4
  have C0 := C
  obtain ⟨hx, hb, hr, hml, hown, hts, hlk, hnm, hK, hB, hfr, hlo, hT, hXW, hX, hCO, ho⟩ := C
  obtain ⟨⟨qC, qT, qN⟩, o, g1, g2, g3, g4⟩ := hf
  rw [ho o g2] at g4
  have hdecl := hdecl _ g1
  obtain ⟨c1, c2, c3⟩ := hCO ci _ g1
  have hfin : (qT k).2.2.2 = true := by unfold finG at hfin; rw [g1] at hfin; exact hfin
  have he := wd_get (G := G) (B := B) (P.2.2.lt hc) hc
  have hap := va_apart (own := (M_nm y).cls) hts c1 (tyG ci) c2 c3 hK g1
  obtain ⟨r, h1, cell, q1, q2, q3, q4⟩ := P.1 a _ he
  have hr' : r = (qC, qT, qN) := Option.some.inj (h1.symm.trans g1)
  subst hr'
  obtain ⟨hS, hfc, kC, hkC, hkind⟩ := hK.1 ci _ g1
  obtain ⟨cf, kf, fi, f, hi, hsl⟩ := hS k g3
  have hlay := hts _ (c1 _ (u_in_lay g3))
  unfold u_lay at hlay
  rw [if_pos hfin] at hlay
  have hst := (u_facts hfc hkC (u_lays hts c1 g3) hi).1
  have hcf : m.cls = cf := by
    obtain ⟨_, _, c', _, _, _, -, -, hf', -, -, -, hown2, -⟩ := Cond.laysFinal_spec hlay
    have e1 : c' = cf := by have := hi.symm.trans hf'; simp at this; exact this.1.symm
    rw [hdecl] at hown2
    rw [← e1]; exact Option.some.inj (hown.symm.trans hown2)
  have h6 := u_fits hfc hkC hkind (Or.inr hlay) hi (c2 k g3) hn hfit
  refine W.putFinK hx hb hown (hts _ g4) hi hst hcf (by rw [hnm]; exact hi0) (by rw [q2]; exact h6) q1 q3 (by rw [hsl]; exact k2_hasslot (q4 k g3)) rfl rfl (hT.at hd rfl) fun H' e1 e2 e3 => ?_
  rw [hsl] at e1 ⊢
  have hP' := P.1.set (e := .inr (ci, fs.set k v)) wd_D he ⟨_, g1, t_OB.to (V := updV (vp_V fs) k v) ⟨_, e1, q2, q3, t_set q4 hap g3 v⟩ (fun j _ => vp_updV_set hl v j)⟩ e3
  exact K p l e R s m args below meth c H' _ cells slots ls mc ms C0 ⟨by rw [← wd_set]; exact hP', by rw [e2]; exact P.2.1, P.2.2.set hc⟩ (S.put e2 e3 (Nat.le_add_right _ _)) L k1 k2 k3 k4
theorem jj_iald {X : State → Prop} {G : GC} {B : Nat} {y : MT} {pc : Nat} {lv : List (Option Value)} {st : List Value} {n : Nat} {h : HT} {kc ks : Nat} {post : Option Value → Nat → HT → Prop} {a N : Nat} {f : Nat → Int32} {i : Int32} (hd : lk (M_tb y) pc = some .iaload) (hc : h a = some (ia N f)) (hi : vp_in i N) (K : JJ X G B y (pc + 1) lv (.int (f i.toNatClampNeg) :: st) n h kc ks post) : JJ X G B y pc lv (.int i :: .ref (B + a) :: st) n h kc ks post := by
  intro p l e R s m args below meth c H locs cells slots ls mc ms C P S L k1 k2 k3 k4
  have C0 := C
  obtain ⟨hx, hb, hr, hml, hown, hts, hlk, hnm, hK, hB, hfr, hlo, hT, hXW, hX, hCO, ho⟩ := C
  exact va_iald hx hb hK P.1 a 0 (wd_get (P.2.2.lt hc) hc) rfl hi (hT.at hd rfl) (K p l e R s m args below meth c H locs cells slots ls mc ms C0 P S L k1 k2 k3 k4)
theorem jj_lald {X : State → Prop} {G : GC} {B : Nat} {y : MT} {pc : Nat} {lv : List (Option Value)} {st : List Value} {n : Nat} {h : HT} {kc ks : Nat} {post : Option Value → Nat → HT → Prop} {a N : Nat} {f : Nat → Int64} {i : Int32} (hd : lk (M_tb y) pc = some .laload) (hc : h a = some (la N f)) (hi : vp_in i N) (K : JJ X G B y (pc + 1) lv (.long (f i.toNatClampNeg) :: st) n h kc ks post) : JJ X G B y pc lv (.int i :: .ref (B + a) :: st) n h kc ks post := by
  intro p l e R s m args below meth c H locs cells slots ls mc ms C P S L k1 k2 k3 k4
  have C0 := C
  obtain ⟨hx, hb, hr, hml, hown, hts, hlk, hnm, hK, hB, hfr, hlo, hT, hXW, hX, hCO, ho⟩ := C
  exact va_lald hx hb hK P.1 a 1 (wd_get (P.2.2.lt hc) hc) rfl hi (hT.at hd rfl) (K p l e R s m args below meth c H locs cells slots ls mc ms C0 P S L k1 k2 k3 k4)
theorem jj_aald {X : State → Prop} {G : GC} {B : Nat} {y : MT} {pc : Nat} {lv : List (Option Value)} {st : List Value} {n : Nat} {h : HT} {kc ks : Nat} {post : Option Value → Nat → HT → Prop} {a N : Nat} {f : Nat → Option Nat} {i : Int32} (hd : lk (M_tb y) pc = some .aaload) (hc : h a = some (qa N f)) (hi : vp_in i N) (K : JJ X G B y (pc + 1) lv (va_rf (f i.toNatClampNeg) :: st) n h kc ks post) : JJ X G B y pc lv (.int i :: .ref (B + a) :: st) n h kc ks post := by
  intro p l e R s m args below meth c H locs cells slots ls mc ms C P S L k1 k2 k3 k4
  have C0 := C
  obtain ⟨hx, hb, hr, hml, hown, hts, hlk, hnm, hK, hB, hfr, hlo, hT, hXW, hX, hCO, ho⟩ := C
  exact va_aldq hx hb hK P.1 a 2 (wd_get (P.2.2.lt hc) hc) rfl hi (hT.at hd rfl) (K p l e R s m args below meth c H locs cells slots ls mc ms C0 P S L k1 k2 k3 k4)
theorem jj_iast {X : State → Prop} {G : GC} {B : Nat} {y : MT} {pc : Nat} {lv : List (Option Value)} {st : List Value} {n : Nat} {h : HT} {kc ks : Nat} {post : Option Value → Nat → HT → Prop} {a N : Nat} {f : Nat → Int32} {i : Int32} {x : Int32} (hd : lk (M_tb y) pc = some .iastore) (hc : h a = some (ia N f)) (hi : vp_in i N) (K : JJ X G B y (pc + 1) lv st n (hu h a (ia N (upd f i.toNatClampNeg x))) kc ks post) : JJ X G B y pc lv (.int x :: .int i :: .ref (B + a) :: st) n h kc ks post := by
  intro p l e R s m args below meth c H locs cells slots ls mc ms C P S L k1 k2 k3 k4
  have C0 := C
  obtain ⟨hx, hb, hr, hml, hown, hts, hlk, hnm, hK, hB, hfr, hlo, hT, hXW, hX, hCO, ho⟩ := C
  have he := wd_get (G := G) (B := B) (P.2.2.lt hc) hc
  refine W.iast hx hb (P.1 a _ he) ((hK.2 0 _ rfl).1 N (fun j => .int (f j))) (fun q => by cases q) (by show ¬ (i < 0 ∨ (arrV _ _ _).slots.size ≤ _); rw [arrV_size]; exact hi) rfl rfl (hT.at hd rfl) fun H1 e1 z oq => ?_
  have hP' := P.1.set (e := cvE G (ia N (upd f i.toNatClampNeg x))) wd_D he ?_ oq
  · exact K p l e R s m args below meth c H1 _ cells slots ls mc ms C0 ⟨by rw [← wd_set]; exact hP', by rw [z]; exact P.2.1, P.2.2.set hc⟩ (S.put z oq (Nat.le_add_right _ _)) L k1 k2 k3 k4
  · show H1[B + a]? = some (vp_cell _ _)
    rw [e1]
    show some (Cell.setSlot (vp_cell _ _) _ _) = _
    rw [vp_cell_i, vp_cell_i, arrV_store]
    congr 2
    funext q
    by_cases hq : q = i.toNatClampNeg
    · subst hq
      simp [updV, upd]
    · simp [updV, upd, hq]
theorem jj_last {X : State → Prop} {G : GC} {B : Nat} {y : MT} {pc : Nat} {lv : List (Option Value)} {st : List Value} {n : Nat} {h : HT} {kc ks : Nat} {post : Option Value → Nat → HT → Prop} {a N : Nat} {f : Nat → Int64} {i : Int32} {x : Int64} (hd : lk (M_tb y) pc = some .lastore) (hc : h a = some (la N f)) (hi : vp_in i N) (K : JJ X G B y (pc + 1) lv st n (hu h a (la N (vp_updL f i.toNatClampNeg x))) kc ks post) : JJ X G B y pc lv (.long x :: .int i :: .ref (B + a) :: st) n h kc ks post := by
  intro p l e R s m args below meth c H locs cells slots ls mc ms C P S L k1 k2 k3 k4
  have C0 := C
  obtain ⟨hx, hb, hr, hml, hown, hts, hlk, hnm, hK, hB, hfr, hlo, hT, hXW, hX, hCO, ho⟩ := C
  have he := wd_get (G := G) (B := B) (P.2.2.lt hc) hc
  refine W.last hx hb (P.1 a _ he) ((hK.2 1 _ rfl).1 N (fun j => .long (f j))) (fun q => by cases q) (by show ¬ (i < 0 ∨ (arrV _ _ _).slots.size ≤ _); rw [arrV_size]; exact hi) rfl rfl (hT.at hd rfl) fun H1 e1 z oq => ?_
  have hP' := P.1.set (e := cvE G (la N (vp_updL f i.toNatClampNeg x))) wd_D he ?_ oq
  · exact K p l e R s m args below meth c H1 _ cells slots ls mc ms C0 ⟨by rw [← wd_set]; exact hP', by rw [z]; exact P.2.1, P.2.2.set hc⟩ (S.put z oq (Nat.le_add_right _ _)) L k1 k2 k3 k4
  · show H1[B + a]? = some (vp_cell _ _)
    rw [e1]
    show some (Cell.setSlot (vp_cell _ _) _ _) = _
    rw [vp_cell_l, vp_cell_l, arrV_store]
    congr 2
    funext q
    by_cases hq : q = i.toNatClampNeg
    · subst hq
      simp [updV, vp_updL]
    · simp [updV, vp_updL, hq]
theorem jj_iret {X : State → Prop} {G : GC} {B : Nat} {y : MT} {pc : Nat} {lv : List (Option Value)} {st : List Value} {n : Nat} {h : HT} {kc ks : Nat} {post : Option Value → Nat → HT → Prop} {v : Int32} (hd : lk (M_tb y) pc = some .ireturn) (hrt : M_rt y = some .int) (hp : post (some (.int v)) n h) : JJ X G B y pc lv [.int v] n h kc ks post := by
  intro p l e R s m args below meth c H locs cells slots ls mc ms C P S L k1 k2 k3 k4
  have C0 := C
  obtain ⟨hx, hb, hr, hml, hown, hts, hlk, hnm, hK, hB, hfr, hlo, hT, hXW, hX, hCO, ho⟩ := C
  refine W.widen (k := mc) (n := ms) (by omega) (by omega) ?_
  exact W.iret hx hb (hr.trans hrt) (fun t ht hW => ⟨_, n, h, rfl, hp, by rw [ht]; exact P, by rw [ht]; exact S.1, fun q hq => by rw [ht]; exact S.2.1 q (by omega) (by omega)⟩) S.2.2 (hT.at hd rfl) hlk
theorem jj_zret {X : State → Prop} {G : GC} {B : Nat} {y : MT} {pc : Nat} {lv : List (Option Value)} {st : List Value} {n : Nat} {h : HT} {kc ks : Nat} {post : Option Value → Nat → HT → Prop} {v : Int32} (hd : lk (M_tb y) pc = some .ireturn) (hrt : M_rt y = some .boolean) (hv : v = 0 ∨ v = 1) (hp : post (some (.int v)) n h) : JJ X G B y pc lv [.int v] n h kc ks post := by
  intro p l e R s m args below meth c H locs cells slots ls mc ms C P S L k1 k2 k3 k4
  have C0 := C
  obtain ⟨hx, hb, hr, hml, hown, hts, hlk, hnm, hK, hB, hfr, hlo, hT, hXW, hX, hCO, ho⟩ := C
  refine W.widen (k := mc) (n := ms) (by omega) (by omega) ?_
  exact W.zret hx hb (hr.trans hrt) (by rcases hv with rfl | rfl <;> rfl) (fun t ht hW => ⟨_, n, h, rfl, hp, by rw [ht]; exact P, by rw [ht]; exact S.1, fun q hq => by rw [ht]; exact S.2.1 q (by omega) (by omega)⟩) S.2.2 (hT.at hd rfl) hlk
theorem jj_lret {X : State → Prop} {G : GC} {B : Nat} {y : MT} {pc : Nat} {lv : List (Option Value)} {st : List Value} {n : Nat} {h : HT} {kc ks : Nat} {post : Option Value → Nat → HT → Prop} {v : Int64} (hd : lk (M_tb y) pc = some .lreturn) (hrt : M_rt y = some .long) (hp : post (some (.long v)) n h) : JJ X G B y pc lv [.long v] n h kc ks post := by
  intro p l e R s m args below meth c H locs cells slots ls mc ms C P S L k1 k2 k3 k4
  have C0 := C
  obtain ⟨hx, hb, hr, hml, hown, hts, hlk, hnm, hK, hB, hfr, hlo, hT, hXW, hX, hCO, ho⟩ := C
  refine W.widen (k := mc) (n := ms) (by omega) (by omega) ?_
  exact W.lret hx hb (hr.trans hrt) (fun t ht hW => ⟨_, n, h, rfl, hp, by rw [ht]; exact P, by rw [ht]; exact S.1, fun q hq => by rw [ht]; exact S.2.1 q (by omega) (by omega)⟩) S.2.2 (hT.at hd rfl) hlk
theorem jj_vret {X : State → Prop} {G : GC} {B : Nat} {y : MT} {pc : Nat} {lv : List (Option Value)} {st : List Value} {n : Nat} {h : HT} {kc ks : Nat} {post : Option Value → Nat → HT → Prop}  (hd : lk (M_tb y) pc = some .return_) (hrt : M_rt y = none) (hp : post none n h) : JJ X G B y pc lv [] n h kc ks post := by
  intro p l e R s m args below meth c H locs cells slots ls mc ms C P S L k1 k2 k3 k4
  have C0 := C
  obtain ⟨hx, hb, hr, hml, hown, hts, hlk, hnm, hK, hB, hfr, hlo, hT, hXW, hX, hCO, ho⟩ := C
  refine W.widen (k := mc) (n := ms) (by omega) (by omega) ?_
  exact W.vret hx hb (hr.trans hrt) (fun t ht hW => ⟨_, n, h, rfl, hp, by rw [ht]; exact P, by rw [ht]; exact S.1, fun q hq => by rw [ht]; exact S.2.1 q (by omega) (by omega)⟩) S.2.2 (hT.at hd rfl) hlk
theorem jj_aret {X : State → Prop} {G : GC} {B : Nat} {y : MT} {pc : Nat} {lv : List (Option Value)} {st : List Value} {n : Nat} {h : HT} {kc ks : Nat} {post : Option Value → Nat → HT → Prop} {v : Nat} {t : FieldType} (hd : lk (M_tb y) pc = some .areturn) (hrt : M_rt y = some (.array t)) (hp : post (some (.ref v)) n h) : JJ X G B y pc lv [.ref v] n h kc ks post := by
  intro p l e R s m args below meth c H locs cells slots ls mc ms C P S L k1 k2 k3 k4
  have C0 := C
  obtain ⟨hx, hb, hr, hml, hown, hts, hlk, hnm, hK, hB, hfr, hlo, hT, hXW, hX, hCO, ho⟩ := C
  refine W.widen (k := mc) (n := ms) (by omega) (by omega) ?_
  exact W.aret hx hb (hr.trans hrt) (Or.inr ⟨_, rfl⟩) (Or.inr ⟨_, rfl⟩) (fun t ht hW => ⟨_, n, h, rfl, hp, by rw [ht]; exact P, by rw [ht]; exact S.1, fun q hq => by rw [ht]; exact S.2.1 q (by omega) (by omega)⟩) S.2.2 (hT.at hd rfl) hlk
end
section
def eqP (r : Option Value) (n : Nat) (h : HT) : Option Value → Nat → HT → Prop := fun r1 n1 h1 => r1 = r ∧ n1 = n ∧ h1 = h
/-- a method's contract: from its entry -/
def CtJ (G : GC) (B : Nat) (y : MT) (av : List Value) (n : Nat) (h : HT) (mc ms : Nat) (post : Option Value → Nat → HT → Prop) : Prop := JJ X0 G B y 0 (av.map some ++ List.replicate (M_ml y - av.length) none) [] n h mc ms post
def PcJ (G : GC) (B n : Nat) (h : HT) (av : List Value) : Array Value → State → Prop := fun v U => v = av.toArray ∧ PicJ G B n h U.heap ∧ va_K G.1 clG (tysG G) U ∧ XW U
abbrev rmJ (y : MT) (mc ms : Nat) : Room := { frames := M_fr y, cells := mc, slots := ms, locals := M_lo y }
abbrev wsJ (y : MT) : List Cond := Cond.code (M_nm y) (M_by y) (M_ml y) (M_rt y) :: tW
theorem MetJ (l : Launch) {G : GC} {B : Nat} {y : MT} {av : List Value} {n : Nat} {h : HT} {mc ms : Nat} {post : Option Value → Nat → HT → Prop} (hok : MOk y) (hCO : ∀ ci q, clG[ci]? = some q → CO ci q) (ho : ∀ o, clG[M_own y]? = some o → o.1 = (M_nm y).cls) (hlen : av.length ≤ M_ml y) (hcat : ∀ v ∈ av, v.category = 1) (hc : CtJ G B y av n h mc ms post) :
    Met l (M_nm y) (wsJ y) (rmJ y mc ms) (PcJ G B n h av) (QJ G B post) mc ms (fun q => B ≤ q) := by
  refine Met.ofW (cc := M_by y) (maxL := M_ml y) (ret := M_rt y) hok.2.1 rfl ?_
  intro p e s m args below meth c s₁ Bd hml hv
  obtain ⟨rfl, hP, hK, hXW⟩ := hv
  have hts := atoms_spec (ws := wsJ y) Bd.pre
  rw [lg_entry_eq]
  exact hc p l e _ s m _ below meth c s.heap [] 0 0 _ mc ms ⟨Bd.exec, Bd.bytes, Bd.returns, hml, findClass_of_methodNamed Bd.named, fun w hw => hts w (List.mem_cons_of_mem _ hw), Bd.notSynchronized, (name_of_methodNamed Bd.named Bd.method).1, hK, by rw [hP.2.1]; omega, Nat.le_refl _, Nat.le_refl _, hok.1, hXW, trivial, hCO, ho⟩ hP va_S.rf (lvl.entry av hlen hcat) (by omega) (by omega) (Nat.le_refl _) (Nat.le_refl _)
theorem PcJ.blind {G : GC} {B n : Nat} {h : HT} {av : List Value} : FrameBlind (PcJ G B n h av) := by
  intro a U g mk q
  obtain ⟨q0, qP, qK, qX⟩ := q
  exact ⟨q0, qP, va_K.moved (u := U) (U := U.calling g mk a) (Vm.Alike.refl U.vm) qK, ⟨fun z hz => va_Nw.same rfl rfl (qX.1 z hz), va_AO.moved (u := U) (U := U.calling g mk a) (Vm.Alike.refl U.vm) qX.2⟩⟩
theorem gdW {ws : List Cond} (hw : ∀ w ∈ ws, w ∈ tW) : GoodIn tW ws := fun w h => tW_good w (hw w h)
theorem wsJ_in {y : MT} (hok : MOk y) : ∀ w ∈ wsJ y, w ∈ tW := fun w h => (List.mem_cons.mp h).elim (fun e => e ▸ hok.2.2.1) id
/-- behind a call -/
theorem jj_after {X : State → Prop} {G : GC} {B : Nat} {y : MT} {pc : Nat} {lv : List (Option Value)} {st rest : List Value} {n : Nat} {h : HT} {kc ks : Nat} {post : Option Value → Nat → HT → Prop} {mc' ms' n' : Nat} {h' : HT} {r : Option Value} {aa : Array Value} {p : Program} {l : Launch} {e : Env} {R : Room} {s : State} {m : MethodId} {args : Array Value} {below : List Frame} {meth : Method} {c : Code} {H : Heap} {locs : List Loc} {cells slots : Nat} {ls : Array Slot} {mc ms : Nat}
    (C0 : CxJ X G B y p R s m args meth c) (P : PicJ G B n h H) (S : va_S (fun q => B ≤ q) s.heap H locs) (L : lvl ls (M_ml y) lv) (k1 : cells + kc ≤ mc) (k2 : slots + ks ≤ ms) (k3 : mc ≤ R.cells) (k4 : ms ≤ R.slots) (hb1 : mc' ≤ kc) (hb2 : ms' ≤ ks)
    (run : va_Run p l e R s m args below meth c H locs cells slots mc' ms' (F0 m pc ls st) rest (QJ G B (eqP r n' h') aa) (fun q => B ≤ q))
    (K : JJ X G B y (pc + 3) lv (r.toList ++ rest) n' h' (kc - mc') (ks - ms') post) : W p l e R s m args below meth c H locs cells slots (MQ below (QJ G B post) args s mc ms (fun q => B ≤ q)) (F0 m pc ls st) := by
  intro T hT0 X1
  obtain ⟨v, st₀, t, T', L1, h0, X', hL, e1, e2, ⟨r1, n1, h1, hv, hp, hPic, hsz, hfrm⟩, stp1⟩ := run T hT0 X1
  cases hv
  obtain ⟨rfl, rfl, rfl⟩ := hp
  rw [h0] at hsz hfrm
  obtain ⟨t2, a1, b1⟩ := K p l e R s m args below meth c T'.heap (locs ++ L1) (cells + mc') (slots + ms') ls mc ms C0 (by rw [e1]; exact hPic) ⟨by rw [e1]; exact Nat.le_trans S.1 hsz, fun q g1 g2 => by rw [e1, hfrm q (by omega)]; exact S.2.1 q g1 g2, fun q hq => by
      rcases List.mem_append.mp hq with h | h
      · exact S.2.2 q h
      · exact hL q h⟩ L (by omega) (by omega) k3 k4 T' rfl X'
  exact ⟨t2, stp1 t2 a1, b1⟩
def roomOk (y y' : MT) : Bool := decide (M_fr y' + 1 ≤ M_fr y) && decide (8 + (M_ml y' + 11) + M_lo y' ≤ M_lo y)
theorem roomOk.use {y y' : MT} {R : Room} (h : roomOk y y' = true) (h1 : M_fr y ≤ R.frames) (h2 : M_lo y ≤ R.locals) : M_fr y' + 1 ≤ R.frames ∧ 8 + (M_ml y' + 11) + M_lo y' ≤ R.locals := by
  unfold roomOk at h
  rw [Bool.and_eq_true] at h
  exact ⟨Nat.le_trans (of_decide_eq_true h.1) h1, Nat.le_trans (of_decide_eq_true h.2) h2⟩
/-- a method of a class whose place in clG is its own -/
def OwnOk (y : MT) : Prop := ∀ o, clG[M_own y]? = some o → o.1 = (M_nm y).cls
def LkV (y : MT) (idx : Nat) (y' : MT) : Prop := Cond.methodLink (M_nm y).cls idx (M_nm y') ∈ tW ∧ Cond.instanceMethod (M_nm y') ∈ tW ∧ Cond.selects (M_nm y').cls (M_nm y') (M_nm y') ∈ tW
def LkS (y : MT) (idx : Nat) (y' : MT) : Prop := Cond.methodLink (M_nm y).cls idx (M_nm y') ∈ tW ∧ Cond.static (M_nm y') ∈ tW
def LkI (y : MT) (idx : Nat) (y' : MT) : Prop := Cond.methodLink (M_nm y).cls idx (M_nm y') ∈ tW ∧ Cond.instanceMethod (M_nm y') ∈ tW ∧ (M_nm y').name = "<init>"
def LkIN (y : MT) (idx : Nat) (y' : MT) : Prop := ((M_nm y).cls, idx, M_nm y', "DependencyQueue") ∈ nstL ∧ Cond.instanceMethod (M_nm y') ∈ tW ∧ (M_nm y').name = "<init>"
def LkSN (y : MT) (idx : Nat) (y' : MT) : Prop := ((M_nm y).cls, idx, M_nm y', "DependencyQueue") ∈ nstL ∧ Cond.static (M_nm y') ∈ tW
theorem wsV_in {y y' : MT} {idx : Nat} (hok : MOk y') (hl : LkV y idx y') : ∀ w ∈ wsV (M_nm y).cls idx (M_nm y').cls (M_nm y') (wsJ y'), w ∈ tW := by
  intro w hw
  unfold wsV at hw
  rcases List.mem_append.mp hw with hw | hw
  · simp only [List.mem_cons, List.not_mem_nil, or_false] at hw
    rcases hw with rfl | rfl | rfl | rfl
    · exact hl.1
    · exact hl.2.1
    · exact hl.2.2
    · exact hok.2.2.2.2.1
  · exact wsJ_in hok w hw
theorem jj_cV {X : State → Prop} {G : GC} {B : Nat} {y : MT} {pc : Nat} {lv : List (Option Value)} {st rest : List Value} {n : Nat} {h : HT} {kc ks : Nat} {post : Option Value → Nat → HT → Prop} {y' : MT} {idx mc' ms' n' : Nat} {h' : HT} {as : List Value} {r : Option Value} {a ci : Nat} {fs : List Value} (hd : lk (M_tb y) pc = some (.invokevirtual idx)) (hok : MOk y') (how : OwnOk y') (hrm : roomOk y y' = true) (hl : LkV y idx y') (hst : st = as.reverse ++ .ref (B + a) :: rest) (hc0 : h a = some (ob ci fs)) (hcl : (clG[ci]?).map (fun q => q.1) = some (M_nm y').cls) (hnp : as.length = M_np y') (hcat : ∀ v ∈ as, v.category = 1) (hfit : as.length + 1 ≤ M_ml y') (hrest : (rest.map fun v => v.category).sum ≤ 8) (hb1 : mc' ≤ kc) (hb2 : ms' ≤ ks)
    (hC : CtJ G B y' (.ref (B + a) :: as) n h mc' ms' (eqP r n' h')) (K : JJ X G B y (pc + 3) lv (r.toList ++ rest) n' h' (kc - mc') (ks - ms') post) : JJ X G B y pc lv st n h kc ks post := by
  intro p l e R s m args below meth c H locs cells slots ls mc ms C P S L k1 k2 k3 k4
  have C0 := C
  obtain ⟨hx, hb, hr, hml, hown, hts, hlk, hnm, hK, hB, hfr, hlo, hT, hXW, hX, hCO, ho⟩ := C
  have hM := MetJ l hok hCO how (av := (.ref (B + a) :: as)) (by simp; exact hfit) (fun v hv => (List.mem_cons.mp hv).elim (fun e => by rw [e]; rfl) (hcat v)) hC
  have hnp2 : (parseMethodDescriptor (M_nm y').desc).map (fun d => d.parameters.length) = some (M_np y') := hok.2.2.2.2.2
  subst hst
  obtain ⟨qq, g1, g2⟩ : ∃ qq, clG[ci]? = some qq ∧ qq.1 = (M_nm y').cls := by
    cases hq : clG[ci]? with
    | none => rw [hq] at hcl; cases hcl
    | some qq => rw [hq] at hcl; exact ⟨qq, rfl, Option.some.inj hcl⟩
  refine jj_after (mc' := mc') (ms' := ms') C0 P S L k1 k2 k3 k4 hb1 hb2 (va_runV (As := as) (rest := rest) ⟨hx, hb, hml, hown, hts⟩ hM (C := (M_nm y').cls) (cwV (ws' := tW) (M_np y') hts (gdW (wsV_in hok hl)) rfl rfl rfl ⟨rfl, hok.2.2.2.1.1, hok.2.2.2.1.2, hnp2⟩ (roomOk.use hrm hfr hlo)) ⟨PcJ.blind, (by rw [← g2]; exact va_recv hK P.1 (ci := ci) (q := qq) (q0 := a) g1 (wd_get (P.2.2.lt hc0) hc0)), fun U hU hW => ⟨rfl, by rw [hU]; exact P, va_K.moved hW.alike hK, XW.moved hW hXW⟩⟩ rfl hnp L.1 rfl (lv_room hrest) (hT.at hd rfl) ⟨by omega, by omega⟩) K
theorem jj_cS {X : State → Prop} {G : GC} {B : Nat} {y : MT} {pc : Nat} {lv : List (Option Value)} {st rest : List Value} {n : Nat} {h : HT} {kc ks : Nat} {post : Option Value → Nat → HT → Prop} {y' : MT} {idx mc' ms' n' : Nat} {h' : HT} {as : List Value} {r : Option Value}  (hd : lk (M_tb y) pc = some (.invokestatic idx)) (hok : MOk y') (how : OwnOk y') (hrm : roomOk y y' = true) (hl : LkS y idx y') (hst : st = as.reverse ++ rest)  (hnp : as.length = M_np y') (hcat : ∀ v ∈ as, v.category = 1) (hfit : as.length + 0 ≤ M_ml y') (hrest : (rest.map fun v => v.category).sum ≤ 8) (hb1 : mc' ≤ kc) (hb2 : ms' ≤ ks)
    (hC : CtJ G B y' as n h mc' ms' (eqP r n' h')) (K : JJ X G B y (pc + 3) lv (r.toList ++ rest) n' h' (kc - mc') (ks - ms') post) : JJ X G B y pc lv st n h kc ks post := by
  intro p l e R s m args below meth c H locs cells slots ls mc ms C P S L k1 k2 k3 k4
  have C0 := C
  obtain ⟨hx, hb, hr, hml, hown, hts, hlk, hnm, hK, hB, hfr, hlo, hT, hXW, hX, hCO, ho⟩ := C
  have hM := MetJ l hok hCO how (av := as) (by simpa using hfit) hcat hC
  have hnp2 : (parseMethodDescriptor (M_nm y').desc).map (fun d => d.parameters.length) = some (M_np y') := hok.2.2.2.2.2
  subst hst
  refine jj_after (mc' := mc') (ms' := ms') C0 P S L k1 k2 k3 k4 hb1 hb2 (va_runS (As := as) (rest := rest) ⟨hx, hb, hml, hown, hts⟩ hM ⟨callB_of (ws' := tW) (M_np y') hts (gdW (wsJ_in hok)) rfl rfl rfl (hts _ hok.2.2.2.2.1) (hts _ hl.1) ⟨hok.2.2.2.1.1, hok.2.2.2.1.2, hnp2⟩ (roomOk.use hrm hfr hlo), hts _ hl.2⟩ ⟨PcJ.blind, fun U hU hW => ⟨rfl, by rw [hU]; exact P, va_K.moved hW.alike hK, XW.moved hW hXW⟩⟩ rfl hnp L.1 rfl (lv_room hrest) (hT.at hd rfl) ⟨by omega, by omega⟩) K
theorem jj_cI {X : State → Prop} {G : GC} {B : Nat} {y : MT} {pc : Nat} {lv : List (Option Value)} {st rest : List Value} {n : Nat} {h : HT} {kc ks : Nat} {post : Option Value → Nat → HT → Prop} {y' : MT} {idx mc' ms' n' : Nat} {h' : HT} {as : List Value} {r : Option Value} {a : Nat} (hd : lk (M_tb y) pc = some (.invokespecial idx)) (hok : MOk y') (how : OwnOk y') (hrm : roomOk y y' = true) (hl : LkI y idx y') (hvoid : M_rt y' = none) (hst : st = as.reverse ++ .ref (B + a) :: rest)  (hnp : as.length = M_np y') (hcat : ∀ v ∈ as, v.category = 1) (hfit : as.length + 1 ≤ M_ml y') (hrest : (rest.map fun v => v.category).sum ≤ 8) (hb1 : mc' ≤ kc) (hb2 : ms' ≤ ks)
    (hC : CtJ G B y' (.ref (B + a) :: as) n h mc' ms' (eqP r n' h')) (K : JJ X G B y (pc + 3) lv (r.toList ++ rest) n' h' (kc - mc') (ks - ms') post) : JJ X G B y pc lv st n h kc ks post := by
  intro p l e R s m args below meth c H locs cells slots ls mc ms C P S L k1 k2 k3 k4
  have C0 := C
  obtain ⟨hx, hb, hr, hml, hown, hts, hlk, hnm, hK, hB, hfr, hlo, hT, hXW, hX, hCO, ho⟩ := C
  have hM := MetJ l hok hCO how (av := (.ref (B + a) :: as)) (by simp; exact hfit) (fun v hv => (List.mem_cons.mp hv).elim (fun e => by rw [e]; rfl) (hcat v)) hC
  have hnp2 : (parseMethodDescriptor (M_nm y').desc).map (fun d => d.parameters.length) = some (M_np y') := hok.2.2.2.2.2
  subst hst
  refine jj_after (mc' := mc') (ms' := ms') C0 P S L k1 k2 k3 k4 hb1 hb2 (va_runI (As := as) (rest := rest) ⟨hx, hb, hml, hown, hts⟩ hM ⟨callB_of (bytes := M_by y') (maxL := M_ml y') (ret := none) (ws' := tW) (M_np y') hts (gdW (wsJ_in hok)) (by rw [← hvoid]) rfl rfl (hts _ hok.2.2.2.2.1) (hts _ hl.1) ⟨hok.2.2.2.1.1, hok.2.2.2.1.2, hnp2⟩ (roomOk.use hrm hfr hlo), hl.2.2, hts _ hl.2.1⟩ ⟨PcJ.blind, fun U hU hW => ⟨rfl, by rw [hU]; exact P, va_K.moved hW.alike hK, XW.moved hW hXW⟩⟩ rfl hnp L.1 rfl (lv_room hrest) (hT.at hd rfl) ⟨by omega, by omega⟩) K
theorem jj_cIN {X : State → Prop} {G : GC} {B : Nat} {y : MT} {pc : Nat} {lv : List (Option Value)} {st rest : List Value} {n : Nat} {h : HT} {kc ks : Nat} {post : Option Value → Nat → HT → Prop} {y' : MT} {idx mc' ms' n' : Nat} {h' : HT} {as : List Value} {r : Option Value} {a : Nat} (hd : lk (M_tb y) pc = some (.invokespecial idx)) (hok : MOk y') (how : OwnOk y') (hrm : roomOk y y' = true) (hl : LkIN y idx y') (hvoid : M_rt y' = none) (hst : st = as.reverse ++ .ref (B + a) :: rest)  (hnp : as.length = M_np y') (hcat : ∀ v ∈ as, v.category = 1) (hfit : as.length + 1 ≤ M_ml y') (hrest : (rest.map fun v => v.category).sum ≤ 8) (hb1 : mc' ≤ kc) (hb2 : ms' ≤ ks)
    (hC : CtJ G B y' (.ref (B + a) :: as) n h mc' ms' (eqP r n' h')) (K : JJ X G B y (pc + 3) lv (r.toList ++ rest) n' h' (kc - mc') (ks - ms') post) : JJ X G B y pc lv st n h kc ks post := by
  intro p l e R s m args below meth c H locs cells slots ls mc ms C P S L k1 k2 k3 k4
  have C0 := C
  obtain ⟨hx, hb, hr, hml, hown, hts, hlk, hnm, hK, hB, hfr, hlo, hT, hXW, hX, hCO, ho⟩ := C
  have hM := MetJ l hok hCO how (av := (.ref (B + a) :: as)) (by simp; exact hfit) (fun v hv => (List.mem_cons.mp hv).elim (fun e => by rw [e]; rfl) (hcat v)) hC
  have hnp2 : (parseMethodDescriptor (M_nm y').desc).map (fun d => d.parameters.length) = some (M_np y') := hok.2.2.2.2.2
  subst hst
  refine jj_after (mc' := mc') (ms' := ms') C0 P S L k1 k2 k3 k4 hb1 hb2 (va_runIN (As := as) (rest := rest) ⟨hx, hb, hml, hown, hts⟩ hM ⟨va_cnB (bytes := M_by y') (maxL := M_ml y') (ret := none) (ws' := tW) (M_np y') hts (gdW (wsJ_in hok)) (by rw [← hvoid]) rfl rfl (hXW.1 _ hl.1) (hts _ hok.2.2.2.2.1) ⟨hok.2.2.2.1.1, hok.2.2.2.1.2, hnp2⟩ (roomOk.use hrm hfr hlo), hl.2.2, hts _ hl.2.1⟩ ⟨PcJ.blind, fun U hU hW => ⟨rfl, by rw [hU]; exact P, va_K.moved hW.alike hK, XW.moved hW hXW⟩⟩ rfl hnp L.1 rfl (lv_room hrest) (hT.at hd rfl) ⟨by omega, by omega⟩) K
theorem jj_cSN {X : State → Prop} {G : GC} {B : Nat} {y : MT} {pc : Nat} {lv : List (Option Value)} {st rest : List Value} {n : Nat} {h : HT} {kc ks : Nat} {post : Option Value → Nat → HT → Prop} {y' : MT} {idx mc' ms' n' : Nat} {h' : HT} {as : List Value} {r : Option Value}  (hd : lk (M_tb y) pc = some (.invokestatic idx)) (hok : MOk y') (how : OwnOk y') (hrm : roomOk y y' = true) (hl : LkSN y idx y') (hst : st = as.reverse ++ rest)  (hnp : as.length = M_np y') (hcat : ∀ v ∈ as, v.category = 1) (hfit : as.length + 0 ≤ M_ml y') (hrest : (rest.map fun v => v.category).sum ≤ 8) (hb1 : mc' ≤ kc) (hb2 : ms' ≤ ks)
    (hC : CtJ G B y' as n h mc' ms' (eqP r n' h')) (K : JJ X G B y (pc + 3) lv (r.toList ++ rest) n' h' (kc - mc') (ks - ms') post) : JJ X G B y pc lv st n h kc ks post := by
  intro p l e R s m args below meth c H locs cells slots ls mc ms C P S L k1 k2 k3 k4
  have C0 := C
  obtain ⟨hx, hb, hr, hml, hown, hts, hlk, hnm, hK, hB, hfr, hlo, hT, hXW, hX, hCO, ho⟩ := C
  have hM := MetJ l hok hCO how (av := as) (by simpa using hfit) hcat hC
  have hnp2 : (parseMethodDescriptor (M_nm y').desc).map (fun d => d.parameters.length) = some (M_np y') := hok.2.2.2.2.2
  subst hst
  refine jj_after (mc' := mc') (ms' := ms') C0 P S L k1 k2 k3 k4 hb1 hb2 (va_runSN (As := as) (rest := rest) ⟨hx, hb, hml, hown, hts⟩ hM ⟨va_cnB (ws' := tW) (M_np y') hts (gdW (wsJ_in hok)) rfl rfl rfl (hXW.1 _ hl.1) (hts _ hok.2.2.2.2.1) ⟨hok.2.2.2.1.1, hok.2.2.2.1.2, hnp2⟩ (roomOk.use hrm hfr hlo), hts _ hl.2, trivial⟩ ⟨PcJ.blind, fun U hU hW => ⟨rfl, by rw [hU]; exact P, va_K.moved hW.alike hK, XW.moved hW hXW⟩⟩ rfl hnp L.1 rfl (lv_room hrest) (hT.at hd rfl) ⟨by omega, by omega⟩) K
theorem jj_oinit {X : State → Prop} {G : GC} {B : Nat} {y : MT} {pc : Nat} {lv : List (Option Value)} {st : List Value} {n : Nat} {h : HT} {kc ks : Nat} {post : Option Value → Nat → HT → Prop} {idx a : Nat} (hd : lk (M_tb y) pc = some (.invokespecial idx)) (hl : Cond.methodLink (M_nm y).cls idx objectInit ∈ tW) (hi : Cond.instanceMethod objectInit ∈ tW) (hcd : Cond.code objectInit ⟨#[0xb1]⟩ 1 none ∈ tW) (hf1 : 1 ≤ M_fr y) (hf2 : (st.map fun v => v.category).sum + 12 ≤ M_lo y) (K : JJ X G B y (pc + 3) lv st n h kc ks post) : JJ X G B y pc lv (.ref a :: st) n h kc ks post := by
  intro p l e R s m args below meth c H locs cells slots ls mc ms C P S L k1 k2 k3 k4
  have C0 := C
  obtain ⟨hx, hb, hr, hml, hown, hts, hlk, hnm, hK, hB, hfr, hlo, hT, hXW, hX, hCO, ho⟩ := C
  exact W.objInit hx hb hown (hts _ hl) (hts _ hi) (hts _ hcd) rfl (by rw [hml]; exact L.1) rfl (hT.at hd rfl) (Nat.le_trans hf1 hfr) (by show 2 * 0 + _ + 12 ≤ _; omega) (K p l e R s m args below meth c H locs cells slots ls mc ms C0 P S L k1 k2 k3 k4)
theorem jj_max {X : State → Prop} {G : GC} {B : Nat} {y : MT} {pc : Nat} {lv : List (Option Value)} {st : List Value} {n : Nat} {h : HT} {kc ks : Nat} {post : Option Value → Nat → HT → Prop} {idx : Nat} {x w : Int32} (hd : lk (M_tb y) pc = some (.invokestatic idx)) (hl : Cond.methodLink (M_nm y).cls idx Lib.Math.max.name ∈ tW) (h1 : Cond.static Lib.Math.max.name ∈ tW) (h2 : Cond.initialized "java/lang/Math" ∈ tW) (h3 : Cond.code Lib.Math.max.name Lib.Math.max.code 2 (some .int) ∈ tW) (hf1 : 1 ≤ M_fr y) (hf2 : (st.map fun v => v.category).sum + 13 ≤ M_lo y) (K : JJ X G B y (pc + 3) lv (.int (if x < w then w else x) :: st) n h kc ks post) : JJ X G B y pc lv (.int w :: .int x :: st) n h kc ks post := by
  intro p l e R s m args below meth c H locs cells slots ls mc ms C P S L k1 k2 k3 k4
  have C0 := C
  obtain ⟨hx, hb, hr, hml, hown, hts, hlk, hnm, hK, hB, hfr, hlo, hT, hXW, hX, hCO, ho⟩ := C
  exact va_mmax hx hb (by rw [hml, L.1]) hown (hts _ hl) (hts _ h1) (hts _ h2) (hts _ h3) (Nat.le_trans hf1 hfr) (by omega) (by omega) (by omega) (hT.at hd rfl) (K p l e R s m args below meth c H locs cells slots ls mc ms C0 P S L k1 k2 k3 k4)
theorem jj_newi {X : State → Prop} {G : GC} {B : Nat} {y : MT} {pc : Nat} {lv : List (Option Value)} {st : List Value} {n : Nat} {h : HT} {kc ks : Nat} {post : Option Value → Nat → HT → Prop} {v : Int32} (N : Nat) (hd : lk (M_tb y) pc = some (.newarray .int)) (ha : Cond.arrayClass .int ∈ tW) (hn : ¬ v < 0) (hN : v.toNatClampNeg = N) (hby : N * 4 ≤ 536870912) (K : JJ X G B y (pc + 2) lv (.ref (B + n) :: st) (n + 1) (hu h n (ia N (fun _ => 0))) kc ks post) : JJ X G B y pc lv (.int v :: st) n h (kc + 1) (ks + N) post := by
  intro p l e R s m args below meth c H locs cells slots ls mc ms C P S L k1 k2 k3 k4
  have C0 := C
  obtain ⟨hx, hb, hr, hml, hown, hts, hlk, hnm, hK, hB, hfr, hlo, hT, hXW, hX, hCO, ho⟩ := C
  refine va_newaK (atype := .int) hx hb (hts _ ha) rfl (hT.at hd rfl) rfl hn hN hby (by omega) (by omega) P.2.1 fun H1 cA e1 z1 o1 hAr hNm => ?_
  have hcA : cA = G.2.1 := Option.some.inj (hNm.symm.trans (hK.2 0 _ rfl).2)
  subst hcA
  have hk : ∀ (k : Nat) (x : Nat × va_E), (wd G B n h)[k]? = some x → H1[x.1]? = H[x.1]? := fun k x hx => o1 x.1 (by have := (P.1 k x hx).lt; rw [P.2.1] at this; exact this)
  have hP' : va_P G.1 clG (wd G B n h ++ [(B + n, cvE G (ia N (fun _ => 0)))]) H1 := (P.1.kept hk).app (fun k x hx => by
    have hz : k < 1 := (List.getElem?_eq_some_iff.mp hx).1
    rw [show k = 0 by omega] at hx
    cases hx
    exact e1)
  exact K p l e R s m args below meth c H1 locs (cells + 1) (slots + N) ls mc ms C0 ⟨by rw [← wd_push]; exact hP', by rw [z1]; omega, P.2.2.push⟩ ⟨by rw [z1]; have := S.1; rw [P.2.1] at this; omega, fun q g1 g2 => by rw [o1 q (by have := S.1; rw [P.2.1] at this; omega)]; exact S.2.1 q g1 g2, S.2.2⟩ L (by omega) (by omega) k3 k4
theorem jj_newl {X : State → Prop} {G : GC} {B : Nat} {y : MT} {pc : Nat} {lv : List (Option Value)} {st : List Value} {n : Nat} {h : HT} {kc ks : Nat} {post : Option Value → Nat → HT → Prop} {v : Int32} (N : Nat) (hd : lk (M_tb y) pc = some (.newarray .long)) (ha : Cond.arrayClass .long ∈ tW) (hn : ¬ v < 0) (hN : v.toNatClampNeg = N) (hby : N * 8 ≤ 536870912) (K : JJ X G B y (pc + 2) lv (.ref (B + n) :: st) (n + 1) (hu h n (la N (fun _ => 0))) kc ks post) : JJ X G B y pc lv (.int v :: st) n h (kc + 1) (ks + N) post := by
  intro p l e R s m args below meth c H locs cells slots ls mc ms C P S L k1 k2 k3 k4
  have C0 := C
  obtain ⟨hx, hb, hr, hml, hown, hts, hlk, hnm, hK, hB, hfr, hlo, hT, hXW, hX, hCO, ho⟩ := C
  refine va_newaK (atype := .long) hx hb (hts _ ha) rfl (hT.at hd rfl) rfl hn hN hby (by omega) (by omega) P.2.1 fun H1 cA e1 z1 o1 hAr hNm => ?_
  have hcA : cA = G.2.2.1 := Option.some.inj (hNm.symm.trans (hK.2 1 _ rfl).2)
  subst hcA
  have hk : ∀ (k : Nat) (x : Nat × va_E), (wd G B n h)[k]? = some x → H1[x.1]? = H[x.1]? := fun k x hx => o1 x.1 (by have := (P.1 k x hx).lt; rw [P.2.1] at this; exact this)
  have hP' : va_P G.1 clG (wd G B n h ++ [(B + n, cvE G (la N (fun _ => 0)))]) H1 := (P.1.kept hk).app (fun k x hx => by
    have hz : k < 1 := (List.getElem?_eq_some_iff.mp hx).1
    rw [show k = 0 by omega] at hx
    cases hx
    exact e1)
  exact K p l e R s m args below meth c H1 locs (cells + 1) (slots + N) ls mc ms C0 ⟨by rw [← wd_push]; exact hP', by rw [z1]; omega, P.2.2.push⟩ ⟨by rw [z1]; have := S.1; rw [P.2.1] at this; omega, fun q g1 g2 => by rw [o1 q (by have := S.1; rw [P.2.1] at this; omega)]; exact S.2.1 q g1 g2, S.2.2⟩ L (by omega) (by omega) k3 k4
theorem jj_new {X : State → Prop} {G : GC} {B : Nat} {y : MT} {pc : Nat} {lv : List (Option Value)} {st : List Value} {n : Nat} {h : HT} {kc ks : Nat} {post : Option Value → Nat → HT → Prop} {idx ci N : Nat} {Cn : String} {Tn : u_T} (fs : List Value) (hd : lk (M_tb y) pc = some (.new idx)) (hq : clG[ci]? = some (Cn, Tn, N)) (hcl : Cond.classLink (M_nm y).cls idx Cn ∈ tW) (hin : Cond.instantiable Cn N ∈ tW) (hini : Cond.initialized Cn ∈ tW) (hfs : ∀ j, j < N → defaultValue (tyG ci j) = vp_V fs j) (K : JJ X G B y (pc + 3) lv (.ref (B + n) :: st) (n + 1) (hu h n (ob ci fs)) kc ks post) : JJ X G B y pc lv st n h (kc + 1) (ks + N) post := by
  intro p l e R s m args below meth c H locs cells slots ls mc ms C P S L k1 k2 k3 k4
  have C0 := C
  obtain ⟨hx, hb, hr, hml, hown, hts, hlk, hnm, hK, hB, hfr, hlo, hT, hXW, hX, hCO, ho⟩ := C
  have hKn := hK.1 ci _ hq
  obtain ⟨c1, c2, c3⟩ := hCO ci _ hq
  refine W.newcK hx hb hown (hts _ hcl) (hts _ hin) (hts _ hini) rfl (hT.at hd rfl) (by omega) (by omega) hKn.2.1 P.2.1 fun H1 kC hkC e1 z1 o1 => ?_
  have hk : ∀ (k : Nat) (x : Nat × va_E), (wd G B n h)[k]? = some x → H1[x.1]? = H[x.1]? := fun k x hx => o1 x.1 (by have := (P.1 k x hx).lt; rw [P.2.1] at this; exact this)
  have hP' : va_P G.1 clG (wd G B n h ++ [(B + n, cvE G (ob ci fs))]) H1 := (P.1.kept hk).app (fun k x hx => by
    have hz : k < 1 := (List.getElem?_eq_some_iff.mp hx).1
    rw [show k = 0 by omega] at hx
    cases hx
    exact ⟨_, hq, (u_born (tyG ci) hts c1 hKn hkC e1 c2).to hfs⟩)
  exact K p l e R s m args below meth c H1 locs (cells + 1) (slots + N) ls mc ms C0 ⟨by rw [← wd_push]; exact hP', by rw [z1]; omega, P.2.2.push⟩ ⟨by rw [z1]; have := S.1; rw [P.2.1] at this; omega, fun q g1 g2 => by rw [o1 q (by have := S.1; rw [P.2.1] at this; omega)]; exact S.2.1 q g1 g2, S.2.2⟩ L (by omega) (by omega) k3 k4
theorem jj_newq {X : State → Prop} {G : GC} {B : Nat} {y : MT} {pc : Nat} {lv : List (Option Value)} {st : List Value} {n : Nat} {h : HT} {kc ks : Nat} {post : Option Value → Nat → HT → Prop} {idx : Nat} {v : Int32} (N : Nat) (hd : lk (M_tb y) pc = some (.anewarray idx)) (hcl : Cond.classLink (M_nm y).cls idx "DependencyQueue$Queue" ∈ tW) (hn : ¬ v < 0) (hN : v.toNatClampNeg = N) (hby : N * 4 ≤ 536870912) (K : JJ X G B y (pc + 3) lv (.ref (B + n) :: st) (n + 1) (hu h n (qa N (fun _ => none))) kc ks post) : JJ X G B y pc lv (.int v :: st) n h (kc + 1) (ks + N) post := by
  intro p l e R s m args below meth c H locs cells slots ls mc ms C P S L k1 k2 k3 k4
  have C0 := C
  obtain ⟨hx, hb, hr, hml, hown, hts, hlk, hnm, hK, hB, hfr, hlo, hT, hXW, hX, hCO, ho⟩ := C
  subst hN
  refine W.anew hx hb hown (hts _ hcl) (va_AO.use hXW.2) rfl (hT.at hd rfl) rfl hn hby (by omega) (by omega) fun cA kA comp f1 f2 f3 f4 => ?_
  obtain ⟨kA', comp', q1, q2, q3, q4⟩ := (hK.2 2 _ rfl).2
  have hcA : cA = G.2.2.2 := Option.some.inj (f1.symm.trans q4)
  subst hcA
  generalize hH1 : H.push ({ cls := G.2.2.2, slots := Array.replicate v.toNatClampNeg .null, vm := .none } : Cell) = H1
  have z1 : H1.size = H.size + 1 := by rw [← hH1, Array.size_push]
  have e1 : H1[H.size]? = some (arrV G.2.2.2 v.toNatClampNeg (fun _ => .null)) := by rw [← hH1, Array.getElem?_push_size, ← arrV_new]
  have o1 : ∀ q : Nat, q < H.size → H1[q]? = H[q]? := fun q hq => by rw [← hH1, Array.getElem?_push, if_neg (Nat.ne_of_lt hq)]
  have hk : ∀ (k : Nat) (x : Nat × va_E), (wd G B n h)[k]? = some x → H1[x.1]? = H[x.1]? := fun k x hx => o1 x.1 ((P.1 k x hx).lt)
  have hP' : va_P G.1 clG (wd G B n h ++ [(B + n, cvE G (qa v.toNatClampNeg (fun _ => none)))]) H1 := (P.1.kept hk).app (fun k x hx => by
    have hz : k < 1 := (List.getElem?_eq_some_iff.mp hx).1
    rw [show k = 0 by omega] at hx
    cases hx
    rw [P.2.1] at e1
    exact e1)
  rw [P.2.1] at z1 ⊢
  exact K p l e R s m args below meth c H1 locs (cells + 1) (slots + v.toNatClampNeg) ls mc ms C0 ⟨by rw [← wd_push]; exact hP', by rw [z1]; omega, P.2.2.push⟩ ⟨by rw [z1]; have := S.1; rw [P.2.1] at this; omega, fun q g1 g2 => by rw [o1 q (by have := S.1; omega)]; exact S.2.1 q g1 g2, S.2.2⟩ L (by omega) (by omega) k3 k4
theorem jj_aast {X : State → Prop} {G : GC} {B : Nat} {y : MT} {pc : Nat} {lv : List (Option Value)} {st : List Value} {n : Nat} {h : HT} {kc ks : Nat} {post : Option Value → Nat → HT → Prop} {a a2 N : Nat} {vs : List Value} {f : Nat → Option Nat} {i : Int32} (hd : lk (M_tb y) pc = some .aastore) (hc : h a = some (qa N f)) (hc2 : h a2 = some (ob 5 vs)) (hi : vp_in i N) (K : JJ X G B y (pc + 1) lv st n (hu h a (qa N (va_up f i.toNatClampNeg (some (B + a2))))) kc ks post) : JJ X G B y pc lv (.ref (B + a2) :: .int i :: .ref (B + a) :: st) n h kc ks post := by
  intro p l e R s m args below meth c H locs cells slots ls mc ms C P S L k1 k2 k3 k4
  have C0 := C
  obtain ⟨hx, hb, hr, hml, hown, hts, hlk, hnm, hK, hB, hfr, hlo, hT, hXW, hX, hCO, ho⟩ := C
  have he := wd_get (G := G) (B := B) (P.2.2.lt hc) hc
  have he2 := wd_get (G := G) (B := B) (P.2.2.lt hc2) hc2
  have hlt : i.toNatClampNeg < N := Nat.not_le.mp fun q => hi (Or.inr q)
  have h0 : ¬ i < 0 := fun q => hi (Or.inl q)
  obtain ⟨r', hr', cellV, g1, g2, g3, -⟩ := P.1 a2 _ he2
  have hcls := (hK.1 5 _ rfl).2
  obtain ⟨kA, comp, q1, q2, q3, -⟩ := (hK.2 2 _ rfl).2
  have hcomp : comp = G.1.1 5 := Option.some.inj (q3.symm.trans hcls.1)
  subst hcomp
  obtain ⟨kC, hkC, -⟩ := hcls.2
  refine W.aast hx hb (P.1 a _ he) (fun q h => by cases h) (fun h => by cases h) q1 q2 rfl hkC ⟨h0, by show _ < (arrV _ _ _).slots.size; rw [arrV_size]; exact hlt⟩ g1 (fun q h => by rw [g3] at h; cases h) (by rw [g2]; exact hkC) (by rw [g2]; exact va_assign hcls) rfl rfl (hT.at hd rfl) fun H1 e1 z oq => ?_
  have hP' := P.1.set (e := cvE G (qa N (va_up f i.toNatClampNeg (some (B + a2))))) wd_D he ?_ oq
  · exact K p l e R s m args below meth c H1 _ cells slots ls mc ms C0 ⟨by rw [← wd_set]; exact hP', by rw [z]; exact P.2.1, P.2.2.set hc⟩ (S.put z oq (Nat.le_add_right _ _)) L k1 k2 k3 k4
  · show H1[B + a]? = some (vp_cell _ _)
    rw [e1]
    show some (Cell.setSlot (vp_cell _ _) _ _) = _
    rw [vp_cell_q, vp_cell_q, arrV_store]
    congr 2
    funext q
    by_cases hq : q = i.toNatClampNeg
    · subst hq
      simp [updV, va_up, va_rf]
    · simp [updV, va_up, hq]
end
