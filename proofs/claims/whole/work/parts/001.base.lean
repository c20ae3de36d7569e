-- ===== PART A: goes FIRST, ahead of the names: the tables' words, and 'selects' of the private methods out of them =====
/-- a private method of a class that the tables say can be made, by its rows of tables_1 -/
def lw_okq (q : MethodName × Nat) : Prop := (q.1.cls ≠ "java/lang/invoke/MethodHandle" ∧ q.1.cls ≠ "java/lang/invoke/VarHandle") ∧ Cond.instantiable q.1.cls q.2 ∈ tables_1 ∧ Cond.privateMethod q.1 ∈ tables_1 ∧ Cond.instanceMethod q.1 ∈ tables_1
theorem lw_p0 : lw_okq (⟨"OrderModels", "forget", "()V"⟩, 6) := ⟨⟨by decide +kernel, by decide +kernel⟩, List.mem_of_getElem? (i := 15) (by decide +kernel), List.mem_of_getElem? (i := 336) (by decide +kernel), List.mem_of_getElem? (i := 337) (by decide +kernel)⟩
theorem lw_p1 : lw_okq (⟨"OrderModels", "foundByRuns", "(I)LOrderModels$OutcomeSet;"⟩, 6) := ⟨⟨by decide +kernel, by decide +kernel⟩, List.mem_of_getElem? (i := 15) (by decide +kernel), List.mem_of_getElem? (i := 369) (by decide +kernel), List.mem_of_getElem? (i := 370) (by decide +kernel)⟩
theorem lw_p2 : lw_okq (⟨"OrderModels$StateSet", "makeRoom", "(I)V"⟩, 4) := ⟨⟨by decide +kernel, by decide +kernel⟩, List.mem_of_getElem? (i := 125) (by decide +kernel), List.mem_of_getElem? (i := 385) (by decide +kernel), List.mem_of_getElem? (i := 386) (by decide +kernel)⟩
theorem lw_p3 : lw_okq (⟨"OrderModels$StateSet", "slotOf", "(J)I"⟩, 4) := ⟨⟨by decide +kernel, by decide +kernel⟩, List.mem_of_getElem? (i := 125) (by decide +kernel), List.mem_of_getElem? (i := 389) (by decide +kernel), List.mem_of_getElem? (i := 390) (by decide +kernel)⟩
theorem lw_p4 : lw_okq (⟨"OrderModels$KnowledgeWalk", "spread", "(I)V"⟩, 9) := ⟨⟨by decide +kernel, by decide +kernel⟩, List.mem_of_getElem? (i := 180) (by decide +kernel), List.mem_of_getElem? (i := 400) (by decide +kernel), List.mem_of_getElem? (i := 401) (by decide +kernel)⟩
theorem lw_p5 : lw_okq (⟨"OrderModels$KnowledgeWalk", "rowsKey", "()J"⟩, 9) := ⟨⟨by decide +kernel, by decide +kernel⟩, List.mem_of_getElem? (i := 180) (by decide +kernel), List.mem_of_getElem? (i := 408) (by decide +kernel), List.mem_of_getElem? (i := 409) (by decide +kernel)⟩
theorem lw_p6 : lw_okq (⟨"OrderModels$KnowledgeWalk", "goNext", "(II)V"⟩, 9) := ⟨⟨by decide +kernel, by decide +kernel⟩, List.mem_of_getElem? (i := 180) (by decide +kernel), List.mem_of_getElem? (i := 444) (by decide +kernel), List.mem_of_getElem? (i := 445) (by decide +kernel)⟩
theorem lw_p7 : lw_okq (⟨"OrderModels$KnowledgeWalk", "goRead", "(II)V"⟩, 9) := ⟨⟨by decide +kernel, by decide +kernel⟩, List.mem_of_getElem? (i := 180) (by decide +kernel), List.mem_of_getElem? (i := 448) (by decide +kernel), List.mem_of_getElem? (i := 449) (by decide +kernel)⟩
theorem lw_p8 : lw_okq (⟨"OrderModels$KnowledgeWalk", "knownPlace", "(I)I"⟩, 9) := ⟨⟨by decide +kernel, by decide +kernel⟩, List.mem_of_getElem? (i := 180) (by decide +kernel), List.mem_of_getElem? (i := 452) (by decide +kernel), List.mem_of_getElem? (i := 453) (by decide +kernel)⟩
theorem lw_p9 : lw_okq (⟨"OrderModels$KnowledgeWalk", "sourceAt", "(II)I"⟩, 9) := ⟨⟨by decide +kernel, by decide +kernel⟩, List.mem_of_getElem? (i := 180) (by decide +kernel), List.mem_of_getElem? (i := 456) (by decide +kernel), List.mem_of_getElem? (i := 457) (by decide +kernel)⟩
theorem lw_p10 : lw_okq (⟨"OrderModels$KnowledgeWalk", "take", "(IIIII)V"⟩, 9) := ⟨⟨by decide +kernel, by decide +kernel⟩, List.mem_of_getElem? (i := 180) (by decide +kernel), List.mem_of_getElem? (i := 463) (by decide +kernel), List.mem_of_getElem? (i := 464) (by decide +kernel)⟩
theorem lw_p11 : lw_okq (⟨"OrderModels$KnowledgeWalk", "insert", "(III)V"⟩, 9) := ⟨⟨by decide +kernel, by decide +kernel⟩, List.mem_of_getElem? (i := 180) (by decide +kernel), List.mem_of_getElem? (i := 479) (by decide +kernel), List.mem_of_getElem? (i := 480) (by decide +kernel)⟩
theorem lw_p12 : lw_okq (⟨"OrderModels$KnowledgeWalk", "goWrite", "(II)V"⟩, 9) := ⟨⟨by decide +kernel, by decide +kernel⟩, List.mem_of_getElem? (i := 180) (by decide +kernel), List.mem_of_getElem? (i := 489) (by decide +kernel), List.mem_of_getElem? (i := 490) (by decide +kernel)⟩
theorem lw_p13 : lw_okq (⟨"OrderModels$KnowledgeWalk", "isAddAt", "(II)Z"⟩, 9) := ⟨⟨by decide +kernel, by decide +kernel⟩, List.mem_of_getElem? (i := 180) (by decide +kernel), List.mem_of_getElem? (i := 493) (by decide +kernel), List.mem_of_getElem? (i := 494) (by decide +kernel)⟩
theorem lw_p14 : lw_okq (⟨"OrderModels$KnowledgeWalk", "goAdd", "(II)V"⟩, 9) := ⟨⟨by decide +kernel, by decide +kernel⟩, List.mem_of_getElem? (i := 180) (by decide +kernel), List.mem_of_getElem? (i := 497) (by decide +kernel), List.mem_of_getElem? (i := 498) (by decide +kernel)⟩
theorem lw_p15 : lw_okq (⟨"OrderModels$KnowledgeWalk", "lastIn", "(I)I"⟩, 9) := ⟨⟨by decide +kernel, by decide +kernel⟩, List.mem_of_getElem? (i := 180) (by decide +kernel), List.mem_of_getElem? (i := 501) (by decide +kernel), List.mem_of_getElem? (i := 502) (by decide +kernel)⟩
def lw_privs_1 : List (MethodName × Nat) := [(⟨"OrderModels", "forget", "()V"⟩, 6), (⟨"OrderModels", "foundByRuns", "(I)LOrderModels$OutcomeSet;"⟩, 6), (⟨"OrderModels$StateSet", "makeRoom", "(I)V"⟩, 4), (⟨"OrderModels$StateSet", "slotOf", "(J)I"⟩, 4), (⟨"OrderModels$KnowledgeWalk", "spread", "(I)V"⟩, 9), (⟨"OrderModels$KnowledgeWalk", "rowsKey", "()J"⟩, 9), (⟨"OrderModels$KnowledgeWalk", "goNext", "(II)V"⟩, 9), (⟨"OrderModels$KnowledgeWalk", "goRead", "(II)V"⟩, 9), (⟨"OrderModels$KnowledgeWalk", "knownPlace", "(I)I"⟩, 9), (⟨"OrderModels$KnowledgeWalk", "sourceAt", "(II)I"⟩, 9), (⟨"OrderModels$KnowledgeWalk", "take", "(IIIII)V"⟩, 9), (⟨"OrderModels$KnowledgeWalk", "insert", "(III)V"⟩, 9), (⟨"OrderModels$KnowledgeWalk", "goWrite", "(II)V"⟩, 9), (⟨"OrderModels$KnowledgeWalk", "isAddAt", "(II)Z"⟩, 9), (⟨"OrderModels$KnowledgeWalk", "goAdd", "(II)V"⟩, 9), (⟨"OrderModels$KnowledgeWalk", "lastIn", "(I)I"⟩, 9)]
theorem lw_r1 : ∀ q ∈ lw_privs_1, lw_okq q := List.forall_mem_cons.mpr ⟨lw_p0, List.forall_mem_cons.mpr ⟨lw_p1, List.forall_mem_cons.mpr ⟨lw_p2, List.forall_mem_cons.mpr ⟨lw_p3, List.forall_mem_cons.mpr ⟨lw_p4, List.forall_mem_cons.mpr ⟨lw_p5, List.forall_mem_cons.mpr ⟨lw_p6, List.forall_mem_cons.mpr ⟨lw_p7, List.forall_mem_cons.mpr ⟨lw_p8, List.forall_mem_cons.mpr ⟨lw_p9, List.forall_mem_cons.mpr ⟨lw_p10, List.forall_mem_cons.mpr ⟨lw_p11, List.forall_mem_cons.mpr ⟨lw_p12, List.forall_mem_cons.mpr ⟨lw_p13, List.forall_mem_cons.mpr ⟨lw_p14, List.forall_mem_cons.mpr ⟨lw_p15, fun _ h => absurd h List.not_mem_nil⟩⟩⟩⟩⟩⟩⟩⟩⟩⟩⟩⟩⟩⟩⟩⟩
theorem lw_p16 : lw_okq (⟨"OrderModels$OutcomeSet", "add", "(JI)Z"⟩, 9) := ⟨⟨by decide +kernel, by decide +kernel⟩, List.mem_of_getElem? (i := 273) (by decide +kernel), List.mem_of_getElem? (i := 517) (by decide +kernel), List.mem_of_getElem? (i := 518) (by decide +kernel)⟩
theorem lw_p17 : lw_okq (⟨"OrderModels$OutcomeSet", "firstNotLess", "(JI)I"⟩, 9) := ⟨⟨by decide +kernel, by decide +kernel⟩, List.mem_of_getElem? (i := 273) (by decide +kernel), List.mem_of_getElem? (i := 521) (by decide +kernel), List.mem_of_getElem? (i := 522) (by decide +kernel)⟩
theorem lw_p18 : lw_okq (⟨"OrderModels$OutcomeSet", "isAt", "(IJI)Z"⟩, 9) := ⟨⟨by decide +kernel, by decide +kernel⟩, List.mem_of_getElem? (i := 273) (by decide +kernel), List.mem_of_getElem? (i := 525) (by decide +kernel), List.mem_of_getElem? (i := 526) (by decide +kernel)⟩
theorem lw_p19 : lw_okq (⟨"OrderModels$OutcomeSet", "grow", "()V"⟩, 9) := ⟨⟨by decide +kernel, by decide +kernel⟩, List.mem_of_getElem? (i := 273) (by decide +kernel), List.mem_of_getElem? (i := 529) (by decide +kernel), List.mem_of_getElem? (i := 530) (by decide +kernel)⟩
theorem lw_p20 : lw_okq (⟨"OrderModels$BufferWalk", "spread", "(I)V"⟩, 9) := ⟨⟨by decide +kernel, by decide +kernel⟩, List.mem_of_getElem? (i := 145) (by decide +kernel), List.mem_of_getElem? (i := 553) (by decide +kernel), List.mem_of_getElem? (i := 554) (by decide +kernel)⟩
theorem lw_p21 : lw_okq (⟨"OrderModels$BufferWalk", "noteRaces", "()V"⟩, 9) := ⟨⟨by decide +kernel, by decide +kernel⟩, List.mem_of_getElem? (i := 145) (by decide +kernel), List.mem_of_getElem? (i := 559) (by decide +kernel), List.mem_of_getElem? (i := 560) (by decide +kernel)⟩
theorem lw_p22 : lw_okq (⟨"OrderModels$BufferWalk", "goNext", "(II)Z"⟩, 9) := ⟨⟨by decide +kernel, by decide +kernel⟩, List.mem_of_getElem? (i := 145) (by decide +kernel), List.mem_of_getElem? (i := 569) (by decide +kernel), List.mem_of_getElem? (i := 570) (by decide +kernel)⟩
theorem lw_p23 : lw_okq (⟨"OrderModels$BufferWalk", "waitsForBuffers", "(I)Z"⟩, 9) := ⟨⟨by decide +kernel, by decide +kernel⟩, List.mem_of_getElem? (i := 145) (by decide +kernel), List.mem_of_getElem? (i := 573) (by decide +kernel), List.mem_of_getElem? (i := 574) (by decide +kernel)⟩
theorem lw_p24 : lw_okq (⟨"OrderModels$BufferWalk", "sourceFor", "(I)I"⟩, 9) := ⟨⟨by decide +kernel, by decide +kernel⟩, List.mem_of_getElem? (i := 145) (by decide +kernel), List.mem_of_getElem? (i := 582) (by decide +kernel), List.mem_of_getElem? (i := 583) (by decide +kernel)⟩
theorem lw_p25 : lw_okq (⟨"OrderModels$BufferWalk", "sourceIn", "(I)I"⟩, 9) := ⟨⟨by decide +kernel, by decide +kernel⟩, List.mem_of_getElem? (i := 145) (by decide +kernel), List.mem_of_getElem? (i := 586) (by decide +kernel), List.mem_of_getElem? (i := 587) (by decide +kernel)⟩
theorem lw_p26 : lw_okq (⟨"OrderModels$BufferWalk", "keepWritten", "(I)V"⟩, 9) := ⟨⟨by decide +kernel, by decide +kernel⟩, List.mem_of_getElem? (i := 145) (by decide +kernel), List.mem_of_getElem? (i := 591) (by decide +kernel), List.mem_of_getElem? (i := 592) (by decide +kernel)⟩
theorem lw_p27 : lw_okq (⟨"OrderModels$BufferWalk", "putIntoMemory", "(I)V"⟩, 9) := ⟨⟨by decide +kernel, by decide +kernel⟩, List.mem_of_getElem? (i := 145) (by decide +kernel), List.mem_of_getElem? (i := 595) (by decide +kernel), List.mem_of_getElem? (i := 596) (by decide +kernel)⟩
theorem lw_p28 : lw_okq (⟨"OrderModels$BufferWalk", "goFromBuffers", "(II)Z"⟩, 9) := ⟨⟨by decide +kernel, by decide +kernel⟩, List.mem_of_getElem? (i := 145) (by decide +kernel), List.mem_of_getElem? (i := 600) (by decide +kernel), List.mem_of_getElem? (i := 601) (by decide +kernel)⟩
theorem lw_p29 : lw_okq (⟨"OrderModels$BufferWalk", "letGo", "(III)V"⟩, 9) := ⟨⟨by decide +kernel, by decide +kernel⟩, List.mem_of_getElem? (i := 145) (by decide +kernel), List.mem_of_getElem? (i := 604) (by decide +kernel), List.mem_of_getElem? (i := 605) (by decide +kernel)⟩
theorem lw_p30 : lw_okq (⟨"OrderModels", "foundByGraphs", "(I)LOrderModels$OutcomeSet;"⟩, 6) := ⟨⟨by decide +kernel, by decide +kernel⟩, List.mem_of_getElem? (i := 15) (by decide +kernel), List.mem_of_getElem? (i := 638) (by decide +kernel), List.mem_of_getElem? (i := 639) (by decide +kernel)⟩
theorem lw_p31 : lw_okq (⟨"OrderModels$GraphSearch", "tellOwn", "(I)V"⟩, 17) := ⟨⟨by decide +kernel, by decide +kernel⟩, List.mem_of_getElem? (i := 214) (by decide +kernel), List.mem_of_getElem? (i := 649) (by decide +kernel), List.mem_of_getElem? (i := 650) (by decide +kernel)⟩
def lw_privs_2 : List (MethodName × Nat) := [(⟨"OrderModels$OutcomeSet", "add", "(JI)Z"⟩, 9), (⟨"OrderModels$OutcomeSet", "firstNotLess", "(JI)I"⟩, 9), (⟨"OrderModels$OutcomeSet", "isAt", "(IJI)Z"⟩, 9), (⟨"OrderModels$OutcomeSet", "grow", "()V"⟩, 9), (⟨"OrderModels$BufferWalk", "spread", "(I)V"⟩, 9), (⟨"OrderModels$BufferWalk", "noteRaces", "()V"⟩, 9), (⟨"OrderModels$BufferWalk", "goNext", "(II)Z"⟩, 9), (⟨"OrderModels$BufferWalk", "waitsForBuffers", "(I)Z"⟩, 9), (⟨"OrderModels$BufferWalk", "sourceFor", "(I)I"⟩, 9), (⟨"OrderModels$BufferWalk", "sourceIn", "(I)I"⟩, 9), (⟨"OrderModels$BufferWalk", "keepWritten", "(I)V"⟩, 9), (⟨"OrderModels$BufferWalk", "putIntoMemory", "(I)V"⟩, 9), (⟨"OrderModels$BufferWalk", "goFromBuffers", "(II)Z"⟩, 9), (⟨"OrderModels$BufferWalk", "letGo", "(III)V"⟩, 9), (⟨"OrderModels", "foundByGraphs", "(I)LOrderModels$OutcomeSet;"⟩, 6), (⟨"OrderModels$GraphSearch", "tellOwn", "(I)V"⟩, 17)]
theorem lw_r2 : ∀ q ∈ lw_privs_2, lw_okq q := List.forall_mem_cons.mpr ⟨lw_p16, List.forall_mem_cons.mpr ⟨lw_p17, List.forall_mem_cons.mpr ⟨lw_p18, List.forall_mem_cons.mpr ⟨lw_p19, List.forall_mem_cons.mpr ⟨lw_p20, List.forall_mem_cons.mpr ⟨lw_p21, List.forall_mem_cons.mpr ⟨lw_p22, List.forall_mem_cons.mpr ⟨lw_p23, List.forall_mem_cons.mpr ⟨lw_p24, List.forall_mem_cons.mpr ⟨lw_p25, List.forall_mem_cons.mpr ⟨lw_p26, List.forall_mem_cons.mpr ⟨lw_p27, List.forall_mem_cons.mpr ⟨lw_p28, List.forall_mem_cons.mpr ⟨lw_p29, List.forall_mem_cons.mpr ⟨lw_p30, List.forall_mem_cons.mpr ⟨lw_p31, fun _ h => absurd h List.not_mem_nil⟩⟩⟩⟩⟩⟩⟩⟩⟩⟩⟩⟩⟩⟩⟩⟩
theorem lw_p32 : lw_okq (⟨"OrderModels$GraphSearch", "choose", "(I)V"⟩, 17) := ⟨⟨by decide +kernel, by decide +kernel⟩, List.mem_of_getElem? (i := 214) (by decide +kernel), List.mem_of_getElem? (i := 661) (by decide +kernel), List.mem_of_getElem? (i := 662) (by decide +kernel)⟩
theorem lw_p33 : lw_okq (⟨"OrderModels$GraphSearch", "freeThread", "()I"⟩, 17) := ⟨⟨by decide +kernel, by decide +kernel⟩, List.mem_of_getElem? (i := 214) (by decide +kernel), List.mem_of_getElem? (i := 665) (by decide +kernel), List.mem_of_getElem? (i := 666) (by decide +kernel)⟩
theorem lw_p34 : lw_okq (⟨"OrderModels$GraphSearch", "isBlocked", "(I)Z"⟩, 17) := ⟨⟨by decide +kernel, by decide +kernel⟩, List.mem_of_getElem? (i := 214) (by decide +kernel), List.mem_of_getElem? (i := 670) (by decide +kernel), List.mem_of_getElem? (i := 671) (by decide +kernel)⟩
theorem lw_p35 : lw_okq (⟨"OrderModels$GraphSearch", "allEnded", "()Z"⟩, 17) := ⟨⟨by decide +kernel, by decide +kernel⟩, List.mem_of_getElem? (i := 214) (by decide +kernel), List.mem_of_getElem? (i := 679) (by decide +kernel), List.mem_of_getElem? (i := 680) (by decide +kernel)⟩
theorem lw_p36 : lw_okq (⟨"OrderModels$GraphSearch", "noteReaders", "()V"⟩, 17) := ⟨⟨by decide +kernel, by decide +kernel⟩, List.mem_of_getElem? (i := 214) (by decide +kernel), List.mem_of_getElem? (i := 683) (by decide +kernel), List.mem_of_getElem? (i := 684) (by decide +kernel)⟩
theorem lw_p37 : lw_okq (⟨"OrderModels$GraphSearch", "noteReader", "(I)V"⟩, 17) := ⟨⟨by decide +kernel, by decide +kernel⟩, List.mem_of_getElem? (i := 214) (by decide +kernel), List.mem_of_getElem? (i := 689) (by decide +kernel), List.mem_of_getElem? (i := 690) (by decide +kernel)⟩
theorem lw_p38 : lw_okq (⟨"OrderModels$GraphSearch", "startRow", "(II)V"⟩, 17) := ⟨⟨by decide +kernel, by decide +kernel⟩, List.mem_of_getElem? (i := 214) (by decide +kernel), List.mem_of_getElem? (i := 693) (by decide +kernel), List.mem_of_getElem? (i := 694) (by decide +kernel)⟩
theorem lw_p39 : lw_okq (⟨"OrderModels$GraphSearch", "closeHappens", "()V"⟩, 17) := ⟨⟨by decide +kernel, by decide +kernel⟩, List.mem_of_getElem? (i := 214) (by decide +kernel), List.mem_of_getElem? (i := 697) (by decide +kernel), List.mem_of_getElem? (i := 698) (by decide +kernel)⟩
theorem lw_p40 : lw_okq (⟨"OrderModels$GraphSearch", "lay", "(IIIIII)V"⟩, 17) := ⟨⟨by decide +kernel, by decide +kernel⟩, List.mem_of_getElem? (i := 214) (by decide +kernel), List.mem_of_getElem? (i := 709) (by decide +kernel), List.mem_of_getElem? (i := 710) (by decide +kernel)⟩
theorem lw_p41 : lw_okq (⟨"OrderModels$GraphSearch", "stands", "()Z"⟩, 17) := ⟨⟨by decide +kernel, by decide +kernel⟩, List.mem_of_getElem? (i := 214) (by decide +kernel), List.mem_of_getElem? (i := 713) (by decide +kernel), List.mem_of_getElem? (i := 714) (by decide +kernel)⟩
theorem lw_p42 : lw_okq (⟨"OrderModels$GraphSearch", "hasNoRing", "([I[II)Z"⟩, 17) := ⟨⟨by decide +kernel, by decide +kernel⟩, List.mem_of_getElem? (i := 214) (by decide +kernel), List.mem_of_getElem? (i := 717) (by decide +kernel), List.mem_of_getElem? (i := 718) (by decide +kernel)⟩
theorem lw_p43 : lw_okq (⟨"OrderModels$GraphSearch", "isKnownInOrder", "()Z"⟩, 17) := ⟨⟨by decide +kernel, by decide +kernel⟩, List.mem_of_getElem? (i := 214) (by decide +kernel), List.mem_of_getElem? (i := 721) (by decide +kernel), List.mem_of_getElem? (i := 722) (by decide +kernel)⟩
theorem lw_p44 : lw_okq (⟨"OrderModels$GraphSearch", "tellOuter", "()V"⟩, 17) := ⟨⟨by decide +kernel, by decide +kernel⟩, List.mem_of_getElem? (i := 214) (by decide +kernel), List.mem_of_getElem? (i := 725) (by decide +kernel), List.mem_of_getElem? (i := 726) (by decide +kernel)⟩
theorem lw_p45 : lw_okq (⟨"OrderModels$GraphSearch", "take", "(III)V"⟩, 17) := ⟨⟨by decide +kernel, by decide +kernel⟩, List.mem_of_getElem? (i := 214) (by decide +kernel), List.mem_of_getElem? (i := 735) (by decide +kernel), List.mem_of_getElem? (i := 736) (by decide +kernel)⟩
theorem lw_p46 : lw_okq (⟨"OrderModels$GraphSearch", "chooseSource", "(II)V"⟩, 17) := ⟨⟨by decide +kernel, by decide +kernel⟩, List.mem_of_getElem? (i := 214) (by decide +kernel), List.mem_of_getElem? (i := 742) (by decide +kernel), List.mem_of_getElem? (i := 743) (by decide +kernel)⟩
theorem lw_p47 : lw_okq (⟨"OrderModels$GraphSearch", "mayBeFrom", "(II)Z"⟩, 17) := ⟨⟨by decide +kernel, by decide +kernel⟩, List.mem_of_getElem? (i := 214) (by decide +kernel), List.mem_of_getElem? (i := 746) (by decide +kernel), List.mem_of_getElem? (i := 747) (by decide +kernel)⟩
def lw_privs_3 : List (MethodName × Nat) := [(⟨"OrderModels$GraphSearch", "choose", "(I)V"⟩, 17), (⟨"OrderModels$GraphSearch", "freeThread", "()I"⟩, 17), (⟨"OrderModels$GraphSearch", "isBlocked", "(I)Z"⟩, 17), (⟨"OrderModels$GraphSearch", "allEnded", "()Z"⟩, 17), (⟨"OrderModels$GraphSearch", "noteReaders", "()V"⟩, 17), (⟨"OrderModels$GraphSearch", "noteReader", "(I)V"⟩, 17), (⟨"OrderModels$GraphSearch", "startRow", "(II)V"⟩, 17), (⟨"OrderModels$GraphSearch", "closeHappens", "()V"⟩, 17), (⟨"OrderModels$GraphSearch", "lay", "(IIIIII)V"⟩, 17), (⟨"OrderModels$GraphSearch", "stands", "()Z"⟩, 17), (⟨"OrderModels$GraphSearch", "hasNoRing", "([I[II)Z"⟩, 17), (⟨"OrderModels$GraphSearch", "isKnownInOrder", "()Z"⟩, 17), (⟨"OrderModels$GraphSearch", "tellOuter", "()V"⟩, 17), (⟨"OrderModels$GraphSearch", "take", "(III)V"⟩, 17), (⟨"OrderModels$GraphSearch", "chooseSource", "(II)V"⟩, 17), (⟨"OrderModels$GraphSearch", "mayBeFrom", "(II)Z"⟩, 17)]
theorem lw_r3 : ∀ q ∈ lw_privs_3, lw_okq q := List.forall_mem_cons.mpr ⟨lw_p32, List.forall_mem_cons.mpr ⟨lw_p33, List.forall_mem_cons.mpr ⟨lw_p34, List.forall_mem_cons.mpr ⟨lw_p35, List.forall_mem_cons.mpr ⟨lw_p36, List.forall_mem_cons.mpr ⟨lw_p37, List.forall_mem_cons.mpr ⟨lw_p38, List.forall_mem_cons.mpr ⟨lw_p39, List.forall_mem_cons.mpr ⟨lw_p40, List.forall_mem_cons.mpr ⟨lw_p41, List.forall_mem_cons.mpr ⟨lw_p42, List.forall_mem_cons.mpr ⟨lw_p43, List.forall_mem_cons.mpr ⟨lw_p44, List.forall_mem_cons.mpr ⟨lw_p45, List.forall_mem_cons.mpr ⟨lw_p46, List.forall_mem_cons.mpr ⟨lw_p47, fun _ h => absurd h List.not_mem_nil⟩⟩⟩⟩⟩⟩⟩⟩⟩⟩⟩⟩⟩⟩⟩⟩
theorem lw_p48 : lw_okq (⟨"OrderModels$GraphSearch", "isPast", "(II)Z"⟩, 17) := ⟨⟨by decide +kernel, by decide +kernel⟩, List.mem_of_getElem? (i := 214) (by decide +kernel), List.mem_of_getElem? (i := 750) (by decide +kernel), List.mem_of_getElem? (i := 751) (by decide +kernel)⟩
theorem lw_p49 : lw_okq (⟨"OrderModels$GraphSearch", "isBehind", "(II)Z"⟩, 17) := ⟨⟨by decide +kernel, by decide +kernel⟩, List.mem_of_getElem? (i := 214) (by decide +kernel), List.mem_of_getElem? (i := 754) (by decide +kernel), List.mem_of_getElem? (i := 755) (by decide +kernel)⟩
theorem lw_p50 : lw_okq (⟨"OrderModels$GraphSearch", "canHappen", "(II)Z"⟩, 17) := ⟨⟨by decide +kernel, by decide +kernel⟩, List.mem_of_getElem? (i := 214) (by decide +kernel), List.mem_of_getElem? (i := 758) (by decide +kernel), List.mem_of_getElem? (i := 759) (by decide +kernel)⟩
theorem lw_p51 : lw_okq (⟨"OrderModelsModel", "anew", "()V"⟩, 48) := ⟨⟨by decide +kernel, by decide +kernel⟩, List.mem_of_getElem? (i := 789) (by decide +kernel), List.mem_of_getElem? (i := 951) (by decide +kernel), List.mem_of_getElem? (i := 952) (by decide +kernel)⟩
theorem lw_p52 : lw_okq (⟨"OrderModelsModel", "find", "(I)V"⟩, 48) := ⟨⟨by decide +kernel, by decide +kernel⟩, List.mem_of_getElem? (i := 789) (by decide +kernel), List.mem_of_getElem? (i := 970) (by decide +kernel), List.mem_of_getElem? (i := 971) (by decide +kernel)⟩
theorem lw_p53 : lw_okq (⟨"OrderModelsModel", "search", "(IZ)V"⟩, 48) := ⟨⟨by decide +kernel, by decide +kernel⟩, List.mem_of_getElem? (i := 789) (by decide +kernel), List.mem_of_getElem? (i := 974) (by decide +kernel), List.mem_of_getElem? (i := 975) (by decide +kernel)⟩
theorem lw_p54 : lw_okq (⟨"OrderModelsModel", "beginState", "()V"⟩, 48) := ⟨⟨by decide +kernel, by decide +kernel⟩, List.mem_of_getElem? (i := 789) (by decide +kernel), List.mem_of_getElem? (i := 978) (by decide +kernel), List.mem_of_getElem? (i := 979) (by decide +kernel)⟩
theorem lw_p55 : lw_okq (⟨"OrderModelsModel", "from", "(I)V"⟩, 48) := ⟨⟨by decide +kernel, by decide +kernel⟩, List.mem_of_getElem? (i := 789) (by decide +kernel), List.mem_of_getElem? (i := 982) (by decide +kernel), List.mem_of_getElem? (i := 983) (by decide +kernel)⟩
theorem lw_p56 : lw_okq (⟨"OrderModelsModel", "wasMet", "()Z"⟩, 48) := ⟨⟨by decide +kernel, by decide +kernel⟩, List.mem_of_getElem? (i := 789) (by decide +kernel), List.mem_of_getElem? (i := 986) (by decide +kernel), List.mem_of_getElem? (i := 987) (by decide +kernel)⟩
theorem lw_p57 : lw_okq (⟨"OrderModelsModel", "encode", "()V"⟩, 48) := ⟨⟨by decide +kernel, by decide +kernel⟩, List.mem_of_getElem? (i := 789) (by decide +kernel), List.mem_of_getElem? (i := 990) (by decide +kernel), List.mem_of_getElem? (i := 991) (by decide +kernel)⟩
theorem lw_p58 : lw_okq (⟨"OrderModelsModel", "bits", "(JI)V"⟩, 48) := ⟨⟨by decide +kernel, by decide +kernel⟩, List.mem_of_getElem? (i := 789) (by decide +kernel), List.mem_of_getElem? (i := 994) (by decide +kernel), List.mem_of_getElem? (i := 995) (by decide +kernel)⟩
theorem lw_p59 : lw_okq (⟨"OrderModelsModel", "encodeRows", "()V"⟩, 48) := ⟨⟨by decide +kernel, by decide +kernel⟩, List.mem_of_getElem? (i := 789) (by decide +kernel), List.mem_of_getElem? (i := 998) (by decide +kernel), List.mem_of_getElem? (i := 999) (by decide +kernel)⟩
theorem lw_p60 : lw_okq (⟨"OrderModelsModel", "placeOf", "(II)I"⟩, 48) := ⟨⟨by decide +kernel, by decide +kernel⟩, List.mem_of_getElem? (i := 789) (by decide +kernel), List.mem_of_getElem? (i := 1002) (by decide +kernel), List.mem_of_getElem? (i := 1003) (by decide +kernel)⟩
theorem lw_p61 : lw_okq (⟨"OrderModelsModel", "isIn", "(III)Z"⟩, 48) := ⟨⟨by decide +kernel, by decide +kernel⟩, List.mem_of_getElem? (i := 789) (by decide +kernel), List.mem_of_getElem? (i := 1006) (by decide +kernel), List.mem_of_getElem? (i := 1007) (by decide +kernel)⟩
theorem lw_p62 : lw_okq (⟨"OrderModelsModel", "markRaces", "()V"⟩, 48) := ⟨⟨by decide +kernel, by decide +kernel⟩, List.mem_of_getElem? (i := 789) (by decide +kernel), List.mem_of_getElem? (i := 1011) (by decide +kernel), List.mem_of_getElem? (i := 1012) (by decide +kernel)⟩
theorem lw_p63 : lw_okq (⟨"OrderModelsModel", "keep", "(I)V"⟩, 48) := ⟨⟨by decide +kernel, by decide +kernel⟩, List.mem_of_getElem? (i := 789) (by decide +kernel), List.mem_of_getElem? (i := 1015) (by decide +kernel), List.mem_of_getElem? (i := 1016) (by decide +kernel)⟩
def lw_privs_4 : List (MethodName × Nat) := [(⟨"OrderModels$GraphSearch", "isPast", "(II)Z"⟩, 17), (⟨"OrderModels$GraphSearch", "isBehind", "(II)Z"⟩, 17), (⟨"OrderModels$GraphSearch", "canHappen", "(II)Z"⟩, 17), (⟨"OrderModelsModel", "anew", "()V"⟩, 48), (⟨"OrderModelsModel", "find", "(I)V"⟩, 48), (⟨"OrderModelsModel", "search", "(IZ)V"⟩, 48), (⟨"OrderModelsModel", "beginState", "()V"⟩, 48), (⟨"OrderModelsModel", "from", "(I)V"⟩, 48), (⟨"OrderModelsModel", "wasMet", "()Z"⟩, 48), (⟨"OrderModelsModel", "encode", "()V"⟩, 48), (⟨"OrderModelsModel", "bits", "(JI)V"⟩, 48), (⟨"OrderModelsModel", "encodeRows", "()V"⟩, 48), (⟨"OrderModelsModel", "placeOf", "(II)I"⟩, 48), (⟨"OrderModelsModel", "isIn", "(III)Z"⟩, 48), (⟨"OrderModelsModel", "markRaces", "()V"⟩, 48), (⟨"OrderModelsModel", "keep", "(I)V"⟩, 48)]
theorem lw_r4 : ∀ q ∈ lw_privs_4, lw_okq q := List.forall_mem_cons.mpr ⟨lw_p48, List.forall_mem_cons.mpr ⟨lw_p49, List.forall_mem_cons.mpr ⟨lw_p50, List.forall_mem_cons.mpr ⟨lw_p51, List.forall_mem_cons.mpr ⟨lw_p52, List.forall_mem_cons.mpr ⟨lw_p53, List.forall_mem_cons.mpr ⟨lw_p54, List.forall_mem_cons.mpr ⟨lw_p55, List.forall_mem_cons.mpr ⟨lw_p56, List.forall_mem_cons.mpr ⟨lw_p57, List.forall_mem_cons.mpr ⟨lw_p58, List.forall_mem_cons.mpr ⟨lw_p59, List.forall_mem_cons.mpr ⟨lw_p60, List.forall_mem_cons.mpr ⟨lw_p61, List.forall_mem_cons.mpr ⟨lw_p62, List.forall_mem_cons.mpr ⟨lw_p63, fun _ h => absurd h List.not_mem_nil⟩⟩⟩⟩⟩⟩⟩⟩⟩⟩⟩⟩⟩⟩⟩⟩
theorem lw_p64 : lw_okq (⟨"OrderModelsModel", "step", "(II)Z"⟩, 48) := ⟨⟨by decide +kernel, by decide +kernel⟩, List.mem_of_getElem? (i := 789) (by decide +kernel), List.mem_of_getElem? (i := 1019) (by decide +kernel), List.mem_of_getElem? (i := 1020) (by decide +kernel)⟩
theorem lw_p65 : lw_okq (⟨"OrderModelsModel", "flush", "(II)Z"⟩, 48) := ⟨⟨by decide +kernel, by decide +kernel⟩, List.mem_of_getElem? (i := 789) (by decide +kernel), List.mem_of_getElem? (i := 1023) (by decide +kernel), List.mem_of_getElem? (i := 1024) (by decide +kernel)⟩
theorem lw_p66 : lw_okq (⟨"OrderModelsModel", "known", "(III)Z"⟩, 48) := ⟨⟨by decide +kernel, by decide +kernel⟩, List.mem_of_getElem? (i := 789) (by decide +kernel), List.mem_of_getElem? (i := 1027) (by decide +kernel), List.mem_of_getElem? (i := 1028) (by decide +kernel)⟩
theorem lw_p67 : lw_okq (⟨"OrderModelsModel", "learn", "(II)V"⟩, 48) := ⟨⟨by decide +kernel, by decide +kernel⟩, List.mem_of_getElem? (i := 789) (by decide +kernel), List.mem_of_getElem? (i := 1031) (by decide +kernel), List.mem_of_getElem? (i := 1032) (by decide +kernel)⟩
theorem lw_p68 : lw_okq (⟨"OrderModelsModel", "put", "(IIIII)V"⟩, 48) := ⟨⟨by decide +kernel, by decide +kernel⟩, List.mem_of_getElem? (i := 789) (by decide +kernel), List.mem_of_getElem? (i := 1035) (by decide +kernel), List.mem_of_getElem? (i := 1036) (by decide +kernel)⟩
theorem lw_p69 : lw_okq (⟨"OrderModelsModel", "sent", "(II)I"⟩, 48) := ⟨⟨by decide +kernel, by decide +kernel⟩, List.mem_of_getElem? (i := 789) (by decide +kernel), List.mem_of_getElem? (i := 1039) (by decide +kernel), List.mem_of_getElem? (i := 1040) (by decide +kernel)⟩
theorem lw_p70 : lw_okq (⟨"OrderModelsModel", "inTurn", "(II)Z"⟩, 48) := ⟨⟨by decide +kernel, by decide +kernel⟩, List.mem_of_getElem? (i := 789) (by decide +kernel), List.mem_of_getElem? (i := 1043) (by decide +kernel), List.mem_of_getElem? (i := 1044) (by decide +kernel)⟩
theorem lw_p71 : lw_okq (⟨"OrderModelsModel", "buffered", "(II)Z"⟩, 48) := ⟨⟨by decide +kernel, by decide +kernel⟩, List.mem_of_getElem? (i := 789) (by decide +kernel), List.mem_of_getElem? (i := 1047) (by decide +kernel), List.mem_of_getElem? (i := 1048) (by decide +kernel)⟩
theorem lw_p72 : lw_okq (⟨"OrderModelsModel", "isEmpty", "(I)Z"⟩, 48) := ⟨⟨by decide +kernel, by decide +kernel⟩, List.mem_of_getElem? (i := 789) (by decide +kernel), List.mem_of_getElem? (i := 1051) (by decide +kernel), List.mem_of_getElem? (i := 1052) (by decide +kernel)⟩
theorem lw_p73 : lw_okq (⟨"OrderModelsModel", "back", "(I)V"⟩, 48) := ⟨⟨by decide +kernel, by decide +kernel⟩, List.mem_of_getElem? (i := 789) (by decide +kernel), List.mem_of_getElem? (i := 1055) (by decide +kernel), List.mem_of_getElem? (i := 1056) (by decide +kernel)⟩
theorem lw_p74 : lw_okq (⟨"OrderModelsModel", "ends", "(I)V"⟩, 48) := ⟨⟨by decide +kernel, by decide +kernel⟩, List.mem_of_getElem? (i := 789) (by decide +kernel), List.mem_of_getElem? (i := 1059) (by decide +kernel), List.mem_of_getElem? (i := 1060) (by decide +kernel)⟩
theorem lw_p75 : lw_okq (⟨"OrderModelsModel", "addOutcome", "(I)I"⟩, 48) := ⟨⟨by decide +kernel, by decide +kernel⟩, List.mem_of_getElem? (i := 789) (by decide +kernel), List.mem_of_getElem? (i := 1063) (by decide +kernel), List.mem_of_getElem? (i := 1064) (by decide +kernel)⟩
theorem lw_p76 : lw_okq (⟨"OrderModelsModel", "against", "(II)I"⟩, 48) := ⟨⟨by decide +kernel, by decide +kernel⟩, List.mem_of_getElem? (i := 789) (by decide +kernel), List.mem_of_getElem? (i := 1067) (by decide +kernel), List.mem_of_getElem? (i := 1068) (by decide +kernel)⟩
theorem lw_p77 : lw_okq (⟨"OrderModelsModel", "told", "(III)I"⟩, 48) := ⟨⟨by decide +kernel, by decide +kernel⟩, List.mem_of_getElem? (i := 789) (by decide +kernel), List.mem_of_getElem? (i := 1075) (by decide +kernel), List.mem_of_getElem? (i := 1076) (by decide +kernel)⟩
theorem lw_p78 : lw_okq (⟨"OrderModelsModel", "findGraphs", "(I)V"⟩, 48) := ⟨⟨by decide +kernel, by decide +kernel⟩, List.mem_of_getElem? (i := 789) (by decide +kernel), List.mem_of_getElem? (i := 1087) (by decide +kernel), List.mem_of_getElem? (i := 1088) (by decide +kernel)⟩
theorem lw_p79 : lw_okq (⟨"OrderModelsModel", "choose", "(I)V"⟩, 48) := ⟨⟨by decide +kernel, by decide +kernel⟩, List.mem_of_getElem? (i := 789) (by decide +kernel), List.mem_of_getElem? (i := 1094) (by decide +kernel), List.mem_of_getElem? (i := 1095) (by decide +kernel)⟩
def lw_privs_5 : List (MethodName × Nat) := [(⟨"OrderModelsModel", "step", "(II)Z"⟩, 48), (⟨"OrderModelsModel", "flush", "(II)Z"⟩, 48), (⟨"OrderModelsModel", "known", "(III)Z"⟩, 48), (⟨"OrderModelsModel", "learn", "(II)V"⟩, 48), (⟨"OrderModelsModel", "put", "(IIIII)V"⟩, 48), (⟨"OrderModelsModel", "sent", "(II)I"⟩, 48), (⟨"OrderModelsModel", "inTurn", "(II)Z"⟩, 48), (⟨"OrderModelsModel", "buffered", "(II)Z"⟩, 48), (⟨"OrderModelsModel", "isEmpty", "(I)Z"⟩, 48), (⟨"OrderModelsModel", "back", "(I)V"⟩, 48), (⟨"OrderModelsModel", "ends", "(I)V"⟩, 48), (⟨"OrderModelsModel", "addOutcome", "(I)I"⟩, 48), (⟨"OrderModelsModel", "against", "(II)I"⟩, 48), (⟨"OrderModelsModel", "told", "(III)I"⟩, 48), (⟨"OrderModelsModel", "findGraphs", "(I)V"⟩, 48), (⟨"OrderModelsModel", "choose", "(I)V"⟩, 48)]
theorem lw_r5 : ∀ q ∈ lw_privs_5, lw_okq q := List.forall_mem_cons.mpr ⟨lw_p64, List.forall_mem_cons.mpr ⟨lw_p65, List.forall_mem_cons.mpr ⟨lw_p66, List.forall_mem_cons.mpr ⟨lw_p67, List.forall_mem_cons.mpr ⟨lw_p68, List.forall_mem_cons.mpr ⟨lw_p69, List.forall_mem_cons.mpr ⟨lw_p70, List.forall_mem_cons.mpr ⟨lw_p71, List.forall_mem_cons.mpr ⟨lw_p72, List.forall_mem_cons.mpr ⟨lw_p73, List.forall_mem_cons.mpr ⟨lw_p74, List.forall_mem_cons.mpr ⟨lw_p75, List.forall_mem_cons.mpr ⟨lw_p76, List.forall_mem_cons.mpr ⟨lw_p77, List.forall_mem_cons.mpr ⟨lw_p78, List.forall_mem_cons.mpr ⟨lw_p79, fun _ h => absurd h List.not_mem_nil⟩⟩⟩⟩⟩⟩⟩⟩⟩⟩⟩⟩⟩⟩⟩⟩
theorem lw_p80 : lw_okq (⟨"OrderModelsModel", "one", "()V"⟩, 48) := ⟨⟨by decide +kernel, by decide +kernel⟩, List.mem_of_getElem? (i := 789) (by decide +kernel), List.mem_of_getElem? (i := 1098) (by decide +kernel), List.mem_of_getElem? (i := 1099) (by decide +kernel)⟩
theorem lw_p81 : lw_okq (⟨"OrderModelsModel", "goes", "()Z"⟩, 48) := ⟨⟨by decide +kernel, by decide +kernel⟩, List.mem_of_getElem? (i := 789) (by decide +kernel), List.mem_of_getElem? (i := 1102) (by decide +kernel), List.mem_of_getElem? (i := 1103) (by decide +kernel)⟩
theorem lw_p82 : lw_okq (⟨"OrderModelsModel", "act", "(I)Z"⟩, 48) := ⟨⟨by decide +kernel, by decide +kernel⟩, List.mem_of_getElem? (i := 789) (by decide +kernel), List.mem_of_getElem? (i := 1106) (by decide +kernel), List.mem_of_getElem? (i := 1107) (by decide +kernel)⟩
theorem lw_p83 : lw_okq (⟨"OrderModelsModel", "rows", "(I)V"⟩, 48) := ⟨⟨by decide +kernel, by decide +kernel⟩, List.mem_of_getElem? (i := 789) (by decide +kernel), List.mem_of_getElem? (i := 1110) (by decide +kernel), List.mem_of_getElem? (i := 1111) (by decide +kernel)⟩
theorem lw_p84 : lw_okq (⟨"OrderModelsModel", "whole", "()V"⟩, 48) := ⟨⟨by decide +kernel, by decide +kernel⟩, List.mem_of_getElem? (i := 789) (by decide +kernel), List.mem_of_getElem? (i := 1114) (by decide +kernel), List.mem_of_getElem? (i := 1115) (by decide +kernel)⟩
theorem lw_p85 : lw_okq (⟨"OrderModelsModel", "relate", "()V"⟩, 48) := ⟨⟨by decide +kernel, by decide +kernel⟩, List.mem_of_getElem? (i := 789) (by decide +kernel), List.mem_of_getElem? (i := 1118) (by decide +kernel), List.mem_of_getElem? (i := 1119) (by decide +kernel)⟩
theorem lw_p86 : lw_okq (⟨"OrderModelsModel", "pair", "([III)V"⟩, 48) := ⟨⟨by decide +kernel, by decide +kernel⟩, List.mem_of_getElem? (i := 789) (by decide +kernel), List.mem_of_getElem? (i := 1122) (by decide +kernel), List.mem_of_getElem? (i := 1123) (by decide +kernel)⟩
theorem lw_p87 : lw_okq (⟨"OrderModelsModel", "taken", "(III)V"⟩, 48) := ⟨⟨by decide +kernel, by decide +kernel⟩, List.mem_of_getElem? (i := 789) (by decide +kernel), List.mem_of_getElem? (i := 1126) (by decide +kernel), List.mem_of_getElem? (i := 1127) (by decide +kernel)⟩
theorem lw_p88 : lw_okq (⟨"OrderModelsModel", "stands", "()Z"⟩, 48) := ⟨⟨by decide +kernel, by decide +kernel⟩, List.mem_of_getElem? (i := 789) (by decide +kernel), List.mem_of_getElem? (i := 1130) (by decide +kernel), List.mem_of_getElem? (i := 1131) (by decide +kernel)⟩
theorem lw_p89 : lw_okq (⟨"OrderModelsModel", "hasRing", "()Z"⟩, 48) := ⟨⟨by decide +kernel, by decide +kernel⟩, List.mem_of_getElem? (i := 789) (by decide +kernel), List.mem_of_getElem? (i := 1134) (by decide +kernel), List.mem_of_getElem? (i := 1135) (by decide +kernel)⟩
theorem lw_p90 : lw_okq (⟨"OrderModelsModel", "standsKnown", "()Z"⟩, 48) := ⟨⟨by decide +kernel, by decide +kernel⟩, List.mem_of_getElem? (i := 789) (by decide +kernel), List.mem_of_getElem? (i := 1138) (by decide +kernel), List.mem_of_getElem? (i := 1139) (by decide +kernel)⟩
theorem lw_p91 : lw_okq (⟨"OrderModelsModel", "actionOf", "(I)I"⟩, 48) := ⟨⟨by decide +kernel, by decide +kernel⟩, List.mem_of_getElem? (i := 789) (by decide +kernel), List.mem_of_getElem? (i := 1142) (by decide +kernel), List.mem_of_getElem? (i := 1143) (by decide +kernel)⟩
theorem lw_p92 : lw_okq (⟨"OrderModelsModel", "isKept", "(II)Z"⟩, 48) := ⟨⟨by decide +kernel, by decide +kernel⟩, List.mem_of_getElem? (i := 789) (by decide +kernel), List.mem_of_getElem? (i := 1146) (by decide +kernel), List.mem_of_getElem? (i := 1147) (by decide +kernel)⟩
theorem lw_p93 : lw_okq (⟨"OrderModelsModel", "isWrite", "(I)Z"⟩, 48) := ⟨⟨by decide +kernel, by decide +kernel⟩, List.mem_of_getElem? (i := 789) (by decide +kernel), List.mem_of_getElem? (i := 1150) (by decide +kernel), List.mem_of_getElem? (i := 1151) (by decide +kernel)⟩
theorem lw_p94 : lw_okq (⟨"OrderModelsModel", "isOf", "(II)Z"⟩, 48) := ⟨⟨by decide +kernel, by decide +kernel⟩, List.mem_of_getElem? (i := 789) (by decide +kernel), List.mem_of_getElem? (i := 1154) (by decide +kernel), List.mem_of_getElem? (i := 1155) (by decide +kernel)⟩
theorem lw_p95 : lw_okq (⟨"OrderModelsModel", "isInRow", "(II)Z"⟩, 48) := ⟨⟨by decide +kernel, by decide +kernel⟩, List.mem_of_getElem? (i := 789) (by decide +kernel), List.mem_of_getElem? (i := 1161) (by decide +kernel), List.mem_of_getElem? (i := 1162) (by decide +kernel)⟩
def lw_privs_6 : List (MethodName × Nat) := [(⟨"OrderModelsModel", "one", "()V"⟩, 48), (⟨"OrderModelsModel", "goes", "()Z"⟩, 48), (⟨"OrderModelsModel", "act", "(I)Z"⟩, 48), (⟨"OrderModelsModel", "rows", "(I)V"⟩, 48), (⟨"OrderModelsModel", "whole", "()V"⟩, 48), (⟨"OrderModelsModel", "relate", "()V"⟩, 48), (⟨"OrderModelsModel", "pair", "([III)V"⟩, 48), (⟨"OrderModelsModel", "taken", "(III)V"⟩, 48), (⟨"OrderModelsModel", "stands", "()Z"⟩, 48), (⟨"OrderModelsModel", "hasRing", "()Z"⟩, 48), (⟨"OrderModelsModel", "standsKnown", "()Z"⟩, 48), (⟨"OrderModelsModel", "actionOf", "(I)I"⟩, 48), (⟨"OrderModelsModel", "isKept", "(II)Z"⟩, 48), (⟨"OrderModelsModel", "isWrite", "(I)Z"⟩, 48), (⟨"OrderModelsModel", "isOf", "(II)Z"⟩, 48), (⟨"OrderModelsModel", "isInRow", "(II)Z"⟩, 48)]
theorem lw_r6 : ∀ q ∈ lw_privs_6, lw_okq q := List.forall_mem_cons.mpr ⟨lw_p80, List.forall_mem_cons.mpr ⟨lw_p81, List.forall_mem_cons.mpr ⟨lw_p82, List.forall_mem_cons.mpr ⟨lw_p83, List.forall_mem_cons.mpr ⟨lw_p84, List.forall_mem_cons.mpr ⟨lw_p85, List.forall_mem_cons.mpr ⟨lw_p86, List.forall_mem_cons.mpr ⟨lw_p87, List.forall_mem_cons.mpr ⟨lw_p88, List.forall_mem_cons.mpr ⟨lw_p89, List.forall_mem_cons.mpr ⟨lw_p90, List.forall_mem_cons.mpr ⟨lw_p91, List.forall_mem_cons.mpr ⟨lw_p92, List.forall_mem_cons.mpr ⟨lw_p93, List.forall_mem_cons.mpr ⟨lw_p94, List.forall_mem_cons.mpr ⟨lw_p95, fun _ h => absurd h List.not_mem_nil⟩⟩⟩⟩⟩⟩⟩⟩⟩⟩⟩⟩⟩⟩⟩⟩
theorem lw_p96 : lw_okq (⟨"OrderModelsModel", "mayFollow", "(II)Z"⟩, 48) := ⟨⟨by decide +kernel, by decide +kernel⟩, List.mem_of_getElem? (i := 789) (by decide +kernel), List.mem_of_getElem? (i := 1165) (by decide +kernel), List.mem_of_getElem? (i := 1166) (by decide +kernel)⟩
theorem lw_p97 : lw_okq (⟨"OrderModelsModel", "isFreeFrom", "(I)Z"⟩, 48) := ⟨⟨by decide +kernel, by decide +kernel⟩, List.mem_of_getElem? (i := 789) (by decide +kernel), List.mem_of_getElem? (i := 1169) (by decide +kernel), List.mem_of_getElem? (i := 1170) (by decide +kernel)⟩
theorem lw_p98 : lw_okq (⟨"OrderModelsModel", "findRaces", "()V"⟩, 48) := ⟨⟨by decide +kernel, by decide +kernel⟩, List.mem_of_getElem? (i := 789) (by decide +kernel), List.mem_of_getElem? (i := 1189) (by decide +kernel), List.mem_of_getElem? (i := 1190) (by decide +kernel)⟩
theorem lw_p99 : lw_okq (⟨"OrderModelsModel", "isAction", "(II)Z"⟩, 48) := ⟨⟨by decide +kernel, by decide +kernel⟩, List.mem_of_getElem? (i := 789) (by decide +kernel), List.mem_of_getElem? (i := 1197) (by decide +kernel), List.mem_of_getElem? (i := 1198) (by decide +kernel)⟩
def lw_privs_7 : List (MethodName × Nat) := [(⟨"OrderModelsModel", "mayFollow", "(II)Z"⟩, 48), (⟨"OrderModelsModel", "isFreeFrom", "(I)Z"⟩, 48), (⟨"OrderModelsModel", "findRaces", "()V"⟩, 48), (⟨"OrderModelsModel", "isAction", "(II)Z"⟩, 48)]
theorem lw_r7 : ∀ q ∈ lw_privs_7, lw_okq q := List.forall_mem_cons.mpr ⟨lw_p96, List.forall_mem_cons.mpr ⟨lw_p97, List.forall_mem_cons.mpr ⟨lw_p98, List.forall_mem_cons.mpr ⟨lw_p99, fun _ h => absurd h List.not_mem_nil⟩⟩⟩⟩
def lw_privs : List (MethodName × Nat) := lw_privs_1 ++ (lw_privs_2 ++ (lw_privs_3 ++ (lw_privs_4 ++ (lw_privs_5 ++ (lw_privs_6 ++ (lw_privs_7))))))
def lw_tbl : List Cond := k2_sels lw_privs ++ tables_1
theorem lw_privs_ok : ∀ q ∈ lw_privs, lw_okq q := by
  show ∀ q ∈ lw_privs_1 ++ (lw_privs_2 ++ (lw_privs_3 ++ (lw_privs_4 ++ (lw_privs_5 ++ (lw_privs_6 ++ (lw_privs_7)))))), lw_okq q
  exact List.forall_mem_append.mpr ⟨lw_r1, List.forall_mem_append.mpr ⟨lw_r2, List.forall_mem_append.mpr ⟨lw_r3, List.forall_mem_append.mpr ⟨lw_r4, List.forall_mem_append.mpr ⟨lw_r5, List.forall_mem_append.mpr ⟨lw_r6, lw_r7⟩⟩⟩⟩⟩⟩

/-! Own rows: a computed top of the stack gets its plain name; calls over ONE list of words for all methods. -/
section OMtop
variable {p : Program} {l : Launch} {e : Env} {R : Room} {s : State} {m : MethodId} {args : Array Value} {below : List Frame} {meth : Method} {c : Code} {H : Heap} {locs : List Loc} {cells slots : Nat} {Q : State → Prop} {pc : Nat} {ls : Array Slot} {rest : List Value}
theorem tp_i {x y : Int32} (h : x = y) (k : W p l e R s m args below meth c H locs cells slots Q (F0 m pc ls (.int y :: rest))) : W p l e R s m args below meth c H locs cells slots Q (F0 m pc ls (.int x :: rest)) := h ▸ k
theorem tp_l {x y : Int64} (h : x = y) (k : W p l e R s m args below meth c H locs cells slots Q (F0 m pc ls (.long y :: rest))) : W p l e R s m args below meth c H locs cells slots Q (F0 m pc ls (.long x :: rest)) := h ▸ k
theorem tp_r {x y : Nat} (h : x = y) (k : W p l e R s m args below meth c H locs cells slots Q (F0 m pc ls (.ref y :: rest))) : W p l e R s m args below meth c H locs cells slots Q (F0 m pc ls (.ref x :: rest)) := h ▸ k
theorem tp_v {x : Value} {y : Nat} (h : x = .ref y) (k : W p l e R s m args below meth c H locs cells slots Q (F0 m pc ls (.ref y :: rest))) : W p l e R s m args below meth c H locs cells slots Q (F0 m pc ls (x :: rest)) := h ▸ k
theorem tp_pc {pc' : Nat} {st : List Value} (h : pc = pc') (k : W p l e R s m args below meth c H locs cells slots Q (F0 m pc' ls st)) : W p l e R s m args below meth c H locs cells slots Q (F0 m pc ls st) := h ▸ k
theorem tp_vn {x : Value} (h : x = .null) (k : W p l e R s m args below meth c H locs cells slots Q (F0 m pc ls (.null :: rest))) : W p l e R s m args below meth c H locs cells slots Q (F0 m pc ls (x :: rest)) := h ▸ k
end OMtop
section OMcall
variable {s : State} {R : Room} {args : Array Value} {Ts ws ws' : List Cond} {y : MethodName} {bytes : ByteArray} {maxL index mc ms : Nat} {own C : String} {ret : Option FieldType} {rm : Room}
theorem cw_V (n : Nat) (ht : ∀ w ∈ Ts, w.before args s = true) (hG : GoodIn Ts ws) (hw : ws = Cond.code y bytes maxL ret :: ws') (hrc : rm.cells = mc) (hrs : rm.slots = ms) (hini : (Cond.initialized y.cls).before args s = true) (hl : (Cond.methodLink own index y).before args s = true) (hin : (Cond.instanceMethod y).before args s = true) (hs : (Cond.selects C y y).before args s = true)
    (hd : y.cls ≠ "java/lang/invoke/MethodHandle" ∧ y.cls ≠ "java/lang/invoke/VarHandle" ∧ (parseMethodDescriptor y.desc).map (fun d => d.parameters.length) = some n) (hR : rm.frames + 1 ≤ R.frames ∧ 8 + (maxL + 11) + rm.locals ≤ R.locals) :
    CallW R s args own C index y bytes maxL ret ws rm mc ms n := ⟨callB_of n ht hG hw hrc hrs hini hl hd hR, hin, hs⟩
theorem cw_S (n : Nat) (ht : ∀ w ∈ Ts, w.before args s = true) (hG : GoodIn Ts ws) (hw : ws = Cond.code y bytes maxL ret :: ws') (hrc : rm.cells = mc) (hrs : rm.slots = ms) (hini : (Cond.initialized y.cls).before args s = true) (hl : (Cond.methodLink own index y).before args s = true) (hst : (Cond.static y).before args s = true)
    (hd : y.cls ≠ "java/lang/invoke/MethodHandle" ∧ y.cls ≠ "java/lang/invoke/VarHandle" ∧ (parseMethodDescriptor y.desc).map (fun d => d.parameters.length) = some n) (hR : rm.frames + 1 ≤ R.frames ∧ 8 + (maxL + 11) + rm.locals ≤ R.locals) :
    CallB R s args own index y bytes maxL ret ws rm mc ms n ∧ (Cond.static y).before args s = true := ⟨callB_of n ht hG hw hrc hrs hini hl hd hR, hst⟩
end OMcall
theorem gd_in {Ts : List Cond} (hg : ∀ w ∈ Ts, goodWord w = true) {y : MethodName} {bytes : ByteArray} {n : Nat} {ret : Option FieldType} (h : Cond.code y bytes n ret ∈ Ts) : GoodIn Ts (Cond.code y bytes n ret :: Ts) := fun w hw => by
  rcases List.mem_cons.mp hw with rfl | hw
  · exact ⟨h, good_of_word (hg _ h)⟩
  · exact ⟨hw, good_of_word (hg _ hw)⟩
def wt : List Cond := lw_tbl.filter goodWord
theorem wt_good : ∀ w ∈ wt, goodWord w = true := fun _ h => (List.mem_filter.mp h).2
theorem wt_in {w : Cond} (i : Nat) (h : lw_tbl[i]? = some w) (hg : goodWord w = true) : w ∈ wt := List.mem_filter.mpr ⟨List.mem_of_getElem? h, hg⟩
theorem vp_c {i : Int32} {n : Nat} (h : ¬ (i < 0 ∨ n ≤ i.toNatClampNeg)) : vp_in i n := h
theorem up_id {f : Nat → Int32} {k : Nat} {x : Int32} (h : f k = x) (P : (Nat → Int32) → Prop) (q : P (upd f k x)) : P f := by
  have e : upd f k x = f := by
    funext j
    by_cases hj : j = k
    · subst hj; simp [upd, h]
    · simp [upd, hj]
  rw [e] at q; exact q
theorem up_idL {f : Nat → Int64} {k : Nat} {x : Int64} (h : f k = x) (P : (Nat → Int64) → Prop) (q : P (vp_updL f k x)) : P f := by
  have e : vp_updL f k x = f := by
    funext j
    by_cases hj : j = k
    · subst hj; simp [vp_updL, h]
    · simp [vp_updL, hj]
  rw [e] at q; exact q
theorem cp_0 {α : Type} (f g : Nat → α) (a b : Nat) : va_cpy f g a b 0 = g := by
  funext j; exact pk_cpy_out (by omega)
/-! The addresses of a world alone: apart, and in A. A world is written once a row. -/
abbrev oc (a ci : Nat) (fs : List Value) : Nat × va_E := (a, .inr (ci, fs))
abbrev ia (a : Nat) (cA : ClassId) (n : Nat) (f : Nat → Int32) : Nat × va_E := (a, .inl (cA, n, .inl f))
abbrev la (a : Nat) (cA : ClassId) (n : Nat) (f : Nat → Int64) : Nat × va_E := (a, .inl (cA, n, .inr (.inl f)))
abbrev qa (a : Nat) (cA : ClassId) (n : Nat) (f : Nat → Option Nat) : Nat × va_E := (a, .inl (cA, n, .inr (.inr (.inr (.inr f)))))
def dd (A : Nat → Prop) (L : List Nat) : Prop := (∀ i j a b : Nat, L[i]? = some a → L[j]? = some b → a = b → i = j) ∧ ∀ k a : Nat, L[k]? = some a → A a
theorem dd_D {A : Nat → Prop} {L : List Nat} {ws : va_W} (h : dd A L) (e : ws.map (fun q => q.1) = L) : va_D A ws := by
  subst e
  exact ⟨fun i j p q hi hj e => h.1 i j p.1 q.1 (by rw [List.getElem?_map, hi]; rfl) (by rw [List.getElem?_map, hj]; rfl) e, fun k q hk => h.2 k q.1 (by rw [List.getElem?_map, hk]; rfl)⟩
theorem dd_of {A : Nat → Prop} {L : List Nat} {ws : va_W} (h : va_D A ws) (e : ws.map (fun q => q.1) = L) : dd A L := by
  subst e
  have g : ∀ (i a : Nat), (ws.map (fun q => q.1))[i]? = some a → ∃ q, ws[i]? = some q ∧ q.1 = a := by
    intro i a hi
    rw [List.getElem?_map] at hi
    cases hq : ws[i]? with
    | none => rw [hq] at hi; cases hi
    | some q => rw [hq] at hi; exact ⟨q, rfl, Option.some.inj hi⟩
  refine ⟨fun i j a b hi hj e => ?_, fun k a hk => ?_⟩
  · obtain ⟨p, hp, e1⟩ := g i a hi
    obtain ⟨q, hq, e2⟩ := g j b hj
    exact h.1 i j p q hp hq (by rw [e1, e2]; exact e)
  · obtain ⟨p, hp, e1⟩ := g k a hk
    rw [← e1]; exact h.2 k p hp
theorem fm_of {α β : Type} {f : α → Option β} : ∀ {is : List α} {wc : List β}, is.map f = wc.map some → is.filterMap f = wc
  | [], [], _ => rfl
  | [], _ :: _, h => by cases h
  | _ :: _, [], h => by cases h
  | i :: is, w :: wc, h => by
    rw [List.map_cons, List.map_cons] at h
    injection h with h1 h2
    rw [List.filterMap_cons, h1]
    exact congrArg (w :: ·) (fm_of h2)
theorem fm_all {ws : va_W} : ∀ {is : List Nat}, is.all (fun i => decide (i < ws.length)) = true → is.map (fun i => ws[i]?) = (is.filterMap (fun i => ws[i]?)).map some
  | [], _ => rfl
  | i :: is, h => by
    rw [List.all_cons, Bool.and_eq_true] at h
    have hi := of_decide_eq_true h.1
    rw [List.map_cons, List.filterMap_cons, List.getElem?_eq_getElem hi, fm_all h.2]
    rfl
theorem cut3 {D : va_G} {cl : List vw_C} {A : Nat → Prop} {ws wc : va_W} {L : List Nat} {H0 H : Heap} {locs : List Loc} (hP : va_P D cl ws H) (hD : dd A L) (e : ws.map (fun q => q.1) = L) (hS : va_S A H0 H locs) (hA : ∀ q, H0.size ≤ q → A q) (isC : List Nat) (hn : va_nd isC = true) (hC : isC.map (fun i => ws[i]?) = wc.map some) : va_P D cl wc H ∧ va_D A wc ∧ ∀ q, va_A wc H.size q → A q :=
  ⟨hP.sub isC (fm_of hC), (dd_D hD e).sub isC hn hC, va_free (dd_D hD e) hS hA isC hC⟩
theorem join3 {D : va_G} {cl : List vw_C} {A : Nat → Prop} {ws wc w1 : va_W} {L : List Nat} {H H1 : Heap} (hP : va_P D cl ws H) (hD : dd A L) (e : ws.map (fun q => q.1) = L) (isC isR : List Nat) (hC : isC.map (fun i => ws[i]?) = wc.map some) (hR : isR.all (fun i => decide (i < L.length)) = true) (hn : va_nd isR = true) (hdis : ∀ i ∈ isR, i ∉ isC)
    (hk : ∀ q : Nat, q < H.size → ¬ va_A wc H.size q → H1[q]? = H[q]?) (hF : ∀ q, va_A wc H.size q → A q) (hP1 : va_P D cl w1 H1) (hD1 : va_D (va_A wc H.size) w1) : va_P D cl (isR.filterMap (fun i => ws[i]?) ++ w1) H1 ∧ va_D A (isR.filterMap (fun i => ws[i]?) ++ w1) :=
  va_join hP (dd_D hD e) isC isR hC (fm_all (by subst e; simpa using hR)) hn hdis hk hF hP1 hD1
theorem cp_id {α : Type} {f g : Nat → α} {a b : Nat} (P : (Nat → α) → Prop) (q : P (va_cpy f g a b 0)) : P g := by rw [cp_0] at q; exact q
/-! What a fresh object answers, by the call's own numbers. -/
def fm (m : Int32) : Prop := m = 0 ∨ m = 1 ∨ m = 2 ∨ m = 3
theorem fm_o {m : Int32} (h : m.toInt < 0 ∨ 3 < m.toInt) : ¬ fm m := by
  intro q
  rcases q with rfl | rfl | rfl | rfl <;> revert h <;> decide
def fr (m : Int32) : Int32 := if m = 0 ∨ m = 1 ∨ m = 2 ∨ m = 3 then 1 else -1
theorem fr_o {m : Int32} (h : m.toInt < 0 ∨ 3 < m.toInt) : fr m = -1 := if_neg (fm_o h)
def fv (i w : Int32) : Int32 := if i = 0 ∧ (0 ≤ w.toInt ∧ w.toInt ≤ 10) then 0 else -1000
theorem fv_i {i w : Int32} (h : i.toInt < 0 ∨ 0 < i.toInt) : fv i w = -1000 := if_neg (fun q => by obtain ⟨rfl, -⟩ := q; revert h; decide)
theorem fv_w {i w : Int32} (h : w.toInt < 0 ∨ 10 < w.toInt) : fv i w = -1000 := if_neg (fun q => by omega)
def fo (m i w : Int32) : Int32 := if m = 0 ∨ m = 1 ∨ m = 2 ∨ m = 3 then fv i w else -1000
theorem fo_o {m i w : Int32} (h : m.toInt < 0 ∨ 3 < m.toInt) : fo m i w = -1000 := if_neg (fm_o h)
theorem fo_0 (i w : Int32) : fo 0 i w = fv i w := if_pos (by decide)
theorem fo_1 (i w : Int32) : fo 1 i w = fv i w := if_pos (by decide)
theorem fo_2 (i w : Int32) : fo 2 i w = fv i w := if_pos (by decide)
theorem fo_3 (i w : Int32) : fo 3 i w = fv i w := if_pos (by decide)
def fb (m o : Int32) : Int32 := if (m = 0 ∨ m = 1 ∨ m = 2 ∨ m = 3) ∧ (o = 0 ∨ o = 1 ∨ o = 2 ∨ o = 3) then 0 else -1
theorem fb_m {m o : Int32} (h : m.toInt < 0 ∨ 3 < m.toInt) : fb m o = -1 := if_neg (fun q => fm_o h q.1)
theorem fb_n {m o : Int32} (h : o.toInt < 0 ∨ 3 < o.toInt) : fb m o = -1 := if_neg (fun q => fm_o h q.2)
/-! Counted loops: over the heap, and over the locals alone. -/
section OMloop
variable {p : Program} {l : Launch} {e : Env} {R : Room} {s : State} {m : MethodId} {args : Array Value} {below : List Frame} {meth : Method} {c : Code} {H : Heap} {locs : List Loc} {cells slots : Nat} {Q : State → Prop} {pc : Nat} {ls : Array Slot}
theorem lp_n (N : Nat) (J : Nat → Heap → List Loc → Array Slot → Prop) (h0 : J 0 H locs ls)
    (step : ∀ i H locs ls, i < N → J i H locs ls → (∀ H' locs' ls', J (i + 1) H' locs' ls' → W p l e R s m args below meth c H' locs' cells slots Q (F0 m pc ls' [])) → W p l e R s m args below meth c H locs cells slots Q (F0 m pc ls []))
    (exit : ∀ H locs ls, J N H locs ls → W p l e R s m args below meth c H locs cells slots Q (F0 m pc ls [])) : W p l e R s m args below meth c H locs cells slots Q (F0 m pc ls []) := by
  have go : ∀ n i, i + n = N → ∀ H locs ls, J i H locs ls → W p l e R s m args below meth c H locs cells slots Q (F0 m pc ls []) := by
    intro n
    induction n with
    | zero => intro i hi H locs ls h; exact exit H locs ls (by rw [← hi]; exact h)
    | succ n ih => intro i hi H locs ls h; exact step i H locs ls (by omega) h (fun H' locs' ls' h' => ih (i + 1) (by omega) H' locs' ls' h')
  exact go N 0 (Nat.zero_add N) H locs ls h0
theorem lp_l (N : Nat) (J : Nat → Array Slot → Prop) (h0 : J 0 ls)
    (step : ∀ i ls, i < N → J i ls → (∀ ls', J (i + 1) ls' → W p l e R s m args below meth c H locs cells slots Q (F0 m pc ls' [])) → W p l e R s m args below meth c H locs cells slots Q (F0 m pc ls []))
    (exit : ∀ ls, J N ls → W p l e R s m args below meth c H locs cells slots Q (F0 m pc ls [])) : W p l e R s m args below meth c H locs cells slots Q (F0 m pc ls []) := by
  have go : ∀ n i, i + n = N → ∀ ls, J i ls → W p l e R s m args below meth c H locs cells slots Q (F0 m pc ls []) := by
    intro n
    induction n with
    | zero => intro i hi ls h; exact exit ls (by rw [← hi]; exact h)
    | succ n ih => intro i hi ls h; exact step i ls (by omega) h (fun ls' h' => ih (i + 1) (by omega) ls' h')
  exact go N 0 (Nat.zero_add N) ls h0
end OMloop
theorem P_cg {D : va_G} {cl : List vw_C} {ws : va_W} {H : Heap} (q : Nat) {a : Nat} {cA : ClassId} {n : Nat} {f g : Nat → Int32} (hq : ws[q]? = some (ia a cA n g)) (h : ∀ j, j < n → g j = f j) (hP : va_P D cl ws H) : va_P D cl (ws.set q (ia a cA n f)) H := by
  intro k x hx
  by_cases hk : q = k
  · subst hk
    have hl : q < ws.length := (List.getElem?_eq_some_iff.mp hq).1
    rw [List.getElem?_set_self hl] at hx
    have hx := (Option.some.inj hx).symm
    subst hx
    have h1 : H[a]? = some (vp_cell cA (n, .inl g)) := hP q _ hq
    show H[a]? = some (vp_cell cA (n, .inl f))
    rw [h1, vp_cell_i, vp_cell_i]
    have e : (fun j : Fin n => Value.int (g j.val)) = fun j : Fin n => Value.int (f j.val) := by
      funext j; rw [h j.val j.isLt]
    show some (arrV cA n _) = some (arrV cA n _)
    unfold arrV
    rw [e]
  · rw [List.getElem?_set_ne hk] at hx
    exact hP k x hx
theorem ra_int {s : State} {cA : ClassId} (h : va_RA s cA .int) : s.vm.findClass "[I" = some cA := by
  have e : ("[" ++ FieldType.int.toString) = "[I" := by decide
  rw [← e]; exact h
theorem ra_long {s : State} {cA : ClassId} (h : va_RA s cA .long) : s.vm.findClass "[J" = some cA := by
  have e : ("[" ++ FieldType.long.toString) = "[J" := by decide
  rw [← e]; exact h
theorem P_cgL {D : va_G} {cl : List vw_C} {ws : va_W} {H : Heap} (q : Nat) {a : Nat} {cA : ClassId} {n : Nat} {f g : Nat → Int64} (hq : ws[q]? = some (la a cA n g)) (h : ∀ j, j < n → g j = f j) (hP : va_P D cl ws H) : va_P D cl (ws.set q (la a cA n f)) H := by
  intro k x hx
  by_cases hk : q = k
  · subst hk
    have hl : q < ws.length := (List.getElem?_eq_some_iff.mp hq).1
    rw [List.getElem?_set_self hl] at hx
    have hx := (Option.some.inj hx).symm
    subst hx
    have h1 : H[a]? = some (vp_cell cA (n, .inr (.inl g))) := hP q _ hq
    show H[a]? = some (vp_cell cA (n, .inr (.inl f)))
    rw [h1, vp_cell_l, vp_cell_l]
    have e : (fun j : Fin n => Value.long (g j.val)) = fun j : Fin n => Value.long (f j.val) := by
      funext j; rw [h j.val j.isLt]
    show some (arrV cA n _) = some (arrV cA n _)
    unfold arrV
    rw [e]
  · rw [List.getElem?_set_ne hk] at hx
    exact hP k x hx
theorem up_pt {f : Nat → Int32} {k n : Nat} {x : Int32} (h : f k = x) : ∀ j, j < n → upd f k x j = f j := by
  intro j _
  by_cases e : j = k
  · subst e; simp [upd, h]
  · simp [upd, e]
theorem up_ptL {f : Nat → Int64} {k n : Nat} {x : Int64} (h : f k = x) : ∀ j, j < n → vp_updL f k x j = f j := by
  intro j _
  by_cases e : j = k
  · subst e; simp [vp_updL, h]
  · simp [vp_updL, e]
theorem cp_pt {α : Type} {f g : Nat → α} {a b n : Nat} : ∀ j, j < n → va_cpy f g a b 0 j = g j := fun j _ => pk_cpy_out (by omega)
def pick {α : Type} (d : α) : List α → Nat → α
  | [], _ => d
  | a :: _, 0 => a
  | _ :: l, n + 1 => pick d l n

-- ===== end of PART A; then your names; then what follows =====
/-! THE CLAIM OUT OF ONE WALK OF THE LAW'S BODY. Your part is whole_start (and what it stands on); all else here is the same for every law, but numbers. -/
def R_law : String := "OrderModelsLaw"
def lw_P (b : Addr) (xs : List Int32) (args : Array Value) (s : State) : Prop := args = #[.ref b] ∧ s.IntsAt b xs ∧ xs.length ≤ 3072 ∧ (Jvm.Cond.and given_1 narrow_1).before args s = true
def lw_Q (_ : Array Value) (s : State) (o : Outcome) (t : State) : Prop := o = .returned (some (.int 1)) ∧ Framed s o t [] 600000 7302250
def lw_Z (below : List Frame) (a : Array Value) (s : State) : State → Prop := fun t => ∃ o, t.status = .running ∧ Ended t below o ∧ lw_Q a s o t
/-- the law's own end, with 1 on the stack, nothing written that was there before, its room as the claim has it -/
theorem lw_ret {p : Program} {l : Launch} {e : Env} {s : State} {m : MethodId} {below : List Frame} {meth : Method} {c : Code} {b : Nat} (hx : p.tables.exec = Jvm.exec) (hb : c.code = code) (hr : meth.sig.returnType = ret) (hlocks : meth.locks = false) {pc : Nat} {H : Heap} {ls : Array Slot} (hdg : decode code pc = .ok (.ireturn, 1)) : W p l e room_1 s m #[Value.ref b] below meth c H [] 600000 7302250 (lw_Z below #[Value.ref b] s) (F0 m pc ls [.int 1]) := by
  intro T hT X
  obtain ⟨fs, hret, hrun, hended, hW, hframe⟩ := X.leave (v := some (.int 1)) (hlocks := hlocks) (fun h => by rw [hr] at h; cases h)
  have hmeth' : T.vm.method? m = some meth := X.method'
  refine ⟨T.setFrames fs, ?_, .returned (some (.int 1)), hrun, hended, rfl, ⟨_, rfl⟩, hW, hframe⟩
  jvm_step X.here [X.here.top, hx, hb, hdg, hmeth', hr, ret, narrow_b1]
  (try refine ⟨rfl, ?_⟩); (try refine ⟨rfl, ?_⟩)
  first | (intro acts; rw [hret _ acts rfl rfl rfl]) | rw [hret _ _ rfl rfl rfl]
  exact Steps.refl _
/-- what holds at the law's entry: the machine, the code, the tables' words (any of lw_tbl by 'hts w (by decide +kernel)'), the script of L ints xs at the cell b, what the Statement gives of the start (any of its parts by flat_of_before) -/
def lw_At (p : Program) (s : State) (m : MethodId) (meth : Method) (c : Code) (b L : Nat) (xs : Nat → Int32) : Prop :=
  p.tables.exec = Jvm.exec ∧ c.code = code ∧ meth.sig.returnType = ret ∧ c.maxLocals = 4 ∧ s.vm.findClass R_law = some m.cls ∧ (∀ w ∈ lw_tbl, w.before #[Value.ref b] s = true) ∧ va_X b L xs s s.heap ∧ b < s.heap.size ∧ meth.locks = false ∧ (Jvm.Cond.and given_1 narrow_1).before #[Value.ref b] s = true
