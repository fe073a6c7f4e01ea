section
-- ===== PART A: goes FIRST, ahead of the names: the tables' words, and 'selects' of the private methods out of them =====
/-- a private method of a class that the tables say can be made, by its rows of tables_1 -/
def lw_okq (q : MethodName × Nat) : Prop := (q.1.cls ≠ "java/lang/invoke/MethodHandle" ∧ q.1.cls ≠ "java/lang/invoke/VarHandle") ∧ Cond.instantiable q.1.cls q.2 ∈ tables_1 ∧ Cond.privateMethod q.1 ∈ tables_1 ∧ Cond.instanceMethod q.1 ∈ tables_1
theorem lw_p0 : lw_okq (⟨"Polyforge", "keptAt", "(I)LPolyforge$Polynomial;"⟩, 15) := ⟨⟨by decide +kernel, by decide +kernel⟩, List.mem_of_getElem? (i := 31) (by decide +kernel), List.mem_of_getElem? (i := 332) (by decide +kernel), List.mem_of_getElem? (i := 333) (by decide +kernel)⟩
theorem lw_p1 : lw_okq (⟨"Polyforge", "isKeptBefore", "(LPolyforge$Polynomial;I)Z"⟩, 15) := ⟨⟨by decide +kernel, by decide +kernel⟩, List.mem_of_getElem? (i := 31) (by decide +kernel), List.mem_of_getElem? (i := 336) (by decide +kernel), List.mem_of_getElem? (i := 337) (by decide +kernel)⟩
theorem lw_p2 : lw_okq (⟨"Polyforge$Line", "lowerTop", "()V"⟩, 2) := ⟨⟨by decide +kernel, by decide +kernel⟩, List.mem_of_getElem? (i := 83) (by decide +kernel), List.mem_of_getElem? (i := 404) (by decide +kernel), List.mem_of_getElem? (i := 405) (by decide +kernel)⟩
theorem lw_p3 : lw_okq (⟨"Polyforge$Bench", "scale", "(LPolyforge$Line;I)V"⟩, 18) := ⟨⟨by decide +kernel, by decide +kernel⟩, List.mem_of_getElem? (i := 77) (by decide +kernel), List.mem_of_getElem? (i := 425) (by decide +kernel), List.mem_of_getElem? (i := 426) (by decide +kernel)⟩
theorem lw_p4 : lw_okq (⟨"Polyforge$Bench", "tryCandidates", "(I)V"⟩, 18) := ⟨⟨by decide +kernel, by decide +kernel⟩, List.mem_of_getElem? (i := 77) (by decide +kernel), List.mem_of_getElem? (i := 432) (by decide +kernel), List.mem_of_getElem? (i := 433) (by decide +kernel)⟩
theorem lw_p5 : lw_okq (⟨"Polyforge$Bench", "timesTakenOut", "(LPolyforge$Line;)I"⟩, 18) := ⟨⟨by decide +kernel, by decide +kernel⟩, List.mem_of_getElem? (i := 77) (by decide +kernel), List.mem_of_getElem? (i := 437) (by decide +kernel), List.mem_of_getElem? (i := 438) (by decide +kernel)⟩
theorem lw_p6 : lw_okq (⟨"Polyforge$Bench", "divide", "(LPolyforge$Line;LPolyforge$Line;)V"⟩, 18) := ⟨⟨by decide +kernel, by decide +kernel⟩, List.mem_of_getElem? (i := 77) (by decide +kernel), List.mem_of_getElem? (i := 448) (by decide +kernel), List.mem_of_getElem? (i := 449) (by decide +kernel)⟩
theorem lw_p7 : lw_okq (⟨"Polyforge$Bench", "notePart", "(LPolyforge$Line;I)V"⟩, 18) := ⟨⟨by decide +kernel, by decide +kernel⟩, List.mem_of_getElem? (i := 77) (by decide +kernel), List.mem_of_getElem? (i := 452) (by decide +kernel), List.mem_of_getElem? (i := 453) (by decide +kernel)⟩
theorem lw_p8 : lw_okq (⟨"Polyforge$Bench", "raiseCandidate", "(I)V"⟩, 18) := ⟨⟨by decide +kernel, by decide +kernel⟩, List.mem_of_getElem? (i := 77) (by decide +kernel), List.mem_of_getElem? (i := 460) (by decide +kernel), List.mem_of_getElem? (i := 461) (by decide +kernel)⟩
theorem lw_p9 : lw_okq (⟨"Polyforge$Bench", "multiplyBy", "(LPolyforge$Line;LPolyforge$Line;)V"⟩, 18) := ⟨⟨by decide +kernel, by decide +kernel⟩, List.mem_of_getElem? (i := 77) (by decide +kernel), List.mem_of_getElem? (i := 472) (by decide +kernel), List.mem_of_getElem? (i := 473) (by decide +kernel)⟩
theorem lw_p10 : lw_okq (⟨"Polyforge$Bench", "addProduct", "(LPolyforge$Line;LPolyforge$Line;LPolyforge$Line;I)V"⟩, 18) := ⟨⟨by decide +kernel, by decide +kernel⟩, List.mem_of_getElem? (i := 77) (by decide +kernel), List.mem_of_getElem? (i := 476) (by decide +kernel), List.mem_of_getElem? (i := 477) (by decide +kernel)⟩
theorem lw_p11 : lw_okq (⟨"Polyforge$Bench", "reduce", "(LPolyforge$Line;LPolyforge$Line;)LPolyforge$Line;"⟩, 18) := ⟨⟨by decide +kernel, by decide +kernel⟩, List.mem_of_getElem? (i := 77) (by decide +kernel), List.mem_of_getElem? (i := 488) (by decide +kernel), List.mem_of_getElem? (i := 489) (by decide +kernel)⟩
theorem lw_p12 : lw_okq (⟨"Polyforge", "addedAt", "(I)LPolyforge$Ideal;"⟩, 15) := ⟨⟨by decide +kernel, by decide +kernel⟩, List.mem_of_getElem? (i := 31) (by decide +kernel), List.mem_of_getElem? (i := 492) (by decide +kernel), List.mem_of_getElem? (i := 493) (by decide +kernel)⟩
theorem lw_p13 : lw_okq (⟨"Polyforge", "basisOf", "(LPolyforge$Ideal;)LPolyforge$Stock;"⟩, 15) := ⟨⟨by decide +kernel, by decide +kernel⟩, List.mem_of_getElem? (i := 31) (by decide +kernel), List.mem_of_getElem? (i := 496) (by decide +kernel), List.mem_of_getElem? (i := 497) (by decide +kernel)⟩
theorem lw_p14 : lw_okq (⟨"Polyforge$Completion", "begin", "(IC)V"⟩, 7) := ⟨⟨by decide +kernel, by decide +kernel⟩, List.mem_of_getElem? (i := 155) (by decide +kernel), List.mem_of_getElem? (i := 504) (by decide +kernel), List.mem_of_getElem? (i := 505) (by decide +kernel)⟩
theorem lw_p15 : lw_okq (⟨"Polyforge$Buckets", "lengthOf", "(I)I"⟩, 7) := ⟨⟨by decide +kernel, by decide +kernel⟩, List.mem_of_getElem? (i := 167) (by decide +kernel), List.mem_of_getElem? (i := 558) (by decide +kernel), List.mem_of_getElem? (i := 559) (by decide +kernel)⟩
def lw_privs_1 : List (MethodName × Nat) := [(⟨"Polyforge", "keptAt", "(I)LPolyforge$Polynomial;"⟩, 15), (⟨"Polyforge", "isKeptBefore", "(LPolyforge$Polynomial;I)Z"⟩, 15), (⟨"Polyforge$Line", "lowerTop", "()V"⟩, 2), (⟨"Polyforge$Bench", "scale", "(LPolyforge$Line;I)V"⟩, 18), (⟨"Polyforge$Bench", "tryCandidates", "(I)V"⟩, 18), (⟨"Polyforge$Bench", "timesTakenOut", "(LPolyforge$Line;)I"⟩, 18), (⟨"Polyforge$Bench", "divide", "(LPolyforge$Line;LPolyforge$Line;)V"⟩, 18), (⟨"Polyforge$Bench", "notePart", "(LPolyforge$Line;I)V"⟩, 18), (⟨"Polyforge$Bench", "raiseCandidate", "(I)V"⟩, 18), (⟨"Polyforge$Bench", "multiplyBy", "(LPolyforge$Line;LPolyforge$Line;)V"⟩, 18), (⟨"Polyforge$Bench", "addProduct", "(LPolyforge$Line;LPolyforge$Line;LPolyforge$Line;I)V"⟩, 18), (⟨"Polyforge$Bench", "reduce", "(LPolyforge$Line;LPolyforge$Line;)LPolyforge$Line;"⟩, 18), (⟨"Polyforge", "addedAt", "(I)LPolyforge$Ideal;"⟩, 15), (⟨"Polyforge", "basisOf", "(LPolyforge$Ideal;)LPolyforge$Stock;"⟩, 15), (⟨"Polyforge$Completion", "begin", "(IC)V"⟩, 7), (⟨"Polyforge$Buckets", "lengthOf", "(I)I"⟩, 7)]
theorem lw_r1 : ∀ q ∈ lw_privs_1, lw_okq q := List.forall_mem_cons.mpr ⟨lw_p0, List.forall_mem_cons.mpr ⟨lw_p1, List.forall_mem_cons.mpr ⟨lw_p2, List.forall_mem_cons.mpr ⟨lw_p3, List.forall_mem_cons.mpr ⟨lw_p4, List.forall_mem_cons.mpr ⟨lw_p5, List.forall_mem_cons.mpr ⟨lw_p6, List.forall_mem_cons.mpr ⟨lw_p7, List.forall_mem_cons.mpr ⟨lw_p8, List.forall_mem_cons.mpr ⟨lw_p9, List.forall_mem_cons.mpr ⟨lw_p10, List.forall_mem_cons.mpr ⟨lw_p11, List.forall_mem_cons.mpr ⟨lw_p12, List.forall_mem_cons.mpr ⟨lw_p13, List.forall_mem_cons.mpr ⟨lw_p14, List.forall_mem_cons.mpr ⟨lw_p15, fun _ h => absurd h List.not_mem_nil⟩⟩⟩⟩⟩⟩⟩⟩⟩⟩⟩⟩⟩⟩⟩⟩
theorem lw_p16 : lw_okq (⟨"Polyforge$Buckets", "merge", "(I[JIIJI)V"⟩, 7) := ⟨⟨by decide +kernel, by decide +kernel⟩, List.mem_of_getElem? (i := 167) (by decide +kernel), List.mem_of_getElem? (i := 578) (by decide +kernel), List.mem_of_getElem? (i := 579) (by decide +kernel)⟩
theorem lw_p17 : lw_okq (⟨"Polyforge$Buckets", "headKey", "(I)J"⟩, 7) := ⟨⟨by decide +kernel, by decide +kernel⟩, List.mem_of_getElem? (i := 167) (by decide +kernel), List.mem_of_getElem? (i := 605) (by decide +kernel), List.mem_of_getElem? (i := 606) (by decide +kernel)⟩
theorem lw_p18 : lw_okq (⟨"Polyforge$Completion", "take", "(I)Z"⟩, 7) := ⟨⟨by decide +kernel, by decide +kernel⟩, List.mem_of_getElem? (i := 155) (by decide +kernel), List.mem_of_getElem? (i := 667) (by decide +kernel), List.mem_of_getElem? (i := 668) (by decide +kernel)⟩
theorem lw_p19 : lw_okq (⟨"Polyforge$Stock", "makeRoom", "(I)V"⟩, 7) := ⟨⟨by decide +kernel, by decide +kernel⟩, List.mem_of_getElem? (i := 216) (by decide +kernel), List.mem_of_getElem? (i := 686) (by decide +kernel), List.mem_of_getElem? (i := 687) (by decide +kernel)⟩
theorem lw_p20 : lw_okq (⟨"Polyforge$Completion", "dropCoveredPairs", "(I)V"⟩, 7) := ⟨⟨by decide +kernel, by decide +kernel⟩, List.mem_of_getElem? (i := 155) (by decide +kernel), List.mem_of_getElem? (i := 704) (by decide +kernel), List.mem_of_getElem? (i := 705) (by decide +kernel)⟩
theorem lw_p21 : lw_okq (⟨"Polyforge$Completion", "dividesMultiple", "(II)Z"⟩, 7) := ⟨⟨by decide +kernel, by decide +kernel⟩, List.mem_of_getElem? (i := 155) (by decide +kernel), List.mem_of_getElem? (i := 708) (by decide +kernel), List.mem_of_getElem? (i := 709) (by decide +kernel)⟩
theorem lw_p22 : lw_okq (⟨"Polyforge$Completion", "pairPart", "(II)I"⟩, 7) := ⟨⟨by decide +kernel, by decide +kernel⟩, List.mem_of_getElem? (i := 155) (by decide +kernel), List.mem_of_getElem? (i := 713) (by decide +kernel), List.mem_of_getElem? (i := 714) (by decide +kernel)⟩
theorem lw_p23 : lw_okq (⟨"Polyforge$Completion", "givesMultiple", "(III)Z"⟩, 7) := ⟨⟨by decide +kernel, by decide +kernel⟩, List.mem_of_getElem? (i := 155) (by decide +kernel), List.mem_of_getElem? (i := 717) (by decide +kernel), List.mem_of_getElem? (i := 718) (by decide +kernel)⟩
theorem lw_p24 : lw_okq (⟨"Polyforge$Completion", "dropPair", "(I)V"⟩, 7) := ⟨⟨by decide +kernel, by decide +kernel⟩, List.mem_of_getElem? (i := 155) (by decide +kernel), List.mem_of_getElem? (i := 722) (by decide +kernel), List.mem_of_getElem? (i := 723) (by decide +kernel)⟩
theorem lw_p25 : lw_okq (⟨"Polyforge$Completion", "choosePartners", "(I)V"⟩, 7) := ⟨⟨by decide +kernel, by decide +kernel⟩, List.mem_of_getElem? (i := 155) (by decide +kernel), List.mem_of_getElem? (i := 727) (by decide +kernel), List.mem_of_getElem? (i := 728) (by decide +kernel)⟩
theorem lw_p26 : lw_okq (⟨"Polyforge$Completion", "noteMultiple", "(II)V"⟩, 7) := ⟨⟨by decide +kernel, by decide +kernel⟩, List.mem_of_getElem? (i := 155) (by decide +kernel), List.mem_of_getElem? (i := 733) (by decide +kernel), List.mem_of_getElem? (i := 734) (by decide +kernel)⟩
theorem lw_p27 : lw_okq (⟨"Polyforge$Completion", "isDisjoint", "(II)Z"⟩, 7) := ⟨⟨by decide +kernel, by decide +kernel⟩, List.mem_of_getElem? (i := 155) (by decide +kernel), List.mem_of_getElem? (i := 737) (by decide +kernel), List.mem_of_getElem? (i := 738) (by decide +kernel)⟩
theorem lw_p28 : lw_okq (⟨"Polyforge$Completion", "isCovered", "(II)Z"⟩, 7) := ⟨⟨by decide +kernel, by decide +kernel⟩, List.mem_of_getElem? (i := 155) (by decide +kernel), List.mem_of_getElem? (i := 741) (by decide +kernel), List.mem_of_getElem? (i := 742) (by decide +kernel)⟩
theorem lw_p29 : lw_okq (⟨"Polyforge$Completion", "multipleDivides", "(II)Z"⟩, 7) := ⟨⟨by decide +kernel, by decide +kernel⟩, List.mem_of_getElem? (i := 155) (by decide +kernel), List.mem_of_getElem? (i := 745) (by decide +kernel), List.mem_of_getElem? (i := 746) (by decide +kernel)⟩
theorem lw_p30 : lw_okq (⟨"Polyforge$Completion", "multiple", "(II)I"⟩, 7) := ⟨⟨by decide +kernel, by decide +kernel⟩, List.mem_of_getElem? (i := 155) (by decide +kernel), List.mem_of_getElem? (i := 749) (by decide +kernel), List.mem_of_getElem? (i := 750) (by decide +kernel)⟩
theorem lw_p31 : lw_okq (⟨"Polyforge$Completion", "addPairs", "(I)V"⟩, 7) := ⟨⟨by decide +kernel, by decide +kernel⟩, List.mem_of_getElem? (i := 155) (by decide +kernel), List.mem_of_getElem? (i := 753) (by decide +kernel), List.mem_of_getElem? (i := 754) (by decide +kernel)⟩
def lw_privs_2 : List (MethodName × Nat) := [(⟨"Polyforge$Buckets", "merge", "(I[JIIJI)V"⟩, 7), (⟨"Polyforge$Buckets", "headKey", "(I)J"⟩, 7), (⟨"Polyforge$Completion", "take", "(I)Z"⟩, 7), (⟨"Polyforge$Stock", "makeRoom", "(I)V"⟩, 7), (⟨"Polyforge$Completion", "dropCoveredPairs", "(I)V"⟩, 7), (⟨"Polyforge$Completion", "dividesMultiple", "(II)Z"⟩, 7), (⟨"Polyforge$Completion", "pairPart", "(II)I"⟩, 7), (⟨"Polyforge$Completion", "givesMultiple", "(III)Z"⟩, 7), (⟨"Polyforge$Completion", "dropPair", "(I)V"⟩, 7), (⟨"Polyforge$Completion", "choosePartners", "(I)V"⟩, 7), (⟨"Polyforge$Completion", "noteMultiple", "(II)V"⟩, 7), (⟨"Polyforge$Completion", "isDisjoint", "(II)Z"⟩, 7), (⟨"Polyforge$Completion", "isCovered", "(II)Z"⟩, 7), (⟨"Polyforge$Completion", "multipleDivides", "(II)Z"⟩, 7), (⟨"Polyforge$Completion", "multiple", "(II)I"⟩, 7), (⟨"Polyforge$Completion", "addPairs", "(I)V"⟩, 7)]
theorem lw_r2 : ∀ q ∈ lw_privs_2, lw_okq q := List.forall_mem_cons.mpr ⟨lw_p16, List.forall_mem_cons.mpr ⟨lw_p17, List.forall_mem_cons.mpr ⟨lw_p18, List.forall_mem_cons.mpr ⟨lw_p19, List.forall_mem_cons.mpr ⟨lw_p20, List.forall_mem_cons.mpr ⟨lw_p21, List.forall_mem_cons.mpr ⟨lw_p22, List.forall_mem_cons.mpr ⟨lw_p23, List.forall_mem_cons.mpr ⟨lw_p24, List.forall_mem_cons.mpr ⟨lw_p25, List.forall_mem_cons.mpr ⟨lw_p26, List.forall_mem_cons.mpr ⟨lw_p27, List.forall_mem_cons.mpr ⟨lw_p28, List.forall_mem_cons.mpr ⟨lw_p29, List.forall_mem_cons.mpr ⟨lw_p30, List.forall_mem_cons.mpr ⟨lw_p31, fun _ h => absurd h List.not_mem_nil⟩⟩⟩⟩⟩⟩⟩⟩⟩⟩⟩⟩⟩⟩⟩⟩
theorem lw_p32 : lw_okq (⟨"Polyforge$Completion", "addPair", "(II)V"⟩, 7) := ⟨⟨by decide +kernel, by decide +kernel⟩, List.mem_of_getElem? (i := 155) (by decide +kernel), List.mem_of_getElem? (i := 757) (by decide +kernel), List.mem_of_getElem? (i := 758) (by decide +kernel)⟩
theorem lw_p33 : lw_okq (⟨"Polyforge$Completion", "leadDividesLead", "(II)Z"⟩, 7) := ⟨⟨by decide +kernel, by decide +kernel⟩, List.mem_of_getElem? (i := 155) (by decide +kernel), List.mem_of_getElem? (i := 762) (by decide +kernel), List.mem_of_getElem? (i := 763) (by decide +kernel)⟩
theorem lw_p34 : lw_okq (⟨"Polyforge$Completion", "leastPair", "()I"⟩, 7) := ⟨⟨by decide +kernel, by decide +kernel⟩, List.mem_of_getElem? (i := 155) (by decide +kernel), List.mem_of_getElem? (i := 775) (by decide +kernel), List.mem_of_getElem? (i := 776) (by decide +kernel)⟩
theorem lw_p35 : lw_okq (⟨"Polyforge$Completion", "multipleKey", "(I)J"⟩, 7) := ⟨⟨by decide +kernel, by decide +kernel⟩, List.mem_of_getElem? (i := 155) (by decide +kernel), List.mem_of_getElem? (i := 782) (by decide +kernel), List.mem_of_getElem? (i := 783) (by decide +kernel)⟩
theorem lw_p36 : lw_okq (⟨"Polyforge$Completion", "load", "(I)V"⟩, 7) := ⟨⟨by decide +kernel, by decide +kernel⟩, List.mem_of_getElem? (i := 155) (by decide +kernel), List.mem_of_getElem? (i := 792) (by decide +kernel), List.mem_of_getElem? (i := 793) (by decide +kernel)⟩
theorem lw_p37 : lw_okq (⟨"Polyforge$Completion", "reduced", "()LPolyforge$Stock;"⟩, 7) := ⟨⟨by decide +kernel, by decide +kernel⟩, List.mem_of_getElem? (i := 155) (by decide +kernel), List.mem_of_getElem? (i := 799) (by decide +kernel), List.mem_of_getElem? (i := 800) (by decide +kernel)⟩
theorem lw_p38 : lw_okq (⟨"Polyforge$Completion", "isMultipleOfAnother", "(I)Z"⟩, 7) := ⟨⟨by decide +kernel, by decide +kernel⟩, List.mem_of_getElem? (i := 155) (by decide +kernel), List.mem_of_getElem? (i := 803) (by decide +kernel), List.mem_of_getElem? (i := 804) (by decide +kernel)⟩
theorem lw_p39 : lw_okq (⟨"Polyforge$Completion", "leadDividesWithoutFourth", "(II)Z"⟩, 7) := ⟨⟨by decide +kernel, by decide +kernel⟩, List.mem_of_getElem? (i := 155) (by decide +kernel), List.mem_of_getElem? (i := 807) (by decide +kernel), List.mem_of_getElem? (i := 808) (by decide +kernel)⟩
theorem lw_p40 : lw_okq (⟨"Polyforge$Completion", "leastAbove", "(J)I"⟩, 7) := ⟨⟨by decide +kernel, by decide +kernel⟩, List.mem_of_getElem? (i := 155) (by decide +kernel), List.mem_of_getElem? (i := 814) (by decide +kernel), List.mem_of_getElem? (i := 815) (by decide +kernel)⟩
theorem lw_p41 : lw_okq (⟨"Polyforge", "holdsGenerators", "(LPolyforge$Ideal;LPolyforge$Stock;)Z"⟩, 15) := ⟨⟨by decide +kernel, by decide +kernel⟩, List.mem_of_getElem? (i := 31) (by decide +kernel), List.mem_of_getElem? (i := 849) (by decide +kernel), List.mem_of_getElem? (i := 850) (by decide +kernel)⟩
theorem lw_p42 : lw_okq (⟨"java/lang/Throwable", "fillInStackTrace", "(I)Ljava/lang/Throwable;"⟩, 6) := ⟨⟨by decide +kernel, by decide +kernel⟩, List.mem_of_getElem? (i := 914) (by decide +kernel), List.mem_of_getElem? (i := 912) (by decide +kernel), List.mem_of_getElem? (i := 913) (by decide +kernel)⟩
theorem lw_p43 : lw_okq (⟨"Polyforge$Slate", "settled", "(J)J"⟩, 6) := ⟨⟨by decide +kernel, by decide +kernel⟩, List.mem_of_getElem? (i := 45) (by decide +kernel), List.mem_of_getElem? (i := 952) (by decide +kernel), List.mem_of_getElem? (i := 953) (by decide +kernel)⟩
theorem lw_p44 : lw_okq (⟨"Polyforge", "keep", "()I"⟩, 15) := ⟨⟨by decide +kernel, by decide +kernel⟩, List.mem_of_getElem? (i := 31) (by decide +kernel), List.mem_of_getElem? (i := 966) (by decide +kernel), List.mem_of_getElem? (i := 967) (by decide +kernel)⟩
theorem lw_p45 : lw_okq (⟨"Polyforge", "polynomialAt", "(I)LPolyforge$Polynomial;"⟩, 15) := ⟨⟨by decide +kernel, by decide +kernel⟩, List.mem_of_getElem? (i := 31) (by decide +kernel), List.mem_of_getElem? (i := 1073) (by decide +kernel), List.mem_of_getElem? (i := 1074) (by decide +kernel)⟩
theorem lw_p46 : lw_okq (⟨"Polyforge$Slate", "term", "(I)J"⟩, 6) := ⟨⟨by decide +kernel, by decide +kernel⟩, List.mem_of_getElem? (i := 45) (by decide +kernel), List.mem_of_getElem? (i := 1124) (by decide +kernel), List.mem_of_getElem? (i := 1125) (by decide +kernel)⟩
theorem lw_p47 : lw_okq (⟨"Polyforge", "keepIf", "(Z)I"⟩, 15) := ⟨⟨by decide +kernel, by decide +kernel⟩, List.mem_of_getElem? (i := 31) (by decide +kernel), List.mem_of_getElem? (i := 1136) (by decide +kernel), List.mem_of_getElem? (i := 1137) (by decide +kernel)⟩
def lw_privs_3 : List (MethodName × Nat) := [(⟨"Polyforge$Completion", "addPair", "(II)V"⟩, 7), (⟨"Polyforge$Completion", "leadDividesLead", "(II)Z"⟩, 7), (⟨"Polyforge$Completion", "leastPair", "()I"⟩, 7), (⟨"Polyforge$Completion", "multipleKey", "(I)J"⟩, 7), (⟨"Polyforge$Completion", "load", "(I)V"⟩, 7), (⟨"Polyforge$Completion", "reduced", "()LPolyforge$Stock;"⟩, 7), (⟨"Polyforge$Completion", "isMultipleOfAnother", "(I)Z"⟩, 7), (⟨"Polyforge$Completion", "leadDividesWithoutFourth", "(II)Z"⟩, 7), (⟨"Polyforge$Completion", "leastAbove", "(J)I"⟩, 7), (⟨"Polyforge", "holdsGenerators", "(LPolyforge$Ideal;LPolyforge$Stock;)Z"⟩, 15), (⟨"java/lang/Throwable", "fillInStackTrace", "(I)Ljava/lang/Throwable;"⟩, 6), (⟨"Polyforge$Slate", "settled", "(J)J"⟩, 6), (⟨"Polyforge", "keep", "()I"⟩, 15), (⟨"Polyforge", "polynomialAt", "(I)LPolyforge$Polynomial;"⟩, 15), (⟨"Polyforge$Slate", "term", "(I)J"⟩, 6), (⟨"Polyforge", "keepIf", "(Z)I"⟩, 15)]
theorem lw_r3 : ∀ q ∈ lw_privs_3, lw_okq q := List.forall_mem_cons.mpr ⟨lw_p32, List.forall_mem_cons.mpr ⟨lw_p33, List.forall_mem_cons.mpr ⟨lw_p34, List.forall_mem_cons.mpr ⟨lw_p35, List.forall_mem_cons.mpr ⟨lw_p36, List.forall_mem_cons.mpr ⟨lw_p37, List.forall_mem_cons.mpr ⟨lw_p38, List.forall_mem_cons.mpr ⟨lw_p39, List.forall_mem_cons.mpr ⟨lw_p40, List.forall_mem_cons.mpr ⟨lw_p41, List.forall_mem_cons.mpr ⟨lw_p42, List.forall_mem_cons.mpr ⟨lw_p43, List.forall_mem_cons.mpr ⟨lw_p44, List.forall_mem_cons.mpr ⟨lw_p45, List.forall_mem_cons.mpr ⟨lw_p46, List.forall_mem_cons.mpr ⟨lw_p47, fun _ h => absurd h List.not_mem_nil⟩⟩⟩⟩⟩⟩⟩⟩⟩⟩⟩⟩⟩⟩⟩⟩
theorem lw_p48 : lw_okq (⟨"Polyforge$Slate", "canMultiply", "(LPolyforge$Polynomial;)Z"⟩, 6) := ⟨⟨by decide +kernel, by decide +kernel⟩, List.mem_of_getElem? (i := 45) (by decide +kernel), List.mem_of_getElem? (i := 1166) (by decide +kernel), List.mem_of_getElem? (i := 1167) (by decide +kernel)⟩
theorem lw_p49 : lw_okq (⟨"Polyforge$Slate", "height", "(I)I"⟩, 6) := ⟨⟨by decide +kernel, by decide +kernel⟩, List.mem_of_getElem? (i := 45) (by decide +kernel), List.mem_of_getElem? (i := 1170) (by decide +kernel), List.mem_of_getElem? (i := 1171) (by decide +kernel)⟩
theorem lw_p50 : lw_okq (⟨"Polyforge$Slate", "largest", "()J"⟩, 6) := ⟨⟨by decide +kernel, by decide +kernel⟩, List.mem_of_getElem? (i := 45) (by decide +kernel), List.mem_of_getElem? (i := 1184) (by decide +kernel), List.mem_of_getElem? (i := 1185) (by decide +kernel)⟩
theorem lw_p51 : lw_okq (⟨"Polyforge", "placeOfTerm", "(LPolyforge$Polynomial;I)I"⟩, 15) := ⟨⟨by decide +kernel, by decide +kernel⟩, List.mem_of_getElem? (i := 31) (by decide +kernel), List.mem_of_getElem? (i := 1245) (by decide +kernel), List.mem_of_getElem? (i := 1246) (by decide +kernel)⟩
theorem lw_p52 : lw_okq (⟨"Polyforge$Polynomial", "placeWith", "(III)I"⟩, 2) := ⟨⟨by decide +kernel, by decide +kernel⟩, List.mem_of_getElem? (i := 985) (by decide +kernel), List.mem_of_getElem? (i := 1273) (by decide +kernel), List.mem_of_getElem? (i := 1274) (by decide +kernel)⟩
theorem lw_p53 : lw_okq (⟨"Polyforge$Polynomial", "placeInR", "(II[I)I"⟩, 2) := ⟨⟨by decide +kernel, by decide +kernel⟩, List.mem_of_getElem? (i := 985) (by decide +kernel), List.mem_of_getElem? (i := 1277) (by decide +kernel), List.mem_of_getElem? (i := 1278) (by decide +kernel)⟩
theorem lw_p54 : lw_okq (⟨"Polyforge", "spreadTermsWith", "(LPolyforge$Polynomial;II)V"⟩, 15) := ⟨⟨by decide +kernel, by decide +kernel⟩, List.mem_of_getElem? (i := 31) (by decide +kernel), List.mem_of_getElem? (i := 1337) (by decide +kernel), List.mem_of_getElem? (i := 1338) (by decide +kernel)⟩
theorem lw_p55 : lw_okq (⟨"Polyforge$Bench", "load", "(LPolyforge$Polynomial;LPolyforge$Polynomial;)V"⟩, 18) := ⟨⟨by decide +kernel, by decide +kernel⟩, List.mem_of_getElem? (i := 77) (by decide +kernel), List.mem_of_getElem? (i := 1416) (by decide +kernel), List.mem_of_getElem? (i := 1417) (by decide +kernel)⟩
theorem lw_p56 : lw_okq (⟨"Polyforge", "keepLine", "(LPolyforge$Line;I)I"⟩, 15) := ⟨⟨by decide +kernel, by decide +kernel⟩, List.mem_of_getElem? (i := 31) (by decide +kernel), List.mem_of_getElem? (i := 1420) (by decide +kernel), List.mem_of_getElem? (i := 1421) (by decide +kernel)⟩
theorem lw_p57 : lw_okq (⟨"Polyforge", "requirePart", "(I)V"⟩, 15) := ⟨⟨by decide +kernel, by decide +kernel⟩, List.mem_of_getElem? (i := 31) (by decide +kernel), List.mem_of_getElem? (i := 1466) (by decide +kernel), List.mem_of_getElem? (i := 1467) (by decide +kernel)⟩
theorem lw_p58 : lw_okq (⟨"Polyforge$Bench", "valueAt", "(LPolyforge$Line;I)I"⟩, 18) := ⟨⟨by decide +kernel, by decide +kernel⟩, List.mem_of_getElem? (i := 77) (by decide +kernel), List.mem_of_getElem? (i := 1499) (by decide +kernel), List.mem_of_getElem? (i := 1500) (by decide +kernel)⟩
theorem lw_p59 : lw_okq (⟨"Polyforge$Bench", "setCell", "(III)V"⟩, 18) := ⟨⟨by decide +kernel, by decide +kernel⟩, List.mem_of_getElem? (i := 77) (by decide +kernel), List.mem_of_getElem? (i := 1527) (by decide +kernel), List.mem_of_getElem? (i := 1528) (by decide +kernel)⟩
theorem lw_p60 : lw_okq (⟨"Polyforge$Bench", "clearColumn", "(II)I"⟩, 18) := ⟨⟨by decide +kernel, by decide +kernel⟩, List.mem_of_getElem? (i := 77) (by decide +kernel), List.mem_of_getElem? (i := 1531) (by decide +kernel), List.mem_of_getElem? (i := 1532) (by decide +kernel)⟩
theorem lw_p61 : lw_okq (⟨"Polyforge$Bench", "cell", "(II)I"⟩, 18) := ⟨⟨by decide +kernel, by decide +kernel⟩, List.mem_of_getElem? (i := 77) (by decide +kernel), List.mem_of_getElem? (i := 1535) (by decide +kernel), List.mem_of_getElem? (i := 1536) (by decide +kernel)⟩
theorem lw_p62 : lw_okq (⟨"Polyforge$Bench", "invertModuloBelow", "(LPolyforge$Line;)V"⟩, 18) := ⟨⟨by decide +kernel, by decide +kernel⟩, List.mem_of_getElem? (i := 77) (by decide +kernel), List.mem_of_getElem? (i := 1580) (by decide +kernel), List.mem_of_getElem? (i := 1581) (by decide +kernel)⟩
theorem lw_p63 : lw_okq (⟨"Polyforge", "idealAt", "(I)LPolyforge$Ideal;"⟩, 15) := ⟨⟨by decide +kernel, by decide +kernel⟩, List.mem_of_getElem? (i := 31) (by decide +kernel), List.mem_of_getElem? (i := 1631) (by decide +kernel), List.mem_of_getElem? (i := 1632) (by decide +kernel)⟩
def lw_privs_4 : List (MethodName × Nat) := [(⟨"Polyforge$Slate", "canMultiply", "(LPolyforge$Polynomial;)Z"⟩, 6), (⟨"Polyforge$Slate", "height", "(I)I"⟩, 6), (⟨"Polyforge$Slate", "largest", "()J"⟩, 6), (⟨"Polyforge", "placeOfTerm", "(LPolyforge$Polynomial;I)I"⟩, 15), (⟨"Polyforge$Polynomial", "placeWith", "(III)I"⟩, 2), (⟨"Polyforge$Polynomial", "placeInR", "(II[I)I"⟩, 2), (⟨"Polyforge", "spreadTermsWith", "(LPolyforge$Polynomial;II)V"⟩, 15), (⟨"Polyforge$Bench", "load", "(LPolyforge$Polynomial;LPolyforge$Polynomial;)V"⟩, 18), (⟨"Polyforge", "keepLine", "(LPolyforge$Line;I)I"⟩, 15), (⟨"Polyforge", "requirePart", "(I)V"⟩, 15), (⟨"Polyforge$Bench", "valueAt", "(LPolyforge$Line;I)I"⟩, 18), (⟨"Polyforge$Bench", "setCell", "(III)V"⟩, 18), (⟨"Polyforge$Bench", "clearColumn", "(II)I"⟩, 18), (⟨"Polyforge$Bench", "cell", "(II)I"⟩, 18), (⟨"Polyforge$Bench", "invertModuloBelow", "(LPolyforge$Line;)V"⟩, 18), (⟨"Polyforge", "idealAt", "(I)LPolyforge$Ideal;"⟩, 15)]
theorem lw_r4 : ∀ q ∈ lw_privs_4, lw_okq q := List.forall_mem_cons.mpr ⟨lw_p48, List.forall_mem_cons.mpr ⟨lw_p49, List.forall_mem_cons.mpr ⟨lw_p50, List.forall_mem_cons.mpr ⟨lw_p51, List.forall_mem_cons.mpr ⟨lw_p52, List.forall_mem_cons.mpr ⟨lw_p53, List.forall_mem_cons.mpr ⟨lw_p54, List.forall_mem_cons.mpr ⟨lw_p55, List.forall_mem_cons.mpr ⟨lw_p56, List.forall_mem_cons.mpr ⟨lw_p57, List.forall_mem_cons.mpr ⟨lw_p58, List.forall_mem_cons.mpr ⟨lw_p59, List.forall_mem_cons.mpr ⟨lw_p60, List.forall_mem_cons.mpr ⟨lw_p61, List.forall_mem_cons.mpr ⟨lw_p62, List.forall_mem_cons.mpr ⟨lw_p63, fun _ h => absurd h List.not_mem_nil⟩⟩⟩⟩⟩⟩⟩⟩⟩⟩⟩⟩⟩⟩⟩⟩
theorem lw_p64 : lw_okq (⟨"Polyforge", "spreadRest", "(I)Z"⟩, 15) := ⟨⟨by decide +kernel, by decide +kernel⟩, List.mem_of_getElem? (i := 31) (by decide +kernel), List.mem_of_getElem? (i := 1691) (by decide +kernel), List.mem_of_getElem? (i := 1692) (by decide +kernel)⟩
theorem lw_p65 : lw_okq (⟨"Polyforge$Stock", "leastPower", "(I)I"⟩, 7) := ⟨⟨by decide +kernel, by decide +kernel⟩, List.mem_of_getElem? (i := 216) (by decide +kernel), List.mem_of_getElem? (i := 1721) (by decide +kernel), List.mem_of_getElem? (i := 1722) (by decide +kernel)⟩
theorem lw_p66 : lw_okq (⟨"Polyforge", "signOf", "(I)C"⟩, 15) := ⟨⟨by decide +kernel, by decide +kernel⟩, List.mem_of_getElem? (i := 31) (by decide +kernel), List.mem_of_getElem? (i := 1778) (by decide +kernel), List.mem_of_getElem? (i := 1779) (by decide +kernel)⟩
theorem lw_p67 : lw_okq (⟨"Polyforge", "rewriteOnSlate", "(LPolyforge$Polynomial;)I"⟩, 15) := ⟨⟨by decide +kernel, by decide +kernel⟩, List.mem_of_getElem? (i := 31) (by decide +kernel), List.mem_of_getElem? (i := 1813) (by decide +kernel), List.mem_of_getElem? (i := 1814) (by decide +kernel)⟩
theorem lw_p68 : lw_okq (⟨"Polyforge", "placeToRewrite", "()I"⟩, 15) := ⟨⟨by decide +kernel, by decide +kernel⟩, List.mem_of_getElem? (i := 31) (by decide +kernel), List.mem_of_getElem? (i := 1817) (by decide +kernel), List.mem_of_getElem? (i := 1818) (by decide +kernel)⟩
theorem lw_p69 : lw_okq (⟨"Polyforge", "ruleFor", "(II)LPolyforge$Rule;"⟩, 15) := ⟨⟨by decide +kernel, by decide +kernel⟩, List.mem_of_getElem? (i := 31) (by decide +kernel), List.mem_of_getElem? (i := 1823) (by decide +kernel), List.mem_of_getElem? (i := 1824) (by decide +kernel)⟩
theorem lw_p70 : lw_okq (⟨"Polyforge", "canUse", "(LPolyforge$Rule;I)Z"⟩, 15) := ⟨⟨by decide +kernel, by decide +kernel⟩, List.mem_of_getElem? (i := 31) (by decide +kernel), List.mem_of_getElem? (i := 1827) (by decide +kernel), List.mem_of_getElem? (i := 1828) (by decide +kernel)⟩
theorem lw_p71 : lw_okq (⟨"Polyforge", "requireAny", "()V"⟩, 15) := ⟨⟨by decide +kernel, by decide +kernel⟩, List.mem_of_getElem? (i := 31) (by decide +kernel), List.mem_of_getElem? (i := 1857) (by decide +kernel), List.mem_of_getElem? (i := 1858) (by decide +kernel)⟩
theorem lw_p72 : lw_okq (⟨"Polyforge", "isLineAt", "(I)Z"⟩, 15) := ⟨⟨by decide +kernel, by decide +kernel⟩, List.mem_of_getElem? (i := 31) (by decide +kernel), List.mem_of_getElem? (i := 1862) (by decide +kernel), List.mem_of_getElem? (i := 1863) (by decide +kernel)⟩
theorem lw_p73 : lw_okq (⟨"PolyforgeModel", "fails", "(I)I"⟩, 45) := ⟨⟨by decide +kernel, by decide +kernel⟩, List.mem_of_getElem? (i := 1873) (by decide +kernel), List.mem_of_getElem? (i := 2034) (by decide +kernel), List.mem_of_getElem? (i := 2035) (by decide +kernel)⟩
theorem lw_p74 : lw_okq (⟨"PolyforgeModel", "keeps", "(ILPolyforgeModel$Terms;I)I"⟩, 45) := ⟨⟨by decide +kernel, by decide +kernel⟩, List.mem_of_getElem? (i := 1873) (by decide +kernel), List.mem_of_getElem? (i := 2058) (by decide +kernel), List.mem_of_getElem? (i := 2059) (by decide +kernel)⟩
theorem lw_p75 : lw_okq (⟨"PolyforgeModel", "combines", "(IIJ)I"⟩, 45) := ⟨⟨by decide +kernel, by decide +kernel⟩, List.mem_of_getElem? (i := 1873) (by decide +kernel), List.mem_of_getElem? (i := 2081) (by decide +kernel), List.mem_of_getElem? (i := 2082) (by decide +kernel)⟩
theorem lw_p76 : lw_okq (⟨"PolyforgeModel", "are", "(II)Z"⟩, 45) := ⟨⟨by decide +kernel, by decide +kernel⟩, List.mem_of_getElem? (i := 1873) (by decide +kernel), List.mem_of_getElem? (i := 2085) (by decide +kernel), List.mem_of_getElem? (i := 2086) (by decide +kernel)⟩
theorem lw_p77 : lw_okq (⟨"PolyforgeModel", "is", "(I)Z"⟩, 45) := ⟨⟨by decide +kernel, by decide +kernel⟩, List.mem_of_getElem? (i := 1873) (by decide +kernel), List.mem_of_getElem? (i := 2089) (by decide +kernel), List.mem_of_getElem? (i := 2090) (by decide +kernel)⟩
theorem lw_p78 : lw_okq (⟨"PolyforgeModel", "adds", "([JLPolyforgeModel$Terms;JII)V"⟩, 45) := ⟨⟨by decide +kernel, by decide +kernel⟩, List.mem_of_getElem? (i := 1873) (by decide +kernel), List.mem_of_getElem? (i := 2096) (by decide +kernel), List.mem_of_getElem? (i := 2097) (by decide +kernel)⟩
theorem lw_p79 : lw_okq (⟨"PolyforgeModel", "gathered", "([JI)LPolyforgeModel$Terms;"⟩, 45) := ⟨⟨by decide +kernel, by decide +kernel⟩, List.mem_of_getElem? (i := 1873) (by decide +kernel), List.mem_of_getElem? (i := 2111) (by decide +kernel), List.mem_of_getElem? (i := 2112) (by decide +kernel)⟩
def lw_privs_5 : List (MethodName × Nat) := [(⟨"Polyforge", "spreadRest", "(I)Z"⟩, 15), (⟨"Polyforge$Stock", "leastPower", "(I)I"⟩, 7), (⟨"Polyforge", "signOf", "(I)C"⟩, 15), (⟨"Polyforge", "rewriteOnSlate", "(LPolyforge$Polynomial;)I"⟩, 15), (⟨"Polyforge", "placeToRewrite", "()I"⟩, 15), (⟨"Polyforge", "ruleFor", "(II)LPolyforge$Rule;"⟩, 15), (⟨"Polyforge", "canUse", "(LPolyforge$Rule;I)Z"⟩, 15), (⟨"Polyforge", "requireAny", "()V"⟩, 15), (⟨"Polyforge", "isLineAt", "(I)Z"⟩, 15), (⟨"PolyforgeModel", "fails", "(I)I"⟩, 45), (⟨"PolyforgeModel", "keeps", "(ILPolyforgeModel$Terms;I)I"⟩, 45), (⟨"PolyforgeModel", "combines", "(IIJ)I"⟩, 45), (⟨"PolyforgeModel", "are", "(II)Z"⟩, 45), (⟨"PolyforgeModel", "is", "(I)Z"⟩, 45), (⟨"PolyforgeModel", "adds", "([JLPolyforgeModel$Terms;JII)V"⟩, 45), (⟨"PolyforgeModel", "gathered", "([JI)LPolyforgeModel$Terms;"⟩, 45)]
theorem lw_r5 : ∀ q ∈ lw_privs_5, lw_okq q := List.forall_mem_cons.mpr ⟨lw_p64, List.forall_mem_cons.mpr ⟨lw_p65, List.forall_mem_cons.mpr ⟨lw_p66, List.forall_mem_cons.mpr ⟨lw_p67, List.forall_mem_cons.mpr ⟨lw_p68, List.forall_mem_cons.mpr ⟨lw_p69, List.forall_mem_cons.mpr ⟨lw_p70, List.forall_mem_cons.mpr ⟨lw_p71, List.forall_mem_cons.mpr ⟨lw_p72, List.forall_mem_cons.mpr ⟨lw_p73, List.forall_mem_cons.mpr ⟨lw_p74, List.forall_mem_cons.mpr ⟨lw_p75, List.forall_mem_cons.mpr ⟨lw_p76, List.forall_mem_cons.mpr ⟨lw_p77, List.forall_mem_cons.mpr ⟨lw_p78, List.forall_mem_cons.mpr ⟨lw_p79, fun _ h => absurd h List.not_mem_nil⟩⟩⟩⟩⟩⟩⟩⟩⟩⟩⟩⟩⟩⟩⟩⟩
theorem lw_p80 : lw_okq (⟨"PolyforgeModel", "begins", "(J)V"⟩, 45) := ⟨⟨by decide +kernel, by decide +kernel⟩, List.mem_of_getElem? (i := 1873) (by decide +kernel), List.mem_of_getElem? (i := 2135) (by decide +kernel), List.mem_of_getElem? (i := 2136) (by decide +kernel)⟩
theorem lw_p81 : lw_okq (⟨"PolyforgeModel", "raises", "(LPolyforgeModel$Terms;I)V"⟩, 45) := ⟨⟨by decide +kernel, by decide +kernel⟩, List.mem_of_getElem? (i := 1873) (by decide +kernel), List.mem_of_getElem? (i := 2139) (by decide +kernel), List.mem_of_getElem? (i := 2140) (by decide +kernel)⟩
theorem lw_p82 : lw_okq (⟨"PolyforgeModel", "works", "(LPolyforgeModel$Terms;)V"⟩, 45) := ⟨⟨by decide +kernel, by decide +kernel⟩, List.mem_of_getElem? (i := 1873) (by decide +kernel), List.mem_of_getElem? (i := 2171) (by decide +kernel), List.mem_of_getElem? (i := 2172) (by decide +kernel)⟩
theorem lw_p83 : lw_okq (⟨"PolyforgeModel", "laysWork", "(LPolyforgeModel$Terms;I)V"⟩, 45) := ⟨⟨by decide +kernel, by decide +kernel⟩, List.mem_of_getElem? (i := 1873) (by decide +kernel), List.mem_of_getElem? (i := 2175) (by decide +kernel), List.mem_of_getElem? (i := 2176) (by decide +kernel)⟩
theorem lw_p84 : lw_okq (⟨"PolyforgeModel", "worksBackward", "(LPolyforgeModel$Terms;I)V"⟩, 45) := ⟨⟨by decide +kernel, by decide +kernel⟩, List.mem_of_getElem? (i := 1873) (by decide +kernel), List.mem_of_getElem? (i := 2179) (by decide +kernel), List.mem_of_getElem? (i := 2180) (by decide +kernel)⟩
theorem lw_p85 : lw_okq (⟨"PolyforgeModel", "addsPower", "([JJII)V"⟩, 45) := ⟨⟨by decide +kernel, by decide +kernel⟩, List.mem_of_getElem? (i := 1873) (by decide +kernel), List.mem_of_getElem? (i := 2212) (by decide +kernel), List.mem_of_getElem? (i := 2213) (by decide +kernel)⟩
theorem lw_p86 : lw_okq (⟨"PolyforgeModel", "contentOf", "(I)J"⟩, 45) := ⟨⟨by decide +kernel, by decide +kernel⟩, List.mem_of_getElem? (i := 1873) (by decide +kernel), List.mem_of_getElem? (i := 2224) (by decide +kernel), List.mem_of_getElem? (i := 2225) (by decide +kernel)⟩
theorem lw_p87 : lw_okq (⟨"PolyforgeModel", "divided", "(IIZ)I"⟩, 45) := ⟨⟨by decide +kernel, by decide +kernel⟩, List.mem_of_getElem? (i := 1873) (by decide +kernel), List.mem_of_getElem? (i := 2243) (by decide +kernel), List.mem_of_getElem? (i := 2244) (by decide +kernel)⟩
theorem lw_p88 : lw_okq (⟨"PolyforgeModel", "areLines", "(II)Z"⟩, 45) := ⟨⟨by decide +kernel, by decide +kernel⟩, List.mem_of_getElem? (i := 1873) (by decide +kernel), List.mem_of_getElem? (i := 2247) (by decide +kernel), List.mem_of_getElem? (i := 2248) (by decide +kernel)⟩
theorem lw_p89 : lw_okq (⟨"PolyforgeModel", "isLine", "(I)Z"⟩, 45) := ⟨⟨by decide +kernel, by decide +kernel⟩, List.mem_of_getElem? (i := 1873) (by decide +kernel), List.mem_of_getElem? (i := 2251) (by decide +kernel), List.mem_of_getElem? (i := 2252) (by decide +kernel)⟩
theorem lw_p90 : lw_okq (⟨"PolyforgeModel", "line", "(II)[I"⟩, 45) := ⟨⟨by decide +kernel, by decide +kernel⟩, List.mem_of_getElem? (i := 1873) (by decide +kernel), List.mem_of_getElem? (i := 2256) (by decide +kernel), List.mem_of_getElem? (i := 2257) (by decide +kernel)⟩
theorem lw_p91 : lw_okq (⟨"PolyforgeModel", "keepsLine", "([III)I"⟩, 45) := ⟨⟨by decide +kernel, by decide +kernel⟩, List.mem_of_getElem? (i := 1873) (by decide +kernel), List.mem_of_getElem? (i := 2269) (by decide +kernel), List.mem_of_getElem? (i := 2270) (by decide +kernel)⟩
theorem lw_p92 : lw_okq (⟨"PolyforgeModel", "isShort", "(I)Z"⟩, 45) := ⟨⟨by decide +kernel, by decide +kernel⟩, List.mem_of_getElem? (i := 1873) (by decide +kernel), List.mem_of_getElem? (i := 2288) (by decide +kernel), List.mem_of_getElem? (i := 2289) (by decide +kernel)⟩
theorem lw_p93 : lw_okq (⟨"PolyforgeModel", "factorize", "(I)V"⟩, 45) := ⟨⟨by decide +kernel, by decide +kernel⟩, List.mem_of_getElem? (i := 1873) (by decide +kernel), List.mem_of_getElem? (i := 2292) (by decide +kernel), List.mem_of_getElem? (i := 2293) (by decide +kernel)⟩
theorem lw_p94 : lw_okq (⟨"PolyforgeModel", "finds", "([II)V"⟩, 45) := ⟨⟨by decide +kernel, by decide +kernel⟩, List.mem_of_getElem? (i := 1873) (by decide +kernel), List.mem_of_getElem? (i := 2302) (by decide +kernel), List.mem_of_getElem? (i := 2303) (by decide +kernel)⟩
theorem lw_p95 : lw_okq (⟨"PolyforgeModel", "determinant", "(II)I"⟩, 45) := ⟨⟨by decide +kernel, by decide +kernel⟩, List.mem_of_getElem? (i := 1873) (by decide +kernel), List.mem_of_getElem? (i := 2330) (by decide +kernel), List.mem_of_getElem? (i := 2331) (by decide +kernel)⟩
def lw_privs_6 : List (MethodName × Nat) := [(⟨"PolyforgeModel", "begins", "(J)V"⟩, 45), (⟨"PolyforgeModel", "raises", "(LPolyforgeModel$Terms;I)V"⟩, 45), (⟨"PolyforgeModel", "works", "(LPolyforgeModel$Terms;)V"⟩, 45), (⟨"PolyforgeModel", "laysWork", "(LPolyforgeModel$Terms;I)V"⟩, 45), (⟨"PolyforgeModel", "worksBackward", "(LPolyforgeModel$Terms;I)V"⟩, 45), (⟨"PolyforgeModel", "addsPower", "([JJII)V"⟩, 45), (⟨"PolyforgeModel", "contentOf", "(I)J"⟩, 45), (⟨"PolyforgeModel", "divided", "(IIZ)I"⟩, 45), (⟨"PolyforgeModel", "areLines", "(II)Z"⟩, 45), (⟨"PolyforgeModel", "isLine", "(I)Z"⟩, 45), (⟨"PolyforgeModel", "line", "(II)[I"⟩, 45), (⟨"PolyforgeModel", "keepsLine", "([III)I"⟩, 45), (⟨"PolyforgeModel", "isShort", "(I)Z"⟩, 45), (⟨"PolyforgeModel", "factorize", "(I)V"⟩, 45), (⟨"PolyforgeModel", "finds", "([II)V"⟩, 45), (⟨"PolyforgeModel", "determinant", "(II)I"⟩, 45)]
theorem lw_r6 : ∀ q ∈ lw_privs_6, lw_okq q := List.forall_mem_cons.mpr ⟨lw_p80, List.forall_mem_cons.mpr ⟨lw_p81, List.forall_mem_cons.mpr ⟨lw_p82, List.forall_mem_cons.mpr ⟨lw_p83, List.forall_mem_cons.mpr ⟨lw_p84, List.forall_mem_cons.mpr ⟨lw_p85, List.forall_mem_cons.mpr ⟨lw_p86, List.forall_mem_cons.mpr ⟨lw_p87, List.forall_mem_cons.mpr ⟨lw_p88, List.forall_mem_cons.mpr ⟨lw_p89, List.forall_mem_cons.mpr ⟨lw_p90, List.forall_mem_cons.mpr ⟨lw_p91, List.forall_mem_cons.mpr ⟨lw_p92, List.forall_mem_cons.mpr ⟨lw_p93, List.forall_mem_cons.mpr ⟨lw_p94, List.forall_mem_cons.mpr ⟨lw_p95, fun _ h => absurd h List.not_mem_nil⟩⟩⟩⟩⟩⟩⟩⟩⟩⟩⟩⟩⟩⟩⟩⟩
theorem lw_p96 : lw_okq (⟨"PolyforgeModel", "inverts", "(I)V"⟩, 45) := ⟨⟨by decide +kernel, by decide +kernel⟩, List.mem_of_getElem? (i := 1873) (by decide +kernel), List.mem_of_getElem? (i := 2354) (by decide +kernel), List.mem_of_getElem? (i := 2355) (by decide +kernel)⟩
theorem lw_p97 : lw_okq (⟨"PolyforgeModel", "isIdeal", "(I)Z"⟩, 45) := ⟨⟨by decide +kernel, by decide +kernel⟩, List.mem_of_getElem? (i := 1873) (by decide +kernel), List.mem_of_getElem? (i := 2366) (by decide +kernel), List.mem_of_getElem? (i := 2367) (by decide +kernel)⟩
theorem lw_p98 : lw_okq (⟨"PolyforgeModel", "finds", "(I)V"⟩, 45) := ⟨⟨by decide +kernel, by decide +kernel⟩, List.mem_of_getElem? (i := 1873) (by decide +kernel), List.mem_of_getElem? (i := 2375) (by decide +kernel), List.mem_of_getElem? (i := 2376) (by decide +kernel)⟩
theorem lw_p99 : lw_okq (⟨"PolyforgeModel", "reduces", "(II)V"⟩, 45) := ⟨⟨by decide +kernel, by decide +kernel⟩, List.mem_of_getElem? (i := 1873) (by decide +kernel), List.mem_of_getElem? (i := 2379) (by decide +kernel), List.mem_of_getElem? (i := 2380) (by decide +kernel)⟩
theorem lw_p100 : lw_okq (⟨"PolyforgeModel", "lead", "(I)I"⟩, 45) := ⟨⟨by decide +kernel, by decide +kernel⟩, List.mem_of_getElem? (i := 1873) (by decide +kernel), List.mem_of_getElem? (i := 2383) (by decide +kernel), List.mem_of_getElem? (i := 2384) (by decide +kernel)⟩
theorem lw_p101 : lw_okq (⟨"PolyforgeModel", "takes", "(III[I[IIII)V"⟩, 45) := ⟨⟨by decide +kernel, by decide +kernel⟩, List.mem_of_getElem? (i := 1873) (by decide +kernel), List.mem_of_getElem? (i := 2390) (by decide +kernel), List.mem_of_getElem? (i := 2391) (by decide +kernel)⟩
theorem lw_p102 : lw_okq (⟨"PolyforgeModel", "isGreater", "(II)Z"⟩, 45) := ⟨⟨by decide +kernel, by decide +kernel⟩, List.mem_of_getElem? (i := 1873) (by decide +kernel), List.mem_of_getElem? (i := 2394) (by decide +kernel), List.mem_of_getElem? (i := 2395) (by decide +kernel)⟩
theorem lw_p103 : lw_okq (⟨"PolyforgeModel", "swapsWork", "()V"⟩, 45) := ⟨⟨by decide +kernel, by decide +kernel⟩, List.mem_of_getElem? (i := 1873) (by decide +kernel), List.mem_of_getElem? (i := 2398) (by decide +kernel), List.mem_of_getElem? (i := 2399) (by decide +kernel)⟩
theorem lw_p104 : lw_okq (⟨"PolyforgeModel", "pools", "(I)V"⟩, 45) := ⟨⟨by decide +kernel, by decide +kernel⟩, List.mem_of_getElem? (i := 1873) (by decide +kernel), List.mem_of_getElem? (i := 2402) (by decide +kernel), List.mem_of_getElem? (i := 2403) (by decide +kernel)⟩
theorem lw_p105 : lw_okq (⟨"PolyforgeModel", "pairs", "(I)Z"⟩, 45) := ⟨⟨by decide +kernel, by decide +kernel⟩, List.mem_of_getElem? (i := 1873) (by decide +kernel), List.mem_of_getElem? (i := 2406) (by decide +kernel), List.mem_of_getElem? (i := 2407) (by decide +kernel)⟩
theorem lw_p106 : lw_okq (⟨"PolyforgeModel", "isFree", "(III)Z"⟩, 45) := ⟨⟨by decide +kernel, by decide +kernel⟩, List.mem_of_getElem? (i := 1873) (by decide +kernel), List.mem_of_getElem? (i := 2413) (by decide +kernel), List.mem_of_getElem? (i := 2414) (by decide +kernel)⟩
theorem lw_p107 : lw_okq (⟨"PolyforgeModel", "finishes", "(I)V"⟩, 45) := ⟨⟨by decide +kernel, by decide +kernel⟩, List.mem_of_getElem? (i := 1873) (by decide +kernel), List.mem_of_getElem? (i := 2418) (by decide +kernel), List.mem_of_getElem? (i := 2419) (by decide +kernel)⟩
theorem lw_p108 : lw_okq (⟨"PolyforgeModel", "fit", "(II)Z"⟩, 45) := ⟨⟨by decide +kernel, by decide +kernel⟩, List.mem_of_getElem? (i := 1873) (by decide +kernel), List.mem_of_getElem? (i := 2440) (by decide +kernel), List.mem_of_getElem? (i := 2441) (by decide +kernel)⟩
theorem lw_p109 : lw_okq (⟨"PolyforgeModel", "normal", "(II)V"⟩, 45) := ⟨⟨by decide +kernel, by decide +kernel⟩, List.mem_of_getElem? (i := 1873) (by decide +kernel), List.mem_of_getElem? (i := 2444) (by decide +kernel), List.mem_of_getElem? (i := 2445) (by decide +kernel)⟩
theorem lw_p110 : lw_okq (⟨"PolyforgeModel", "keepsOut", "(III)I"⟩, 45) := ⟨⟨by decide +kernel, by decide +kernel⟩, List.mem_of_getElem? (i := 1873) (by decide +kernel), List.mem_of_getElem? (i := 2448) (by decide +kernel), List.mem_of_getElem? (i := 2449) (by decide +kernel)⟩
theorem lw_p111 : lw_okq (⟨"PolyforgeModel", "pure", "(I)I"⟩, 45) := ⟨⟨by decide +kernel, by decide +kernel⟩, List.mem_of_getElem? (i := 1873) (by decide +kernel), List.mem_of_getElem? (i := 2460) (by decide +kernel), List.mem_of_getElem? (i := 2461) (by decide +kernel)⟩
def lw_privs_7 : List (MethodName × Nat) := [(⟨"PolyforgeModel", "inverts", "(I)V"⟩, 45), (⟨"PolyforgeModel", "isIdeal", "(I)Z"⟩, 45), (⟨"PolyforgeModel", "finds", "(I)V"⟩, 45), (⟨"PolyforgeModel", "reduces", "(II)V"⟩, 45), (⟨"PolyforgeModel", "lead", "(I)I"⟩, 45), (⟨"PolyforgeModel", "takes", "(III[I[IIII)V"⟩, 45), (⟨"PolyforgeModel", "isGreater", "(II)Z"⟩, 45), (⟨"PolyforgeModel", "swapsWork", "()V"⟩, 45), (⟨"PolyforgeModel", "pools", "(I)V"⟩, 45), (⟨"PolyforgeModel", "pairs", "(I)Z"⟩, 45), (⟨"PolyforgeModel", "isFree", "(III)Z"⟩, 45), (⟨"PolyforgeModel", "finishes", "(I)V"⟩, 45), (⟨"PolyforgeModel", "fit", "(II)Z"⟩, 45), (⟨"PolyforgeModel", "normal", "(II)V"⟩, 45), (⟨"PolyforgeModel", "keepsOut", "(III)I"⟩, 45), (⟨"PolyforgeModel", "pure", "(I)I"⟩, 45)]
theorem lw_r7 : ∀ q ∈ lw_privs_7, lw_okq q := List.forall_mem_cons.mpr ⟨lw_p96, List.forall_mem_cons.mpr ⟨lw_p97, List.forall_mem_cons.mpr ⟨lw_p98, List.forall_mem_cons.mpr ⟨lw_p99, List.forall_mem_cons.mpr ⟨lw_p100, List.forall_mem_cons.mpr ⟨lw_p101, List.forall_mem_cons.mpr ⟨lw_p102, List.forall_mem_cons.mpr ⟨lw_p103, List.forall_mem_cons.mpr ⟨lw_p104, List.forall_mem_cons.mpr ⟨lw_p105, List.forall_mem_cons.mpr ⟨lw_p106, List.forall_mem_cons.mpr ⟨lw_p107, List.forall_mem_cons.mpr ⟨lw_p108, List.forall_mem_cons.mpr ⟨lw_p109, List.forall_mem_cons.mpr ⟨lw_p110, List.forall_mem_cons.mpr ⟨lw_p111, fun _ h => absurd h List.not_mem_nil⟩⟩⟩⟩⟩⟩⟩⟩⟩⟩⟩⟩⟩⟩⟩⟩
theorem lw_p112 : lw_okq (⟨"PolyforgeModel", "knownSigns", "()I"⟩, 45) := ⟨⟨by decide +kernel, by decide +kernel⟩, List.mem_of_getElem? (i := 1873) (by decide +kernel), List.mem_of_getElem? (i := 2475) (by decide +kernel), List.mem_of_getElem? (i := 2476) (by decide +kernel)⟩
theorem lw_p113 : lw_okq (⟨"PolyforgeModel", "rewritten", "(I)I"⟩, 45) := ⟨⟨by decide +kernel, by decide +kernel⟩, List.mem_of_getElem? (i := 1873) (by decide +kernel), List.mem_of_getElem? (i := 2495) (by decide +kernel), List.mem_of_getElem? (i := 2496) (by decide +kernel)⟩
theorem lw_p114 : lw_okq (⟨"PolyforgeModel", "rewrites", "(I)V"⟩, 45) := ⟨⟨by decide +kernel, by decide +kernel⟩, List.mem_of_getElem? (i := 1873) (by decide +kernel), List.mem_of_getElem? (i := 2499) (by decide +kernel), List.mem_of_getElem? (i := 2500) (by decide +kernel)⟩
theorem lw_p115 : lw_okq (⟨"PolyforgeModel", "ruleFor", "(II)I"⟩, 45) := ⟨⟨by decide +kernel, by decide +kernel⟩, List.mem_of_getElem? (i := 1873) (by decide +kernel), List.mem_of_getElem? (i := 2503) (by decide +kernel), List.mem_of_getElem? (i := 2504) (by decide +kernel)⟩
theorem lw_p116 : lw_okq (⟨"PolyforgeModel", "stepsOn", "(III)V"⟩, 45) := ⟨⟨by decide +kernel, by decide +kernel⟩, List.mem_of_getElem? (i := 1873) (by decide +kernel), List.mem_of_getElem? (i := 2507) (by decide +kernel), List.mem_of_getElem? (i := 2508) (by decide +kernel)⟩
def lw_privs_8 : List (MethodName × Nat) := [(⟨"PolyforgeModel", "knownSigns", "()I"⟩, 45), (⟨"PolyforgeModel", "rewritten", "(I)I"⟩, 45), (⟨"PolyforgeModel", "rewrites", "(I)V"⟩, 45), (⟨"PolyforgeModel", "ruleFor", "(II)I"⟩, 45), (⟨"PolyforgeModel", "stepsOn", "(III)V"⟩, 45)]
theorem lw_r8 : ∀ q ∈ lw_privs_8, lw_okq q := List.forall_mem_cons.mpr ⟨lw_p112, List.forall_mem_cons.mpr ⟨lw_p113, List.forall_mem_cons.mpr ⟨lw_p114, List.forall_mem_cons.mpr ⟨lw_p115, List.forall_mem_cons.mpr ⟨lw_p116, fun _ h => absurd h List.not_mem_nil⟩⟩⟩⟩⟩
def lw_privs : List (MethodName × Nat) := lw_privs_1 ++ (lw_privs_2 ++ (lw_privs_3 ++ (lw_privs_4 ++ (lw_privs_5 ++ (lw_privs_6 ++ (lw_privs_7 ++ (lw_privs_8)))))))
def lw_tbl : List Cond := k2_sels lw_privs ++ tables_1
theorem lw_privs_ok : ∀ q ∈ lw_privs, lw_okq q := by
  show ∀ q ∈ lw_privs_1 ++ (lw_privs_2 ++ (lw_privs_3 ++ (lw_privs_4 ++ (lw_privs_5 ++ (lw_privs_6 ++ (lw_privs_7 ++ (lw_privs_8))))))), lw_okq q
  exact List.forall_mem_append.mpr ⟨lw_r1, List.forall_mem_append.mpr ⟨lw_r2, List.forall_mem_append.mpr ⟨lw_r3, List.forall_mem_append.mpr ⟨lw_r4, List.forall_mem_append.mpr ⟨lw_r5, List.forall_mem_append.mpr ⟨lw_r6, List.forall_mem_append.mpr ⟨lw_r7, lw_r8⟩⟩⟩⟩⟩⟩⟩
/-- the streams that the claim lets the run draw from -/
abbrev lw_cs : List Choice := [Jvm.Choice.named "NaN.bits"]
theorem lw_bits : nanBits ∈ lw_cs := by first | decide | exact List.mem_cons_self | simp [lw_cs, nanBits]
-- ===== end of PART A; then your names; then what follows =====
end
section
/-! ===== BEGIN words of one list among another's, by their places ===== -/
theorem goodIn_r {big : List Cond} (ws : List Cond) (ps : List Nat) (hp : ws = ps.filterMap (fun i => big[i]?)) (h : ws.all goodWord = true) : GoodIn big ws := by
  intro w hw
  have h1 := List.all_eq_true.mp h w hw
  rw [hp] at hw
  obtain ⟨i, -, hi⟩ := List.mem_filterMap.mp hw
  have hm : w ∈ big := by first | exact List.mem_of_getElem? hi | exact List.getElem?_mem hi
  exact ⟨hm, good_of_word h1⟩
theorem goodIn_app {big a b : List Cond} (ha : GoodIn big a) (hb : GoodIn big b) : GoodIn big (a ++ b) := fun w h => (List.mem_append.mp h).elim (ha w) (hb w)
theorem goodIn_ca {big a b : List Cond} {c : Cond} (ha : GoodIn big (c :: a)) (hb : GoodIn big b) : GoodIn big (c :: (a ++ b)) := fun w h => (List.mem_cons.mp h).elim (fun e => ha w (List.mem_cons.mpr (Or.inl e))) (fun h => (List.mem_append.mp h).elim (fun h => ha w (List.mem_cons.mpr (Or.inr h))) (hb w))
theorem goodIn_sub {big ws : List Cond} (hm : ∀ w ∈ ws, w ∈ big) (h : ws.all goodWord = true) : GoodIn big ws := fun w hw => ⟨hm w hw, good_of_word (List.all_eq_true.mp h w hw)⟩
/-! ===== END ===== -/

/-! ===== BEGIN exceptions that leave a method, and their catching by the caller (launches without stack traces) ===== -/
section VXA
/-! The laws vx_back, vx_callV, vx_callS, vx_callSW, vx_throw0, vx_throwS follow proofs of the library, with one case more: JvmDerived/Free/Laws.lean (Back.of_free), Shelf42/LK1.lean (callV, callS), Shelf/KitTraced.lean (throwNew0V, throwNewS). -/
/-- where a method has thrown q: the class by its name, the cell, what was written, the world -/
def vx_T (XC : String → State → State → Prop) (st : State) (q : Addr) (t : State) (mc ms : Nat) (free : Addr → Prop) : Prop :=
  ∃ (E : String) (ce : Cell) (L : List Loc), XC E st t ∧ t.heap[q]? = some ce ∧ ce.vm = .none ∧ st.vm.findClass E = some ce.cls ∧ st.WarmedH t.vm ∧ st.sameButNew ({ t with vm := st.vm } : State) L mc ms ∧ ∀ z ∈ L, free z.base
def vx_Q (Qc : Array Value → State → Outcome → State → Prop) (XC : String → State → State → Prop) (mc ms : Nat) (free : Addr → Prop) : Array Value → State → Outcome → State → Prop := fun a st o t =>
  (Qc a st o t ∧ ∃ L, FrameEnd st o t L mc ms ∧ ∀ q ∈ L, free q.base) ∨ ∃ q, o = .threw q ∧ vx_T XC st q t mc ms free
/-- a callee that returns or throws -/
def vx_Met (l : Launch) (y : MethodName) (ws : List Cond) (rm : Room) (Pc : Array Value → State → Prop) (Qc : Array Value → State → Outcome → State → Prop) (XC : String → State → State → Prop) (mc ms : Nat) (free : Addr → Prop) : Prop :=
  MetFree l y (headSpec ws rm) Pc (fun _ _ _ _ _ => True) (vx_Q Qc XC mc ms free)
def vx_Post (XC : String → State → State → Prop) (mc ms : Nat) (free : Addr → Prop) : Pt → Array Value → Addr → Pt → Prop := fun A a q B =>
  ∃ (g : JFrame) (mk : MethodId) (t : State) (L : List Loc) (E : String) (ce : Cell), B.U.heap = t.heap ∧ B.U.vm = t.vm ∧ XC E (A.U.calling g mk a) t ∧ t.heap[q]? = some ce ∧ ce.vm = .none ∧ A.U.vm.findClass E = some ce.cls ∧ B.locs = A.locs ++ L ∧ (∀ z ∈ L, free z.base) ∧ B.cells = A.cells + mc ∧ B.slots = A.slots + ms
def vx_Back (l : Launch) (R : Room) (p : Program) (e : Env) (below : List Frame) (s : State) (sargs : Array Value) (y : MethodName) (len W9 : Nat)
    (Pre : Pt → Array Value → Prop) (Post : Pt → Array Value → Option Value → Pt → Prop) (PostX : Pt → Array Value → Addr → Pt → Prop) : Prop :=
  ∀ (m : MethodId) (meth : Method) (c : Code) (A : Pt) (g : JFrame) (ig : Instr) (mk : MethodId) (a : Array Value),
    Stand p l e R s m sargs below meth c A.U A.locs A.cells A.slots → g.method = m → g.locals.size = c.maxLocals → decode c.code g.pc = .ok (ig, len) →
    2 * g.monitorRoom + (g.stack.map fun v => v.category).sum ≤ W9 → A.U.methodNamed? y = some mk → Pre A a →
    (∃ (v : Option Value) (B : Pt), Stand p l e R s m sargs below meth c B.U B.locs B.cells B.slots ∧ Post A a v B ∧
      Steps p.tables e below (doInvoke e (A.U.setTop g) [] mk a).1 (B.U.setTop { g with pc := g.pc + len, stack := v.toList ++ g.stack })) ∨
    (∃ (q : Addr) (B : Pt), Stand p l e R s m sargs below meth c B.U B.locs B.cells B.slots ∧ PostX A a q B ∧
      Steps p.tables e below (doInvoke e (A.U.setTop g) [] mk a).1 ((B.U.setTop g).pushFrame (.throwing q)))
section Payer
variable {l : Launch} {R : Room} {p : Program} {e : Env} {below : List Frame} {s : State} {sargs : Array Value} {y : MethodName} {len W9 : Nat}
theorem vx_back {ws : List Cond} {rm : Room} {Pc : Array Value → State → Prop} {Qc : Array Value → State → Outcome → State → Prop} {XC : String → State → State → Prop} {mc ms : Nat} {free : Addr → Prop} {bytes : ByteArray} {maxL : Nat} {ret : Option FieldType}
    (hM : vx_Met l y ws rm Pc Qc XC mc ms free) (hblind : FrameBlind Pc) (hrc : rm.cells = mc) (hrs : rm.slots = ms)
    (hframes : rm.frames + 1 ≤ R.frames) (hlocals : W9 + (maxL + 11) + rm.locals ≤ R.locals)
    (hws : ∀ w ∈ ws, ∀ a' U, s.WarmedH U.vm → w.before a' U = true) (hcode : Cond.code y bytes maxL ret ∈ ws) (hinit : ∀ a' U, s.WarmedH U.vm → (Cond.initialized y.cls).before a' U = true) :
    vx_Back l R p e below s sargs y len W9 (PreOf R mc ms Pc) (PostOf Qc mc ms free) (vx_Post XC mc ms free) := by
  intro m meth c A g ig mk a X hg hsize hdg hW hn hp
  have h1 : (headSpec ws rm).pre.before a A.U = true := atoms_intro fun w hw => hws w hw _ _ X.warmed
  have h2 : (Cond.code y bytes maxL ret).before a A.U = true := hws _ hcode _ _ X.warmed
  have h3 : (Cond.initialized y.cls).before a A.U = true := hinit _ _ X.warmed
  have h4 : A.cells + (headSpec ws rm).room.cells ≤ R.cells := by rw [show (headSpec ws rm).room.cells = mc from hrc]; exact hp.1
  have h5 : A.slots + (headSpec ws rm).room.slots ≤ R.slots := by rw [show (headSpec ws rm).room.slots = ms from hrs]; exact hp.2.1
  have hPc : Pc a (A.U.calling g mk a) := hblind _ _ _ _ hp.2.2
  obtain ⟨U, Ls, c0, s0⟩ := A
  dsimp only [Pt.U, Pt.locs, Pt.cells, Pt.slots] at h1 h2 h3 h4 h5 X hn hPc ⊢
  obtain ⟨methY, cY, hmY, hcY, -, hlY, -, -, -, -⟩ := Cond.code_spec hn h2
  obtain ⟨kY, hkY, -⟩ := className_of_methodNamed hn
  have hinitY : kY.init = .initialized := Cond.initialized_spec (findClass_of_methodNamed hn) hkY h3
  have h : At U g.method c below := by rw [hg]; exact X.here
  have hlocals9 : W9 + (maxL + 11) + (headSpec ws rm).room.locals ≤ R.locals := hlocals
  have happ : (headSpec ws rm).appliesLoose y e.platform (U.calling g mk a) = true :=
    Spec.appliesLoose_calling (g := g) h hdg hn hkY hinitY
      (X.room_calling (g := g) (R' := (headSpec ws rm).room) hsize hmY hcY hframes (by rw [hlY]; omega) h4 h5) h1
  obtain ⟨mid, hmid⟩ := h.above
  have hfr : (U.setTop g).frames = (.java g :: mid) ++ below := by rw [State.frames_setTop' g h.top, hmid]; rfl
  obtain ⟨o, s₂, hsteps, -, hend, hq⟩ := Steps.callFree hM p X.admits X.cas X.clock (acts := []) hfr happ hPc trivial
  have hq' : vx_Q Qc XC mc ms free a (U.calling g mk a) o s₂ := hq
  rw [State.frames_setTop' g h.top] at hend
  obtain ⟨g₀, hg0⟩ := Option.isSome_iff_exists.mp h.top
  obtain ⟨r, hr⟩ := State.topJava?_eq_some.mp hg0
  have hr' : (({ U with heap := s₂.heap, slotsUsed := s₂.slotsUsed } : State).setVm s₂.vm).frames = .java g₀ :: r := hr
  rcases hq' with ⟨hqc, L, hfe, hL⟩ | ⟨q, rfl, E, ce, L, hx, hce, hcv, hcl, hW₂, hsm, hL⟩
  · obtain ⟨⟨v, rfl⟩, hW₂, e2, q2, q3, q4, q5, q6⟩ := id hfe
    have e3 : s₂ = ({ (U.calling g mk a).setFrames s₂.frames with heap := s₂.heap, slotsUsed := s₂.slotsUsed } : State).setVm s₂.vm := by
      have : s₂ = ({ s₂ with vm := (U.calling g mk a).vm } : State).setVm s₂.vm := rfl
      rw [e2] at this
      exact this
    obtain ⟨c₂, i₂, len₂, hc₂, hd₂, hf₂⟩ := hend
    have hW' : U.WarmedH s₂.vm := hW₂
    have hcc : c₂ = c := by
      have h1 : s₂.code? g.method = U.code? g.method := by
        rw [State.code?_eq, State.code?_eq, hW'.alike.method?]
      exact Option.some.inj (hc₂.symm.trans (h1.trans h.code))
    subst hcc
    have hlen : len₂ = len := by rw [hdg] at hd₂; cases hd₂; rfl
    subst hlen
    have hs₂ : s₂ = (({ U with heap := s₂.heap, slotsUsed := s₂.slotsUsed } : State).setVm s₂.vm).setTop { g with pc := g.pc + len₂, stack := v.toList ++ g.stack } := by
      refine e3.trans ?_
      rw [hf₂, State.calling_eq h.top, State.setFrames_setFrames, State.setTop_of_frames _ hr', hr]
      rfl
    have hsame : U.sameButNew ({ U with heap := s₂.heap, slotsUsed := s₂.slotsUsed } : State) L mc ms := by
      refine ⟨?_, q2, q3, q4, q5, q6⟩
      obtain ⟨t, ht, -⟩ := State.frames_cons hr
      show ({ U with heap := s₂.heap, slotsUsed := s₂.slotsUsed } : State) = { U.setFrames U.frames with heap := s₂.heap, slotsUsed := s₂.slotsUsed }
      rw [State.setFrames_self ht]
    subst hg
    refine Or.inl ⟨v, ⟨(({ U with heap := s₂.heap, slotsUsed := s₂.slotsUsed } : State).setVm s₂.vm), Ls ++ L, c0 + mc, s0 + ms⟩,
      ⟨X.admits, X.cas, X.clock, X.frames, X.room, X.hears, X.method, X.code, (X.here.setHeapUsed s₂.heap s₂.slotsUsed).setVm hW'.alike, X.tail, State.WarmedH.trans X.warmed hW', X.limits, X.bytes, X.same.trans (hsame.setVm s.vm)⟩,
      ⟨g, mk, s₂, L, rfl, rfl, hqc, rfl, hL, rfl, rfl⟩, ?_⟩
    show Steps p.tables e below _ ((({ U with heap := s₂.heap, slotsUsed := s₂.slotsUsed } : State).setVm s₂.vm).setTop { g with pc := g.pc + len₂, stack := v.toList ++ g.stack })
    rw [← hs₂]
    exact hsteps
  · obtain ⟨e2, q2, q3, q4, q5, q6⟩ := id hsm
    have e3 : s₂ = ({ (U.calling g mk a).setFrames s₂.frames with heap := s₂.heap, slotsUsed := s₂.slotsUsed } : State).setVm s₂.vm := by
      have : s₂ = ({ s₂ with vm := (U.calling g mk a).vm } : State).setVm s₂.vm := rfl
      rw [e2] at this
      exact this
    have hf₂ : s₂.frames = .throwing q :: .java g :: U.frames.tail := hend
    have hW' : U.WarmedH s₂.vm := hW₂
    have hs₂ : s₂ = ((({ U with heap := s₂.heap, slotsUsed := s₂.slotsUsed } : State).setVm s₂.vm).setTop g).pushFrame (.throwing q) := by
      refine e3.trans ?_
      rw [hf₂, State.calling_eq h.top, State.setFrames_setFrames, State.pushFrame, State.frames_setTop _ hr', State.setTop_of_frames _ hr', State.setFrames_setFrames, hr]
      rfl
    have hsame : U.sameButNew ({ U with heap := s₂.heap, slotsUsed := s₂.slotsUsed } : State) L mc ms := by
      refine ⟨?_, q2, q3, q4, q5, q6⟩
      obtain ⟨t, ht, -⟩ := State.frames_cons hr
      show ({ U with heap := s₂.heap, slotsUsed := s₂.slotsUsed } : State) = { U.setFrames U.frames with heap := s₂.heap, slotsUsed := s₂.slotsUsed }
      rw [State.setFrames_self ht]
    subst hg
    refine Or.inr ⟨q, ⟨(({ U with heap := s₂.heap, slotsUsed := s₂.slotsUsed } : State).setVm s₂.vm), Ls ++ L, c0 + mc, s0 + ms⟩,
      ⟨X.admits, X.cas, X.clock, X.frames, X.room, X.hears, X.method, X.code, (X.here.setHeapUsed s₂.heap s₂.slotsUsed).setVm hW'.alike, X.tail, State.WarmedH.trans X.warmed hW', X.limits, X.bytes, X.same.trans (hsame.setVm s.vm)⟩,
      ⟨g, mk, s₂, L, E, ce, rfl, rfl, hx, hce, hcv, hcl, rfl, hL, rfl, rfl⟩, ?_⟩
    show Steps p.tables e below _ (((({ U with heap := s₂.heap, slotsUsed := s₂.slotsUsed } : State).setVm s₂.vm).setTop g).pushFrame (.throwing q))
    rw [← hs₂]
    exact hsteps
end Payer
section Calls
variable {p : Program} {l : Launch} {e : Env} {R : Room} {s : State} {m : MethodId} {args : Array Value} {below : List Frame} {meth : Method} {c : Code} {T : State} {locs : List Loc} {cells slots : Nat}
theorem vx_callV (X : Stand p l e R s m args below meth c T locs cells slots) (hexec : p.tables.exec = Jvm.exec) {own C : String} {index : Nat} {y : MethodName} {bytes : ByteArray} {maxL : Nat} {ret : Option FieldType}
    (hown : s.vm.findClass own = some m.cls) (hlink : (Cond.methodLink own index y).before args s = true) (hinst : (Cond.instanceMethod y).before args s = true) (hsel : (Cond.selects C y y).before args s = true)
    (hcode : (Cond.code y bytes maxL ret).before args s = true) (hy : y.cls ≠ "java/lang/invoke/MethodHandle" ∧ y.cls ≠ "java/lang/invoke/VarHandle")
    {W9 : Nat} {Pre : Pt → Array Value → Prop} {Post : Pt → Array Value → Option Value → Pt → Prop} {PostX : Pt → Array Value → Addr → Pt → Prop} (hK : vx_Back l R p e below s args y 3 W9 Pre Post PostX)
    {b : Addr} {cellB : Cell} (hcell : T.heap[b]? = some cellB) (hobj : cellB.vm.isStatics = false) (hcls : s.vm.findClass C = some cellB.cls)
    {g : JFrame} (hg : g.method = m) (hsize : g.locals.size = c.maxLocals) {argsL rest : List Value} (hlen : ∀ sig, parseMethodDescriptor y.desc = some sig → argsL.length = sig.parameters.length)
    (hstack : g.stack = argsL.reverse ++ .ref b :: rest) (hW : 2 * g.monitorRoom + (rest.map fun v => v.category).sum ≤ W9) (hdg : decode c.code g.pc = .ok (.invokevirtual index, 3))
    (hpre : ∀ vm₁, s.WarmedH vm₁ → Pre ⟨T.setVm vm₁, locs, cells, slots⟩ (Value.ref b :: argsL).toArray) :
    (∃ (v : Option Value) (vm₁ : Vm) (B : Pt), s.WarmedH vm₁ ∧ Stand p l e R s m args below meth c B.U B.locs B.cells B.slots ∧ Post ⟨T.setVm vm₁, locs, cells, slots⟩ (Value.ref b :: argsL).toArray v B ∧
      ∀ target, Steps p.tables e below (B.U.setTop { g with pc := g.pc + 3, stack := v.toList ++ rest }) target → Steps p.tables e below (T.setTop g) target) ∨
    (∃ (q : Addr) (vm₁ : Vm) (B : Pt), s.WarmedH vm₁ ∧ Stand p l e R s m args below meth c B.U B.locs B.cells B.slots ∧ PostX ⟨T.setVm vm₁, locs, cells, slots⟩ (Value.ref b :: argsL).toArray q B ∧
      Steps p.tables e below (T.setTop g) ((B.U.setTop { g with stack := rest }).pushFrame (.throwing q))) := by
  obtain ⟨mk, methM, hnamed, hmethM, hstM, habM⟩ := Cond.instanceMethod_spec hinst
  obtain ⟨methM', cM, hmethM', -, -, -, -, -, -, hsigM⟩ := Cond.code_spec hnamed hcode
  cases hmethM.symm.trans hmethM'
  obtain ⟨c2, r2, m2, q1, q2, q3, q4, kP, hkP, hkPi⟩ := Cond.selects_spec hsel
  cases hcls.symm.trans q1
  cases (State.methodFound?_of_named hnamed hy).symm.trans q2
  cases hnamed.symm.trans q3
  have hselP : selectMethod e.platform s.vm cellB.cls mk = .method mk := by rw [Launch.admits_selectMethod X.admits]; exact q4
  obtain ⟨vm₁, X₁, hstep₁⟩ := X.invokevirtual hexec hown hlink hnamed hmethM hstM hkP hkPi hy (a := b) (cell := cellB) hcell
    (fun z h => by rw [h] at hobj; cases hobj) hselP hmethM habM hkP hkPi (g := g) hg (argsL := argsL) (rest := rest) (hlen _ hsigM) hstack hdg
  rcases hK m meth c ⟨T.setVm vm₁, locs, cells, slots⟩ { g with stack := rest } (.invokevirtual index) mk (Value.ref b :: argsL).toArray X₁ hg hsize hdg hW (X₁.named hnamed) (hpre vm₁ X₁.warmed) with ⟨v, B, X', hpost, hsteps⟩ | ⟨q, B, X', hpost, hsteps⟩
  · exact Or.inl ⟨v, vm₁, B, X₁.warmed, X', hpost, fun target h => hstep₁ _ fun acts => by rw [doInvoke_state]; exact hsteps.trans h⟩
  · exact Or.inr ⟨q, vm₁, B, X₁.warmed, X', hpost, hstep₁ _ fun acts => by rw [doInvoke_state]; exact hsteps⟩
theorem vx_callS (X : Stand p l e R s m args below meth c T locs cells slots) (hexec : p.tables.exec = Jvm.exec) {own : String} {index : Nat} {y : MethodName} {bytes : ByteArray} {maxL : Nat} {ret : Option FieldType}
    (hown : s.vm.findClass own = some m.cls) (hlink : (Cond.methodLink own index y).before args s = true) (hstat : (Cond.static y).before args s = true) (hinit : (Cond.initialized y.cls).before args s = true)
    (hcode : (Cond.code y bytes maxL ret).before args s = true) (hy : y.cls ≠ "java/lang/invoke/MethodHandle" ∧ y.cls ≠ "java/lang/invoke/VarHandle")
    {W9 : Nat} {Pre : Pt → Array Value → Prop} {Post : Pt → Array Value → Option Value → Pt → Prop} {PostX : Pt → Array Value → Addr → Pt → Prop} (hK : vx_Back l R p e below s args y 3 W9 Pre Post PostX)
    {g : JFrame} (hg : g.method = m) (hsize : g.locals.size = c.maxLocals) {argsL rest : List Value} (hlen : ∀ sig, parseMethodDescriptor y.desc = some sig → argsL.length = sig.parameters.length)
    (hstack : g.stack = argsL.reverse ++ rest) (hW : 2 * g.monitorRoom + (rest.map fun v => v.category).sum ≤ W9) (hdg : decode c.code g.pc = .ok (.invokestatic index, 3))
    (hpre : ∀ vm₁, s.WarmedH vm₁ → Pre ⟨T.setVm vm₁, locs, cells, slots⟩ argsL.toArray) :
    (∃ (v : Option Value) (vm₁ : Vm) (B : Pt), s.WarmedH vm₁ ∧ Stand p l e R s m args below meth c B.U B.locs B.cells B.slots ∧ Post ⟨T.setVm vm₁, locs, cells, slots⟩ argsL.toArray v B ∧
      ∀ target, Steps p.tables e below (B.U.setTop { g with pc := g.pc + 3, stack := v.toList ++ rest }) target → Steps p.tables e below (T.setTop g) target) ∨
    (∃ (q : Addr) (vm₁ : Vm) (B : Pt), s.WarmedH vm₁ ∧ Stand p l e R s m args below meth c B.U B.locs B.cells B.slots ∧ PostX ⟨T.setVm vm₁, locs, cells, slots⟩ argsL.toArray q B ∧
      Steps p.tables e below (T.setTop g) ((B.U.setTop { g with stack := rest }).pushFrame (.throwing q))) := by
  obtain ⟨mk, hnamed⟩ := Cond.code_named hcode
  obtain ⟨methM, cM, hmethM, -, -, -, -, -, -, hsigM⟩ := Cond.code_spec hnamed hcode
  have hstatic : methM.isStatic = true := Cond.static_spec hnamed hmethM hstat
  obtain ⟨kP, hkP, -⟩ := className_of_methodNamed hnamed
  have hinitP : kP.init = .initialized := Cond.initialized_spec (findClass_of_methodNamed hnamed) hkP hinit
  obtain ⟨vm₁, X₁, hstep₁⟩ := X.invokestatic hexec hown hlink hnamed hmethM hstatic hkP hinitP hy (g := g) hg (argsL := argsL) (rest := rest) (hlen _ hsigM) hstack hdg
  rcases hK m meth c ⟨T.setVm vm₁, locs, cells, slots⟩ { g with stack := rest } (.invokestatic index) mk argsL.toArray X₁ hg hsize hdg hW (X₁.named hnamed) (hpre vm₁ X₁.warmed) with ⟨v, B, X', hpost, hsteps⟩ | ⟨q, B, X', hpost, hsteps⟩
  · exact Or.inl ⟨v, vm₁, B, X₁.warmed, X', hpost, fun target h => hstep₁ _ fun acts => by rw [doInvoke_state]; exact hsteps.trans h⟩
  · exact Or.inr ⟨q, vm₁, B, X₁.warmed, X', hpost, hstep₁ _ fun acts => by rw [doInvoke_state]; exact hsteps⟩
end Calls
theorem vx_cls {s : State} {T : State} {vm₁ : Vm} {E : String} {k : ClassId} (hW : s.WarmedH vm₁) (h : (T.setVm vm₁).vm.findClass E = some k) : s.vm.findClass E = some k := by
  have h1 : vm₁.findClass E = some k := h
  rw [hW.alike.findClass] at h1
  exact h1
/-- the method's frame g, with q thrown over it -/
def vx_W (p : Program) (l : Launch) (e : Env) (R : Room) (s : State) (m : MethodId) (args : Array Value) (below : List Frame) (meth : Method) (c : Code) (H : Heap) (locs : List Loc) (cells slots : Nat) (Q : State → Prop) (g : JFrame) (q : Addr) : Prop :=
  ∀ T : State, T.heap = H → Stand p l e R s m args below meth c T locs cells slots → ∃ t, Steps p.tables e below ((T.setTop g).pushFrame (.throwing q)) t ∧ Q t
def vx_Run (p : Program) (l : Launch) (e : Env) (R : Room) (s : State) (m : MethodId) (args : Array Value) (below : List Frame) (meth : Method) (c : Code) (H : Heap) (locs : List Loc) (cells slots mc ms : Nat) (g : JFrame) (rest : List Value) (Qa : State → Outcome → State → Prop) (XC : String → State → State → Prop) (free : Addr → Prop) : Prop :=
  ∀ T : State, T.heap = H → Stand p l e R s m args below meth c T locs cells slots →
    (∃ (v : Option Value) (st₀ t T' : State) (L : List Loc), st₀.heap = H ∧ Stand p l e R s m args below meth c T' (locs ++ L) (cells + mc) (slots + ms) ∧ (∀ q ∈ L, free q.base) ∧ T'.heap = t.heap ∧ T'.vm = t.vm ∧ Qa st₀ (.returned v) t ∧
      Goes p e below T g T' { g with pc := g.pc + 3, stack := v.toList ++ rest }) ∨
    (∃ (q : Addr) (st₀ t T' : State) (L : List Loc) (E : String) (ce : Cell), st₀.heap = H ∧ Stand p l e R s m args below meth c T' (locs ++ L) (cells + mc) (slots + ms) ∧ (∀ z ∈ L, free z.base) ∧ T'.heap = t.heap ∧ T'.vm = t.vm ∧ XC E st₀ t ∧ t.heap[q]? = some ce ∧ ce.vm = .none ∧ s.vm.findClass E = some ce.cls ∧
      Steps p.tables e below (T.setTop g) ((T'.setTop { g with stack := rest }).pushFrame (.throwing q)))
def vx_X {S : Type} (px : S → Prop) (B : String → S → State → Prop) (A : Nat → Prop) : String → State → State → Prop := fun E st t => ∃ u : S, px u ∧ B E u t ∧ va_F A st t
section Runs
variable {p : Program} {l : Launch} {e : Env} {R : Room} {s : State} {m : MethodId} {args : Array Value} {below : List Frame} {meth : Method} {c : Code} {H : Heap} {locs : List Loc} {cells slots : Nat}
variable {y : MethodName} {bytes cc : ByteArray} {maxL nL mc ms n index : Nat} {ret : Option FieldType} {ws : List Cond} {rm : Room} {Pc : Array Value → State → Prop} {Qc : Array Value → State → Outcome → State → Prop} {XC : String → State → State → Prop} {free : Addr → Prop} {Ts : List Cond} {own C : String} {b : Addr} {As rest : List Value} {g : JFrame}
theorem vx_callBack (cb : CallB R s args own index y bytes maxL ret ws rm mc ms n) (hM : vx_Met l y ws rm Pc Qc XC mc ms free) (hbl : FrameBlind Pc) : vx_Back l R p e below s args y 3 8 (PreOf R mc ms Pc) (PostOf Qc mc ms free) (vx_Post XC mc ms free) := by
  obtain ⟨hrc, hrs, hfr, hlo, hws, hcw, -, hini, -⟩ := cb
  exact vx_back (bytes := bytes) (maxL := maxL) (ret := ret) hM hbl hrc hrs hfr hlo hws hcw (fun a' U hW => word_at hW (Or.inl (by first | rfl | simp [Cond.onTables, Cond.keeps, Cond.steady])) hini)
theorem vx_runV (S : CallFix p m c cc nL s args Ts own) (hM : vx_Met l y ws rm Pc Qc XC mc ms free) (cw : CallW R s args own C index y bytes maxL ret ws rm mc ms n) (hp : PreV s H C b Pc As)
    (hg : g.method = m) (hn : As.length = n) (hsize : g.locals.size = nL) (hstack : g.stack = As.reverse ++ .ref b :: rest) (hW : 2 * g.monitorRoom + (rest.map fun v => v.category).sum ≤ 8) (hdg : decode cc g.pc = .ok (.invokevirtual index, 3)) (hf : cells + mc ≤ R.cells ∧ slots + ms ≤ R.slots) :
    vx_Run p l e R s m args below meth c H locs cells slots mc ms g rest (Qc (Value.ref b :: As).toArray) XC free := by
  have hK : vx_Back l R p e below s args y 3 8 (PreOf R mc ms Pc) (PostOf Qc mc ms free) (vx_Post XC mc ms free) := vx_callBack cw.1 hM hp.1
  obtain ⟨⟨-, -, -, -, -, -, hcode, -, hy, hlen, hl⟩, hin, hse⟩ := cw
  obtain ⟨hx, hb, hml, ho, -⟩ := S
  obtain ⟨-, ⟨cellB, hcB, hoB, hclB⟩, hPc⟩ := hp
  intro T hT X
  rcases vx_callV X hx (C := C) (bytes := bytes) (maxL := maxL) (ret := ret) ho hl hin hse hcode hy hK (by rw [hT]; exact hcB) hoB hclB hg (hsize.trans hml.symm) (argsL := As) (rest := rest) (fun sig h => hn.trans (hlen sig h)) hstack hW (by rw [hb]; exact hdg)
    (fun vm₁ hW₁ => ⟨hf.1, hf.2, hPc (T.setVm vm₁) hT hW₁⟩) with ⟨v, vm₁, ⟨U', l2, c2, s2⟩, hW₁, X', ⟨g', mk, t, L, e1, e2, hq, h1, hL, h2, h3⟩, st⟩ | ⟨q, vm₁, ⟨U', l2, c2, s2⟩, hW₁, X', ⟨g', mk, t, L, E, ce, e1, e2, hq, hce, hcv, hcl, h1, hL, h2, h3⟩, st⟩
  · dsimp only [Pt.U, Pt.locs, Pt.cells, Pt.slots] at X' e1 e2 h1 h2 h3 st
    subst h1; subst h2; subst h3
    exact Or.inl ⟨v, (T.setVm vm₁).calling g' mk (Value.ref b :: As).toArray, t, U', L, hT, X', hL, e1, e2, hq, st⟩
  · dsimp only [Pt.U, Pt.locs, Pt.cells, Pt.slots] at X' e1 e2 h1 h2 h3 st hcl
    subst h1; subst h2; subst h3
    exact Or.inr ⟨q, (T.setVm vm₁).calling g' mk (Value.ref b :: As).toArray, t, U', L, E, ce, hT, X', hL, e1, e2, hq, hce, hcv, vx_cls hW₁ hcl, st⟩
theorem vx_runS (S : CallFix p m c cc nL s args Ts own) (hM : vx_Met l y ws rm Pc Qc XC mc ms free) (cw : CallB R s args own index y bytes maxL ret ws rm mc ms n ∧ (Cond.static y).before args s = true) (hp : PreS s H Pc As)
    (hg : g.method = m) (hn : As.length = n) (hsize : g.locals.size = nL) (hstack : g.stack = As.reverse ++ rest) (hW : 2 * g.monitorRoom + (rest.map fun v => v.category).sum ≤ 8) (hdg : decode cc g.pc = .ok (.invokestatic index, 3)) (hf : cells + mc ≤ R.cells ∧ slots + ms ≤ R.slots) :
    vx_Run p l e R s m args below meth c H locs cells slots mc ms g rest (Qc As.toArray) XC free := by
  have hK : vx_Back l R p e below s args y 3 8 (PreOf R mc ms Pc) (PostOf Qc mc ms free) (vx_Post XC mc ms free) := vx_callBack cw.1 hM hp.1
  obtain ⟨⟨-, -, -, -, -, -, hcode, hini, hy, hlen, hl⟩, hstt⟩ := cw
  obtain ⟨hx, hb, hml, ho, -⟩ := S
  intro T hT X
  rcases vx_callS X hx (bytes := bytes) (maxL := maxL) (ret := ret) ho hl hstt hini hcode hy hK hg (hsize.trans hml.symm) (argsL := As) (rest := rest) (fun sig h => hn.trans (hlen sig h)) hstack hW (by rw [hb]; exact hdg)
    (fun vm₁ hW₁ => ⟨hf.1, hf.2, hp.2 (T.setVm vm₁) hT hW₁⟩) with ⟨v, vm₁, ⟨U', l2, c2, s2⟩, hW₁, X', ⟨g', mk, t, L, e1, e2, hq, h1, hL, h2, h3⟩, st⟩ | ⟨q, vm₁, ⟨U', l2, c2, s2⟩, hW₁, X', ⟨g', mk, t, L, E, ce, e1, e2, hq, hce, hcv, hcl, h1, hL, h2, h3⟩, st⟩
  · dsimp only [Pt.U, Pt.locs, Pt.cells, Pt.slots] at X' e1 e2 h1 h2 h3 st
    subst h1; subst h2; subst h3
    exact Or.inl ⟨v, (T.setVm vm₁).calling g' mk As.toArray, t, U', L, hT, X', hL, e1, e2, hq, st⟩
  · dsimp only [Pt.U, Pt.locs, Pt.cells, Pt.slots] at X' e1 e2 h1 h2 h3 st hcl
    subst h1; subst h2; subst h3
    exact Or.inr ⟨q, (T.setVm vm₁).calling g' mk As.toArray, t, U', L, E, ce, hT, X', hL, e1, e2, hq, hce, hcv, vx_cls hW₁ hcl, st⟩
end Runs
section Rows
variable {p : Program} {l : Launch} {e : Env} {R : Room} {s : State} {m : MethodId} {args : Array Value} {below : List Frame} {meth : Method} {c : Code} {H : Heap} {locs : List Loc} {cells slots : Nat} {Q : State → Prop}
variable {mc ms : Nat} {free : Addr → Prop} {A0 A1 : Nat → Prop} {H0 : Heap} {a : Array Value} {pc : Nat} {ls : Array Slot} {st0 rest : List Value}
theorem vx_keep {st₀ t T' : State} {L : List Loc} (h0 : st₀.heap = H) (e1 : T'.heap = t.heap) (hS : va_S A0 H0 H locs) (hA : ∀ q, q < H.size → A1 q → A0 q) (hf : ∀ q, free q → A0 q) (hL : ∀ q ∈ L, free q.base) (hF : va_F A1 st₀ t) :
    H.size ≤ T'.heap.size ∧ (∀ q : Nat, q < H.size → ¬ A1 q → T'.heap[q]? = H[q]?) ∧ va_S A0 H0 T'.heap (locs ++ L) := by
  obtain ⟨hz, hk⟩ := hF
  rw [h0] at hz hk
  exact ⟨by rw [e1]; exact hz, fun q h1 h2 => by rw [e1]; exact hk q h1 h2,
    ⟨Nat.le_trans hS.1 (by rw [e1]; exact hz), fun q h1 h2 => by rw [e1, hk q (Nat.lt_of_lt_of_le h1 hS.1) (fun z => h2 (hA q (Nat.lt_of_lt_of_le h1 hS.1) z))]; exact hS.2.1 q h1 h2, fun q hq => by
      rcases List.mem_append.mp hq with h | h
      · exact hS.2.2 q h
      · exact hf _ (hL q h)⟩⟩
theorem vx_calli {S SX : Type} {post : Int32 → S → Prop} {px : SX → Prop} {B : S → State → Prop} {BX : String → SX → State → Prop} {AX : Nat → Prop} (hr : vx_Run p l e R s m args below meth c H locs cells slots mc ms (F0 m pc ls st0) rest (va_Qi post B A1 a) (vx_X px BX AX) free) (hS : va_S A0 H0 H locs) (hA : ∀ q, q < H.size → A1 q → A0 q) (hf : ∀ q, free q → A0 q) (hAX : ∀ q, q < H.size → AX q → A0 q)
    (kx : ∀ (E : String) (ce : Cell) (q9 : Addr) (u : SX) (t : State) (H1 : Heap) (locs1 : List Loc), t.heap = H1 → s.vm.Alike t.vm → px u → BX E u t → H.size ≤ H1.size → (∀ q : Nat, q < H.size → ¬ AX q → H1[q]? = H[q]?) → va_S A0 H0 H1 locs1 → H1[q9]? = some ce → ce.vm = .none → s.vm.findClass E = some ce.cls → vx_W p l e R s m args below meth c H1 locs1 (cells + mc) (slots + ms) Q (F0 m pc ls rest) q9)
    (kk : ∀ (r : Int32) (u : S) (t : State) (H1 : Heap) (locs1 : List Loc), t.heap = H1 → s.vm.Alike t.vm → post r u → B u t → H.size ≤ H1.size → (∀ q : Nat, q < H.size → ¬ A1 q → H1[q]? = H[q]?) → va_S A0 H0 H1 locs1 → W p l e R s m args below meth c H1 locs1 (cells + mc) (slots + ms) Q (F0 m (pc + 3) ls (.int r :: rest))) : W p l e R s m args below meth c H locs cells slots Q (F0 m pc ls st0) := by
  intro T hT X
  rcases hr T hT X with ⟨v, st₀, t, T', L, h0, X', hL, e1, e2, ⟨⟨r, u, hv, hp, hb⟩, hF⟩, st⟩ | ⟨q, st₀, t, T', L, E, ce, h0, X', hL, e1, e2, ⟨u, hp, hb, hF⟩, hce, hcv, hcl, st⟩
  · cases hv
    obtain ⟨k1, k2, k3⟩ := vx_keep h0 e1 hS hA hf hL hF
    obtain ⟨t2, a1, b1⟩ := kk r u t T'.heap (locs ++ L) e1.symm (by rw [← e2]; exact X'.warmed.alike) hp hb k1 k2 k3 T' rfl X'
    exact ⟨t2, st t2 a1, b1⟩
  · obtain ⟨k1, k2, k3⟩ := vx_keep h0 e1 hS hAX hf hL hF
    obtain ⟨t2, a1, b1⟩ := kx E ce q u t T'.heap (locs ++ L) e1.symm (by rw [← e2]; exact X'.warmed.alike) hp hb k1 k2 k3 (by rw [e1]; exact hce) hcv hcl T' rfl X'
    exact ⟨t2, st.trans a1, b1⟩
theorem vx_calll {S SX : Type} {post : Int64 → S → Prop} {px : SX → Prop} {B : S → State → Prop} {BX : String → SX → State → Prop} {AX : Nat → Prop} (hr : vx_Run p l e R s m args below meth c H locs cells slots mc ms (F0 m pc ls st0) rest (va_Ql post B A1 a) (vx_X px BX AX) free) (hS : va_S A0 H0 H locs) (hA : ∀ q, q < H.size → A1 q → A0 q) (hf : ∀ q, free q → A0 q) (hAX : ∀ q, q < H.size → AX q → A0 q)
    (kx : ∀ (E : String) (ce : Cell) (q9 : Addr) (u : SX) (t : State) (H1 : Heap) (locs1 : List Loc), t.heap = H1 → s.vm.Alike t.vm → px u → BX E u t → H.size ≤ H1.size → (∀ q : Nat, q < H.size → ¬ AX q → H1[q]? = H[q]?) → va_S A0 H0 H1 locs1 → H1[q9]? = some ce → ce.vm = .none → s.vm.findClass E = some ce.cls → vx_W p l e R s m args below meth c H1 locs1 (cells + mc) (slots + ms) Q (F0 m pc ls rest) q9)
    (kk : ∀ (r : Int64) (u : S) (t : State) (H1 : Heap) (locs1 : List Loc), t.heap = H1 → s.vm.Alike t.vm → post r u → B u t → H.size ≤ H1.size → (∀ q : Nat, q < H.size → ¬ A1 q → H1[q]? = H[q]?) → va_S A0 H0 H1 locs1 → W p l e R s m args below meth c H1 locs1 (cells + mc) (slots + ms) Q (F0 m (pc + 3) ls (.long r :: rest))) : W p l e R s m args below meth c H locs cells slots Q (F0 m pc ls st0) := by
  intro T hT X
  rcases hr T hT X with ⟨v, st₀, t, T', L, h0, X', hL, e1, e2, ⟨⟨r, u, hv, hp, hb⟩, hF⟩, st⟩ | ⟨q, st₀, t, T', L, E, ce, h0, X', hL, e1, e2, ⟨u, hp, hb, hF⟩, hce, hcv, hcl, st⟩
  · cases hv
    obtain ⟨k1, k2, k3⟩ := vx_keep h0 e1 hS hA hf hL hF
    obtain ⟨t2, a1, b1⟩ := kk r u t T'.heap (locs ++ L) e1.symm (by rw [← e2]; exact X'.warmed.alike) hp hb k1 k2 k3 T' rfl X'
    exact ⟨t2, st t2 a1, b1⟩
  · obtain ⟨k1, k2, k3⟩ := vx_keep h0 e1 hS hAX hf hL hF
    obtain ⟨t2, a1, b1⟩ := kx E ce q u t T'.heap (locs ++ L) e1.symm (by rw [← e2]; exact X'.warmed.alike) hp hb k1 k2 k3 (by rw [e1]; exact hce) hcv hcl T' rfl X'
    exact ⟨t2, st.trans a1, b1⟩
theorem vx_callf {S SX : Type} {post : UInt32 → S → Prop} {px : SX → Prop} {B : S → State → Prop} {BX : String → SX → State → Prop} {AX : Nat → Prop} (hr : vx_Run p l e R s m args below meth c H locs cells slots mc ms (F0 m pc ls st0) rest (va_Qf post B A1 a) (vx_X px BX AX) free) (hS : va_S A0 H0 H locs) (hA : ∀ q, q < H.size → A1 q → A0 q) (hf : ∀ q, free q → A0 q) (hAX : ∀ q, q < H.size → AX q → A0 q)
    (kx : ∀ (E : String) (ce : Cell) (q9 : Addr) (u : SX) (t : State) (H1 : Heap) (locs1 : List Loc), t.heap = H1 → s.vm.Alike t.vm → px u → BX E u t → H.size ≤ H1.size → (∀ q : Nat, q < H.size → ¬ AX q → H1[q]? = H[q]?) → va_S A0 H0 H1 locs1 → H1[q9]? = some ce → ce.vm = .none → s.vm.findClass E = some ce.cls → vx_W p l e R s m args below meth c H1 locs1 (cells + mc) (slots + ms) Q (F0 m pc ls rest) q9)
    (kk : ∀ (r : UInt32) (u : S) (t : State) (H1 : Heap) (locs1 : List Loc), t.heap = H1 → s.vm.Alike t.vm → post r u → B u t → H.size ≤ H1.size → (∀ q : Nat, q < H.size → ¬ A1 q → H1[q]? = H[q]?) → va_S A0 H0 H1 locs1 → W p l e R s m args below meth c H1 locs1 (cells + mc) (slots + ms) Q (F0 m (pc + 3) ls (.float r :: rest))) : W p l e R s m args below meth c H locs cells slots Q (F0 m pc ls st0) := by
  intro T hT X
  rcases hr T hT X with ⟨v, st₀, t, T', L, h0, X', hL, e1, e2, ⟨⟨r, u, hv, hp, hb⟩, hF⟩, st⟩ | ⟨q, st₀, t, T', L, E, ce, h0, X', hL, e1, e2, ⟨u, hp, hb, hF⟩, hce, hcv, hcl, st⟩
  · cases hv
    obtain ⟨k1, k2, k3⟩ := vx_keep h0 e1 hS hA hf hL hF
    obtain ⟨t2, a1, b1⟩ := kk r u t T'.heap (locs ++ L) e1.symm (by rw [← e2]; exact X'.warmed.alike) hp hb k1 k2 k3 T' rfl X'
    exact ⟨t2, st t2 a1, b1⟩
  · obtain ⟨k1, k2, k3⟩ := vx_keep h0 e1 hS hAX hf hL hF
    obtain ⟨t2, a1, b1⟩ := kx E ce q u t T'.heap (locs ++ L) e1.symm (by rw [← e2]; exact X'.warmed.alike) hp hb k1 k2 k3 (by rw [e1]; exact hce) hcv hcl T' rfl X'
    exact ⟨t2, st.trans a1, b1⟩
theorem vx_calld {S SX : Type} {post : UInt64 → S → Prop} {px : SX → Prop} {B : S → State → Prop} {BX : String → SX → State → Prop} {AX : Nat → Prop} (hr : vx_Run p l e R s m args below meth c H locs cells slots mc ms (F0 m pc ls st0) rest (va_Qd post B A1 a) (vx_X px BX AX) free) (hS : va_S A0 H0 H locs) (hA : ∀ q, q < H.size → A1 q → A0 q) (hf : ∀ q, free q → A0 q) (hAX : ∀ q, q < H.size → AX q → A0 q)
    (kx : ∀ (E : String) (ce : Cell) (q9 : Addr) (u : SX) (t : State) (H1 : Heap) (locs1 : List Loc), t.heap = H1 → s.vm.Alike t.vm → px u → BX E u t → H.size ≤ H1.size → (∀ q : Nat, q < H.size → ¬ AX q → H1[q]? = H[q]?) → va_S A0 H0 H1 locs1 → H1[q9]? = some ce → ce.vm = .none → s.vm.findClass E = some ce.cls → vx_W p l e R s m args below meth c H1 locs1 (cells + mc) (slots + ms) Q (F0 m pc ls rest) q9)
    (kk : ∀ (r : UInt64) (u : S) (t : State) (H1 : Heap) (locs1 : List Loc), t.heap = H1 → s.vm.Alike t.vm → post r u → B u t → H.size ≤ H1.size → (∀ q : Nat, q < H.size → ¬ A1 q → H1[q]? = H[q]?) → va_S A0 H0 H1 locs1 → W p l e R s m args below meth c H1 locs1 (cells + mc) (slots + ms) Q (F0 m (pc + 3) ls (.double r :: rest))) : W p l e R s m args below meth c H locs cells slots Q (F0 m pc ls st0) := by
  intro T hT X
  rcases hr T hT X with ⟨v, st₀, t, T', L, h0, X', hL, e1, e2, ⟨⟨r, u, hv, hp, hb⟩, hF⟩, st⟩ | ⟨q, st₀, t, T', L, E, ce, h0, X', hL, e1, e2, ⟨u, hp, hb, hF⟩, hce, hcv, hcl, st⟩
  · cases hv
    obtain ⟨k1, k2, k3⟩ := vx_keep h0 e1 hS hA hf hL hF
    obtain ⟨t2, a1, b1⟩ := kk r u t T'.heap (locs ++ L) e1.symm (by rw [← e2]; exact X'.warmed.alike) hp hb k1 k2 k3 T' rfl X'
    exact ⟨t2, st t2 a1, b1⟩
  · obtain ⟨k1, k2, k3⟩ := vx_keep h0 e1 hS hAX hf hL hF
    obtain ⟨t2, a1, b1⟩ := kx E ce q u t T'.heap (locs ++ L) e1.symm (by rw [← e2]; exact X'.warmed.alike) hp hb k1 k2 k3 (by rw [e1]; exact hce) hcv hcl T' rfl X'
    exact ⟨t2, st.trans a1, b1⟩
theorem vx_callv {S SX : Type} {post : S → Prop} {px : SX → Prop} {B : S → State → Prop} {BX : String → SX → State → Prop} {AX : Nat → Prop} (hr : vx_Run p l e R s m args below meth c H locs cells slots mc ms (F0 m pc ls st0) rest (va_Qv post B A1 a) (vx_X px BX AX) free) (hS : va_S A0 H0 H locs) (hA : ∀ q, q < H.size → A1 q → A0 q) (hf : ∀ q, free q → A0 q) (hAX : ∀ q, q < H.size → AX q → A0 q)
    (kx : ∀ (E : String) (ce : Cell) (q9 : Addr) (u : SX) (t : State) (H1 : Heap) (locs1 : List Loc), t.heap = H1 → s.vm.Alike t.vm → px u → BX E u t → H.size ≤ H1.size → (∀ q : Nat, q < H.size → ¬ AX q → H1[q]? = H[q]?) → va_S A0 H0 H1 locs1 → H1[q9]? = some ce → ce.vm = .none → s.vm.findClass E = some ce.cls → vx_W p l e R s m args below meth c H1 locs1 (cells + mc) (slots + ms) Q (F0 m pc ls rest) q9)
    (kk : ∀ (u : S) (t : State) (H1 : Heap) (locs1 : List Loc), t.heap = H1 → s.vm.Alike t.vm → post u → B u t → H.size ≤ H1.size → (∀ q : Nat, q < H.size → ¬ A1 q → H1[q]? = H[q]?) → va_S A0 H0 H1 locs1 → W p l e R s m args below meth c H1 locs1 (cells + mc) (slots + ms) Q (F0 m (pc + 3) ls (rest))) : W p l e R s m args below meth c H locs cells slots Q (F0 m pc ls st0) := by
  intro T hT X
  rcases hr T hT X with ⟨v, st₀, t, T', L, h0, X', hL, e1, e2, ⟨⟨u, hv, hp, hb⟩, hF⟩, st⟩ | ⟨q, st₀, t, T', L, E, ce, h0, X', hL, e1, e2, ⟨u, hp, hb, hF⟩, hce, hcv, hcl, st⟩
  · cases hv
    obtain ⟨k1, k2, k3⟩ := vx_keep h0 e1 hS hA hf hL hF
    obtain ⟨t2, a1, b1⟩ := kk u t T'.heap (locs ++ L) e1.symm (by rw [← e2]; exact X'.warmed.alike) hp hb k1 k2 k3 T' rfl X'
    exact ⟨t2, st t2 a1, b1⟩
  · obtain ⟨k1, k2, k3⟩ := vx_keep h0 e1 hS hAX hf hL hF
    obtain ⟨t2, a1, b1⟩ := kx E ce q u t T'.heap (locs ++ L) e1.symm (by rw [← e2]; exact X'.warmed.alike) hp hb k1 k2 k3 (by rw [e1]; exact hce) hcv hcl T' rfl X'
    exact ⟨t2, st.trans a1, b1⟩
/-- caught by the row x of this method's table; the rows ahead don't take it -/
theorem vx_catch {own name : String} {E : String} {ce : Cell} {q : Addr} (hown : s.vm.findClass own = some m.cls) (pre : List ExceptionTableEntry) (x : ExceptionTableEntry) (suf : List ExceptionTableEntry) (hsplit : c.exceptionTable.toList = pre ++ x :: suf)
    (hpass : ∀ z ∈ pre, covers z pc = false ∨ (z.catchType ≠ 0 ∧ ∃ nm : String, (Cond.classLink own z.catchType nm).before args s = true ∧ va_Nc E nm s)) (hx : covers x pc = true) (h0 : x.catchType ≠ 0)
    (hlink : (Cond.classLink own x.catchType name).before args s = true) (hcast : (Cond.castable E name).before args s = true) (hcell : H[q]? = some ce) (hv : ce.vm = .none) (hcl : s.vm.findClass E = some ce.cls)
    (kk : W p l e R s m args below meth c H locs cells slots Q (F0 m x.handlerPc ls [.ref q])) : vx_W p l e R s m args below meth c H locs cells slots Q (F0 m pc ls rest) q := by
  intro T hT X
  have hpl : e.platform.magicAccessors = ({} : Platform).magicAccessors := by rw [X.admits.platform]
  obtain ⟨c3, c4, hc3, hc4, hasg⟩ := Cond.castable_spec hcast
  cases Option.some.inj (hc3.symm.trans hcl)
  obtain ⟨c5, hc5, hcl5⟩ := Cond.classLink_spec hown hlink e.platform hpl
  cases Option.some.inj (hc4.symm.trans hc5)
  obtain ⟨vm', X', st⟩ := X.thenCaughtThrough q (g := F0 m pc ls rest) rfl (Steps.refl _) (by rw [hT]; exact hcell) (by rw [hv]; rfl) (by obtain ⟨k9, h9, -⟩ := Vm.findClass_spec hcl; exact ⟨k9, h9⟩) pre x suf hsplit
    (fun z hz => by
      rcases hpass z hz with h | ⟨hz0, nm, hl1, hn1⟩
      · exact Or.inl h
      · obtain ⟨c6, hc6, hcl6⟩ := Cond.classLink_spec hown hl1 e.platform hpl
        obtain ⟨a8, b8, h1, h2, h3⟩ := hn1
        cases Option.some.inj (h1.symm.trans hcl)
        cases Option.some.inj (h2.symm.trans hc6)
        exact Or.inr ⟨hz0, _, hcl6, h3⟩) hx (Or.inr ⟨h0, c4, hcl5, hasg⟩)
  obtain ⟨t, a1, b1⟩ := kk (T.setVm vm') hT X'
  exact ⟨t, st.trans a1, b1⟩
end Rows
section Ends
variable {p : Program} {l : Launch} {e : Env} {R : Room} {s : State} {m : MethodId} {args : Array Value} {below : List Frame} {meth : Method} {c : Code} {H : Heap} {locs : List Loc} {cells slots : Nat} {Q : State → Prop}
variable {mc ms : Nat} {free : Addr → Prop} {A0 A1 : Nat → Prop} {H0 : Heap} {a : Array Value} {ls : Array Slot} {st0 rest : List Value}
variable {Qc : Array Value → State → Outcome → State → Prop} {XC : String → State → State → Prop}
/-- what a body that may throw owes at its end -/
def vx_MQ (below : List Frame) (Qc : Array Value → State → Outcome → State → Prop) (XC : String → State → State → Prop) (a : Array Value) (s : State) (mc ms : Nat) (free : Addr → Prop) : State → Prop := fun t =>
  ∃ o, t.status = .running ∧ Ended t below o ∧ vx_Q Qc XC mc ms free a s o t
theorem vx_ret {g : JFrame} {mc ms : Nat} (k : W p l e R s m args below meth c H locs cells slots (MQ below Qc args s mc ms free) g) : W p l e R s m args below meth c H locs cells slots (vx_MQ below Qc XC args s mc ms free) g := by
  intro T hT X
  obtain ⟨t, a1, o, b1, b2, b3, b4⟩ := k T hT X
  exact ⟨t, a1, o, b1, b2, Or.inl ⟨b3, b4⟩⟩
/-- not caught here: it goes on to the caller -/
theorem vx_widen {g : JFrame} {q : Addr} {k n : Nat} (h1 : cells ≤ k) (h2 : slots ≤ n) (kk : vx_W p l e R s m args below meth c H locs k n Q g q) : vx_W p l e R s m args below meth c H locs cells slots Q g q := fun T hT X => kk T hT (stand_widen X h1 h2)
theorem vx_out {pc : Nat} {E : String} {ce : Cell} {q : Addr} {mc ms : Nat} (hout : ∀ x ∈ c.exceptionTable.toList, covers x pc = false) (hlocks : meth.locks = false) (hcell : H[q]? = some ce) (hv : ce.vm = .none) (hcl : s.vm.findClass E = some ce.cls)
    (hx : ∀ t : State, t.heap = H → s.vm.Alike t.vm → XC E s t) (hf : ∀ z ∈ locs, free z.base) (hc : cells ≤ mc) (hs : slots ≤ ms) :
    vx_W p l e R s m args below meth c H locs cells slots (vx_MQ below Qc XC args s mc ms free) (F0 m pc ls rest) q := by
  intro T hT X
  obtain ⟨st1, hrun, hend, hW, hsm⟩ := X.leaveThrown q (g := F0 m pc ls rest) rfl rfl rfl hout hlocks
  have hcell9 : (T.setFrames (.throwing q :: below)).heap[q]? = some ce := by
    show T.heap[q]? = some ce
    rw [hT]; exact hcell
  exact ⟨_, st1, .threw q, hrun, hend, Or.inr ⟨q, rfl, E, ce, locs, hx _ hT hW.alike, hcell9, hv, hcl, hW, hsm.mono hc hs, hf⟩⟩
theorem vx_frame {U : State} {k n : Nat} (h : s.sameButNew ({ U with vm := s.vm } : State) locs k n) : s.heap.size ≤ U.heap.size ∧ ∀ q : Nat, q < s.heap.size → (∀ z ∈ locs, z.base ≠ q) → U.heap[q]? = s.heap[q]? := by
  obtain ⟨-, h2, -, -, -, h6⟩ := h
  refine ⟨h2, fun q hq hz => ?_⟩
  obtain ⟨c9, e1, e2, e3, e4⟩ := h6 q _ (Array.getElem?_eq_getElem hq)
  have hs : c9.slots = (s.heap[q]).slots := Array.ext_getElem? fun i => e4 i fun hm => hz _ hm rfl
  have h9 : c9 = s.heap[q] := by
    rw [hs] at e2
    exact e2
  have e5 : U.heap[q]? = some c9 := e1
  rw [e5, h9, Array.getElem?_eq_getElem hq]
/-- the words of a throw but the four that speak of the heap -/
def vx_no (w : Cond) : Bool := decide (w ≠ .isRef (.static Bundle.tN "UNASSIGNED_STACK" Bundle.steD)) && decide (w ≠ .isRef (.static Bundle.tN "SUPPRESSED_SENTINEL" Bundle.listD)) && decide (w ≠ .laysStatic Bundle.tN "UNASSIGNED_STACK" Bundle.steD) && decide (w ≠ .laysStatic Bundle.tN "SUPPRESSED_SENTINEL" Bundle.listD)
def vx_at0 (own : String) (ic : Nat) (X : String) (names : List String) : List Cond := (Bundle.ownAtoms0 own ic X names).filter vx_no
def vx_atS (own : String) (ic : Nat) (X : String) (names : List String) : List Cond := (Bundle.ownAtoms own ic X names).filter vx_no
/-- a word that the tables alone decide, or a good one -/
def vx_ot (w : Cond) : Bool := w.onTables || goodWord w
theorem vx_ot_at {args a' : Array Value} {s U : State} {w : Cond} (hW : s.WarmedH U.vm) (hvm : s.vm = U.vm) (hg : vx_ot w = true) (h : w.before args s = true) : w.before a' U = true := by
  simp only [vx_ot, Bool.or_eq_true] at hg
  rcases hg with hg | hg
  · exact va_tabs hg hvm h
  · exact word_at hW (good_of_word hg) h
/-- a list's words: the good ones out of the method's own list, the others by premises of their own -/
theorem vx_hat {args : Array Value} {s : State} {L B : List Cond} (h1 : ∀ w ∈ L.filter goodWord, w.before args s = true) (h2 : ∀ w ∈ L.filter (fun w => !goodWord w), w ∈ B) (h3 : ∀ w ∈ B, w.before args s = true) : ∀ w ∈ L, w.before args s = true := by
  intro w hw
  by_cases g : goodWord w = true
  · exact h1 w (List.mem_filter.mpr ⟨hw, g⟩)
  · refine h3 w (h2 w (List.mem_filter.mpr ⟨hw, ?_⟩))
    show (!goodWord w) = true
    cases hgw : goodWord w
    · rfl
    · exact absurd hgw g
theorem vx_c {args : Array Value} {s : State} {w : Cond} {B : List Cond} (h : w.before args s = true) (t : ∀ w ∈ B, w.before args s = true) : ∀ w' ∈ w :: B, w'.before args s = true := fun w' h' => (List.mem_cons.mp h').elim (fun e => by rw [e]; exact h) (t w')
theorem vx_n {args : Array Value} {s : State} : ∀ w ∈ ([] : List Cond), w.before args s = true := fun _ h => nomatch h
theorem vx_own {args : Array Value} {s : State} {L : List Cond} (h1 : ∀ w ∈ L.filter vx_no, w.before args s = true)
    (hU : (Cond.isRef (.static Bundle.tN "UNASSIGNED_STACK" Bundle.steD)).before args s = true) (hN : (Cond.isRef (.static Bundle.tN "SUPPRESSED_SENTINEL" Bundle.listD)).before args s = true)
    (lU : (Cond.laysStatic Bundle.tN "UNASSIGNED_STACK" Bundle.steD).before args s = true) (lN : (Cond.laysStatic Bundle.tN "SUPPRESSED_SENTINEL" Bundle.listD).before args s = true) : ∀ w ∈ L, w.before args s = true := by
  intro w hw
  by_cases e1 : w = .isRef (.static Bundle.tN "UNASSIGNED_STACK" Bundle.steD)
  · rw [e1]; exact hU
  · by_cases e2 : w = .isRef (.static Bundle.tN "SUPPRESSED_SENTINEL" Bundle.listD)
    · rw [e2]; exact hN
    · by_cases e3 : w = .laysStatic Bundle.tN "UNASSIGNED_STACK" Bundle.steD
      · rw [e3]; exact lU
      · by_cases e4 : w = .laysStatic Bundle.tN "SUPPRESSED_SENTINEL" Bundle.listD
        · rw [e4]; exact lN
        · exact h1 w (List.mem_filter.mpr ⟨hw, by unfold vx_no; rw [decide_eq_true e1, decide_eq_true e2, decide_eq_true e3, decide_eq_true e4]; rfl⟩)
/-- where a static field lies, its class's statics cell in H -/
def vx_L (C n d : String) (A : Nat → Prop) (U : State) (H : Heap) : Prop := ∃ (c : ClassId) (k : Class) (i : Nat) (f : Field) (a : Nat) (cell : Cell), U.vm.findClass C = some c ∧ U.fieldFound? C n d = some (c, k, i, f) ∧ f.isStatic = true ∧ k.statics = some a ∧ H[a]? = some cell ∧ cell.vm.isStatics = true ∧ cell.cls = c ∧ f.slot < cell.slots.size ∧ k.staticTypes[f.slot]? = some f.type ∧ ¬ A a
theorem vx_L.moved {C n d : String} {A : Nat → Prop} {u U : State} {H : Heap} (hvm : u.vm.Alike U.vm) (h : vx_L C n d A u H) : vx_L C n d A U H := by
  obtain ⟨c, k, i, f, a, cell, h1, h2, h3, h4, h5, h6, h7, h8, h9, h10⟩ := h
  obtain ⟨k', hi', he⟩ := State.fieldFound?_setVm hvm h2
  exact ⟨c, k', i, f, a, cell, by rw [hvm.findClass]; exact h1, hi', h3, by rw [he]; exact h4, h5, h6, h7, h8, by rw [he]; exact h9, h10⟩
theorem vx_L.kept {C n d : String} {A : Nat → Prop} {U : State} {H H1 : Heap} (h : vx_L C n d A U H) (hq : ∀ a : Nat, a < H.size → ¬ A a → H1[a]? = H[a]?) : vx_L C n d A U H1 := by
  obtain ⟨c, k, i, f, a, cell, h1, h2, h3, h4, h5, h6, h7, h8, h9, h10⟩ := h
  exact ⟨c, k, i, f, a, cell, h1, h2, h3, h4, by rw [hq a (Array.getElem?_eq_some_iff.mp h5).1 h10]; exact h5, h6, h7, h8, h9, h10⟩
theorem vx_L.narrow {C n d : String} {A B : Nat → Prop} {U : State} {H : Heap} (h : vx_L C n d A U H) (hAB : ∀ q, B q → A q) : vx_L C n d B U H := by
  obtain ⟨c, k, i, f, a, cell, h1, h2, h3, h4, h5, h6, h7, h8, h9, h10⟩ := h
  exact ⟨c, k, i, f, a, cell, h1, h2, h3, h4, h5, h6, h7, h8, h9, fun z => h10 (hAB _ z)⟩
theorem vx_L.word {C n d : String} {A : Nat → Prop} {s : State} {args : Array Value} (h : vx_L C n d A s s.heap) : (Cond.laysStatic C n d).before args s = true := by
  obtain ⟨c, k, i, f, a, cell, h1, h2, h3, h4, h5, h6, h7, h8, h9, -⟩ := h
  show (Cond.laysStatic C n d).holds args s none s [] = true
  exact Cond.laysStatic_of h1 h2 h3 h4 h5 h6 h7 h8 h9
/-- .. and what it holds: null or some reference -/
def vx_Zq (C n d : String) (A : Nat → Prop) (U : State) (H : Heap) : Prop := va_Zq C n d A U H ∧ vx_L C n d A U H
theorem vx_Zq.moved {C n d : String} {A : Nat → Prop} {u U : State} {H : Heap} (hvm : u.vm.Alike U.vm) (h : vx_Zq C n d A u H) : vx_Zq C n d A U H := ⟨va_Zq.moved hvm h.1, vx_L.moved hvm h.2⟩
theorem vx_Zq.kept {C n d : String} {A : Nat → Prop} {U : State} {H H1 : Heap} (h : vx_Zq C n d A U H) (hq : ∀ a : Nat, a < H.size → ¬ A a → H1[a]? = H[a]?) : vx_Zq C n d A U H1 := ⟨va_Zq.kept h.1 hq, vx_L.kept h.2 hq⟩
theorem vx_Zq.narrow {C n d : String} {A B : Nat → Prop} {U : State} {H : Heap} (h : vx_Zq C n d A U H) (hAB : ∀ q, B q → A q) : vx_Zq C n d B U H := ⟨va_Zq.narrow h.1 hAB, vx_L.narrow h.2 hAB⟩
theorem vx_Zqof {args : Array Value} {s : State} {C n d : String} {A : Nat → Prop} (hl : (Cond.laysStatic C n d).before args s = true) (hini : (Cond.initialized C).before args s = true) (h : (Cond.isRef (.static C n d)).before args s = true) (hA : ∀ a : Nat, a < s.heap.size → ¬ A a) : vx_Zq C n d A s s.heap := by
  refine ⟨va_Zqof hl hini h hA, ?_⟩
  obtain ⟨c, k, i, f, a, cell, h1, h2, h3, h4, h5, h6, h7, h8, h9⟩ := Cond.laysStatic_spec hl
  exact ⟨c, k, i, f, a, cell, h1, h2, h3, h4, h5, h6, h7, h8, h9, hA a (Array.getElem?_eq_some_iff.mp h5).1⟩
theorem vx_isRef {C n d : String} {v : Value} {A : Nat → Prop} {s : State} {args : Array Value} (h : va_Z C n d v A s s.heap) (hv : v.isRef = true) : (Cond.isRef (.static C n d)).before args s = true := by
  obtain ⟨cf, kf, fi, f, a, cell, h1, h2, h3, h4, h5, h6, h7, -⟩ := h
  have he : (Term.static C n d).eval args s none [] s = some v := by
    simp [Term.eval, State.fieldNamed?, h1, h2, h4, h5, h6, h7]
  simp only [Cond.before, Cond.holds, Cond.value, he]
  cases v <;> simp_all [Value.isRef]
theorem vx_isRefq {C n d : String} {A : Nat → Prop} {s : State} {args : Array Value} (h : va_Zq C n d A s s.heap) : (Cond.isRef (.static C n d)).before args s = true := by
  rcases h with h | ⟨t, h⟩
  · exact vx_isRef h rfl
  · exact vx_isRef h rfl
/-- the same frame, seen from here: as if the method were called anew in this heap -/
theorem vx_rebase {T : State} (X : Stand p l e R s m args below meth c T locs cells slots) {R' : Room} (hf : R'.frames ≤ R.frames) (hl : R'.locals ≤ R.locals) (hc : cells + R'.cells ≤ R.cells) (hs : slots + R'.slots ≤ R.slots) :
    Stand p l e R' ((T.setVm s.vm).setFrames (.invoking m args :: below)) m args below meth c T [] 0 0 := by
  have htop : (T.setVm s.vm).topJava?.isSome := X.here.top
  have hF : ((T.setVm s.vm).setFrames (.invoking m args :: below)).frames = .invoking m args :: below := State.frames_setFrames _ (State.cur_lt_of_top htop)
  obtain ⟨g₀, hg0⟩ := Option.isSome_iff_exists.mp htop
  obtain ⟨r, hr⟩ := State.topJava?_eq_some.mp hg0
  have hl9 : e.platform.stackLimits (T.setVm s.vm).me = e.platform.stackLimits s.me := X.limits
  have hb9 : (T.setVm s.vm).me.stackBytes = s.me.stackBytes := X.bytes
  refine ⟨X.admits, X.cas, X.clock, hF, ?_, X.hears, X.method, X.code, X.here, X.tail, X.warmed, ?_, ?_, ?_⟩
  · have h := X.room
    have hU : ((T.setVm s.vm).setFrames (.invoking m args :: below)).localsInUse = s.localsInUse := by
      rw [State.localsInUse_invoking hF (meth := meth) (c := c) X.method X.code, State.localsInUse_invoking X.frames X.method X.code]
    simp only [State.hasRoom, Bool.and_eq_true, decide_eq_true_eq] at h ⊢
    obtain ⟨⟨⟨⟨h1, h2, h3, h4, h5, h6⟩, h7⟩, h8⟩, h9⟩ := h
    rw [X.frames, List.length_cons] at h2 h3
    have q1 := X.heapSize
    have q2 := X.used
    simp only [hF, hU, List.length_cons, State.stackLimits_setFrames, State.stackBytes_setFrames, hl9, hb9]
    refine ⟨⟨⟨⟨by omega, by omega, by omega, by omega, by omega, h6⟩, ?_⟩, ?_⟩, X.book⟩
    · show T.heap.size + R'.cells ≤ e.platform.maxCells
      omega
    · show T.slotsUsed + R'.slots ≤ e.platform.maxSlots
      omega
  · rw [State.stackLimits_setFrames]; rfl
  · rw [State.stackBytes_setFrames]; rfl
  · refine ⟨?_, Nat.le_refl _, Nat.le_refl _, ?_, ?_, fun a c9 h9 => ⟨c9, h9, rfl, rfl, fun _ _ => rfl⟩⟩
    · obtain ⟨t, ht, -⟩ := State.frames_cons hr
      show T.setVm s.vm = { ((T.setVm s.vm).setFrames (.invoking m args :: below)).setFrames (T.setVm s.vm).frames with heap := T.heap, slotsUsed := T.slotsUsed }
      rw [State.setFrames_setFrames, State.setFrames_self ht]
      rfl
    · show T.slotsUsed = T.slotsUsed + ((T.heap.toList.drop T.heap.size).map (·.slots.size)).sum
      rw [List.drop_eq_nil_of_le (Nat.le_of_eq Array.length_toList)]
      rfl
    · show ((T.heap.toList.drop T.heap.size).map (·.slots.size)).sum ≤ 0
      rw [List.drop_eq_nil_of_le (Nat.le_of_eq Array.length_toList)]
      exact Nat.le_refl _
/-- 'throw new E()': new; dup; invokespecial; athrow -/
theorem vx_throw0 {cc : ByteArray} {pc : Nat} (hexec : p.tables.exec = Jvm.exec) (hb : c.code = cc) (hl : l.stackTraces = false) {own cls : String} {names : List String} {ik ic mc ms : Nat} {A : Nat → Prop}
    (hown : s.vm.findClass own = some m.cls) (hcls : Bundle.fit cls = true) (hnames : ∀ n ∈ names, Bundle.fit n = true)
    (hk : (Cond.classLink own ik cls).before args s = true) (hini : (Cond.initialized cls).before args s = true) (hat : ∀ w ∈ vx_at0 own ic cls names, w.before args s = true)
    (hgood : ∀ w ∈ Cond.classLink own ik cls :: Cond.initialized cls :: vx_at0 own ic cls names, vx_ot w = true)
    (hU : vx_Zq Bundle.tN "UNASSIGNED_STACK" Bundle.steD A s s.heap) (hN : vx_Zq Bundle.tN "SUPPRESSED_SENTINEL" Bundle.listD A s s.heap) (hS : va_S A s.heap H locs) (hsize : ls.size = c.maxLocals)
    (d0 : decode cc pc = .ok (.new ik, 3)) (d3 : decode cc (pc + 3) = .ok (.dup, 1)) (d4 : decode cc (pc + 4) = .ok (.invokespecial ic, 3)) (d7 : decode cc (pc + 7) = .ok (.athrow, 1))
    (hout : ∀ x ∈ c.exceptionTable.toList, covers x (pc + 7) = false)
    (hRframes : names.length + 3 < R.frames) (hRlocals : (rest.map fun v => v.category).sum + (13 * (names.length + 1) + 42) ≤ R.locals) (hRcells : cells + 1 ≤ R.cells) (hRslots : slots + 6 ≤ R.slots) (hlocks : meth.locks = false)
    (hx : ∀ t : State, s.vm.Alike t.vm → H.size ≤ t.heap.size → (∀ q : Nat, q < H.size → t.heap[q]? = H[q]?) → XC cls s t)
    (hf : ∀ z ∈ locs, free z.base) (hc : cells + 1 ≤ mc) (hs : slots + 6 ≤ ms) :
    W p l e R s m args below meth c H locs cells slots (vx_MQ below Qc XC args s mc ms free) (F0 m pc ls rest) := by
  intro T hT X
  have htr : e.platform.stackTraces = false := (show e.platform.stackTraces = l.stackTraces by rw [X.admits.platform]).trans hl
  have Y := vx_rebase X (R' := { frames := R.frames, locals := R.locals, cells := 1, slots := 6 }) (Nat.le_refl _) (Nat.le_refl _) hRcells hRslots
  obtain ⟨s', hA⟩ : ∃ z, z = (T.setVm s.vm).setFrames (.invoking m args :: below) := ⟨_, rfl⟩
  rw [← hA] at Y
  have hvm : s'.vm = s.vm := by rw [hA]; rfl
  have hhp : s'.heap = H := by rw [hA]; exact hT
  have hW0 : s.WarmedH s'.vm := by rw [hvm]; exact State.WarmedH.refl s
  have hat' : ∀ w ∈ vx_at0 own ic cls names, w.before args s' = true := fun w hw => vx_ot_at hW0 hvm.symm (hgood w (List.mem_cons_of_mem _ (List.mem_cons_of_mem _ hw))) (hat w hw)
  have hk' : (Cond.classLink own ik cls).before args s' = true := vx_ot_at hW0 hvm.symm (hgood _ List.mem_cons_self) hk
  have hini' : (Cond.initialized cls).before args s' = true := vx_ot_at hW0 hvm.symm (hgood _ (List.mem_cons_of_mem _ List.mem_cons_self)) hini
  have hU' : vx_Zq Bundle.tN "UNASSIGNED_STACK" Bundle.steD A s' s'.heap := by rw [hhp]; exact vx_Zq.moved hW0.alike (hU.kept hS.2.1)
  have hN' : vx_Zq Bundle.tN "SUPPRESSED_SENTINEL" Bundle.listD A s' s'.heap := by rw [hhp]; exact vx_Zq.moved hW0.alike (hN.kept hS.2.1)
  have h : ∀ w ∈ Bundle.ownAtoms0 own ic cls names, w.before args s' = true := vx_own hat' (vx_isRefq hU'.1) (vx_isRefq hN'.1) hU'.2.word hN'.2.word
  have hown' : s'.vm.findClass own = some m.cls := by rw [hvm]; exact hown
  have hins : (Cond.instantiable cls 6).before args s' = true := h _ (by simp [Bundle.ownAtoms0])
  obtain ⟨vm₁, cX, kX, hfX, hkX, -, -, X₁, st1⟩ := Y.newCold hexec (own := own) (C := cls) (index := ik) (n := 6) hown' hk' hins hini'
    (g := F0 m pc ls rest) rfl (by rw [hb]; exact d0) (Nat.le_refl _) (Nat.le_refl _)
  generalize hT1 : (T.setVm vm₁).pushCell { cls := cX, slots := kX.instanceTypes.map defaultValue, vm := .none } = T1 at X₁ st1
  have hcat : (Value.ref T.heap.size).category = 1 := rfl
  have hcellA : T1.heap[T.heap.size]? = some (freshCell cX kX) := by rw [← hT1]; exact State.heap_pushCell_size _ _
  have d3' : decode c.code (pc + 3) = .ok (.dup, 1) := by rw [hb]; exact d3
  obtain ⟨U, hsteps, hrun, hend, hW, hsame, ce, hce, hO⟩ := X₁.ctorThrow0 hexec htr (own := own) (cls := cls) (names := names) (ic := ic) hown' hcls hnames h (fun x hx => nomatch hx) hfX hkX hcellA (by rw [hhp, hT]; exact Nat.le_refl _)
    (g := { method := m, pc := pc + 4, locals := ls, stack := .ref T.heap.size :: .ref T.heap.size :: rest, locked := none }) rfl hsize rfl rfl (rest := rest) rfl
    (by rw [hb]; exact d4) (by rw [hb]; exact d7) hout hRframes (by simp only [List.map_cons, List.sum_cons, hcat]; omega) hlocks
  obtain ⟨f1, f2⟩ := vx_frame hsame
  rw [hhp] at f1 f2
  have hWs : s.WarmedH U.vm := State.WarmedH.trans hW0 hW
  have hcl : s.vm.findClass cls = some ce.cls := by
    have h9 := hO.cls
    rw [hvm] at h9
    exact h9
  have hall : s.sameButNew ({ U with vm := s.vm } : State) locs mc ms := by
    subst hA
    obtain ⟨e1, e2⟩ := hsame
    rw [State.setFrames_setFrames] at e1
    have h2 : (T.setVm s.vm).sameButNew ({ U with vm := s.vm } : State) [] (0 + 1) (0 + 6) := ⟨e1, e2⟩
    have h3 := X.same.trans h2
    rw [List.append_nil] at h3
    exact h3.mono hc hs
  refine ⟨U, ?_, .threw T.heap.size, hrun, hend, Or.inr ⟨T.heap.size, rfl, cls, ce, locs, hx U hWs.alike f1 (fun q hq => f2 q hq (fun z hz => nomatch hz)), hce, hO.vm, hcl, hWs, hall, hf⟩⟩
  refine st1 _ ?_
  show Steps p.tables e below (T1.setTop { method := m, pc := pc + 3, locals := ls, stack := .ref T.heap.size :: rest, locked := none }) _
  jvm_step X₁.here [X₁.here.top, hexec, d3', Value.category]
  exact hsteps
/-- 'throw new E("text")': new; dup; ldc; invokespecial; athrow -/
theorem vx_throwS {cc : ByteArray} {pc : Nat} (hexec : p.tables.exec = Jvm.exec) (hb : c.code = cc) (hl : l.stackTraces = false) {own cls text : String} {names : List String} {ik is ic mc ms sa : Nat} {A : Nat → Prop}
    (hown : s.vm.findClass own = some m.cls) (hcls : Bundle.fit cls = true) (hnames : ∀ n ∈ names, Bundle.fit n = true)
    (hk : (Cond.classLink own ik cls).before args s = true) (hini : (Cond.initialized cls).before args s = true) (hstr : vk_R own is text sa s) (hat : ∀ w ∈ vx_atS own ic cls names, w.before args s = true)
    (hgood : ∀ w ∈ Cond.classLink own ik cls :: Cond.initialized cls :: vx_atS own ic cls names, vx_ot w = true)
    (hU : vx_Zq Bundle.tN "UNASSIGNED_STACK" Bundle.steD A s s.heap) (hN : vx_Zq Bundle.tN "SUPPRESSED_SENTINEL" Bundle.listD A s s.heap) (hS : va_S A s.heap H locs) (hsize : ls.size = c.maxLocals)
    (d0 : decode cc pc = .ok (.new ik, 3)) (d3 : decode cc (pc + 3) = .ok (.dup, 1)) (d4 : decode cc (pc + 4) = .ok (.ldc is, 2)) (d6 : decode cc (pc + 6) = .ok (.invokespecial ic, 3)) (d9 : decode cc (pc + 9) = .ok (.athrow, 1))
    (hout : ∀ x ∈ c.exceptionTable.toList, covers x (pc + 9) = false)
    (hRframes : names.length + 3 < R.frames) (hRlocals : (rest.map fun v => v.category).sum + (13 * (names.length + 1) + 43) ≤ R.locals) (hRcells : cells + 1 ≤ R.cells) (hRslots : slots + 6 ≤ R.slots) (hlocks : meth.locks = false)
    (hx : ∀ t : State, s.vm.Alike t.vm → H.size ≤ t.heap.size → (∀ q : Nat, q < H.size → t.heap[q]? = H[q]?) → XC cls s t)
    (hf : ∀ z ∈ locs, free z.base) (hc : cells + 1 ≤ mc) (hs : slots + 6 ≤ ms) :
    W p l e R s m args below meth c H locs cells slots (vx_MQ below Qc XC args s mc ms free) (F0 m pc ls rest) := by
  intro T hT X
  have htr : e.platform.stackTraces = false := (show e.platform.stackTraces = l.stackTraces by rw [X.admits.platform]).trans hl
  have Y := vx_rebase X (R' := { frames := R.frames, locals := R.locals, cells := 1, slots := 6 }) (Nat.le_refl _) (Nat.le_refl _) hRcells hRslots
  obtain ⟨s', hA⟩ : ∃ z, z = (T.setVm s.vm).setFrames (.invoking m args :: below) := ⟨_, rfl⟩
  rw [← hA] at Y
  have hvm : s'.vm = s.vm := by rw [hA]; rfl
  have hhp : s'.heap = H := by rw [hA]; exact hT
  have hW0 : s.WarmedH s'.vm := by rw [hvm]; exact State.WarmedH.refl s
  have hat' : ∀ w ∈ vx_atS own ic cls names, w.before args s' = true := fun w hw => vx_ot_at hW0 hvm.symm (hgood w (List.mem_cons_of_mem _ (List.mem_cons_of_mem _ hw))) (hat w hw)
  have hk' : (Cond.classLink own ik cls).before args s' = true := vx_ot_at hW0 hvm.symm (hgood _ List.mem_cons_self) hk
  have hini' : (Cond.initialized cls).before args s' = true := vx_ot_at hW0 hvm.symm (hgood _ (List.mem_cons_of_mem _ List.mem_cons_self)) hini
  have hU' : vx_Zq Bundle.tN "UNASSIGNED_STACK" Bundle.steD A s' s'.heap := by rw [hhp]; exact vx_Zq.moved hW0.alike (hU.kept hS.2.1)
  have hN' : vx_Zq Bundle.tN "SUPPRESSED_SENTINEL" Bundle.listD A s' s'.heap := by rw [hhp]; exact vx_Zq.moved hW0.alike (hN.kept hS.2.1)
  have h : ∀ w ∈ Bundle.ownAtoms own ic cls names, w.before args s' = true := vx_own hat' (vx_isRefq hU'.1) (vx_isRefq hN'.1) hU'.2.word hN'.2.word
  have hown' : s'.vm.findClass own = some m.cls := by rw [hvm]; exact hown
  have hins : (Cond.instantiable cls 6).before args s' = true := h _ (by simp [Bundle.ownAtoms])
  obtain ⟨vm₁, cX, kX, hfX, hkX, -, -, X₁, st1⟩ := Y.newCold hexec (own := own) (C := cls) (index := ik) (n := 6) hown' hk' hins hini'
    (g := F0 m pc ls rest) rfl (by rw [hb]; exact d0) (Nat.le_refl _) (Nat.le_refl _)
  generalize hT1 : (T.setVm vm₁).pushCell { cls := cX, slots := kX.instanceTypes.map defaultValue, vm := .none } = T1 at X₁ st1
  have hcat : (Value.ref T.heap.size).category = 1 := rfl
  have hcellA : T1.heap[T.heap.size]? = some (freshCell cX kX) := by rw [← hT1]; exact State.heap_pushCell_size _ _
  have d3' : decode c.code (pc + 3) = .ok (.dup, 1) := by rw [hb]; exact d3
  have d4' : decode c.code (pc + 4) = .ok (.ldc is, 2) := by rw [hb]; exact d4
  have hstr' : vk_R own is text sa s' := vk_R.warm hW0 hstr
  obtain ⟨U, hsteps, hrun, hend, hW, hsame, ce, hce, hO⟩ := X₁.ctorThrowS hexec htr (own := own) (cls := cls) (names := names) (ic := ic) hown' hcls hnames h (fun x hx => nomatch hx) hfX hkX hcellA (by rw [hhp, hT]; exact Nat.le_refl _) (msg := .ref sa) rfl
    (g := { method := m, pc := pc + 6, locals := ls, stack := .ref sa :: .ref T.heap.size :: .ref T.heap.size :: rest, locked := none }) rfl hsize rfl rfl (rest := rest) rfl
    (by rw [hb]; exact d6) (by rw [hb]; exact d9) hout hRframes (by simp only [List.map_cons, List.sum_cons, hcat]; omega) hlocks
  obtain ⟨f1, f2⟩ := vx_frame hsame
  rw [hhp] at f1 f2
  have hWs : s.WarmedH U.vm := State.WarmedH.trans hW0 hW
  have hcl : s.vm.findClass cls = some ce.cls := by
    have h9 := hO.cls
    rw [hvm] at h9
    exact h9
  have hall : s.sameButNew ({ U with vm := s.vm } : State) locs mc ms := by
    subst hA
    obtain ⟨e1, e2⟩ := hsame
    rw [State.setFrames_setFrames] at e1
    have h2 : (T.setVm s.vm).sameButNew ({ U with vm := s.vm } : State) [] (0 + 1) (0 + 6) := ⟨e1, e2⟩
    have h3 := X.same.trans h2
    rw [List.append_nil] at h3
    exact h3.mono hc hs
  refine ⟨U, ?_, .threw T.heap.size, hrun, hend, Or.inr ⟨T.heap.size, rfl, cls, ce, locs, hx U hWs.alike f1 (fun q hq => f2 q hq (fun z hz => nomatch hz)), hce, hO.vm, hcl, hWs, hall, hf⟩⟩
  refine st1 _ ?_
  show Steps p.tables e below (T1.setTop { method := m, pc := pc + 3, locals := ls, stack := .ref T.heap.size :: rest, locked := none }) _
  jvm_step X₁.here [X₁.here.top, hexec, d3', Value.category]
  exact X₁.ldcString hexec (own := own) (text := text) (index := is) (a := sa) hown' hstr'.1 hstr'.2
    (g := { method := m, pc := pc + 4, locals := ls, stack := .ref T.heap.size :: .ref T.heap.size :: rest, locked := none }) rfl d4' _ hsteps
/-- 'throw new E("text")', the text by a wide index -/
theorem vx_throwSW {cc : ByteArray} {pc : Nat} (hexec : p.tables.exec = Jvm.exec) (hb : c.code = cc) (hl : l.stackTraces = false) {own cls text : String} {names : List String} {ik is ic mc ms sa : Nat} {A : Nat → Prop}
    (hown : s.vm.findClass own = some m.cls) (hcls : Bundle.fit cls = true) (hnames : ∀ n ∈ names, Bundle.fit n = true)
    (hk : (Cond.classLink own ik cls).before args s = true) (hini : (Cond.initialized cls).before args s = true) (hstr : vk_R own is text sa s) (hat : ∀ w ∈ vx_atS own ic cls names, w.before args s = true)
    (hgood : ∀ w ∈ Cond.classLink own ik cls :: Cond.initialized cls :: vx_atS own ic cls names, vx_ot w = true)
    (hU : vx_Zq Bundle.tN "UNASSIGNED_STACK" Bundle.steD A s s.heap) (hN : vx_Zq Bundle.tN "SUPPRESSED_SENTINEL" Bundle.listD A s s.heap) (hS : va_S A s.heap H locs) (hsize : ls.size = c.maxLocals)
    (d0 : decode cc pc = .ok (.new ik, 3)) (d3 : decode cc (pc + 3) = .ok (.dup, 1)) (d4 : decode cc (pc + 4) = .ok (.ldc_w is, 3)) (d7 : decode cc (pc + 7) = .ok (.invokespecial ic, 3)) (d10 : decode cc (pc + 10) = .ok (.athrow, 1))
    (hout : ∀ x ∈ c.exceptionTable.toList, covers x (pc + 10) = false)
    (hRframes : names.length + 3 < R.frames) (hRlocals : (rest.map fun v => v.category).sum + (13 * (names.length + 1) + 43) ≤ R.locals) (hRcells : cells + 1 ≤ R.cells) (hRslots : slots + 6 ≤ R.slots) (hlocks : meth.locks = false)
    (hx : ∀ t : State, s.vm.Alike t.vm → H.size ≤ t.heap.size → (∀ q : Nat, q < H.size → t.heap[q]? = H[q]?) → XC cls s t)
    (hf : ∀ z ∈ locs, free z.base) (hc : cells + 1 ≤ mc) (hs : slots + 6 ≤ ms) :
    W p l e R s m args below meth c H locs cells slots (vx_MQ below Qc XC args s mc ms free) (F0 m pc ls rest) := by
  intro T hT X
  have htr : e.platform.stackTraces = false := (show e.platform.stackTraces = l.stackTraces by rw [X.admits.platform]).trans hl
  have Y := vx_rebase X (R' := { frames := R.frames, locals := R.locals, cells := 1, slots := 6 }) (Nat.le_refl _) (Nat.le_refl _) hRcells hRslots
  obtain ⟨s', hA⟩ : ∃ z, z = (T.setVm s.vm).setFrames (.invoking m args :: below) := ⟨_, rfl⟩
  rw [← hA] at Y
  have hvm : s'.vm = s.vm := by rw [hA]; rfl
  have hhp : s'.heap = H := by rw [hA]; exact hT
  have hW0 : s.WarmedH s'.vm := by rw [hvm]; exact State.WarmedH.refl s
  have hat' : ∀ w ∈ vx_atS own ic cls names, w.before args s' = true := fun w hw => vx_ot_at hW0 hvm.symm (hgood w (List.mem_cons_of_mem _ (List.mem_cons_of_mem _ hw))) (hat w hw)
  have hk' : (Cond.classLink own ik cls).before args s' = true := vx_ot_at hW0 hvm.symm (hgood _ List.mem_cons_self) hk
  have hini' : (Cond.initialized cls).before args s' = true := vx_ot_at hW0 hvm.symm (hgood _ (List.mem_cons_of_mem _ List.mem_cons_self)) hini
  have hU' : vx_Zq Bundle.tN "UNASSIGNED_STACK" Bundle.steD A s' s'.heap := by rw [hhp]; exact vx_Zq.moved hW0.alike (hU.kept hS.2.1)
  have hN' : vx_Zq Bundle.tN "SUPPRESSED_SENTINEL" Bundle.listD A s' s'.heap := by rw [hhp]; exact vx_Zq.moved hW0.alike (hN.kept hS.2.1)
  have h : ∀ w ∈ Bundle.ownAtoms own ic cls names, w.before args s' = true := vx_own hat' (vx_isRefq hU'.1) (vx_isRefq hN'.1) hU'.2.word hN'.2.word
  have hown' : s'.vm.findClass own = some m.cls := by rw [hvm]; exact hown
  have hins : (Cond.instantiable cls 6).before args s' = true := h _ (by simp [Bundle.ownAtoms])
  obtain ⟨vm₁, cX, kX, hfX, hkX, -, -, X₁, st1⟩ := Y.newCold hexec (own := own) (C := cls) (index := ik) (n := 6) hown' hk' hins hini'
    (g := F0 m pc ls rest) rfl (by rw [hb]; exact d0) (Nat.le_refl _) (Nat.le_refl _)
  generalize hT1 : (T.setVm vm₁).pushCell { cls := cX, slots := kX.instanceTypes.map defaultValue, vm := .none } = T1 at X₁ st1
  have hcat : (Value.ref T.heap.size).category = 1 := rfl
  have hcellA : T1.heap[T.heap.size]? = some (freshCell cX kX) := by rw [← hT1]; exact State.heap_pushCell_size _ _
  have d3' : decode c.code (pc + 3) = .ok (.dup, 1) := by rw [hb]; exact d3
  have d4' : decode c.code (pc + 4) = .ok (.ldc_w is, 3) := by rw [hb]; exact d4
  have hstr' : vk_R own is text sa s' := vk_R.warm hW0 hstr
  obtain ⟨U, hsteps, hrun, hend, hW, hsame, ce, hce, hO⟩ := X₁.ctorThrowS hexec htr (own := own) (cls := cls) (names := names) (ic := ic) hown' hcls hnames h (fun x hx => nomatch hx) hfX hkX hcellA (by rw [hhp, hT]; exact Nat.le_refl _) (msg := .ref sa) rfl
    (g := { method := m, pc := pc + 7, locals := ls, stack := .ref sa :: .ref T.heap.size :: .ref T.heap.size :: rest, locked := none }) rfl hsize rfl rfl (rest := rest) rfl
    (by rw [hb]; exact d7) (by rw [hb]; exact d10) hout hRframes (by simp only [List.map_cons, List.sum_cons, hcat]; omega) hlocks
  obtain ⟨f1, f2⟩ := vx_frame hsame
  rw [hhp] at f1 f2
  have hWs : s.WarmedH U.vm := State.WarmedH.trans hW0 hW
  have hcl : s.vm.findClass cls = some ce.cls := by
    have h9 := hO.cls
    rw [hvm] at h9
    exact h9
  have hall : s.sameButNew ({ U with vm := s.vm } : State) locs mc ms := by
    subst hA
    obtain ⟨e1, e2⟩ := hsame
    rw [State.setFrames_setFrames] at e1
    have h2 : (T.setVm s.vm).sameButNew ({ U with vm := s.vm } : State) [] (0 + 1) (0 + 6) := ⟨e1, e2⟩
    have h3 := X.same.trans h2
    rw [List.append_nil] at h3
    exact h3.mono hc hs
  refine ⟨U, ?_, .threw T.heap.size, hrun, hend, Or.inr ⟨T.heap.size, rfl, cls, ce, locs, hx U hWs.alike f1 (fun q hq => f2 q hq (fun z hz => nomatch hz)), hce, hO.vm, hcl, hWs, hall, hf⟩⟩
  refine st1 _ ?_
  show Steps p.tables e below (T1.setTop { method := m, pc := pc + 3, locals := ls, stack := .ref T.heap.size :: rest, locked := none }) _
  jvm_step X₁.here [X₁.here.top, hexec, d3', Value.category]
  exact X₁.ldcStringW hexec (own := own) (text := text) (index := is) (a := sa) hown' hstr'.1 hstr'.2
    (g := { method := m, pc := pc + 4, locals := ls, stack := .ref T.heap.size :: .ref T.heap.size :: rest, locked := none }) rfl d4' _ hsteps
end Ends
section Bodies
variable {l : Launch}
theorem vx_ofW {y : MethodName} {ws ws' : List Cond} {rm : Room} {Pc : Array Value → State → Prop} {Qc : Array Value → State → Outcome → State → Prop} {XC : String → State → State → Prop} {mc ms : Nat} {free : Addr → Prop} {cc : ByteArray} {maxL : Nat} {ret : Option FieldType}
    (hy : plainName y.cls = true) (hw : ws = Cond.code y cc maxL ret :: ws')
    (body : ∀ p e s m args below meth c s₁, BodyLoose p l y (headSpec ws rm) cc maxL ret e s m args below meth c s₁ → c.maxLocals = maxL → (∀ x ∈ c.exceptionTable.toList, False) → Pc args s →
      W p l e (headSpec ws rm).room s m args below meth c s.heap [] 0 0 (vx_MQ below Qc XC args s mc ms free) (entryFrame m args maxL)) : vx_Met l y ws rm Pc Qc XC mc ms free := by
  refine MetFree.of_bodyS (code := cc) (maxLocals := maxL) (ret := ret) hy ?_ ?_
  · intro args s m h hn
    obtain ⟨meth, c, h1, h2, h3, h4, h5, h6, -, -⟩ := Cond.code_spec hn (atoms_spec (ws := ws) h _ (by rw [hw]; exact List.mem_cons_self))
    exact ⟨meth, c, h1, h2, h3, h4, h5, h6⟩
  · intro p e s m args below meth c s₁ B hml hP _
    have hh0 : s₁.heap = s.heap := by rw [B.state]; rfl
    have ht : ∀ x ∈ c.exceptionTable.toList, False := by
      obtain ⟨meth9, c9, h1, h2, -, -, -, -, h7, -⟩ := Cond.code_spec B.named (atoms_spec (ws := ws) B.pre _ (by rw [hw]; exact List.mem_cons_self))
      cases Option.some.inj (h1.symm.trans B.method)
      cases Option.some.inj (h2.symm.trans (Stand.of_body B).code)
      intro x hx
      rw [Array.isEmpty_iff.mp h7] at hx
      cases hx
    obtain ⟨t, a1, o, b1, b2, b3⟩ := body p e s m args below meth c s₁ B hml ht hP s₁ hh0 (Stand.of_body B)
    exact ⟨t, o, a1, b1, b2, b3⟩
/-- the table of a body with handlers -/
theorem vx_table {p : Program} {x y : MethodName} {S : Spec} {cc bytes : ByteArray} {maxL maxL' : Nat} {ret ret' : Option FieldType} {e : Env} {s s₁ : State} {m : MethodId} {args : Array Value} {below : List Frame} {meth : Method} {c : Code} {hh : List (Nat × Nat × Nat × Nat)}
    (B : BodyLoose p l y S cc maxL ret e s m args below meth c s₁) (h : (Cond.codeWith y bytes maxL' ret' hh).before args s = true) : c.exceptionTable.toList = tableOf hh := by
  obtain ⟨m9, meth9, c9, hn9, h1, h2, -, -, h6, -⟩ := Cond.codeWith_spec h
  cases Option.some.inj (hn9.symm.trans B.named)
  cases Option.some.inj (h1.symm.trans B.method)
  cases Option.some.inj (h2.symm.trans (Stand.of_body B).code)
  rw [← h6, table_eq]
end Bodies
end VXA
/-! ===== END ===== -/
/-! ===== BEGIN a static call of a method with an exception table ===== -/
section VXS
variable {p : Program} {l : Launch} {e : Env} {R : Room} {s : State} {m : MethodId} {args : Array Value} {below : List Frame} {meth : Method} {c : Code} {T : State} {H : Heap} {locs : List Loc} {cells slots : Nat}
abbrev vx_CSW (R : Room) (s : State) (args : Array Value) (own : String) (index : Nat) (y : MethodName) (bytes : ByteArray) (maxL : Nat) (ret : Option FieldType) (hh : List (Nat × Nat × Nat × Nat)) (ws : List Cond) (rm : Room) (mc ms n : Nat) : Prop :=
  (rm.cells = mc ∧ rm.slots = ms ∧ rm.frames + 1 ≤ R.frames ∧ 8 + (maxL + 11) + rm.locals ≤ R.locals ∧ (∀ w ∈ ws, ∀ (a' : Array Value) (U : State), s.WarmedH U.vm → w.before a' U = true) ∧ Cond.codeWith y bytes maxL ret hh ∈ ws) ∧
  (Cond.codeWith y bytes maxL ret hh).before args s = true ∧ (Cond.initialized y.cls).before args s = true ∧ (y.cls ≠ "java/lang/invoke/MethodHandle" ∧ y.cls ≠ "java/lang/invoke/VarHandle") ∧
  (∀ sig, parseMethodDescriptor y.desc = some sig → n = sig.parameters.length) ∧ (Cond.methodLink own index y).before args s = true ∧ (Cond.static y).before args s = true
theorem vx_cwSW {own : String} {index maxL mc ms : Nat} {y : MethodName} {bytes : ByteArray} {ret : Option FieldType} {hh : List (Nat × Nat × Nat × Nat)} {Ts ws ws' : List Cond} {rm : Room} (n : Nat) (ht : ∀ w ∈ Ts, w.before args s = true) (hT : GoodIn Ts (va_wsS own index y ws)) (hw : ws = Cond.codeWith y bytes maxL ret hh :: ws') (hrc : rm.cells = mc) (hrs : rm.slots = ms)
    (hd : y.cls ≠ "java/lang/invoke/MethodHandle" ∧ y.cls ≠ "java/lang/invoke/VarHandle" ∧ (parseMethodDescriptor y.desc).map (fun d => d.parameters.length) = some n) (hR : rm.frames + 1 ≤ R.frames ∧ 8 + (maxL + 11) + rm.locals ≤ R.locals) :
    vx_CSW R s args own index y bytes maxL ret hh ws rm mc ms n := by
  have ok : ∀ w ∈ va_wsS own index y ws, w.before args s = true := fun w h => ht w (hT w h).1
  have hG : GoodIn Ts ws := fun w h => hT w (by unfold va_wsS; exact List.mem_append_right _ h)
  have hc : Cond.codeWith y bytes maxL ret hh ∈ ws := by rw [hw]; exact List.mem_cons_self
  refine ⟨⟨hrc, hrs, hR.1, hR.2, pay_in ht hG, hc⟩, ht _ (hG _ hc).1, ok _ (by simp [va_wsS]), ⟨hd.1, hd.2.1⟩, fun sig h => ?_, ok _ (by simp [va_wsS]), ok _ (by simp [va_wsS])⟩
  have h2 := hd.2.2
  rw [h] at h2
  exact (Option.some.inj h2).symm
theorem vx_callSW (X : Stand p l e R s m args below meth c T locs cells slots) (hexec : p.tables.exec = Jvm.exec) {own : String} {index : Nat} {y : MethodName} {bytes : ByteArray} {maxL : Nat} {ret : Option FieldType} {hh : List (Nat × Nat × Nat × Nat)}
    (hown : s.vm.findClass own = some m.cls) (hlink : (Cond.methodLink own index y).before args s = true) (hstat : (Cond.static y).before args s = true) (hinit : (Cond.initialized y.cls).before args s = true)
    (hcode : (Cond.codeWith y bytes maxL ret hh).before args s = true) (hy : y.cls ≠ "java/lang/invoke/MethodHandle" ∧ y.cls ≠ "java/lang/invoke/VarHandle")
    {W9 : Nat} {Pre : Pt → Array Value → Prop} {Post : Pt → Array Value → Option Value → Pt → Prop} (hK : Back l R p e below s args y 3 W9 Pre Post)
    {g : JFrame} (hg : g.method = m) (hsize : g.locals.size = c.maxLocals) {argsL rest : List Value} (hlen : ∀ sig, parseMethodDescriptor y.desc = some sig → argsL.length = sig.parameters.length)
    (hstack : g.stack = argsL.reverse ++ rest) (hW : 2 * g.monitorRoom + (rest.map fun v => v.category).sum ≤ W9) (hdg : decode c.code g.pc = .ok (.invokestatic index, 3))
    (hpre : ∀ vm₁, s.WarmedH vm₁ → Pre ⟨T.setVm vm₁, locs, cells, slots⟩ argsL.toArray) :
    ∃ (v : Option Value) (vm₁ : Vm) (B : Pt), s.WarmedH vm₁ ∧ Stand p l e R s m args below meth c B.U B.locs B.cells B.slots ∧ Post ⟨T.setVm vm₁, locs, cells, slots⟩ argsL.toArray v B ∧
      ∀ target, Steps p.tables e below (B.U.setTop { g with pc := g.pc + 3, stack := v.toList ++ rest }) target → Steps p.tables e below (T.setTop g) target := by
  obtain ⟨mk, methM, cM, hnamed, hmethM, -, -, -, -, -, -, hsigM⟩ := Cond.codeWith_spec hcode
  have hstatic : methM.isStatic = true := Cond.static_spec hnamed hmethM hstat
  obtain ⟨kP, hkP, -⟩ := className_of_methodNamed hnamed
  have hinitP : kP.init = .initialized := Cond.initialized_spec (findClass_of_methodNamed hnamed) hkP hinit
  obtain ⟨vm₁, X₁, hstep₁⟩ := X.invokestatic hexec hown hlink hnamed hmethM hstatic hkP hinitP hy (g := g) hg (argsL := argsL) (rest := rest) (hlen _ hsigM) hstack hdg
  obtain ⟨v, B, X', hpost, hsteps⟩ := hK m meth c ⟨T.setVm vm₁, locs, cells, slots⟩ { g with stack := rest } (.invokestatic index) mk argsL.toArray X₁ hg hsize hdg hW (X₁.named hnamed) (hpre vm₁ X₁.warmed)
  exact ⟨v, vm₁, B, X₁.warmed, X', hpost, fun target h => hstep₁ _ fun acts => by rw [doInvoke_state]; exact hsteps.trans h⟩
theorem vx_runSW {y : MethodName} {bytes cc : ByteArray} {maxL nL mc ms n index : Nat} {ret : Option FieldType} {hh : List (Nat × Nat × Nat × Nat)} {ws : List Cond} {rm : Room} {Pc : Array Value → State → Prop} {Qc : Array Value → State → Outcome → State → Prop} {free : Addr → Prop} {Ts : List Cond} {own : String} {As rest : List Value} {g : JFrame}
    (S : CallFix p m c cc nL s args Ts own) (hM : Met l y ws rm Pc Qc mc ms free) (cw : vx_CSW R s args own index y bytes maxL ret hh ws rm mc ms n) (hp : PreS s H Pc As)
    (hg : g.method = m) (hn : As.length = n) (hsize : g.locals.size = nL) (hstack : g.stack = As.reverse ++ rest) (hW : 2 * g.monitorRoom + (rest.map fun v => v.category).sum ≤ 8) (hdg : decode cc g.pc = .ok (.invokestatic index, 3)) (hf : cells + mc ≤ R.cells ∧ slots + ms ≤ R.slots) :
    va_Run p l e R s m args below meth c H locs cells slots mc ms g rest (Qc As.toArray) (free) := by
  obtain ⟨⟨hrc, hrs, hfr, hlo, hws, hcw⟩, hcode, hini, hy, hlen, hl, hstt⟩ := cw
  have hK : Back l R p e below s args y 3 8 (PreOf R mc ms Pc) (PostOf Qc mc ms free) := va_backW (hh := hh) (bytes := bytes) (maxL := maxL) (ret := ret) hM hp.1 hrc hrs hfr hlo hws hcw (fun a' U hW => word_at hW (Or.inl (by first | rfl | simp [Cond.onTables, Cond.keeps, Cond.steady])) hini)
  obtain ⟨hx, hb, hml, ho, -⟩ := S
  intro T hT X
  obtain ⟨v, vm₁, ⟨U', l2, c2, s2⟩, hW₁, X', ⟨g', mk, t, L, e1, e2, hq, h1, hL, h2, h3⟩, st⟩ := vx_callSW X hx (hh := hh) (bytes := bytes) (maxL := maxL) (ret := ret) ho hl hstt hini hcode hy hK hg (hsize.trans hml.symm) (argsL := As) (rest := rest) (fun sig h => hn.trans (hlen sig h)) hstack hW (by rw [hb]; exact hdg)
    (fun vm₁ hW₁ => ⟨hf.1, hf.2, hp.2 (T.setVm vm₁) hT hW₁⟩)
  dsimp only [Pt.U, Pt.locs, Pt.cells, Pt.slots] at X' e1 e2 h1 h2 h3 st
  subst h1; subst h2; subst h3
  exact ⟨v, (T.setVm vm₁).calling g' mk As.toArray, t, U', L, hT, X', hL, e1, e2, hq, st⟩
/-- not caught here, past rows that name other classes: it goes on to the caller -/
theorem vx_outP {p : Program} {l : Launch} {e : Env} {R : Room} {s : State} {m : MethodId} {args : Array Value} {below : List Frame} {meth : Method} {c : Code} {H : Heap} {locs : List Loc} {cells slots : Nat} {free : Addr → Prop} {ls : Array Slot} {rest : List Value} {Qc : Array Value → State → Outcome → State → Prop} {XC : String → State → State → Prop}
    {pc : Nat} {own E : String} {ce : Cell} {q : Addr} {mc ms : Nat} (hown : s.vm.findClass own = some m.cls) (hlocks : meth.locks = false)
    (hpass : ∀ z ∈ c.exceptionTable.toList, covers z pc = false ∨ (z.catchType ≠ 0 ∧ ∃ nm : String, (Cond.classLink own z.catchType nm).before args s = true ∧ va_Nc E nm s)) (hcell : H[q]? = some ce) (hv : ce.vm = .none) (hcl : s.vm.findClass E = some ce.cls)
    (hx : ∀ t : State, t.heap = H → s.vm.Alike t.vm → XC E s t) (hf : ∀ z ∈ locs, free z.base) (hc : cells ≤ mc) (hs : slots ≤ ms) :
    vx_W p l e R s m args below meth c H locs cells slots (vx_MQ below Qc XC args s mc ms free) (F0 m pc ls rest) q := by
  intro T hT X
  have hpl : e.platform.magicAccessors = ({} : Platform).magicAccessors := by rw [X.admits.platform]
  obtain ⟨vm', hW', X', st⟩ := X.outThrough hlocks q (g := F0 m pc ls rest) rfl rfl rfl (cell := ce) (by rw [hT]; exact hcell) (by rw [hv]; rfl)
    (by obtain ⟨k9, h9, -⟩ := Vm.findClass_spec hcl; exact ⟨k9, h9⟩) (fun z hz => by
      rcases hpass z hz with h | ⟨hz0, nm, hl1, hn1⟩
      · exact Or.inl h
      · obtain ⟨c6, hc6, hcl6⟩ := Cond.classLink_spec hown hl1 e.platform hpl
        obtain ⟨a8, b8, h1, h2, h3⟩ := hn1
        cases Option.some.inj (h1.symm.trans hcl)
        cases Option.some.inj (h2.symm.trans hc6)
        exact Or.inr ⟨hz0, _, hcl6, h3⟩)
  obtain ⟨g₀, hfr⟩ := X'.frames_eq
  have hcell9 : ((T.setVm vm').setFrames (.throwing q :: below)).heap[q]? = some ce := by
    show T.heap[q]? = some ce
    rw [hT]; exact hcell
  have hend : Ended ((T.setVm vm').setFrames (.throwing q :: below)) below (.threw q) := State.frames_setFrames _ (State.cur_lt_of_frames hfr)
  refine ⟨(T.setVm vm').setFrames (.throwing q :: below), ?_, .threw q, X'.here.running, hend, Or.inr ⟨q, rfl, E, ce, locs, hx _ hT (X'.ends _).1.alike, hcell9, hv, hcl, (X'.ends _).1, (X'.ends _).2.mono hc hs, hf⟩⟩
  rw [X.pushThrowing_eq]
  exact st
/-- a thing of a world lies in the heap -/
theorem vx_lt {D : va_G} {cl : List vw_C} {ws : va_W} {H1 : Heap} (h : va_P D cl ws H1) {k : Nat} {q : Nat × va_E} (hk : ws[k]? = some q) : q.1 < H1.size := (h k q hk).lt
end VXS
/-! ===== END ===== -/
end
section
def RX0 : String := "Polyforge$Bench"
def TX0 : u_T := fun k => match k with
  | 0 => ("Polyforge$Bench", "prime", "I", false)
  | 1 => ("Polyforge$Bench", "one", "LPolyforge$Line;", true)
  | 2 => ("Polyforge$Bench", "two", "LPolyforge$Line;", true)
  | 3 => ("Polyforge$Bench", "three", "LPolyforge$Line;", true)
  | 4 => ("Polyforge$Bench", "quotient", "LPolyforge$Line;", true)
  | 5 => ("Polyforge$Bench", "product", "LPolyforge$Line;", true)
  | 6 => ("Polyforge$Bench", "whole", "LPolyforge$Line;", true)
  | 7 => ("Polyforge$Bench", "left", "LPolyforge$Line;", true)
  | 8 => ("Polyforge$Bench", "trial", "LPolyforge$Line;", true)
  | 9 => ("Polyforge$Bench", "candidate", "LPolyforge$Line;", true)
  | 10 => ("Polyforge$Bench", "below", "LPolyforge$Line;", true)
  | 11 => ("Polyforge$Bench", "factor", "LPolyforge$Line;", true)
  | 12 => ("Polyforge$Bench", "lastFactor", "LPolyforge$Line;", true)
  | 13 => ("Polyforge$Bench", "parts", "[LPolyforge$Line;", true)
  | 14 => ("Polyforge$Bench", "times", "[I", true)
  | 15 => ("Polyforge$Bench", "partCount", "I", false)
  | 16 => ("Polyforge$Bench", "matrix", "[I", true)
  | _ => ("Polyforge$Bench", "numbers", "[I", true)
def tyX0 : Nat → FieldType := fun k => match k with
  | 0 => .int
  | 1 => .object "Polyforge$Line"
  | 2 => .object "Polyforge$Line"
  | 3 => .object "Polyforge$Line"
  | 4 => .object "Polyforge$Line"
  | 5 => .object "Polyforge$Line"
  | 6 => .object "Polyforge$Line"
  | 7 => .object "Polyforge$Line"
  | 8 => .object "Polyforge$Line"
  | 9 => .object "Polyforge$Line"
  | 10 => .object "Polyforge$Line"
  | 11 => .object "Polyforge$Line"
  | 12 => .object "Polyforge$Line"
  | 13 => .array (.object "Polyforge$Line")
  | 14 => .array .int
  | 15 => .int
  | 16 => .array .int
  | _ => .array .int
abbrev wsX00 : List Cond := u_ws RX0 TX0 18
theorem nmX0 : ∀ a, a < 18 → ∀ b, b < 18 → a ≠ b → (TX0 a).2.1 ≠ (TX0 b).2.1 := by decide +kernel
theorem tyX0_ok : ∀ k, k < 18 → parseFieldDescriptor (TX0 k).2.2.1 = some (tyX0 k) := by decide +kernel
def RX1 : String := "Polyforge$Buckets"
def TX1 : u_T := fun k => match k with
  | 0 => ("Polyforge$Buckets", "prime", "I", false)
  | 1 => ("Polyforge$Buckets", "rows", "[[J", true)
  | 2 => ("Polyforge$Buckets", "heads", "[I", true)
  | 3 => ("Polyforge$Buckets", "ends", "[I", true)
  | 4 => ("Polyforge$Buckets", "merged", "[J", false)
  | 5 => ("Polyforge$Buckets", "carried", "[J", false)
  | _ => ("Polyforge$Buckets", "mergedCount", "I", false)
def tyX1 : Nat → FieldType := fun k => match k with
  | 0 => .int
  | 1 => .array (.array .long)
  | 2 => .array .int
  | 3 => .array .int
  | 4 => .array .long
  | 5 => .array .long
  | _ => .int
abbrev wsX10 : List Cond := u_ws RX1 TX1 7
theorem nmX1 : ∀ a, a < 7 → ∀ b, b < 7 → a ≠ b → (TX1 a).2.1 ≠ (TX1 b).2.1 := by decide +kernel
theorem tyX1_ok : ∀ k, k < 7 → parseFieldDescriptor (TX1 k).2.2.1 = some (tyX1 k) := by decide +kernel
def RX2 : String := "Polyforge$Completion"
def TX2 : u_T := fun k => match k with
  | 0 => ("Polyforge$Completion", "divider", "LPolyforge$Divider;", true)
  | 1 => ("Polyforge$Completion", "work", "LPolyforge$Stock;", true)
  | 2 => ("Polyforge$Completion", "built", "LPolyforge$Stock;", true)
  | 3 => ("Polyforge$Completion", "pairs", "[I", false)
  | 4 => ("Polyforge$Completion", "pairCount", "I", false)
  | 5 => ("Polyforge$Completion", "multiples", "[I", false)
  | _ => ("Polyforge$Completion", "states", "[I", false)
def tyX2 : Nat → FieldType := fun k => match k with
  | 0 => .object "Polyforge$Divider"
  | 1 => .object "Polyforge$Stock"
  | 2 => .object "Polyforge$Stock"
  | 3 => .array .int
  | 4 => .int
  | 5 => .array .int
  | _ => .array .int
abbrev wsX20 : List Cond := u_ws RX2 TX2 7
theorem nmX2 : ∀ a, a < 7 → ∀ b, b < 7 → a ≠ b → (TX2 a).2.1 ≠ (TX2 b).2.1 := by decide +kernel
theorem tyX2_ok : ∀ k, k < 7 → parseFieldDescriptor (TX2 k).2.2.1 = some (tyX2 k) := by decide +kernel
def RX3 : String := "Polyforge$Divider"
def TX3 : u_T := fun k => match k with
  | 0 => ("Polyforge$Divider", "buckets", "LPolyforge$Buckets;", true)
  | 1 => ("Polyforge$Divider", "single", "[J", true)
  | 2 => ("Polyforge$Divider", "rest", "[J", false)
  | 3 => ("Polyforge$Divider", "restCount", "I", false)
  | _ => ("Polyforge$Divider", "prime", "I", false)
def tyX3 : Nat → FieldType := fun k => match k with
  | 0 => .object "Polyforge$Buckets"
  | 1 => .array .long
  | 2 => .array .long
  | 3 => .int
  | _ => .int
abbrev wsX30 : List Cond := u_ws RX3 TX3 5
theorem nmX3 : ∀ a, a < 5 → ∀ b, b < 5 → a ≠ b → (TX3 a).2.1 ≠ (TX3 b).2.1 := by decide +kernel
theorem tyX3_ok : ∀ k, k < 5 → parseFieldDescriptor (TX3 k).2.2.1 = some (tyX3 k) := by decide +kernel
def RX4 : String := "Polyforge$Ideal"
def TX4 : u_T := fun k => match k with
  | 0 => ("Polyforge$Ideal", "prime", "I", true)
  | 1 => ("Polyforge$Ideal", "generators", "[LPolyforge$Polynomial;", true)
  | 2 => ("Polyforge$Ideal", "generatorCount", "I", false)
  | 3 => ("Polyforge$Ideal", "basisInL", "LPolyforge$Stock;", false)
  | 4 => ("Polyforge$Ideal", "basisInD", "LPolyforge$Stock;", false)
  | _ => ("Polyforge$Ideal", "basisInR", "LPolyforge$Stock;", false)
def tyX4 : Nat → FieldType := fun k => match k with
  | 0 => .int
  | 1 => .array (.object "Polyforge$Polynomial")
  | 2 => .int
  | 3 => .object "Polyforge$Stock"
  | 4 => .object "Polyforge$Stock"
  | _ => .object "Polyforge$Stock"
abbrev wsX40 : List Cond := u_ws RX4 TX4 6
theorem nmX4 : ∀ a, a < 6 → ∀ b, b < 6 → a ≠ b → (TX4 a).2.1 ≠ (TX4 b).2.1 := by decide +kernel
theorem tyX4_ok : ∀ k, k < 6 → parseFieldDescriptor (TX4 k).2.2.1 = some (tyX4 k) := by decide +kernel
def RX5 : String := "Polyforge$Key"
def TX5 : u_T := fun k => match k with
  | _ => ("", "", "", false)
def tyX5 : Nat → FieldType := fun k => match k with
  | _ => .int
abbrev wsX50 : List Cond := u_ws RX5 TX5 0
theorem nmX5 : ∀ a, a < 0 → ∀ b, b < 0 → a ≠ b → (TX5 a).2.1 ≠ (TX5 b).2.1 := by decide +kernel
theorem tyX5_ok : ∀ k, k < 0 → parseFieldDescriptor (TX5 k).2.2.1 = some (tyX5 k) := by decide +kernel
def RX6 : String := "Polyforge$Line"
def TX6 : u_T := fun k => match k with
  | 0 => ("Polyforge$Line", "row", "[I", true)
  | _ => ("Polyforge$Line", "top", "I", false)
def tyX6 : Nat → FieldType := fun k => match k with
  | 0 => .array .int
  | _ => .int
abbrev wsX60 : List Cond := u_ws RX6 TX6 2
theorem nmX6 : ∀ a, a < 2 → ∀ b, b < 2 → a ≠ b → (TX6 a).2.1 ≠ (TX6 b).2.1 := by decide +kernel
theorem tyX6_ok : ∀ k, k < 2 → parseFieldDescriptor (TX6 k).2.2.1 = some (tyX6 k) := by decide +kernel
def RX7 : String := "Polyforge$Polynomial"
def TX7 : u_T := fun k => match k with
  | 0 => ("Polyforge$Polynomial", "ground", "I", true)
  | _ => ("Polyforge$Polynomial", "packed", "[J", true)
def tyX7 : Nat → FieldType := fun k => match k with
  | 0 => .int
  | _ => .array .long
abbrev wsX70 : List Cond := u_ws RX7 TX7 2
theorem nmX7 : ∀ a, a < 2 → ∀ b, b < 2 → a ≠ b → (TX7 a).2.1 ≠ (TX7 b).2.1 := by decide +kernel
theorem tyX7_ok : ∀ k, k < 2 → parseFieldDescriptor (TX7 k).2.2.1 = some (tyX7 k) := by decide +kernel
def RX8 : String := "Polyforge$Rule"
def TX8 : u_T := fun k => match k with
  | 0 => ("Polyforge$Rule", "monomial", "I", true)
  | 1 => ("Polyforge$Rule", "told", "LPolyforge$Polynomial;", true)
  | 2 => ("Polyforge$Rule", "variable", "I", true)
  | _ => ("Polyforge$Rule", "sign", "C", true)
def tyX8 : Nat → FieldType := fun k => match k with
  | 0 => .int
  | 1 => .object "Polyforge$Polynomial"
  | 2 => .int
  | _ => .char
abbrev wsX80 : List Cond := u_ws RX8 TX8 4
theorem nmX8 : ∀ a, a < 4 → ∀ b, b < 4 → a ≠ b → (TX8 a).2.1 ≠ (TX8 b).2.1 := by decide +kernel
theorem tyX8_ok : ∀ k, k < 4 → parseFieldDescriptor (TX8 k).2.2.1 = some (tyX8 k) := by decide +kernel
def RX9 : String := "Polyforge$Slate"
def TX9 : u_T := fun k => match k with
  | 0 => ("Polyforge$Slate", "cells", "[J", true)
  | 1 => ("Polyforge$Slate", "reach", "[I", true)
  | 2 => ("Polyforge$Slate", "result", "[J", false)
  | 3 => ("Polyforge$Slate", "spare", "[J", false)
  | 4 => ("Polyforge$Slate", "length", "I", false)
  | _ => ("Polyforge$Slate", "ground", "I", false)
def tyX9 : Nat → FieldType := fun k => match k with
  | 0 => .array .long
  | 1 => .array .int
  | 2 => .array .long
  | 3 => .array .long
  | 4 => .int
  | _ => .int
abbrev wsX90 : List Cond := u_ws RX9 TX9 6
theorem nmX9 : ∀ a, a < 6 → ∀ b, b < 6 → a ≠ b → (TX9 a).2.1 ≠ (TX9 b).2.1 := by decide +kernel
theorem tyX9_ok : ∀ k, k < 6 → parseFieldDescriptor (TX9 k).2.2.1 = some (tyX9 k) := by decide +kernel
def RX10 : String := "Polyforge$Stock"
def TX10 : u_T := fun k => match k with
  | 0 => ("Polyforge$Stock", "order", "C", false)
  | 1 => ("Polyforge$Stock", "prime", "I", false)
  | 2 => ("Polyforge$Stock", "packed", "[J", false)
  | 3 => ("Polyforge$Stock", "starts", "[I", false)
  | 4 => ("Polyforge$Stock", "leads", "[I", false)
  | 5 => ("Polyforge$Stock", "gone", "[I", false)
  | _ => ("Polyforge$Stock", "count", "I", false)
def tyX10 : Nat → FieldType := fun k => match k with
  | 0 => .char
  | 1 => .int
  | 2 => .array .long
  | 3 => .array .int
  | 4 => .array .int
  | 5 => .array .int
  | _ => .int
abbrev wsX100 : List Cond := u_ws RX10 TX10 7
theorem nmX10 : ∀ a, a < 7 → ∀ b, b < 7 → a ≠ b → (TX10 a).2.1 ≠ (TX10 b).2.1 := by decide +kernel
theorem tyX10_ok : ∀ k, k < 7 → parseFieldDescriptor (TX10 k).2.2.1 = some (tyX10 k) := by decide +kernel
def RX11 : String := "Polyforge"
def TX11 : u_T := fun k => match k with
  | 0 => ("Polyforge", "kept", "[LPolyforge$Polynomial;", true)
  | 1 => ("Polyforge", "keptCount", "I", false)
  | 2 => ("Polyforge", "order", "C", false)
  | 3 => ("Polyforge", "ideals", "[LPolyforge$Ideal;", true)
  | 4 => ("Polyforge", "idealCount", "I", false)
  | 5 => ("Polyforge", "rules", "[LPolyforge$Rule;", true)
  | 6 => ("Polyforge", "ruleCount", "I", false)
  | 7 => ("Polyforge", "signs", "[C", true)
  | 8 => ("Polyforge", "signFrames", "[I", true)
  | 9 => ("Polyforge", "openFrames", "I", false)
  | 10 => ("Polyforge", "tally", "[I", true)
  | 11 => ("Polyforge", "slate", "LPolyforge$Slate;", true)
  | 12 => ("Polyforge", "bench", "LPolyforge$Bench;", true)
  | 13 => ("Polyforge", "completion", "LPolyforge$Completion;", true)
  | _ => ("Polyforge", "divider", "LPolyforge$Divider;", true)
def tyX11 : Nat → FieldType := fun k => match k with
  | 0 => .array (.object "Polyforge$Polynomial")
  | 1 => .int
  | 2 => .char
  | 3 => .array (.object "Polyforge$Ideal")
  | 4 => .int
  | 5 => .array (.object "Polyforge$Rule")
  | 6 => .int
  | 7 => .array .char
  | 8 => .array .int
  | 9 => .int
  | 10 => .array .int
  | 11 => .object "Polyforge$Slate"
  | 12 => .object "Polyforge$Bench"
  | 13 => .object "Polyforge$Completion"
  | _ => .object "Polyforge$Divider"
abbrev wsX110 : List Cond := u_ws RX11 TX11 15
theorem nmX11 : ∀ a, a < 15 → ∀ b, b < 15 → a ≠ b → (TX11 a).2.1 ≠ (TX11 b).2.1 := by decide +kernel
theorem tyX11_ok : ∀ k, k < 15 → parseFieldDescriptor (TX11 k).2.2.1 = some (tyX11 k) := by decide +kernel
def RX12 : String := "PolyforgeModel$Terms"
def TX12 : u_T := fun k => match k with
  | 0 => ("PolyforgeModel$Terms", "monomials", "[I", true)
  | _ => ("PolyforgeModel$Terms", "coefficients", "[J", true)
def tyX12 : Nat → FieldType := fun k => match k with
  | 0 => .array .int
  | _ => .array .long
abbrev wsX120 : List Cond := u_ws RX12 TX12 2
theorem nmX12 : ∀ a, a < 2 → ∀ b, b < 2 → a ≠ b → (TX12 a).2.1 ≠ (TX12 b).2.1 := by decide +kernel
theorem tyX12_ok : ∀ k, k < 2 → parseFieldDescriptor (TX12 k).2.2.1 = some (tyX12 k) := by decide +kernel
def RX13 : String := "PolyforgeModel"
def TX13 : u_T := fun k => match k with
  | 0 => ("PolyforgeModel", "code", "I", false)
  | 1 => ("PolyforgeModel", "order", "C", false)
  | 2 => ("PolyforgeModel", "kept", "I", false)
  | 3 => ("PolyforgeModel", "grounds", "[I", true)
  | 4 => ("PolyforgeModel", "polynomials", "[LPolyforgeModel$Terms;", true)
  | 5 => ("PolyforgeModel", "isBad", "Z", false)
  | 6 => ("PolyforgeModel", "ideals", "I", false)
  | 7 => ("PolyforgeModel", "idealPrime", "[I", true)
  | 8 => ("PolyforgeModel", "generators", "[I", true)
  | 9 => ("PolyforgeModel", "generatorAt", "[I", true)
  | 10 => ("PolyforgeModel", "rules", "I", false)
  | 11 => ("PolyforgeModel", "ruleMonomial", "[I", true)
  | 12 => ("PolyforgeModel", "rulePolynomial", "[I", true)
  | 13 => ("PolyforgeModel", "ruleVariable", "[I", true)
  | 14 => ("PolyforgeModel", "ruleSign", "[C", true)
  | 15 => ("PolyforgeModel", "frames", "I", false)
  | 16 => ("PolyforgeModel", "signs", "[C", true)
  | 17 => ("PolyforgeModel", "signFrame", "[I", true)
  | 18 => ("PolyforgeModel", "stepsMade", "I", false)
  | 19 => ("PolyforgeModel", "factorMany", "I", false)
  | 20 => ("PolyforgeModel", "factorOf", "[[I", true)
  | 21 => ("PolyforgeModel", "factorTimes", "[I", true)
  | 22 => ("PolyforgeModel", "row", "[J", true)
  | 23 => ("PolyforgeModel", "power", "[J", true)
  | 24 => ("PolyforgeModel", "product", "[J", true)
  | 25 => ("PolyforgeModel", "scratch", "[[I", true)
  | 26 => ("PolyforgeModel", "matrix", "[[I", true)
  | 27 => ("PolyforgeModel", "basisIdeal", "I", false)
  | 28 => ("PolyforgeModel", "basisMany", "I", false)
  | 29 => ("PolyforgeModel", "basisGenerators", "I", false)
  | 30 => ("PolyforgeModel", "basisOrder", "C", false)
  | 31 => ("PolyforgeModel", "poolAt", "[I", true)
  | 32 => ("PolyforgeModel", "poolMonomials", "[I", true)
  | 33 => ("PolyforgeModel", "poolCoefficients", "[I", true)
  | 34 => ("PolyforgeModel", "isOut", "[Z", true)
  | 35 => ("PolyforgeModel", "starts", "[I", true)
  | 36 => ("PolyforgeModel", "isDone", "[[Z", true)
  | 37 => ("PolyforgeModel", "workMany", "I", false)
  | 38 => ("PolyforgeModel", "workMonomials", "[I", false)
  | 39 => ("PolyforgeModel", "workCoefficients", "[I", false)
  | 40 => ("PolyforgeModel", "nextMonomials", "[I", false)
  | 41 => ("PolyforgeModel", "nextCoefficients", "[I", false)
  | 42 => ("PolyforgeModel", "outMany", "I", false)
  | 43 => ("PolyforgeModel", "outMonomials", "[I", true)
  | _ => ("PolyforgeModel", "outCoefficients", "[I", true)
def tyX13 : Nat → FieldType := fun k => match k with
  | 0 => .int
  | 1 => .char
  | 2 => .int
  | 3 => .array .int
  | 4 => .array (.object "PolyforgeModel$Terms")
  | 5 => .boolean
  | 6 => .int
  | 7 => .array .int
  | 8 => .array .int
  | 9 => .array .int
  | 10 => .int
  | 11 => .array .int
  | 12 => .array .int
  | 13 => .array .int
  | 14 => .array .char
  | 15 => .int
  | 16 => .array .char
  | 17 => .array .int
  | 18 => .int
  | 19 => .int
  | 20 => .array (.array .int)
  | 21 => .array .int
  | 22 => .array .long
  | 23 => .array .long
  | 24 => .array .long
  | 25 => .array (.array .int)
  | 26 => .array (.array .int)
  | 27 => .int
  | 28 => .int
  | 29 => .int
  | 30 => .char
  | 31 => .array .int
  | 32 => .array .int
  | 33 => .array .int
  | 34 => .array .boolean
  | 35 => .array .int
  | 36 => .array (.array .boolean)
  | 37 => .int
  | 38 => .array .int
  | 39 => .array .int
  | 40 => .array .int
  | 41 => .array .int
  | 42 => .int
  | 43 => .array .int
  | _ => .array .int
abbrev wsX130 : List Cond := u_ws RX13 TX13 45
theorem nmX13 : ∀ a, a < 45 → ∀ b, b < 45 → a ≠ b → (TX13 a).2.1 ≠ (TX13 b).2.1 := by decide +kernel
theorem tyX13_ok : ∀ k, k < 45 → parseFieldDescriptor (TX13 k).2.2.1 = some (tyX13 k) := by decide +kernel
def RJx145de : String := "java/io/Serializable"
def RJx00060 : String := "java/lang/ArrayIndexOutOfBoundsException"
def RJx8e188 : String := "java/lang/Cloneable"
def RJ6 : String := "java/lang/Integer"
def RJ9 : String := "java/lang/Math"
def RJ0 : String := "java/lang/String"
def RJ10 : String := "java/lang/System"
def RJ7 : String := "java/util/Arrays"
def RL : String := "PolyforgeLaw"
abbrev pv_cl : List vw_C := [(RX11, TX11, 15), (RX13, TX13, 45), (RX9, TX9, 6), (RX6, TX6, 2), (RX0, TX0, 18), (RX2, TX2, 7), (RX3, TX3, 5), (RX10, TX10, 7), (RX1, TX1, 7), (RX7, TX7, 2), (RX4, TX4, 6), (RX12, TX12, 2)]
abbrev cX0_init : ByteArray := prog_2_method_1_code
def yX0_init : MethodName := ⟨RX0, "<init>", "()V"⟩
abbrev cX0_load : ByteArray := prog_2_method_2_code
def yX0_load : MethodName := ⟨RX0, "load", "(LPolyforge$Polynomial;LPolyforge$Polynomial;)V"⟩
abbrev cX0_divide : ByteArray := prog_2_method_3_code
def yX0_divide : MethodName := ⟨RX0, "divide", "(LPolyforge$Line;LPolyforge$Line;)V"⟩
abbrev cX0_addProduct : ByteArray := prog_2_method_4_code
def yX0_addProduct : MethodName := ⟨RX0, "addProduct", "(LPolyforge$Line;LPolyforge$Line;LPolyforge$Line;I)V"⟩
abbrev cX0_multiplyBy : ByteArray := prog_2_method_5_code
def yX0_multiplyBy : MethodName := ⟨RX0, "multiplyBy", "(LPolyforge$Line;LPolyforge$Line;)V"⟩
abbrev cX0_scale : ByteArray := prog_2_method_6_code
def yX0_scale : MethodName := ⟨RX0, "scale", "(LPolyforge$Line;I)V"⟩
abbrev cX0_reduce : ByteArray := prog_2_method_7_code
def yX0_reduce : MethodName := ⟨RX0, "reduce", "(LPolyforge$Line;LPolyforge$Line;)LPolyforge$Line;"⟩
abbrev cX0_valueAt : ByteArray := prog_2_method_8_code
def yX0_valueAt : MethodName := ⟨RX0, "valueAt", "(LPolyforge$Line;I)I"⟩
abbrev cX0_quotientOf : ByteArray := prog_2_method_9_code
def yX0_quotientOf : MethodName := ⟨RX0, "quotientOf", "(LPolyforge$Polynomial;LPolyforge$Polynomial;)LPolyforge$Line;"⟩
abbrev cX0_remainderOf : ByteArray := prog_2_method_10_code
def yX0_remainderOf : MethodName := ⟨RX0, "remainderOf", "(LPolyforge$Polynomial;LPolyforge$Polynomial;)LPolyforge$Line;"⟩
abbrev cX0_divisorOf : ByteArray := prog_2_method_11_code
def yX0_divisorOf : MethodName := ⟨RX0, "divisorOf", "(LPolyforge$Polynomial;LPolyforge$Polynomial;)LPolyforge$Line;"⟩
abbrev cX0_part : ByteArray := prog_2_method_12_code
def yX0_part : MethodName := ⟨RX0, "part", "(I)LPolyforge$Line;"⟩
abbrev cX0_timesOfPart : ByteArray := prog_2_method_13_code
def yX0_timesOfPart : MethodName := ⟨RX0, "timesOfPart", "(I)I"⟩
abbrev cX0_splitUp : ByteArray := prog_2_method_14_code
def yX0_splitUp : MethodName := ⟨RX0, "splitUp", "(LPolyforge$Polynomial;)V"⟩
abbrev cX0_tryCandidates : ByteArray := prog_2_method_15_code
def yX0_tryCandidates : MethodName := ⟨RX0, "tryCandidates", "(I)V"⟩
abbrev cX0_raiseCandidate : ByteArray := prog_2_method_16_code
def yX0_raiseCandidate : MethodName := ⟨RX0, "raiseCandidate", "(I)V"⟩
abbrev cX0_timesTakenOut : ByteArray := prog_2_method_17_code
def yX0_timesTakenOut : MethodName := ⟨RX0, "timesTakenOut", "(LPolyforge$Line;)I"⟩
abbrev cX0_notePart : ByteArray := prog_2_method_18_code
def yX0_notePart : MethodName := ⟨RX0, "notePart", "(LPolyforge$Line;I)V"⟩
abbrev cX0_powersTellIrreducible : ByteArray := prog_2_method_19_code
def yX0_powersTellIrreducible : MethodName := ⟨RX0, "powersTellIrreducible", "(LPolyforge$Polynomial;)Z"⟩
abbrev cX0_agrees : ByteArray := prog_2_method_20_code
def yX0_agrees : MethodName := ⟨RX0, "agrees", "(LPolyforge$Polynomial;)Z"⟩
abbrev cX0_rootsOf : ByteArray := prog_2_method_21_code
def yX0_rootsOf : MethodName := ⟨RX0, "rootsOf", "(LPolyforge$Polynomial;)I"⟩
abbrev cX0_resultantByRemainders : ByteArray := prog_2_method_22_code
def yX0_resultantByRemainders : MethodName := ⟨RX0, "resultantByRemainders", "(LPolyforge$Polynomial;LPolyforge$Polynomial;)I"⟩
abbrev cX0_determinantOf : ByteArray := prog_2_method_23_code
def yX0_determinantOf : MethodName := ⟨RX0, "determinantOf", "(LPolyforge$Polynomial;LPolyforge$Polynomial;)I"⟩
abbrev cX0_cell : ByteArray := prog_2_method_24_code
def yX0_cell : MethodName := ⟨RX0, "cell", "(II)I"⟩
abbrev cX0_setCell : ByteArray := prog_2_method_25_code
def yX0_setCell : MethodName := ⟨RX0, "setCell", "(III)V"⟩
abbrev cX0_clearColumn : ByteArray := prog_2_method_26_code
def yX0_clearColumn : MethodName := ⟨RX0, "clearColumn", "(II)I"⟩
abbrev cX0_seriesNumber : ByteArray := prog_2_method_27_code
def yX0_seriesNumber : MethodName := ⟨RX0, "seriesNumber", "(LPolyforge$Polynomial;LPolyforge$Polynomial;I)I"⟩
abbrev cX0_limitAt : ByteArray := prog_2_method_28_code
def yX0_limitAt : MethodName := ⟨RX0, "limitAt", "(LPolyforge$Polynomial;LPolyforge$Polynomial;I)I"⟩
abbrev cX0_partialNumerator : ByteArray := prog_2_method_29_code
def yX0_partialNumerator : MethodName := ⟨RX0, "partialNumerator", "(LPolyforge$Polynomial;LPolyforge$Polynomial;I)LPolyforge$Line;"⟩
abbrev cX0_invertModuloBelow : ByteArray := prog_2_method_30_code
def yX0_invertModuloBelow : MethodName := ⟨RX0, "invertModuloBelow", "(LPolyforge$Line;)V"⟩
abbrev cX1_init : ByteArray := prog_3_method_1_code
def yX1_init : MethodName := ⟨RX1, "<init>", "()V"⟩
abbrev cX1_clear : ByteArray := prog_3_method_2_code
def yX1_clear : MethodName := ⟨RX1, "clear", "(I)V"⟩
abbrev cX1_room : ByteArray := prog_3_method_3_code
def yX1_room : MethodName := ⟨RX1, "room", "(I)I"⟩
abbrev cX1_insert : ByteArray := prog_3_method_4_code
def yX1_insert : MethodName := ⟨RX1, "insert", "([JIIJI)V"⟩
abbrev cX1_lengthOf : ByteArray := prog_3_method_5_code
def yX1_lengthOf : MethodName := ⟨RX1, "lengthOf", "(I)I"⟩
abbrev cX1_merge : ByteArray := prog_3_method_6_code
def yX1_merge : MethodName := ⟨RX1, "merge", "(I[JIIJI)V"⟩
abbrev cX1_takeGreatest : ByteArray := prog_3_method_7_code
def yX1_takeGreatest : MethodName := ⟨RX1, "takeGreatest", "()J"⟩
abbrev cX1_headKey : ByteArray := prog_3_method_8_code
def yX1_headKey : MethodName := ⟨RX1, "headKey", "(I)J"⟩
abbrev cX2_init : ByteArray := prog_4_method_1_code
def yX2_init : MethodName := ⟨RX2, "<init>", "()V"⟩
abbrev cX2_startWithGenerators : ByteArray := prog_4_method_2_code
def yX2_startWithGenerators : MethodName := ⟨RX2, "startWithGenerators", "(LPolyforge$Ideal;)V"⟩
abbrev cX2_startWithBasis : ByteArray := prog_4_method_3_code
def yX2_startWithBasis : MethodName := ⟨RX2, "startWithBasis", "(LPolyforge$Stock;C)V"⟩
abbrev cX2_begin : ByteArray := prog_4_method_4_code
def yX2_begin : MethodName := ⟨RX2, "begin", "(IC)V"⟩
abbrev cX2_take : ByteArray := prog_4_method_5_code
def yX2_take : MethodName := ⟨RX2, "take", "(I)Z"⟩
abbrev cX2_treatPairs : ByteArray := prog_4_method_6_code
def yX2_treatPairs : MethodName := ⟨RX2, "treatPairs", "(LPolyforge$Stock;)V"⟩
abbrev cX2_leastPair : ByteArray := prog_4_method_7_code
def yX2_leastPair : MethodName := ⟨RX2, "leastPair", "()I"⟩
abbrev cX2_multipleKey : ByteArray := prog_4_method_8_code
def yX2_multipleKey : MethodName := ⟨RX2, "multipleKey", "(I)J"⟩
abbrev cX2_pairPart : ByteArray := prog_4_method_9_code
def yX2_pairPart : MethodName := ⟨RX2, "pairPart", "(II)I"⟩
abbrev cX2_dropPair : ByteArray := prog_4_method_10_code
def yX2_dropPair : MethodName := ⟨RX2, "dropPair", "(I)V"⟩
abbrev cX2_load : ByteArray := prog_4_method_11_code
def yX2_load : MethodName := ⟨RX2, "load", "(I)V"⟩
abbrev cX2_choosePartners : ByteArray := prog_4_method_12_code
def yX2_choosePartners : MethodName := ⟨RX2, "choosePartners", "(I)V"⟩
abbrev cX2_addPairs : ByteArray := prog_4_method_13_code
def yX2_addPairs : MethodName := ⟨RX2, "addPairs", "(I)V"⟩
abbrev cX2_isDisjoint : ByteArray := prog_4_method_14_code
def yX2_isDisjoint : MethodName := ⟨RX2, "isDisjoint", "(II)Z"⟩
abbrev cX2_leadDividesLead : ByteArray := prog_4_method_15_code
def yX2_leadDividesLead : MethodName := ⟨RX2, "leadDividesLead", "(II)Z"⟩
abbrev cX2_isCovered : ByteArray := prog_4_method_16_code
def yX2_isCovered : MethodName := ⟨RX2, "isCovered", "(II)Z"⟩
abbrev cX2_multipleDivides : ByteArray := prog_4_method_17_code
def yX2_multipleDivides : MethodName := ⟨RX2, "multipleDivides", "(II)Z"⟩
abbrev cX2_noteMultiple : ByteArray := prog_4_method_18_code
def yX2_noteMultiple : MethodName := ⟨RX2, "noteMultiple", "(II)V"⟩
abbrev cX2_multiple : ByteArray := prog_4_method_19_code
def yX2_multiple : MethodName := ⟨RX2, "multiple", "(II)I"⟩
abbrev cX2_addPair : ByteArray := prog_4_method_20_code
def yX2_addPair : MethodName := ⟨RX2, "addPair", "(II)V"⟩
abbrev cX2_dropCoveredPairs : ByteArray := prog_4_method_21_code
def yX2_dropCoveredPairs : MethodName := ⟨RX2, "dropCoveredPairs", "(I)V"⟩
abbrev cX2_dividesMultiple : ByteArray := prog_4_method_22_code
def yX2_dividesMultiple : MethodName := ⟨RX2, "dividesMultiple", "(II)Z"⟩
abbrev cX2_givesMultiple : ByteArray := prog_4_method_23_code
def yX2_givesMultiple : MethodName := ⟨RX2, "givesMultiple", "(III)Z"⟩
abbrev cX2_reduced : ByteArray := prog_4_method_24_code
def yX2_reduced : MethodName := ⟨RX2, "reduced", "()LPolyforge$Stock;"⟩
abbrev cX2_isMultipleOfAnother : ByteArray := prog_4_method_25_code
def yX2_isMultipleOfAnother : MethodName := ⟨RX2, "isMultipleOfAnother", "(I)Z"⟩
abbrev cX2_leadDividesWithoutFourth : ByteArray := prog_4_method_26_code
def yX2_leadDividesWithoutFourth : MethodName := ⟨RX2, "leadDividesWithoutFourth", "(II)Z"⟩
abbrev cX2_leastAbove : ByteArray := prog_4_method_27_code
def yX2_leastAbove : MethodName := ⟨RX2, "leastAbove", "(J)I"⟩
abbrev cX3_init : ByteArray := prog_5_method_1_code
def yX3_init : MethodName := ⟨RX3, "<init>", "()V"⟩
abbrev cX3_begin : ByteArray := prog_5_method_2_code
def yX3_begin : MethodName := ⟨RX3, "begin", "(I)V"⟩
abbrev cX3_load : ByteArray := prog_5_method_3_code
def yX3_load : MethodName := ⟨RX3, "load", "(LPolyforge$Polynomial;C)V"⟩
abbrev cX3_insertTerm : ByteArray := prog_5_method_4_code
def yX3_insertTerm : MethodName := ⟨RX3, "insertTerm", "(J)V"⟩
abbrev cX3_insertTail : ByteArray := prog_5_method_5_code
def yX3_insertTail : MethodName := ⟨RX3, "insertTail", "(LPolyforge$Stock;IJI)V"⟩
abbrev cX3_keepAside : ByteArray := prog_5_method_6_code
def yX3_keepAside : MethodName := ⟨RX3, "keepAside", "(J)V"⟩
abbrev cX3_divide : ByteArray := prog_5_method_7_code
def yX3_divide : MethodName := ⟨RX3, "divide", "(LPolyforge$Stock;I)V"⟩
abbrev cX3_makeMonic : ByteArray := prog_5_method_8_code
def yX3_makeMonic : MethodName := ⟨RX3, "makeMonic", "()V"⟩
abbrev cX3_restKey : ByteArray := prog_5_method_9_code
def yX3_restKey : MethodName := ⟨RX3, "restKey", "(I)J"⟩
abbrev cX3_restCoefficient : ByteArray := prog_5_method_10_code
def yX3_restCoefficient : MethodName := ⟨RX3, "restCoefficient", "(I)I"⟩
abbrev cX4_init : ByteArray := prog_6_method_1_code
def yX4_init : MethodName := ⟨RX4, "<init>", "(I)V"⟩
abbrev cX4_accept : ByteArray := prog_6_method_2_code
def yX4_accept : MethodName := ⟨RX4, "accept", "(LPolyforge$Polynomial;)Z"⟩
abbrev cX4_keepBasis : ByteArray := prog_6_method_3_code
def yX4_keepBasis : MethodName := ⟨RX4, "keepBasis", "(LPolyforge$Stock;)V"⟩
abbrev cX4_generatorAt : ByteArray := prog_6_method_4_code
def yX4_generatorAt : MethodName := ⟨RX4, "generatorAt", "(I)LPolyforge$Polynomial;"⟩
abbrev cX5_ofMonomial : ByteArray := prog_7_method_2_code
def yX5_ofMonomial : MethodName := ⟨RX5, "ofMonomial", "(CI)J"⟩
abbrev cX5_of : ByteArray := prog_7_method_3_code
def yX5_of : MethodName := ⟨RX5, "of", "(CIII)J"⟩
abbrev cX5_exponent : ByteArray := prog_7_method_4_code
def yX5_exponent : MethodName := ⟨RX5, "exponent", "(CJI)I"⟩
abbrev cX5_coefficientOf : ByteArray := prog_7_method_5_code
def yX5_coefficientOf : MethodName := ⟨RX5, "coefficientOf", "(J)I"⟩
abbrev cX5_ofTerm : ByteArray := prog_7_method_6_code
def yX5_ofTerm : MethodName := ⟨RX5, "ofTerm", "(J)J"⟩
abbrev cX5_term : ByteArray := prog_7_method_7_code
def yX5_term : MethodName := ⟨RX5, "term", "(JI)J"⟩
abbrev cX6_init : ByteArray := prog_8_method_1_code
def yX6_init : MethodName := ⟨RX6, "<init>", "()V"⟩
abbrev cX6_at : ByteArray := prog_8_method_2_code
def yX6_at : MethodName := ⟨RX6, "at", "(I)I"⟩
abbrev cX6_put : ByteArray := prog_8_method_3_code
def yX6_put : MethodName := ⟨RX6, "put", "(II)V"⟩
abbrev cX6_lowerTop : ByteArray := prog_8_method_4_code
def yX6_lowerTop : MethodName := ⟨RX6, "lowerTop", "()V"⟩
abbrev cX6_clear : ByteArray := prog_8_method_5_code
def yX6_clear : MethodName := ⟨RX6, "clear", "()V"⟩
abbrev cX6_copy : ByteArray := prog_8_method_6_code
def yX6_copy : MethodName := ⟨RX6, "copy", "(LPolyforge$Line;)V"⟩
abbrev cX6_load : ByteArray := prog_8_method_7_code
def yX6_load : MethodName := ⟨RX6, "load", "(LPolyforge$Polynomial;)V"⟩
abbrev cX6_lead : ByteArray := prog_8_method_8_code
def yX6_lead : MethodName := ⟨RX6, "lead", "()I"⟩
abbrev cX6_isEqual : ByteArray := prog_8_method_9_code
def yX6_isEqual : MethodName := ⟨RX6, "isEqual", "(LPolyforge$Line;)Z"⟩
abbrev cX7_init : ByteArray := prog_9_method_1_code
def yX7_init : MethodName := ⟨RX7, "<init>", "(I[J)V"⟩
abbrev cX7_monomialWith : ByteArray := prog_9_method_2_code
def yX7_monomialWith : MethodName := ⟨RX7, "monomialWith", "(III)I"⟩
abbrev cX7_unit : ByteArray := prog_9_method_3_code
def yX7_unit : MethodName := ⟨RX7, "unit", "(I)I"⟩
abbrev cX7_exponentOf : ByteArray := prog_9_method_4_code
def yX7_exponentOf : MethodName := ⟨RX7, "exponentOf", "(II)I"⟩
abbrev cX7_totalOf : ByteArray := prog_9_method_5_code
def yX7_totalOf : MethodName := ⟨RX7, "totalOf", "(I)I"⟩
abbrev cX7_isMultiple : ByteArray := prog_9_method_6_code
def yX7_isMultiple : MethodName := ⟨RX7, "isMultiple", "(II)Z"⟩
abbrev cX7_term : ByteArray := prog_9_method_7_code
def yX7_term : MethodName := ⟨RX7, "term", "(JI)J"⟩
abbrev cX7_coefficientOf : ByteArray := prog_9_method_8_code
def yX7_coefficientOf : MethodName := ⟨RX7, "coefficientOf", "(J)J"⟩
abbrev cX7_monomialOf : ByteArray := prog_9_method_9_code
def yX7_monomialOf : MethodName := ⟨RX7, "monomialOf", "(J)I"⟩
abbrev cX7_length : ByteArray := prog_9_method_10_code
def yX7_length : MethodName := ⟨RX7, "length", "()I"⟩
abbrev cX7_coefficient : ByteArray := prog_9_method_11_code
def yX7_coefficient : MethodName := ⟨RX7, "coefficient", "(I)J"⟩
abbrev cX7_monomial : ByteArray := prog_9_method_12_code
def yX7_monomial : MethodName := ⟨RX7, "monomial", "(I)I"⟩
abbrev cX7_exponent : ByteArray := prog_9_method_13_code
def yX7_exponent : MethodName := ⟨RX7, "exponent", "(II)I"⟩
abbrev cX7_total : ByteArray := prog_9_method_14_code
def yX7_total : MethodName := ⟨RX7, "total", "()I"⟩
abbrev cX7_height : ByteArray := prog_9_method_15_code
def yX7_height : MethodName := ⟨RX7, "height", "(I)I"⟩
abbrev cX7_largest : ByteArray := prog_9_method_16_code
def yX7_largest : MethodName := ⟨RX7, "largest", "()J"⟩
abbrev cX7_isLine : ByteArray := prog_9_method_17_code
def yX7_isLine : MethodName := ⟨RX7, "isLine", "()Z"⟩
abbrev cX7_isFactored : ByteArray := prog_9_method_18_code
def yX7_isFactored : MethodName := ⟨RX7, "isFactored", "()Z"⟩
abbrev cX7_hasConstantTerm : ByteArray := prog_9_method_19_code
def yX7_hasConstantTerm : MethodName := ⟨RX7, "hasConstantTerm", "()Z"⟩
abbrev cX7_isSame : ByteArray := prog_9_method_20_code
def yX7_isSame : MethodName := ⟨RX7, "isSame", "(I[JI)Z"⟩
abbrev cX7_placeOf : ByteArray := prog_9_method_21_code
def yX7_placeOf : MethodName := ⟨RX7, "placeOf", "(IC[I)I"⟩
abbrev cX7_placeInR : ByteArray := prog_9_method_22_code
def yX7_placeInR : MethodName := ⟨RX7, "placeInR", "(II[I)I"⟩
abbrev cX7_count : ByteArray := prog_9_method_23_code
def yX7_count : MethodName := ⟨RX7, "count", "([II)V"⟩
abbrev cX7_placeWith : ByteArray := prog_9_method_24_code
def yX7_placeWith : MethodName := ⟨RX7, "placeWith", "(III)I"⟩
abbrev cX8_init : ByteArray := prog_10_method_1_code
def yX8_init : MethodName := ⟨RX8, "<init>", "(ILPolyforge$Polynomial;IC)V"⟩
abbrev cX9_init : ByteArray := prog_11_method_1_code
def yX9_init : MethodName := ⟨RX9, "<init>", "()V"⟩
abbrev cX9_begin : ByteArray := prog_11_method_2_code
def yX9_begin : MethodName := ⟨RX9, "begin", "(I)V"⟩
abbrev cX9_load : ByteArray := prog_11_method_3_code
def yX9_load : MethodName := ⟨RX9, "load", "(LPolyforge$Polynomial;)V"⟩
abbrev cX9_listed : ByteArray := prog_11_method_4_code
def yX9_listed : MethodName := ⟨RX9, "listed", "()[J"⟩
abbrev cX9_term : ByteArray := prog_11_method_5_code
def yX9_term : MethodName := ⟨RX9, "term", "(I)J"⟩
abbrev cX9_coefficient : ByteArray := prog_11_method_6_code
def yX9_coefficient : MethodName := ⟨RX9, "coefficient", "(I)J"⟩
abbrev cX9_monomial : ByteArray := prog_11_method_7_code
def yX9_monomial : MethodName := ⟨RX9, "monomial", "(I)I"⟩
abbrev cX9_isInRange : ByteArray := prog_11_method_8_code
def yX9_isInRange : MethodName := ⟨RX9, "isInRange", "(J)Z"⟩
abbrev cX9_settled : ByteArray := prog_11_method_9_code
def yX9_settled : MethodName := ⟨RX9, "settled", "(J)J"⟩
abbrev cX9_put : ByteArray := prog_11_method_10_code
def yX9_put : MethodName := ⟨RX9, "put", "(JI)Z"⟩
abbrev cX9_mix : ByteArray := prog_11_method_11_code
def yX9_mix : MethodName := ⟨RX9, "mix", "(LPolyforge$Polynomial;JI)Z"⟩
abbrev cX9_times : ByteArray := prog_11_method_12_code
def yX9_times : MethodName := ⟨RX9, "times", "(LPolyforge$Polynomial;)Z"⟩
abbrev cX9_spreadProduct : ByteArray := prog_11_method_13_code
def yX9_spreadProduct : MethodName := ⟨RX9, "spreadProduct", "(LPolyforge$Polynomial;)Z"⟩
abbrev cX9_canMultiply : ByteArray := prog_11_method_14_code
def yX9_canMultiply : MethodName := ⟨RX9, "canMultiply", "(LPolyforge$Polynomial;)Z"⟩
abbrev cX9_height : ByteArray := prog_11_method_15_code
def yX9_height : MethodName := ⟨RX9, "height", "(I)I"⟩
abbrev cX9_largest : ByteArray := prog_11_method_16_code
def yX9_largest : MethodName := ⟨RX9, "largest", "()J"⟩
abbrev cX9_spread : ByteArray := prog_11_method_17_code
def yX9_spread : MethodName := ⟨RX9, "spread", "(JI)V"⟩
abbrev cX9_collect : ByteArray := prog_11_method_18_code
def yX9_collect : MethodName := ⟨RX9, "collect", "()Z"⟩
abbrev cX9_replace : ByteArray := prog_11_method_19_code
def yX9_replace : MethodName := ⟨RX9, "replace", "(ILPolyforge$Rule;)Z"⟩
abbrev cX10_init : ByteArray := prog_12_method_1_code
def yX10_init : MethodName := ⟨RX10, "<init>", "(II)V"⟩
abbrev cX10_clear : ByteArray := prog_12_method_2_code
def yX10_clear : MethodName := ⟨RX10, "clear", "(IC)V"⟩
abbrev cX10_start : ByteArray := prog_12_method_3_code
def yX10_start : MethodName := ⟨RX10, "start", "(I)I"⟩
abbrev cX10_lengthOf : ByteArray := prog_12_method_4_code
def yX10_lengthOf : MethodName := ⟨RX10, "lengthOf", "(I)I"⟩
abbrev cX10_termOf : ByteArray := prog_12_method_5_code
def yX10_termOf : MethodName := ⟨RX10, "termOf", "(II)J"⟩
abbrev cX10_key : ByteArray := prog_12_method_6_code
def yX10_key : MethodName := ⟨RX10, "key", "(II)J"⟩
abbrev cX10_coefficient : ByteArray := prog_12_method_7_code
def yX10_coefficient : MethodName := ⟨RX10, "coefficient", "(II)I"⟩
abbrev cX10_lead : ByteArray := prog_12_method_8_code
def yX10_lead : MethodName := ⟨RX10, "lead", "(II)I"⟩
abbrev cX10_leadTotal : ByteArray := prog_12_method_9_code
def yX10_leadTotal : MethodName := ⟨RX10, "leadTotal", "(I)I"⟩
abbrev cX10_isGone : ByteArray := prog_12_method_10_code
def yX10_isGone : MethodName := ⟨RX10, "isGone", "(I)Z"⟩
abbrev cX10_remove : ByteArray := prog_12_method_11_code
def yX10_remove : MethodName := ⟨RX10, "remove", "(I)V"⟩
abbrev cX10_append : ByteArray := prog_12_method_12_code
def yX10_append : MethodName := ⟨RX10, "append", "([JII)Z"⟩
abbrev cX10_makeRoom : ByteArray := prog_12_method_13_code
def yX10_makeRoom : MethodName := ⟨RX10, "makeRoom", "(I)V"⟩
abbrev cX10_leadDivides : ByteArray := prog_12_method_14_code
def yX10_leadDivides : MethodName := ⟨RX10, "leadDivides", "(IIIII)Z"⟩
abbrev cX10_dividing : ByteArray := prog_12_method_15_code
def yX10_dividing : MethodName := ⟨RX10, "dividing", "(IIII)I"⟩
abbrev cX10_countStandard : ByteArray := prog_12_method_16_code
def yX10_countStandard : MethodName := ⟨RX10, "countStandard", "(I)I"⟩
abbrev cX10_countStandard_ : ByteArray := prog_12_method_17_code
def yX10_countStandard_ : MethodName := ⟨RX10, "countStandard", "()I"⟩
abbrev cX10_leastPower : ByteArray := prog_12_method_18_code
def yX10_leastPower : MethodName := ⟨RX10, "leastPower", "(I)I"⟩
abbrev cX10_compact : ByteArray := prog_12_method_19_code
def yX10_compact : MethodName := ⟨RX10, "compact", "()LPolyforge$Stock;"⟩
abbrev cX11_init : ByteArray := prog_1_method_1_code
def yX11_init : MethodName := ⟨RX11, "<init>", "()V"⟩
abbrev cX11_constant : ByteArray := prog_1_method_2_code
def yX11_constant : MethodName := ⟨RX11, "constant", "(II)I"⟩
abbrev cX11_variable : ByteArray := prog_1_method_3_code
def yX11_variable : MethodName := ⟨RX11, "variable", "(II)I"⟩
abbrev cX11_add : ByteArray := prog_1_method_4_code
def yX11_add : MethodName := ⟨RX11, "add", "(II)I"⟩
abbrev cX11_subtract : ByteArray := prog_1_method_5_code
def yX11_subtract : MethodName := ⟨RX11, "subtract", "(II)I"⟩
abbrev cX11_multiply : ByteArray := prog_1_method_6_code
def yX11_multiply : MethodName := ⟨RX11, "multiply", "(II)I"⟩
abbrev cX11_power : ByteArray := prog_1_method_7_code
def yX11_power : MethodName := ⟨RX11, "power", "(II)I"⟩
abbrev cX11_polynomials : ByteArray := prog_1_method_8_code
def yX11_polynomials : MethodName := ⟨RX11, "polynomials", "()I"⟩
abbrev cX11_ground : ByteArray := prog_1_method_9_code
def yX11_ground : MethodName := ⟨RX11, "ground", "(I)I"⟩
abbrev cX11_terms : ByteArray := prog_1_method_10_code
def yX11_terms : MethodName := ⟨RX11, "terms", "(I)I"⟩
abbrev cX11_degree : ByteArray := prog_1_method_11_code
def yX11_degree : MethodName := ⟨RX11, "degree", "(I)I"⟩
abbrev cX11_degreeIn : ByteArray := prog_1_method_12_code
def yX11_degreeIn : MethodName := ⟨RX11, "degreeIn", "(II)I"⟩
abbrev cX11_coefficientAt : ByteArray := prog_1_method_13_code
def yX11_coefficientAt : MethodName := ⟨RX11, "coefficientAt", "(II)J"⟩
abbrev cX11_exponentAt : ByteArray := prog_1_method_14_code
def yX11_exponentAt : MethodName := ⟨RX11, "exponentAt", "(III)I"⟩
abbrev cX11_setOrder : ByteArray := prog_1_method_15_code
def yX11_setOrder : MethodName := ⟨RX11, "setOrder", "(C)C"⟩
abbrev cX11_derive : ByteArray := prog_1_method_16_code
def yX11_derive : MethodName := ⟨RX11, "derive", "(II)I"⟩
abbrev cX11_integrate : ByteArray := prog_1_method_17_code
def yX11_integrate : MethodName := ⟨RX11, "integrate", "(II)I"⟩
abbrev cX11_substitute : ByteArray := prog_1_method_18_code
def yX11_substitute : MethodName := ⟨RX11, "substitute", "(III)I"⟩
abbrev cX11_value : ByteArray := prog_1_method_19_code
def yX11_value : MethodName := ⟨RX11, "value", "(IIII)I"⟩
abbrev cX11_content : ByteArray := prog_1_method_20_code
def yX11_content : MethodName := ⟨RX11, "content", "(I)J"⟩
abbrev cX11_primitive : ByteArray := prog_1_method_21_code
def yX11_primitive : MethodName := ⟨RX11, "primitive", "(I)I"⟩
abbrev cX11_modulo : ByteArray := prog_1_method_22_code
def yX11_modulo : MethodName := ⟨RX11, "modulo", "(II)I"⟩
abbrev cX11_quotient : ByteArray := prog_1_method_23_code
def yX11_quotient : MethodName := ⟨RX11, "quotient", "(II)I"⟩
abbrev cX11_remainder : ByteArray := prog_1_method_24_code
def yX11_remainder : MethodName := ⟨RX11, "remainder", "(II)I"⟩
abbrev cX11_divisor : ByteArray := prog_1_method_25_code
def yX11_divisor : MethodName := ⟨RX11, "divisor", "(II)I"⟩
abbrev cX11_factors : ByteArray := prog_1_method_26_code
def yX11_factors : MethodName := ⟨RX11, "factors", "(I)I"⟩
abbrev cX11_factorAt : ByteArray := prog_1_method_27_code
def yX11_factorAt : MethodName := ⟨RX11, "factorAt", "(II)I"⟩
abbrev cX11_multiplicity : ByteArray := prog_1_method_28_code
def yX11_multiplicity : MethodName := ⟨RX11, "multiplicity", "(II)I"⟩
abbrev cX11_isIrreducible : ByteArray := prog_1_method_29_code
def yX11_isIrreducible : MethodName := ⟨RX11, "isIrreducible", "(I)Z"⟩
abbrev cX11_roots : ByteArray := prog_1_method_30_code
def yX11_roots : MethodName := ⟨RX11, "roots", "(I)I"⟩
abbrev cX11_resultant : ByteArray := prog_1_method_31_code
def yX11_resultant : MethodName := ⟨RX11, "resultant", "(II)I"⟩
abbrev cX11_resultantByDeterminant : ByteArray := prog_1_method_32_code
def yX11_resultantByDeterminant : MethodName := ⟨RX11, "resultantByDeterminant", "(II)I"⟩
abbrev cX11_series : ByteArray := prog_1_method_33_code
def yX11_series : MethodName := ⟨RX11, "series", "(III)I"⟩
abbrev cX11_limit : ByteArray := prog_1_method_34_code
def yX11_limit : MethodName := ⟨RX11, "limit", "(III)I"⟩
abbrev cX11_partial : ByteArray := prog_1_method_35_code
def yX11_partial : MethodName := ⟨RX11, "partial", "(III)I"⟩
abbrev cX11_addIdeal : ByteArray := prog_1_method_36_code
def yX11_addIdeal : MethodName := ⟨RX11, "addIdeal", "(I)I"⟩
abbrev cX11_addGenerator : ByteArray := prog_1_method_37_code
def yX11_addGenerator : MethodName := ⟨RX11, "addGenerator", "(II)I"⟩
abbrev cX11_basis : ByteArray := prog_1_method_38_code
def yX11_basis : MethodName := ⟨RX11, "basis", "(I)I"⟩
abbrev cX11_basisTerms : ByteArray := prog_1_method_39_code
def yX11_basisTerms : MethodName := ⟨RX11, "basisTerms", "(II)I"⟩
abbrev cX11_basisCoefficient : ByteArray := prog_1_method_40_code
def yX11_basisCoefficient : MethodName := ⟨RX11, "basisCoefficient", "(III)I"⟩
abbrev cX11_basisExponent : ByteArray := prog_1_method_41_code
def yX11_basisExponent : MethodName := ⟨RX11, "basisExponent", "(IIII)I"⟩
abbrev cX11_normalForm : ByteArray := prog_1_method_42_code
def yX11_normalForm : MethodName := ⟨RX11, "normalForm", "(II)I"⟩
abbrev cX11_isIn : ByteArray := prog_1_method_43_code
def yX11_isIn : MethodName := ⟨RX11, "isIn", "(II)Z"⟩
abbrev cX11_size : ByteArray := prog_1_method_44_code
def yX11_size : MethodName := ⟨RX11, "size", "(I)I"⟩
abbrev cX11_addRule : ByteArray := prog_1_method_45_code
def yX11_addRule : MethodName := ⟨RX11, "addRule", "(IIIIIC)I"⟩
abbrev cX11_assume : ByteArray := prog_1_method_46_code
def yX11_assume : MethodName := ⟨RX11, "assume", "(IC)I"⟩
abbrev cX11_openFrame : ByteArray := prog_1_method_47_code
def yX11_openFrame : MethodName := ⟨RX11, "openFrame", "()I"⟩
abbrev cX11_closeFrame : ByteArray := prog_1_method_48_code
def yX11_closeFrame : MethodName := ⟨RX11, "closeFrame", "()I"⟩
abbrev cX11_sign : ByteArray := prog_1_method_49_code
def yX11_sign : MethodName := ⟨RX11, "sign", "(I)C"⟩
abbrev cX11_rewrite : ByteArray := prog_1_method_50_code
def yX11_rewrite : MethodName := ⟨RX11, "rewrite", "(I)I"⟩
abbrev cX11_steps : ByteArray := prog_1_method_51_code
def yX11_steps : MethodName := ⟨RX11, "steps", "(I)I"⟩
abbrev cX11_lineShare : ByteArray := prog_1_method_52_code
def yX11_lineShare : MethodName := ⟨RX11, "lineShare", "()F"⟩
abbrev cX11_meanTerms : ByteArray := prog_1_method_53_code
def yX11_meanTerms : MethodName := ⟨RX11, "meanTerms", "()D"⟩
abbrev cX11_isSound : ByteArray := prog_1_method_54_code
def yX11_isSound : MethodName := ⟨RX11, "isSound", "()Z"⟩
abbrev cX11_requireGround : ByteArray := prog_1_method_55_code
def yX11_requireGround : MethodName := ⟨RX11, "requireGround", "(I)V"⟩
abbrev cX11_requirePrime : ByteArray := prog_1_method_56_code
def yX11_requirePrime : MethodName := ⟨RX11, "requirePrime", "(I)V"⟩
abbrev cX11_isPrime : ByteArray := prog_1_method_57_code
def yX11_isPrime : MethodName := ⟨RX11, "isPrime", "(I)Z"⟩
abbrev cX11_isVariable : ByteArray := prog_1_method_58_code
def yX11_isVariable : MethodName := ⟨RX11, "isVariable", "(I)Z"⟩
abbrev cX11_requireVariable : ByteArray := prog_1_method_59_code
def yX11_requireVariable : MethodName := ⟨RX11, "requireVariable", "(I)V"⟩
abbrev cX11_requireSign : ByteArray := prog_1_method_60_code
def yX11_requireSign : MethodName := ⟨RX11, "requireSign", "(C)V"⟩
abbrev cX11_requireSameGround : ByteArray := prog_1_method_61_code
def yX11_requireSameGround : MethodName := ⟨RX11, "requireSameGround", "(LPolyforge$Polynomial;LPolyforge$Polynomial;)V"⟩
abbrev cX11_requirePrimeGround : ByteArray := prog_1_method_62_code
def yX11_requirePrimeGround : MethodName := ⟨RX11, "requirePrimeGround", "(LPolyforge$Polynomial;)V"⟩
abbrev cX11_requireWholeGround : ByteArray := prog_1_method_63_code
def yX11_requireWholeGround : MethodName := ⟨RX11, "requireWholeGround", "(LPolyforge$Polynomial;)V"⟩
abbrev cX11_requireGroundOf : ByteArray := prog_1_method_64_code
def yX11_requireGroundOf : MethodName := ⟨RX11, "requireGroundOf", "(LPolyforge$Ideal;LPolyforge$Polynomial;)V"⟩
abbrev cX11_requireLine : ByteArray := prog_1_method_65_code
def yX11_requireLine : MethodName := ⟨RX11, "requireLine", "(LPolyforge$Polynomial;)V"⟩
abbrev cX11_requireLines : ByteArray := prog_1_method_66_code
def yX11_requireLines : MethodName := ⟨RX11, "requireLines", "(LPolyforge$Polynomial;LPolyforge$Polynomial;)V"⟩
abbrev cX11_requireFactored : ByteArray := prog_1_method_67_code
def yX11_requireFactored : MethodName := ⟨RX11, "requireFactored", "(LPolyforge$Polynomial;)V"⟩
abbrev cX11_requireTerms : ByteArray := prog_1_method_68_code
def yX11_requireTerms : MethodName := ⟨RX11, "requireTerms", "(LPolyforge$Polynomial;)V"⟩
abbrev cX11_requirePart : ByteArray := prog_1_method_69_code
def yX11_requirePart : MethodName := ⟨RX11, "requirePart", "(I)V"⟩
abbrev cX11_requireElement : ByteArray := prog_1_method_70_code
def yX11_requireElement : MethodName := ⟨RX11, "requireElement", "(LPolyforge$Stock;I)V"⟩
abbrev cX11_requireTermOf : ByteArray := prog_1_method_71_code
def yX11_requireTermOf : MethodName := ⟨RX11, "requireTermOf", "(LPolyforge$Stock;II)V"⟩
abbrev cX11_requireFinished : ByteArray := prog_1_method_72_code
def yX11_requireFinished : MethodName := ⟨RX11, "requireFinished", "(I)V"⟩
abbrev cX11_requireAny : ByteArray := prog_1_method_73_code
def yX11_requireAny : MethodName := ⟨RX11, "requireAny", "()V"⟩
abbrev cX11_keptAt : ByteArray := prog_1_method_74_code
def yX11_keptAt : MethodName := ⟨RX11, "keptAt", "(I)LPolyforge$Polynomial;"⟩
abbrev cX11_polynomialAt : ByteArray := prog_1_method_75_code
def yX11_polynomialAt : MethodName := ⟨RX11, "polynomialAt", "(I)LPolyforge$Polynomial;"⟩
abbrev cX11_addedAt : ByteArray := prog_1_method_76_code
def yX11_addedAt : MethodName := ⟨RX11, "addedAt", "(I)LPolyforge$Ideal;"⟩
abbrev cX11_idealAt : ByteArray := prog_1_method_77_code
def yX11_idealAt : MethodName := ⟨RX11, "idealAt", "(I)LPolyforge$Ideal;"⟩
abbrev cX11_placeOfTerm : ByteArray := prog_1_method_78_code
def yX11_placeOfTerm : MethodName := ⟨RX11, "placeOfTerm", "(LPolyforge$Polynomial;I)I"⟩
abbrev cX11_keepIf : ByteArray := prog_1_method_79_code
def yX11_keepIf : MethodName := ⟨RX11, "keepIf", "(Z)I"⟩
abbrev cX11_keepLine : ByteArray := prog_1_method_80_code
def yX11_keepLine : MethodName := ⟨RX11, "keepLine", "(LPolyforge$Line;I)I"⟩
abbrev cX11_keep : ByteArray := prog_1_method_81_code
def yX11_keep : MethodName := ⟨RX11, "keep", "()I"⟩
abbrev cX11_isKeptBefore : ByteArray := prog_1_method_82_code
def yX11_isKeptBefore : MethodName := ⟨RX11, "isKeptBefore", "(LPolyforge$Polynomial;I)Z"⟩
abbrev cX11_isLineAt : ByteArray := prog_1_method_83_code
def yX11_isLineAt : MethodName := ⟨RX11, "isLineAt", "(I)Z"⟩
abbrev cX11_mod : ByteArray := prog_1_method_84_code
def yX11_mod : MethodName := ⟨RX11, "mod", "(JI)I"⟩
abbrev cX11_inverse : ByteArray := prog_1_method_85_code
def yX11_inverse : MethodName := ⟨RX11, "inverse", "(II)I"⟩
abbrev cX11_powerModulo : ByteArray := prog_1_method_86_code
def yX11_powerModulo : MethodName := ⟨RX11, "powerModulo", "(III)I"⟩
abbrev cX11_isValue : ByteArray := prog_1_method_87_code
def yX11_isValue : MethodName := ⟨RX11, "isValue", "(I)Z"⟩
abbrev cX11_divides : ByteArray := prog_1_method_88_code
def yX11_divides : MethodName := ⟨RX11, "divides", "(IJI)Z"⟩
abbrev cX11_divided : ByteArray := prog_1_method_89_code
def yX11_divided : MethodName := ⟨RX11, "divided", "(JII)J"⟩
abbrev cX11_commonMeasure : ByteArray := prog_1_method_90_code
def yX11_commonMeasure : MethodName := ⟨RX11, "commonMeasure", "(LPolyforge$Polynomial;)J"⟩
abbrev cX11_roomy : ByteArray := prog_1_method_91_code
def yX11_roomy : MethodName := ⟨RX11, "roomy", "([JI)[J"⟩
abbrev cX11_roomy_ : ByteArray := prog_1_method_92_code
def yX11_roomy_ : MethodName := ⟨RX11, "roomy", "([II)[I"⟩
abbrev cX11_canSubstitute : ByteArray := prog_1_method_93_code
def yX11_canSubstitute : MethodName := ⟨RX11, "canSubstitute", "(LPolyforge$Polynomial;ILPolyforge$Polynomial;)Z"⟩
abbrev cX11_spreadTermsWith : ByteArray := prog_1_method_94_code
def yX11_spreadTermsWith : MethodName := ⟨RX11, "spreadTermsWith", "(LPolyforge$Polynomial;II)V"⟩
abbrev cX11_spreadRest : ByteArray := prog_1_method_95_code
def yX11_spreadRest : MethodName := ⟨RX11, "spreadRest", "(I)Z"⟩
abbrev cX11_isExponent : ByteArray := prog_1_method_96_code
def yX11_isExponent : MethodName := ⟨RX11, "isExponent", "(I)Z"⟩
abbrev cX11_basisOf : ByteArray := prog_1_method_97_code
def yX11_basisOf : MethodName := ⟨RX11, "basisOf", "(LPolyforge$Ideal;)LPolyforge$Stock;"⟩
abbrev cX11_holdsGenerators : ByteArray := prog_1_method_98_code
def yX11_holdsGenerators : MethodName := ⟨RX11, "holdsGenerators", "(LPolyforge$Ideal;LPolyforge$Stock;)Z"⟩
abbrev cX11_isRuleExponent : ByteArray := prog_1_method_99_code
def yX11_isRuleExponent : MethodName := ⟨RX11, "isRuleExponent", "(I)Z"⟩
abbrev cX11_isRuleDegree : ByteArray := prog_1_method_100_code
def yX11_isRuleDegree : MethodName := ⟨RX11, "isRuleDegree", "(I)Z"⟩
abbrev cX11_signOf : ByteArray := prog_1_method_101_code
def yX11_signOf : MethodName := ⟨RX11, "signOf", "(I)C"⟩
abbrev cX11_canUse : ByteArray := prog_1_method_102_code
def yX11_canUse : MethodName := ⟨RX11, "canUse", "(LPolyforge$Rule;I)Z"⟩
abbrev cX11_ruleFor : ByteArray := prog_1_method_103_code
def yX11_ruleFor : MethodName := ⟨RX11, "ruleFor", "(II)LPolyforge$Rule;"⟩
abbrev cX11_placeToRewrite : ByteArray := prog_1_method_104_code
def yX11_placeToRewrite : MethodName := ⟨RX11, "placeToRewrite", "()I"⟩
abbrev cX11_rewriteOnSlate : ByteArray := prog_1_method_105_code
def yX11_rewriteOnSlate : MethodName := ⟨RX11, "rewriteOnSlate", "(LPolyforge$Polynomial;)I"⟩
abbrev cX12_init : ByteArray := prog_15_method_1_code
def yX12_init : MethodName := ⟨RX12, "<init>", "(I)V"⟩
abbrev cX12_many : ByteArray := prog_15_method_2_code
def yX12_many : MethodName := ⟨RX12, "many", "()I"⟩
abbrev cX13_init : ByteArray := prog_14_method_1_code
def yX13_init : MethodName := ⟨RX13, "<init>", "()V"⟩
abbrev cX13_thrown : ByteArray := prog_14_method_2_code
def yX13_thrown : MethodName := ⟨RX13, "thrown", "()I"⟩
abbrev cX13_in : ByteArray := prog_14_method_3_code
def yX13_in : MethodName := ⟨RX13, "in", "(III)Z"⟩
abbrev cX13_fails : ByteArray := prog_14_method_4_code
def yX13_fails : MethodName := ⟨RX13, "fails", "(I)I"⟩
abbrev cX13_isPrime : ByteArray := prog_14_method_5_code
def yX13_isPrime : MethodName := ⟨RX13, "isPrime", "(I)Z"⟩
abbrev cX13_is : ByteArray := prog_14_method_6_code
def yX13_is : MethodName := ⟨RX13, "is", "(I)Z"⟩
abbrev cX13_are : ByteArray := prog_14_method_7_code
def yX13_are : MethodName := ⟨RX13, "are", "(II)Z"⟩
abbrev cX13_monomial : ByteArray := prog_14_method_8_code
def yX13_monomial : MethodName := ⟨RX13, "monomial", "(III)I"⟩
abbrev cX13_exponent : ByteArray := prog_14_method_9_code
def yX13_exponent : MethodName := ⟨RX13, "exponent", "(II)I"⟩
abbrev cX13_degreeOf : ByteArray := prog_14_method_10_code
def yX13_degreeOf : MethodName := ⟨RX13, "degreeOf", "(I)I"⟩
abbrev cX13_isInRange : ByteArray := prog_14_method_11_code
def yX13_isInRange : MethodName := ⟨RX13, "isInRange", "(I)Z"⟩
abbrev cX13_cell : ByteArray := prog_14_method_12_code
def yX13_cell : MethodName := ⟨RX13, "cell", "(I)I"⟩
abbrev cX13_ofCell : ByteArray := prog_14_method_13_code
def yX13_ofCell : MethodName := ⟨RX13, "ofCell", "(I)I"⟩
abbrev cX13_divides : ByteArray := prog_14_method_14_code
def yX13_divides : MethodName := ⟨RX13, "divides", "(II)Z"⟩
abbrev cX13_common : ByteArray := prog_14_method_15_code
def yX13_common : MethodName := ⟨RX13, "common", "(II)I"⟩
abbrev cX13_isGreater : ByteArray := prog_14_method_16_code
def yX13_isGreater : MethodName := ⟨RX13, "isGreater", "(II)Z"⟩
abbrev cX13_mod : ByteArray := prog_14_method_17_code
def yX13_mod : MethodName := ⟨RX13, "mod", "(JI)J"⟩
abbrev cX13_inverse : ByteArray := prog_14_method_18_code
def yX13_inverse : MethodName := ⟨RX13, "inverse", "(JI)I"⟩
abbrev cX13_gathered : ByteArray := prog_14_method_19_code
def yX13_gathered : MethodName := ⟨RX13, "gathered", "([JI)LPolyforgeModel$Terms;"⟩
abbrev cX13_single : ByteArray := prog_14_method_20_code
def yX13_single : MethodName := ⟨RX13, "single", "(IJ)LPolyforgeModel$Terms;"⟩
abbrev cX13_isSame : ByteArray := prog_14_method_21_code
def yX13_isSame : MethodName := ⟨RX13, "isSame", "(LPolyforgeModel$Terms;LPolyforgeModel$Terms;)Z"⟩
abbrev cX13_keeps : ByteArray := prog_14_method_22_code
def yX13_keeps : MethodName := ⟨RX13, "keeps", "(ILPolyforgeModel$Terms;I)I"⟩
abbrev cX13_adds : ByteArray := prog_14_method_23_code
def yX13_adds : MethodName := ⟨RX13, "adds", "([JLPolyforgeModel$Terms;JII)V"⟩
abbrev cX13_clears : ByteArray := prog_14_method_24_code
def yX13_clears : MethodName := ⟨RX13, "clears", "([J)V"⟩
abbrev cX13_begins : ByteArray := prog_14_method_25_code
def yX13_begins : MethodName := ⟨RX13, "begins", "(J)V"⟩
abbrev cX13_raises : ByteArray := prog_14_method_26_code
def yX13_raises : MethodName := ⟨RX13, "raises", "(LPolyforgeModel$Terms;I)V"⟩
abbrev cX13_addsPower : ByteArray := prog_14_method_27_code
def yX13_addsPower : MethodName := ⟨RX13, "addsPower", "([JJII)V"⟩
abbrev cX13_constant : ByteArray := prog_14_method_28_code
def yX13_constant : MethodName := ⟨RX13, "constant", "(II)I"⟩
abbrev cX13_variable : ByteArray := prog_14_method_29_code
def yX13_variable : MethodName := ⟨RX13, "variable", "(II)I"⟩
abbrev cX13_combines : ByteArray := prog_14_method_30_code
def yX13_combines : MethodName := ⟨RX13, "combines", "(IIJ)I"⟩
abbrev cX13_add : ByteArray := prog_14_method_31_code
def yX13_add : MethodName := ⟨RX13, "add", "(II)I"⟩
abbrev cX13_subtract : ByteArray := prog_14_method_32_code
def yX13_subtract : MethodName := ⟨RX13, "subtract", "(II)I"⟩
abbrev cX13_multiply : ByteArray := prog_14_method_33_code
def yX13_multiply : MethodName := ⟨RX13, "multiply", "(II)I"⟩
abbrev cX13_power : ByteArray := prog_14_method_34_code
def yX13_power : MethodName := ⟨RX13, "power", "(II)I"⟩
abbrev cX13_polynomials : ByteArray := prog_14_method_35_code
def yX13_polynomials : MethodName := ⟨RX13, "polynomials", "()I"⟩
abbrev cX13_ground : ByteArray := prog_14_method_36_code
def yX13_ground : MethodName := ⟨RX13, "ground", "(I)I"⟩
abbrev cX13_terms : ByteArray := prog_14_method_37_code
def yX13_terms : MethodName := ⟨RX13, "terms", "(I)I"⟩
abbrev cX13_degree : ByteArray := prog_14_method_38_code
def yX13_degree : MethodName := ⟨RX13, "degree", "(I)I"⟩
abbrev cX13_degreeIn : ByteArray := prog_14_method_39_code
def yX13_degreeIn : MethodName := ⟨RX13, "degreeIn", "(II)I"⟩
abbrev cX13_placeOf : ByteArray := prog_14_method_40_code
def yX13_placeOf : MethodName := ⟨RX13, "placeOf", "(LPolyforgeModel$Terms;I)I"⟩
abbrev cX13_works : ByteArray := prog_14_method_41_code
def yX13_works : MethodName := ⟨RX13, "works", "(LPolyforgeModel$Terms;)V"⟩
abbrev cX13_worksBackward : ByteArray := prog_14_method_42_code
def yX13_worksBackward : MethodName := ⟨RX13, "worksBackward", "(LPolyforgeModel$Terms;I)V"⟩
abbrev cX13_laysWork : ByteArray := prog_14_method_43_code
def yX13_laysWork : MethodName := ⟨RX13, "laysWork", "(LPolyforgeModel$Terms;I)V"⟩
abbrev cX13_coefficientAt : ByteArray := prog_14_method_44_code
def yX13_coefficientAt : MethodName := ⟨RX13, "coefficientAt", "(II)J"⟩
abbrev cX13_exponentAt : ByteArray := prog_14_method_45_code
def yX13_exponentAt : MethodName := ⟨RX13, "exponentAt", "(III)I"⟩
abbrev cX13_setOrder : ByteArray := prog_14_method_46_code
def yX13_setOrder : MethodName := ⟨RX13, "setOrder", "(C)C"⟩
abbrev cX13_unit : ByteArray := prog_14_method_47_code
def yX13_unit : MethodName := ⟨RX13, "unit", "(I)I"⟩
abbrev cX13_derive : ByteArray := prog_14_method_48_code
def yX13_derive : MethodName := ⟨RX13, "derive", "(II)I"⟩
abbrev cX13_integrate : ByteArray := prog_14_method_49_code
def yX13_integrate : MethodName := ⟨RX13, "integrate", "(II)I"⟩
abbrev cX13_substitute : ByteArray := prog_14_method_50_code
def yX13_substitute : MethodName := ⟨RX13, "substitute", "(III)I"⟩
abbrev cX13_value : ByteArray := prog_14_method_51_code
def yX13_value : MethodName := ⟨RX13, "value", "(IIII)I"⟩
abbrev cX13_divisorOf : ByteArray := prog_14_method_52_code
def yX13_divisorOf : MethodName := ⟨RX13, "divisorOf", "(JJ)J"⟩
abbrev cX13_contentOf : ByteArray := prog_14_method_53_code
def yX13_contentOf : MethodName := ⟨RX13, "contentOf", "(I)J"⟩
abbrev cX13_content : ByteArray := prog_14_method_54_code
def yX13_content : MethodName := ⟨RX13, "content", "(I)J"⟩
abbrev cX13_primitive : ByteArray := prog_14_method_55_code
def yX13_primitive : MethodName := ⟨RX13, "primitive", "(I)I"⟩
abbrev cX13_modulo : ByteArray := prog_14_method_56_code
def yX13_modulo : MethodName := ⟨RX13, "modulo", "(II)I"⟩
abbrev cX13_isLine : ByteArray := prog_14_method_57_code
def yX13_isLine : MethodName := ⟨RX13, "isLine", "(I)Z"⟩
abbrev cX13_areLines : ByteArray := prog_14_method_58_code
def yX13_areLines : MethodName := ⟨RX13, "areLines", "(II)Z"⟩
abbrev cX13_empties : ByteArray := prog_14_method_59_code
def yX13_empties : MethodName := ⟨RX13, "empties", "([I)V"⟩
abbrev cX13_copies : ByteArray := prog_14_method_60_code
def yX13_copies : MethodName := ⟨RX13, "copies", "([I[I)V"⟩
abbrev cX13_line : ByteArray := prog_14_method_61_code
def yX13_line : MethodName := ⟨RX13, "line", "(II)[I"⟩
abbrev cX13_top : ByteArray := prog_14_method_62_code
def yX13_top : MethodName := ⟨RX13, "top", "([I)I"⟩
abbrev cX13_keepsLine : ByteArray := prog_14_method_63_code
def yX13_keepsLine : MethodName := ⟨RX13, "keepsLine", "([III)I"⟩
abbrev cX13_divide : ByteArray := prog_14_method_64_code
def yX13_divide : MethodName := ⟨RX13, "divide", "([I[I[II)V"⟩
abbrev cX13_multiply_ : ByteArray := prog_14_method_65_code
def yX13_multiply_ : MethodName := ⟨RX13, "multiply", "([I[I[II)V"⟩
abbrev cX13_makesMonic : ByteArray := prog_14_method_66_code
def yX13_makesMonic : MethodName := ⟨RX13, "makesMonic", "([II)V"⟩
abbrev cX13_divided : ByteArray := prog_14_method_67_code
def yX13_divided : MethodName := ⟨RX13, "divided", "(IIZ)I"⟩
abbrev cX13_quotient : ByteArray := prog_14_method_68_code
def yX13_quotient : MethodName := ⟨RX13, "quotient", "(II)I"⟩
abbrev cX13_remainder : ByteArray := prog_14_method_69_code
def yX13_remainder : MethodName := ⟨RX13, "remainder", "(II)I"⟩
abbrev cX13_divisor : ByteArray := prog_14_method_70_code
def yX13_divisor : MethodName := ⟨RX13, "divisor", "(II)I"⟩
abbrev cX13_isShort : ByteArray := prog_14_method_71_code
def yX13_isShort : MethodName := ⟨RX13, "isShort", "(I)Z"⟩
abbrev cX13_numbers : ByteArray := prog_14_method_72_code
def yX13_numbers : MethodName := ⟨RX13, "numbers", "(III[I)V"⟩
abbrev cX13_finds : ByteArray := prog_14_method_73_code
def yX13_finds : MethodName := ⟨RX13, "finds", "([II)V"⟩
abbrev cX13_factorize : ByteArray := prog_14_method_74_code
def yX13_factorize : MethodName := ⟨RX13, "factorize", "(I)V"⟩
abbrev cX13_factors : ByteArray := prog_14_method_75_code
def yX13_factors : MethodName := ⟨RX13, "factors", "(I)I"⟩
abbrev cX13_factorAt : ByteArray := prog_14_method_76_code
def yX13_factorAt : MethodName := ⟨RX13, "factorAt", "(II)I"⟩
abbrev cX13_multiplicity : ByteArray := prog_14_method_77_code
def yX13_multiplicity : MethodName := ⟨RX13, "multiplicity", "(II)I"⟩
abbrev cX13_isIrreducible : ByteArray := prog_14_method_78_code
def yX13_isIrreducible : MethodName := ⟨RX13, "isIrreducible", "(I)Z"⟩
abbrev cX13_at : ByteArray := prog_14_method_79_code
def yX13_at : MethodName := ⟨RX13, "at", "([III)I"⟩
abbrev cX13_roots : ByteArray := prog_14_method_80_code
def yX13_roots : MethodName := ⟨RX13, "roots", "(I)I"⟩
abbrev cX13_determinant : ByteArray := prog_14_method_81_code
def yX13_determinant : MethodName := ⟨RX13, "determinant", "(II)I"⟩
abbrev cX13_resultant : ByteArray := prog_14_method_82_code
def yX13_resultant : MethodName := ⟨RX13, "resultant", "(II)I"⟩
abbrev cX13_resultantByDeterminant : ByteArray := prog_14_method_83_code
def yX13_resultantByDeterminant : MethodName := ⟨RX13, "resultantByDeterminant", "(II)I"⟩
abbrev cX13_series : ByteArray := prog_14_method_84_code
def yX13_series : MethodName := ⟨RX13, "series", "(III)I"⟩
abbrev cX13_limit : ByteArray := prog_14_method_85_code
def yX13_limit : MethodName := ⟨RX13, "limit", "(III)I"⟩
abbrev cX13_inverts : ByteArray := prog_14_method_86_code
def yX13_inverts : MethodName := ⟨RX13, "inverts", "(I)V"⟩
abbrev cX13_partial : ByteArray := prog_14_method_87_code
def yX13_partial : MethodName := ⟨RX13, "partial", "(III)I"⟩
abbrev cX13_swapsWork : ByteArray := prog_14_method_88_code
def yX13_swapsWork : MethodName := ⟨RX13, "swapsWork", "()V"⟩
abbrev cX13_takes : ByteArray := prog_14_method_89_code
def yX13_takes : MethodName := ⟨RX13, "takes", "(III[I[IIII)V"⟩
abbrev cX13_lead : ByteArray := prog_14_method_90_code
def yX13_lead : MethodName := ⟨RX13, "lead", "(I)I"⟩
abbrev cX13_reduces : ByteArray := prog_14_method_91_code
def yX13_reduces : MethodName := ⟨RX13, "reduces", "(II)V"⟩
abbrev cX13_pools : ByteArray := prog_14_method_92_code
def yX13_pools : MethodName := ⟨RX13, "pools", "(I)V"⟩
abbrev cX13_finds_ : ByteArray := prog_14_method_93_code
def yX13_finds_ : MethodName := ⟨RX13, "finds", "(I)V"⟩
abbrev cX13_pairs : ByteArray := prog_14_method_94_code
def yX13_pairs : MethodName := ⟨RX13, "pairs", "(I)Z"⟩
abbrev cX13_isFree : ByteArray := prog_14_method_95_code
def yX13_isFree : MethodName := ⟨RX13, "isFree", "(III)Z"⟩
abbrev cX13_finishes : ByteArray := prog_14_method_96_code
def yX13_finishes : MethodName := ⟨RX13, "finishes", "(I)V"⟩
abbrev cX13_isIdeal : ByteArray := prog_14_method_97_code
def yX13_isIdeal : MethodName := ⟨RX13, "isIdeal", "(I)Z"⟩
abbrev cX13_addIdeal : ByteArray := prog_14_method_98_code
def yX13_addIdeal : MethodName := ⟨RX13, "addIdeal", "(I)I"⟩
abbrev cX13_addGenerator : ByteArray := prog_14_method_99_code
def yX13_addGenerator : MethodName := ⟨RX13, "addGenerator", "(II)I"⟩
abbrev cX13_basis : ByteArray := prog_14_method_100_code
def yX13_basis : MethodName := ⟨RX13, "basis", "(I)I"⟩
abbrev cX13_basisTerms : ByteArray := prog_14_method_101_code
def yX13_basisTerms : MethodName := ⟨RX13, "basisTerms", "(II)I"⟩
abbrev cX13_basisCoefficient : ByteArray := prog_14_method_102_code
def yX13_basisCoefficient : MethodName := ⟨RX13, "basisCoefficient", "(III)I"⟩
abbrev cX13_basisExponent : ByteArray := prog_14_method_103_code
def yX13_basisExponent : MethodName := ⟨RX13, "basisExponent", "(IIII)I"⟩
abbrev cX13_normal : ByteArray := prog_14_method_104_code
def yX13_normal : MethodName := ⟨RX13, "normal", "(II)V"⟩
abbrev cX13_fit : ByteArray := prog_14_method_105_code
def yX13_fit : MethodName := ⟨RX13, "fit", "(II)Z"⟩
abbrev cX13_normalForm : ByteArray := prog_14_method_106_code
def yX13_normalForm : MethodName := ⟨RX13, "normalForm", "(II)I"⟩
abbrev cX13_keepsOut : ByteArray := prog_14_method_107_code
def yX13_keepsOut : MethodName := ⟨RX13, "keepsOut", "(III)I"⟩
abbrev cX13_isIn : ByteArray := prog_14_method_108_code
def yX13_isIn : MethodName := ⟨RX13, "isIn", "(II)Z"⟩
abbrev cX13_pure : ByteArray := prog_14_method_109_code
def yX13_pure : MethodName := ⟨RX13, "pure", "(I)I"⟩
abbrev cX13_size : ByteArray := prog_14_method_110_code
def yX13_size : MethodName := ⟨RX13, "size", "(I)I"⟩
abbrev cX13_isSign : ByteArray := prog_14_method_111_code
def yX13_isSign : MethodName := ⟨RX13, "isSign", "(C)Z"⟩
abbrev cX13_addRule : ByteArray := prog_14_method_112_code
def yX13_addRule : MethodName := ⟨RX13, "addRule", "(IIIIIC)I"⟩
abbrev cX13_knownSigns : ByteArray := prog_14_method_113_code
def yX13_knownSigns : MethodName := ⟨RX13, "knownSigns", "()I"⟩
abbrev cX13_assume : ByteArray := prog_14_method_114_code
def yX13_assume : MethodName := ⟨RX13, "assume", "(IC)I"⟩
abbrev cX13_openFrame : ByteArray := prog_14_method_115_code
def yX13_openFrame : MethodName := ⟨RX13, "openFrame", "()I"⟩
abbrev cX13_closeFrame : ByteArray := prog_14_method_116_code
def yX13_closeFrame : MethodName := ⟨RX13, "closeFrame", "()I"⟩
abbrev cX13_sign : ByteArray := prog_14_method_117_code
def yX13_sign : MethodName := ⟨RX13, "sign", "(I)C"⟩
abbrev cX13_ruleFor : ByteArray := prog_14_method_118_code
def yX13_ruleFor : MethodName := ⟨RX13, "ruleFor", "(II)I"⟩
abbrev cX13_rewrites : ByteArray := prog_14_method_119_code
def yX13_rewrites : MethodName := ⟨RX13, "rewrites", "(I)V"⟩
abbrev cX13_stepsOn : ByteArray := prog_14_method_120_code
def yX13_stepsOn : MethodName := ⟨RX13, "stepsOn", "(III)V"⟩
abbrev cX13_rewritten : ByteArray := prog_14_method_121_code
def yX13_rewritten : MethodName := ⟨RX13, "rewritten", "(I)I"⟩
abbrev cX13_rewrite : ByteArray := prog_14_method_122_code
def yX13_rewrite : MethodName := ⟨RX13, "rewrite", "(I)I"⟩
abbrev cX13_steps : ByteArray := prog_14_method_123_code
def yX13_steps : MethodName := ⟨RX13, "steps", "(I)I"⟩
abbrev cX13_lineShare : ByteArray := prog_14_method_124_code
def yX13_lineShare : MethodName := ⟨RX13, "lineShare", "()F"⟩
abbrev cX13_meanTerms : ByteArray := prog_14_method_125_code
def yX13_meanTerms : MethodName := ⟨RX13, "meanTerms", "()D"⟩
abbrev cX13_isSound : ByteArray := prog_14_method_126_code
def yX13_isSound : MethodName := ⟨RX13, "isSound", "()Z"⟩
abbrev cJx00060_init_a7421 : ByteArray := prog_18_method_2_code
def yJx00060_init_a7421 : MethodName := ⟨RJx00060, "<init>", "(Ljava/lang/String;)V"⟩
abbrev cJ6_compare_7cf53 : ByteArray := prog_24_method_40_code
def yJ6_compare_7cf53 : MethodName := ⟨RJ6, "compare", "(II)I"⟩
abbrev cJ9_floorMod_f86c9 : ByteArray := prog_25_method_52_code
def yJ9_floorMod_f86c9 : MethodName := ⟨RJ9, "floorMod", "(JJ)J"⟩
abbrev cJ9_abs_067f4 : ByteArray := prog_25_method_61_code
def yJ9_abs_067f4 : MethodName := ⟨RJ9, "abs", "(J)J"⟩
abbrev cJ9_max_7cf53 : ByteArray := prog_25_method_65_code
def yJ9_max_7cf53 : MethodName := ⟨RJ9, "max", "(II)I"⟩
abbrev cJ9_max_f86c9 : ByteArray := prog_25_method_66_code
def yJ9_max_f86c9 : MethodName := ⟨RJ9, "max", "(JJ)J"⟩
abbrev cJ9_min_7cf53 : ByteArray := prog_25_method_69_code
def yJ9_min_7cf53 : MethodName := ⟨RJ9, "min", "(II)I"⟩
abbrev cJ7_fill_53178 : ByteArray := prog_31_method_103_code
def yJ7_fill_53178 : MethodName := ⟨RJ7, "fill", "([II)V"⟩
abbrev cJ7_copyOf_59c91 : ByteArray := prog_31_method_123_code
def yJ7_copyOf_59c91 : MethodName := ⟨RJ7, "copyOf", "([II)[I"⟩
abbrev cJ7_copyOf_c38d5 : ByteArray := prog_31_method_124_code
def yJ7_copyOf_c38d5 : MethodName := ⟨RJ7, "copyOf", "([JI)[J"⟩
abbrev cL_constant : ByteArray := method_3_code
def yL_constant : MethodName := ⟨RL, "constant", "(LPolyforge;II[J)I"⟩
abbrev cL_variable : ByteArray := method_4_code
def yL_variable : MethodName := ⟨RL, "variable", "(LPolyforge;II[J)I"⟩
abbrev cL_add : ByteArray := method_5_code
def yL_add : MethodName := ⟨RL, "add", "(LPolyforge;II[J)I"⟩
abbrev cL_subtract : ByteArray := method_6_code
def yL_subtract : MethodName := ⟨RL, "subtract", "(LPolyforge;II[J)I"⟩
abbrev cL_multiply : ByteArray := method_7_code
def yL_multiply : MethodName := ⟨RL, "multiply", "(LPolyforge;II[J)I"⟩
abbrev cL_power : ByteArray := method_8_code
def yL_power : MethodName := ⟨RL, "power", "(LPolyforge;II[J)I"⟩
abbrev cL_ground : ByteArray := method_9_code
def yL_ground : MethodName := ⟨RL, "ground", "(LPolyforge;I[J)I"⟩
abbrev cL_terms : ByteArray := method_10_code
def yL_terms : MethodName := ⟨RL, "terms", "(LPolyforge;I[J)I"⟩
abbrev cL_degree : ByteArray := method_11_code
def yL_degree : MethodName := ⟨RL, "degree", "(LPolyforge;I[J)I"⟩
abbrev cL_degreeIn : ByteArray := method_12_code
def yL_degreeIn : MethodName := ⟨RL, "degreeIn", "(LPolyforge;II[J)I"⟩
abbrev cL_coefficientAt : ByteArray := method_13_code
def yL_coefficientAt : MethodName := ⟨RL, "coefficientAt", "(LPolyforge;II[J)I"⟩
abbrev cL_exponentAt : ByteArray := method_14_code
def yL_exponentAt : MethodName := ⟨RL, "exponentAt", "(LPolyforge;III[J)I"⟩
abbrev cL_setOrder : ByteArray := method_15_code
def yL_setOrder : MethodName := ⟨RL, "setOrder", "(LPolyforge;C[J)I"⟩
abbrev cL_derive : ByteArray := method_16_code
def yL_derive : MethodName := ⟨RL, "derive", "(LPolyforge;II[J)I"⟩
abbrev cL_integrate : ByteArray := method_17_code
def yL_integrate : MethodName := ⟨RL, "integrate", "(LPolyforge;II[J)I"⟩
abbrev cL_substitute : ByteArray := method_18_code
def yL_substitute : MethodName := ⟨RL, "substitute", "(LPolyforge;III[J)I"⟩
abbrev cL_value : ByteArray := method_19_code
def yL_value : MethodName := ⟨RL, "value", "(LPolyforge;IIII[J)I"⟩
abbrev cL_content : ByteArray := method_20_code
def yL_content : MethodName := ⟨RL, "content", "(LPolyforge;I[J)I"⟩
abbrev cL_primitive : ByteArray := method_21_code
def yL_primitive : MethodName := ⟨RL, "primitive", "(LPolyforge;I[J)I"⟩
abbrev cL_modulo : ByteArray := method_22_code
def yL_modulo : MethodName := ⟨RL, "modulo", "(LPolyforge;II[J)I"⟩
abbrev cL_quotient : ByteArray := method_23_code
def yL_quotient : MethodName := ⟨RL, "quotient", "(LPolyforge;II[J)I"⟩
abbrev cL_remainder : ByteArray := method_24_code
def yL_remainder : MethodName := ⟨RL, "remainder", "(LPolyforge;II[J)I"⟩
abbrev cL_divisor : ByteArray := method_25_code
def yL_divisor : MethodName := ⟨RL, "divisor", "(LPolyforge;II[J)I"⟩
abbrev cL_factors : ByteArray := method_26_code
def yL_factors : MethodName := ⟨RL, "factors", "(LPolyforge;I[J)I"⟩
abbrev cL_factorAt : ByteArray := method_27_code
def yL_factorAt : MethodName := ⟨RL, "factorAt", "(LPolyforge;II[J)I"⟩
abbrev cL_multiplicity : ByteArray := method_28_code
def yL_multiplicity : MethodName := ⟨RL, "multiplicity", "(LPolyforge;II[J)I"⟩
abbrev cL_isIrreducible : ByteArray := method_29_code
def yL_isIrreducible : MethodName := ⟨RL, "isIrreducible", "(LPolyforge;I[J)I"⟩
abbrev cL_roots : ByteArray := method_30_code
def yL_roots : MethodName := ⟨RL, "roots", "(LPolyforge;I[J)I"⟩
abbrev cL_resultant : ByteArray := method_31_code
def yL_resultant : MethodName := ⟨RL, "resultant", "(LPolyforge;II[J)I"⟩
abbrev cL_resultantByDeterminant : ByteArray := method_32_code
def yL_resultantByDeterminant : MethodName := ⟨RL, "resultantByDeterminant", "(LPolyforge;II[J)I"⟩
abbrev cL_series : ByteArray := method_33_code
def yL_series : MethodName := ⟨RL, "series", "(LPolyforge;III[J)I"⟩
abbrev cL_limit : ByteArray := method_34_code
def yL_limit : MethodName := ⟨RL, "limit", "(LPolyforge;III[J)I"⟩
abbrev cL_partial : ByteArray := method_35_code
def yL_partial : MethodName := ⟨RL, "partial", "(LPolyforge;III[J)I"⟩
abbrev cL_addIdeal : ByteArray := method_36_code
def yL_addIdeal : MethodName := ⟨RL, "addIdeal", "(LPolyforge;I[J)I"⟩
abbrev cL_addGenerator : ByteArray := method_37_code
def yL_addGenerator : MethodName := ⟨RL, "addGenerator", "(LPolyforge;II[J)I"⟩
abbrev cL_basis : ByteArray := method_38_code
def yL_basis : MethodName := ⟨RL, "basis", "(LPolyforge;I[J)I"⟩
abbrev cL_basisTerms : ByteArray := method_39_code
def yL_basisTerms : MethodName := ⟨RL, "basisTerms", "(LPolyforge;II[J)I"⟩
abbrev cL_basisCoefficient : ByteArray := method_40_code
def yL_basisCoefficient : MethodName := ⟨RL, "basisCoefficient", "(LPolyforge;III[J)I"⟩
abbrev cL_basisExponent : ByteArray := method_41_code
def yL_basisExponent : MethodName := ⟨RL, "basisExponent", "(LPolyforge;IIII[J)I"⟩
abbrev cL_normalForm : ByteArray := method_42_code
def yL_normalForm : MethodName := ⟨RL, "normalForm", "(LPolyforge;II[J)I"⟩
abbrev cL_isIn : ByteArray := method_43_code
def yL_isIn : MethodName := ⟨RL, "isIn", "(LPolyforge;II[J)I"⟩
abbrev cL_size : ByteArray := method_44_code
def yL_size : MethodName := ⟨RL, "size", "(LPolyforge;I[J)I"⟩
abbrev cL_addRule : ByteArray := method_45_code
def yL_addRule : MethodName := ⟨RL, "addRule", "(LPolyforge;IIIIIC[J)I"⟩
abbrev cL_assume : ByteArray := method_46_code
def yL_assume : MethodName := ⟨RL, "assume", "(LPolyforge;IC[J)I"⟩
abbrev cL_openFrame : ByteArray := method_47_code
def yL_openFrame : MethodName := ⟨RL, "openFrame", "(LPolyforge;[J)I"⟩
abbrev cL_closeFrame : ByteArray := method_48_code
def yL_closeFrame : MethodName := ⟨RL, "closeFrame", "(LPolyforge;[J)I"⟩
abbrev cL_sign : ByteArray := method_49_code
def yL_sign : MethodName := ⟨RL, "sign", "(LPolyforge;I[J)I"⟩
abbrev cL_rewrite : ByteArray := method_50_code
def yL_rewrite : MethodName := ⟨RL, "rewrite", "(LPolyforge;I[J)I"⟩
abbrev cL_steps : ByteArray := method_51_code
def yL_steps : MethodName := ⟨RL, "steps", "(LPolyforge;I[J)I"⟩
abbrev cL_lineShare : ByteArray := method_52_code
def yL_lineShare : MethodName := ⟨RL, "lineShare", "(LPolyforge;[D)I"⟩
abbrev cL_meanTerms : ByteArray := method_53_code
def yL_meanTerms : MethodName := ⟨RL, "meanTerms", "(LPolyforge;[D)I"⟩
abbrev cL_law : ByteArray := code
def yL_law : MethodName := ⟨RL, "law", "([I)Z"⟩
theorem pv_t1 {w : Cond} (h : w ∈ tables_1_1) : w ∈ lw_tbl := List.mem_append_right _ (List.mem_append_left _ h)
theorem pv_t2 {w : Cond} (h : w ∈ tables_1_2) : w ∈ lw_tbl := List.mem_append_right _ (List.mem_append_right _ (List.mem_append_left _ h))
theorem pv_t3 {w : Cond} (h : w ∈ tables_1_3) : w ∈ lw_tbl := List.mem_append_right _ (List.mem_append_right _ (List.mem_append_right _ (List.mem_append_left _ h)))
theorem pv_t4 {w : Cond} (h : w ∈ tables_1_4) : w ∈ lw_tbl := List.mem_append_right _ (List.mem_append_right _ (List.mem_append_right _ (List.mem_append_right _ (List.mem_append_left _ h))))
theorem pv_t5 {w : Cond} (h : w ∈ tables_1_5) : w ∈ lw_tbl := List.mem_append_right _ (List.mem_append_right _ (List.mem_append_right _ (List.mem_append_right _ (List.mem_append_right _ (List.mem_append_left _ h)))))
theorem pv_t6 {w : Cond} (h : w ∈ tables_1_6) : w ∈ lw_tbl := List.mem_append_right _ (List.mem_append_right _ (List.mem_append_right _ (List.mem_append_right _ (List.mem_append_right _ (List.mem_append_right _ (List.mem_append_left _ h))))))
theorem pv_t7 {w : Cond} (h : w ∈ tables_1_7) : w ∈ lw_tbl := List.mem_append_right _ (List.mem_append_right _ (List.mem_append_right _ (List.mem_append_right _ (List.mem_append_right _ (List.mem_append_right _ (List.mem_append_right _ (List.mem_append_left _ h)))))))
theorem pv_t8 {w : Cond} (h : w ∈ tables_1_8) : w ∈ lw_tbl := List.mem_append_right _ (List.mem_append_right _ (List.mem_append_right _ (List.mem_append_right _ (List.mem_append_right _ (List.mem_append_right _ (List.mem_append_right _ (List.mem_append_right _ (List.mem_append_left _ h))))))))
theorem pv_t9 {w : Cond} (h : w ∈ tables_1_9) : w ∈ lw_tbl := List.mem_append_right _ (List.mem_append_right _ (List.mem_append_right _ (List.mem_append_right _ (List.mem_append_right _ (List.mem_append_right _ (List.mem_append_right _ (List.mem_append_right _ (List.mem_append_right _ (List.mem_append_left _ h)))))))))
theorem pv_t10 {w : Cond} (h : w ∈ tables_1_10) : w ∈ lw_tbl := List.mem_append_right _ (List.mem_append_right _ (List.mem_append_right _ (List.mem_append_right _ (List.mem_append_right _ (List.mem_append_right _ (List.mem_append_right _ (List.mem_append_right _ (List.mem_append_right _ (List.mem_append_right _ (List.mem_append_left _ h))))))))))
theorem pv_t11 {w : Cond} (h : w ∈ tables_1_11) : w ∈ lw_tbl := List.mem_append_right _ (List.mem_append_right _ (List.mem_append_right _ (List.mem_append_right _ (List.mem_append_right _ (List.mem_append_right _ (List.mem_append_right _ (List.mem_append_right _ (List.mem_append_right _ (List.mem_append_right _ (List.mem_append_right _ (h)))))))))))
def pv_tx : List (Nat × String) := [(448, "no such ground"), (519, "no more polynomials"), (455, "no such variable"), (490, "no such polynomial"), (459, "different grounds"), (498, "a coefficient or an exponent is out of range"), (131, "no such exponent"), (483, "no such term"), (160, "no such order"), (171, "a coefficient cannot be divided"), (176, "an exponent is out of range"), (461, "the ground of whole numbers"), (205, "no such value"), (463, "not the ground of whole numbers"), (450, "no such prime"), (471, "no line"), (475, "no terms"), (473, "no line of a degree that has factors"), (477, "no such factor"), (281, "no such index"), (286, "the constant coefficient is 0"), (292, "no such place"), (299, "the limit is infinite"), (308, "no more ideals"), (492, "no such ideal"), (321, "no generator"), (326, "no more generators"), (479, "no such polynomial in the basis"), (381, "the size is without end"), (389, "no such monomial"), (457, "no such sign"), (395, "no more rules"), (407, "a sign is known"), (409, "no more frames"), (411, "one frame alone is open"), (486, "the rules do not end in range"), (488, "no polynomial is kept")]
end
section
-- the words of the tables that keep, and what goes with every method
def pv_W : List Cond := lw_tbl.filter goodWord
theorem pv_in {w : Cond} (h : w ∈ lw_tbl) (g : goodWord w = true) : w ∈ pv_W := List.mem_filter.mpr ⟨h, g⟩
theorem pv_gd : ∀ w ∈ pv_W, (w.onTables && w.keeps) = true ∨ ∃ ty, w = .arrayClass ty := fun _ h => good_of_word (List.mem_filter.mp h).2
theorem pv_mg {l : List Cond} (k : Nat) {w : Cond} (h : l[k]? = some w) : w ∈ l := List.mem_of_getElem? h
theorem pv_t {w : Cond} (h : w ∈ tables_1) : w ∈ lw_tbl := List.mem_append_right _ h
theorem pv_gC {y : MethodName} {b : ByteArray} {n : Nat} {r : Option FieldType} (h : Cond.code y b n r ∈ lw_tbl) : GoodIn pv_W (Cond.code y b n r :: pv_W) := fun w hw => (List.mem_cons.mp hw).elim (fun e => by subst e; exact ⟨pv_in h rfl, Or.inl rfl⟩) (fun h2 => ⟨h2, pv_gd w h2⟩)
theorem pv_gCW {y : MethodName} {b : ByteArray} {n : Nat} {r : Option FieldType} {hh : List (Nat × Nat × Nat × Nat)} (h : Cond.codeWith y b n r hh ∈ lw_tbl) : GoodIn pv_W (Cond.codeWith y b n r hh :: pv_W) := fun w hw => (List.mem_cons.mp hw).elim (fun e => by subst e; exact ⟨pv_in h rfl, Or.inl rfl⟩) (fun h2 => ⟨h2, pv_gd w h2⟩)
theorem pv_g1 {w : Cond} (h : w ∈ lw_tbl) (g : goodWord w = true) : w ∈ pv_W ∧ ((w.onTables && w.keeps) = true ∨ ∃ ty, w = .arrayClass ty) := ⟨pv_in h g, good_of_word g⟩
theorem pv_gS {own : String} {idx : Nat} {y : MethodName} {b : ByteArray} {n : Nat} {r : Option FieldType} (h1 : Cond.methodLink own idx y ∈ lw_tbl) (h2 : Cond.static y ∈ lw_tbl) (h3 : Cond.initialized y.cls ∈ lw_tbl) (h4 : Cond.code y b n r ∈ lw_tbl) : GoodIn pv_W (va_wsS own idx y (Cond.code y b n r :: pv_W)) := fun w hw => (List.mem_append.mp hw).elim (fun h => by
    simp only [List.mem_cons, List.not_mem_nil, or_false] at h
    rcases h with rfl | rfl | rfl
    · exact pv_g1 h1 rfl
    · exact pv_g1 h2 rfl
    · exact pv_g1 h3 rfl) (fun h => pv_gC h4 w h)
theorem pv_gSW {own : String} {idx : Nat} {y : MethodName} {b : ByteArray} {n : Nat} {r : Option FieldType} {hh : List (Nat × Nat × Nat × Nat)} (h1 : Cond.methodLink own idx y ∈ lw_tbl) (h2 : Cond.static y ∈ lw_tbl) (h3 : Cond.initialized y.cls ∈ lw_tbl) (h4 : Cond.codeWith y b n r hh ∈ lw_tbl) : GoodIn pv_W (va_wsS own idx y (Cond.codeWith y b n r hh :: pv_W)) := fun w hw => (List.mem_append.mp hw).elim (fun h => by
    simp only [List.mem_cons, List.not_mem_nil, or_false] at h
    rcases h with rfl | rfl | rfl
    · exact pv_g1 h1 rfl
    · exact pv_g1 h2 rfl
    · exact pv_g1 h3 rfl) (fun h => pv_gCW h4 w h)
theorem pv_gV {own C : String} {idx : Nat} {y : MethodName} {b : ByteArray} {n : Nat} {r : Option FieldType} (h1 : Cond.methodLink own idx y ∈ lw_tbl) (h2 : Cond.instanceMethod y ∈ lw_tbl) (h5 : Cond.selects C y y ∈ lw_tbl) (h3 : Cond.initialized C ∈ lw_tbl) (h4 : Cond.code y b n r ∈ lw_tbl) : GoodIn pv_W (wsV own idx C y (Cond.code y b n r :: pv_W)) := fun w hw => (List.mem_append.mp hw).elim (fun h => by
    simp only [List.mem_cons, List.not_mem_nil, or_false] at h
    rcases h with rfl | rfl | rfl | rfl
    · exact pv_g1 h1 rfl
    · exact pv_g1 h2 rfl
    · exact pv_g1 h5 rfl
    · exact pv_g1 h3 rfl) (fun h => pv_gC h4 w h)
-- words that are no good words: castable, declares, the two of nest mates
def pv_kind : Cond → Bool
  | .declares _ | .castable .. | .fieldLinkNest .. | .methodLinkNest .. => true
  | _ => false
def pv_bw : List Cond := lw_tbl.filter pv_kind
theorem pv_ib {w : Cond} (h : w ∈ lw_tbl) (g : pv_kind w = true) : w ∈ pv_bw := List.mem_filter.mpr ⟨h, g⟩
theorem pv_Nw_warm {w : Cond} {s U : State} (hk : pv_kind w = true) (hW : s.WarmedH U.vm) (h : va_Nw w s) : va_Nw w U := by
  cases w <;> first | exact va_Nw.warmD hW h | exact va_Nw.warmC hW h | exact va_Nw.warmF hW h | exact va_Nw.warmM hW h | (simp [pv_kind] at hk; done)
theorem pv_kind_on {w : Cond} (hk : pv_kind w = true) : w.onTables = true := by
  cases w <;> first | rfl | (simp [pv_kind] at hk; done)
-- the types whose arrays are made
def pv_ot : List FieldType := [.object "Polyforge$Polynomial", .object "Polyforge$Ideal", .object "Polyforge$Rule", .object "Polyforge$Line", .object "PolyforgeModel$Terms", .array .int, .array .boolean, .array .long]
/-- what every call takes along: the statics of Throwable, the words above, the texts -/
def pv_E (A : Nat → Prop) (U : State) (H : Heap) : Prop := vx_Zq Bundle.tN "UNASSIGNED_STACK" Bundle.steD A U H ∧ vx_Zq Bundle.tN "SUPPRESSED_SENTINEL" Bundle.listD A U H ∧ (∀ w ∈ pv_bw, va_Nw w U) ∧ (∀ q ∈ pv_tx, ∃ a : Nat, vk_R RX11 q.1 q.2 a U) ∧ ∀ ty ∈ pv_ot, (Cond.arrayOver ty).before #[] U = true
theorem pv_E.warm {A : Nat → Prop} {s U : State} {H : Heap} (hW : s.WarmedH U.vm) (h : pv_E A s H) : pv_E A U H := by
  obtain ⟨h1, h2, h3, h4, h5⟩ := h
  refine ⟨vx_Zq.moved hW.alike h1, vx_Zq.moved hW.alike h2, fun w hw => pv_Nw_warm (List.mem_filter.mp hw).2 hW (h3 w hw), fun q hq => ?_, fun ty ht => (Cond.arrayOver_setVmC (args := #[]) (s := s) (vm' := U.vm) hW.alike ty).trans (h5 ty ht)⟩
  obtain ⟨a, ha⟩ := h4 q hq
  exact ⟨a, vk_R.warm hW ha⟩
theorem pv_E.kept {A : Nat → Prop} {s : State} {H H1 : Heap} (h : pv_E A s H) (hq : ∀ a : Nat, a < H.size → ¬ A a → H1[a]? = H[a]?) : pv_E A s H1 := ⟨h.1.kept hq, h.2.1.kept hq, h.2.2⟩
theorem pv_E.narrow {A B : Nat → Prop} {s : State} {H : Heap} (h : pv_E A s H) (hAB : ∀ q, B q → A q) : pv_E B s H := ⟨h.1.narrow hAB, h.2.1.narrow hAB, h.2.2⟩
def pv_P (D : va_G) (tys : List (ClassId × FieldType)) (ws : va_W) (A : Nat → Prop) (sz : Nat) (U : State) : Prop := U.heap.size = sz ∧ pv_E A U U.heap ∧ va_P D pv_cl ws U.heap ∧ va_K D pv_cl tys U ∧ va_D (fun _ => True) ws
theorem pv_blind {av : List Value} {D : va_G} {tys : List (ClassId × FieldType)} {ws : va_W} {A : Nat → Prop} {sz : Nat} : FrameBlind (va_Pc av (pv_P D tys ws A sz)) := by
  intro a U g mk h
  obtain ⟨h0, h1, h2, h3, h4, h5⟩ := h
  exact ⟨h0, h1, pv_E.warm (s := U) (U := U.calling g mk a) (State.WarmedH.refl U) h2, h3, va_K.moved (u := U) (U := U.calling g mk a) (Vm.Alike.refl U.vm) h4, h5⟩
theorem pv_pre {D : va_G} {tys : List (ClassId × FieldType)} {ws : va_W} {A0 B A9 : Nat → Prop} {s U : State} {H : Heap} {locs : List Loc} (hE : pv_E A0 s s.heap) (hS : va_S A0 s.heap H locs) (hB : ∀ q, B q → A0 q) (hP : va_P D pv_cl ws H) (hK : va_K D pv_cl tys s) (hD : va_D A9 ws) (hU : U.heap = H) (hW : s.WarmedH U.vm) : pv_P D tys ws B H.size U := by
  refine ⟨by rw [hU], ?_, by rw [hU]; exact hP, va_K.moved hW.alike hK, hD.weaken (fun _ _ _ _ => trivial)⟩
  rw [hU]
  exact ((hE.kept (fun a h1 h2 => hS.2.1 a h1 h2)).narrow hB).warm hW
/-- the call's start, all that it wants of the state -/
theorem pv_ps {As : List Value} {D : va_G} {tys : List (ClassId × FieldType)} {ws : va_W} {A0 B A9 : Nat → Prop} {s : State} {H : Heap} {locs : List Loc} (hE : pv_E A0 s s.heap) (hS : va_S A0 s.heap H locs) (hB : ∀ q, B q → A0 q) (hP : va_P D pv_cl ws H) (hK : va_K D pv_cl tys s) (hD : va_D A9 ws) : PreS s H (va_Pc As (pv_P D tys ws B H.size)) As := ⟨pv_blind, fun _ hU hW => ⟨rfl, pv_pre hE hS hB hP hK hD hU hW⟩⟩
theorem pv_pV {C : String} {b : Addr} {As : List Value} {D : va_G} {tys : List (ClassId × FieldType)} {ws : va_W} {A0 B A9 : Nat → Prop} {s : State} {H : Heap} {locs : List Loc} (hE : pv_E A0 s s.heap) (hS : va_S A0 s.heap H locs) (hB : ∀ q, B q → A0 q) (hP : va_P D pv_cl ws H) (hK : va_K D pv_cl tys s) (hD : va_D A9 ws) (hr : ∃ cellB : Cell, H[b]? = some cellB ∧ cellB.vm.isStatics = false ∧ s.vm.findClass C = some cellB.cls) : PreV s H C b (va_Pc (.ref b :: As) (pv_P D tys ws B H.size)) As := ⟨pv_blind, hr, fun _ hU hW => ⟨rfl, pv_pre hE hS hB hP hK hD hU hW⟩⟩
/-- what isn't its own stays: the world behind a call that changes nothing of it -/
theorem pv_keep {D : va_G} {cl : List vw_C} {ws : va_W} {H H1 : Heap} {n : Nat} (hP : va_P D cl ws H) (hn : n = H.size) (hk : ∀ q : Nat, q < H.size → ¬ va_A [] n q → H1[q]? = H[q]?) : va_P D cl ws H1 := by
  subst hn
  refine hP.kept (fun k q hq => ?_)
  have hl := vx_lt hP hq
  refine hk q.1 hl ?_
  rintro (⟨k, e, h⟩ | h)
  · simp at h
  · omega
theorem pv_new {sz : Nat} {A : Nat → Prop} {H : Heap} (hA : ∀ q : Nat, sz ≤ q → A q) (h : sz ≤ H.size) : ∀ q, va_A [] H.size q → A q := by
  rintro q (⟨k, e, h1⟩ | h1)
  · simp at h1
  · exact hA q (Nat.le_trans h h1)
theorem pv_setI {p : Program} {l : Launch} {e : Env} {R : Room} {s : State} {m : MethodId} {args : Array Value} {below : List Frame} {meth : Method} {c : Code} {H : Heap} {locs : List Loc} {cells slots : Nat} {Q : State → Prop} {pc : Nat} {ls : Array Slot} {rest : List Value} {x : Int32} (y : Int32) (h : x = y) (k : W p l e R s m args below meth c H locs cells slots Q (F0 m pc ls (.int y :: rest))) : W p l e R s m args below meth c H locs cells slots Q (F0 m pc ls (.int x :: rest)) := by
  subst h; exact k
theorem pv_setL {p : Program} {l : Launch} {e : Env} {R : Room} {s : State} {m : MethodId} {args : Array Value} {below : List Frame} {meth : Method} {c : Code} {H : Heap} {locs : List Loc} {cells slots : Nat} {Q : State → Prop} {pc : Nat} {ls : Array Slot} {rest : List Value} {x : Int64} (y : Int64) (h : x = y) (k : W p l e R s m args below meth c H locs cells slots Q (F0 m pc ls (.long y :: rest))) : W p l e R s m args below meth c H locs cells slots Q (F0 m pc ls (.long x :: rest)) := by
  subst h; exact k
theorem pv_r {ws : List Cond} (ps : List Nat) (hp : ws = ps.filterMap (fun i => lw_tbl[i]?)) (h : ws.all goodWord = true) : ∀ w ∈ ws, w ∈ pv_W := fun w hw => pv_in ((goodIn_r ws ps hp h) w hw).1 (List.all_eq_true.mp h w hw)
theorem inF0 : ∀ w ∈ u_ws RX0 TX0 18, w ∈ pv_W := pv_r [234, 236, 238, 240, 242, 244, 246, 248, 250, 252, 254, 256, 258, 260, 262, 264, 266, 268] (by decide +kernel) (by decide +kernel)
theorem inF1 : ∀ w ∈ u_ws RX1 TX1 7, w ∈ pv_W := pv_r [298, 300, 302, 304, 306, 308, 310] (by decide +kernel) (by decide +kernel)
theorem inF2 : ∀ w ∈ u_ws RX2 TX2 7, w ∈ pv_W := pv_r [379, 381, 383, 385, 387, 389, 391] (by decide +kernel) (by decide +kernel)
theorem inF3 : ∀ w ∈ u_ws RX3 TX3 5, w ∈ pv_W := pv_r [321, 323, 325, 327, 329] (by decide +kernel) (by decide +kernel)
theorem inF4 : ∀ w ∈ u_ws RX4 TX4 6, w ∈ pv_W := pv_r [1727, 1729, 1731, 1733, 1735, 1737] (by decide +kernel) (by decide +kernel)
theorem inF6 : ∀ w ∈ u_ws RX6 TX6 2, w ∈ pv_W := pv_r [209, 211] (by decide +kernel) (by decide +kernel)
theorem inF7 : ∀ w ∈ u_ws RX7 TX7 2, w ∈ pv_W := pv_r [1121, 1123] (by decide +kernel) (by decide +kernel)
theorem inF9 : ∀ w ∈ u_ws RX9 TX9 6, w ∈ pv_W := pv_r [177, 179, 181, 183, 185, 187] (by decide +kernel) (by decide +kernel)
theorem inF10 : ∀ w ∈ u_ws RX10 TX10 7, w ∈ pv_W := pv_r [356, 358, 360, 362, 364, 366, 368] (by decide +kernel) (by decide +kernel)
theorem inF11 : ∀ w ∈ u_ws RX11 TX11 15, w ∈ pv_W := pv_r [409, 411, 413, 415, 417, 419, 421, 423, 425, 427, 429, 431, 433, 435, 437] (by decide +kernel) (by decide +kernel)
theorem inF12 : ∀ w ∈ u_ws RX12 TX12 2, w ∈ pv_W := pv_r [2169, 2171] (by decide +kernel) (by decide +kernel)
theorem inF13 : ∀ w ∈ u_ws RX13 TX13 45, w ∈ pv_W := pv_r [2047, 2049, 2051, 2053, 2055, 2057, 2059, 2061, 2063, 2065, 2067, 2069, 2071, 2073, 2075, 2077, 2079, 2081, 2083, 2085, 2087, 2089, 2091, 2093, 2095, 2097, 2099, 2101, 2103, 2105, 2107, 2109, 2111, 2113, 2115, 2117, 2119, 2121, 2123, 2125, 2127, 2129, 2131, 2133, 2135] (by decide +kernel) (by decide +kernel)
end
section
section PVX
variable {p : Program} {l : Launch} {e : Env} {R : Room} {s : State} {m₀ : MethodId} {args : Array Value} {below : List Frame} {meth : Method} {c : Code} {W : State} {locs : List Loc} {cells slots : Nat}
def pv_xa (own : String) (ic : Nat) (X : String) (ix : Nat) (rx : ByteArray) (Y : String) (r : List String) : List Cond :=
  Bundle.throwableAtoms ++ Bundle.throwableSAtoms ++ (Bundle.passSAtoms X Y ix rx ++ Bundle.chainSAtoms Y r) ++
  [.methodLink own ic (Bundle.initS X), .instantiable X 6, .castable X X, .selects X Bundle.tFill0 Bundle.tFill0, .selects X Bundle.tFill Bundle.tFill,
   .lays X Bundle.tN "cause" "Ljava/lang/Throwable;", .lays X Bundle.tN "stackTrace" Bundle.steD, .lays X Bundle.tN "suppressedExceptions" Bundle.listD, .lays X Bundle.tN "detailMessage" "Ljava/lang/String;",
   .isRef (.static Bundle.tN "UNASSIGNED_STACK" Bundle.steD), .isRef (.static Bundle.tN "SUPPRESSED_SENTINEL" Bundle.listD),
   .fieldLink Bundle.tN 198 Bundle.tN "backtrace" "Ljava/lang/Object;", .lays Bundle.tN Bundle.tN "backtrace" "Ljava/lang/Object;", .lays X Bundle.tN "backtrace" "Ljava/lang/Object;"]
def pv_xs (own : String) (ic : Nat) (X : String) (ix : Nat) (rx : ByteArray) (Y : String) (r : List String) : List Cond := (pv_xa own ic X ix rx Y r).filter vx_no
set_option maxHeartbeats 4000000 in
theorem pv_ctorX (X : Stand p l e R s m₀ args below meth c W locs cells slots) (hexec : p.tables.exec = Jvm.exec) (htr : e.platform.stackTraces = false) {own cls sup : String} {r : List String} {ic ix : Nat} {rx : ByteArray} (x0 : decode rx 0 = .ok (.aload_n 0, 1)) (x1 : decode rx 1 = .ok (.aload_n 1, 1)) (x2 : decode rx 2 = .ok (.invokespecial ix, 3)) (x5 : decode rx 5 = .ok (.return_, 1))
    (hown : s.vm.findClass own = some m₀.cls) (hcls : Bundle.fit cls = true) (hnames : ∀ n ∈ sup :: r, Bundle.fit n = true)
    (h : ∀ a ∈ pv_xa own ic cls ix rx sup r, a.before args s = true)
    (hlocs : ∀ x ∈ locs, ∀ cell, s.heap[x.base]? = some cell → cell.vm.isStatics = false)
    {a : Addr} {cX : ClassId} {kX : Class} (hfoundX : s.vm.findClass cls = some cX) (hkX : s.vm.classes[cX]? = some kX) (hcell : W.heap[a]? = some (freshCell cX kX)) (hnew : s.heap.size ≤ a)
    {msg : Value} (hmsg : msg.isRef = true)
    {g : JFrame} (hg : g.method = m₀) (hsize : g.locals.size = c.maxLocals) (hlocked : g.locked = none) (hentered : g.entered = []) {rest : List Value} (hstack : g.stack = msg :: .ref a :: .ref a :: rest)
    (hd6 : decode c.code g.pc = .ok (.invokespecial ic, 3)) (hd9 : decode c.code (g.pc + 3) = .ok (.athrow, 1)) (hout : ∀ x ∈ c.exceptionTable.toList, covers x (g.pc + 3) = false)
    (hRframes : (sup :: r).length + 3 < R.frames) (hRlocals : 2 * g.monitorRoom + ((Value.ref a :: rest).map fun v => v.category).sum + (13 * ((sup :: r).length + 1) + 42) ≤ R.locals) (hlocks : meth.locks = false := by first | assumption | exact BodyLoose.notSynchronized (by assumption) | exact Body.notSynchronized (by assumption)) :
    ∃ U : State, Steps p.tables e below (W.setTop g) U ∧ U.status = .running ∧ Ended U below (.threw a) ∧ s.WarmedH U.vm ∧ s.sameButNew ({ U with vm := s.vm } : State) locs cells slots ∧
      ∃ ce, U.heap[a]? = some ce ∧ ce.vm = .none ∧ s.vm.findClass cls = some ce.cls := by
  have howns : e.platform.frameOwnsMonitors = true := by rw [X.admits.platform]
  have hfin : e.platform.finalization = false := by rw [X.admits.platform]
  have hpl : e.platform.magicAccessors = ({} : Platform).magicAccessors := by rw [X.admits.platform]
  have a' : ∀ x, x ∈ pv_xa own ic cls ix rx sup r → x.holds args s none s [] = true := fun x hx => h x hx
  obtain ⟨T, Z0, L, -, Y⟩ := ThrowableC.of_atoms (args := args) howns hfin hpl (fun x hx => h x (by simp [pv_xa, hx]))
  obtain ⟨Z, M, LZ, LM, hnZ⟩ := Init0T.ofS_atoms (args := args) hpl L Y (fun x hx => h x (by simp [pv_xa, hx]))
  obtain ⟨P1, L1, hP1m, hs1⟩ := PassC.ofS_atoms (args := args) (s := s) hpl (X := cls) (Y := sup) (Bundle.fit_spec hcls).1 (Bundle.fit_spec (hnames sup List.mem_cons_self)).2 x0 x1 x2 x5 (fun x hx => h x (by simp [pv_xa, hx]))
  obtain ⟨P2, Ps, hlen, L2, hL2, hm2, hsup2, hpass2⟩ := Bundle.chainS (args := args) hpl hnZ r sup (hnames sup List.mem_cons_self) (fun n hn => hnames n (List.mem_cons_of_mem _ hn)) (fun x hx => h x (by simp [pv_xa, hx]))
  have hlink1 : P1.sup = P2.m := Option.some.inj (hs1.symm.trans hm2)
  have hfound : s.vm.findClass cls = some P1.m.cls := findClass_of_methodNamed hP1m
  cases Option.some.inj (hfoundX.symm.trans hfound)
  obtain ⟨c1, kX', hc1, hk, hord, -, -, hn6⟩ := Cond.instantiable_spec (a' (.instantiable cls 6) (by simp [pv_xa]))
  cases Option.some.inj (hc1.symm.trans hfound)
  cases Option.some.inj (hkX.symm.trans hk)
  have hsel0 : selectMethod e.platform s.vm P1.m.cls T.fill0 = .method T.fill0 := by
    obtain ⟨c2, r2, m2, q1, q2, q3, q4, -⟩ := Cond.selects_spec (a' (.selects cls Bundle.tFill0 Bundle.tFill0) (by simp [pv_xa]))
    cases Option.some.inj (q1.symm.trans hfound)
    cases Option.some.inj (q2.symm.trans (State.methodFound?_of_named Y.fill0 (by decide)))
    cases Option.some.inj (q3.symm.trans Y.fill0)
    rw [Launch.admits_selectMethod X.admits]; exact q4
  have hselF : selectMethod e.platform s.vm P1.m.cls T.fill = .method T.fill := by
    obtain ⟨c2, r2, m2, q1, q2, q3, q4, -⟩ := Cond.selects_spec (a' (.selects cls Bundle.tFill Bundle.tFill) (by simp [pv_xa]))
    cases Option.some.inj (q1.symm.trans hfound)
    cases Option.some.inj (q2.symm.trans (State.methodFound?_of_named Y.fill (by decide)))
    cases Option.some.inj (q3.symm.trans Y.fill)
    rw [Launch.admits_selectMethod X.admits]; exact q4
  obtain ⟨cellS0, hcS0, hiss⟩ := Y.statics
  obtain ⟨u0, hu0⟩ := Cond.staticRefV Y.unassigned L.unassignedStatic L.statics hcS0 hiss (a' (.isRef (.static Bundle.tN "UNASSIGNED_STACK" Bundle.steD)) (by simp [pv_xa]))
  obtain ⟨sen, hsen⟩ := Cond.staticRefV Y.sentinel L.sentinelStatic L.statics hcS0 hiss (a' (.isRef (.static Bundle.tN "SUPPRESSED_SENTINEL" Bundle.listD)) (by simp [pv_xa]))
  obtain ⟨ci198, i198, fB, hk198, hg198, ha198, hsB, -, hnB, htB, hffB⟩ := Cond.ownField (t := .object "java/lang/Object") Y.found L.cls (by decide +kernel) (a' (.fieldLink Bundle.tN 198 Bundle.tN "backtrace" "Ljava/lang/Object;") (by simp [pv_xa])) (a' (.lays Bundle.tN Bundle.tN "backtrace" "Ljava/lang/Object;") (by simp [pv_xa])) e.platform hpl
  obtain ⟨cellS, hcS', heS, -, hkeep⟩ := X.same.2.2.2.2.2 T.aS cellS0 hcS0
  have hcellS : W.heap[T.aS]? = some cellS := hcS'
  have hout' : ∀ i, (⟨T.aS, i⟩ : Loc) ∉ locs := fun i hmem => by
    have := hlocs _ hmem cellS0 hcS0
    rw [hiss] at this; cases this
  have hknownS : cellS.vm ≠ .unknown := by
    rw [heS]; intro hu
    rw [show cellS0.vm = .unknown from hu] at hiss
    cases hiss
  have hneS : T.aS ≠ a := Nat.ne_of_lt (Nat.lt_of_lt_of_le (Array.getElem?_eq_some_iff.mp hcS0).1 hnew)
  obtain ⟨iM, hffM⟩ := Y.msg
  obtain ⟨tyC, dC, hdC, hdnC⟩ := Cond.laysAt hfound hk Y.cause (a' (.lays cls Bundle.tN "cause" "Ljava/lang/Throwable;") (by simp [pv_xa]))
  obtain ⟨tyS, dS, hdS, hdnS⟩ := Cond.laysAt hfound hk Y.stack (a' (.lays cls Bundle.tN "stackTrace" Bundle.steD) (by simp [pv_xa]))
  obtain ⟨tyP, dP, hdP, hdnP⟩ := Cond.laysAt hfound hk Y.supp (a' (.lays cls Bundle.tN "suppressedExceptions" Bundle.listD) (by simp [pv_xa]))
  obtain ⟨tyM, dM, hdM, hdnM⟩ := Cond.laysAt hfound hk hffM (a' (.lays cls Bundle.tN "detailMessage" "Ljava/lang/String;") (by simp [pv_xa]))
  obtain ⟨tyB, dB, hdB, hdnB⟩ := Cond.laysAt hfound hk hffB (a' (.lays cls Bundle.tN "backtrace" "Ljava/lang/Object;") (by simp [pv_xa]))
  have bC := Cond.laysApart hdB hdC hdnB hdnC (by rw [hnB, Y.causeName]; decide)
  have bS := Cond.laysApart hdB hdS hdnB hdnS (by rw [hnB, Y.stackName]; decide)
  have bP := Cond.laysApart hdB hdP hdnB hdnP (by rw [hnB, Y.suppName]; decide)
  have hskip : SkipFacts T e.platform s (fun u => u) u0 ((preparedCellV T.toThrowableT (freshCell P1.m.cls kX) a u0 sen).withEntry W.cur) :=
    ⟨{ ci198 := ci198, i198 := i198, fBack := fB }, ⟨hk198, hg198, ha198, hsB⟩, by
      have := fresh_default (c := P1.m.cls) tyB
      rw [htB] at this
      simpa [preparedCellV, Cell.setSlot, Cell.withEntry, Array.getElem?_setIfInBounds, bC, bS, bP, bC.symm, bS.symm, bP.symm, defaultValue] using this, fun _ _ => rfl⟩
  obtain ⟨tm, methC, cdC, kC, vm₁, hnC, -, -, -, -, -, -, -, hW₁, st1⟩ := Steps.initColdS (tb := p.tables) (e := e) (below := below) (s := s) (U := W) X.here hexec X.warmed hpl hown (t := Bundle.initS cls) rfl rfl (Bundle.fit_spec hcls).2
    (a' (.methodLink own ic (Bundle.initS cls)) (by simp [pv_xa])) (h (.instanceMethod (Bundle.initS cls)) (by simp [pv_xa, Bundle.passSAtoms])) (bytes := rx) (maxL := 2) (h (.code (Bundle.initS cls) rx 2 none) (by simp [pv_xa, Bundle.passSAtoms]))
    (f := g) hg (a := a) (msg := msg) (rest := .ref a :: rest) hstack hd6
  cases Option.some.inj (hnC.symm.trans hP1m)
  have X₁ := X.noted hW₁
  obtain ⟨vm₂, X₂, st2⟩ := Stand.ctorMessageOffV X₁ hexec (g := { g with stack := .ref a :: rest }) hg hsize T L Z LZ M LM (P1 :: P2 :: Ps)
    (fun P hP => by rcases List.mem_cons.mp hP with rfl | hP; exact L1; rcases List.mem_cons.mp hP with rfl | hP; exact L2; exact hL2 P hP) ⟨hlink1, hsup2, hpass2⟩ (u0 := u0) (sen := sen) (self := a) hmsg (cell := freshCell P1.m.cls kX) (cellS := cellS)
    hcell (fun _ => by simp) (by simp) rfl rfl hsel0 hselF hcellS hneS hknownS (by rw [hkeep _ (hout' _)]; exact hu0) (by rw [hkeep _ (hout' _)]; exact hsen)
    (Takes.of_laid hk hord tyC (by rw [Y.causeType]; rfl)) (Takes.of_laid hk hord tyS (by rw [Y.stackType]; exact fits_refV_array _ u0)) (Takes.of_laid hk hord tyP (by rw [Y.suppType]; exact fits_refV_object _ sen))
    (Takes.of_laid hk hord tyM (by rw [Y.msgType]; exact fits_refV_object _ ⟨msg, hmsg⟩)) Y.objLocals hskip htr [] hd6
    (by simp only [List.length_cons, hlen] at hRframes ⊢; omega) (by simp only [List.length_cons, hlen] at hRlocals ⊢; exact hRlocals)
  obtain ⟨hwalk, hrun, hended, hWU, hsame⟩ := Stand.athrowLeaves X₂ hexec (g := { g with stack := .ref a :: rest, pc := g.pc + 3 }) hg hlocked hentered hout (a := a) (rest := rest) rfl hd9
  obtain ⟨c3, c4, hc3, hc4, hasg⟩ := Cond.castable_spec (a' (.castable cls cls) (by simp [pv_xa]))
  cases Option.some.inj (hc3.symm.trans hfound)
  cases Option.some.inj (hc4.symm.trans hfound)
  have hlt : a < ((W.setVm vm₁).setVm vm₂).heap.size := (Array.getElem?_eq_some_iff.mp hcell).1
  have hU := heapAt_setCell_self (s := (W.setVm vm₁).setVm vm₂) (plainBareV T.toThrowableT (freshCell P1.m.cls kX) a u0 sen msg) hlt
  refine ⟨_, st1 _ (fun acts => ?_), hrun, hended, hWU, hsame.weaken (fun y hy hlt' => ?_) (Nat.le_refl _) (Nat.le_refl _), _, hU, rfl, hfound⟩
  · rw [doInvoke_state]
    exact st2 _ hwalk
  · rcases List.mem_append.mp hy with h1 | h1
    · exact h1
    · exfalso
      have hb : y.base = a := by
        simp only [List.mem_cons, List.not_mem_nil, or_false] at h1
        rcases h1 with rfl | rfl | rfl | rfl | rfl <;> rfl
      rw [hb] at hlt'
      exact Nat.not_lt.mpr hnew hlt'
end PVX
section PVY
variable {p : Program} {l : Launch} {e : Env} {R : Room} {s : State} {m : MethodId} {args : Array Value} {below : List Frame} {meth : Method} {c : Code} {H : Heap} {locs : List Loc} {cells slots : Nat} {Q : State → Prop}
variable {mc ms : Nat} {free : Addr → Prop} {A0 A1 : Nat → Prop} {H0 : Heap} {a : Array Value} {ls : Array Slot} {st0 rest : List Value}
variable {Qc : Array Value → State → Outcome → State → Prop} {XC : String → State → State → Prop}
set_option maxHeartbeats 4000000 in
theorem pv_throwX {cc : ByteArray} {pc : Nat} (hexec : p.tables.exec = Jvm.exec) (hb : c.code = cc) (hl : l.stackTraces = false) {own cls text sup : String} {r : List String} {ix : Nat} {rx : ByteArray} (x0 : decode rx 0 = .ok (.aload_n 0, 1)) (x1 : decode rx 1 = .ok (.aload_n 1, 1)) (x2 : decode rx 2 = .ok (.invokespecial ix, 3)) (x5 : decode rx 5 = .ok (.return_, 1)) {ik is ic mc ms sa : Nat} {A : Nat → Prop}
    (hown : s.vm.findClass own = some m.cls) (hcls : Bundle.fit cls = true) (hnames : ∀ n ∈ sup :: r, Bundle.fit n = true)
    (hk : (Cond.classLink own ik cls).before args s = true) (hini : (Cond.initialized cls).before args s = true) (hstr : vk_R own is text sa s) (hat : ∀ w ∈ pv_xs own ic cls ix rx sup r, w.before args s = true)
    (hgood : ∀ w ∈ Cond.classLink own ik cls :: Cond.initialized cls :: pv_xs own ic cls ix rx sup r, vx_ot w = true)
    (hU : vx_Zq Bundle.tN "UNASSIGNED_STACK" Bundle.steD A s s.heap) (hN : vx_Zq Bundle.tN "SUPPRESSED_SENTINEL" Bundle.listD A s s.heap) (hS : va_S A s.heap H locs) (hsize : ls.size = c.maxLocals)
    (d0 : decode cc pc = .ok (.new ik, 3)) (d3 : decode cc (pc + 3) = .ok (.dup, 1)) (d4 : decode cc (pc + 4) = .ok (.ldc_w is, 3)) (d7 : decode cc (pc + 7) = .ok (.invokespecial ic, 3)) (d10 : decode cc (pc + 10) = .ok (.athrow, 1))
    (hout : ∀ x ∈ c.exceptionTable.toList, covers x (pc + 10) = false)
    (hRframes : (sup :: r).length + 3 < R.frames) (hRlocals : (rest.map fun v => v.category).sum + (13 * ((sup :: r).length + 1) + 43) ≤ R.locals) (hRcells : cells + 1 ≤ R.cells) (hRslots : slots + 6 ≤ R.slots) (hlocks : meth.locks = false)
    (hx : ∀ t : State, s.vm.Alike t.vm → H.size ≤ t.heap.size → (∀ q : Nat, q < H.size → t.heap[q]? = H[q]?) → XC cls s t)
    (hf : ∀ z ∈ locs, free z.base) (hc : cells + 1 ≤ mc) (hs : slots + 6 ≤ ms) :
    W p l e R s m args below meth c H locs cells slots (vx_MQ below Qc XC args s mc ms free) (F0 m pc ls rest) := by
  intro T hT X
  have htr : e.platform.stackTraces = false := (show e.platform.stackTraces = l.stackTraces by rw [X.admits.platform]).trans hl
  have Y := vx_rebase X (R' := { frames := R.frames, locals := R.locals, cells := 1, slots := 6 }) (Nat.le_refl _) (Nat.le_refl _) hRcells hRslots
  obtain ⟨s', hA⟩ : ∃ z, z = (T.setVm s.vm).setFrames (.invoking m args :: below) := ⟨_, rfl⟩
  rw [← hA] at Y
  have hvm : s'.vm = s.vm := by rw [hA]; rfl
  have hhp : s'.heap = H := by rw [hA]; exact hT
  have hW0 : s.WarmedH s'.vm := by rw [hvm]; exact State.WarmedH.refl s
  have hat' : ∀ w ∈ pv_xs own ic cls ix rx sup r, w.before args s' = true := fun w hw => vx_ot_at hW0 hvm.symm (hgood w (List.mem_cons_of_mem _ (List.mem_cons_of_mem _ hw))) (hat w hw)
  have hk' : (Cond.classLink own ik cls).before args s' = true := vx_ot_at hW0 hvm.symm (hgood _ List.mem_cons_self) hk
  have hini' : (Cond.initialized cls).before args s' = true := vx_ot_at hW0 hvm.symm (hgood _ (List.mem_cons_of_mem _ List.mem_cons_self)) hini
  have hU' : vx_Zq Bundle.tN "UNASSIGNED_STACK" Bundle.steD A s' s'.heap := by rw [hhp]; exact vx_Zq.moved hW0.alike (hU.kept hS.2.1)
  have hN' : vx_Zq Bundle.tN "SUPPRESSED_SENTINEL" Bundle.listD A s' s'.heap := by rw [hhp]; exact vx_Zq.moved hW0.alike (hN.kept hS.2.1)
  have h : ∀ w ∈ pv_xa own ic cls ix rx sup r, w.before args s' = true := vx_own hat' (vx_isRefq hU'.1) (vx_isRefq hN'.1) hU'.2.word hN'.2.word
  have hown' : s'.vm.findClass own = some m.cls := by rw [hvm]; exact hown
  have hins : (Cond.instantiable cls 6).before args s' = true := h _ (by simp [pv_xa])
  obtain ⟨vm₁, cX, kX, hfX, hkX, -, -, X₁, st1⟩ := Y.newCold hexec (own := own) (C := cls) (index := ik) (n := 6) hown' hk' hins hini'
    (g := F0 m pc ls rest) rfl (by rw [hb]; exact d0) (Nat.le_refl _) (Nat.le_refl _)
  generalize hT1 : (T.setVm vm₁).pushCell { cls := cX, slots := kX.instanceTypes.map defaultValue, vm := .none } = T1 at X₁ st1
  have hcat : (Value.ref T.heap.size).category = 1 := rfl
  have hcellA : T1.heap[T.heap.size]? = some (freshCell cX kX) := by rw [← hT1]; exact State.heap_pushCell_size _ _
  have d3' : decode c.code (pc + 3) = .ok (.dup, 1) := by rw [hb]; exact d3
  have d4' : decode c.code (pc + 4) = .ok (.ldc_w is, 3) := by rw [hb]; exact d4
  have hstr' : vk_R own is text sa s' := vk_R.warm hW0 hstr
  obtain ⟨U, hsteps, hrun, hend, hW, hsame, ce, hce, hO1, hO2⟩ := pv_ctorX X₁ hexec htr (own := own) (cls := cls) (sup := sup) (r := r) (ic := ic) x0 x1 x2 x5 hown' hcls hnames h (fun x hx => nomatch hx) hfX hkX hcellA (by rw [hhp, hT]; exact Nat.le_refl _) (msg := .ref sa) rfl
    (g := { method := m, pc := pc + 7, locals := ls, stack := .ref sa :: .ref T.heap.size :: .ref T.heap.size :: rest, locked := none }) rfl hsize rfl rfl (rest := rest) rfl
    (by rw [hb]; exact d7) (by rw [hb]; exact d10) hout hRframes (by simp only [List.map_cons, List.sum_cons, hcat]; omega) hlocks
  obtain ⟨f1, f2⟩ := vx_frame hsame
  rw [hhp] at f1 f2
  have hWs : s.WarmedH U.vm := State.WarmedH.trans hW0 hW
  have hcl : s.vm.findClass cls = some ce.cls := by
    have h9 := hO2
    rw [hvm] at h9
    exact h9
  have hall : s.sameButNew ({ U with vm := s.vm } : State) locs mc ms := by
    subst hA
    obtain ⟨e1, e2⟩ := hsame
    rw [State.setFrames_setFrames] at e1
    have h2 : (T.setVm s.vm).sameButNew ({ U with vm := s.vm } : State) [] (0 + 1) (0 + 6) := ⟨e1, e2⟩
    have h3 := X.same.trans h2
    rw [List.append_nil] at h3
    exact h3.mono hc hs
  refine ⟨U, ?_, .threw T.heap.size, hrun, hend, Or.inr ⟨T.heap.size, rfl, cls, ce, locs, hx U hWs.alike f1 (fun q hq => f2 q hq (fun z hz => nomatch hz)), hce, hO1, hcl, hWs, hall, hf⟩⟩
  refine st1 _ ?_
  show Steps p.tables e below (T1.setTop { method := m, pc := pc + 3, locals := ls, stack := .ref T.heap.size :: rest, locked := none }) _
  jvm_step X₁.here [X₁.here.top, hexec, d3', Value.category]
  exact X₁.ldcStringW hexec (own := own) (text := text) (index := is) (a := sa) hown' hstr'.1 hstr'.2
    (g := { method := m, pc := pc + 4, locals := ls, stack := .ref T.heap.size :: .ref T.heap.size :: rest, locked := none }) rfl d4' _ hsteps
end PVY
end
section
theorem pv_thrown {p : Program} {l : Launch} {e : Env} {R : Room} {s : State} {m : MethodId} {args : Array Value} {below : List Frame} {meth : Method} {c : Code} {H : Heap} {locs : List Loc} {cells slots mc ms : Nat} {Q : State → Prop} {pc : Nat} {ls : Array Slot} {st0 rest : List Value} {free : Addr → Prop} {A0 : Nat → Prop} {H0 : Heap} {Qa : State → Outcome → State → Prop} {SX : Type} {px : SX → Prop} {BX : String → SX → State → Prop} {AX : Nat → Prop}
    (hr : vx_Run p l e R s m args below meth c H locs cells slots mc ms (F0 m pc ls st0) rest Qa (vx_X px BX AX) free) (hno : ∀ st o t, ¬ Qa st o t) (hS : va_S A0 H0 H locs) (hf : ∀ q, free q → A0 q) (hAX : ∀ q, AX q → A0 q)
    (kx : ∀ (E : String) (ce : Cell) (q9 : Addr) (u : SX) (t : State) (H1 : Heap) (locs1 : List Loc), t.heap = H1 → s.vm.Alike t.vm → px u → BX E u t → H.size ≤ H1.size → (∀ q : Nat, q < H.size → ¬ AX q → H1[q]? = H[q]?) → va_S A0 H0 H1 locs1 → H1[q9]? = some ce → ce.vm = .none → s.vm.findClass E = some ce.cls → vx_W p l e R s m args below meth c H1 locs1 (cells + mc) (slots + ms) Q (F0 m pc ls rest) q9) : W p l e R s m args below meth c H locs cells slots Q (F0 m pc ls st0) := by
  intro T hT X
  rcases hr T hT X with ⟨v, st₀, t, T', L, h0, X', hL, e1, e2, hq, st⟩ | ⟨q, st₀, t, T', L, E, ce, h0, X', hL, e1, e2, ⟨u, hp, hb, hF⟩, hce, hcv, hcl, st⟩
  · exact absurd hq (hno _ _ _)
  · obtain ⟨k1, k2, k3⟩ := vx_keep h0 e1 hS (fun q _ h => hAX q h) hf hL hF
    obtain ⟨t2, a1, b1⟩ := kx E ce q u t T'.heap (locs ++ L) e1.symm (by rw [← e2]; exact X'.warmed.alike) hp hb k1 k2 k3 (by rw [e1]; exact hce) hcv hcl T' rfl X'
    exact ⟨t2, st.trans a1, b1⟩
/-- a fresh object's fields -/
abbrev pv_x (q : Nat → Nat) : List Value := [.ref (q 0), .int 0, .int 108, .ref (q 1), .int 0, .ref (q 2), .int 0, .ref (q 3), .ref (q 4), .int 1, .ref (q 5), .ref (q 6), .ref (q 7), .ref (q 8), .ref (q 9)]

theorem dX11_keptAt_0 : decode cX11_keptAt 0 = .ok (.iload_n 1, 1) := by decide +kernel
theorem dX11_keptAt_1 : decode cX11_keptAt 1 = .ok (.ifCond .lt 29, 3) := by decide +kernel
theorem dX11_keptAt_30 : decode cX11_keptAt 30 = .ok (.aconst_null, 1) := by decide +kernel
theorem dX11_keptAt_31 : decode cX11_keptAt 31 = .ok (.areturn, 1) := by decide +kernel
theorem dX11_keptAt_4 : decode cX11_keptAt 4 = .ok (.iload_n 1, 1) := by decide +kernel
theorem dX11_keptAt_5 : decode cX11_keptAt 5 = .ok (.aload_n 0, 1) := by decide +kernel
theorem dX11_keptAt_6 : decode cX11_keptAt 6 = .ok (.getfield 15, 3) := by decide +kernel
theorem w2_38 : (Jvm.Cond.fieldLink "Polyforge" (15 : Nat) "Polyforge" "keptCount" "I") ∈ lw_tbl := pv_t2 (pv_mg 38 rfl)
theorem dX11_keptAt_9 : decode cX11_keptAt 9 = .ok (.if_icmp .ge 21, 3) := by decide +kernel
set_option maxHeartbeats 4000000 in
set_option maxRecDepth 100000 in
/-- keptAt(p) on a fresh object: null -/
theorem c_X11_keptAt (l : Launch) (hfl : l.stackTraces = false) (D : va_G) (sz : Nat) (h0 : Nat) (q : Nat → Nat) (p0 : Int32) : Met l yX11_keptAt (Cond.code yX11_keptAt cX11_keptAt 2 (some (.object "Polyforge$Polynomial")) :: pv_W) ({ frames := 0, cells := 0, slots := 0, locals := 0 } : Room) (va_Pc [.ref h0, .int p0] (pv_P D [] [(h0, .inr (0, [.ref (q 0), .int 0, .int 108, .ref (q 1), .int 0, .ref (q 2), .int 0, .ref (q 3), .ref (q 4), .int 1, .ref (q 5), .ref (q 6), .ref (q 7), .ref (q 8), .ref (q 9)]))] (va_A [] sz) sz)) (va_Qq (fun r (_ : Unit) => r = none) (fun _ _ => True) (va_A [] sz)) 0 0 (va_A [] sz) := by
  refine Met.ofW (cc := cX11_keptAt) (maxL := 2) (ret := (some (.object "Polyforge$Polynomial"))) (by decide) rfl ?_
  intro p e s m args below meth c s₁ B hml hv
  obtain ⟨rfl, hsz, hE, hP, hK, hD0⟩ := hv
  have hx := B.exec
  have hb := B.bytes
  have hr := B.returns
  have hts := fun (w : Cond) (h : w ∈ pv_W) => atoms_spec (ws := Cond.code yX11_keptAt cX11_keptAt 2 (some (.object "Polyforge$Polynomial")) :: pv_W) B.pre w (List.mem_cons_of_mem _ h)
  have hg := fun {w : Cond} (h : w ∈ lw_tbl) (g : goodWord w = true) => hts w (pv_in h g)
  have hown : s.vm.findClass RX11 = some m.cls := findClass_of_methodNamed B.named
  have hlocks := B.notSynchronized
  subst hsz
  have hD := hD0
  generalize hAe : va_A [] s.heap.size = A at hE ⊢
  have hA : ∀ q : Nat, s.heap.size ≤ q → A q := fun q h => by rw [← hAe]; exact Or.inr h
  have hS : va_S A s.heap s.heap [] := va_S.rf
  have hP : va_P D pv_cl [(h0, .inr (0, [.ref (q 0), .int 0, .int 108, .ref (q 1), .int 0, .ref (q 2), .int 0, .ref (q 3), .ref (q 4), .int 1, .ref (q 5), .ref (q 6), .ref (q 7), .ref (q 8), .ref (q 9)]))] s.heap := hP
  have hl := lv_entry ([.ref h0, .int p0]) (n := 2) (Nat.le_of_ble_eq_true rfl)
  rw [lg_entry_eq]
  generalize (lg_sl ([.ref h0, .int p0]) ++ List.replicate (2 - (lg_sl ([.ref h0, .int p0])).length) Slot.unset).toArray = ls at hl ⊢
  have hl : lv_has ls 2 [(0, .ref h0), (1, .int p0)] := hl
  refine lv_iload_n hx hb dX11_keptAt_0 rfl (lv_at hl 1 rfl) ?_
  refine lv_if_lt (tgt := 30) hx hb dX11_keptAt_1 (by decide) (fun c_1 => ?_) (fun c_1 => ?_)
  · refine lv_null hx hb dX11_keptAt_30 ?_
    refine W.widen (k := 0) (n := 0) (Nat.le_of_ble_eq_true rfl) (Nat.le_of_ble_eq_true rfl) ?_
    exact W.aret (v := .null) hx hb hr (Or.inl ⟨_, rfl⟩) (Or.inl rfl) (fun t ht hW => ⟨⟨none, (), rfl, rfl, trivial⟩, hS.F ht⟩) hS.2.2 dX11_keptAt_31
  · refine lv_iload_n hx hb dX11_keptAt_4 rfl (lv_at hl 1 rfl) ?_
    refine lv_aload_n hx hb dX11_keptAt_5 rfl (lv_at hl 0 rfl) ?_
    refine va_get (own := RX11) (D := D) (ci := 0) (v := .int 0) (C := RX11) (T := TX11) (N := 15) hx hb hts inF11 hown hK hP 0 rfl rfl 1 (by decide) (hg w2_38 rfl) (fun _ h9 => h9) rfl dX11_keptAt_6 ?_
    refine lv_icmp_ge (tgt := 30) hx hb dX11_keptAt_9 (by decide) (fun c_2 => ?_) (fun c_2 => absurd (Int32.not_lt.mp c_1) c_2)
    refine lv_null hx hb dX11_keptAt_30 ?_
    refine W.widen (k := 0) (n := 0) (Nat.le_of_ble_eq_true rfl) (Nat.le_of_ble_eq_true rfl) ?_
    exact W.aret (v := .null) hx hb hr (Or.inl ⟨_, rfl⟩) (Or.inl rfl) (fun t ht hW => ⟨⟨none, (), rfl, rfl, trivial⟩, hS.F ht⟩) hS.2.2 dX11_keptAt_31

theorem dX11_polynomialAt_0 : decode cX11_polynomialAt 0 = .ok (.aload_n 0, 1) := by decide +kernel
theorem dX11_polynomialAt_1 : decode cX11_polynomialAt 1 = .ok (.iload_n 1, 1) := by decide +kernel
theorem dX11_polynomialAt_2 : decode cX11_polynomialAt 2 = .ok (.invokevirtual 425, 3) := by decide +kernel
theorem w2_91 : (Jvm.Cond.methodLink "Polyforge" (425 : Nat) ({ cls := "Polyforge", name := "keptAt", desc := "(I)LPolyforge$Polynomial;" } : Jvm.MethodName)) ∈ lw_tbl := pv_t2 (pv_mg 91 rfl)
theorem w2_94 : (Jvm.Cond.code ({ cls := "Polyforge", name := "keptAt", desc := "(I)LPolyforge$Polynomial;" } : Jvm.MethodName) prog_1_method_74_code (2 : Nat) (Option.some (Jvm.ClassFile.FieldType.object "Polyforge$Polynomial"))) ∈ lw_tbl := pv_t2 (pv_mg 94 rfl)
theorem wp1_0 : Cond.selects "Polyforge" ⟨"Polyforge", "keptAt", "(I)LPolyforge$Polynomial;"⟩ ⟨"Polyforge", "keptAt", "(I)LPolyforge$Polynomial;"⟩ ∈ lw_tbl := pv_mg 0 rfl
theorem w2_93 : (Jvm.Cond.instanceMethod ({ cls := "Polyforge", name := "keptAt", desc := "(I)LPolyforge$Polynomial;" } : Jvm.MethodName)) ∈ lw_tbl := pv_t2 (pv_mg 93 rfl)
theorem w1_1 : (Jvm.Cond.initialized "Polyforge") ∈ lw_tbl := pv_t1 (pv_mg 1 rfl)
theorem dX11_polynomialAt_5 : decode cX11_polynomialAt 5 = .ok (.astore_n 2, 1) := by decide +kernel
theorem dX11_polynomialAt_6 : decode cX11_polynomialAt 6 = .ok (.aload_n 2, 1) := by decide +kernel
theorem dX11_polynomialAt_7 : decode cX11_polynomialAt 7 = .ok (.ifnonnull 14, 3) := by decide +kernel
theorem dX11_polynomialAt_10 : decode cX11_polynomialAt 10 = .ok (.new 481, 3) := by decide +kernel
theorem dX11_polynomialAt_13 : decode cX11_polynomialAt 13 = .ok (.dup, 1) := by decide +kernel
theorem dX11_polynomialAt_14 : decode cX11_polynomialAt 14 = .ok (.ldc_w 490, 3) := by decide +kernel
theorem dX11_polynomialAt_17 : decode cX11_polynomialAt 17 = .ok (.invokespecial 485, 3) := by decide +kernel
theorem dX11_polynomialAt_20 : decode cX11_polynomialAt 20 = .ok (.athrow, 1) := by decide +kernel
theorem vx_at_485_g : ∀ w ∈ (vx_atS RX11 485 "java/lang/IndexOutOfBoundsException" ["java/lang/RuntimeException", "java/lang/Exception"]).filter goodWord, w ∈ lw_tbl := by decide +kernel
theorem vx_at_485_b : ∀ w ∈ (vx_atS RX11 485 "java/lang/IndexOutOfBoundsException" ["java/lang/RuntimeException", "java/lang/Exception"]).filter (fun w => !goodWord w), w ∈ pv_bw := by decide +kernel
theorem vx_at_485_t : ∀ w ∈ Cond.classLink RX11 481 "java/lang/IndexOutOfBoundsException" :: Cond.initialized "java/lang/IndexOutOfBoundsException" :: vx_atS RX11 485 "java/lang/IndexOutOfBoundsException" ["java/lang/RuntimeException", "java/lang/Exception"], vx_ot w = true := by decide +kernel
theorem w5_116 : (Jvm.Cond.classLink "Polyforge" (481 : Nat) "java/lang/IndexOutOfBoundsException") ∈ lw_tbl := pv_t5 (pv_mg 116 rfl)
theorem w1_20 : (Jvm.Cond.initialized "java/lang/IndexOutOfBoundsException") ∈ lw_tbl := pv_t1 (pv_mg 20 rfl)
set_option maxHeartbeats 4000000 in
set_option maxRecDepth 100000 in
/-- polynomialAt(p) on a fresh object: throws -/
theorem c_X11_polynomialAt (l : Launch) (hfl : l.stackTraces = false) (D : va_G) (sz : Nat) (h0 : Nat) (q : Nat → Nat) (p0 : Int32) : vx_Met l yX11_polynomialAt (Cond.code yX11_polynomialAt cX11_polynomialAt 3 (some (.object "Polyforge$Polynomial")) :: pv_W) ({ frames := 7, cells := 1, slots := 6, locals := 100 } : Room) (va_Pc [.ref h0, .int p0] (pv_P D [] [(h0, .inr (0, [.ref (q 0), .int 0, .int 108, .ref (q 1), .int 0, .ref (q 2), .int 0, .ref (q 3), .ref (q 4), .int 1, .ref (q 5), .ref (q 6), .ref (q 7), .ref (q 8), .ref (q 9)]))] (va_A [] sz) sz)) (fun _ _ _ _ => False) (vx_X (fun _ : Unit => True) (fun E _ _ => E = "java/lang/IndexOutOfBoundsException") (va_A [] sz)) 1 6 (va_A [] sz) := by
  refine vx_ofW (cc := cX11_polynomialAt) (maxL := 3) (ret := (some (.object "Polyforge$Polynomial"))) (by decide) rfl ?_
  intro p e s m args below meth c s₁ B hml hnt hv
  obtain ⟨rfl, hsz, hE, hP, hK, hD0⟩ := hv
  have hx := B.exec
  have hb := B.bytes
  have hr := B.returns
  have hts := fun (w : Cond) (h : w ∈ pv_W) => atoms_spec (ws := Cond.code yX11_polynomialAt cX11_polynomialAt 3 (some (.object "Polyforge$Polynomial")) :: pv_W) B.pre w (List.mem_cons_of_mem _ h)
  have hg := fun {w : Cond} (h : w ∈ lw_tbl) (g : goodWord w = true) => hts w (pv_in h g)
  have hown : s.vm.findClass RX11 = some m.cls := findClass_of_methodNamed B.named
  have hlocks := B.notSynchronized
  subst hsz
  have hD := hD0
  generalize hAe : va_A [] s.heap.size = A at hE ⊢
  have hA : ∀ q : Nat, s.heap.size ≤ q → A q := fun q h => by rw [← hAe]; exact Or.inr h
  have hS : va_S A s.heap s.heap [] := va_S.rf
  have hP : va_P D pv_cl [(h0, .inr (0, [.ref (q 0), .int 0, .int 108, .ref (q 1), .int 0, .ref (q 2), .int 0, .ref (q 3), .ref (q 4), .int 1, .ref (q 5), .ref (q 6), .ref (q 7), .ref (q 8), .ref (q 9)]))] s.heap := hP
  have hl := lv_entry ([.ref h0, .int p0]) (n := 3) (Nat.le_of_ble_eq_true rfl)
  rw [lg_entry_eq]
  generalize (lg_sl ([.ref h0, .int p0]) ++ List.replicate (3 - (lg_sl ([.ref h0, .int p0])).length) Slot.unset).toArray = ls at hl ⊢
  have hl : lv_has ls 3 [(0, .ref h0), (1, .int p0)] := hl
  refine lv_aload_n hx hb dX11_polynomialAt_0 rfl (lv_at hl 0 rfl) ?_
  refine lv_iload_n hx hb dX11_polynomialAt_1 rfl (lv_at hl 1 rfl) ?_
  have hF := pv_new hA hS.1
  refine va_callq (va_runV (As := [.int p0]) (rest := []) ⟨hx, hb, hml, hown, hts⟩ (c_X11_keptAt l hfl D _ h0 q p0) (cwV 1 hts (pv_gV w2_91 w2_93 wp1_0 w1_1 w2_94) rfl rfl rfl (by decide +kernel) ⟨Nat.le_of_ble_eq_true rfl, Nat.le_of_ble_eq_true rfl⟩) (pv_pV hE hS hF (hP.sub [0] rfl) (hK.sub [] rfl) (hD.sub [0] (by decide) rfl) (va_recv (ci := 0) (q0 := 0) hK hP rfl rfl)) rfl rfl hl.1 rfl (lv_room (Nat.le_of_ble_eq_true rfl)) dX11_polynomialAt_2 ⟨Nat.le_of_ble_eq_true rfl, Nat.le_of_ble_eq_true rfl⟩) hS (fun q _ h => hF q h) hF (fun r_0 u t H1 locs1 ht hvm hw hB hz1 hk1 hS => ?_)
  refine W.widen (k := 0) (n := 0) (Nat.le_of_ble_eq_true rfl) (Nat.le_of_ble_eq_true rfl) ?_
  have hP := pv_keep hP rfl hk1
  obtain rfl := hw
  refine lv_astore_nN (lv' := [(2, .null), (0, .ref h0), (1, .int p0)]) hx hb dX11_polynomialAt_5 rfl hl (by decide) rfl (fun ls hl => ?_)
  refine lv_aload_nN hx hb dX11_polynomialAt_6 rfl (lv_at hl 0 rfl) ?_
  refine lv_ifnonnullN hx hb dX11_polynomialAt_7 ?_
  obtain ⟨sa, hsa⟩ := hE.2.2.2.1 (490, "no such polynomial") (by decide)
  exact vx_throwSW (own := RX11) (cls := "java/lang/IndexOutOfBoundsException") (names := ["java/lang/RuntimeException", "java/lang/Exception"]) hx hb hfl hown rfl (by decide) (hg w5_116 rfl) (hg w1_20 rfl) hsa (vx_hat (fun w h => hts w (pv_in (vx_at_485_g w h) (List.mem_filter.mp h).2)) vx_at_485_b (fun w h => va_Nw.use (pv_kind_on (List.mem_filter.mp h).2) (hE.2.2.1 w h))) vx_at_485_t hE.1 hE.2.1 hS (hl.1.trans hml.symm) dX11_polynomialAt_10 dX11_polynomialAt_13 dX11_polynomialAt_14 dX11_polynomialAt_17 dX11_polynomialAt_20 (fun x h9 => absurd (hnt x h9) id) (Nat.le_of_ble_eq_true rfl) (Nat.le_of_ble_eq_true rfl) (Nat.le_of_ble_eq_true rfl) (Nat.le_of_ble_eq_true rfl) hlocks (fun t h1 h2 h3 => ⟨(), trivial, rfl, Nat.le_trans hS.1 h2, fun q h4 h5 => (h3 q (Nat.lt_of_lt_of_le h4 hS.1)).trans (hS.2.1 q h4 h5)⟩) hS.2.2 (Nat.le_of_ble_eq_true rfl) (Nat.le_of_ble_eq_true rfl)

theorem dX11_add_0 : decode cX11_add 0 = .ok (.aload_n 0, 1) := by decide +kernel
theorem dX11_add_1 : decode cX11_add 1 = .ok (.iload_n 1, 1) := by decide +kernel
theorem dX11_add_2 : decode cX11_add 2 = .ok (.invokevirtual 103, 3) := by decide +kernel
theorem w5_112 : (Jvm.Cond.methodLink "Polyforge" (103 : Nat) ({ cls := "Polyforge", name := "polynomialAt", desc := "(I)LPolyforge$Polynomial;" } : Jvm.MethodName)) ∈ lw_tbl := pv_t5 (pv_mg 112 rfl)
theorem w5_115 : (Jvm.Cond.code ({ cls := "Polyforge", name := "polynomialAt", desc := "(I)LPolyforge$Polynomial;" } : Jvm.MethodName) prog_1_method_75_code (3 : Nat) (Option.some (Jvm.ClassFile.FieldType.object "Polyforge$Polynomial"))) ∈ lw_tbl := pv_t5 (pv_mg 115 rfl)
theorem wp3_13 : Cond.selects "Polyforge" ⟨"Polyforge", "polynomialAt", "(I)LPolyforge$Polynomial;"⟩ ⟨"Polyforge", "polynomialAt", "(I)LPolyforge$Polynomial;"⟩ ∈ lw_tbl := pv_mg 45 rfl
theorem w5_114 : (Jvm.Cond.instanceMethod ({ cls := "Polyforge", name := "polynomialAt", desc := "(I)LPolyforge$Polynomial;" } : Jvm.MethodName)) ∈ lw_tbl := pv_t5 (pv_mg 114 rfl)
set_option maxHeartbeats 4000000 in
set_option maxRecDepth 100000 in
/-- add on a fresh object: throws -/
theorem c_X11_add (l : Launch) (hfl : l.stackTraces = false) (D : va_G) (sz : Nat) (h0 : Nat) (q : Nat → Nat) (p0 p1 : Int32) : vx_Met l yX11_add (Cond.code yX11_add cX11_add 5 (some .int) :: pv_W) ({ frames := 8, cells := 1, slots := 6, locals := 122 } : Room) (va_Pc [.ref h0, .int p0, .int p1] (pv_P D [] [(h0, .inr (0, [.ref (q 0), .int 0, .int 108, .ref (q 1), .int 0, .ref (q 2), .int 0, .ref (q 3), .ref (q 4), .int 1, .ref (q 5), .ref (q 6), .ref (q 7), .ref (q 8), .ref (q 9)]))] (va_A [] sz) sz)) (fun _ _ _ _ => False) (vx_X (fun _ : Unit => True) (fun E _ _ => E = "java/lang/IndexOutOfBoundsException") (va_A [] sz)) 1 6 (va_A [] sz) := by
  refine vx_ofW (cc := cX11_add) (maxL := 5) (ret := (some .int)) (by decide) rfl ?_
  intro p e s m args below meth c s₁ B hml hnt hv
  obtain ⟨rfl, hsz, hE, hP, hK, hD0⟩ := hv
  have hx := B.exec
  have hb := B.bytes
  have hr := B.returns
  have hts := fun (w : Cond) (h : w ∈ pv_W) => atoms_spec (ws := Cond.code yX11_add cX11_add 5 (some .int) :: pv_W) B.pre w (List.mem_cons_of_mem _ h)
  have hg := fun {w : Cond} (h : w ∈ lw_tbl) (g : goodWord w = true) => hts w (pv_in h g)
  have hown : s.vm.findClass RX11 = some m.cls := findClass_of_methodNamed B.named
  have hlocks := B.notSynchronized
  subst hsz
  have hD := hD0
  generalize hAe : va_A [] s.heap.size = A at hE ⊢
  have hA : ∀ q : Nat, s.heap.size ≤ q → A q := fun q h => by rw [← hAe]; exact Or.inr h
  have hS : va_S A s.heap s.heap [] := va_S.rf
  have hP : va_P D pv_cl [(h0, .inr (0, [.ref (q 0), .int 0, .int 108, .ref (q 1), .int 0, .ref (q 2), .int 0, .ref (q 3), .ref (q 4), .int 1, .ref (q 5), .ref (q 6), .ref (q 7), .ref (q 8), .ref (q 9)]))] s.heap := hP
  have hl := lv_entry ([.ref h0, .int p0, .int p1]) (n := 5) (Nat.le_of_ble_eq_true rfl)
  rw [lg_entry_eq]
  generalize (lg_sl ([.ref h0, .int p0, .int p1]) ++ List.replicate (5 - (lg_sl ([.ref h0, .int p0, .int p1])).length) Slot.unset).toArray = ls at hl ⊢
  have hl : lv_has ls 5 [(0, .ref h0), (1, .int p0), (2, .int p1)] := hl
  refine lv_aload_n hx hb dX11_add_0 rfl (lv_at hl 0 rfl) ?_
  refine lv_iload_n hx hb dX11_add_1 rfl (lv_at hl 1 rfl) ?_
  have hF := pv_new hA hS.1
  refine pv_thrown (vx_runV (As := [.int p0]) (rest := []) ⟨hx, hb, hml, hown, hts⟩ (c_X11_polynomialAt l hfl D _ h0 q p0) (cwV 1 hts (pv_gV w5_112 w5_114 wp3_13 w1_1 w5_115) rfl rfl rfl (by decide +kernel) ⟨Nat.le_of_ble_eq_true rfl, Nat.le_of_ble_eq_true rfl⟩) (pv_pV hE hS hF (hP.sub [0] rfl) (hK.sub [] rfl) (hD.sub [0] (by decide) rfl) (va_recv (ci := 0) (q0 := 0) hK hP rfl rfl)) rfl rfl hl.1 rfl (lv_room (Nat.le_of_ble_eq_true rfl)) dX11_add_2 ⟨Nat.le_of_ble_eq_true rfl, Nat.le_of_ble_eq_true rfl⟩) (fun _ _ _ h => h) hS hF hF (fun E ce q9 u t H1 locs1 ht hvm hpx hbx hz1 hk1 hS hce hcv hcl => ?_)
  exact vx_out (fun x h9 => absurd (hnt x h9) id) hlocks hce hcv hcl (fun t ht hvm => ⟨(), trivial, hbx, hS.F ht⟩) hS.2.2 (Nat.le_of_ble_eq_true rfl) (Nat.le_of_ble_eq_true rfl)
end
section
theorem dX11_addedAt_0 : decode cX11_addedAt 0 = .ok (.iload_n 1, 1) := by decide +kernel
theorem dX11_addedAt_1 : decode cX11_addedAt 1 = .ok (.ifCond .lt 29, 3) := by decide +kernel
theorem dX11_addedAt_30 : decode cX11_addedAt 30 = .ok (.aconst_null, 1) := by decide +kernel
theorem dX11_addedAt_31 : decode cX11_addedAt 31 = .ok (.areturn, 1) := by decide +kernel
theorem dX11_addedAt_4 : decode cX11_addedAt 4 = .ok (.iload_n 1, 1) := by decide +kernel
theorem dX11_addedAt_5 : decode cX11_addedAt 5 = .ok (.aload_n 0, 1) := by decide +kernel
theorem dX11_addedAt_6 : decode cX11_addedAt 6 = .ok (.getfield 29, 3) := by decide +kernel
theorem w2_41 : (Jvm.Cond.fieldLink "Polyforge" (29 : Nat) "Polyforge" "idealCount" "I") ∈ lw_tbl := pv_t2 (pv_mg 41 rfl)
theorem dX11_addedAt_9 : decode cX11_addedAt 9 = .ok (.if_icmp .ge 21, 3) := by decide +kernel
set_option maxHeartbeats 4000000 in
set_option maxRecDepth 100000 in
/-- addedAt(i) on a fresh object: null -/
theorem c_X11_addedAt (l : Launch) (hfl : l.stackTraces = false) (D : va_G) (sz : Nat) (h0 : Nat) (q : Nat → Nat) (p0 : Int32) : Met l yX11_addedAt (Cond.code yX11_addedAt cX11_addedAt 2 (some (.object "Polyforge$Ideal")) :: pv_W) ({ frames := 0, cells := 0, slots := 0, locals := 0 } : Room) (va_Pc [.ref h0, .int p0] (pv_P D [] [(h0, .inr (0, [.ref (q 0), .int 0, .int 108, .ref (q 1), .int 0, .ref (q 2), .int 0, .ref (q 3), .ref (q 4), .int 1, .ref (q 5), .ref (q 6), .ref (q 7), .ref (q 8), .ref (q 9)]))] (va_A [] sz) sz)) (va_Qq (fun r (_ : Unit) => r = none) (fun _ _ => True) (va_A [] sz)) 0 0 (va_A [] sz) := by
  refine Met.ofW (cc := cX11_addedAt) (maxL := 2) (ret := (some (.object "Polyforge$Ideal"))) (by decide) rfl ?_
  intro p e s m args below meth c s₁ B hml hv
  obtain ⟨rfl, hsz, hE, hP, hK, hD0⟩ := hv
  have hx := B.exec
  have hb := B.bytes
  have hr := B.returns
  have hts := fun (w : Cond) (h : w ∈ pv_W) => atoms_spec (ws := Cond.code yX11_addedAt cX11_addedAt 2 (some (.object "Polyforge$Ideal")) :: pv_W) B.pre w (List.mem_cons_of_mem _ h)
  have hg := fun {w : Cond} (h : w ∈ lw_tbl) (g : goodWord w = true) => hts w (pv_in h g)
  have hown : s.vm.findClass RX11 = some m.cls := findClass_of_methodNamed B.named
  have hlocks := B.notSynchronized
  subst hsz
  have hD := hD0
  generalize hAe : va_A [] s.heap.size = A at hE ⊢
  have hA : ∀ q : Nat, s.heap.size ≤ q → A q := fun q h => by rw [← hAe]; exact Or.inr h
  have hS : va_S A s.heap s.heap [] := va_S.rf
  have hP : va_P D pv_cl [(h0, .inr (0, [.ref (q 0), .int 0, .int 108, .ref (q 1), .int 0, .ref (q 2), .int 0, .ref (q 3), .ref (q 4), .int 1, .ref (q 5), .ref (q 6), .ref (q 7), .ref (q 8), .ref (q 9)]))] s.heap := hP
  have hl := lv_entry ([.ref h0, .int p0]) (n := 2) (Nat.le_of_ble_eq_true rfl)
  rw [lg_entry_eq]
  generalize (lg_sl ([.ref h0, .int p0]) ++ List.replicate (2 - (lg_sl ([.ref h0, .int p0])).length) Slot.unset).toArray = ls at hl ⊢
  have hl : lv_has ls 2 [(0, .ref h0), (1, .int p0)] := hl
  refine lv_iload_n hx hb dX11_addedAt_0 rfl (lv_at hl 1 rfl) ?_
  refine lv_if_lt (tgt := 30) hx hb dX11_addedAt_1 (by decide) (fun c_1 => ?_) (fun c_1 => ?_)
  · refine lv_null hx hb dX11_addedAt_30 ?_
    refine W.widen (k := 0) (n := 0) (Nat.le_of_ble_eq_true rfl) (Nat.le_of_ble_eq_true rfl) ?_
    exact W.aret (v := .null) hx hb hr (Or.inl ⟨_, rfl⟩) (Or.inl rfl) (fun t ht hW => ⟨⟨none, (), rfl, rfl, trivial⟩, hS.F ht⟩) hS.2.2 dX11_addedAt_31
  · refine lv_iload_n hx hb dX11_addedAt_4 rfl (lv_at hl 1 rfl) ?_
    refine lv_aload_n hx hb dX11_addedAt_5 rfl (lv_at hl 0 rfl) ?_
    refine va_get (own := RX11) (D := D) (ci := 0) (v := .int 0) (C := RX11) (T := TX11) (N := 15) hx hb hts inF11 hown hK hP 0 rfl rfl 4 (by decide) (hg w2_41 rfl) (fun _ h9 => h9) rfl dX11_addedAt_6 ?_
    refine lv_icmp_ge (tgt := 30) hx hb dX11_addedAt_9 (by decide) (fun c_2 => ?_) (fun c_2 => absurd (Int32.not_lt.mp c_1) c_2)
    refine lv_null hx hb dX11_addedAt_30 ?_
    refine W.widen (k := 0) (n := 0) (Nat.le_of_ble_eq_true rfl) (Nat.le_of_ble_eq_true rfl) ?_
    exact W.aret (v := .null) hx hb hr (Or.inl ⟨_, rfl⟩) (Or.inl rfl) (fun t ht hW => ⟨⟨none, (), rfl, rfl, trivial⟩, hS.F ht⟩) hS.2.2 dX11_addedAt_31

theorem dX11_idealAt_0 : decode cX11_idealAt 0 = .ok (.aload_n 0, 1) := by decide +kernel
theorem dX11_idealAt_1 : decode cX11_idealAt 1 = .ok (.iload_n 1, 1) := by decide +kernel
theorem dX11_idealAt_2 : decode cX11_idealAt 2 = .ok (.invokevirtual 438, 3) := by decide +kernel
theorem w3_11 : (Jvm.Cond.methodLink "Polyforge" (438 : Nat) ({ cls := "Polyforge", name := "addedAt", desc := "(I)LPolyforge$Ideal;" } : Jvm.MethodName)) ∈ lw_tbl := pv_t3 (pv_mg 11 rfl)
theorem w3_14 : (Jvm.Cond.code ({ cls := "Polyforge", name := "addedAt", desc := "(I)LPolyforge$Ideal;" } : Jvm.MethodName) prog_1_method_76_code (2 : Nat) (Option.some (Jvm.ClassFile.FieldType.object "Polyforge$Ideal"))) ∈ lw_tbl := pv_t3 (pv_mg 14 rfl)
theorem wp1_12 : Cond.selects "Polyforge" ⟨"Polyforge", "addedAt", "(I)LPolyforge$Ideal;"⟩ ⟨"Polyforge", "addedAt", "(I)LPolyforge$Ideal;"⟩ ∈ lw_tbl := pv_mg 12 rfl
theorem w3_13 : (Jvm.Cond.instanceMethod ({ cls := "Polyforge", name := "addedAt", desc := "(I)LPolyforge$Ideal;" } : Jvm.MethodName)) ∈ lw_tbl := pv_t3 (pv_mg 13 rfl)
theorem dX11_idealAt_5 : decode cX11_idealAt 5 = .ok (.astore_n 2, 1) := by decide +kernel
theorem dX11_idealAt_6 : decode cX11_idealAt 6 = .ok (.aload_n 2, 1) := by decide +kernel
theorem dX11_idealAt_7 : decode cX11_idealAt 7 = .ok (.ifnonnull 14, 3) := by decide +kernel
theorem dX11_idealAt_10 : decode cX11_idealAt 10 = .ok (.new 297, 3) := by decide +kernel
theorem dX11_idealAt_13 : decode cX11_idealAt 13 = .ok (.dup, 1) := by decide +kernel
theorem dX11_idealAt_14 : decode cX11_idealAt 14 = .ok (.ldc_w 492, 3) := by decide +kernel
theorem dX11_idealAt_17 : decode cX11_idealAt 17 = .ok (.invokespecial 301, 3) := by decide +kernel
theorem dX11_idealAt_20 : decode cX11_idealAt 20 = .ok (.athrow, 1) := by decide +kernel
theorem vx_at_301_g : ∀ w ∈ (pv_xs RX11 301 "java/util/NoSuchElementException" 13 prog_32_method_4_code "java/lang/RuntimeException" ["java/lang/Exception"]).filter goodWord, w ∈ lw_tbl := by decide +kernel
theorem vx_at_301_b : ∀ w ∈ (pv_xs RX11 301 "java/util/NoSuchElementException" 13 prog_32_method_4_code "java/lang/RuntimeException" ["java/lang/Exception"]).filter (fun w => !goodWord w), w ∈ pv_bw := by decide +kernel
theorem vx_at_301_t : ∀ w ∈ Cond.classLink RX11 297 "java/util/NoSuchElementException" :: Cond.initialized "java/util/NoSuchElementException" :: pv_xs RX11 301 "java/util/NoSuchElementException" 13 prog_32_method_4_code "java/lang/RuntimeException" ["java/lang/Exception"], vx_ot w = true := by decide +kernel
theorem nse_x0 : decode prog_32_method_4_code 0 = .ok (.aload_n 0, 1) := by decide +kernel
theorem nse_x1 : decode prog_32_method_4_code 1 = .ok (.aload_n 1, 1) := by decide +kernel
theorem nse_x2 : decode prog_32_method_4_code 2 = .ok (.invokespecial 13, 3) := by decide +kernel
theorem nse_x5 : decode prog_32_method_4_code 5 = .ok (.return_, 1) := by decide +kernel
theorem w6_48 : (Jvm.Cond.classLink "Polyforge" (297 : Nat) "java/util/NoSuchElementException") ∈ lw_tbl := pv_t6 (pv_mg 48 rfl)
theorem w1_25 : (Jvm.Cond.initialized "java/util/NoSuchElementException") ∈ lw_tbl := pv_t1 (pv_mg 25 rfl)
set_option maxHeartbeats 4000000 in
set_option maxRecDepth 100000 in
/-- idealAt(i) on a fresh object: throws -/
theorem c_X11_idealAt (l : Launch) (hfl : l.stackTraces = false) (D : va_G) (sz : Nat) (h0 : Nat) (q : Nat → Nat) (p0 : Int32) : vx_Met l yX11_idealAt (Cond.code yX11_idealAt cX11_idealAt 3 (some (.object "Polyforge$Ideal")) :: pv_W) ({ frames := 7, cells := 1, slots := 6, locals := 100 } : Room) (va_Pc [.ref h0, .int p0] (pv_P D [] [(h0, .inr (0, [.ref (q 0), .int 0, .int 108, .ref (q 1), .int 0, .ref (q 2), .int 0, .ref (q 3), .ref (q 4), .int 1, .ref (q 5), .ref (q 6), .ref (q 7), .ref (q 8), .ref (q 9)]))] (va_A [] sz) sz)) (fun _ _ _ _ => False) (vx_X (fun _ : Unit => True) (fun E _ _ => E = "java/util/NoSuchElementException") (va_A [] sz)) 1 6 (va_A [] sz) := by
  refine vx_ofW (cc := cX11_idealAt) (maxL := 3) (ret := (some (.object "Polyforge$Ideal"))) (by decide) rfl ?_
  intro p e s m args below meth c s₁ B hml hnt hv
  obtain ⟨rfl, hsz, hE, hP, hK, hD0⟩ := hv
  have hx := B.exec
  have hb := B.bytes
  have hr := B.returns
  have hts := fun (w : Cond) (h : w ∈ pv_W) => atoms_spec (ws := Cond.code yX11_idealAt cX11_idealAt 3 (some (.object "Polyforge$Ideal")) :: pv_W) B.pre w (List.mem_cons_of_mem _ h)
  have hg := fun {w : Cond} (h : w ∈ lw_tbl) (g : goodWord w = true) => hts w (pv_in h g)
  have hown : s.vm.findClass RX11 = some m.cls := findClass_of_methodNamed B.named
  have hlocks := B.notSynchronized
  subst hsz
  have hD := hD0
  generalize hAe : va_A [] s.heap.size = A at hE ⊢
  have hA : ∀ q : Nat, s.heap.size ≤ q → A q := fun q h => by rw [← hAe]; exact Or.inr h
  have hS : va_S A s.heap s.heap [] := va_S.rf
  have hP : va_P D pv_cl [(h0, .inr (0, [.ref (q 0), .int 0, .int 108, .ref (q 1), .int 0, .ref (q 2), .int 0, .ref (q 3), .ref (q 4), .int 1, .ref (q 5), .ref (q 6), .ref (q 7), .ref (q 8), .ref (q 9)]))] s.heap := hP
  have hl := lv_entry ([.ref h0, .int p0]) (n := 3) (Nat.le_of_ble_eq_true rfl)
  rw [lg_entry_eq]
  generalize (lg_sl ([.ref h0, .int p0]) ++ List.replicate (3 - (lg_sl ([.ref h0, .int p0])).length) Slot.unset).toArray = ls at hl ⊢
  have hl : lv_has ls 3 [(0, .ref h0), (1, .int p0)] := hl
  refine lv_aload_n hx hb dX11_idealAt_0 rfl (lv_at hl 0 rfl) ?_
  refine lv_iload_n hx hb dX11_idealAt_1 rfl (lv_at hl 1 rfl) ?_
  have hF := pv_new hA hS.1
  refine va_callq (va_runV (As := [.int p0]) (rest := []) ⟨hx, hb, hml, hown, hts⟩ (c_X11_addedAt l hfl D _ h0 q p0) (cwV 1 hts (pv_gV w3_11 w3_13 wp1_12 w1_1 w3_14) rfl rfl rfl (by decide +kernel) ⟨Nat.le_of_ble_eq_true rfl, Nat.le_of_ble_eq_true rfl⟩) (pv_pV hE hS hF (hP.sub [0] rfl) (hK.sub [] rfl) (hD.sub [0] (by decide) rfl) (va_recv (ci := 0) (q0 := 0) hK hP rfl rfl)) rfl rfl hl.1 rfl (lv_room (Nat.le_of_ble_eq_true rfl)) dX11_idealAt_2 ⟨Nat.le_of_ble_eq_true rfl, Nat.le_of_ble_eq_true rfl⟩) hS (fun q _ h => hF q h) hF (fun r_0 u t H1 locs1 ht hvm hw hB hz1 hk1 hS => ?_)
  refine W.widen (k := 0) (n := 0) (Nat.le_of_ble_eq_true rfl) (Nat.le_of_ble_eq_true rfl) ?_
  have hP := pv_keep hP rfl hk1
  obtain rfl := hw
  refine lv_astore_nN (lv' := [(2, .null), (0, .ref h0), (1, .int p0)]) hx hb dX11_idealAt_5 rfl hl (by decide) rfl (fun ls hl => ?_)
  refine lv_aload_nN hx hb dX11_idealAt_6 rfl (lv_at hl 0 rfl) ?_
  refine lv_ifnonnullN hx hb dX11_idealAt_7 ?_
  obtain ⟨sa, hsa⟩ := hE.2.2.2.1 (492, "no such ideal") (by decide)
  exact pv_throwX (own := RX11) (cls := "java/util/NoSuchElementException") (sup := "java/lang/RuntimeException") (r := ["java/lang/Exception"]) hx hb hfl nse_x0 nse_x1 nse_x2 nse_x5 hown rfl (by decide) (hg w6_48 rfl) (hg w1_25 rfl) hsa (vx_hat (fun w h => hts w (pv_in (vx_at_301_g w h) (List.mem_filter.mp h).2)) vx_at_301_b (fun w h => va_Nw.use (pv_kind_on (List.mem_filter.mp h).2) (hE.2.2.1 w h))) vx_at_301_t hE.1 hE.2.1 hS (hl.1.trans hml.symm) dX11_idealAt_10 dX11_idealAt_13 dX11_idealAt_14 dX11_idealAt_17 dX11_idealAt_20 (fun x h9 => absurd (hnt x h9) id) (Nat.le_of_ble_eq_true rfl) (Nat.le_of_ble_eq_true rfl) (Nat.le_of_ble_eq_true rfl) (Nat.le_of_ble_eq_true rfl) hlocks (fun t h1 h2 h3 => ⟨(), trivial, rfl, Nat.le_trans hS.1 h2, fun q h4 h5 => (h3 q (Nat.lt_of_lt_of_le h4 hS.1)).trans (hS.2.1 q h4 h5)⟩) hS.2.2 (Nat.le_of_ble_eq_true rfl) (Nat.le_of_ble_eq_true rfl)

theorem dX11_subtract_0 : decode cX11_subtract 0 = .ok (.aload_n 0, 1) := by decide +kernel
theorem dX11_subtract_1 : decode cX11_subtract 1 = .ok (.iload_n 1, 1) := by decide +kernel
theorem dX11_subtract_2 : decode cX11_subtract 2 = .ok (.invokevirtual 103, 3) := by decide +kernel
set_option maxHeartbeats 4000000 in
set_option maxRecDepth 100000 in
/-- subtract on a fresh object: throws -/
theorem c_X11_subtract (l : Launch) (hfl : l.stackTraces = false) (D : va_G) (sz : Nat) (h0 : Nat) (q : Nat → Nat) (p0 p1 : Int32) : vx_Met l yX11_subtract (Cond.code yX11_subtract cX11_subtract 5 (some .int) :: pv_W) ({ frames := 8, cells := 1, slots := 6, locals := 122 } : Room) (va_Pc [.ref h0, .int p0, .int p1] (pv_P D [] [(h0, .inr (0, [.ref (q 0), .int 0, .int 108, .ref (q 1), .int 0, .ref (q 2), .int 0, .ref (q 3), .ref (q 4), .int 1, .ref (q 5), .ref (q 6), .ref (q 7), .ref (q 8), .ref (q 9)]))] (va_A [] sz) sz)) (fun _ _ _ _ => False) (vx_X (fun _ : Unit => True) (fun E _ _ => E = "java/lang/IndexOutOfBoundsException") (va_A [] sz)) 1 6 (va_A [] sz) := by
  refine vx_ofW (cc := cX11_subtract) (maxL := 5) (ret := (some .int)) (by decide) rfl ?_
  intro p e s m args below meth c s₁ B hml hnt hv
  obtain ⟨rfl, hsz, hE, hP, hK, hD0⟩ := hv
  have hx := B.exec
  have hb := B.bytes
  have hr := B.returns
  have hts := fun (w : Cond) (h : w ∈ pv_W) => atoms_spec (ws := Cond.code yX11_subtract cX11_subtract 5 (some .int) :: pv_W) B.pre w (List.mem_cons_of_mem _ h)
  have hg := fun {w : Cond} (h : w ∈ lw_tbl) (g : goodWord w = true) => hts w (pv_in h g)
  have hown : s.vm.findClass RX11 = some m.cls := findClass_of_methodNamed B.named
  have hlocks := B.notSynchronized
  subst hsz
  have hD := hD0
  generalize hAe : va_A [] s.heap.size = A at hE ⊢
  have hA : ∀ q : Nat, s.heap.size ≤ q → A q := fun q h => by rw [← hAe]; exact Or.inr h
  have hS : va_S A s.heap s.heap [] := va_S.rf
  have hP : va_P D pv_cl [(h0, .inr (0, [.ref (q 0), .int 0, .int 108, .ref (q 1), .int 0, .ref (q 2), .int 0, .ref (q 3), .ref (q 4), .int 1, .ref (q 5), .ref (q 6), .ref (q 7), .ref (q 8), .ref (q 9)]))] s.heap := hP
  have hl := lv_entry ([.ref h0, .int p0, .int p1]) (n := 5) (Nat.le_of_ble_eq_true rfl)
  rw [lg_entry_eq]
  generalize (lg_sl ([.ref h0, .int p0, .int p1]) ++ List.replicate (5 - (lg_sl ([.ref h0, .int p0, .int p1])).length) Slot.unset).toArray = ls at hl ⊢
  have hl : lv_has ls 5 [(0, .ref h0), (1, .int p0), (2, .int p1)] := hl
  refine lv_aload_n hx hb dX11_subtract_0 rfl (lv_at hl 0 rfl) ?_
  refine lv_iload_n hx hb dX11_subtract_1 rfl (lv_at hl 1 rfl) ?_
  have hF := pv_new hA hS.1
  refine pv_thrown (vx_runV (As := [.int p0]) (rest := []) ⟨hx, hb, hml, hown, hts⟩ (c_X11_polynomialAt l hfl D _ h0 q p0) (cwV 1 hts (pv_gV w5_112 w5_114 wp3_13 w1_1 w5_115) rfl rfl rfl (by decide +kernel) ⟨Nat.le_of_ble_eq_true rfl, Nat.le_of_ble_eq_true rfl⟩) (pv_pV hE hS hF (hP.sub [0] rfl) (hK.sub [] rfl) (hD.sub [0] (by decide) rfl) (va_recv (ci := 0) (q0 := 0) hK hP rfl rfl)) rfl rfl hl.1 rfl (lv_room (Nat.le_of_ble_eq_true rfl)) dX11_subtract_2 ⟨Nat.le_of_ble_eq_true rfl, Nat.le_of_ble_eq_true rfl⟩) (fun _ _ _ h => h) hS hF hF (fun E ce q9 u t H1 locs1 ht hvm hpx hbx hz1 hk1 hS hce hcv hcl => ?_)
  exact vx_out (fun x h9 => absurd (hnt x h9) id) hlocks hce hcv hcl (fun t ht hvm => ⟨(), trivial, hbx, hS.F ht⟩) hS.2.2 (Nat.le_of_ble_eq_true rfl) (Nat.le_of_ble_eq_true rfl)

theorem dX11_multiply_0 : decode cX11_multiply 0 = .ok (.aload_n 0, 1) := by decide +kernel
theorem dX11_multiply_1 : decode cX11_multiply 1 = .ok (.iload_n 1, 1) := by decide +kernel
theorem dX11_multiply_2 : decode cX11_multiply 2 = .ok (.invokevirtual 103, 3) := by decide +kernel
set_option maxHeartbeats 4000000 in
set_option maxRecDepth 100000 in
/-- multiply on a fresh object: throws -/
theorem c_X11_multiply (l : Launch) (hfl : l.stackTraces = false) (D : va_G) (sz : Nat) (h0 : Nat) (q : Nat → Nat) (p0 p1 : Int32) : vx_Met l yX11_multiply (Cond.code yX11_multiply cX11_multiply 5 (some .int) :: pv_W) ({ frames := 8, cells := 1, slots := 6, locals := 122 } : Room) (va_Pc [.ref h0, .int p0, .int p1] (pv_P D [] [(h0, .inr (0, [.ref (q 0), .int 0, .int 108, .ref (q 1), .int 0, .ref (q 2), .int 0, .ref (q 3), .ref (q 4), .int 1, .ref (q 5), .ref (q 6), .ref (q 7), .ref (q 8), .ref (q 9)]))] (va_A [] sz) sz)) (fun _ _ _ _ => False) (vx_X (fun _ : Unit => True) (fun E _ _ => E = "java/lang/IndexOutOfBoundsException") (va_A [] sz)) 1 6 (va_A [] sz) := by
  refine vx_ofW (cc := cX11_multiply) (maxL := 5) (ret := (some .int)) (by decide) rfl ?_
  intro p e s m args below meth c s₁ B hml hnt hv
  obtain ⟨rfl, hsz, hE, hP, hK, hD0⟩ := hv
  have hx := B.exec
  have hb := B.bytes
  have hr := B.returns
  have hts := fun (w : Cond) (h : w ∈ pv_W) => atoms_spec (ws := Cond.code yX11_multiply cX11_multiply 5 (some .int) :: pv_W) B.pre w (List.mem_cons_of_mem _ h)
  have hg := fun {w : Cond} (h : w ∈ lw_tbl) (g : goodWord w = true) => hts w (pv_in h g)
  have hown : s.vm.findClass RX11 = some m.cls := findClass_of_methodNamed B.named
  have hlocks := B.notSynchronized
  subst hsz
  have hD := hD0
  generalize hAe : va_A [] s.heap.size = A at hE ⊢
  have hA : ∀ q : Nat, s.heap.size ≤ q → A q := fun q h => by rw [← hAe]; exact Or.inr h
  have hS : va_S A s.heap s.heap [] := va_S.rf
  have hP : va_P D pv_cl [(h0, .inr (0, [.ref (q 0), .int 0, .int 108, .ref (q 1), .int 0, .ref (q 2), .int 0, .ref (q 3), .ref (q 4), .int 1, .ref (q 5), .ref (q 6), .ref (q 7), .ref (q 8), .ref (q 9)]))] s.heap := hP
  have hl := lv_entry ([.ref h0, .int p0, .int p1]) (n := 5) (Nat.le_of_ble_eq_true rfl)
  rw [lg_entry_eq]
  generalize (lg_sl ([.ref h0, .int p0, .int p1]) ++ List.replicate (5 - (lg_sl ([.ref h0, .int p0, .int p1])).length) Slot.unset).toArray = ls at hl ⊢
  have hl : lv_has ls 5 [(0, .ref h0), (1, .int p0), (2, .int p1)] := hl
  refine lv_aload_n hx hb dX11_multiply_0 rfl (lv_at hl 0 rfl) ?_
  refine lv_iload_n hx hb dX11_multiply_1 rfl (lv_at hl 1 rfl) ?_
  have hF := pv_new hA hS.1
  refine pv_thrown (vx_runV (As := [.int p0]) (rest := []) ⟨hx, hb, hml, hown, hts⟩ (c_X11_polynomialAt l hfl D _ h0 q p0) (cwV 1 hts (pv_gV w5_112 w5_114 wp3_13 w1_1 w5_115) rfl rfl rfl (by decide +kernel) ⟨Nat.le_of_ble_eq_true rfl, Nat.le_of_ble_eq_true rfl⟩) (pv_pV hE hS hF (hP.sub [0] rfl) (hK.sub [] rfl) (hD.sub [0] (by decide) rfl) (va_recv (ci := 0) (q0 := 0) hK hP rfl rfl)) rfl rfl hl.1 rfl (lv_room (Nat.le_of_ble_eq_true rfl)) dX11_multiply_2 ⟨Nat.le_of_ble_eq_true rfl, Nat.le_of_ble_eq_true rfl⟩) (fun _ _ _ h => h) hS hF hF (fun E ce q9 u t H1 locs1 ht hvm hpx hbx hz1 hk1 hS hce hcv hcl => ?_)
  exact vx_out (fun x h9 => absurd (hnt x h9) id) hlocks hce hcv hcl (fun t ht hvm => ⟨(), trivial, hbx, hS.F ht⟩) hS.2.2 (Nat.le_of_ble_eq_true rfl) (Nat.le_of_ble_eq_true rfl)

theorem dX11_power_0 : decode cX11_power 0 = .ok (.aload_n 0, 1) := by decide +kernel
theorem dX11_power_1 : decode cX11_power 1 = .ok (.iload_n 1, 1) := by decide +kernel
theorem dX11_power_2 : decode cX11_power 2 = .ok (.invokevirtual 103, 3) := by decide +kernel
set_option maxHeartbeats 4000000 in
set_option maxRecDepth 100000 in
/-- power on a fresh object: throws -/
theorem c_X11_power (l : Launch) (hfl : l.stackTraces = false) (D : va_G) (sz : Nat) (h0 : Nat) (q : Nat → Nat) (p0 p1 : Int32) : vx_Met l yX11_power (Cond.code yX11_power cX11_power 6 (some .int) :: pv_W) ({ frames := 8, cells := 1, slots := 6, locals := 122 } : Room) (va_Pc [.ref h0, .int p0, .int p1] (pv_P D [] [(h0, .inr (0, [.ref (q 0), .int 0, .int 108, .ref (q 1), .int 0, .ref (q 2), .int 0, .ref (q 3), .ref (q 4), .int 1, .ref (q 5), .ref (q 6), .ref (q 7), .ref (q 8), .ref (q 9)]))] (va_A [] sz) sz)) (fun _ _ _ _ => False) (vx_X (fun _ : Unit => True) (fun E _ _ => E = "java/lang/IndexOutOfBoundsException") (va_A [] sz)) 1 6 (va_A [] sz) := by
  refine vx_ofW (cc := cX11_power) (maxL := 6) (ret := (some .int)) (by decide) rfl ?_
  intro p e s m args below meth c s₁ B hml hnt hv
  obtain ⟨rfl, hsz, hE, hP, hK, hD0⟩ := hv
  have hx := B.exec
  have hb := B.bytes
  have hr := B.returns
  have hts := fun (w : Cond) (h : w ∈ pv_W) => atoms_spec (ws := Cond.code yX11_power cX11_power 6 (some .int) :: pv_W) B.pre w (List.mem_cons_of_mem _ h)
  have hg := fun {w : Cond} (h : w ∈ lw_tbl) (g : goodWord w = true) => hts w (pv_in h g)
  have hown : s.vm.findClass RX11 = some m.cls := findClass_of_methodNamed B.named
  have hlocks := B.notSynchronized
  subst hsz
  have hD := hD0
  generalize hAe : va_A [] s.heap.size = A at hE ⊢
  have hA : ∀ q : Nat, s.heap.size ≤ q → A q := fun q h => by rw [← hAe]; exact Or.inr h
  have hS : va_S A s.heap s.heap [] := va_S.rf
  have hP : va_P D pv_cl [(h0, .inr (0, [.ref (q 0), .int 0, .int 108, .ref (q 1), .int 0, .ref (q 2), .int 0, .ref (q 3), .ref (q 4), .int 1, .ref (q 5), .ref (q 6), .ref (q 7), .ref (q 8), .ref (q 9)]))] s.heap := hP
  have hl := lv_entry ([.ref h0, .int p0, .int p1]) (n := 6) (Nat.le_of_ble_eq_true rfl)
  rw [lg_entry_eq]
  generalize (lg_sl ([.ref h0, .int p0, .int p1]) ++ List.replicate (6 - (lg_sl ([.ref h0, .int p0, .int p1])).length) Slot.unset).toArray = ls at hl ⊢
  have hl : lv_has ls 6 [(0, .ref h0), (1, .int p0), (2, .int p1)] := hl
  refine lv_aload_n hx hb dX11_power_0 rfl (lv_at hl 0 rfl) ?_
  refine lv_iload_n hx hb dX11_power_1 rfl (lv_at hl 1 rfl) ?_
  have hF := pv_new hA hS.1
  refine pv_thrown (vx_runV (As := [.int p0]) (rest := []) ⟨hx, hb, hml, hown, hts⟩ (c_X11_polynomialAt l hfl D _ h0 q p0) (cwV 1 hts (pv_gV w5_112 w5_114 wp3_13 w1_1 w5_115) rfl rfl rfl (by decide +kernel) ⟨Nat.le_of_ble_eq_true rfl, Nat.le_of_ble_eq_true rfl⟩) (pv_pV hE hS hF (hP.sub [0] rfl) (hK.sub [] rfl) (hD.sub [0] (by decide) rfl) (va_recv (ci := 0) (q0 := 0) hK hP rfl rfl)) rfl rfl hl.1 rfl (lv_room (Nat.le_of_ble_eq_true rfl)) dX11_power_2 ⟨Nat.le_of_ble_eq_true rfl, Nat.le_of_ble_eq_true rfl⟩) (fun _ _ _ h => h) hS hF hF (fun E ce q9 u t H1 locs1 ht hvm hpx hbx hz1 hk1 hS hce hcv hcl => ?_)
  exact vx_out (fun x h9 => absurd (hnt x h9) id) hlocks hce hcv hcl (fun t ht hvm => ⟨(), trivial, hbx, hS.F ht⟩) hS.2.2 (Nat.le_of_ble_eq_true rfl) (Nat.le_of_ble_eq_true rfl)

theorem dX11_ground_0 : decode cX11_ground 0 = .ok (.aload_n 0, 1) := by decide +kernel
theorem dX11_ground_1 : decode cX11_ground 1 = .ok (.iload_n 1, 1) := by decide +kernel
theorem dX11_ground_2 : decode cX11_ground 2 = .ok (.invokevirtual 103, 3) := by decide +kernel
set_option maxHeartbeats 4000000 in
set_option maxRecDepth 100000 in
/-- ground on a fresh object: throws -/
theorem c_X11_ground (l : Launch) (hfl : l.stackTraces = false) (D : va_G) (sz : Nat) (h0 : Nat) (q : Nat → Nat) (p0 : Int32) : vx_Met l yX11_ground (Cond.code yX11_ground cX11_ground 2 (some .int) :: pv_W) ({ frames := 8, cells := 1, slots := 6, locals := 122 } : Room) (va_Pc [.ref h0, .int p0] (pv_P D [] [(h0, .inr (0, [.ref (q 0), .int 0, .int 108, .ref (q 1), .int 0, .ref (q 2), .int 0, .ref (q 3), .ref (q 4), .int 1, .ref (q 5), .ref (q 6), .ref (q 7), .ref (q 8), .ref (q 9)]))] (va_A [] sz) sz)) (fun _ _ _ _ => False) (vx_X (fun _ : Unit => True) (fun E _ _ => E = "java/lang/IndexOutOfBoundsException") (va_A [] sz)) 1 6 (va_A [] sz) := by
  refine vx_ofW (cc := cX11_ground) (maxL := 2) (ret := (some .int)) (by decide) rfl ?_
  intro p e s m args below meth c s₁ B hml hnt hv
  obtain ⟨rfl, hsz, hE, hP, hK, hD0⟩ := hv
  have hx := B.exec
  have hb := B.bytes
  have hr := B.returns
  have hts := fun (w : Cond) (h : w ∈ pv_W) => atoms_spec (ws := Cond.code yX11_ground cX11_ground 2 (some .int) :: pv_W) B.pre w (List.mem_cons_of_mem _ h)
  have hg := fun {w : Cond} (h : w ∈ lw_tbl) (g : goodWord w = true) => hts w (pv_in h g)
  have hown : s.vm.findClass RX11 = some m.cls := findClass_of_methodNamed B.named
  have hlocks := B.notSynchronized
  subst hsz
  have hD := hD0
  generalize hAe : va_A [] s.heap.size = A at hE ⊢
  have hA : ∀ q : Nat, s.heap.size ≤ q → A q := fun q h => by rw [← hAe]; exact Or.inr h
  have hS : va_S A s.heap s.heap [] := va_S.rf
  have hP : va_P D pv_cl [(h0, .inr (0, [.ref (q 0), .int 0, .int 108, .ref (q 1), .int 0, .ref (q 2), .int 0, .ref (q 3), .ref (q 4), .int 1, .ref (q 5), .ref (q 6), .ref (q 7), .ref (q 8), .ref (q 9)]))] s.heap := hP
  have hl := lv_entry ([.ref h0, .int p0]) (n := 2) (Nat.le_of_ble_eq_true rfl)
  rw [lg_entry_eq]
  generalize (lg_sl ([.ref h0, .int p0]) ++ List.replicate (2 - (lg_sl ([.ref h0, .int p0])).length) Slot.unset).toArray = ls at hl ⊢
  have hl : lv_has ls 2 [(0, .ref h0), (1, .int p0)] := hl
  refine lv_aload_n hx hb dX11_ground_0 rfl (lv_at hl 0 rfl) ?_
  refine lv_iload_n hx hb dX11_ground_1 rfl (lv_at hl 1 rfl) ?_
  have hF := pv_new hA hS.1
  refine pv_thrown (vx_runV (As := [.int p0]) (rest := []) ⟨hx, hb, hml, hown, hts⟩ (c_X11_polynomialAt l hfl D _ h0 q p0) (cwV 1 hts (pv_gV w5_112 w5_114 wp3_13 w1_1 w5_115) rfl rfl rfl (by decide +kernel) ⟨Nat.le_of_ble_eq_true rfl, Nat.le_of_ble_eq_true rfl⟩) (pv_pV hE hS hF (hP.sub [0] rfl) (hK.sub [] rfl) (hD.sub [0] (by decide) rfl) (va_recv (ci := 0) (q0 := 0) hK hP rfl rfl)) rfl rfl hl.1 rfl (lv_room (Nat.le_of_ble_eq_true rfl)) dX11_ground_2 ⟨Nat.le_of_ble_eq_true rfl, Nat.le_of_ble_eq_true rfl⟩) (fun _ _ _ h => h) hS hF hF (fun E ce q9 u t H1 locs1 ht hvm hpx hbx hz1 hk1 hS hce hcv hcl => ?_)
  exact vx_out (fun x h9 => absurd (hnt x h9) id) hlocks hce hcv hcl (fun t ht hvm => ⟨(), trivial, hbx, hS.F ht⟩) hS.2.2 (Nat.le_of_ble_eq_true rfl) (Nat.le_of_ble_eq_true rfl)

theorem dX11_terms_0 : decode cX11_terms 0 = .ok (.aload_n 0, 1) := by decide +kernel
theorem dX11_terms_1 : decode cX11_terms 1 = .ok (.iload_n 1, 1) := by decide +kernel
theorem dX11_terms_2 : decode cX11_terms 2 = .ok (.invokevirtual 103, 3) := by decide +kernel
set_option maxHeartbeats 4000000 in
set_option maxRecDepth 100000 in
/-- terms on a fresh object: throws -/
theorem c_X11_terms (l : Launch) (hfl : l.stackTraces = false) (D : va_G) (sz : Nat) (h0 : Nat) (q : Nat → Nat) (p0 : Int32) : vx_Met l yX11_terms (Cond.code yX11_terms cX11_terms 2 (some .int) :: pv_W) ({ frames := 8, cells := 1, slots := 6, locals := 122 } : Room) (va_Pc [.ref h0, .int p0] (pv_P D [] [(h0, .inr (0, [.ref (q 0), .int 0, .int 108, .ref (q 1), .int 0, .ref (q 2), .int 0, .ref (q 3), .ref (q 4), .int 1, .ref (q 5), .ref (q 6), .ref (q 7), .ref (q 8), .ref (q 9)]))] (va_A [] sz) sz)) (fun _ _ _ _ => False) (vx_X (fun _ : Unit => True) (fun E _ _ => E = "java/lang/IndexOutOfBoundsException") (va_A [] sz)) 1 6 (va_A [] sz) := by
  refine vx_ofW (cc := cX11_terms) (maxL := 2) (ret := (some .int)) (by decide) rfl ?_
  intro p e s m args below meth c s₁ B hml hnt hv
  obtain ⟨rfl, hsz, hE, hP, hK, hD0⟩ := hv
  have hx := B.exec
  have hb := B.bytes
  have hr := B.returns
  have hts := fun (w : Cond) (h : w ∈ pv_W) => atoms_spec (ws := Cond.code yX11_terms cX11_terms 2 (some .int) :: pv_W) B.pre w (List.mem_cons_of_mem _ h)
  have hg := fun {w : Cond} (h : w ∈ lw_tbl) (g : goodWord w = true) => hts w (pv_in h g)
  have hown : s.vm.findClass RX11 = some m.cls := findClass_of_methodNamed B.named
  have hlocks := B.notSynchronized
  subst hsz
  have hD := hD0
  generalize hAe : va_A [] s.heap.size = A at hE ⊢
  have hA : ∀ q : Nat, s.heap.size ≤ q → A q := fun q h => by rw [← hAe]; exact Or.inr h
  have hS : va_S A s.heap s.heap [] := va_S.rf
  have hP : va_P D pv_cl [(h0, .inr (0, [.ref (q 0), .int 0, .int 108, .ref (q 1), .int 0, .ref (q 2), .int 0, .ref (q 3), .ref (q 4), .int 1, .ref (q 5), .ref (q 6), .ref (q 7), .ref (q 8), .ref (q 9)]))] s.heap := hP
  have hl := lv_entry ([.ref h0, .int p0]) (n := 2) (Nat.le_of_ble_eq_true rfl)
  rw [lg_entry_eq]
  generalize (lg_sl ([.ref h0, .int p0]) ++ List.replicate (2 - (lg_sl ([.ref h0, .int p0])).length) Slot.unset).toArray = ls at hl ⊢
  have hl : lv_has ls 2 [(0, .ref h0), (1, .int p0)] := hl
  refine lv_aload_n hx hb dX11_terms_0 rfl (lv_at hl 0 rfl) ?_
  refine lv_iload_n hx hb dX11_terms_1 rfl (lv_at hl 1 rfl) ?_
  have hF := pv_new hA hS.1
  refine pv_thrown (vx_runV (As := [.int p0]) (rest := []) ⟨hx, hb, hml, hown, hts⟩ (c_X11_polynomialAt l hfl D _ h0 q p0) (cwV 1 hts (pv_gV w5_112 w5_114 wp3_13 w1_1 w5_115) rfl rfl rfl (by decide +kernel) ⟨Nat.le_of_ble_eq_true rfl, Nat.le_of_ble_eq_true rfl⟩) (pv_pV hE hS hF (hP.sub [0] rfl) (hK.sub [] rfl) (hD.sub [0] (by decide) rfl) (va_recv (ci := 0) (q0 := 0) hK hP rfl rfl)) rfl rfl hl.1 rfl (lv_room (Nat.le_of_ble_eq_true rfl)) dX11_terms_2 ⟨Nat.le_of_ble_eq_true rfl, Nat.le_of_ble_eq_true rfl⟩) (fun _ _ _ h => h) hS hF hF (fun E ce q9 u t H1 locs1 ht hvm hpx hbx hz1 hk1 hS hce hcv hcl => ?_)
  exact vx_out (fun x h9 => absurd (hnt x h9) id) hlocks hce hcv hcl (fun t ht hvm => ⟨(), trivial, hbx, hS.F ht⟩) hS.2.2 (Nat.le_of_ble_eq_true rfl) (Nat.le_of_ble_eq_true rfl)

theorem dX11_degree_0 : decode cX11_degree 0 = .ok (.aload_n 0, 1) := by decide +kernel
theorem dX11_degree_1 : decode cX11_degree 1 = .ok (.iload_n 1, 1) := by decide +kernel
theorem dX11_degree_2 : decode cX11_degree 2 = .ok (.invokevirtual 103, 3) := by decide +kernel
set_option maxHeartbeats 4000000 in
set_option maxRecDepth 100000 in
/-- degree on a fresh object: throws -/
theorem c_X11_degree (l : Launch) (hfl : l.stackTraces = false) (D : va_G) (sz : Nat) (h0 : Nat) (q : Nat → Nat) (p0 : Int32) : vx_Met l yX11_degree (Cond.code yX11_degree cX11_degree 2 (some .int) :: pv_W) ({ frames := 8, cells := 1, slots := 6, locals := 122 } : Room) (va_Pc [.ref h0, .int p0] (pv_P D [] [(h0, .inr (0, [.ref (q 0), .int 0, .int 108, .ref (q 1), .int 0, .ref (q 2), .int 0, .ref (q 3), .ref (q 4), .int 1, .ref (q 5), .ref (q 6), .ref (q 7), .ref (q 8), .ref (q 9)]))] (va_A [] sz) sz)) (fun _ _ _ _ => False) (vx_X (fun _ : Unit => True) (fun E _ _ => E = "java/lang/IndexOutOfBoundsException") (va_A [] sz)) 1 6 (va_A [] sz) := by
  refine vx_ofW (cc := cX11_degree) (maxL := 2) (ret := (some .int)) (by decide) rfl ?_
  intro p e s m args below meth c s₁ B hml hnt hv
  obtain ⟨rfl, hsz, hE, hP, hK, hD0⟩ := hv
  have hx := B.exec
  have hb := B.bytes
  have hr := B.returns
  have hts := fun (w : Cond) (h : w ∈ pv_W) => atoms_spec (ws := Cond.code yX11_degree cX11_degree 2 (some .int) :: pv_W) B.pre w (List.mem_cons_of_mem _ h)
  have hg := fun {w : Cond} (h : w ∈ lw_tbl) (g : goodWord w = true) => hts w (pv_in h g)
  have hown : s.vm.findClass RX11 = some m.cls := findClass_of_methodNamed B.named
  have hlocks := B.notSynchronized
  subst hsz
  have hD := hD0
  generalize hAe : va_A [] s.heap.size = A at hE ⊢
  have hA : ∀ q : Nat, s.heap.size ≤ q → A q := fun q h => by rw [← hAe]; exact Or.inr h
  have hS : va_S A s.heap s.heap [] := va_S.rf
  have hP : va_P D pv_cl [(h0, .inr (0, [.ref (q 0), .int 0, .int 108, .ref (q 1), .int 0, .ref (q 2), .int 0, .ref (q 3), .ref (q 4), .int 1, .ref (q 5), .ref (q 6), .ref (q 7), .ref (q 8), .ref (q 9)]))] s.heap := hP
  have hl := lv_entry ([.ref h0, .int p0]) (n := 2) (Nat.le_of_ble_eq_true rfl)
  rw [lg_entry_eq]
  generalize (lg_sl ([.ref h0, .int p0]) ++ List.replicate (2 - (lg_sl ([.ref h0, .int p0])).length) Slot.unset).toArray = ls at hl ⊢
  have hl : lv_has ls 2 [(0, .ref h0), (1, .int p0)] := hl
  refine lv_aload_n hx hb dX11_degree_0 rfl (lv_at hl 0 rfl) ?_
  refine lv_iload_n hx hb dX11_degree_1 rfl (lv_at hl 1 rfl) ?_
  have hF := pv_new hA hS.1
  refine pv_thrown (vx_runV (As := [.int p0]) (rest := []) ⟨hx, hb, hml, hown, hts⟩ (c_X11_polynomialAt l hfl D _ h0 q p0) (cwV 1 hts (pv_gV w5_112 w5_114 wp3_13 w1_1 w5_115) rfl rfl rfl (by decide +kernel) ⟨Nat.le_of_ble_eq_true rfl, Nat.le_of_ble_eq_true rfl⟩) (pv_pV hE hS hF (hP.sub [0] rfl) (hK.sub [] rfl) (hD.sub [0] (by decide) rfl) (va_recv (ci := 0) (q0 := 0) hK hP rfl rfl)) rfl rfl hl.1 rfl (lv_room (Nat.le_of_ble_eq_true rfl)) dX11_degree_2 ⟨Nat.le_of_ble_eq_true rfl, Nat.le_of_ble_eq_true rfl⟩) (fun _ _ _ h => h) hS hF hF (fun E ce q9 u t H1 locs1 ht hvm hpx hbx hz1 hk1 hS hce hcv hcl => ?_)
  exact vx_out (fun x h9 => absurd (hnt x h9) id) hlocks hce hcv hcl (fun t ht hvm => ⟨(), trivial, hbx, hS.F ht⟩) hS.2.2 (Nat.le_of_ble_eq_true rfl) (Nat.le_of_ble_eq_true rfl)

theorem dX11_degreeIn_0 : decode cX11_degreeIn 0 = .ok (.aload_n 0, 1) := by decide +kernel
theorem dX11_degreeIn_1 : decode cX11_degreeIn 1 = .ok (.iload_n 1, 1) := by decide +kernel
theorem dX11_degreeIn_2 : decode cX11_degreeIn 2 = .ok (.invokevirtual 103, 3) := by decide +kernel
set_option maxHeartbeats 4000000 in
set_option maxRecDepth 100000 in
/-- degreeIn on a fresh object: throws -/
theorem c_X11_degreeIn (l : Launch) (hfl : l.stackTraces = false) (D : va_G) (sz : Nat) (h0 : Nat) (q : Nat → Nat) (p0 p1 : Int32) : vx_Met l yX11_degreeIn (Cond.code yX11_degreeIn cX11_degreeIn 4 (some .int) :: pv_W) ({ frames := 8, cells := 1, slots := 6, locals := 122 } : Room) (va_Pc [.ref h0, .int p0, .int p1] (pv_P D [] [(h0, .inr (0, [.ref (q 0), .int 0, .int 108, .ref (q 1), .int 0, .ref (q 2), .int 0, .ref (q 3), .ref (q 4), .int 1, .ref (q 5), .ref (q 6), .ref (q 7), .ref (q 8), .ref (q 9)]))] (va_A [] sz) sz)) (fun _ _ _ _ => False) (vx_X (fun _ : Unit => True) (fun E _ _ => E = "java/lang/IndexOutOfBoundsException") (va_A [] sz)) 1 6 (va_A [] sz) := by
  refine vx_ofW (cc := cX11_degreeIn) (maxL := 4) (ret := (some .int)) (by decide) rfl ?_
  intro p e s m args below meth c s₁ B hml hnt hv
  obtain ⟨rfl, hsz, hE, hP, hK, hD0⟩ := hv
  have hx := B.exec
  have hb := B.bytes
  have hr := B.returns
  have hts := fun (w : Cond) (h : w ∈ pv_W) => atoms_spec (ws := Cond.code yX11_degreeIn cX11_degreeIn 4 (some .int) :: pv_W) B.pre w (List.mem_cons_of_mem _ h)
  have hg := fun {w : Cond} (h : w ∈ lw_tbl) (g : goodWord w = true) => hts w (pv_in h g)
  have hown : s.vm.findClass RX11 = some m.cls := findClass_of_methodNamed B.named
  have hlocks := B.notSynchronized
  subst hsz
  have hD := hD0
  generalize hAe : va_A [] s.heap.size = A at hE ⊢
  have hA : ∀ q : Nat, s.heap.size ≤ q → A q := fun q h => by rw [← hAe]; exact Or.inr h
  have hS : va_S A s.heap s.heap [] := va_S.rf
  have hP : va_P D pv_cl [(h0, .inr (0, [.ref (q 0), .int 0, .int 108, .ref (q 1), .int 0, .ref (q 2), .int 0, .ref (q 3), .ref (q 4), .int 1, .ref (q 5), .ref (q 6), .ref (q 7), .ref (q 8), .ref (q 9)]))] s.heap := hP
  have hl := lv_entry ([.ref h0, .int p0, .int p1]) (n := 4) (Nat.le_of_ble_eq_true rfl)
  rw [lg_entry_eq]
  generalize (lg_sl ([.ref h0, .int p0, .int p1]) ++ List.replicate (4 - (lg_sl ([.ref h0, .int p0, .int p1])).length) Slot.unset).toArray = ls at hl ⊢
  have hl : lv_has ls 4 [(0, .ref h0), (1, .int p0), (2, .int p1)] := hl
  refine lv_aload_n hx hb dX11_degreeIn_0 rfl (lv_at hl 0 rfl) ?_
  refine lv_iload_n hx hb dX11_degreeIn_1 rfl (lv_at hl 1 rfl) ?_
  have hF := pv_new hA hS.1
  refine pv_thrown (vx_runV (As := [.int p0]) (rest := []) ⟨hx, hb, hml, hown, hts⟩ (c_X11_polynomialAt l hfl D _ h0 q p0) (cwV 1 hts (pv_gV w5_112 w5_114 wp3_13 w1_1 w5_115) rfl rfl rfl (by decide +kernel) ⟨Nat.le_of_ble_eq_true rfl, Nat.le_of_ble_eq_true rfl⟩) (pv_pV hE hS hF (hP.sub [0] rfl) (hK.sub [] rfl) (hD.sub [0] (by decide) rfl) (va_recv (ci := 0) (q0 := 0) hK hP rfl rfl)) rfl rfl hl.1 rfl (lv_room (Nat.le_of_ble_eq_true rfl)) dX11_degreeIn_2 ⟨Nat.le_of_ble_eq_true rfl, Nat.le_of_ble_eq_true rfl⟩) (fun _ _ _ h => h) hS hF hF (fun E ce q9 u t H1 locs1 ht hvm hpx hbx hz1 hk1 hS hce hcv hcl => ?_)
  exact vx_out (fun x h9 => absurd (hnt x h9) id) hlocks hce hcv hcl (fun t ht hvm => ⟨(), trivial, hbx, hS.F ht⟩) hS.2.2 (Nat.le_of_ble_eq_true rfl) (Nat.le_of_ble_eq_true rfl)

theorem dX11_coefficientAt_0 : decode cX11_coefficientAt 0 = .ok (.aload_n 0, 1) := by decide +kernel
theorem dX11_coefficientAt_1 : decode cX11_coefficientAt 1 = .ok (.iload_n 1, 1) := by decide +kernel
theorem dX11_coefficientAt_2 : decode cX11_coefficientAt 2 = .ok (.invokevirtual 103, 3) := by decide +kernel
set_option maxHeartbeats 4000000 in
set_option maxRecDepth 100000 in
/-- coefficientAt on a fresh object: throws -/
theorem c_X11_coefficientAt (l : Launch) (hfl : l.stackTraces = false) (D : va_G) (sz : Nat) (h0 : Nat) (q : Nat → Nat) (p0 p1 : Int32) : vx_Met l yX11_coefficientAt (Cond.code yX11_coefficientAt cX11_coefficientAt 4 (some .long) :: pv_W) ({ frames := 8, cells := 1, slots := 6, locals := 122 } : Room) (va_Pc [.ref h0, .int p0, .int p1] (pv_P D [] [(h0, .inr (0, [.ref (q 0), .int 0, .int 108, .ref (q 1), .int 0, .ref (q 2), .int 0, .ref (q 3), .ref (q 4), .int 1, .ref (q 5), .ref (q 6), .ref (q 7), .ref (q 8), .ref (q 9)]))] (va_A [] sz) sz)) (fun _ _ _ _ => False) (vx_X (fun _ : Unit => True) (fun E _ _ => E = "java/lang/IndexOutOfBoundsException") (va_A [] sz)) 1 6 (va_A [] sz) := by
  refine vx_ofW (cc := cX11_coefficientAt) (maxL := 4) (ret := (some .long)) (by decide) rfl ?_
  intro p e s m args below meth c s₁ B hml hnt hv
  obtain ⟨rfl, hsz, hE, hP, hK, hD0⟩ := hv
  have hx := B.exec
  have hb := B.bytes
  have hr := B.returns
  have hts := fun (w : Cond) (h : w ∈ pv_W) => atoms_spec (ws := Cond.code yX11_coefficientAt cX11_coefficientAt 4 (some .long) :: pv_W) B.pre w (List.mem_cons_of_mem _ h)
  have hg := fun {w : Cond} (h : w ∈ lw_tbl) (g : goodWord w = true) => hts w (pv_in h g)
  have hown : s.vm.findClass RX11 = some m.cls := findClass_of_methodNamed B.named
  have hlocks := B.notSynchronized
  subst hsz
  have hD := hD0
  generalize hAe : va_A [] s.heap.size = A at hE ⊢
  have hA : ∀ q : Nat, s.heap.size ≤ q → A q := fun q h => by rw [← hAe]; exact Or.inr h
  have hS : va_S A s.heap s.heap [] := va_S.rf
  have hP : va_P D pv_cl [(h0, .inr (0, [.ref (q 0), .int 0, .int 108, .ref (q 1), .int 0, .ref (q 2), .int 0, .ref (q 3), .ref (q 4), .int 1, .ref (q 5), .ref (q 6), .ref (q 7), .ref (q 8), .ref (q 9)]))] s.heap := hP
  have hl := lv_entry ([.ref h0, .int p0, .int p1]) (n := 4) (Nat.le_of_ble_eq_true rfl)
  rw [lg_entry_eq]
  generalize (lg_sl ([.ref h0, .int p0, .int p1]) ++ List.replicate (4 - (lg_sl ([.ref h0, .int p0, .int p1])).length) Slot.unset).toArray = ls at hl ⊢
  have hl : lv_has ls 4 [(0, .ref h0), (1, .int p0), (2, .int p1)] := hl
  refine lv_aload_n hx hb dX11_coefficientAt_0 rfl (lv_at hl 0 rfl) ?_
  refine lv_iload_n hx hb dX11_coefficientAt_1 rfl (lv_at hl 1 rfl) ?_
  have hF := pv_new hA hS.1
  refine pv_thrown (vx_runV (As := [.int p0]) (rest := []) ⟨hx, hb, hml, hown, hts⟩ (c_X11_polynomialAt l hfl D _ h0 q p0) (cwV 1 hts (pv_gV w5_112 w5_114 wp3_13 w1_1 w5_115) rfl rfl rfl (by decide +kernel) ⟨Nat.le_of_ble_eq_true rfl, Nat.le_of_ble_eq_true rfl⟩) (pv_pV hE hS hF (hP.sub [0] rfl) (hK.sub [] rfl) (hD.sub [0] (by decide) rfl) (va_recv (ci := 0) (q0 := 0) hK hP rfl rfl)) rfl rfl hl.1 rfl (lv_room (Nat.le_of_ble_eq_true rfl)) dX11_coefficientAt_2 ⟨Nat.le_of_ble_eq_true rfl, Nat.le_of_ble_eq_true rfl⟩) (fun _ _ _ h => h) hS hF hF (fun E ce q9 u t H1 locs1 ht hvm hpx hbx hz1 hk1 hS hce hcv hcl => ?_)
  exact vx_out (fun x h9 => absurd (hnt x h9) id) hlocks hce hcv hcl (fun t ht hvm => ⟨(), trivial, hbx, hS.F ht⟩) hS.2.2 (Nat.le_of_ble_eq_true rfl) (Nat.le_of_ble_eq_true rfl)

theorem dX11_exponentAt_0 : decode cX11_exponentAt 0 = .ok (.aload_n 0, 1) := by decide +kernel
theorem dX11_exponentAt_1 : decode cX11_exponentAt 1 = .ok (.iload_n 1, 1) := by decide +kernel
theorem dX11_exponentAt_2 : decode cX11_exponentAt 2 = .ok (.invokevirtual 103, 3) := by decide +kernel
set_option maxHeartbeats 4000000 in
set_option maxRecDepth 100000 in
/-- exponentAt on a fresh object: throws -/
theorem c_X11_exponentAt (l : Launch) (hfl : l.stackTraces = false) (D : va_G) (sz : Nat) (h0 : Nat) (q : Nat → Nat) (p0 p1 p2 : Int32) : vx_Met l yX11_exponentAt (Cond.code yX11_exponentAt cX11_exponentAt 5 (some .int) :: pv_W) ({ frames := 8, cells := 1, slots := 6, locals := 122 } : Room) (va_Pc [.ref h0, .int p0, .int p1, .int p2] (pv_P D [] [(h0, .inr (0, [.ref (q 0), .int 0, .int 108, .ref (q 1), .int 0, .ref (q 2), .int 0, .ref (q 3), .ref (q 4), .int 1, .ref (q 5), .ref (q 6), .ref (q 7), .ref (q 8), .ref (q 9)]))] (va_A [] sz) sz)) (fun _ _ _ _ => False) (vx_X (fun _ : Unit => True) (fun E _ _ => E = "java/lang/IndexOutOfBoundsException") (va_A [] sz)) 1 6 (va_A [] sz) := by
  refine vx_ofW (cc := cX11_exponentAt) (maxL := 5) (ret := (some .int)) (by decide) rfl ?_
  intro p e s m args below meth c s₁ B hml hnt hv
  obtain ⟨rfl, hsz, hE, hP, hK, hD0⟩ := hv
  have hx := B.exec
  have hb := B.bytes
  have hr := B.returns
  have hts := fun (w : Cond) (h : w ∈ pv_W) => atoms_spec (ws := Cond.code yX11_exponentAt cX11_exponentAt 5 (some .int) :: pv_W) B.pre w (List.mem_cons_of_mem _ h)
  have hg := fun {w : Cond} (h : w ∈ lw_tbl) (g : goodWord w = true) => hts w (pv_in h g)
  have hown : s.vm.findClass RX11 = some m.cls := findClass_of_methodNamed B.named
  have hlocks := B.notSynchronized
  subst hsz
  have hD := hD0
  generalize hAe : va_A [] s.heap.size = A at hE ⊢
  have hA : ∀ q : Nat, s.heap.size ≤ q → A q := fun q h => by rw [← hAe]; exact Or.inr h
  have hS : va_S A s.heap s.heap [] := va_S.rf
  have hP : va_P D pv_cl [(h0, .inr (0, [.ref (q 0), .int 0, .int 108, .ref (q 1), .int 0, .ref (q 2), .int 0, .ref (q 3), .ref (q 4), .int 1, .ref (q 5), .ref (q 6), .ref (q 7), .ref (q 8), .ref (q 9)]))] s.heap := hP
  have hl := lv_entry ([.ref h0, .int p0, .int p1, .int p2]) (n := 5) (Nat.le_of_ble_eq_true rfl)
  rw [lg_entry_eq]
  generalize (lg_sl ([.ref h0, .int p0, .int p1, .int p2]) ++ List.replicate (5 - (lg_sl ([.ref h0, .int p0, .int p1, .int p2])).length) Slot.unset).toArray = ls at hl ⊢
  have hl : lv_has ls 5 [(0, .ref h0), (1, .int p0), (2, .int p1), (3, .int p2)] := hl
  refine lv_aload_n hx hb dX11_exponentAt_0 rfl (lv_at hl 0 rfl) ?_
  refine lv_iload_n hx hb dX11_exponentAt_1 rfl (lv_at hl 1 rfl) ?_
  have hF := pv_new hA hS.1
  refine pv_thrown (vx_runV (As := [.int p0]) (rest := []) ⟨hx, hb, hml, hown, hts⟩ (c_X11_polynomialAt l hfl D _ h0 q p0) (cwV 1 hts (pv_gV w5_112 w5_114 wp3_13 w1_1 w5_115) rfl rfl rfl (by decide +kernel) ⟨Nat.le_of_ble_eq_true rfl, Nat.le_of_ble_eq_true rfl⟩) (pv_pV hE hS hF (hP.sub [0] rfl) (hK.sub [] rfl) (hD.sub [0] (by decide) rfl) (va_recv (ci := 0) (q0 := 0) hK hP rfl rfl)) rfl rfl hl.1 rfl (lv_room (Nat.le_of_ble_eq_true rfl)) dX11_exponentAt_2 ⟨Nat.le_of_ble_eq_true rfl, Nat.le_of_ble_eq_true rfl⟩) (fun _ _ _ h => h) hS hF hF (fun E ce q9 u t H1 locs1 ht hvm hpx hbx hz1 hk1 hS hce hcv hcl => ?_)
  exact vx_out (fun x h9 => absurd (hnt x h9) id) hlocks hce hcv hcl (fun t ht hvm => ⟨(), trivial, hbx, hS.F ht⟩) hS.2.2 (Nat.le_of_ble_eq_true rfl) (Nat.le_of_ble_eq_true rfl)

theorem dX11_derive_0 : decode cX11_derive 0 = .ok (.aload_n 0, 1) := by decide +kernel
theorem dX11_derive_1 : decode cX11_derive 1 = .ok (.iload_n 1, 1) := by decide +kernel
theorem dX11_derive_2 : decode cX11_derive 2 = .ok (.invokevirtual 103, 3) := by decide +kernel
set_option maxHeartbeats 4000000 in
set_option maxRecDepth 100000 in
/-- derive on a fresh object: throws -/
theorem c_X11_derive (l : Launch) (hfl : l.stackTraces = false) (D : va_G) (sz : Nat) (h0 : Nat) (q : Nat → Nat) (p0 p1 : Int32) : vx_Met l yX11_derive (Cond.code yX11_derive cX11_derive 7 (some .int) :: pv_W) ({ frames := 8, cells := 1, slots := 6, locals := 122 } : Room) (va_Pc [.ref h0, .int p0, .int p1] (pv_P D [] [(h0, .inr (0, [.ref (q 0), .int 0, .int 108, .ref (q 1), .int 0, .ref (q 2), .int 0, .ref (q 3), .ref (q 4), .int 1, .ref (q 5), .ref (q 6), .ref (q 7), .ref (q 8), .ref (q 9)]))] (va_A [] sz) sz)) (fun _ _ _ _ => False) (vx_X (fun _ : Unit => True) (fun E _ _ => E = "java/lang/IndexOutOfBoundsException") (va_A [] sz)) 1 6 (va_A [] sz) := by
  refine vx_ofW (cc := cX11_derive) (maxL := 7) (ret := (some .int)) (by decide) rfl ?_
  intro p e s m args below meth c s₁ B hml hnt hv
  obtain ⟨rfl, hsz, hE, hP, hK, hD0⟩ := hv
  have hx := B.exec
  have hb := B.bytes
  have hr := B.returns
  have hts := fun (w : Cond) (h : w ∈ pv_W) => atoms_spec (ws := Cond.code yX11_derive cX11_derive 7 (some .int) :: pv_W) B.pre w (List.mem_cons_of_mem _ h)
  have hg := fun {w : Cond} (h : w ∈ lw_tbl) (g : goodWord w = true) => hts w (pv_in h g)
  have hown : s.vm.findClass RX11 = some m.cls := findClass_of_methodNamed B.named
  have hlocks := B.notSynchronized
  subst hsz
  have hD := hD0
  generalize hAe : va_A [] s.heap.size = A at hE ⊢
  have hA : ∀ q : Nat, s.heap.size ≤ q → A q := fun q h => by rw [← hAe]; exact Or.inr h
  have hS : va_S A s.heap s.heap [] := va_S.rf
  have hP : va_P D pv_cl [(h0, .inr (0, [.ref (q 0), .int 0, .int 108, .ref (q 1), .int 0, .ref (q 2), .int 0, .ref (q 3), .ref (q 4), .int 1, .ref (q 5), .ref (q 6), .ref (q 7), .ref (q 8), .ref (q 9)]))] s.heap := hP
  have hl := lv_entry ([.ref h0, .int p0, .int p1]) (n := 7) (Nat.le_of_ble_eq_true rfl)
  rw [lg_entry_eq]
  generalize (lg_sl ([.ref h0, .int p0, .int p1]) ++ List.replicate (7 - (lg_sl ([.ref h0, .int p0, .int p1])).length) Slot.unset).toArray = ls at hl ⊢
  have hl : lv_has ls 7 [(0, .ref h0), (1, .int p0), (2, .int p1)] := hl
  refine lv_aload_n hx hb dX11_derive_0 rfl (lv_at hl 0 rfl) ?_
  refine lv_iload_n hx hb dX11_derive_1 rfl (lv_at hl 1 rfl) ?_
  have hF := pv_new hA hS.1
  refine pv_thrown (vx_runV (As := [.int p0]) (rest := []) ⟨hx, hb, hml, hown, hts⟩ (c_X11_polynomialAt l hfl D _ h0 q p0) (cwV 1 hts (pv_gV w5_112 w5_114 wp3_13 w1_1 w5_115) rfl rfl rfl (by decide +kernel) ⟨Nat.le_of_ble_eq_true rfl, Nat.le_of_ble_eq_true rfl⟩) (pv_pV hE hS hF (hP.sub [0] rfl) (hK.sub [] rfl) (hD.sub [0] (by decide) rfl) (va_recv (ci := 0) (q0 := 0) hK hP rfl rfl)) rfl rfl hl.1 rfl (lv_room (Nat.le_of_ble_eq_true rfl)) dX11_derive_2 ⟨Nat.le_of_ble_eq_true rfl, Nat.le_of_ble_eq_true rfl⟩) (fun _ _ _ h => h) hS hF hF (fun E ce q9 u t H1 locs1 ht hvm hpx hbx hz1 hk1 hS hce hcv hcl => ?_)
  exact vx_out (fun x h9 => absurd (hnt x h9) id) hlocks hce hcv hcl (fun t ht hvm => ⟨(), trivial, hbx, hS.F ht⟩) hS.2.2 (Nat.le_of_ble_eq_true rfl) (Nat.le_of_ble_eq_true rfl)

theorem dX11_integrate_0 : decode cX11_integrate 0 = .ok (.aload_n 0, 1) := by decide +kernel
theorem dX11_integrate_1 : decode cX11_integrate 1 = .ok (.iload_n 1, 1) := by decide +kernel
theorem dX11_integrate_2 : decode cX11_integrate 2 = .ok (.invokevirtual 103, 3) := by decide +kernel
set_option maxHeartbeats 4000000 in
set_option maxRecDepth 100000 in
/-- integrate on a fresh object: throws -/
theorem c_X11_integrate (l : Launch) (hfl : l.stackTraces = false) (D : va_G) (sz : Nat) (h0 : Nat) (q : Nat → Nat) (p0 p1 : Int32) : vx_Met l yX11_integrate (Cond.code yX11_integrate cX11_integrate 7 (some .int) :: pv_W) ({ frames := 8, cells := 1, slots := 6, locals := 122 } : Room) (va_Pc [.ref h0, .int p0, .int p1] (pv_P D [] [(h0, .inr (0, [.ref (q 0), .int 0, .int 108, .ref (q 1), .int 0, .ref (q 2), .int 0, .ref (q 3), .ref (q 4), .int 1, .ref (q 5), .ref (q 6), .ref (q 7), .ref (q 8), .ref (q 9)]))] (va_A [] sz) sz)) (fun _ _ _ _ => False) (vx_X (fun _ : Unit => True) (fun E _ _ => E = "java/lang/IndexOutOfBoundsException") (va_A [] sz)) 1 6 (va_A [] sz) := by
  refine vx_ofW (cc := cX11_integrate) (maxL := 7) (ret := (some .int)) (by decide) rfl ?_
  intro p e s m args below meth c s₁ B hml hnt hv
  obtain ⟨rfl, hsz, hE, hP, hK, hD0⟩ := hv
  have hx := B.exec
  have hb := B.bytes
  have hr := B.returns
  have hts := fun (w : Cond) (h : w ∈ pv_W) => atoms_spec (ws := Cond.code yX11_integrate cX11_integrate 7 (some .int) :: pv_W) B.pre w (List.mem_cons_of_mem _ h)
  have hg := fun {w : Cond} (h : w ∈ lw_tbl) (g : goodWord w = true) => hts w (pv_in h g)
  have hown : s.vm.findClass RX11 = some m.cls := findClass_of_methodNamed B.named
  have hlocks := B.notSynchronized
  subst hsz
  have hD := hD0
  generalize hAe : va_A [] s.heap.size = A at hE ⊢
  have hA : ∀ q : Nat, s.heap.size ≤ q → A q := fun q h => by rw [← hAe]; exact Or.inr h
  have hS : va_S A s.heap s.heap [] := va_S.rf
  have hP : va_P D pv_cl [(h0, .inr (0, [.ref (q 0), .int 0, .int 108, .ref (q 1), .int 0, .ref (q 2), .int 0, .ref (q 3), .ref (q 4), .int 1, .ref (q 5), .ref (q 6), .ref (q 7), .ref (q 8), .ref (q 9)]))] s.heap := hP
  have hl := lv_entry ([.ref h0, .int p0, .int p1]) (n := 7) (Nat.le_of_ble_eq_true rfl)
  rw [lg_entry_eq]
  generalize (lg_sl ([.ref h0, .int p0, .int p1]) ++ List.replicate (7 - (lg_sl ([.ref h0, .int p0, .int p1])).length) Slot.unset).toArray = ls at hl ⊢
  have hl : lv_has ls 7 [(0, .ref h0), (1, .int p0), (2, .int p1)] := hl
  refine lv_aload_n hx hb dX11_integrate_0 rfl (lv_at hl 0 rfl) ?_
  refine lv_iload_n hx hb dX11_integrate_1 rfl (lv_at hl 1 rfl) ?_
  have hF := pv_new hA hS.1
  refine pv_thrown (vx_runV (As := [.int p0]) (rest := []) ⟨hx, hb, hml, hown, hts⟩ (c_X11_polynomialAt l hfl D _ h0 q p0) (cwV 1 hts (pv_gV w5_112 w5_114 wp3_13 w1_1 w5_115) rfl rfl rfl (by decide +kernel) ⟨Nat.le_of_ble_eq_true rfl, Nat.le_of_ble_eq_true rfl⟩) (pv_pV hE hS hF (hP.sub [0] rfl) (hK.sub [] rfl) (hD.sub [0] (by decide) rfl) (va_recv (ci := 0) (q0 := 0) hK hP rfl rfl)) rfl rfl hl.1 rfl (lv_room (Nat.le_of_ble_eq_true rfl)) dX11_integrate_2 ⟨Nat.le_of_ble_eq_true rfl, Nat.le_of_ble_eq_true rfl⟩) (fun _ _ _ h => h) hS hF hF (fun E ce q9 u t H1 locs1 ht hvm hpx hbx hz1 hk1 hS hce hcv hcl => ?_)
  exact vx_out (fun x h9 => absurd (hnt x h9) id) hlocks hce hcv hcl (fun t ht hvm => ⟨(), trivial, hbx, hS.F ht⟩) hS.2.2 (Nat.le_of_ble_eq_true rfl) (Nat.le_of_ble_eq_true rfl)

theorem dX11_substitute_0 : decode cX11_substitute 0 = .ok (.aload_n 0, 1) := by decide +kernel
theorem dX11_substitute_1 : decode cX11_substitute 1 = .ok (.iload_n 1, 1) := by decide +kernel
theorem dX11_substitute_2 : decode cX11_substitute 2 = .ok (.invokevirtual 103, 3) := by decide +kernel
set_option maxHeartbeats 4000000 in
set_option maxRecDepth 100000 in
/-- substitute on a fresh object: throws -/
theorem c_X11_substitute (l : Launch) (hfl : l.stackTraces = false) (D : va_G) (sz : Nat) (h0 : Nat) (q : Nat → Nat) (p0 p1 p2 : Int32) : vx_Met l yX11_substitute (Cond.code yX11_substitute cX11_substitute 7 (some .int) :: pv_W) ({ frames := 8, cells := 1, slots := 6, locals := 122 } : Room) (va_Pc [.ref h0, .int p0, .int p1, .int p2] (pv_P D [] [(h0, .inr (0, [.ref (q 0), .int 0, .int 108, .ref (q 1), .int 0, .ref (q 2), .int 0, .ref (q 3), .ref (q 4), .int 1, .ref (q 5), .ref (q 6), .ref (q 7), .ref (q 8), .ref (q 9)]))] (va_A [] sz) sz)) (fun _ _ _ _ => False) (vx_X (fun _ : Unit => True) (fun E _ _ => E = "java/lang/IndexOutOfBoundsException") (va_A [] sz)) 1 6 (va_A [] sz) := by
  refine vx_ofW (cc := cX11_substitute) (maxL := 7) (ret := (some .int)) (by decide) rfl ?_
  intro p e s m args below meth c s₁ B hml hnt hv
  obtain ⟨rfl, hsz, hE, hP, hK, hD0⟩ := hv
  have hx := B.exec
  have hb := B.bytes
  have hr := B.returns
  have hts := fun (w : Cond) (h : w ∈ pv_W) => atoms_spec (ws := Cond.code yX11_substitute cX11_substitute 7 (some .int) :: pv_W) B.pre w (List.mem_cons_of_mem _ h)
  have hg := fun {w : Cond} (h : w ∈ lw_tbl) (g : goodWord w = true) => hts w (pv_in h g)
  have hown : s.vm.findClass RX11 = some m.cls := findClass_of_methodNamed B.named
  have hlocks := B.notSynchronized
  subst hsz
  have hD := hD0
  generalize hAe : va_A [] s.heap.size = A at hE ⊢
  have hA : ∀ q : Nat, s.heap.size ≤ q → A q := fun q h => by rw [← hAe]; exact Or.inr h
  have hS : va_S A s.heap s.heap [] := va_S.rf
  have hP : va_P D pv_cl [(h0, .inr (0, [.ref (q 0), .int 0, .int 108, .ref (q 1), .int 0, .ref (q 2), .int 0, .ref (q 3), .ref (q 4), .int 1, .ref (q 5), .ref (q 6), .ref (q 7), .ref (q 8), .ref (q 9)]))] s.heap := hP
  have hl := lv_entry ([.ref h0, .int p0, .int p1, .int p2]) (n := 7) (Nat.le_of_ble_eq_true rfl)
  rw [lg_entry_eq]
  generalize (lg_sl ([.ref h0, .int p0, .int p1, .int p2]) ++ List.replicate (7 - (lg_sl ([.ref h0, .int p0, .int p1, .int p2])).length) Slot.unset).toArray = ls at hl ⊢
  have hl : lv_has ls 7 [(0, .ref h0), (1, .int p0), (2, .int p1), (3, .int p2)] := hl
  refine lv_aload_n hx hb dX11_substitute_0 rfl (lv_at hl 0 rfl) ?_
  refine lv_iload_n hx hb dX11_substitute_1 rfl (lv_at hl 1 rfl) ?_
  have hF := pv_new hA hS.1
  refine pv_thrown (vx_runV (As := [.int p0]) (rest := []) ⟨hx, hb, hml, hown, hts⟩ (c_X11_polynomialAt l hfl D _ h0 q p0) (cwV 1 hts (pv_gV w5_112 w5_114 wp3_13 w1_1 w5_115) rfl rfl rfl (by decide +kernel) ⟨Nat.le_of_ble_eq_true rfl, Nat.le_of_ble_eq_true rfl⟩) (pv_pV hE hS hF (hP.sub [0] rfl) (hK.sub [] rfl) (hD.sub [0] (by decide) rfl) (va_recv (ci := 0) (q0 := 0) hK hP rfl rfl)) rfl rfl hl.1 rfl (lv_room (Nat.le_of_ble_eq_true rfl)) dX11_substitute_2 ⟨Nat.le_of_ble_eq_true rfl, Nat.le_of_ble_eq_true rfl⟩) (fun _ _ _ h => h) hS hF hF (fun E ce q9 u t H1 locs1 ht hvm hpx hbx hz1 hk1 hS hce hcv hcl => ?_)
  exact vx_out (fun x h9 => absurd (hnt x h9) id) hlocks hce hcv hcl (fun t ht hvm => ⟨(), trivial, hbx, hS.F ht⟩) hS.2.2 (Nat.le_of_ble_eq_true rfl) (Nat.le_of_ble_eq_true rfl)

theorem dX11_value_0 : decode cX11_value 0 = .ok (.aload_n 0, 1) := by decide +kernel
theorem dX11_value_1 : decode cX11_value 1 = .ok (.iload_n 1, 1) := by decide +kernel
theorem dX11_value_2 : decode cX11_value 2 = .ok (.invokevirtual 103, 3) := by decide +kernel
set_option maxHeartbeats 4000000 in
set_option maxRecDepth 100000 in
/-- value on a fresh object: throws -/
theorem c_X11_value (l : Launch) (hfl : l.stackTraces = false) (D : va_G) (sz : Nat) (h0 : Nat) (q : Nat → Nat) (p0 p1 p2 p3 : Int32) : vx_Met l yX11_value (Cond.code yX11_value cX11_value 11 (some .int) :: pv_W) ({ frames := 8, cells := 1, slots := 6, locals := 122 } : Room) (va_Pc [.ref h0, .int p0, .int p1, .int p2, .int p3] (pv_P D [] [(h0, .inr (0, [.ref (q 0), .int 0, .int 108, .ref (q 1), .int 0, .ref (q 2), .int 0, .ref (q 3), .ref (q 4), .int 1, .ref (q 5), .ref (q 6), .ref (q 7), .ref (q 8), .ref (q 9)]))] (va_A [] sz) sz)) (fun _ _ _ _ => False) (vx_X (fun _ : Unit => True) (fun E _ _ => E = "java/lang/IndexOutOfBoundsException") (va_A [] sz)) 1 6 (va_A [] sz) := by
  refine vx_ofW (cc := cX11_value) (maxL := 11) (ret := (some .int)) (by decide) rfl ?_
  intro p e s m args below meth c s₁ B hml hnt hv
  obtain ⟨rfl, hsz, hE, hP, hK, hD0⟩ := hv
  have hx := B.exec
  have hb := B.bytes
  have hr := B.returns
  have hts := fun (w : Cond) (h : w ∈ pv_W) => atoms_spec (ws := Cond.code yX11_value cX11_value 11 (some .int) :: pv_W) B.pre w (List.mem_cons_of_mem _ h)
  have hg := fun {w : Cond} (h : w ∈ lw_tbl) (g : goodWord w = true) => hts w (pv_in h g)
  have hown : s.vm.findClass RX11 = some m.cls := findClass_of_methodNamed B.named
  have hlocks := B.notSynchronized
  subst hsz
  have hD := hD0
  generalize hAe : va_A [] s.heap.size = A at hE ⊢
  have hA : ∀ q : Nat, s.heap.size ≤ q → A q := fun q h => by rw [← hAe]; exact Or.inr h
  have hS : va_S A s.heap s.heap [] := va_S.rf
  have hP : va_P D pv_cl [(h0, .inr (0, [.ref (q 0), .int 0, .int 108, .ref (q 1), .int 0, .ref (q 2), .int 0, .ref (q 3), .ref (q 4), .int 1, .ref (q 5), .ref (q 6), .ref (q 7), .ref (q 8), .ref (q 9)]))] s.heap := hP
  have hl := lv_entry ([.ref h0, .int p0, .int p1, .int p2, .int p3]) (n := 11) (Nat.le_of_ble_eq_true rfl)
  rw [lg_entry_eq]
  generalize (lg_sl ([.ref h0, .int p0, .int p1, .int p2, .int p3]) ++ List.replicate (11 - (lg_sl ([.ref h0, .int p0, .int p1, .int p2, .int p3])).length) Slot.unset).toArray = ls at hl ⊢
  have hl : lv_has ls 11 [(0, .ref h0), (1, .int p0), (2, .int p1), (3, .int p2), (4, .int p3)] := hl
  refine lv_aload_n hx hb dX11_value_0 rfl (lv_at hl 0 rfl) ?_
  refine lv_iload_n hx hb dX11_value_1 rfl (lv_at hl 1 rfl) ?_
  have hF := pv_new hA hS.1
  refine pv_thrown (vx_runV (As := [.int p0]) (rest := []) ⟨hx, hb, hml, hown, hts⟩ (c_X11_polynomialAt l hfl D _ h0 q p0) (cwV 1 hts (pv_gV w5_112 w5_114 wp3_13 w1_1 w5_115) rfl rfl rfl (by decide +kernel) ⟨Nat.le_of_ble_eq_true rfl, Nat.le_of_ble_eq_true rfl⟩) (pv_pV hE hS hF (hP.sub [0] rfl) (hK.sub [] rfl) (hD.sub [0] (by decide) rfl) (va_recv (ci := 0) (q0 := 0) hK hP rfl rfl)) rfl rfl hl.1 rfl (lv_room (Nat.le_of_ble_eq_true rfl)) dX11_value_2 ⟨Nat.le_of_ble_eq_true rfl, Nat.le_of_ble_eq_true rfl⟩) (fun _ _ _ h => h) hS hF hF (fun E ce q9 u t H1 locs1 ht hvm hpx hbx hz1 hk1 hS hce hcv hcl => ?_)
  exact vx_out (fun x h9 => absurd (hnt x h9) id) hlocks hce hcv hcl (fun t ht hvm => ⟨(), trivial, hbx, hS.F ht⟩) hS.2.2 (Nat.le_of_ble_eq_true rfl) (Nat.le_of_ble_eq_true rfl)

theorem dX11_content_0 : decode cX11_content 0 = .ok (.aload_n 0, 1) := by decide +kernel
theorem dX11_content_1 : decode cX11_content 1 = .ok (.iload_n 1, 1) := by decide +kernel
theorem dX11_content_2 : decode cX11_content 2 = .ok (.invokevirtual 103, 3) := by decide +kernel
set_option maxHeartbeats 4000000 in
set_option maxRecDepth 100000 in
/-- content on a fresh object: throws -/
theorem c_X11_content (l : Launch) (hfl : l.stackTraces = false) (D : va_G) (sz : Nat) (h0 : Nat) (q : Nat → Nat) (p0 : Int32) : vx_Met l yX11_content (Cond.code yX11_content cX11_content 3 (some .long) :: pv_W) ({ frames := 8, cells := 1, slots := 6, locals := 122 } : Room) (va_Pc [.ref h0, .int p0] (pv_P D [] [(h0, .inr (0, [.ref (q 0), .int 0, .int 108, .ref (q 1), .int 0, .ref (q 2), .int 0, .ref (q 3), .ref (q 4), .int 1, .ref (q 5), .ref (q 6), .ref (q 7), .ref (q 8), .ref (q 9)]))] (va_A [] sz) sz)) (fun _ _ _ _ => False) (vx_X (fun _ : Unit => True) (fun E _ _ => E = "java/lang/IndexOutOfBoundsException") (va_A [] sz)) 1 6 (va_A [] sz) := by
  refine vx_ofW (cc := cX11_content) (maxL := 3) (ret := (some .long)) (by decide) rfl ?_
  intro p e s m args below meth c s₁ B hml hnt hv
  obtain ⟨rfl, hsz, hE, hP, hK, hD0⟩ := hv
  have hx := B.exec
  have hb := B.bytes
  have hr := B.returns
  have hts := fun (w : Cond) (h : w ∈ pv_W) => atoms_spec (ws := Cond.code yX11_content cX11_content 3 (some .long) :: pv_W) B.pre w (List.mem_cons_of_mem _ h)
  have hg := fun {w : Cond} (h : w ∈ lw_tbl) (g : goodWord w = true) => hts w (pv_in h g)
  have hown : s.vm.findClass RX11 = some m.cls := findClass_of_methodNamed B.named
  have hlocks := B.notSynchronized
  subst hsz
  have hD := hD0
  generalize hAe : va_A [] s.heap.size = A at hE ⊢
  have hA : ∀ q : Nat, s.heap.size ≤ q → A q := fun q h => by rw [← hAe]; exact Or.inr h
  have hS : va_S A s.heap s.heap [] := va_S.rf
  have hP : va_P D pv_cl [(h0, .inr (0, [.ref (q 0), .int 0, .int 108, .ref (q 1), .int 0, .ref (q 2), .int 0, .ref (q 3), .ref (q 4), .int 1, .ref (q 5), .ref (q 6), .ref (q 7), .ref (q 8), .ref (q 9)]))] s.heap := hP
  have hl := lv_entry ([.ref h0, .int p0]) (n := 3) (Nat.le_of_ble_eq_true rfl)
  rw [lg_entry_eq]
  generalize (lg_sl ([.ref h0, .int p0]) ++ List.replicate (3 - (lg_sl ([.ref h0, .int p0])).length) Slot.unset).toArray = ls at hl ⊢
  have hl : lv_has ls 3 [(0, .ref h0), (1, .int p0)] := hl
  refine lv_aload_n hx hb dX11_content_0 rfl (lv_at hl 0 rfl) ?_
  refine lv_iload_n hx hb dX11_content_1 rfl (lv_at hl 1 rfl) ?_
  have hF := pv_new hA hS.1
  refine pv_thrown (vx_runV (As := [.int p0]) (rest := []) ⟨hx, hb, hml, hown, hts⟩ (c_X11_polynomialAt l hfl D _ h0 q p0) (cwV 1 hts (pv_gV w5_112 w5_114 wp3_13 w1_1 w5_115) rfl rfl rfl (by decide +kernel) ⟨Nat.le_of_ble_eq_true rfl, Nat.le_of_ble_eq_true rfl⟩) (pv_pV hE hS hF (hP.sub [0] rfl) (hK.sub [] rfl) (hD.sub [0] (by decide) rfl) (va_recv (ci := 0) (q0 := 0) hK hP rfl rfl)) rfl rfl hl.1 rfl (lv_room (Nat.le_of_ble_eq_true rfl)) dX11_content_2 ⟨Nat.le_of_ble_eq_true rfl, Nat.le_of_ble_eq_true rfl⟩) (fun _ _ _ h => h) hS hF hF (fun E ce q9 u t H1 locs1 ht hvm hpx hbx hz1 hk1 hS hce hcv hcl => ?_)
  exact vx_out (fun x h9 => absurd (hnt x h9) id) hlocks hce hcv hcl (fun t ht hvm => ⟨(), trivial, hbx, hS.F ht⟩) hS.2.2 (Nat.le_of_ble_eq_true rfl) (Nat.le_of_ble_eq_true rfl)

theorem dX11_primitive_0 : decode cX11_primitive 0 = .ok (.aload_n 0, 1) := by decide +kernel
theorem dX11_primitive_1 : decode cX11_primitive 1 = .ok (.iload_n 1, 1) := by decide +kernel
theorem dX11_primitive_2 : decode cX11_primitive 2 = .ok (.invokevirtual 103, 3) := by decide +kernel
set_option maxHeartbeats 4000000 in
set_option maxRecDepth 100000 in
/-- primitive on a fresh object: throws -/
theorem c_X11_primitive (l : Launch) (hfl : l.stackTraces = false) (D : va_G) (sz : Nat) (h0 : Nat) (q : Nat → Nat) (p0 : Int32) : vx_Met l yX11_primitive (Cond.code yX11_primitive cX11_primitive 6 (some .int) :: pv_W) ({ frames := 8, cells := 1, slots := 6, locals := 122 } : Room) (va_Pc [.ref h0, .int p0] (pv_P D [] [(h0, .inr (0, [.ref (q 0), .int 0, .int 108, .ref (q 1), .int 0, .ref (q 2), .int 0, .ref (q 3), .ref (q 4), .int 1, .ref (q 5), .ref (q 6), .ref (q 7), .ref (q 8), .ref (q 9)]))] (va_A [] sz) sz)) (fun _ _ _ _ => False) (vx_X (fun _ : Unit => True) (fun E _ _ => E = "java/lang/IndexOutOfBoundsException") (va_A [] sz)) 1 6 (va_A [] sz) := by
  refine vx_ofW (cc := cX11_primitive) (maxL := 6) (ret := (some .int)) (by decide) rfl ?_
  intro p e s m args below meth c s₁ B hml hnt hv
  obtain ⟨rfl, hsz, hE, hP, hK, hD0⟩ := hv
  have hx := B.exec
  have hb := B.bytes
  have hr := B.returns
  have hts := fun (w : Cond) (h : w ∈ pv_W) => atoms_spec (ws := Cond.code yX11_primitive cX11_primitive 6 (some .int) :: pv_W) B.pre w (List.mem_cons_of_mem _ h)
  have hg := fun {w : Cond} (h : w ∈ lw_tbl) (g : goodWord w = true) => hts w (pv_in h g)
  have hown : s.vm.findClass RX11 = some m.cls := findClass_of_methodNamed B.named
  have hlocks := B.notSynchronized
  subst hsz
  have hD := hD0
  generalize hAe : va_A [] s.heap.size = A at hE ⊢
  have hA : ∀ q : Nat, s.heap.size ≤ q → A q := fun q h => by rw [← hAe]; exact Or.inr h
  have hS : va_S A s.heap s.heap [] := va_S.rf
  have hP : va_P D pv_cl [(h0, .inr (0, [.ref (q 0), .int 0, .int 108, .ref (q 1), .int 0, .ref (q 2), .int 0, .ref (q 3), .ref (q 4), .int 1, .ref (q 5), .ref (q 6), .ref (q 7), .ref (q 8), .ref (q 9)]))] s.heap := hP
  have hl := lv_entry ([.ref h0, .int p0]) (n := 6) (Nat.le_of_ble_eq_true rfl)
  rw [lg_entry_eq]
  generalize (lg_sl ([.ref h0, .int p0]) ++ List.replicate (6 - (lg_sl ([.ref h0, .int p0])).length) Slot.unset).toArray = ls at hl ⊢
  have hl : lv_has ls 6 [(0, .ref h0), (1, .int p0)] := hl
  refine lv_aload_n hx hb dX11_primitive_0 rfl (lv_at hl 0 rfl) ?_
  refine lv_iload_n hx hb dX11_primitive_1 rfl (lv_at hl 1 rfl) ?_
  have hF := pv_new hA hS.1
  refine pv_thrown (vx_runV (As := [.int p0]) (rest := []) ⟨hx, hb, hml, hown, hts⟩ (c_X11_polynomialAt l hfl D _ h0 q p0) (cwV 1 hts (pv_gV w5_112 w5_114 wp3_13 w1_1 w5_115) rfl rfl rfl (by decide +kernel) ⟨Nat.le_of_ble_eq_true rfl, Nat.le_of_ble_eq_true rfl⟩) (pv_pV hE hS hF (hP.sub [0] rfl) (hK.sub [] rfl) (hD.sub [0] (by decide) rfl) (va_recv (ci := 0) (q0 := 0) hK hP rfl rfl)) rfl rfl hl.1 rfl (lv_room (Nat.le_of_ble_eq_true rfl)) dX11_primitive_2 ⟨Nat.le_of_ble_eq_true rfl, Nat.le_of_ble_eq_true rfl⟩) (fun _ _ _ h => h) hS hF hF (fun E ce q9 u t H1 locs1 ht hvm hpx hbx hz1 hk1 hS hce hcv hcl => ?_)
  exact vx_out (fun x h9 => absurd (hnt x h9) id) hlocks hce hcv hcl (fun t ht hvm => ⟨(), trivial, hbx, hS.F ht⟩) hS.2.2 (Nat.le_of_ble_eq_true rfl) (Nat.le_of_ble_eq_true rfl)

theorem dX11_modulo_0 : decode cX11_modulo 0 = .ok (.aload_n 0, 1) := by decide +kernel
theorem dX11_modulo_1 : decode cX11_modulo 1 = .ok (.iload_n 1, 1) := by decide +kernel
theorem dX11_modulo_2 : decode cX11_modulo 2 = .ok (.invokevirtual 103, 3) := by decide +kernel
set_option maxHeartbeats 4000000 in
set_option maxRecDepth 100000 in
/-- modulo on a fresh object: throws -/
theorem c_X11_modulo (l : Launch) (hfl : l.stackTraces = false) (D : va_G) (sz : Nat) (h0 : Nat) (q : Nat → Nat) (p0 p1 : Int32) : vx_Met l yX11_modulo (Cond.code yX11_modulo cX11_modulo 5 (some .int) :: pv_W) ({ frames := 8, cells := 1, slots := 6, locals := 122 } : Room) (va_Pc [.ref h0, .int p0, .int p1] (pv_P D [] [(h0, .inr (0, [.ref (q 0), .int 0, .int 108, .ref (q 1), .int 0, .ref (q 2), .int 0, .ref (q 3), .ref (q 4), .int 1, .ref (q 5), .ref (q 6), .ref (q 7), .ref (q 8), .ref (q 9)]))] (va_A [] sz) sz)) (fun _ _ _ _ => False) (vx_X (fun _ : Unit => True) (fun E _ _ => E = "java/lang/IndexOutOfBoundsException") (va_A [] sz)) 1 6 (va_A [] sz) := by
  refine vx_ofW (cc := cX11_modulo) (maxL := 5) (ret := (some .int)) (by decide) rfl ?_
  intro p e s m args below meth c s₁ B hml hnt hv
  obtain ⟨rfl, hsz, hE, hP, hK, hD0⟩ := hv
  have hx := B.exec
  have hb := B.bytes
  have hr := B.returns
  have hts := fun (w : Cond) (h : w ∈ pv_W) => atoms_spec (ws := Cond.code yX11_modulo cX11_modulo 5 (some .int) :: pv_W) B.pre w (List.mem_cons_of_mem _ h)
  have hg := fun {w : Cond} (h : w ∈ lw_tbl) (g : goodWord w = true) => hts w (pv_in h g)
  have hown : s.vm.findClass RX11 = some m.cls := findClass_of_methodNamed B.named
  have hlocks := B.notSynchronized
  subst hsz
  have hD := hD0
  generalize hAe : va_A [] s.heap.size = A at hE ⊢
  have hA : ∀ q : Nat, s.heap.size ≤ q → A q := fun q h => by rw [← hAe]; exact Or.inr h
  have hS : va_S A s.heap s.heap [] := va_S.rf
  have hP : va_P D pv_cl [(h0, .inr (0, [.ref (q 0), .int 0, .int 108, .ref (q 1), .int 0, .ref (q 2), .int 0, .ref (q 3), .ref (q 4), .int 1, .ref (q 5), .ref (q 6), .ref (q 7), .ref (q 8), .ref (q 9)]))] s.heap := hP
  have hl := lv_entry ([.ref h0, .int p0, .int p1]) (n := 5) (Nat.le_of_ble_eq_true rfl)
  rw [lg_entry_eq]
  generalize (lg_sl ([.ref h0, .int p0, .int p1]) ++ List.replicate (5 - (lg_sl ([.ref h0, .int p0, .int p1])).length) Slot.unset).toArray = ls at hl ⊢
  have hl : lv_has ls 5 [(0, .ref h0), (1, .int p0), (2, .int p1)] := hl
  refine lv_aload_n hx hb dX11_modulo_0 rfl (lv_at hl 0 rfl) ?_
  refine lv_iload_n hx hb dX11_modulo_1 rfl (lv_at hl 1 rfl) ?_
  have hF := pv_new hA hS.1
  refine pv_thrown (vx_runV (As := [.int p0]) (rest := []) ⟨hx, hb, hml, hown, hts⟩ (c_X11_polynomialAt l hfl D _ h0 q p0) (cwV 1 hts (pv_gV w5_112 w5_114 wp3_13 w1_1 w5_115) rfl rfl rfl (by decide +kernel) ⟨Nat.le_of_ble_eq_true rfl, Nat.le_of_ble_eq_true rfl⟩) (pv_pV hE hS hF (hP.sub [0] rfl) (hK.sub [] rfl) (hD.sub [0] (by decide) rfl) (va_recv (ci := 0) (q0 := 0) hK hP rfl rfl)) rfl rfl hl.1 rfl (lv_room (Nat.le_of_ble_eq_true rfl)) dX11_modulo_2 ⟨Nat.le_of_ble_eq_true rfl, Nat.le_of_ble_eq_true rfl⟩) (fun _ _ _ h => h) hS hF hF (fun E ce q9 u t H1 locs1 ht hvm hpx hbx hz1 hk1 hS hce hcv hcl => ?_)
  exact vx_out (fun x h9 => absurd (hnt x h9) id) hlocks hce hcv hcl (fun t ht hvm => ⟨(), trivial, hbx, hS.F ht⟩) hS.2.2 (Nat.le_of_ble_eq_true rfl) (Nat.le_of_ble_eq_true rfl)

theorem dX11_quotient_0 : decode cX11_quotient 0 = .ok (.aload_n 0, 1) := by decide +kernel
theorem dX11_quotient_1 : decode cX11_quotient 1 = .ok (.iload_n 1, 1) := by decide +kernel
theorem dX11_quotient_2 : decode cX11_quotient 2 = .ok (.invokevirtual 103, 3) := by decide +kernel
set_option maxHeartbeats 4000000 in
set_option maxRecDepth 100000 in
/-- quotient on a fresh object: throws -/
theorem c_X11_quotient (l : Launch) (hfl : l.stackTraces = false) (D : va_G) (sz : Nat) (h0 : Nat) (q : Nat → Nat) (p0 p1 : Int32) : vx_Met l yX11_quotient (Cond.code yX11_quotient cX11_quotient 5 (some .int) :: pv_W) ({ frames := 8, cells := 1, slots := 6, locals := 122 } : Room) (va_Pc [.ref h0, .int p0, .int p1] (pv_P D [] [(h0, .inr (0, [.ref (q 0), .int 0, .int 108, .ref (q 1), .int 0, .ref (q 2), .int 0, .ref (q 3), .ref (q 4), .int 1, .ref (q 5), .ref (q 6), .ref (q 7), .ref (q 8), .ref (q 9)]))] (va_A [] sz) sz)) (fun _ _ _ _ => False) (vx_X (fun _ : Unit => True) (fun E _ _ => E = "java/lang/IndexOutOfBoundsException") (va_A [] sz)) 1 6 (va_A [] sz) := by
  refine vx_ofW (cc := cX11_quotient) (maxL := 5) (ret := (some .int)) (by decide) rfl ?_
  intro p e s m args below meth c s₁ B hml hnt hv
  obtain ⟨rfl, hsz, hE, hP, hK, hD0⟩ := hv
  have hx := B.exec
  have hb := B.bytes
  have hr := B.returns
  have hts := fun (w : Cond) (h : w ∈ pv_W) => atoms_spec (ws := Cond.code yX11_quotient cX11_quotient 5 (some .int) :: pv_W) B.pre w (List.mem_cons_of_mem _ h)
  have hg := fun {w : Cond} (h : w ∈ lw_tbl) (g : goodWord w = true) => hts w (pv_in h g)
  have hown : s.vm.findClass RX11 = some m.cls := findClass_of_methodNamed B.named
  have hlocks := B.notSynchronized
  subst hsz
  have hD := hD0
  generalize hAe : va_A [] s.heap.size = A at hE ⊢
  have hA : ∀ q : Nat, s.heap.size ≤ q → A q := fun q h => by rw [← hAe]; exact Or.inr h
  have hS : va_S A s.heap s.heap [] := va_S.rf
  have hP : va_P D pv_cl [(h0, .inr (0, [.ref (q 0), .int 0, .int 108, .ref (q 1), .int 0, .ref (q 2), .int 0, .ref (q 3), .ref (q 4), .int 1, .ref (q 5), .ref (q 6), .ref (q 7), .ref (q 8), .ref (q 9)]))] s.heap := hP
  have hl := lv_entry ([.ref h0, .int p0, .int p1]) (n := 5) (Nat.le_of_ble_eq_true rfl)
  rw [lg_entry_eq]
  generalize (lg_sl ([.ref h0, .int p0, .int p1]) ++ List.replicate (5 - (lg_sl ([.ref h0, .int p0, .int p1])).length) Slot.unset).toArray = ls at hl ⊢
  have hl : lv_has ls 5 [(0, .ref h0), (1, .int p0), (2, .int p1)] := hl
  refine lv_aload_n hx hb dX11_quotient_0 rfl (lv_at hl 0 rfl) ?_
  refine lv_iload_n hx hb dX11_quotient_1 rfl (lv_at hl 1 rfl) ?_
  have hF := pv_new hA hS.1
  refine pv_thrown (vx_runV (As := [.int p0]) (rest := []) ⟨hx, hb, hml, hown, hts⟩ (c_X11_polynomialAt l hfl D _ h0 q p0) (cwV 1 hts (pv_gV w5_112 w5_114 wp3_13 w1_1 w5_115) rfl rfl rfl (by decide +kernel) ⟨Nat.le_of_ble_eq_true rfl, Nat.le_of_ble_eq_true rfl⟩) (pv_pV hE hS hF (hP.sub [0] rfl) (hK.sub [] rfl) (hD.sub [0] (by decide) rfl) (va_recv (ci := 0) (q0 := 0) hK hP rfl rfl)) rfl rfl hl.1 rfl (lv_room (Nat.le_of_ble_eq_true rfl)) dX11_quotient_2 ⟨Nat.le_of_ble_eq_true rfl, Nat.le_of_ble_eq_true rfl⟩) (fun _ _ _ h => h) hS hF hF (fun E ce q9 u t H1 locs1 ht hvm hpx hbx hz1 hk1 hS hce hcv hcl => ?_)
  exact vx_out (fun x h9 => absurd (hnt x h9) id) hlocks hce hcv hcl (fun t ht hvm => ⟨(), trivial, hbx, hS.F ht⟩) hS.2.2 (Nat.le_of_ble_eq_true rfl) (Nat.le_of_ble_eq_true rfl)

theorem dX11_remainder_0 : decode cX11_remainder 0 = .ok (.aload_n 0, 1) := by decide +kernel
theorem dX11_remainder_1 : decode cX11_remainder 1 = .ok (.iload_n 1, 1) := by decide +kernel
theorem dX11_remainder_2 : decode cX11_remainder 2 = .ok (.invokevirtual 103, 3) := by decide +kernel
set_option maxHeartbeats 4000000 in
set_option maxRecDepth 100000 in
/-- remainder on a fresh object: throws -/
theorem c_X11_remainder (l : Launch) (hfl : l.stackTraces = false) (D : va_G) (sz : Nat) (h0 : Nat) (q : Nat → Nat) (p0 p1 : Int32) : vx_Met l yX11_remainder (Cond.code yX11_remainder cX11_remainder 5 (some .int) :: pv_W) ({ frames := 8, cells := 1, slots := 6, locals := 122 } : Room) (va_Pc [.ref h0, .int p0, .int p1] (pv_P D [] [(h0, .inr (0, [.ref (q 0), .int 0, .int 108, .ref (q 1), .int 0, .ref (q 2), .int 0, .ref (q 3), .ref (q 4), .int 1, .ref (q 5), .ref (q 6), .ref (q 7), .ref (q 8), .ref (q 9)]))] (va_A [] sz) sz)) (fun _ _ _ _ => False) (vx_X (fun _ : Unit => True) (fun E _ _ => E = "java/lang/IndexOutOfBoundsException") (va_A [] sz)) 1 6 (va_A [] sz) := by
  refine vx_ofW (cc := cX11_remainder) (maxL := 5) (ret := (some .int)) (by decide) rfl ?_
  intro p e s m args below meth c s₁ B hml hnt hv
  obtain ⟨rfl, hsz, hE, hP, hK, hD0⟩ := hv
  have hx := B.exec
  have hb := B.bytes
  have hr := B.returns
  have hts := fun (w : Cond) (h : w ∈ pv_W) => atoms_spec (ws := Cond.code yX11_remainder cX11_remainder 5 (some .int) :: pv_W) B.pre w (List.mem_cons_of_mem _ h)
  have hg := fun {w : Cond} (h : w ∈ lw_tbl) (g : goodWord w = true) => hts w (pv_in h g)
  have hown : s.vm.findClass RX11 = some m.cls := findClass_of_methodNamed B.named
  have hlocks := B.notSynchronized
  subst hsz
  have hD := hD0
  generalize hAe : va_A [] s.heap.size = A at hE ⊢
  have hA : ∀ q : Nat, s.heap.size ≤ q → A q := fun q h => by rw [← hAe]; exact Or.inr h
  have hS : va_S A s.heap s.heap [] := va_S.rf
  have hP : va_P D pv_cl [(h0, .inr (0, [.ref (q 0), .int 0, .int 108, .ref (q 1), .int 0, .ref (q 2), .int 0, .ref (q 3), .ref (q 4), .int 1, .ref (q 5), .ref (q 6), .ref (q 7), .ref (q 8), .ref (q 9)]))] s.heap := hP
  have hl := lv_entry ([.ref h0, .int p0, .int p1]) (n := 5) (Nat.le_of_ble_eq_true rfl)
  rw [lg_entry_eq]
  generalize (lg_sl ([.ref h0, .int p0, .int p1]) ++ List.replicate (5 - (lg_sl ([.ref h0, .int p0, .int p1])).length) Slot.unset).toArray = ls at hl ⊢
  have hl : lv_has ls 5 [(0, .ref h0), (1, .int p0), (2, .int p1)] := hl
  refine lv_aload_n hx hb dX11_remainder_0 rfl (lv_at hl 0 rfl) ?_
  refine lv_iload_n hx hb dX11_remainder_1 rfl (lv_at hl 1 rfl) ?_
  have hF := pv_new hA hS.1
  refine pv_thrown (vx_runV (As := [.int p0]) (rest := []) ⟨hx, hb, hml, hown, hts⟩ (c_X11_polynomialAt l hfl D _ h0 q p0) (cwV 1 hts (pv_gV w5_112 w5_114 wp3_13 w1_1 w5_115) rfl rfl rfl (by decide +kernel) ⟨Nat.le_of_ble_eq_true rfl, Nat.le_of_ble_eq_true rfl⟩) (pv_pV hE hS hF (hP.sub [0] rfl) (hK.sub [] rfl) (hD.sub [0] (by decide) rfl) (va_recv (ci := 0) (q0 := 0) hK hP rfl rfl)) rfl rfl hl.1 rfl (lv_room (Nat.le_of_ble_eq_true rfl)) dX11_remainder_2 ⟨Nat.le_of_ble_eq_true rfl, Nat.le_of_ble_eq_true rfl⟩) (fun _ _ _ h => h) hS hF hF (fun E ce q9 u t H1 locs1 ht hvm hpx hbx hz1 hk1 hS hce hcv hcl => ?_)
  exact vx_out (fun x h9 => absurd (hnt x h9) id) hlocks hce hcv hcl (fun t ht hvm => ⟨(), trivial, hbx, hS.F ht⟩) hS.2.2 (Nat.le_of_ble_eq_true rfl) (Nat.le_of_ble_eq_true rfl)

theorem dX11_divisor_0 : decode cX11_divisor 0 = .ok (.aload_n 0, 1) := by decide +kernel
theorem dX11_divisor_1 : decode cX11_divisor 1 = .ok (.iload_n 1, 1) := by decide +kernel
theorem dX11_divisor_2 : decode cX11_divisor 2 = .ok (.invokevirtual 103, 3) := by decide +kernel
set_option maxHeartbeats 4000000 in
set_option maxRecDepth 100000 in
/-- divisor on a fresh object: throws -/
theorem c_X11_divisor (l : Launch) (hfl : l.stackTraces = false) (D : va_G) (sz : Nat) (h0 : Nat) (q : Nat → Nat) (p0 p1 : Int32) : vx_Met l yX11_divisor (Cond.code yX11_divisor cX11_divisor 5 (some .int) :: pv_W) ({ frames := 8, cells := 1, slots := 6, locals := 122 } : Room) (va_Pc [.ref h0, .int p0, .int p1] (pv_P D [] [(h0, .inr (0, [.ref (q 0), .int 0, .int 108, .ref (q 1), .int 0, .ref (q 2), .int 0, .ref (q 3), .ref (q 4), .int 1, .ref (q 5), .ref (q 6), .ref (q 7), .ref (q 8), .ref (q 9)]))] (va_A [] sz) sz)) (fun _ _ _ _ => False) (vx_X (fun _ : Unit => True) (fun E _ _ => E = "java/lang/IndexOutOfBoundsException") (va_A [] sz)) 1 6 (va_A [] sz) := by
  refine vx_ofW (cc := cX11_divisor) (maxL := 5) (ret := (some .int)) (by decide) rfl ?_
  intro p e s m args below meth c s₁ B hml hnt hv
  obtain ⟨rfl, hsz, hE, hP, hK, hD0⟩ := hv
  have hx := B.exec
  have hb := B.bytes
  have hr := B.returns
  have hts := fun (w : Cond) (h : w ∈ pv_W) => atoms_spec (ws := Cond.code yX11_divisor cX11_divisor 5 (some .int) :: pv_W) B.pre w (List.mem_cons_of_mem _ h)
  have hg := fun {w : Cond} (h : w ∈ lw_tbl) (g : goodWord w = true) => hts w (pv_in h g)
  have hown : s.vm.findClass RX11 = some m.cls := findClass_of_methodNamed B.named
  have hlocks := B.notSynchronized
  subst hsz
  have hD := hD0
  generalize hAe : va_A [] s.heap.size = A at hE ⊢
  have hA : ∀ q : Nat, s.heap.size ≤ q → A q := fun q h => by rw [← hAe]; exact Or.inr h
  have hS : va_S A s.heap s.heap [] := va_S.rf
  have hP : va_P D pv_cl [(h0, .inr (0, [.ref (q 0), .int 0, .int 108, .ref (q 1), .int 0, .ref (q 2), .int 0, .ref (q 3), .ref (q 4), .int 1, .ref (q 5), .ref (q 6), .ref (q 7), .ref (q 8), .ref (q 9)]))] s.heap := hP
  have hl := lv_entry ([.ref h0, .int p0, .int p1]) (n := 5) (Nat.le_of_ble_eq_true rfl)
  rw [lg_entry_eq]
  generalize (lg_sl ([.ref h0, .int p0, .int p1]) ++ List.replicate (5 - (lg_sl ([.ref h0, .int p0, .int p1])).length) Slot.unset).toArray = ls at hl ⊢
  have hl : lv_has ls 5 [(0, .ref h0), (1, .int p0), (2, .int p1)] := hl
  refine lv_aload_n hx hb dX11_divisor_0 rfl (lv_at hl 0 rfl) ?_
  refine lv_iload_n hx hb dX11_divisor_1 rfl (lv_at hl 1 rfl) ?_
  have hF := pv_new hA hS.1
  refine pv_thrown (vx_runV (As := [.int p0]) (rest := []) ⟨hx, hb, hml, hown, hts⟩ (c_X11_polynomialAt l hfl D _ h0 q p0) (cwV 1 hts (pv_gV w5_112 w5_114 wp3_13 w1_1 w5_115) rfl rfl rfl (by decide +kernel) ⟨Nat.le_of_ble_eq_true rfl, Nat.le_of_ble_eq_true rfl⟩) (pv_pV hE hS hF (hP.sub [0] rfl) (hK.sub [] rfl) (hD.sub [0] (by decide) rfl) (va_recv (ci := 0) (q0 := 0) hK hP rfl rfl)) rfl rfl hl.1 rfl (lv_room (Nat.le_of_ble_eq_true rfl)) dX11_divisor_2 ⟨Nat.le_of_ble_eq_true rfl, Nat.le_of_ble_eq_true rfl⟩) (fun _ _ _ h => h) hS hF hF (fun E ce q9 u t H1 locs1 ht hvm hpx hbx hz1 hk1 hS hce hcv hcl => ?_)
  exact vx_out (fun x h9 => absurd (hnt x h9) id) hlocks hce hcv hcl (fun t ht hvm => ⟨(), trivial, hbx, hS.F ht⟩) hS.2.2 (Nat.le_of_ble_eq_true rfl) (Nat.le_of_ble_eq_true rfl)

theorem dX11_factors_0 : decode cX11_factors 0 = .ok (.aload_n 0, 1) := by decide +kernel
theorem dX11_factors_1 : decode cX11_factors 1 = .ok (.iload_n 1, 1) := by decide +kernel
theorem dX11_factors_2 : decode cX11_factors 2 = .ok (.invokevirtual 103, 3) := by decide +kernel
set_option maxHeartbeats 4000000 in
set_option maxRecDepth 100000 in
/-- factors on a fresh object: throws -/
theorem c_X11_factors (l : Launch) (hfl : l.stackTraces = false) (D : va_G) (sz : Nat) (h0 : Nat) (q : Nat → Nat) (p0 : Int32) : vx_Met l yX11_factors (Cond.code yX11_factors cX11_factors 3 (some .int) :: pv_W) ({ frames := 8, cells := 1, slots := 6, locals := 122 } : Room) (va_Pc [.ref h0, .int p0] (pv_P D [] [(h0, .inr (0, [.ref (q 0), .int 0, .int 108, .ref (q 1), .int 0, .ref (q 2), .int 0, .ref (q 3), .ref (q 4), .int 1, .ref (q 5), .ref (q 6), .ref (q 7), .ref (q 8), .ref (q 9)]))] (va_A [] sz) sz)) (fun _ _ _ _ => False) (vx_X (fun _ : Unit => True) (fun E _ _ => E = "java/lang/IndexOutOfBoundsException") (va_A [] sz)) 1 6 (va_A [] sz) := by
  refine vx_ofW (cc := cX11_factors) (maxL := 3) (ret := (some .int)) (by decide) rfl ?_
  intro p e s m args below meth c s₁ B hml hnt hv
  obtain ⟨rfl, hsz, hE, hP, hK, hD0⟩ := hv
  have hx := B.exec
  have hb := B.bytes
  have hr := B.returns
  have hts := fun (w : Cond) (h : w ∈ pv_W) => atoms_spec (ws := Cond.code yX11_factors cX11_factors 3 (some .int) :: pv_W) B.pre w (List.mem_cons_of_mem _ h)
  have hg := fun {w : Cond} (h : w ∈ lw_tbl) (g : goodWord w = true) => hts w (pv_in h g)
  have hown : s.vm.findClass RX11 = some m.cls := findClass_of_methodNamed B.named
  have hlocks := B.notSynchronized
  subst hsz
  have hD := hD0
  generalize hAe : va_A [] s.heap.size = A at hE ⊢
  have hA : ∀ q : Nat, s.heap.size ≤ q → A q := fun q h => by rw [← hAe]; exact Or.inr h
  have hS : va_S A s.heap s.heap [] := va_S.rf
  have hP : va_P D pv_cl [(h0, .inr (0, [.ref (q 0), .int 0, .int 108, .ref (q 1), .int 0, .ref (q 2), .int 0, .ref (q 3), .ref (q 4), .int 1, .ref (q 5), .ref (q 6), .ref (q 7), .ref (q 8), .ref (q 9)]))] s.heap := hP
  have hl := lv_entry ([.ref h0, .int p0]) (n := 3) (Nat.le_of_ble_eq_true rfl)
  rw [lg_entry_eq]
  generalize (lg_sl ([.ref h0, .int p0]) ++ List.replicate (3 - (lg_sl ([.ref h0, .int p0])).length) Slot.unset).toArray = ls at hl ⊢
  have hl : lv_has ls 3 [(0, .ref h0), (1, .int p0)] := hl
  refine lv_aload_n hx hb dX11_factors_0 rfl (lv_at hl 0 rfl) ?_
  refine lv_iload_n hx hb dX11_factors_1 rfl (lv_at hl 1 rfl) ?_
  have hF := pv_new hA hS.1
  refine pv_thrown (vx_runV (As := [.int p0]) (rest := []) ⟨hx, hb, hml, hown, hts⟩ (c_X11_polynomialAt l hfl D _ h0 q p0) (cwV 1 hts (pv_gV w5_112 w5_114 wp3_13 w1_1 w5_115) rfl rfl rfl (by decide +kernel) ⟨Nat.le_of_ble_eq_true rfl, Nat.le_of_ble_eq_true rfl⟩) (pv_pV hE hS hF (hP.sub [0] rfl) (hK.sub [] rfl) (hD.sub [0] (by decide) rfl) (va_recv (ci := 0) (q0 := 0) hK hP rfl rfl)) rfl rfl hl.1 rfl (lv_room (Nat.le_of_ble_eq_true rfl)) dX11_factors_2 ⟨Nat.le_of_ble_eq_true rfl, Nat.le_of_ble_eq_true rfl⟩) (fun _ _ _ h => h) hS hF hF (fun E ce q9 u t H1 locs1 ht hvm hpx hbx hz1 hk1 hS hce hcv hcl => ?_)
  exact vx_out (fun x h9 => absurd (hnt x h9) id) hlocks hce hcv hcl (fun t ht hvm => ⟨(), trivial, hbx, hS.F ht⟩) hS.2.2 (Nat.le_of_ble_eq_true rfl) (Nat.le_of_ble_eq_true rfl)

theorem dX11_factorAt_0 : decode cX11_factorAt 0 = .ok (.aload_n 0, 1) := by decide +kernel
theorem dX11_factorAt_1 : decode cX11_factorAt 1 = .ok (.iload_n 1, 1) := by decide +kernel
theorem dX11_factorAt_2 : decode cX11_factorAt 2 = .ok (.invokevirtual 103, 3) := by decide +kernel
set_option maxHeartbeats 4000000 in
set_option maxRecDepth 100000 in
/-- factorAt on a fresh object: throws -/
theorem c_X11_factorAt (l : Launch) (hfl : l.stackTraces = false) (D : va_G) (sz : Nat) (h0 : Nat) (q : Nat → Nat) (p0 p1 : Int32) : vx_Met l yX11_factorAt (Cond.code yX11_factorAt cX11_factorAt 4 (some .int) :: pv_W) ({ frames := 8, cells := 1, slots := 6, locals := 122 } : Room) (va_Pc [.ref h0, .int p0, .int p1] (pv_P D [] [(h0, .inr (0, [.ref (q 0), .int 0, .int 108, .ref (q 1), .int 0, .ref (q 2), .int 0, .ref (q 3), .ref (q 4), .int 1, .ref (q 5), .ref (q 6), .ref (q 7), .ref (q 8), .ref (q 9)]))] (va_A [] sz) sz)) (fun _ _ _ _ => False) (vx_X (fun _ : Unit => True) (fun E _ _ => E = "java/lang/IndexOutOfBoundsException") (va_A [] sz)) 1 6 (va_A [] sz) := by
  refine vx_ofW (cc := cX11_factorAt) (maxL := 4) (ret := (some .int)) (by decide) rfl ?_
  intro p e s m args below meth c s₁ B hml hnt hv
  obtain ⟨rfl, hsz, hE, hP, hK, hD0⟩ := hv
  have hx := B.exec
  have hb := B.bytes
  have hr := B.returns
  have hts := fun (w : Cond) (h : w ∈ pv_W) => atoms_spec (ws := Cond.code yX11_factorAt cX11_factorAt 4 (some .int) :: pv_W) B.pre w (List.mem_cons_of_mem _ h)
  have hg := fun {w : Cond} (h : w ∈ lw_tbl) (g : goodWord w = true) => hts w (pv_in h g)
  have hown : s.vm.findClass RX11 = some m.cls := findClass_of_methodNamed B.named
  have hlocks := B.notSynchronized
  subst hsz
  have hD := hD0
  generalize hAe : va_A [] s.heap.size = A at hE ⊢
  have hA : ∀ q : Nat, s.heap.size ≤ q → A q := fun q h => by rw [← hAe]; exact Or.inr h
  have hS : va_S A s.heap s.heap [] := va_S.rf
  have hP : va_P D pv_cl [(h0, .inr (0, [.ref (q 0), .int 0, .int 108, .ref (q 1), .int 0, .ref (q 2), .int 0, .ref (q 3), .ref (q 4), .int 1, .ref (q 5), .ref (q 6), .ref (q 7), .ref (q 8), .ref (q 9)]))] s.heap := hP
  have hl := lv_entry ([.ref h0, .int p0, .int p1]) (n := 4) (Nat.le_of_ble_eq_true rfl)
  rw [lg_entry_eq]
  generalize (lg_sl ([.ref h0, .int p0, .int p1]) ++ List.replicate (4 - (lg_sl ([.ref h0, .int p0, .int p1])).length) Slot.unset).toArray = ls at hl ⊢
  have hl : lv_has ls 4 [(0, .ref h0), (1, .int p0), (2, .int p1)] := hl
  refine lv_aload_n hx hb dX11_factorAt_0 rfl (lv_at hl 0 rfl) ?_
  refine lv_iload_n hx hb dX11_factorAt_1 rfl (lv_at hl 1 rfl) ?_
  have hF := pv_new hA hS.1
  refine pv_thrown (vx_runV (As := [.int p0]) (rest := []) ⟨hx, hb, hml, hown, hts⟩ (c_X11_polynomialAt l hfl D _ h0 q p0) (cwV 1 hts (pv_gV w5_112 w5_114 wp3_13 w1_1 w5_115) rfl rfl rfl (by decide +kernel) ⟨Nat.le_of_ble_eq_true rfl, Nat.le_of_ble_eq_true rfl⟩) (pv_pV hE hS hF (hP.sub [0] rfl) (hK.sub [] rfl) (hD.sub [0] (by decide) rfl) (va_recv (ci := 0) (q0 := 0) hK hP rfl rfl)) rfl rfl hl.1 rfl (lv_room (Nat.le_of_ble_eq_true rfl)) dX11_factorAt_2 ⟨Nat.le_of_ble_eq_true rfl, Nat.le_of_ble_eq_true rfl⟩) (fun _ _ _ h => h) hS hF hF (fun E ce q9 u t H1 locs1 ht hvm hpx hbx hz1 hk1 hS hce hcv hcl => ?_)
  exact vx_out (fun x h9 => absurd (hnt x h9) id) hlocks hce hcv hcl (fun t ht hvm => ⟨(), trivial, hbx, hS.F ht⟩) hS.2.2 (Nat.le_of_ble_eq_true rfl) (Nat.le_of_ble_eq_true rfl)

theorem dX11_multiplicity_0 : decode cX11_multiplicity 0 = .ok (.aload_n 0, 1) := by decide +kernel
theorem dX11_multiplicity_1 : decode cX11_multiplicity 1 = .ok (.iload_n 1, 1) := by decide +kernel
theorem dX11_multiplicity_2 : decode cX11_multiplicity 2 = .ok (.invokevirtual 103, 3) := by decide +kernel
set_option maxHeartbeats 4000000 in
set_option maxRecDepth 100000 in
/-- multiplicity on a fresh object: throws -/
theorem c_X11_multiplicity (l : Launch) (hfl : l.stackTraces = false) (D : va_G) (sz : Nat) (h0 : Nat) (q : Nat → Nat) (p0 p1 : Int32) : vx_Met l yX11_multiplicity (Cond.code yX11_multiplicity cX11_multiplicity 4 (some .int) :: pv_W) ({ frames := 8, cells := 1, slots := 6, locals := 122 } : Room) (va_Pc [.ref h0, .int p0, .int p1] (pv_P D [] [(h0, .inr (0, [.ref (q 0), .int 0, .int 108, .ref (q 1), .int 0, .ref (q 2), .int 0, .ref (q 3), .ref (q 4), .int 1, .ref (q 5), .ref (q 6), .ref (q 7), .ref (q 8), .ref (q 9)]))] (va_A [] sz) sz)) (fun _ _ _ _ => False) (vx_X (fun _ : Unit => True) (fun E _ _ => E = "java/lang/IndexOutOfBoundsException") (va_A [] sz)) 1 6 (va_A [] sz) := by
  refine vx_ofW (cc := cX11_multiplicity) (maxL := 4) (ret := (some .int)) (by decide) rfl ?_
  intro p e s m args below meth c s₁ B hml hnt hv
  obtain ⟨rfl, hsz, hE, hP, hK, hD0⟩ := hv
  have hx := B.exec
  have hb := B.bytes
  have hr := B.returns
  have hts := fun (w : Cond) (h : w ∈ pv_W) => atoms_spec (ws := Cond.code yX11_multiplicity cX11_multiplicity 4 (some .int) :: pv_W) B.pre w (List.mem_cons_of_mem _ h)
  have hg := fun {w : Cond} (h : w ∈ lw_tbl) (g : goodWord w = true) => hts w (pv_in h g)
  have hown : s.vm.findClass RX11 = some m.cls := findClass_of_methodNamed B.named
  have hlocks := B.notSynchronized
  subst hsz
  have hD := hD0
  generalize hAe : va_A [] s.heap.size = A at hE ⊢
  have hA : ∀ q : Nat, s.heap.size ≤ q → A q := fun q h => by rw [← hAe]; exact Or.inr h
  have hS : va_S A s.heap s.heap [] := va_S.rf
  have hP : va_P D pv_cl [(h0, .inr (0, [.ref (q 0), .int 0, .int 108, .ref (q 1), .int 0, .ref (q 2), .int 0, .ref (q 3), .ref (q 4), .int 1, .ref (q 5), .ref (q 6), .ref (q 7), .ref (q 8), .ref (q 9)]))] s.heap := hP
  have hl := lv_entry ([.ref h0, .int p0, .int p1]) (n := 4) (Nat.le_of_ble_eq_true rfl)
  rw [lg_entry_eq]
  generalize (lg_sl ([.ref h0, .int p0, .int p1]) ++ List.replicate (4 - (lg_sl ([.ref h0, .int p0, .int p1])).length) Slot.unset).toArray = ls at hl ⊢
  have hl : lv_has ls 4 [(0, .ref h0), (1, .int p0), (2, .int p1)] := hl
  refine lv_aload_n hx hb dX11_multiplicity_0 rfl (lv_at hl 0 rfl) ?_
  refine lv_iload_n hx hb dX11_multiplicity_1 rfl (lv_at hl 1 rfl) ?_
  have hF := pv_new hA hS.1
  refine pv_thrown (vx_runV (As := [.int p0]) (rest := []) ⟨hx, hb, hml, hown, hts⟩ (c_X11_polynomialAt l hfl D _ h0 q p0) (cwV 1 hts (pv_gV w5_112 w5_114 wp3_13 w1_1 w5_115) rfl rfl rfl (by decide +kernel) ⟨Nat.le_of_ble_eq_true rfl, Nat.le_of_ble_eq_true rfl⟩) (pv_pV hE hS hF (hP.sub [0] rfl) (hK.sub [] rfl) (hD.sub [0] (by decide) rfl) (va_recv (ci := 0) (q0 := 0) hK hP rfl rfl)) rfl rfl hl.1 rfl (lv_room (Nat.le_of_ble_eq_true rfl)) dX11_multiplicity_2 ⟨Nat.le_of_ble_eq_true rfl, Nat.le_of_ble_eq_true rfl⟩) (fun _ _ _ h => h) hS hF hF (fun E ce q9 u t H1 locs1 ht hvm hpx hbx hz1 hk1 hS hce hcv hcl => ?_)
  exact vx_out (fun x h9 => absurd (hnt x h9) id) hlocks hce hcv hcl (fun t ht hvm => ⟨(), trivial, hbx, hS.F ht⟩) hS.2.2 (Nat.le_of_ble_eq_true rfl) (Nat.le_of_ble_eq_true rfl)

theorem dX11_isIrreducible_0 : decode cX11_isIrreducible 0 = .ok (.aload_n 0, 1) := by decide +kernel
theorem dX11_isIrreducible_1 : decode cX11_isIrreducible 1 = .ok (.iload_n 1, 1) := by decide +kernel
theorem dX11_isIrreducible_2 : decode cX11_isIrreducible 2 = .ok (.invokevirtual 103, 3) := by decide +kernel
set_option maxHeartbeats 4000000 in
set_option maxRecDepth 100000 in
/-- isIrreducible on a fresh object: throws -/
theorem c_X11_isIrreducible (l : Launch) (hfl : l.stackTraces = false) (D : va_G) (sz : Nat) (h0 : Nat) (q : Nat → Nat) (p0 : Int32) : vx_Met l yX11_isIrreducible (Cond.code yX11_isIrreducible cX11_isIrreducible 3 (some .boolean) :: pv_W) ({ frames := 8, cells := 1, slots := 6, locals := 122 } : Room) (va_Pc [.ref h0, .int p0] (pv_P D [] [(h0, .inr (0, [.ref (q 0), .int 0, .int 108, .ref (q 1), .int 0, .ref (q 2), .int 0, .ref (q 3), .ref (q 4), .int 1, .ref (q 5), .ref (q 6), .ref (q 7), .ref (q 8), .ref (q 9)]))] (va_A [] sz) sz)) (fun _ _ _ _ => False) (vx_X (fun _ : Unit => True) (fun E _ _ => E = "java/lang/IndexOutOfBoundsException") (va_A [] sz)) 1 6 (va_A [] sz) := by
  refine vx_ofW (cc := cX11_isIrreducible) (maxL := 3) (ret := (some .boolean)) (by decide) rfl ?_
  intro p e s m args below meth c s₁ B hml hnt hv
  obtain ⟨rfl, hsz, hE, hP, hK, hD0⟩ := hv
  have hx := B.exec
  have hb := B.bytes
  have hr := B.returns
  have hts := fun (w : Cond) (h : w ∈ pv_W) => atoms_spec (ws := Cond.code yX11_isIrreducible cX11_isIrreducible 3 (some .boolean) :: pv_W) B.pre w (List.mem_cons_of_mem _ h)
  have hg := fun {w : Cond} (h : w ∈ lw_tbl) (g : goodWord w = true) => hts w (pv_in h g)
  have hown : s.vm.findClass RX11 = some m.cls := findClass_of_methodNamed B.named
  have hlocks := B.notSynchronized
  subst hsz
  have hD := hD0
  generalize hAe : va_A [] s.heap.size = A at hE ⊢
  have hA : ∀ q : Nat, s.heap.size ≤ q → A q := fun q h => by rw [← hAe]; exact Or.inr h
  have hS : va_S A s.heap s.heap [] := va_S.rf
  have hP : va_P D pv_cl [(h0, .inr (0, [.ref (q 0), .int 0, .int 108, .ref (q 1), .int 0, .ref (q 2), .int 0, .ref (q 3), .ref (q 4), .int 1, .ref (q 5), .ref (q 6), .ref (q 7), .ref (q 8), .ref (q 9)]))] s.heap := hP
  have hl := lv_entry ([.ref h0, .int p0]) (n := 3) (Nat.le_of_ble_eq_true rfl)
  rw [lg_entry_eq]
  generalize (lg_sl ([.ref h0, .int p0]) ++ List.replicate (3 - (lg_sl ([.ref h0, .int p0])).length) Slot.unset).toArray = ls at hl ⊢
  have hl : lv_has ls 3 [(0, .ref h0), (1, .int p0)] := hl
  refine lv_aload_n hx hb dX11_isIrreducible_0 rfl (lv_at hl 0 rfl) ?_
  refine lv_iload_n hx hb dX11_isIrreducible_1 rfl (lv_at hl 1 rfl) ?_
  have hF := pv_new hA hS.1
  refine pv_thrown (vx_runV (As := [.int p0]) (rest := []) ⟨hx, hb, hml, hown, hts⟩ (c_X11_polynomialAt l hfl D _ h0 q p0) (cwV 1 hts (pv_gV w5_112 w5_114 wp3_13 w1_1 w5_115) rfl rfl rfl (by decide +kernel) ⟨Nat.le_of_ble_eq_true rfl, Nat.le_of_ble_eq_true rfl⟩) (pv_pV hE hS hF (hP.sub [0] rfl) (hK.sub [] rfl) (hD.sub [0] (by decide) rfl) (va_recv (ci := 0) (q0 := 0) hK hP rfl rfl)) rfl rfl hl.1 rfl (lv_room (Nat.le_of_ble_eq_true rfl)) dX11_isIrreducible_2 ⟨Nat.le_of_ble_eq_true rfl, Nat.le_of_ble_eq_true rfl⟩) (fun _ _ _ h => h) hS hF hF (fun E ce q9 u t H1 locs1 ht hvm hpx hbx hz1 hk1 hS hce hcv hcl => ?_)
  exact vx_out (fun x h9 => absurd (hnt x h9) id) hlocks hce hcv hcl (fun t ht hvm => ⟨(), trivial, hbx, hS.F ht⟩) hS.2.2 (Nat.le_of_ble_eq_true rfl) (Nat.le_of_ble_eq_true rfl)

theorem dX11_roots_0 : decode cX11_roots 0 = .ok (.aload_n 0, 1) := by decide +kernel
theorem dX11_roots_1 : decode cX11_roots 1 = .ok (.iload_n 1, 1) := by decide +kernel
theorem dX11_roots_2 : decode cX11_roots 2 = .ok (.invokevirtual 103, 3) := by decide +kernel
set_option maxHeartbeats 4000000 in
set_option maxRecDepth 100000 in
/-- roots on a fresh object: throws -/
theorem c_X11_roots (l : Launch) (hfl : l.stackTraces = false) (D : va_G) (sz : Nat) (h0 : Nat) (q : Nat → Nat) (p0 : Int32) : vx_Met l yX11_roots (Cond.code yX11_roots cX11_roots 3 (some .int) :: pv_W) ({ frames := 8, cells := 1, slots := 6, locals := 122 } : Room) (va_Pc [.ref h0, .int p0] (pv_P D [] [(h0, .inr (0, [.ref (q 0), .int 0, .int 108, .ref (q 1), .int 0, .ref (q 2), .int 0, .ref (q 3), .ref (q 4), .int 1, .ref (q 5), .ref (q 6), .ref (q 7), .ref (q 8), .ref (q 9)]))] (va_A [] sz) sz)) (fun _ _ _ _ => False) (vx_X (fun _ : Unit => True) (fun E _ _ => E = "java/lang/IndexOutOfBoundsException") (va_A [] sz)) 1 6 (va_A [] sz) := by
  refine vx_ofW (cc := cX11_roots) (maxL := 3) (ret := (some .int)) (by decide) rfl ?_
  intro p e s m args below meth c s₁ B hml hnt hv
  obtain ⟨rfl, hsz, hE, hP, hK, hD0⟩ := hv
  have hx := B.exec
  have hb := B.bytes
  have hr := B.returns
  have hts := fun (w : Cond) (h : w ∈ pv_W) => atoms_spec (ws := Cond.code yX11_roots cX11_roots 3 (some .int) :: pv_W) B.pre w (List.mem_cons_of_mem _ h)
  have hg := fun {w : Cond} (h : w ∈ lw_tbl) (g : goodWord w = true) => hts w (pv_in h g)
  have hown : s.vm.findClass RX11 = some m.cls := findClass_of_methodNamed B.named
  have hlocks := B.notSynchronized
  subst hsz
  have hD := hD0
  generalize hAe : va_A [] s.heap.size = A at hE ⊢
  have hA : ∀ q : Nat, s.heap.size ≤ q → A q := fun q h => by rw [← hAe]; exact Or.inr h
  have hS : va_S A s.heap s.heap [] := va_S.rf
  have hP : va_P D pv_cl [(h0, .inr (0, [.ref (q 0), .int 0, .int 108, .ref (q 1), .int 0, .ref (q 2), .int 0, .ref (q 3), .ref (q 4), .int 1, .ref (q 5), .ref (q 6), .ref (q 7), .ref (q 8), .ref (q 9)]))] s.heap := hP
  have hl := lv_entry ([.ref h0, .int p0]) (n := 3) (Nat.le_of_ble_eq_true rfl)
  rw [lg_entry_eq]
  generalize (lg_sl ([.ref h0, .int p0]) ++ List.replicate (3 - (lg_sl ([.ref h0, .int p0])).length) Slot.unset).toArray = ls at hl ⊢
  have hl : lv_has ls 3 [(0, .ref h0), (1, .int p0)] := hl
  refine lv_aload_n hx hb dX11_roots_0 rfl (lv_at hl 0 rfl) ?_
  refine lv_iload_n hx hb dX11_roots_1 rfl (lv_at hl 1 rfl) ?_
  have hF := pv_new hA hS.1
  refine pv_thrown (vx_runV (As := [.int p0]) (rest := []) ⟨hx, hb, hml, hown, hts⟩ (c_X11_polynomialAt l hfl D _ h0 q p0) (cwV 1 hts (pv_gV w5_112 w5_114 wp3_13 w1_1 w5_115) rfl rfl rfl (by decide +kernel) ⟨Nat.le_of_ble_eq_true rfl, Nat.le_of_ble_eq_true rfl⟩) (pv_pV hE hS hF (hP.sub [0] rfl) (hK.sub [] rfl) (hD.sub [0] (by decide) rfl) (va_recv (ci := 0) (q0 := 0) hK hP rfl rfl)) rfl rfl hl.1 rfl (lv_room (Nat.le_of_ble_eq_true rfl)) dX11_roots_2 ⟨Nat.le_of_ble_eq_true rfl, Nat.le_of_ble_eq_true rfl⟩) (fun _ _ _ h => h) hS hF hF (fun E ce q9 u t H1 locs1 ht hvm hpx hbx hz1 hk1 hS hce hcv hcl => ?_)
  exact vx_out (fun x h9 => absurd (hnt x h9) id) hlocks hce hcv hcl (fun t ht hvm => ⟨(), trivial, hbx, hS.F ht⟩) hS.2.2 (Nat.le_of_ble_eq_true rfl) (Nat.le_of_ble_eq_true rfl)

theorem dX11_resultant_0 : decode cX11_resultant 0 = .ok (.aload_n 0, 1) := by decide +kernel
theorem dX11_resultant_1 : decode cX11_resultant 1 = .ok (.iload_n 1, 1) := by decide +kernel
theorem dX11_resultant_2 : decode cX11_resultant 2 = .ok (.invokevirtual 103, 3) := by decide +kernel
set_option maxHeartbeats 4000000 in
set_option maxRecDepth 100000 in
/-- resultant on a fresh object: throws -/
theorem c_X11_resultant (l : Launch) (hfl : l.stackTraces = false) (D : va_G) (sz : Nat) (h0 : Nat) (q : Nat → Nat) (p0 p1 : Int32) : vx_Met l yX11_resultant (Cond.code yX11_resultant cX11_resultant 5 (some .int) :: pv_W) ({ frames := 8, cells := 1, slots := 6, locals := 122 } : Room) (va_Pc [.ref h0, .int p0, .int p1] (pv_P D [] [(h0, .inr (0, [.ref (q 0), .int 0, .int 108, .ref (q 1), .int 0, .ref (q 2), .int 0, .ref (q 3), .ref (q 4), .int 1, .ref (q 5), .ref (q 6), .ref (q 7), .ref (q 8), .ref (q 9)]))] (va_A [] sz) sz)) (fun _ _ _ _ => False) (vx_X (fun _ : Unit => True) (fun E _ _ => E = "java/lang/IndexOutOfBoundsException") (va_A [] sz)) 1 6 (va_A [] sz) := by
  refine vx_ofW (cc := cX11_resultant) (maxL := 5) (ret := (some .int)) (by decide) rfl ?_
  intro p e s m args below meth c s₁ B hml hnt hv
  obtain ⟨rfl, hsz, hE, hP, hK, hD0⟩ := hv
  have hx := B.exec
  have hb := B.bytes
  have hr := B.returns
  have hts := fun (w : Cond) (h : w ∈ pv_W) => atoms_spec (ws := Cond.code yX11_resultant cX11_resultant 5 (some .int) :: pv_W) B.pre w (List.mem_cons_of_mem _ h)
  have hg := fun {w : Cond} (h : w ∈ lw_tbl) (g : goodWord w = true) => hts w (pv_in h g)
  have hown : s.vm.findClass RX11 = some m.cls := findClass_of_methodNamed B.named
  have hlocks := B.notSynchronized
  subst hsz
  have hD := hD0
  generalize hAe : va_A [] s.heap.size = A at hE ⊢
  have hA : ∀ q : Nat, s.heap.size ≤ q → A q := fun q h => by rw [← hAe]; exact Or.inr h
  have hS : va_S A s.heap s.heap [] := va_S.rf
  have hP : va_P D pv_cl [(h0, .inr (0, [.ref (q 0), .int 0, .int 108, .ref (q 1), .int 0, .ref (q 2), .int 0, .ref (q 3), .ref (q 4), .int 1, .ref (q 5), .ref (q 6), .ref (q 7), .ref (q 8), .ref (q 9)]))] s.heap := hP
  have hl := lv_entry ([.ref h0, .int p0, .int p1]) (n := 5) (Nat.le_of_ble_eq_true rfl)
  rw [lg_entry_eq]
  generalize (lg_sl ([.ref h0, .int p0, .int p1]) ++ List.replicate (5 - (lg_sl ([.ref h0, .int p0, .int p1])).length) Slot.unset).toArray = ls at hl ⊢
  have hl : lv_has ls 5 [(0, .ref h0), (1, .int p0), (2, .int p1)] := hl
  refine lv_aload_n hx hb dX11_resultant_0 rfl (lv_at hl 0 rfl) ?_
  refine lv_iload_n hx hb dX11_resultant_1 rfl (lv_at hl 1 rfl) ?_
  have hF := pv_new hA hS.1
  refine pv_thrown (vx_runV (As := [.int p0]) (rest := []) ⟨hx, hb, hml, hown, hts⟩ (c_X11_polynomialAt l hfl D _ h0 q p0) (cwV 1 hts (pv_gV w5_112 w5_114 wp3_13 w1_1 w5_115) rfl rfl rfl (by decide +kernel) ⟨Nat.le_of_ble_eq_true rfl, Nat.le_of_ble_eq_true rfl⟩) (pv_pV hE hS hF (hP.sub [0] rfl) (hK.sub [] rfl) (hD.sub [0] (by decide) rfl) (va_recv (ci := 0) (q0 := 0) hK hP rfl rfl)) rfl rfl hl.1 rfl (lv_room (Nat.le_of_ble_eq_true rfl)) dX11_resultant_2 ⟨Nat.le_of_ble_eq_true rfl, Nat.le_of_ble_eq_true rfl⟩) (fun _ _ _ h => h) hS hF hF (fun E ce q9 u t H1 locs1 ht hvm hpx hbx hz1 hk1 hS hce hcv hcl => ?_)
  exact vx_out (fun x h9 => absurd (hnt x h9) id) hlocks hce hcv hcl (fun t ht hvm => ⟨(), trivial, hbx, hS.F ht⟩) hS.2.2 (Nat.le_of_ble_eq_true rfl) (Nat.le_of_ble_eq_true rfl)

theorem dX11_resultantByDeterminant_0 : decode cX11_resultantByDeterminant 0 = .ok (.aload_n 0, 1) := by decide +kernel
theorem dX11_resultantByDeterminant_1 : decode cX11_resultantByDeterminant 1 = .ok (.iload_n 1, 1) := by decide +kernel
theorem dX11_resultantByDeterminant_2 : decode cX11_resultantByDeterminant 2 = .ok (.invokevirtual 103, 3) := by decide +kernel
set_option maxHeartbeats 4000000 in
set_option maxRecDepth 100000 in
/-- resultantByDeterminant on a fresh object: throws -/
theorem c_X11_resultantByDeterminant (l : Launch) (hfl : l.stackTraces = false) (D : va_G) (sz : Nat) (h0 : Nat) (q : Nat → Nat) (p0 p1 : Int32) : vx_Met l yX11_resultantByDeterminant (Cond.code yX11_resultantByDeterminant cX11_resultantByDeterminant 5 (some .int) :: pv_W) ({ frames := 8, cells := 1, slots := 6, locals := 122 } : Room) (va_Pc [.ref h0, .int p0, .int p1] (pv_P D [] [(h0, .inr (0, [.ref (q 0), .int 0, .int 108, .ref (q 1), .int 0, .ref (q 2), .int 0, .ref (q 3), .ref (q 4), .int 1, .ref (q 5), .ref (q 6), .ref (q 7), .ref (q 8), .ref (q 9)]))] (va_A [] sz) sz)) (fun _ _ _ _ => False) (vx_X (fun _ : Unit => True) (fun E _ _ => E = "java/lang/IndexOutOfBoundsException") (va_A [] sz)) 1 6 (va_A [] sz) := by
  refine vx_ofW (cc := cX11_resultantByDeterminant) (maxL := 5) (ret := (some .int)) (by decide) rfl ?_
  intro p e s m args below meth c s₁ B hml hnt hv
  obtain ⟨rfl, hsz, hE, hP, hK, hD0⟩ := hv
  have hx := B.exec
  have hb := B.bytes
  have hr := B.returns
  have hts := fun (w : Cond) (h : w ∈ pv_W) => atoms_spec (ws := Cond.code yX11_resultantByDeterminant cX11_resultantByDeterminant 5 (some .int) :: pv_W) B.pre w (List.mem_cons_of_mem _ h)
  have hg := fun {w : Cond} (h : w ∈ lw_tbl) (g : goodWord w = true) => hts w (pv_in h g)
  have hown : s.vm.findClass RX11 = some m.cls := findClass_of_methodNamed B.named
  have hlocks := B.notSynchronized
  subst hsz
  have hD := hD0
  generalize hAe : va_A [] s.heap.size = A at hE ⊢
  have hA : ∀ q : Nat, s.heap.size ≤ q → A q := fun q h => by rw [← hAe]; exact Or.inr h
  have hS : va_S A s.heap s.heap [] := va_S.rf
  have hP : va_P D pv_cl [(h0, .inr (0, [.ref (q 0), .int 0, .int 108, .ref (q 1), .int 0, .ref (q 2), .int 0, .ref (q 3), .ref (q 4), .int 1, .ref (q 5), .ref (q 6), .ref (q 7), .ref (q 8), .ref (q 9)]))] s.heap := hP
  have hl := lv_entry ([.ref h0, .int p0, .int p1]) (n := 5) (Nat.le_of_ble_eq_true rfl)
  rw [lg_entry_eq]
  generalize (lg_sl ([.ref h0, .int p0, .int p1]) ++ List.replicate (5 - (lg_sl ([.ref h0, .int p0, .int p1])).length) Slot.unset).toArray = ls at hl ⊢
  have hl : lv_has ls 5 [(0, .ref h0), (1, .int p0), (2, .int p1)] := hl
  refine lv_aload_n hx hb dX11_resultantByDeterminant_0 rfl (lv_at hl 0 rfl) ?_
  refine lv_iload_n hx hb dX11_resultantByDeterminant_1 rfl (lv_at hl 1 rfl) ?_
  have hF := pv_new hA hS.1
  refine pv_thrown (vx_runV (As := [.int p0]) (rest := []) ⟨hx, hb, hml, hown, hts⟩ (c_X11_polynomialAt l hfl D _ h0 q p0) (cwV 1 hts (pv_gV w5_112 w5_114 wp3_13 w1_1 w5_115) rfl rfl rfl (by decide +kernel) ⟨Nat.le_of_ble_eq_true rfl, Nat.le_of_ble_eq_true rfl⟩) (pv_pV hE hS hF (hP.sub [0] rfl) (hK.sub [] rfl) (hD.sub [0] (by decide) rfl) (va_recv (ci := 0) (q0 := 0) hK hP rfl rfl)) rfl rfl hl.1 rfl (lv_room (Nat.le_of_ble_eq_true rfl)) dX11_resultantByDeterminant_2 ⟨Nat.le_of_ble_eq_true rfl, Nat.le_of_ble_eq_true rfl⟩) (fun _ _ _ h => h) hS hF hF (fun E ce q9 u t H1 locs1 ht hvm hpx hbx hz1 hk1 hS hce hcv hcl => ?_)
  exact vx_out (fun x h9 => absurd (hnt x h9) id) hlocks hce hcv hcl (fun t ht hvm => ⟨(), trivial, hbx, hS.F ht⟩) hS.2.2 (Nat.le_of_ble_eq_true rfl) (Nat.le_of_ble_eq_true rfl)

theorem dX11_series_0 : decode cX11_series 0 = .ok (.aload_n 0, 1) := by decide +kernel
theorem dX11_series_1 : decode cX11_series 1 = .ok (.iload_n 1, 1) := by decide +kernel
theorem dX11_series_2 : decode cX11_series 2 = .ok (.invokevirtual 103, 3) := by decide +kernel
set_option maxHeartbeats 4000000 in
set_option maxRecDepth 100000 in
/-- series on a fresh object: throws -/
theorem c_X11_series (l : Launch) (hfl : l.stackTraces = false) (D : va_G) (sz : Nat) (h0 : Nat) (q : Nat → Nat) (p0 p1 p2 : Int32) : vx_Met l yX11_series (Cond.code yX11_series cX11_series 6 (some .int) :: pv_W) ({ frames := 8, cells := 1, slots := 6, locals := 122 } : Room) (va_Pc [.ref h0, .int p0, .int p1, .int p2] (pv_P D [] [(h0, .inr (0, [.ref (q 0), .int 0, .int 108, .ref (q 1), .int 0, .ref (q 2), .int 0, .ref (q 3), .ref (q 4), .int 1, .ref (q 5), .ref (q 6), .ref (q 7), .ref (q 8), .ref (q 9)]))] (va_A [] sz) sz)) (fun _ _ _ _ => False) (vx_X (fun _ : Unit => True) (fun E _ _ => E = "java/lang/IndexOutOfBoundsException") (va_A [] sz)) 1 6 (va_A [] sz) := by
  refine vx_ofW (cc := cX11_series) (maxL := 6) (ret := (some .int)) (by decide) rfl ?_
  intro p e s m args below meth c s₁ B hml hnt hv
  obtain ⟨rfl, hsz, hE, hP, hK, hD0⟩ := hv
  have hx := B.exec
  have hb := B.bytes
  have hr := B.returns
  have hts := fun (w : Cond) (h : w ∈ pv_W) => atoms_spec (ws := Cond.code yX11_series cX11_series 6 (some .int) :: pv_W) B.pre w (List.mem_cons_of_mem _ h)
  have hg := fun {w : Cond} (h : w ∈ lw_tbl) (g : goodWord w = true) => hts w (pv_in h g)
  have hown : s.vm.findClass RX11 = some m.cls := findClass_of_methodNamed B.named
  have hlocks := B.notSynchronized
  subst hsz
  have hD := hD0
  generalize hAe : va_A [] s.heap.size = A at hE ⊢
  have hA : ∀ q : Nat, s.heap.size ≤ q → A q := fun q h => by rw [← hAe]; exact Or.inr h
  have hS : va_S A s.heap s.heap [] := va_S.rf
  have hP : va_P D pv_cl [(h0, .inr (0, [.ref (q 0), .int 0, .int 108, .ref (q 1), .int 0, .ref (q 2), .int 0, .ref (q 3), .ref (q 4), .int 1, .ref (q 5), .ref (q 6), .ref (q 7), .ref (q 8), .ref (q 9)]))] s.heap := hP
  have hl := lv_entry ([.ref h0, .int p0, .int p1, .int p2]) (n := 6) (Nat.le_of_ble_eq_true rfl)
  rw [lg_entry_eq]
  generalize (lg_sl ([.ref h0, .int p0, .int p1, .int p2]) ++ List.replicate (6 - (lg_sl ([.ref h0, .int p0, .int p1, .int p2])).length) Slot.unset).toArray = ls at hl ⊢
  have hl : lv_has ls 6 [(0, .ref h0), (1, .int p0), (2, .int p1), (3, .int p2)] := hl
  refine lv_aload_n hx hb dX11_series_0 rfl (lv_at hl 0 rfl) ?_
  refine lv_iload_n hx hb dX11_series_1 rfl (lv_at hl 1 rfl) ?_
  have hF := pv_new hA hS.1
  refine pv_thrown (vx_runV (As := [.int p0]) (rest := []) ⟨hx, hb, hml, hown, hts⟩ (c_X11_polynomialAt l hfl D _ h0 q p0) (cwV 1 hts (pv_gV w5_112 w5_114 wp3_13 w1_1 w5_115) rfl rfl rfl (by decide +kernel) ⟨Nat.le_of_ble_eq_true rfl, Nat.le_of_ble_eq_true rfl⟩) (pv_pV hE hS hF (hP.sub [0] rfl) (hK.sub [] rfl) (hD.sub [0] (by decide) rfl) (va_recv (ci := 0) (q0 := 0) hK hP rfl rfl)) rfl rfl hl.1 rfl (lv_room (Nat.le_of_ble_eq_true rfl)) dX11_series_2 ⟨Nat.le_of_ble_eq_true rfl, Nat.le_of_ble_eq_true rfl⟩) (fun _ _ _ h => h) hS hF hF (fun E ce q9 u t H1 locs1 ht hvm hpx hbx hz1 hk1 hS hce hcv hcl => ?_)
  exact vx_out (fun x h9 => absurd (hnt x h9) id) hlocks hce hcv hcl (fun t ht hvm => ⟨(), trivial, hbx, hS.F ht⟩) hS.2.2 (Nat.le_of_ble_eq_true rfl) (Nat.le_of_ble_eq_true rfl)

theorem dX11_limit_0 : decode cX11_limit 0 = .ok (.aload_n 0, 1) := by decide +kernel
theorem dX11_limit_1 : decode cX11_limit 1 = .ok (.iload_n 1, 1) := by decide +kernel
theorem dX11_limit_2 : decode cX11_limit 2 = .ok (.invokevirtual 103, 3) := by decide +kernel
set_option maxHeartbeats 4000000 in
set_option maxRecDepth 100000 in
/-- limit on a fresh object: throws -/
theorem c_X11_limit (l : Launch) (hfl : l.stackTraces = false) (D : va_G) (sz : Nat) (h0 : Nat) (q : Nat → Nat) (p0 p1 p2 : Int32) : vx_Met l yX11_limit (Cond.code yX11_limit cX11_limit 7 (some .int) :: pv_W) ({ frames := 8, cells := 1, slots := 6, locals := 122 } : Room) (va_Pc [.ref h0, .int p0, .int p1, .int p2] (pv_P D [] [(h0, .inr (0, [.ref (q 0), .int 0, .int 108, .ref (q 1), .int 0, .ref (q 2), .int 0, .ref (q 3), .ref (q 4), .int 1, .ref (q 5), .ref (q 6), .ref (q 7), .ref (q 8), .ref (q 9)]))] (va_A [] sz) sz)) (fun _ _ _ _ => False) (vx_X (fun _ : Unit => True) (fun E _ _ => E = "java/lang/IndexOutOfBoundsException") (va_A [] sz)) 1 6 (va_A [] sz) := by
  refine vx_ofW (cc := cX11_limit) (maxL := 7) (ret := (some .int)) (by decide) rfl ?_
  intro p e s m args below meth c s₁ B hml hnt hv
  obtain ⟨rfl, hsz, hE, hP, hK, hD0⟩ := hv
  have hx := B.exec
  have hb := B.bytes
  have hr := B.returns
  have hts := fun (w : Cond) (h : w ∈ pv_W) => atoms_spec (ws := Cond.code yX11_limit cX11_limit 7 (some .int) :: pv_W) B.pre w (List.mem_cons_of_mem _ h)
  have hg := fun {w : Cond} (h : w ∈ lw_tbl) (g : goodWord w = true) => hts w (pv_in h g)
  have hown : s.vm.findClass RX11 = some m.cls := findClass_of_methodNamed B.named
  have hlocks := B.notSynchronized
  subst hsz
  have hD := hD0
  generalize hAe : va_A [] s.heap.size = A at hE ⊢
  have hA : ∀ q : Nat, s.heap.size ≤ q → A q := fun q h => by rw [← hAe]; exact Or.inr h
  have hS : va_S A s.heap s.heap [] := va_S.rf
  have hP : va_P D pv_cl [(h0, .inr (0, [.ref (q 0), .int 0, .int 108, .ref (q 1), .int 0, .ref (q 2), .int 0, .ref (q 3), .ref (q 4), .int 1, .ref (q 5), .ref (q 6), .ref (q 7), .ref (q 8), .ref (q 9)]))] s.heap := hP
  have hl := lv_entry ([.ref h0, .int p0, .int p1, .int p2]) (n := 7) (Nat.le_of_ble_eq_true rfl)
  rw [lg_entry_eq]
  generalize (lg_sl ([.ref h0, .int p0, .int p1, .int p2]) ++ List.replicate (7 - (lg_sl ([.ref h0, .int p0, .int p1, .int p2])).length) Slot.unset).toArray = ls at hl ⊢
  have hl : lv_has ls 7 [(0, .ref h0), (1, .int p0), (2, .int p1), (3, .int p2)] := hl
  refine lv_aload_n hx hb dX11_limit_0 rfl (lv_at hl 0 rfl) ?_
  refine lv_iload_n hx hb dX11_limit_1 rfl (lv_at hl 1 rfl) ?_
  have hF := pv_new hA hS.1
  refine pv_thrown (vx_runV (As := [.int p0]) (rest := []) ⟨hx, hb, hml, hown, hts⟩ (c_X11_polynomialAt l hfl D _ h0 q p0) (cwV 1 hts (pv_gV w5_112 w5_114 wp3_13 w1_1 w5_115) rfl rfl rfl (by decide +kernel) ⟨Nat.le_of_ble_eq_true rfl, Nat.le_of_ble_eq_true rfl⟩) (pv_pV hE hS hF (hP.sub [0] rfl) (hK.sub [] rfl) (hD.sub [0] (by decide) rfl) (va_recv (ci := 0) (q0 := 0) hK hP rfl rfl)) rfl rfl hl.1 rfl (lv_room (Nat.le_of_ble_eq_true rfl)) dX11_limit_2 ⟨Nat.le_of_ble_eq_true rfl, Nat.le_of_ble_eq_true rfl⟩) (fun _ _ _ h => h) hS hF hF (fun E ce q9 u t H1 locs1 ht hvm hpx hbx hz1 hk1 hS hce hcv hcl => ?_)
  exact vx_out (fun x h9 => absurd (hnt x h9) id) hlocks hce hcv hcl (fun t ht hvm => ⟨(), trivial, hbx, hS.F ht⟩) hS.2.2 (Nat.le_of_ble_eq_true rfl) (Nat.le_of_ble_eq_true rfl)

theorem dX11_partial_0 : decode cX11_partial 0 = .ok (.aload_n 0, 1) := by decide +kernel
theorem dX11_partial_1 : decode cX11_partial 1 = .ok (.iload_n 1, 1) := by decide +kernel
theorem dX11_partial_2 : decode cX11_partial 2 = .ok (.invokevirtual 103, 3) := by decide +kernel
set_option maxHeartbeats 4000000 in
set_option maxRecDepth 100000 in
/-- partial on a fresh object: throws -/
theorem c_X11_partial (l : Launch) (hfl : l.stackTraces = false) (D : va_G) (sz : Nat) (h0 : Nat) (q : Nat → Nat) (p0 p1 p2 : Int32) : vx_Met l yX11_partial (Cond.code yX11_partial cX11_partial 6 (some .int) :: pv_W) ({ frames := 8, cells := 1, slots := 6, locals := 122 } : Room) (va_Pc [.ref h0, .int p0, .int p1, .int p2] (pv_P D [] [(h0, .inr (0, [.ref (q 0), .int 0, .int 108, .ref (q 1), .int 0, .ref (q 2), .int 0, .ref (q 3), .ref (q 4), .int 1, .ref (q 5), .ref (q 6), .ref (q 7), .ref (q 8), .ref (q 9)]))] (va_A [] sz) sz)) (fun _ _ _ _ => False) (vx_X (fun _ : Unit => True) (fun E _ _ => E = "java/lang/IndexOutOfBoundsException") (va_A [] sz)) 1 6 (va_A [] sz) := by
  refine vx_ofW (cc := cX11_partial) (maxL := 6) (ret := (some .int)) (by decide) rfl ?_
  intro p e s m args below meth c s₁ B hml hnt hv
  obtain ⟨rfl, hsz, hE, hP, hK, hD0⟩ := hv
  have hx := B.exec
  have hb := B.bytes
  have hr := B.returns
  have hts := fun (w : Cond) (h : w ∈ pv_W) => atoms_spec (ws := Cond.code yX11_partial cX11_partial 6 (some .int) :: pv_W) B.pre w (List.mem_cons_of_mem _ h)
  have hg := fun {w : Cond} (h : w ∈ lw_tbl) (g : goodWord w = true) => hts w (pv_in h g)
  have hown : s.vm.findClass RX11 = some m.cls := findClass_of_methodNamed B.named
  have hlocks := B.notSynchronized
  subst hsz
  have hD := hD0
  generalize hAe : va_A [] s.heap.size = A at hE ⊢
  have hA : ∀ q : Nat, s.heap.size ≤ q → A q := fun q h => by rw [← hAe]; exact Or.inr h
  have hS : va_S A s.heap s.heap [] := va_S.rf
  have hP : va_P D pv_cl [(h0, .inr (0, [.ref (q 0), .int 0, .int 108, .ref (q 1), .int 0, .ref (q 2), .int 0, .ref (q 3), .ref (q 4), .int 1, .ref (q 5), .ref (q 6), .ref (q 7), .ref (q 8), .ref (q 9)]))] s.heap := hP
  have hl := lv_entry ([.ref h0, .int p0, .int p1, .int p2]) (n := 6) (Nat.le_of_ble_eq_true rfl)
  rw [lg_entry_eq]
  generalize (lg_sl ([.ref h0, .int p0, .int p1, .int p2]) ++ List.replicate (6 - (lg_sl ([.ref h0, .int p0, .int p1, .int p2])).length) Slot.unset).toArray = ls at hl ⊢
  have hl : lv_has ls 6 [(0, .ref h0), (1, .int p0), (2, .int p1), (3, .int p2)] := hl
  refine lv_aload_n hx hb dX11_partial_0 rfl (lv_at hl 0 rfl) ?_
  refine lv_iload_n hx hb dX11_partial_1 rfl (lv_at hl 1 rfl) ?_
  have hF := pv_new hA hS.1
  refine pv_thrown (vx_runV (As := [.int p0]) (rest := []) ⟨hx, hb, hml, hown, hts⟩ (c_X11_polynomialAt l hfl D _ h0 q p0) (cwV 1 hts (pv_gV w5_112 w5_114 wp3_13 w1_1 w5_115) rfl rfl rfl (by decide +kernel) ⟨Nat.le_of_ble_eq_true rfl, Nat.le_of_ble_eq_true rfl⟩) (pv_pV hE hS hF (hP.sub [0] rfl) (hK.sub [] rfl) (hD.sub [0] (by decide) rfl) (va_recv (ci := 0) (q0 := 0) hK hP rfl rfl)) rfl rfl hl.1 rfl (lv_room (Nat.le_of_ble_eq_true rfl)) dX11_partial_2 ⟨Nat.le_of_ble_eq_true rfl, Nat.le_of_ble_eq_true rfl⟩) (fun _ _ _ h => h) hS hF hF (fun E ce q9 u t H1 locs1 ht hvm hpx hbx hz1 hk1 hS hce hcv hcl => ?_)
  exact vx_out (fun x h9 => absurd (hnt x h9) id) hlocks hce hcv hcl (fun t ht hvm => ⟨(), trivial, hbx, hS.F ht⟩) hS.2.2 (Nat.le_of_ble_eq_true rfl) (Nat.le_of_ble_eq_true rfl)

theorem dX11_addRule_0 : decode cX11_addRule 0 = .ok (.aload_n 0, 1) := by decide +kernel
theorem dX11_addRule_1 : decode cX11_addRule 1 = .ok (.iload 4, 2) := by decide +kernel
theorem dX11_addRule_3 : decode cX11_addRule 3 = .ok (.invokevirtual 103, 3) := by decide +kernel
set_option maxHeartbeats 4000000 in
set_option maxRecDepth 100000 in
/-- addRule on a fresh object: throws -/
theorem c_X11_addRule (l : Launch) (hfl : l.stackTraces = false) (D : va_G) (sz : Nat) (h0 : Nat) (q : Nat → Nat) (p0 p1 p2 p3 p4 p5 : Int32) : vx_Met l yX11_addRule (Cond.code yX11_addRule cX11_addRule 8 (some .int) :: pv_W) ({ frames := 8, cells := 1, slots := 6, locals := 122 } : Room) (va_Pc [.ref h0, .int p0, .int p1, .int p2, .int p3, .int p4, .int p5] (pv_P D [] [(h0, .inr (0, [.ref (q 0), .int 0, .int 108, .ref (q 1), .int 0, .ref (q 2), .int 0, .ref (q 3), .ref (q 4), .int 1, .ref (q 5), .ref (q 6), .ref (q 7), .ref (q 8), .ref (q 9)]))] (va_A [] sz) sz)) (fun _ _ _ _ => False) (vx_X (fun _ : Unit => True) (fun E _ _ => E = "java/lang/IndexOutOfBoundsException") (va_A [] sz)) 1 6 (va_A [] sz) := by
  refine vx_ofW (cc := cX11_addRule) (maxL := 8) (ret := (some .int)) (by decide) rfl ?_
  intro p e s m args below meth c s₁ B hml hnt hv
  obtain ⟨rfl, hsz, hE, hP, hK, hD0⟩ := hv
  have hx := B.exec
  have hb := B.bytes
  have hr := B.returns
  have hts := fun (w : Cond) (h : w ∈ pv_W) => atoms_spec (ws := Cond.code yX11_addRule cX11_addRule 8 (some .int) :: pv_W) B.pre w (List.mem_cons_of_mem _ h)
  have hg := fun {w : Cond} (h : w ∈ lw_tbl) (g : goodWord w = true) => hts w (pv_in h g)
  have hown : s.vm.findClass RX11 = some m.cls := findClass_of_methodNamed B.named
  have hlocks := B.notSynchronized
  subst hsz
  have hD := hD0
  generalize hAe : va_A [] s.heap.size = A at hE ⊢
  have hA : ∀ q : Nat, s.heap.size ≤ q → A q := fun q h => by rw [← hAe]; exact Or.inr h
  have hS : va_S A s.heap s.heap [] := va_S.rf
  have hP : va_P D pv_cl [(h0, .inr (0, [.ref (q 0), .int 0, .int 108, .ref (q 1), .int 0, .ref (q 2), .int 0, .ref (q 3), .ref (q 4), .int 1, .ref (q 5), .ref (q 6), .ref (q 7), .ref (q 8), .ref (q 9)]))] s.heap := hP
  have hl := lv_entry ([.ref h0, .int p0, .int p1, .int p2, .int p3, .int p4, .int p5]) (n := 8) (Nat.le_of_ble_eq_true rfl)
  rw [lg_entry_eq]
  generalize (lg_sl ([.ref h0, .int p0, .int p1, .int p2, .int p3, .int p4, .int p5]) ++ List.replicate (8 - (lg_sl ([.ref h0, .int p0, .int p1, .int p2, .int p3, .int p4, .int p5])).length) Slot.unset).toArray = ls at hl ⊢
  have hl : lv_has ls 8 [(0, .ref h0), (1, .int p0), (2, .int p1), (3, .int p2), (4, .int p3), (5, .int p4), (6, .int p5)] := hl
  refine lv_aload_n hx hb dX11_addRule_0 rfl (lv_at hl 0 rfl) ?_
  refine lv_iload hx hb dX11_addRule_1 (lv_at hl 4 rfl) ?_
  have hF := pv_new hA hS.1
  refine pv_thrown (vx_runV (As := [.int p3]) (rest := []) ⟨hx, hb, hml, hown, hts⟩ (c_X11_polynomialAt l hfl D _ h0 q p3) (cwV 1 hts (pv_gV w5_112 w5_114 wp3_13 w1_1 w5_115) rfl rfl rfl (by decide +kernel) ⟨Nat.le_of_ble_eq_true rfl, Nat.le_of_ble_eq_true rfl⟩) (pv_pV hE hS hF (hP.sub [0] rfl) (hK.sub [] rfl) (hD.sub [0] (by decide) rfl) (va_recv (ci := 0) (q0 := 0) hK hP rfl rfl)) rfl rfl hl.1 rfl (lv_room (Nat.le_of_ble_eq_true rfl)) dX11_addRule_3 ⟨Nat.le_of_ble_eq_true rfl, Nat.le_of_ble_eq_true rfl⟩) (fun _ _ _ h => h) hS hF hF (fun E ce q9 u t H1 locs1 ht hvm hpx hbx hz1 hk1 hS hce hcv hcl => ?_)
  exact vx_out (fun x h9 => absurd (hnt x h9) id) hlocks hce hcv hcl (fun t ht hvm => ⟨(), trivial, hbx, hS.F ht⟩) hS.2.2 (Nat.le_of_ble_eq_true rfl) (Nat.le_of_ble_eq_true rfl)

theorem dX11_rewrite_0 : decode cX11_rewrite 0 = .ok (.aload_n 0, 1) := by decide +kernel
theorem dX11_rewrite_1 : decode cX11_rewrite 1 = .ok (.iload_n 1, 1) := by decide +kernel
theorem dX11_rewrite_2 : decode cX11_rewrite 2 = .ok (.invokevirtual 103, 3) := by decide +kernel
set_option maxHeartbeats 4000000 in
set_option maxRecDepth 100000 in
/-- rewrite on a fresh object: throws -/
theorem c_X11_rewrite (l : Launch) (hfl : l.stackTraces = false) (D : va_G) (sz : Nat) (h0 : Nat) (q : Nat → Nat) (p0 : Int32) : vx_Met l yX11_rewrite (Cond.code yX11_rewrite cX11_rewrite 3 (some .int) :: pv_W) ({ frames := 8, cells := 1, slots := 6, locals := 122 } : Room) (va_Pc [.ref h0, .int p0] (pv_P D [] [(h0, .inr (0, [.ref (q 0), .int 0, .int 108, .ref (q 1), .int 0, .ref (q 2), .int 0, .ref (q 3), .ref (q 4), .int 1, .ref (q 5), .ref (q 6), .ref (q 7), .ref (q 8), .ref (q 9)]))] (va_A [] sz) sz)) (fun _ _ _ _ => False) (vx_X (fun _ : Unit => True) (fun E _ _ => E = "java/lang/IndexOutOfBoundsException") (va_A [] sz)) 1 6 (va_A [] sz) := by
  refine vx_ofW (cc := cX11_rewrite) (maxL := 3) (ret := (some .int)) (by decide) rfl ?_
  intro p e s m args below meth c s₁ B hml hnt hv
  obtain ⟨rfl, hsz, hE, hP, hK, hD0⟩ := hv
  have hx := B.exec
  have hb := B.bytes
  have hr := B.returns
  have hts := fun (w : Cond) (h : w ∈ pv_W) => atoms_spec (ws := Cond.code yX11_rewrite cX11_rewrite 3 (some .int) :: pv_W) B.pre w (List.mem_cons_of_mem _ h)
  have hg := fun {w : Cond} (h : w ∈ lw_tbl) (g : goodWord w = true) => hts w (pv_in h g)
  have hown : s.vm.findClass RX11 = some m.cls := findClass_of_methodNamed B.named
  have hlocks := B.notSynchronized
  subst hsz
  have hD := hD0
  generalize hAe : va_A [] s.heap.size = A at hE ⊢
  have hA : ∀ q : Nat, s.heap.size ≤ q → A q := fun q h => by rw [← hAe]; exact Or.inr h
  have hS : va_S A s.heap s.heap [] := va_S.rf
  have hP : va_P D pv_cl [(h0, .inr (0, [.ref (q 0), .int 0, .int 108, .ref (q 1), .int 0, .ref (q 2), .int 0, .ref (q 3), .ref (q 4), .int 1, .ref (q 5), .ref (q 6), .ref (q 7), .ref (q 8), .ref (q 9)]))] s.heap := hP
  have hl := lv_entry ([.ref h0, .int p0]) (n := 3) (Nat.le_of_ble_eq_true rfl)
  rw [lg_entry_eq]
  generalize (lg_sl ([.ref h0, .int p0]) ++ List.replicate (3 - (lg_sl ([.ref h0, .int p0])).length) Slot.unset).toArray = ls at hl ⊢
  have hl : lv_has ls 3 [(0, .ref h0), (1, .int p0)] := hl
  refine lv_aload_n hx hb dX11_rewrite_0 rfl (lv_at hl 0 rfl) ?_
  refine lv_iload_n hx hb dX11_rewrite_1 rfl (lv_at hl 1 rfl) ?_
  have hF := pv_new hA hS.1
  refine pv_thrown (vx_runV (As := [.int p0]) (rest := []) ⟨hx, hb, hml, hown, hts⟩ (c_X11_polynomialAt l hfl D _ h0 q p0) (cwV 1 hts (pv_gV w5_112 w5_114 wp3_13 w1_1 w5_115) rfl rfl rfl (by decide +kernel) ⟨Nat.le_of_ble_eq_true rfl, Nat.le_of_ble_eq_true rfl⟩) (pv_pV hE hS hF (hP.sub [0] rfl) (hK.sub [] rfl) (hD.sub [0] (by decide) rfl) (va_recv (ci := 0) (q0 := 0) hK hP rfl rfl)) rfl rfl hl.1 rfl (lv_room (Nat.le_of_ble_eq_true rfl)) dX11_rewrite_2 ⟨Nat.le_of_ble_eq_true rfl, Nat.le_of_ble_eq_true rfl⟩) (fun _ _ _ h => h) hS hF hF (fun E ce q9 u t H1 locs1 ht hvm hpx hbx hz1 hk1 hS hce hcv hcl => ?_)
  exact vx_out (fun x h9 => absurd (hnt x h9) id) hlocks hce hcv hcl (fun t ht hvm => ⟨(), trivial, hbx, hS.F ht⟩) hS.2.2 (Nat.le_of_ble_eq_true rfl) (Nat.le_of_ble_eq_true rfl)

theorem dX11_steps_0 : decode cX11_steps 0 = .ok (.aload_n 0, 1) := by decide +kernel
theorem dX11_steps_1 : decode cX11_steps 1 = .ok (.iload_n 1, 1) := by decide +kernel
theorem dX11_steps_2 : decode cX11_steps 2 = .ok (.invokevirtual 103, 3) := by decide +kernel
set_option maxHeartbeats 4000000 in
set_option maxRecDepth 100000 in
/-- steps on a fresh object: throws -/
theorem c_X11_steps (l : Launch) (hfl : l.stackTraces = false) (D : va_G) (sz : Nat) (h0 : Nat) (q : Nat → Nat) (p0 : Int32) : vx_Met l yX11_steps (Cond.code yX11_steps cX11_steps 4 (some .int) :: pv_W) ({ frames := 8, cells := 1, slots := 6, locals := 122 } : Room) (va_Pc [.ref h0, .int p0] (pv_P D [] [(h0, .inr (0, [.ref (q 0), .int 0, .int 108, .ref (q 1), .int 0, .ref (q 2), .int 0, .ref (q 3), .ref (q 4), .int 1, .ref (q 5), .ref (q 6), .ref (q 7), .ref (q 8), .ref (q 9)]))] (va_A [] sz) sz)) (fun _ _ _ _ => False) (vx_X (fun _ : Unit => True) (fun E _ _ => E = "java/lang/IndexOutOfBoundsException") (va_A [] sz)) 1 6 (va_A [] sz) := by
  refine vx_ofW (cc := cX11_steps) (maxL := 4) (ret := (some .int)) (by decide) rfl ?_
  intro p e s m args below meth c s₁ B hml hnt hv
  obtain ⟨rfl, hsz, hE, hP, hK, hD0⟩ := hv
  have hx := B.exec
  have hb := B.bytes
  have hr := B.returns
  have hts := fun (w : Cond) (h : w ∈ pv_W) => atoms_spec (ws := Cond.code yX11_steps cX11_steps 4 (some .int) :: pv_W) B.pre w (List.mem_cons_of_mem _ h)
  have hg := fun {w : Cond} (h : w ∈ lw_tbl) (g : goodWord w = true) => hts w (pv_in h g)
  have hown : s.vm.findClass RX11 = some m.cls := findClass_of_methodNamed B.named
  have hlocks := B.notSynchronized
  subst hsz
  have hD := hD0
  generalize hAe : va_A [] s.heap.size = A at hE ⊢
  have hA : ∀ q : Nat, s.heap.size ≤ q → A q := fun q h => by rw [← hAe]; exact Or.inr h
  have hS : va_S A s.heap s.heap [] := va_S.rf
  have hP : va_P D pv_cl [(h0, .inr (0, [.ref (q 0), .int 0, .int 108, .ref (q 1), .int 0, .ref (q 2), .int 0, .ref (q 3), .ref (q 4), .int 1, .ref (q 5), .ref (q 6), .ref (q 7), .ref (q 8), .ref (q 9)]))] s.heap := hP
  have hl := lv_entry ([.ref h0, .int p0]) (n := 4) (Nat.le_of_ble_eq_true rfl)
  rw [lg_entry_eq]
  generalize (lg_sl ([.ref h0, .int p0]) ++ List.replicate (4 - (lg_sl ([.ref h0, .int p0])).length) Slot.unset).toArray = ls at hl ⊢
  have hl : lv_has ls 4 [(0, .ref h0), (1, .int p0)] := hl
  refine lv_aload_n hx hb dX11_steps_0 rfl (lv_at hl 0 rfl) ?_
  refine lv_iload_n hx hb dX11_steps_1 rfl (lv_at hl 1 rfl) ?_
  have hF := pv_new hA hS.1
  refine pv_thrown (vx_runV (As := [.int p0]) (rest := []) ⟨hx, hb, hml, hown, hts⟩ (c_X11_polynomialAt l hfl D _ h0 q p0) (cwV 1 hts (pv_gV w5_112 w5_114 wp3_13 w1_1 w5_115) rfl rfl rfl (by decide +kernel) ⟨Nat.le_of_ble_eq_true rfl, Nat.le_of_ble_eq_true rfl⟩) (pv_pV hE hS hF (hP.sub [0] rfl) (hK.sub [] rfl) (hD.sub [0] (by decide) rfl) (va_recv (ci := 0) (q0 := 0) hK hP rfl rfl)) rfl rfl hl.1 rfl (lv_room (Nat.le_of_ble_eq_true rfl)) dX11_steps_2 ⟨Nat.le_of_ble_eq_true rfl, Nat.le_of_ble_eq_true rfl⟩) (fun _ _ _ h => h) hS hF hF (fun E ce q9 u t H1 locs1 ht hvm hpx hbx hz1 hk1 hS hce hcv hcl => ?_)
  exact vx_out (fun x h9 => absurd (hnt x h9) id) hlocks hce hcv hcl (fun t ht hvm => ⟨(), trivial, hbx, hS.F ht⟩) hS.2.2 (Nat.le_of_ble_eq_true rfl) (Nat.le_of_ble_eq_true rfl)

theorem dX11_addGenerator_0 : decode cX11_addGenerator 0 = .ok (.aload_n 0, 1) := by decide +kernel
theorem dX11_addGenerator_1 : decode cX11_addGenerator 1 = .ok (.iload_n 1, 1) := by decide +kernel
theorem dX11_addGenerator_2 : decode cX11_addGenerator 2 = .ok (.invokevirtual 313, 3) := by decide +kernel
theorem w7_190 : (Jvm.Cond.methodLink "Polyforge" (313 : Nat) ({ cls := "Polyforge", name := "idealAt", desc := "(I)LPolyforge$Ideal;" } : Jvm.MethodName)) ∈ lw_tbl := pv_t7 (pv_mg 190 rfl)
theorem w7_193 : (Jvm.Cond.code ({ cls := "Polyforge", name := "idealAt", desc := "(I)LPolyforge$Ideal;" } : Jvm.MethodName) prog_1_method_77_code (3 : Nat) (Option.some (Jvm.ClassFile.FieldType.object "Polyforge$Ideal"))) ∈ lw_tbl := pv_t7 (pv_mg 193 rfl)
theorem wp4_15 : Cond.selects "Polyforge" ⟨"Polyforge", "idealAt", "(I)LPolyforge$Ideal;"⟩ ⟨"Polyforge", "idealAt", "(I)LPolyforge$Ideal;"⟩ ∈ lw_tbl := pv_mg 63 rfl
theorem w7_192 : (Jvm.Cond.instanceMethod ({ cls := "Polyforge", name := "idealAt", desc := "(I)LPolyforge$Ideal;" } : Jvm.MethodName)) ∈ lw_tbl := pv_t7 (pv_mg 192 rfl)
set_option maxHeartbeats 4000000 in
set_option maxRecDepth 100000 in
/-- addGenerator on a fresh object: throws -/
theorem c_X11_addGenerator (l : Launch) (hfl : l.stackTraces = false) (D : va_G) (sz : Nat) (h0 : Nat) (q : Nat → Nat) (p0 p1 : Int32) : vx_Met l yX11_addGenerator (Cond.code yX11_addGenerator cX11_addGenerator 5 (some .int) :: pv_W) ({ frames := 8, cells := 1, slots := 6, locals := 122 } : Room) (va_Pc [.ref h0, .int p0, .int p1] (pv_P D [] [(h0, .inr (0, [.ref (q 0), .int 0, .int 108, .ref (q 1), .int 0, .ref (q 2), .int 0, .ref (q 3), .ref (q 4), .int 1, .ref (q 5), .ref (q 6), .ref (q 7), .ref (q 8), .ref (q 9)]))] (va_A [] sz) sz)) (fun _ _ _ _ => False) (vx_X (fun _ : Unit => True) (fun E _ _ => E = "java/util/NoSuchElementException") (va_A [] sz)) 1 6 (va_A [] sz) := by
  refine vx_ofW (cc := cX11_addGenerator) (maxL := 5) (ret := (some .int)) (by decide) rfl ?_
  intro p e s m args below meth c s₁ B hml hnt hv
  obtain ⟨rfl, hsz, hE, hP, hK, hD0⟩ := hv
  have hx := B.exec
  have hb := B.bytes
  have hr := B.returns
  have hts := fun (w : Cond) (h : w ∈ pv_W) => atoms_spec (ws := Cond.code yX11_addGenerator cX11_addGenerator 5 (some .int) :: pv_W) B.pre w (List.mem_cons_of_mem _ h)
  have hg := fun {w : Cond} (h : w ∈ lw_tbl) (g : goodWord w = true) => hts w (pv_in h g)
  have hown : s.vm.findClass RX11 = some m.cls := findClass_of_methodNamed B.named
  have hlocks := B.notSynchronized
  subst hsz
  have hD := hD0
  generalize hAe : va_A [] s.heap.size = A at hE ⊢
  have hA : ∀ q : Nat, s.heap.size ≤ q → A q := fun q h => by rw [← hAe]; exact Or.inr h
  have hS : va_S A s.heap s.heap [] := va_S.rf
  have hP : va_P D pv_cl [(h0, .inr (0, [.ref (q 0), .int 0, .int 108, .ref (q 1), .int 0, .ref (q 2), .int 0, .ref (q 3), .ref (q 4), .int 1, .ref (q 5), .ref (q 6), .ref (q 7), .ref (q 8), .ref (q 9)]))] s.heap := hP
  have hl := lv_entry ([.ref h0, .int p0, .int p1]) (n := 5) (Nat.le_of_ble_eq_true rfl)
  rw [lg_entry_eq]
  generalize (lg_sl ([.ref h0, .int p0, .int p1]) ++ List.replicate (5 - (lg_sl ([.ref h0, .int p0, .int p1])).length) Slot.unset).toArray = ls at hl ⊢
  have hl : lv_has ls 5 [(0, .ref h0), (1, .int p0), (2, .int p1)] := hl
  refine lv_aload_n hx hb dX11_addGenerator_0 rfl (lv_at hl 0 rfl) ?_
  refine lv_iload_n hx hb dX11_addGenerator_1 rfl (lv_at hl 1 rfl) ?_
  have hF := pv_new hA hS.1
  refine pv_thrown (vx_runV (As := [.int p0]) (rest := []) ⟨hx, hb, hml, hown, hts⟩ (c_X11_idealAt l hfl D _ h0 q p0) (cwV 1 hts (pv_gV w7_190 w7_192 wp4_15 w1_1 w7_193) rfl rfl rfl (by decide +kernel) ⟨Nat.le_of_ble_eq_true rfl, Nat.le_of_ble_eq_true rfl⟩) (pv_pV hE hS hF (hP.sub [0] rfl) (hK.sub [] rfl) (hD.sub [0] (by decide) rfl) (va_recv (ci := 0) (q0 := 0) hK hP rfl rfl)) rfl rfl hl.1 rfl (lv_room (Nat.le_of_ble_eq_true rfl)) dX11_addGenerator_2 ⟨Nat.le_of_ble_eq_true rfl, Nat.le_of_ble_eq_true rfl⟩) (fun _ _ _ h => h) hS hF hF (fun E ce q9 u t H1 locs1 ht hvm hpx hbx hz1 hk1 hS hce hcv hcl => ?_)
  exact vx_out (fun x h9 => absurd (hnt x h9) id) hlocks hce hcv hcl (fun t ht hvm => ⟨(), trivial, hbx, hS.F ht⟩) hS.2.2 (Nat.le_of_ble_eq_true rfl) (Nat.le_of_ble_eq_true rfl)

theorem dX11_basis_0 : decode cX11_basis 0 = .ok (.aload_n 0, 1) := by decide +kernel
theorem dX11_basis_1 : decode cX11_basis 1 = .ok (.aload_n 0, 1) := by decide +kernel
theorem dX11_basis_2 : decode cX11_basis 2 = .ok (.iload_n 1, 1) := by decide +kernel
theorem dX11_basis_3 : decode cX11_basis 3 = .ok (.invokevirtual 313, 3) := by decide +kernel
set_option maxHeartbeats 4000000 in
set_option maxRecDepth 100000 in
/-- basis on a fresh object: throws -/
theorem c_X11_basis (l : Launch) (hfl : l.stackTraces = false) (D : va_G) (sz : Nat) (h0 : Nat) (q : Nat → Nat) (p0 : Int32) : vx_Met l yX11_basis (Cond.code yX11_basis cX11_basis 2 (some .int) :: pv_W) ({ frames := 8, cells := 1, slots := 6, locals := 122 } : Room) (va_Pc [.ref h0, .int p0] (pv_P D [] [(h0, .inr (0, [.ref (q 0), .int 0, .int 108, .ref (q 1), .int 0, .ref (q 2), .int 0, .ref (q 3), .ref (q 4), .int 1, .ref (q 5), .ref (q 6), .ref (q 7), .ref (q 8), .ref (q 9)]))] (va_A [] sz) sz)) (fun _ _ _ _ => False) (vx_X (fun _ : Unit => True) (fun E _ _ => E = "java/util/NoSuchElementException") (va_A [] sz)) 1 6 (va_A [] sz) := by
  refine vx_ofW (cc := cX11_basis) (maxL := 2) (ret := (some .int)) (by decide) rfl ?_
  intro p e s m args below meth c s₁ B hml hnt hv
  obtain ⟨rfl, hsz, hE, hP, hK, hD0⟩ := hv
  have hx := B.exec
  have hb := B.bytes
  have hr := B.returns
  have hts := fun (w : Cond) (h : w ∈ pv_W) => atoms_spec (ws := Cond.code yX11_basis cX11_basis 2 (some .int) :: pv_W) B.pre w (List.mem_cons_of_mem _ h)
  have hg := fun {w : Cond} (h : w ∈ lw_tbl) (g : goodWord w = true) => hts w (pv_in h g)
  have hown : s.vm.findClass RX11 = some m.cls := findClass_of_methodNamed B.named
  have hlocks := B.notSynchronized
  subst hsz
  have hD := hD0
  generalize hAe : va_A [] s.heap.size = A at hE ⊢
  have hA : ∀ q : Nat, s.heap.size ≤ q → A q := fun q h => by rw [← hAe]; exact Or.inr h
  have hS : va_S A s.heap s.heap [] := va_S.rf
  have hP : va_P D pv_cl [(h0, .inr (0, [.ref (q 0), .int 0, .int 108, .ref (q 1), .int 0, .ref (q 2), .int 0, .ref (q 3), .ref (q 4), .int 1, .ref (q 5), .ref (q 6), .ref (q 7), .ref (q 8), .ref (q 9)]))] s.heap := hP
  have hl := lv_entry ([.ref h0, .int p0]) (n := 2) (Nat.le_of_ble_eq_true rfl)
  rw [lg_entry_eq]
  generalize (lg_sl ([.ref h0, .int p0]) ++ List.replicate (2 - (lg_sl ([.ref h0, .int p0])).length) Slot.unset).toArray = ls at hl ⊢
  have hl : lv_has ls 2 [(0, .ref h0), (1, .int p0)] := hl
  refine lv_aload_n hx hb dX11_basis_0 rfl (lv_at hl 0 rfl) ?_
  refine lv_aload_n hx hb dX11_basis_1 rfl (lv_at hl 0 rfl) ?_
  refine lv_iload_n hx hb dX11_basis_2 rfl (lv_at hl 1 rfl) ?_
  have hF := pv_new hA hS.1
  refine pv_thrown (vx_runV (As := [.int p0]) (rest := [.ref h0]) ⟨hx, hb, hml, hown, hts⟩ (c_X11_idealAt l hfl D _ h0 q p0) (cwV 1 hts (pv_gV w7_190 w7_192 wp4_15 w1_1 w7_193) rfl rfl rfl (by decide +kernel) ⟨Nat.le_of_ble_eq_true rfl, Nat.le_of_ble_eq_true rfl⟩) (pv_pV hE hS hF (hP.sub [0] rfl) (hK.sub [] rfl) (hD.sub [0] (by decide) rfl) (va_recv (ci := 0) (q0 := 0) hK hP rfl rfl)) rfl rfl hl.1 rfl (lv_room (Nat.le_of_ble_eq_true rfl)) dX11_basis_3 ⟨Nat.le_of_ble_eq_true rfl, Nat.le_of_ble_eq_true rfl⟩) (fun _ _ _ h => h) hS hF hF (fun E ce q9 u t H1 locs1 ht hvm hpx hbx hz1 hk1 hS hce hcv hcl => ?_)
  exact vx_out (fun x h9 => absurd (hnt x h9) id) hlocks hce hcv hcl (fun t ht hvm => ⟨(), trivial, hbx, hS.F ht⟩) hS.2.2 (Nat.le_of_ble_eq_true rfl) (Nat.le_of_ble_eq_true rfl)

theorem dX11_basisTerms_0 : decode cX11_basisTerms 0 = .ok (.aload_n 0, 1) := by decide +kernel
theorem dX11_basisTerms_1 : decode cX11_basisTerms 1 = .ok (.aload_n 0, 1) := by decide +kernel
theorem dX11_basisTerms_2 : decode cX11_basisTerms 2 = .ok (.iload_n 1, 1) := by decide +kernel
theorem dX11_basisTerms_3 : decode cX11_basisTerms 3 = .ok (.invokevirtual 313, 3) := by decide +kernel
set_option maxHeartbeats 4000000 in
set_option maxRecDepth 100000 in
/-- basisTerms on a fresh object: throws -/
theorem c_X11_basisTerms (l : Launch) (hfl : l.stackTraces = false) (D : va_G) (sz : Nat) (h0 : Nat) (q : Nat → Nat) (p0 p1 : Int32) : vx_Met l yX11_basisTerms (Cond.code yX11_basisTerms cX11_basisTerms 4 (some .int) :: pv_W) ({ frames := 8, cells := 1, slots := 6, locals := 122 } : Room) (va_Pc [.ref h0, .int p0, .int p1] (pv_P D [] [(h0, .inr (0, [.ref (q 0), .int 0, .int 108, .ref (q 1), .int 0, .ref (q 2), .int 0, .ref (q 3), .ref (q 4), .int 1, .ref (q 5), .ref (q 6), .ref (q 7), .ref (q 8), .ref (q 9)]))] (va_A [] sz) sz)) (fun _ _ _ _ => False) (vx_X (fun _ : Unit => True) (fun E _ _ => E = "java/util/NoSuchElementException") (va_A [] sz)) 1 6 (va_A [] sz) := by
  refine vx_ofW (cc := cX11_basisTerms) (maxL := 4) (ret := (some .int)) (by decide) rfl ?_
  intro p e s m args below meth c s₁ B hml hnt hv
  obtain ⟨rfl, hsz, hE, hP, hK, hD0⟩ := hv
  have hx := B.exec
  have hb := B.bytes
  have hr := B.returns
  have hts := fun (w : Cond) (h : w ∈ pv_W) => atoms_spec (ws := Cond.code yX11_basisTerms cX11_basisTerms 4 (some .int) :: pv_W) B.pre w (List.mem_cons_of_mem _ h)
  have hg := fun {w : Cond} (h : w ∈ lw_tbl) (g : goodWord w = true) => hts w (pv_in h g)
  have hown : s.vm.findClass RX11 = some m.cls := findClass_of_methodNamed B.named
  have hlocks := B.notSynchronized
  subst hsz
  have hD := hD0
  generalize hAe : va_A [] s.heap.size = A at hE ⊢
  have hA : ∀ q : Nat, s.heap.size ≤ q → A q := fun q h => by rw [← hAe]; exact Or.inr h
  have hS : va_S A s.heap s.heap [] := va_S.rf
  have hP : va_P D pv_cl [(h0, .inr (0, [.ref (q 0), .int 0, .int 108, .ref (q 1), .int 0, .ref (q 2), .int 0, .ref (q 3), .ref (q 4), .int 1, .ref (q 5), .ref (q 6), .ref (q 7), .ref (q 8), .ref (q 9)]))] s.heap := hP
  have hl := lv_entry ([.ref h0, .int p0, .int p1]) (n := 4) (Nat.le_of_ble_eq_true rfl)
  rw [lg_entry_eq]
  generalize (lg_sl ([.ref h0, .int p0, .int p1]) ++ List.replicate (4 - (lg_sl ([.ref h0, .int p0, .int p1])).length) Slot.unset).toArray = ls at hl ⊢
  have hl : lv_has ls 4 [(0, .ref h0), (1, .int p0), (2, .int p1)] := hl
  refine lv_aload_n hx hb dX11_basisTerms_0 rfl (lv_at hl 0 rfl) ?_
  refine lv_aload_n hx hb dX11_basisTerms_1 rfl (lv_at hl 0 rfl) ?_
  refine lv_iload_n hx hb dX11_basisTerms_2 rfl (lv_at hl 1 rfl) ?_
  have hF := pv_new hA hS.1
  refine pv_thrown (vx_runV (As := [.int p0]) (rest := [.ref h0]) ⟨hx, hb, hml, hown, hts⟩ (c_X11_idealAt l hfl D _ h0 q p0) (cwV 1 hts (pv_gV w7_190 w7_192 wp4_15 w1_1 w7_193) rfl rfl rfl (by decide +kernel) ⟨Nat.le_of_ble_eq_true rfl, Nat.le_of_ble_eq_true rfl⟩) (pv_pV hE hS hF (hP.sub [0] rfl) (hK.sub [] rfl) (hD.sub [0] (by decide) rfl) (va_recv (ci := 0) (q0 := 0) hK hP rfl rfl)) rfl rfl hl.1 rfl (lv_room (Nat.le_of_ble_eq_true rfl)) dX11_basisTerms_3 ⟨Nat.le_of_ble_eq_true rfl, Nat.le_of_ble_eq_true rfl⟩) (fun _ _ _ h => h) hS hF hF (fun E ce q9 u t H1 locs1 ht hvm hpx hbx hz1 hk1 hS hce hcv hcl => ?_)
  exact vx_out (fun x h9 => absurd (hnt x h9) id) hlocks hce hcv hcl (fun t ht hvm => ⟨(), trivial, hbx, hS.F ht⟩) hS.2.2 (Nat.le_of_ble_eq_true rfl) (Nat.le_of_ble_eq_true rfl)

theorem dX11_basisCoefficient_0 : decode cX11_basisCoefficient 0 = .ok (.aload_n 0, 1) := by decide +kernel
theorem dX11_basisCoefficient_1 : decode cX11_basisCoefficient 1 = .ok (.aload_n 0, 1) := by decide +kernel
theorem dX11_basisCoefficient_2 : decode cX11_basisCoefficient 2 = .ok (.iload_n 1, 1) := by decide +kernel
theorem dX11_basisCoefficient_3 : decode cX11_basisCoefficient 3 = .ok (.invokevirtual 313, 3) := by decide +kernel
set_option maxHeartbeats 4000000 in
set_option maxRecDepth 100000 in
/-- basisCoefficient on a fresh object: throws -/
theorem c_X11_basisCoefficient (l : Launch) (hfl : l.stackTraces = false) (D : va_G) (sz : Nat) (h0 : Nat) (q : Nat → Nat) (p0 p1 p2 : Int32) : vx_Met l yX11_basisCoefficient (Cond.code yX11_basisCoefficient cX11_basisCoefficient 5 (some .int) :: pv_W) ({ frames := 8, cells := 1, slots := 6, locals := 122 } : Room) (va_Pc [.ref h0, .int p0, .int p1, .int p2] (pv_P D [] [(h0, .inr (0, [.ref (q 0), .int 0, .int 108, .ref (q 1), .int 0, .ref (q 2), .int 0, .ref (q 3), .ref (q 4), .int 1, .ref (q 5), .ref (q 6), .ref (q 7), .ref (q 8), .ref (q 9)]))] (va_A [] sz) sz)) (fun _ _ _ _ => False) (vx_X (fun _ : Unit => True) (fun E _ _ => E = "java/util/NoSuchElementException") (va_A [] sz)) 1 6 (va_A [] sz) := by
  refine vx_ofW (cc := cX11_basisCoefficient) (maxL := 5) (ret := (some .int)) (by decide) rfl ?_
  intro p e s m args below meth c s₁ B hml hnt hv
  obtain ⟨rfl, hsz, hE, hP, hK, hD0⟩ := hv
  have hx := B.exec
  have hb := B.bytes
  have hr := B.returns
  have hts := fun (w : Cond) (h : w ∈ pv_W) => atoms_spec (ws := Cond.code yX11_basisCoefficient cX11_basisCoefficient 5 (some .int) :: pv_W) B.pre w (List.mem_cons_of_mem _ h)
  have hg := fun {w : Cond} (h : w ∈ lw_tbl) (g : goodWord w = true) => hts w (pv_in h g)
  have hown : s.vm.findClass RX11 = some m.cls := findClass_of_methodNamed B.named
  have hlocks := B.notSynchronized
  subst hsz
  have hD := hD0
  generalize hAe : va_A [] s.heap.size = A at hE ⊢
  have hA : ∀ q : Nat, s.heap.size ≤ q → A q := fun q h => by rw [← hAe]; exact Or.inr h
  have hS : va_S A s.heap s.heap [] := va_S.rf
  have hP : va_P D pv_cl [(h0, .inr (0, [.ref (q 0), .int 0, .int 108, .ref (q 1), .int 0, .ref (q 2), .int 0, .ref (q 3), .ref (q 4), .int 1, .ref (q 5), .ref (q 6), .ref (q 7), .ref (q 8), .ref (q 9)]))] s.heap := hP
  have hl := lv_entry ([.ref h0, .int p0, .int p1, .int p2]) (n := 5) (Nat.le_of_ble_eq_true rfl)
  rw [lg_entry_eq]
  generalize (lg_sl ([.ref h0, .int p0, .int p1, .int p2]) ++ List.replicate (5 - (lg_sl ([.ref h0, .int p0, .int p1, .int p2])).length) Slot.unset).toArray = ls at hl ⊢
  have hl : lv_has ls 5 [(0, .ref h0), (1, .int p0), (2, .int p1), (3, .int p2)] := hl
  refine lv_aload_n hx hb dX11_basisCoefficient_0 rfl (lv_at hl 0 rfl) ?_
  refine lv_aload_n hx hb dX11_basisCoefficient_1 rfl (lv_at hl 0 rfl) ?_
  refine lv_iload_n hx hb dX11_basisCoefficient_2 rfl (lv_at hl 1 rfl) ?_
  have hF := pv_new hA hS.1
  refine pv_thrown (vx_runV (As := [.int p0]) (rest := [.ref h0]) ⟨hx, hb, hml, hown, hts⟩ (c_X11_idealAt l hfl D _ h0 q p0) (cwV 1 hts (pv_gV w7_190 w7_192 wp4_15 w1_1 w7_193) rfl rfl rfl (by decide +kernel) ⟨Nat.le_of_ble_eq_true rfl, Nat.le_of_ble_eq_true rfl⟩) (pv_pV hE hS hF (hP.sub [0] rfl) (hK.sub [] rfl) (hD.sub [0] (by decide) rfl) (va_recv (ci := 0) (q0 := 0) hK hP rfl rfl)) rfl rfl hl.1 rfl (lv_room (Nat.le_of_ble_eq_true rfl)) dX11_basisCoefficient_3 ⟨Nat.le_of_ble_eq_true rfl, Nat.le_of_ble_eq_true rfl⟩) (fun _ _ _ h => h) hS hF hF (fun E ce q9 u t H1 locs1 ht hvm hpx hbx hz1 hk1 hS hce hcv hcl => ?_)
  exact vx_out (fun x h9 => absurd (hnt x h9) id) hlocks hce hcv hcl (fun t ht hvm => ⟨(), trivial, hbx, hS.F ht⟩) hS.2.2 (Nat.le_of_ble_eq_true rfl) (Nat.le_of_ble_eq_true rfl)

theorem dX11_basisExponent_0 : decode cX11_basisExponent 0 = .ok (.aload_n 0, 1) := by decide +kernel
theorem dX11_basisExponent_1 : decode cX11_basisExponent 1 = .ok (.aload_n 0, 1) := by decide +kernel
theorem dX11_basisExponent_2 : decode cX11_basisExponent 2 = .ok (.iload_n 1, 1) := by decide +kernel
theorem dX11_basisExponent_3 : decode cX11_basisExponent 3 = .ok (.invokevirtual 313, 3) := by decide +kernel
set_option maxHeartbeats 4000000 in
set_option maxRecDepth 100000 in
/-- basisExponent on a fresh object: throws -/
theorem c_X11_basisExponent (l : Launch) (hfl : l.stackTraces = false) (D : va_G) (sz : Nat) (h0 : Nat) (q : Nat → Nat) (p0 p1 p2 p3 : Int32) : vx_Met l yX11_basisExponent (Cond.code yX11_basisExponent cX11_basisExponent 6 (some .int) :: pv_W) ({ frames := 8, cells := 1, slots := 6, locals := 122 } : Room) (va_Pc [.ref h0, .int p0, .int p1, .int p2, .int p3] (pv_P D [] [(h0, .inr (0, [.ref (q 0), .int 0, .int 108, .ref (q 1), .int 0, .ref (q 2), .int 0, .ref (q 3), .ref (q 4), .int 1, .ref (q 5), .ref (q 6), .ref (q 7), .ref (q 8), .ref (q 9)]))] (va_A [] sz) sz)) (fun _ _ _ _ => False) (vx_X (fun _ : Unit => True) (fun E _ _ => E = "java/util/NoSuchElementException") (va_A [] sz)) 1 6 (va_A [] sz) := by
  refine vx_ofW (cc := cX11_basisExponent) (maxL := 6) (ret := (some .int)) (by decide) rfl ?_
  intro p e s m args below meth c s₁ B hml hnt hv
  obtain ⟨rfl, hsz, hE, hP, hK, hD0⟩ := hv
  have hx := B.exec
  have hb := B.bytes
  have hr := B.returns
  have hts := fun (w : Cond) (h : w ∈ pv_W) => atoms_spec (ws := Cond.code yX11_basisExponent cX11_basisExponent 6 (some .int) :: pv_W) B.pre w (List.mem_cons_of_mem _ h)
  have hg := fun {w : Cond} (h : w ∈ lw_tbl) (g : goodWord w = true) => hts w (pv_in h g)
  have hown : s.vm.findClass RX11 = some m.cls := findClass_of_methodNamed B.named
  have hlocks := B.notSynchronized
  subst hsz
  have hD := hD0
  generalize hAe : va_A [] s.heap.size = A at hE ⊢
  have hA : ∀ q : Nat, s.heap.size ≤ q → A q := fun q h => by rw [← hAe]; exact Or.inr h
  have hS : va_S A s.heap s.heap [] := va_S.rf
  have hP : va_P D pv_cl [(h0, .inr (0, [.ref (q 0), .int 0, .int 108, .ref (q 1), .int 0, .ref (q 2), .int 0, .ref (q 3), .ref (q 4), .int 1, .ref (q 5), .ref (q 6), .ref (q 7), .ref (q 8), .ref (q 9)]))] s.heap := hP
  have hl := lv_entry ([.ref h0, .int p0, .int p1, .int p2, .int p3]) (n := 6) (Nat.le_of_ble_eq_true rfl)
  rw [lg_entry_eq]
  generalize (lg_sl ([.ref h0, .int p0, .int p1, .int p2, .int p3]) ++ List.replicate (6 - (lg_sl ([.ref h0, .int p0, .int p1, .int p2, .int p3])).length) Slot.unset).toArray = ls at hl ⊢
  have hl : lv_has ls 6 [(0, .ref h0), (1, .int p0), (2, .int p1), (3, .int p2), (4, .int p3)] := hl
  refine lv_aload_n hx hb dX11_basisExponent_0 rfl (lv_at hl 0 rfl) ?_
  refine lv_aload_n hx hb dX11_basisExponent_1 rfl (lv_at hl 0 rfl) ?_
  refine lv_iload_n hx hb dX11_basisExponent_2 rfl (lv_at hl 1 rfl) ?_
  have hF := pv_new hA hS.1
  refine pv_thrown (vx_runV (As := [.int p0]) (rest := [.ref h0]) ⟨hx, hb, hml, hown, hts⟩ (c_X11_idealAt l hfl D _ h0 q p0) (cwV 1 hts (pv_gV w7_190 w7_192 wp4_15 w1_1 w7_193) rfl rfl rfl (by decide +kernel) ⟨Nat.le_of_ble_eq_true rfl, Nat.le_of_ble_eq_true rfl⟩) (pv_pV hE hS hF (hP.sub [0] rfl) (hK.sub [] rfl) (hD.sub [0] (by decide) rfl) (va_recv (ci := 0) (q0 := 0) hK hP rfl rfl)) rfl rfl hl.1 rfl (lv_room (Nat.le_of_ble_eq_true rfl)) dX11_basisExponent_3 ⟨Nat.le_of_ble_eq_true rfl, Nat.le_of_ble_eq_true rfl⟩) (fun _ _ _ h => h) hS hF hF (fun E ce q9 u t H1 locs1 ht hvm hpx hbx hz1 hk1 hS hce hcv hcl => ?_)
  exact vx_out (fun x h9 => absurd (hnt x h9) id) hlocks hce hcv hcl (fun t ht hvm => ⟨(), trivial, hbx, hS.F ht⟩) hS.2.2 (Nat.le_of_ble_eq_true rfl) (Nat.le_of_ble_eq_true rfl)

theorem dX11_normalForm_0 : decode cX11_normalForm 0 = .ok (.aload_n 0, 1) := by decide +kernel
theorem dX11_normalForm_1 : decode cX11_normalForm 1 = .ok (.iload_n 1, 1) := by decide +kernel
theorem dX11_normalForm_2 : decode cX11_normalForm 2 = .ok (.invokevirtual 313, 3) := by decide +kernel
set_option maxHeartbeats 4000000 in
set_option maxRecDepth 100000 in
/-- normalForm on a fresh object: throws -/
theorem c_X11_normalForm (l : Launch) (hfl : l.stackTraces = false) (D : va_G) (sz : Nat) (h0 : Nat) (q : Nat → Nat) (p0 p1 : Int32) : vx_Met l yX11_normalForm (Cond.code yX11_normalForm cX11_normalForm 7 (some .int) :: pv_W) ({ frames := 8, cells := 1, slots := 6, locals := 122 } : Room) (va_Pc [.ref h0, .int p0, .int p1] (pv_P D [] [(h0, .inr (0, [.ref (q 0), .int 0, .int 108, .ref (q 1), .int 0, .ref (q 2), .int 0, .ref (q 3), .ref (q 4), .int 1, .ref (q 5), .ref (q 6), .ref (q 7), .ref (q 8), .ref (q 9)]))] (va_A [] sz) sz)) (fun _ _ _ _ => False) (vx_X (fun _ : Unit => True) (fun E _ _ => E = "java/util/NoSuchElementException") (va_A [] sz)) 1 6 (va_A [] sz) := by
  refine vx_ofW (cc := cX11_normalForm) (maxL := 7) (ret := (some .int)) (by decide) rfl ?_
  intro p e s m args below meth c s₁ B hml hnt hv
  obtain ⟨rfl, hsz, hE, hP, hK, hD0⟩ := hv
  have hx := B.exec
  have hb := B.bytes
  have hr := B.returns
  have hts := fun (w : Cond) (h : w ∈ pv_W) => atoms_spec (ws := Cond.code yX11_normalForm cX11_normalForm 7 (some .int) :: pv_W) B.pre w (List.mem_cons_of_mem _ h)
  have hg := fun {w : Cond} (h : w ∈ lw_tbl) (g : goodWord w = true) => hts w (pv_in h g)
  have hown : s.vm.findClass RX11 = some m.cls := findClass_of_methodNamed B.named
  have hlocks := B.notSynchronized
  subst hsz
  have hD := hD0
  generalize hAe : va_A [] s.heap.size = A at hE ⊢
  have hA : ∀ q : Nat, s.heap.size ≤ q → A q := fun q h => by rw [← hAe]; exact Or.inr h
  have hS : va_S A s.heap s.heap [] := va_S.rf
  have hP : va_P D pv_cl [(h0, .inr (0, [.ref (q 0), .int 0, .int 108, .ref (q 1), .int 0, .ref (q 2), .int 0, .ref (q 3), .ref (q 4), .int 1, .ref (q 5), .ref (q 6), .ref (q 7), .ref (q 8), .ref (q 9)]))] s.heap := hP
  have hl := lv_entry ([.ref h0, .int p0, .int p1]) (n := 7) (Nat.le_of_ble_eq_true rfl)
  rw [lg_entry_eq]
  generalize (lg_sl ([.ref h0, .int p0, .int p1]) ++ List.replicate (7 - (lg_sl ([.ref h0, .int p0, .int p1])).length) Slot.unset).toArray = ls at hl ⊢
  have hl : lv_has ls 7 [(0, .ref h0), (1, .int p0), (2, .int p1)] := hl
  refine lv_aload_n hx hb dX11_normalForm_0 rfl (lv_at hl 0 rfl) ?_
  refine lv_iload_n hx hb dX11_normalForm_1 rfl (lv_at hl 1 rfl) ?_
  have hF := pv_new hA hS.1
  refine pv_thrown (vx_runV (As := [.int p0]) (rest := []) ⟨hx, hb, hml, hown, hts⟩ (c_X11_idealAt l hfl D _ h0 q p0) (cwV 1 hts (pv_gV w7_190 w7_192 wp4_15 w1_1 w7_193) rfl rfl rfl (by decide +kernel) ⟨Nat.le_of_ble_eq_true rfl, Nat.le_of_ble_eq_true rfl⟩) (pv_pV hE hS hF (hP.sub [0] rfl) (hK.sub [] rfl) (hD.sub [0] (by decide) rfl) (va_recv (ci := 0) (q0 := 0) hK hP rfl rfl)) rfl rfl hl.1 rfl (lv_room (Nat.le_of_ble_eq_true rfl)) dX11_normalForm_2 ⟨Nat.le_of_ble_eq_true rfl, Nat.le_of_ble_eq_true rfl⟩) (fun _ _ _ h => h) hS hF hF (fun E ce q9 u t H1 locs1 ht hvm hpx hbx hz1 hk1 hS hce hcv hcl => ?_)
  exact vx_out (fun x h9 => absurd (hnt x h9) id) hlocks hce hcv hcl (fun t ht hvm => ⟨(), trivial, hbx, hS.F ht⟩) hS.2.2 (Nat.le_of_ble_eq_true rfl) (Nat.le_of_ble_eq_true rfl)

theorem dX11_isIn_0 : decode cX11_isIn 0 = .ok (.aload_n 0, 1) := by decide +kernel
theorem dX11_isIn_1 : decode cX11_isIn 1 = .ok (.iload_n 1, 1) := by decide +kernel
theorem dX11_isIn_2 : decode cX11_isIn 2 = .ok (.invokevirtual 313, 3) := by decide +kernel
set_option maxHeartbeats 4000000 in
set_option maxRecDepth 100000 in
/-- isIn on a fresh object: throws -/
theorem c_X11_isIn (l : Launch) (hfl : l.stackTraces = false) (D : va_G) (sz : Nat) (h0 : Nat) (q : Nat → Nat) (p0 p1 : Int32) : vx_Met l yX11_isIn (Cond.code yX11_isIn cX11_isIn 6 (some .boolean) :: pv_W) ({ frames := 8, cells := 1, slots := 6, locals := 122 } : Room) (va_Pc [.ref h0, .int p0, .int p1] (pv_P D [] [(h0, .inr (0, [.ref (q 0), .int 0, .int 108, .ref (q 1), .int 0, .ref (q 2), .int 0, .ref (q 3), .ref (q 4), .int 1, .ref (q 5), .ref (q 6), .ref (q 7), .ref (q 8), .ref (q 9)]))] (va_A [] sz) sz)) (fun _ _ _ _ => False) (vx_X (fun _ : Unit => True) (fun E _ _ => E = "java/util/NoSuchElementException") (va_A [] sz)) 1 6 (va_A [] sz) := by
  refine vx_ofW (cc := cX11_isIn) (maxL := 6) (ret := (some .boolean)) (by decide) rfl ?_
  intro p e s m args below meth c s₁ B hml hnt hv
  obtain ⟨rfl, hsz, hE, hP, hK, hD0⟩ := hv
  have hx := B.exec
  have hb := B.bytes
  have hr := B.returns
  have hts := fun (w : Cond) (h : w ∈ pv_W) => atoms_spec (ws := Cond.code yX11_isIn cX11_isIn 6 (some .boolean) :: pv_W) B.pre w (List.mem_cons_of_mem _ h)
  have hg := fun {w : Cond} (h : w ∈ lw_tbl) (g : goodWord w = true) => hts w (pv_in h g)
  have hown : s.vm.findClass RX11 = some m.cls := findClass_of_methodNamed B.named
  have hlocks := B.notSynchronized
  subst hsz
  have hD := hD0
  generalize hAe : va_A [] s.heap.size = A at hE ⊢
  have hA : ∀ q : Nat, s.heap.size ≤ q → A q := fun q h => by rw [← hAe]; exact Or.inr h
  have hS : va_S A s.heap s.heap [] := va_S.rf
  have hP : va_P D pv_cl [(h0, .inr (0, [.ref (q 0), .int 0, .int 108, .ref (q 1), .int 0, .ref (q 2), .int 0, .ref (q 3), .ref (q 4), .int 1, .ref (q 5), .ref (q 6), .ref (q 7), .ref (q 8), .ref (q 9)]))] s.heap := hP
  have hl := lv_entry ([.ref h0, .int p0, .int p1]) (n := 6) (Nat.le_of_ble_eq_true rfl)
  rw [lg_entry_eq]
  generalize (lg_sl ([.ref h0, .int p0, .int p1]) ++ List.replicate (6 - (lg_sl ([.ref h0, .int p0, .int p1])).length) Slot.unset).toArray = ls at hl ⊢
  have hl : lv_has ls 6 [(0, .ref h0), (1, .int p0), (2, .int p1)] := hl
  refine lv_aload_n hx hb dX11_isIn_0 rfl (lv_at hl 0 rfl) ?_
  refine lv_iload_n hx hb dX11_isIn_1 rfl (lv_at hl 1 rfl) ?_
  have hF := pv_new hA hS.1
  refine pv_thrown (vx_runV (As := [.int p0]) (rest := []) ⟨hx, hb, hml, hown, hts⟩ (c_X11_idealAt l hfl D _ h0 q p0) (cwV 1 hts (pv_gV w7_190 w7_192 wp4_15 w1_1 w7_193) rfl rfl rfl (by decide +kernel) ⟨Nat.le_of_ble_eq_true rfl, Nat.le_of_ble_eq_true rfl⟩) (pv_pV hE hS hF (hP.sub [0] rfl) (hK.sub [] rfl) (hD.sub [0] (by decide) rfl) (va_recv (ci := 0) (q0 := 0) hK hP rfl rfl)) rfl rfl hl.1 rfl (lv_room (Nat.le_of_ble_eq_true rfl)) dX11_isIn_2 ⟨Nat.le_of_ble_eq_true rfl, Nat.le_of_ble_eq_true rfl⟩) (fun _ _ _ h => h) hS hF hF (fun E ce q9 u t H1 locs1 ht hvm hpx hbx hz1 hk1 hS hce hcv hcl => ?_)
  exact vx_out (fun x h9 => absurd (hnt x h9) id) hlocks hce hcv hcl (fun t ht hvm => ⟨(), trivial, hbx, hS.F ht⟩) hS.2.2 (Nat.le_of_ble_eq_true rfl) (Nat.le_of_ble_eq_true rfl)

theorem dX11_size_0 : decode cX11_size 0 = .ok (.aload_n 0, 1) := by decide +kernel
theorem dX11_size_1 : decode cX11_size 1 = .ok (.aload_n 0, 1) := by decide +kernel
theorem dX11_size_2 : decode cX11_size 2 = .ok (.iload_n 1, 1) := by decide +kernel
theorem dX11_size_3 : decode cX11_size 3 = .ok (.invokevirtual 313, 3) := by decide +kernel
set_option maxHeartbeats 4000000 in
set_option maxRecDepth 100000 in
/-- size on a fresh object: throws -/
theorem c_X11_size (l : Launch) (hfl : l.stackTraces = false) (D : va_G) (sz : Nat) (h0 : Nat) (q : Nat → Nat) (p0 : Int32) : vx_Met l yX11_size (Cond.code yX11_size cX11_size 3 (some .int) :: pv_W) ({ frames := 8, cells := 1, slots := 6, locals := 122 } : Room) (va_Pc [.ref h0, .int p0] (pv_P D [] [(h0, .inr (0, [.ref (q 0), .int 0, .int 108, .ref (q 1), .int 0, .ref (q 2), .int 0, .ref (q 3), .ref (q 4), .int 1, .ref (q 5), .ref (q 6), .ref (q 7), .ref (q 8), .ref (q 9)]))] (va_A [] sz) sz)) (fun _ _ _ _ => False) (vx_X (fun _ : Unit => True) (fun E _ _ => E = "java/util/NoSuchElementException") (va_A [] sz)) 1 6 (va_A [] sz) := by
  refine vx_ofW (cc := cX11_size) (maxL := 3) (ret := (some .int)) (by decide) rfl ?_
  intro p e s m args below meth c s₁ B hml hnt hv
  obtain ⟨rfl, hsz, hE, hP, hK, hD0⟩ := hv
  have hx := B.exec
  have hb := B.bytes
  have hr := B.returns
  have hts := fun (w : Cond) (h : w ∈ pv_W) => atoms_spec (ws := Cond.code yX11_size cX11_size 3 (some .int) :: pv_W) B.pre w (List.mem_cons_of_mem _ h)
  have hg := fun {w : Cond} (h : w ∈ lw_tbl) (g : goodWord w = true) => hts w (pv_in h g)
  have hown : s.vm.findClass RX11 = some m.cls := findClass_of_methodNamed B.named
  have hlocks := B.notSynchronized
  subst hsz
  have hD := hD0
  generalize hAe : va_A [] s.heap.size = A at hE ⊢
  have hA : ∀ q : Nat, s.heap.size ≤ q → A q := fun q h => by rw [← hAe]; exact Or.inr h
  have hS : va_S A s.heap s.heap [] := va_S.rf
  have hP : va_P D pv_cl [(h0, .inr (0, [.ref (q 0), .int 0, .int 108, .ref (q 1), .int 0, .ref (q 2), .int 0, .ref (q 3), .ref (q 4), .int 1, .ref (q 5), .ref (q 6), .ref (q 7), .ref (q 8), .ref (q 9)]))] s.heap := hP
  have hl := lv_entry ([.ref h0, .int p0]) (n := 3) (Nat.le_of_ble_eq_true rfl)
  rw [lg_entry_eq]
  generalize (lg_sl ([.ref h0, .int p0]) ++ List.replicate (3 - (lg_sl ([.ref h0, .int p0])).length) Slot.unset).toArray = ls at hl ⊢
  have hl : lv_has ls 3 [(0, .ref h0), (1, .int p0)] := hl
  refine lv_aload_n hx hb dX11_size_0 rfl (lv_at hl 0 rfl) ?_
  refine lv_aload_n hx hb dX11_size_1 rfl (lv_at hl 0 rfl) ?_
  refine lv_iload_n hx hb dX11_size_2 rfl (lv_at hl 1 rfl) ?_
  have hF := pv_new hA hS.1
  refine pv_thrown (vx_runV (As := [.int p0]) (rest := [.ref h0]) ⟨hx, hb, hml, hown, hts⟩ (c_X11_idealAt l hfl D _ h0 q p0) (cwV 1 hts (pv_gV w7_190 w7_192 wp4_15 w1_1 w7_193) rfl rfl rfl (by decide +kernel) ⟨Nat.le_of_ble_eq_true rfl, Nat.le_of_ble_eq_true rfl⟩) (pv_pV hE hS hF (hP.sub [0] rfl) (hK.sub [] rfl) (hD.sub [0] (by decide) rfl) (va_recv (ci := 0) (q0 := 0) hK hP rfl rfl)) rfl rfl hl.1 rfl (lv_room (Nat.le_of_ble_eq_true rfl)) dX11_size_3 ⟨Nat.le_of_ble_eq_true rfl, Nat.le_of_ble_eq_true rfl⟩) (fun _ _ _ h => h) hS hF hF (fun E ce q9 u t H1 locs1 ht hvm hpx hbx hz1 hk1 hS hce hcv hcl => ?_)
  exact vx_out (fun x h9 => absurd (hnt x h9) id) hlocks hce hcv hcl (fun t ht hvm => ⟨(), trivial, hbx, hS.F ht⟩) hS.2.2 (Nat.le_of_ble_eq_true rfl) (Nat.le_of_ble_eq_true rfl)
end
section
theorem pv_ao {A : Nat → Prop} {s : State} {H : Heap} (h : pv_E A s H) {C : String} (hC : FieldType.object C ∈ pv_ot) : va_AO C s := h.2.2.2.2 _ hC
def pv_pr (g : Int32) : Prop := g = 2 ∨ g = 3 ∨ g = 5 ∨ g = 7 ∨ g = 11 ∨ g = 13
def pv_vr (v : Int32) : Prop := ¬ v < 0 ∧ ¬ (3 : Int32) ≤ v
def pv_sn (c : Int32) : Prop := c = 43 ∨ c = 45 ∨ c = 48
def pv_od (c : Int32) : Prop := c = 108 ∨ c = 100 ∨ c = 114
theorem pv_no6 {g : Int32} (a : ¬ g = 2) (b : ¬ g = 3) (c : ¬ g = 5) (d : ¬ g = 7) (e : ¬ g = 11) (f : ¬ g = 13) : ¬ pv_pr g := fun h => h.elim a (fun h => h.elim b (fun h => h.elim c (fun h => h.elim d (fun h => h.elim e f))))
theorem pv_no3 {P Q R : Prop} (a : ¬ P) (b : ¬ Q) (c : ¬ R) : ¬ (P ∨ Q ∨ R) := fun h => h.elim a (fun h => h.elim b c)
theorem pv_no2 {P Q : Prop} (a : ¬ P) (b : ¬ Q) : ¬ (P ∨ Q) := fun h => h.elim a b
theorem pv_vin {v : Int32} (h : pv_vr v) : vp_in v 3 := by
  rw [vp_in_iff]
  have h1 := Int32.not_lt.mp h.1
  have h2 := h.2
  rw [Int32.le_iff_toInt_le] at h1 h2
  have e0 : (0 : Int32).toInt = 0 := rfl
  have e3 : (3 : Int32).toInt = 3 := rfl
  omega
theorem pv_v3 {v : Int32} (h : pv_vr v) : v = 0 ∨ v = 1 ∨ v = 2 := by
  obtain ⟨j, hj, rfl⟩ := vp_in_of (pv_vin h) (by decide)
  rcases (show j = 0 ∨ j = 1 ∨ j = 2 by omega) with rfl | rfl | rfl
  · exact Or.inl rfl
  · exact Or.inr (Or.inl rfl)
  · exact Or.inr (Or.inr rfl)
def pv_ch (f : Nat → Int32) : Prop := ∀ j, j < 3 → narrow .char (.int (f j)) = .int (f j)
theorem pv_ch63 {f : Nat → Int32} (h : ∀ j, j < 3 → f j = 63) : pv_ch f := fun j hj => by rw [h j hj]; rfl
theorem pv_ch_upd {f : Nat → Int32} (h : pv_ch f) (k : Nat) {x : Int32} (hx : narrow .char (.int x) = .int x) : pv_ch (upd f k x) := fun j hj => by
  by_cases e : j = k
  · subst e; rw [pk_us]; exact hx
  · rw [pk_un e]; exact h j hj
theorem pv_vcl {v : Int32} (h : pv_vr v) : v.toNatClampNeg < 3 := by
  obtain ⟨j, hj, rfl⟩ := vp_in_of (pv_vin h) (by decide)
  rw [nI_clamp (by omega)]; exact hj

theorem dX11_isPrime_0 : decode cX11_isPrime 0 = .ok (.iload_n 0, 1) := by decide +kernel
theorem dX11_isPrime_1 : decode cX11_isPrime 1 = .ok (.iconst 2, 1) := by decide +kernel
theorem dX11_isPrime_2 : decode cX11_isPrime 2 = .ok (.if_icmp .eq 31, 3) := by decide +kernel
theorem dX11_isPrime_33 : decode cX11_isPrime 33 = .ok (.iconst 1, 1) := by decide +kernel
theorem dX11_isPrime_34 : decode cX11_isPrime 34 = .ok (.goto 4, 3) := by decide +kernel
theorem dX11_isPrime_38 : decode cX11_isPrime 38 = .ok (.ireturn, 1) := by decide +kernel
theorem dX11_isPrime_5 : decode cX11_isPrime 5 = .ok (.iload_n 0, 1) := by decide +kernel
theorem dX11_isPrime_6 : decode cX11_isPrime 6 = .ok (.iconst 3, 1) := by decide +kernel
theorem dX11_isPrime_7 : decode cX11_isPrime 7 = .ok (.if_icmp .eq 26, 3) := by decide +kernel
theorem dX11_isPrime_10 : decode cX11_isPrime 10 = .ok (.iload_n 0, 1) := by decide +kernel
theorem dX11_isPrime_11 : decode cX11_isPrime 11 = .ok (.iconst 5, 1) := by decide +kernel
theorem dX11_isPrime_12 : decode cX11_isPrime 12 = .ok (.if_icmp .eq 21, 3) := by decide +kernel
theorem dX11_isPrime_15 : decode cX11_isPrime 15 = .ok (.iload_n 0, 1) := by decide +kernel
theorem dX11_isPrime_16 : decode cX11_isPrime 16 = .ok (.bipush 7, 2) := by decide +kernel
theorem dX11_isPrime_18 : decode cX11_isPrime 18 = .ok (.if_icmp .eq 15, 3) := by decide +kernel
theorem dX11_isPrime_21 : decode cX11_isPrime 21 = .ok (.iload_n 0, 1) := by decide +kernel
theorem dX11_isPrime_22 : decode cX11_isPrime 22 = .ok (.bipush 11, 2) := by decide +kernel
theorem dX11_isPrime_24 : decode cX11_isPrime 24 = .ok (.if_icmp .eq 9, 3) := by decide +kernel
theorem dX11_isPrime_27 : decode cX11_isPrime 27 = .ok (.iload_n 0, 1) := by decide +kernel
theorem dX11_isPrime_28 : decode cX11_isPrime 28 = .ok (.bipush 13, 2) := by decide +kernel
theorem dX11_isPrime_30 : decode cX11_isPrime 30 = .ok (.if_icmp .ne 7, 3) := by decide +kernel
theorem dX11_isPrime_37 : decode cX11_isPrime 37 = .ok (.iconst 0, 1) := by decide +kernel
set_option maxHeartbeats 4000000 in
set_option maxRecDepth 100000 in
/-- isPrime -/
theorem c_X11_isPrime (l : Launch) (hfl : l.stackTraces = false) (D : va_G) (sz : Nat) (p0 : Int32) : Met l yX11_isPrime (Cond.code yX11_isPrime cX11_isPrime 1 (some .boolean) :: pv_W) ({ frames := 0, cells := 0, slots := 0, locals := 0 } : Room) (va_Pc [.int p0] (pv_P D [] [] (va_A [] sz) sz)) (va_Qi (fun r (_ : Unit) => (r = 1 ∧ pv_pr p0) ∨ (r = 0 ∧ ¬ pv_pr p0)) (fun _ _ => True) (va_A [] sz)) 0 0 (va_A [] sz) := by
  refine Met.ofW (cc := cX11_isPrime) (maxL := 1) (ret := (some .boolean)) (by decide) rfl ?_
  intro p e s m args below meth c s₁ B hml hv
  obtain ⟨rfl, hsz, hE, hP, hK, hD0⟩ := hv
  have hx := B.exec
  have hb := B.bytes
  have hr := B.returns
  have hts := fun (w : Cond) (h : w ∈ pv_W) => atoms_spec (ws := Cond.code yX11_isPrime cX11_isPrime 1 (some .boolean) :: pv_W) B.pre w (List.mem_cons_of_mem _ h)
  have hg := fun {w : Cond} (h : w ∈ lw_tbl) (g : goodWord w = true) => hts w (pv_in h g)
  have hown : s.vm.findClass RX11 = some m.cls := findClass_of_methodNamed B.named
  have hlocks := B.notSynchronized
  subst hsz
  have hD := hD0.self (sz := s.heap.size)
  generalize hAe : va_A [] s.heap.size = A at hD hE ⊢
  have hA : ∀ q : Nat, s.heap.size ≤ q → A q := fun q h => by rw [← hAe]; exact Or.inr h
  have hS : va_S A s.heap s.heap [] := va_S.rf
  have hP : va_P D pv_cl [] s.heap := hP
  have hl := lv_entry ([.int p0]) (n := 1) (Nat.le_of_ble_eq_true rfl)
  rw [lg_entry_eq]
  generalize (lg_sl ([.int p0]) ++ List.replicate (1 - (lg_sl ([.int p0])).length) Slot.unset).toArray = ls at hl ⊢
  have hl : lv_has ls 1 [(0, .int p0)] := hl
  refine lv_iload_n hx hb dX11_isPrime_0 rfl (lv_at hl 0 rfl) ?_
  refine lv_iconst (v := 2) hx hb dX11_isPrime_1 (by decide) ?_
  refine lv_icmp_eq (tgt := 33) hx hb dX11_isPrime_2 (by decide) (fun c_1 => ?_) (fun c_1 => ?_)
  · refine lv_iconst (v := 1) hx hb dX11_isPrime_33 (by decide) ?_
    refine lv_goto (tgt := 38) hx hb dX11_isPrime_34 (by decide) ?_
    refine W.widen (k := 0) (n := 0) (Nat.le_of_ble_eq_true rfl) (Nat.le_of_ble_eq_true rfl) ?_
    exact W.zret (v := 1) (ty := .boolean) hx hb hr rfl (fun t ht hW => ⟨⟨1, (), rfl, Or.inl ⟨rfl, Or.inl c_1⟩, trivial⟩, hS.F ht⟩) hS.2.2 dX11_isPrime_38
  · refine lv_iload_n hx hb dX11_isPrime_5 rfl (lv_at hl 0 rfl) ?_
    refine lv_iconst (v := 3) hx hb dX11_isPrime_6 (by decide) ?_
    refine lv_icmp_eq (tgt := 33) hx hb dX11_isPrime_7 (by decide) (fun c_2 => ?_) (fun c_2 => ?_)
    · refine lv_iconst (v := 1) hx hb dX11_isPrime_33 (by decide) ?_
      refine lv_goto (tgt := 38) hx hb dX11_isPrime_34 (by decide) ?_
      refine W.widen (k := 0) (n := 0) (Nat.le_of_ble_eq_true rfl) (Nat.le_of_ble_eq_true rfl) ?_
      exact W.zret (v := 1) (ty := .boolean) hx hb hr rfl (fun t ht hW => ⟨⟨1, (), rfl, Or.inl ⟨rfl, Or.inr (Or.inl c_2)⟩, trivial⟩, hS.F ht⟩) hS.2.2 dX11_isPrime_38
    · refine lv_iload_n hx hb dX11_isPrime_10 rfl (lv_at hl 0 rfl) ?_
      refine lv_iconst (v := 5) hx hb dX11_isPrime_11 (by decide) ?_
      refine lv_icmp_eq (tgt := 33) hx hb dX11_isPrime_12 (by decide) (fun c_3 => ?_) (fun c_3 => ?_)
      · refine lv_iconst (v := 1) hx hb dX11_isPrime_33 (by decide) ?_
        refine lv_goto (tgt := 38) hx hb dX11_isPrime_34 (by decide) ?_
        refine W.widen (k := 0) (n := 0) (Nat.le_of_ble_eq_true rfl) (Nat.le_of_ble_eq_true rfl) ?_
        exact W.zret (v := 1) (ty := .boolean) hx hb hr rfl (fun t ht hW => ⟨⟨1, (), rfl, Or.inl ⟨rfl, Or.inr (Or.inr (Or.inl c_3))⟩, trivial⟩, hS.F ht⟩) hS.2.2 dX11_isPrime_38
      · refine lv_iload_n hx hb dX11_isPrime_15 rfl (lv_at hl 0 rfl) ?_
        refine lv_bipush (v := 7) hx hb dX11_isPrime_16 (by decide) ?_
        refine lv_icmp_eq (tgt := 33) hx hb dX11_isPrime_18 (by decide) (fun c_4 => ?_) (fun c_4 => ?_)
        · refine lv_iconst (v := 1) hx hb dX11_isPrime_33 (by decide) ?_
          refine lv_goto (tgt := 38) hx hb dX11_isPrime_34 (by decide) ?_
          refine W.widen (k := 0) (n := 0) (Nat.le_of_ble_eq_true rfl) (Nat.le_of_ble_eq_true rfl) ?_
          exact W.zret (v := 1) (ty := .boolean) hx hb hr rfl (fun t ht hW => ⟨⟨1, (), rfl, Or.inl ⟨rfl, Or.inr (Or.inr (Or.inr (Or.inl c_4)))⟩, trivial⟩, hS.F ht⟩) hS.2.2 dX11_isPrime_38
        · refine lv_iload_n hx hb dX11_isPrime_21 rfl (lv_at hl 0 rfl) ?_
          refine lv_bipush (v := 11) hx hb dX11_isPrime_22 (by decide) ?_
          refine lv_icmp_eq (tgt := 33) hx hb dX11_isPrime_24 (by decide) (fun c_5 => ?_) (fun c_5 => ?_)
          · refine lv_iconst (v := 1) hx hb dX11_isPrime_33 (by decide) ?_
            refine lv_goto (tgt := 38) hx hb dX11_isPrime_34 (by decide) ?_
            refine W.widen (k := 0) (n := 0) (Nat.le_of_ble_eq_true rfl) (Nat.le_of_ble_eq_true rfl) ?_
            exact W.zret (v := 1) (ty := .boolean) hx hb hr rfl (fun t ht hW => ⟨⟨1, (), rfl, Or.inl ⟨rfl, Or.inr (Or.inr (Or.inr (Or.inr (Or.inl c_5))))⟩, trivial⟩, hS.F ht⟩) hS.2.2 dX11_isPrime_38
          · refine lv_iload_n hx hb dX11_isPrime_27 rfl (lv_at hl 0 rfl) ?_
            refine lv_bipush (v := 13) hx hb dX11_isPrime_28 (by decide) ?_
            refine lv_icmp_ne (tgt := 37) hx hb dX11_isPrime_30 (by decide) (fun c_6 => ?_) (fun c_6 => ?_)
            · refine lv_iconst (v := 0) hx hb dX11_isPrime_37 (by decide) ?_
              refine W.widen (k := 0) (n := 0) (Nat.le_of_ble_eq_true rfl) (Nat.le_of_ble_eq_true rfl) ?_
              exact W.zret (v := 0) (ty := .boolean) hx hb hr rfl (fun t ht hW => ⟨⟨0, (), rfl, Or.inr ⟨rfl, pv_no6 c_1 c_2 c_3 c_4 c_5 c_6⟩, trivial⟩, hS.F ht⟩) hS.2.2 dX11_isPrime_38
            · refine lv_iconst (v := 1) hx hb dX11_isPrime_33 (by decide) ?_
              refine lv_goto (tgt := 38) hx hb dX11_isPrime_34 (by decide) ?_
              refine W.widen (k := 0) (n := 0) (Nat.le_of_ble_eq_true rfl) (Nat.le_of_ble_eq_true rfl) ?_
              exact W.zret (v := 1) (ty := .boolean) hx hb hr rfl (fun t ht hW => ⟨⟨1, (), rfl, Or.inl ⟨rfl, Or.inr (Or.inr (Or.inr (Or.inr (Or.inr (c_6)))))⟩, trivial⟩, hS.F ht⟩) hS.2.2 dX11_isPrime_38

theorem dX13_isPrime_0 : decode cX13_isPrime 0 = .ok (.iload_n 0, 1) := by decide +kernel
theorem dX13_isPrime_1 : decode cX13_isPrime 1 = .ok (.iconst 2, 1) := by decide +kernel
theorem dX13_isPrime_2 : decode cX13_isPrime 2 = .ok (.if_icmp .eq 31, 3) := by decide +kernel
theorem dX13_isPrime_33 : decode cX13_isPrime 33 = .ok (.iconst 1, 1) := by decide +kernel
theorem dX13_isPrime_34 : decode cX13_isPrime 34 = .ok (.goto 4, 3) := by decide +kernel
theorem dX13_isPrime_38 : decode cX13_isPrime 38 = .ok (.ireturn, 1) := by decide +kernel
theorem dX13_isPrime_5 : decode cX13_isPrime 5 = .ok (.iload_n 0, 1) := by decide +kernel
theorem dX13_isPrime_6 : decode cX13_isPrime 6 = .ok (.iconst 3, 1) := by decide +kernel
theorem dX13_isPrime_7 : decode cX13_isPrime 7 = .ok (.if_icmp .eq 26, 3) := by decide +kernel
theorem dX13_isPrime_10 : decode cX13_isPrime 10 = .ok (.iload_n 0, 1) := by decide +kernel
theorem dX13_isPrime_11 : decode cX13_isPrime 11 = .ok (.iconst 5, 1) := by decide +kernel
theorem dX13_isPrime_12 : decode cX13_isPrime 12 = .ok (.if_icmp .eq 21, 3) := by decide +kernel
theorem dX13_isPrime_15 : decode cX13_isPrime 15 = .ok (.iload_n 0, 1) := by decide +kernel
theorem dX13_isPrime_16 : decode cX13_isPrime 16 = .ok (.bipush 7, 2) := by decide +kernel
theorem dX13_isPrime_18 : decode cX13_isPrime 18 = .ok (.if_icmp .eq 15, 3) := by decide +kernel
theorem dX13_isPrime_21 : decode cX13_isPrime 21 = .ok (.iload_n 0, 1) := by decide +kernel
theorem dX13_isPrime_22 : decode cX13_isPrime 22 = .ok (.bipush 11, 2) := by decide +kernel
theorem dX13_isPrime_24 : decode cX13_isPrime 24 = .ok (.if_icmp .eq 9, 3) := by decide +kernel
theorem dX13_isPrime_27 : decode cX13_isPrime 27 = .ok (.iload_n 0, 1) := by decide +kernel
theorem dX13_isPrime_28 : decode cX13_isPrime 28 = .ok (.bipush 13, 2) := by decide +kernel
theorem dX13_isPrime_30 : decode cX13_isPrime 30 = .ok (.if_icmp .ne 7, 3) := by decide +kernel
theorem dX13_isPrime_37 : decode cX13_isPrime 37 = .ok (.iconst 0, 1) := by decide +kernel
set_option maxHeartbeats 4000000 in
set_option maxRecDepth 100000 in
/-- isPrime -/
theorem c_X13_isPrime (l : Launch) (hfl : l.stackTraces = false) (D : va_G) (sz : Nat) (p0 : Int32) : Met l yX13_isPrime (Cond.code yX13_isPrime cX13_isPrime 1 (some .boolean) :: pv_W) ({ frames := 0, cells := 0, slots := 0, locals := 0 } : Room) (va_Pc [.int p0] (pv_P D [] [] (va_A [] sz) sz)) (va_Qi (fun r (_ : Unit) => (r = 1 ∧ pv_pr p0) ∨ (r = 0 ∧ ¬ pv_pr p0)) (fun _ _ => True) (va_A [] sz)) 0 0 (va_A [] sz) := by
  refine Met.ofW (cc := cX13_isPrime) (maxL := 1) (ret := (some .boolean)) (by decide) rfl ?_
  intro p e s m args below meth c s₁ B hml hv
  obtain ⟨rfl, hsz, hE, hP, hK, hD0⟩ := hv
  have hx := B.exec
  have hb := B.bytes
  have hr := B.returns
  have hts := fun (w : Cond) (h : w ∈ pv_W) => atoms_spec (ws := Cond.code yX13_isPrime cX13_isPrime 1 (some .boolean) :: pv_W) B.pre w (List.mem_cons_of_mem _ h)
  have hg := fun {w : Cond} (h : w ∈ lw_tbl) (g : goodWord w = true) => hts w (pv_in h g)
  have hown : s.vm.findClass RX13 = some m.cls := findClass_of_methodNamed B.named
  have hlocks := B.notSynchronized
  subst hsz
  have hD := hD0.self (sz := s.heap.size)
  generalize hAe : va_A [] s.heap.size = A at hD hE ⊢
  have hA : ∀ q : Nat, s.heap.size ≤ q → A q := fun q h => by rw [← hAe]; exact Or.inr h
  have hS : va_S A s.heap s.heap [] := va_S.rf
  have hP : va_P D pv_cl [] s.heap := hP
  have hl := lv_entry ([.int p0]) (n := 1) (Nat.le_of_ble_eq_true rfl)
  rw [lg_entry_eq]
  generalize (lg_sl ([.int p0]) ++ List.replicate (1 - (lg_sl ([.int p0])).length) Slot.unset).toArray = ls at hl ⊢
  have hl : lv_has ls 1 [(0, .int p0)] := hl
  refine lv_iload_n hx hb dX13_isPrime_0 rfl (lv_at hl 0 rfl) ?_
  refine lv_iconst (v := 2) hx hb dX13_isPrime_1 (by decide) ?_
  refine lv_icmp_eq (tgt := 33) hx hb dX13_isPrime_2 (by decide) (fun c_1 => ?_) (fun c_1 => ?_)
  · refine lv_iconst (v := 1) hx hb dX13_isPrime_33 (by decide) ?_
    refine lv_goto (tgt := 38) hx hb dX13_isPrime_34 (by decide) ?_
    refine W.widen (k := 0) (n := 0) (Nat.le_of_ble_eq_true rfl) (Nat.le_of_ble_eq_true rfl) ?_
    exact W.zret (v := 1) (ty := .boolean) hx hb hr rfl (fun t ht hW => ⟨⟨1, (), rfl, Or.inl ⟨rfl, Or.inl c_1⟩, trivial⟩, hS.F ht⟩) hS.2.2 dX13_isPrime_38
  · refine lv_iload_n hx hb dX13_isPrime_5 rfl (lv_at hl 0 rfl) ?_
    refine lv_iconst (v := 3) hx hb dX13_isPrime_6 (by decide) ?_
    refine lv_icmp_eq (tgt := 33) hx hb dX13_isPrime_7 (by decide) (fun c_2 => ?_) (fun c_2 => ?_)
    · refine lv_iconst (v := 1) hx hb dX13_isPrime_33 (by decide) ?_
      refine lv_goto (tgt := 38) hx hb dX13_isPrime_34 (by decide) ?_
      refine W.widen (k := 0) (n := 0) (Nat.le_of_ble_eq_true rfl) (Nat.le_of_ble_eq_true rfl) ?_
      exact W.zret (v := 1) (ty := .boolean) hx hb hr rfl (fun t ht hW => ⟨⟨1, (), rfl, Or.inl ⟨rfl, Or.inr (Or.inl c_2)⟩, trivial⟩, hS.F ht⟩) hS.2.2 dX13_isPrime_38
    · refine lv_iload_n hx hb dX13_isPrime_10 rfl (lv_at hl 0 rfl) ?_
      refine lv_iconst (v := 5) hx hb dX13_isPrime_11 (by decide) ?_
      refine lv_icmp_eq (tgt := 33) hx hb dX13_isPrime_12 (by decide) (fun c_3 => ?_) (fun c_3 => ?_)
      · refine lv_iconst (v := 1) hx hb dX13_isPrime_33 (by decide) ?_
        refine lv_goto (tgt := 38) hx hb dX13_isPrime_34 (by decide) ?_
        refine W.widen (k := 0) (n := 0) (Nat.le_of_ble_eq_true rfl) (Nat.le_of_ble_eq_true rfl) ?_
        exact W.zret (v := 1) (ty := .boolean) hx hb hr rfl (fun t ht hW => ⟨⟨1, (), rfl, Or.inl ⟨rfl, Or.inr (Or.inr (Or.inl c_3))⟩, trivial⟩, hS.F ht⟩) hS.2.2 dX13_isPrime_38
      · refine lv_iload_n hx hb dX13_isPrime_15 rfl (lv_at hl 0 rfl) ?_
        refine lv_bipush (v := 7) hx hb dX13_isPrime_16 (by decide) ?_
        refine lv_icmp_eq (tgt := 33) hx hb dX13_isPrime_18 (by decide) (fun c_4 => ?_) (fun c_4 => ?_)
        · refine lv_iconst (v := 1) hx hb dX13_isPrime_33 (by decide) ?_
          refine lv_goto (tgt := 38) hx hb dX13_isPrime_34 (by decide) ?_
          refine W.widen (k := 0) (n := 0) (Nat.le_of_ble_eq_true rfl) (Nat.le_of_ble_eq_true rfl) ?_
          exact W.zret (v := 1) (ty := .boolean) hx hb hr rfl (fun t ht hW => ⟨⟨1, (), rfl, Or.inl ⟨rfl, Or.inr (Or.inr (Or.inr (Or.inl c_4)))⟩, trivial⟩, hS.F ht⟩) hS.2.2 dX13_isPrime_38
        · refine lv_iload_n hx hb dX13_isPrime_21 rfl (lv_at hl 0 rfl) ?_
          refine lv_bipush (v := 11) hx hb dX13_isPrime_22 (by decide) ?_
          refine lv_icmp_eq (tgt := 33) hx hb dX13_isPrime_24 (by decide) (fun c_5 => ?_) (fun c_5 => ?_)
          · refine lv_iconst (v := 1) hx hb dX13_isPrime_33 (by decide) ?_
            refine lv_goto (tgt := 38) hx hb dX13_isPrime_34 (by decide) ?_
            refine W.widen (k := 0) (n := 0) (Nat.le_of_ble_eq_true rfl) (Nat.le_of_ble_eq_true rfl) ?_
            exact W.zret (v := 1) (ty := .boolean) hx hb hr rfl (fun t ht hW => ⟨⟨1, (), rfl, Or.inl ⟨rfl, Or.inr (Or.inr (Or.inr (Or.inr (Or.inl c_5))))⟩, trivial⟩, hS.F ht⟩) hS.2.2 dX13_isPrime_38
          · refine lv_iload_n hx hb dX13_isPrime_27 rfl (lv_at hl 0 rfl) ?_
            refine lv_bipush (v := 13) hx hb dX13_isPrime_28 (by decide) ?_
            refine lv_icmp_ne (tgt := 37) hx hb dX13_isPrime_30 (by decide) (fun c_6 => ?_) (fun c_6 => ?_)
            · refine lv_iconst (v := 0) hx hb dX13_isPrime_37 (by decide) ?_
              refine W.widen (k := 0) (n := 0) (Nat.le_of_ble_eq_true rfl) (Nat.le_of_ble_eq_true rfl) ?_
              exact W.zret (v := 0) (ty := .boolean) hx hb hr rfl (fun t ht hW => ⟨⟨0, (), rfl, Or.inr ⟨rfl, pv_no6 c_1 c_2 c_3 c_4 c_5 c_6⟩, trivial⟩, hS.F ht⟩) hS.2.2 dX13_isPrime_38
            · refine lv_iconst (v := 1) hx hb dX13_isPrime_33 (by decide) ?_
              refine lv_goto (tgt := 38) hx hb dX13_isPrime_34 (by decide) ?_
              refine W.widen (k := 0) (n := 0) (Nat.le_of_ble_eq_true rfl) (Nat.le_of_ble_eq_true rfl) ?_
              exact W.zret (v := 1) (ty := .boolean) hx hb hr rfl (fun t ht hW => ⟨⟨1, (), rfl, Or.inl ⟨rfl, Or.inr (Or.inr (Or.inr (Or.inr (Or.inr (c_6)))))⟩, trivial⟩, hS.F ht⟩) hS.2.2 dX13_isPrime_38

theorem dX11_isVariable_0 : decode cX11_isVariable 0 = .ok (.iload_n 0, 1) := by decide +kernel
theorem dX11_isVariable_1 : decode cX11_isVariable 1 = .ok (.ifCond .lt 12, 3) := by decide +kernel
theorem dX11_isVariable_13 : decode cX11_isVariable 13 = .ok (.iconst 0, 1) := by decide +kernel
theorem dX11_isVariable_14 : decode cX11_isVariable 14 = .ok (.ireturn, 1) := by decide +kernel
theorem dX11_isVariable_4 : decode cX11_isVariable 4 = .ok (.iload_n 0, 1) := by decide +kernel
theorem dX11_isVariable_5 : decode cX11_isVariable 5 = .ok (.iconst 3, 1) := by decide +kernel
theorem dX11_isVariable_6 : decode cX11_isVariable 6 = .ok (.if_icmp .ge 7, 3) := by decide +kernel
theorem dX11_isVariable_9 : decode cX11_isVariable 9 = .ok (.iconst 1, 1) := by decide +kernel
theorem dX11_isVariable_10 : decode cX11_isVariable 10 = .ok (.goto 4, 3) := by decide +kernel
set_option maxHeartbeats 4000000 in
set_option maxRecDepth 100000 in
/-- isVariable -/
theorem c_X11_isVariable (l : Launch) (hfl : l.stackTraces = false) (D : va_G) (sz : Nat) (p0 : Int32) : Met l yX11_isVariable (Cond.code yX11_isVariable cX11_isVariable 1 (some .boolean) :: pv_W) ({ frames := 0, cells := 0, slots := 0, locals := 0 } : Room) (va_Pc [.int p0] (pv_P D [] [] (va_A [] sz) sz)) (va_Qi (fun r (_ : Unit) => (r = 1 ∧ pv_vr p0) ∨ (r = 0 ∧ ¬ pv_vr p0)) (fun _ _ => True) (va_A [] sz)) 0 0 (va_A [] sz) := by
  refine Met.ofW (cc := cX11_isVariable) (maxL := 1) (ret := (some .boolean)) (by decide) rfl ?_
  intro p e s m args below meth c s₁ B hml hv
  obtain ⟨rfl, hsz, hE, hP, hK, hD0⟩ := hv
  have hx := B.exec
  have hb := B.bytes
  have hr := B.returns
  have hts := fun (w : Cond) (h : w ∈ pv_W) => atoms_spec (ws := Cond.code yX11_isVariable cX11_isVariable 1 (some .boolean) :: pv_W) B.pre w (List.mem_cons_of_mem _ h)
  have hg := fun {w : Cond} (h : w ∈ lw_tbl) (g : goodWord w = true) => hts w (pv_in h g)
  have hown : s.vm.findClass RX11 = some m.cls := findClass_of_methodNamed B.named
  have hlocks := B.notSynchronized
  subst hsz
  have hD := hD0.self (sz := s.heap.size)
  generalize hAe : va_A [] s.heap.size = A at hD hE ⊢
  have hA : ∀ q : Nat, s.heap.size ≤ q → A q := fun q h => by rw [← hAe]; exact Or.inr h
  have hS : va_S A s.heap s.heap [] := va_S.rf
  have hP : va_P D pv_cl [] s.heap := hP
  have hl := lv_entry ([.int p0]) (n := 1) (Nat.le_of_ble_eq_true rfl)
  rw [lg_entry_eq]
  generalize (lg_sl ([.int p0]) ++ List.replicate (1 - (lg_sl ([.int p0])).length) Slot.unset).toArray = ls at hl ⊢
  have hl : lv_has ls 1 [(0, .int p0)] := hl
  refine lv_iload_n hx hb dX11_isVariable_0 rfl (lv_at hl 0 rfl) ?_
  refine lv_if_lt (tgt := 13) hx hb dX11_isVariable_1 (by decide) (fun c_1 => ?_) (fun c_1 => ?_)
  · refine lv_iconst (v := 0) hx hb dX11_isVariable_13 (by decide) ?_
    refine W.widen (k := 0) (n := 0) (Nat.le_of_ble_eq_true rfl) (Nat.le_of_ble_eq_true rfl) ?_
    exact W.zret (v := 0) (ty := .boolean) hx hb hr rfl (fun t ht hW => ⟨⟨0, (), rfl, Or.inr ⟨rfl, fun h => h.1 c_1⟩, trivial⟩, hS.F ht⟩) hS.2.2 dX11_isVariable_14
  · refine lv_iload_n hx hb dX11_isVariable_4 rfl (lv_at hl 0 rfl) ?_
    refine lv_iconst (v := 3) hx hb dX11_isVariable_5 (by decide) ?_
    refine lv_icmp_ge (tgt := 13) hx hb dX11_isVariable_6 (by decide) (fun c_2 => ?_) (fun c_2 => ?_)
    · refine lv_iconst (v := 0) hx hb dX11_isVariable_13 (by decide) ?_
      refine W.widen (k := 0) (n := 0) (Nat.le_of_ble_eq_true rfl) (Nat.le_of_ble_eq_true rfl) ?_
      exact W.zret (v := 0) (ty := .boolean) hx hb hr rfl (fun t ht hW => ⟨⟨0, (), rfl, Or.inr ⟨rfl, fun h => h.2 c_2⟩, trivial⟩, hS.F ht⟩) hS.2.2 dX11_isVariable_14
    · refine lv_iconst (v := 1) hx hb dX11_isVariable_9 (by decide) ?_
      refine lv_goto (tgt := 14) hx hb dX11_isVariable_10 (by decide) ?_
      refine W.widen (k := 0) (n := 0) (Nat.le_of_ble_eq_true rfl) (Nat.le_of_ble_eq_true rfl) ?_
      exact W.zret (v := 1) (ty := .boolean) hx hb hr rfl (fun t ht hW => ⟨⟨1, (), rfl, Or.inl ⟨rfl, c_1, c_2⟩, trivial⟩, hS.F ht⟩) hS.2.2 dX11_isVariable_14

theorem dX11_requireGround_0 : decode cX11_requireGround 0 = .ok (.iload_n 0, 1) := by decide +kernel
theorem dX11_requireGround_1 : decode cX11_requireGround 1 = .ok (.ifCond .eq 21, 3) := by decide +kernel
theorem dX11_requireGround_22 : decode cX11_requireGround 22 = .ok (.return_, 1) := by decide +kernel
theorem dX11_requireGround_4 : decode cX11_requireGround 4 = .ok (.iload_n 0, 1) := by decide +kernel
theorem dX11_requireGround_5 : decode cX11_requireGround 5 = .ok (.invokestatic 445, 3) := by decide +kernel
theorem w4_148 : (Jvm.Cond.methodLink "Polyforge" (445 : Nat) ({ cls := "Polyforge", name := "isPrime", desc := "(I)Z" } : Jvm.MethodName)) ∈ lw_tbl := pv_t4 (pv_mg 148 rfl)
theorem w4_150 : (Jvm.Cond.code ({ cls := "Polyforge", name := "isPrime", desc := "(I)Z" } : Jvm.MethodName) prog_1_method_57_code (1 : Nat) (Option.some Jvm.ClassFile.FieldType.boolean)) ∈ lw_tbl := pv_t4 (pv_mg 150 rfl)
theorem w4_149 : (Jvm.Cond.static ({ cls := "Polyforge", name := "isPrime", desc := "(I)Z" } : Jvm.MethodName)) ∈ lw_tbl := pv_t4 (pv_mg 149 rfl)
theorem dX11_requireGround_8 : decode cX11_requireGround 8 = .ok (.ifCond .ne 14, 3) := by decide +kernel
theorem dX11_requireGround_11 : decode cX11_requireGround 11 = .ok (.new 129, 3) := by decide +kernel
theorem dX11_requireGround_14 : decode cX11_requireGround 14 = .ok (.dup, 1) := by decide +kernel
theorem dX11_requireGround_15 : decode cX11_requireGround 15 = .ok (.ldc_w 448, 3) := by decide +kernel
theorem dX11_requireGround_18 : decode cX11_requireGround 18 = .ok (.invokespecial 133, 3) := by decide +kernel
theorem dX11_requireGround_21 : decode cX11_requireGround 21 = .ok (.athrow, 1) := by decide +kernel
theorem vx_at_133_g : ∀ w ∈ (vx_atS RX11 133 "java/lang/IllegalArgumentException" ["java/lang/RuntimeException", "java/lang/Exception"]).filter goodWord, w ∈ lw_tbl := by decide +kernel
theorem vx_at_133_b : ∀ w ∈ (vx_atS RX11 133 "java/lang/IllegalArgumentException" ["java/lang/RuntimeException", "java/lang/Exception"]).filter (fun w => !goodWord w), w ∈ pv_bw := by decide +kernel
theorem vx_at_133_t : ∀ w ∈ Cond.classLink RX11 129 "java/lang/IllegalArgumentException" :: Cond.initialized "java/lang/IllegalArgumentException" :: vx_atS RX11 133 "java/lang/IllegalArgumentException" ["java/lang/RuntimeException", "java/lang/Exception"], vx_ot w = true := by decide +kernel
theorem w4_151 : (Jvm.Cond.classLink "Polyforge" (129 : Nat) "java/lang/IllegalArgumentException") ∈ lw_tbl := pv_t4 (pv_mg 151 rfl)
theorem w1_14 : (Jvm.Cond.initialized "java/lang/IllegalArgumentException") ∈ lw_tbl := pv_t1 (pv_mg 14 rfl)
set_option maxHeartbeats 4000000 in
set_option maxRecDepth 100000 in
/-- X11_requireGround -/
theorem c_X11_requireGround (l : Launch) (hfl : l.stackTraces = false) (D : va_G) (sz : Nat) (p0 : Int32) : vx_Met l yX11_requireGround (Cond.code yX11_requireGround cX11_requireGround 1 none :: pv_W) ({ frames := 7, cells := 1, slots := 6, locals := 100 } : Room) (va_Pc [.int p0] (pv_P D [] [] (va_A [] sz) sz)) (va_Qv (fun (_ : Unit) => (p0 = 0 ∨ pv_pr p0)) (fun _ _ => True) (va_A [] sz)) (vx_X (fun _ : Unit => True) (fun E _ _ => E = "java/lang/IllegalArgumentException" ∧ ¬ (p0 = 0 ∨ pv_pr p0)) (va_A [] sz)) 1 6 (va_A [] sz) := by
  refine vx_ofW (cc := cX11_requireGround) (maxL := 1) (ret := none) (by decide) rfl ?_
  intro p e s m args below meth c s₁ B hml hnt hv
  obtain ⟨rfl, hsz, hE, hP, hK, hD0⟩ := hv
  have hx := B.exec
  have hb := B.bytes
  have hr := B.returns
  have hts := fun (w : Cond) (h : w ∈ pv_W) => atoms_spec (ws := Cond.code yX11_requireGround cX11_requireGround 1 none :: pv_W) B.pre w (List.mem_cons_of_mem _ h)
  have hg := fun {w : Cond} (h : w ∈ lw_tbl) (g : goodWord w = true) => hts w (pv_in h g)
  have hown : s.vm.findClass RX11 = some m.cls := findClass_of_methodNamed B.named
  have hlocks := B.notSynchronized
  subst hsz
  have hD := hD0.self (sz := s.heap.size)
  generalize hAe : va_A [] s.heap.size = A at hD hE ⊢
  have hA : ∀ q : Nat, s.heap.size ≤ q → A q := fun q h => by rw [← hAe]; exact Or.inr h
  have hS : va_S A s.heap s.heap [] := va_S.rf
  have hP : va_P D pv_cl [] s.heap := hP
  have hl := lv_entry ([.int p0]) (n := 1) (Nat.le_of_ble_eq_true rfl)
  rw [lg_entry_eq]
  generalize (lg_sl ([.int p0]) ++ List.replicate (1 - (lg_sl ([.int p0])).length) Slot.unset).toArray = ls at hl ⊢
  have hl : lv_has ls 1 [(0, .int p0)] := hl
  refine lv_iload_n hx hb dX11_requireGround_0 rfl (lv_at hl 0 rfl) ?_
  refine lv_if_eq (tgt := 22) hx hb dX11_requireGround_1 (by decide) (fun c_1 => ?_) (fun c_1 => ?_)
  · refine vx_ret ?_
    refine W.widen (k := 1) (n := 6) (Nat.le_of_ble_eq_true rfl) (Nat.le_of_ble_eq_true rfl) ?_
    exact W.vret hx hb hr (fun t ht hW => ⟨⟨(), rfl, Or.inl c_1, trivial⟩, hS.F ht⟩) hS.2.2 dX11_requireGround_22
  · refine lv_iload_n hx hb dX11_requireGround_4 rfl (lv_at hl 0 rfl) ?_
    have hF := pv_new hA hS.1
    refine va_calli (va_runS (As := [.int p0]) (rest := []) ⟨hx, hb, hml, hown, hts⟩ (c_X11_isPrime l hfl D _ p0) (va_cwS 1 hts (pv_gS w4_148 w4_149 w1_1 w4_150) rfl rfl rfl (by decide +kernel) ⟨Nat.le_of_ble_eq_true rfl, Nat.le_of_ble_eq_true rfl⟩) (pv_ps hE hS hF (hP.sub [] rfl) (hK.sub [] rfl) (hD.sub [] (by decide) rfl)) rfl rfl hl.1 rfl (lv_room (Nat.le_of_ble_eq_true rfl)) dX11_requireGround_5 ⟨Nat.le_of_ble_eq_true rfl, Nat.le_of_ble_eq_true rfl⟩) hS (fun q _ h => hF q h) hF (fun r_1 u t H1 locs1 ht hvm hw hB hz1 hk1 hS => ?_)
    refine W.widen (k := 0) (n := 0) (Nat.le_of_ble_eq_true rfl) (Nat.le_of_ble_eq_true rfl) ?_
    have hP := pv_keep hP rfl hk1
    rcases hw with ⟨rfl, a_3⟩ | ⟨rfl, a_3⟩
    · refine lv_if_ne (tgt := 22) hx hb dX11_requireGround_8 (by decide) (fun _ => ?_) (fun c_4 => absurd c_4 (by decide))
      refine vx_ret ?_
      refine W.widen (k := 1) (n := 6) (Nat.le_of_ble_eq_true rfl) (Nat.le_of_ble_eq_true rfl) ?_
      exact W.vret hx hb hr (fun t ht hW => ⟨⟨(), rfl, Or.inr a_3, trivial⟩, hS.F ht⟩) hS.2.2 dX11_requireGround_22
    · refine lv_if_ne (tgt := 22) hx hb dX11_requireGround_8 (by decide) (fun c_5 => absurd (by decide) c_5) (fun _ => ?_)
      obtain ⟨sa, hsa⟩ := hE.2.2.2.1 (448, "no such ground") (by decide)
      exact vx_throwSW (own := RX11) (cls := "java/lang/IllegalArgumentException") (names := ["java/lang/RuntimeException", "java/lang/Exception"]) hx hb hfl hown rfl (by decide) (hg w4_151 rfl) (hg w1_14 rfl) hsa (vx_hat (fun w h => hts w (pv_in (vx_at_133_g w h) (List.mem_filter.mp h).2)) vx_at_133_b (fun w h => va_Nw.use (pv_kind_on (List.mem_filter.mp h).2) (hE.2.2.1 w h))) vx_at_133_t hE.1 hE.2.1 hS (hl.1.trans hml.symm) dX11_requireGround_11 dX11_requireGround_14 dX11_requireGround_15 dX11_requireGround_18 dX11_requireGround_21 (fun x h9 => absurd (hnt x h9) id) (Nat.le_of_ble_eq_true rfl) (Nat.le_of_ble_eq_true rfl) (Nat.le_of_ble_eq_true rfl) (Nat.le_of_ble_eq_true rfl) hlocks (fun t h1 h2 h3 => ⟨(), trivial, ⟨rfl, pv_no2 c_1 a_3⟩, Nat.le_trans hS.1 h2, fun q h4 h5 => (h3 q (Nat.lt_of_lt_of_le h4 hS.1)).trans (hS.2.1 q h4 h5)⟩) hS.2.2 (Nat.le_of_ble_eq_true rfl) (Nat.le_of_ble_eq_true rfl)

theorem dX11_requirePrime_0 : decode cX11_requirePrime 0 = .ok (.iload_n 0, 1) := by decide +kernel
theorem dX11_requirePrime_1 : decode cX11_requirePrime 1 = .ok (.invokestatic 445, 3) := by decide +kernel
theorem dX11_requirePrime_4 : decode cX11_requirePrime 4 = .ok (.ifCond .ne 14, 3) := by decide +kernel
theorem dX11_requirePrime_18 : decode cX11_requirePrime 18 = .ok (.return_, 1) := by decide +kernel
theorem dX11_requirePrime_7 : decode cX11_requirePrime 7 = .ok (.new 129, 3) := by decide +kernel
theorem dX11_requirePrime_10 : decode cX11_requirePrime 10 = .ok (.dup, 1) := by decide +kernel
theorem dX11_requirePrime_11 : decode cX11_requirePrime 11 = .ok (.ldc_w 450, 3) := by decide +kernel
theorem dX11_requirePrime_14 : decode cX11_requirePrime 14 = .ok (.invokespecial 133, 3) := by decide +kernel
theorem dX11_requirePrime_17 : decode cX11_requirePrime 17 = .ok (.athrow, 1) := by decide +kernel
set_option maxHeartbeats 4000000 in
set_option maxRecDepth 100000 in
/-- X11_requirePrime -/
theorem c_X11_requirePrime (l : Launch) (hfl : l.stackTraces = false) (D : va_G) (sz : Nat) (p0 : Int32) : vx_Met l yX11_requirePrime (Cond.code yX11_requirePrime cX11_requirePrime 1 none :: pv_W) ({ frames := 7, cells := 1, slots := 6, locals := 100 } : Room) (va_Pc [.int p0] (pv_P D [] [] (va_A [] sz) sz)) (va_Qv (fun (_ : Unit) => (pv_pr p0)) (fun _ _ => True) (va_A [] sz)) (vx_X (fun _ : Unit => True) (fun E _ _ => E = "java/lang/IllegalArgumentException" ∧ ¬ (pv_pr p0)) (va_A [] sz)) 1 6 (va_A [] sz) := by
  refine vx_ofW (cc := cX11_requirePrime) (maxL := 1) (ret := none) (by decide) rfl ?_
  intro p e s m args below meth c s₁ B hml hnt hv
  obtain ⟨rfl, hsz, hE, hP, hK, hD0⟩ := hv
  have hx := B.exec
  have hb := B.bytes
  have hr := B.returns
  have hts := fun (w : Cond) (h : w ∈ pv_W) => atoms_spec (ws := Cond.code yX11_requirePrime cX11_requirePrime 1 none :: pv_W) B.pre w (List.mem_cons_of_mem _ h)
  have hg := fun {w : Cond} (h : w ∈ lw_tbl) (g : goodWord w = true) => hts w (pv_in h g)
  have hown : s.vm.findClass RX11 = some m.cls := findClass_of_methodNamed B.named
  have hlocks := B.notSynchronized
  subst hsz
  have hD := hD0.self (sz := s.heap.size)
  generalize hAe : va_A [] s.heap.size = A at hD hE ⊢
  have hA : ∀ q : Nat, s.heap.size ≤ q → A q := fun q h => by rw [← hAe]; exact Or.inr h
  have hS : va_S A s.heap s.heap [] := va_S.rf
  have hP : va_P D pv_cl [] s.heap := hP
  have hl := lv_entry ([.int p0]) (n := 1) (Nat.le_of_ble_eq_true rfl)
  rw [lg_entry_eq]
  generalize (lg_sl ([.int p0]) ++ List.replicate (1 - (lg_sl ([.int p0])).length) Slot.unset).toArray = ls at hl ⊢
  have hl : lv_has ls 1 [(0, .int p0)] := hl
  refine lv_iload_n hx hb dX11_requirePrime_0 rfl (lv_at hl 0 rfl) ?_
  have hF := pv_new hA hS.1
  refine va_calli (va_runS (As := [.int p0]) (rest := []) ⟨hx, hb, hml, hown, hts⟩ (c_X11_isPrime l hfl D _ p0) (va_cwS 1 hts (pv_gS w4_148 w4_149 w1_1 w4_150) rfl rfl rfl (by decide +kernel) ⟨Nat.le_of_ble_eq_true rfl, Nat.le_of_ble_eq_true rfl⟩) (pv_ps hE hS hF (hP.sub [] rfl) (hK.sub [] rfl) (hD.sub [] (by decide) rfl)) rfl rfl hl.1 rfl (lv_room (Nat.le_of_ble_eq_true rfl)) dX11_requirePrime_1 ⟨Nat.le_of_ble_eq_true rfl, Nat.le_of_ble_eq_true rfl⟩) hS (fun q _ h => hF q h) hF (fun r_0 u t H1 locs1 ht hvm hw hB hz1 hk1 hS => ?_)
  refine W.widen (k := 0) (n := 0) (Nat.le_of_ble_eq_true rfl) (Nat.le_of_ble_eq_true rfl) ?_
  have hP := pv_keep hP rfl hk1
  rcases hw with ⟨rfl, a_2⟩ | ⟨rfl, a_2⟩
  · refine lv_if_ne (tgt := 18) hx hb dX11_requirePrime_4 (by decide) (fun _ => ?_) (fun c_3 => absurd c_3 (by decide))
    refine vx_ret ?_
    refine W.widen (k := 1) (n := 6) (Nat.le_of_ble_eq_true rfl) (Nat.le_of_ble_eq_true rfl) ?_
    exact W.vret hx hb hr (fun t ht hW => ⟨⟨(), rfl, a_2, trivial⟩, hS.F ht⟩) hS.2.2 dX11_requirePrime_18
  · refine lv_if_ne (tgt := 18) hx hb dX11_requirePrime_4 (by decide) (fun c_4 => absurd (by decide) c_4) (fun _ => ?_)
    obtain ⟨sa, hsa⟩ := hE.2.2.2.1 (450, "no such prime") (by decide)
    exact vx_throwSW (own := RX11) (cls := "java/lang/IllegalArgumentException") (names := ["java/lang/RuntimeException", "java/lang/Exception"]) hx hb hfl hown rfl (by decide) (hg w4_151 rfl) (hg w1_14 rfl) hsa (vx_hat (fun w h => hts w (pv_in (vx_at_133_g w h) (List.mem_filter.mp h).2)) vx_at_133_b (fun w h => va_Nw.use (pv_kind_on (List.mem_filter.mp h).2) (hE.2.2.1 w h))) vx_at_133_t hE.1 hE.2.1 hS (hl.1.trans hml.symm) dX11_requirePrime_7 dX11_requirePrime_10 dX11_requirePrime_11 dX11_requirePrime_14 dX11_requirePrime_17 (fun x h9 => absurd (hnt x h9) id) (Nat.le_of_ble_eq_true rfl) (Nat.le_of_ble_eq_true rfl) (Nat.le_of_ble_eq_true rfl) (Nat.le_of_ble_eq_true rfl) hlocks (fun t h1 h2 h3 => ⟨(), trivial, ⟨rfl, a_2⟩, Nat.le_trans hS.1 h2, fun q h4 h5 => (h3 q (Nat.lt_of_lt_of_le h4 hS.1)).trans (hS.2.1 q h4 h5)⟩) hS.2.2 (Nat.le_of_ble_eq_true rfl) (Nat.le_of_ble_eq_true rfl)

theorem dX11_requireVariable_0 : decode cX11_requireVariable 0 = .ok (.iload_n 0, 1) := by decide +kernel
theorem dX11_requireVariable_1 : decode cX11_requireVariable 1 = .ok (.invokestatic 452, 3) := by decide +kernel
theorem w5_59 : (Jvm.Cond.methodLink "Polyforge" (452 : Nat) ({ cls := "Polyforge", name := "isVariable", desc := "(I)Z" } : Jvm.MethodName)) ∈ lw_tbl := pv_t5 (pv_mg 59 rfl)
theorem w5_61 : (Jvm.Cond.code ({ cls := "Polyforge", name := "isVariable", desc := "(I)Z" } : Jvm.MethodName) prog_1_method_58_code (1 : Nat) (Option.some Jvm.ClassFile.FieldType.boolean)) ∈ lw_tbl := pv_t5 (pv_mg 61 rfl)
theorem w5_60 : (Jvm.Cond.static ({ cls := "Polyforge", name := "isVariable", desc := "(I)Z" } : Jvm.MethodName)) ∈ lw_tbl := pv_t5 (pv_mg 60 rfl)
theorem dX11_requireVariable_4 : decode cX11_requireVariable 4 = .ok (.ifCond .ne 14, 3) := by decide +kernel
theorem dX11_requireVariable_18 : decode cX11_requireVariable 18 = .ok (.return_, 1) := by decide +kernel
theorem dX11_requireVariable_7 : decode cX11_requireVariable 7 = .ok (.new 129, 3) := by decide +kernel
theorem dX11_requireVariable_10 : decode cX11_requireVariable 10 = .ok (.dup, 1) := by decide +kernel
theorem dX11_requireVariable_11 : decode cX11_requireVariable 11 = .ok (.ldc_w 455, 3) := by decide +kernel
theorem dX11_requireVariable_14 : decode cX11_requireVariable 14 = .ok (.invokespecial 133, 3) := by decide +kernel
theorem dX11_requireVariable_17 : decode cX11_requireVariable 17 = .ok (.athrow, 1) := by decide +kernel
set_option maxHeartbeats 4000000 in
set_option maxRecDepth 100000 in
/-- X11_requireVariable -/
theorem c_X11_requireVariable (l : Launch) (hfl : l.stackTraces = false) (D : va_G) (sz : Nat) (p0 : Int32) : vx_Met l yX11_requireVariable (Cond.code yX11_requireVariable cX11_requireVariable 1 none :: pv_W) ({ frames := 7, cells := 1, slots := 6, locals := 100 } : Room) (va_Pc [.int p0] (pv_P D [] [] (va_A [] sz) sz)) (va_Qv (fun (_ : Unit) => (pv_vr p0)) (fun _ _ => True) (va_A [] sz)) (vx_X (fun _ : Unit => True) (fun E _ _ => E = "java/lang/IllegalArgumentException" ∧ ¬ (pv_vr p0)) (va_A [] sz)) 1 6 (va_A [] sz) := by
  refine vx_ofW (cc := cX11_requireVariable) (maxL := 1) (ret := none) (by decide) rfl ?_
  intro p e s m args below meth c s₁ B hml hnt hv
  obtain ⟨rfl, hsz, hE, hP, hK, hD0⟩ := hv
  have hx := B.exec
  have hb := B.bytes
  have hr := B.returns
  have hts := fun (w : Cond) (h : w ∈ pv_W) => atoms_spec (ws := Cond.code yX11_requireVariable cX11_requireVariable 1 none :: pv_W) B.pre w (List.mem_cons_of_mem _ h)
  have hg := fun {w : Cond} (h : w ∈ lw_tbl) (g : goodWord w = true) => hts w (pv_in h g)
  have hown : s.vm.findClass RX11 = some m.cls := findClass_of_methodNamed B.named
  have hlocks := B.notSynchronized
  subst hsz
  have hD := hD0.self (sz := s.heap.size)
  generalize hAe : va_A [] s.heap.size = A at hD hE ⊢
  have hA : ∀ q : Nat, s.heap.size ≤ q → A q := fun q h => by rw [← hAe]; exact Or.inr h
  have hS : va_S A s.heap s.heap [] := va_S.rf
  have hP : va_P D pv_cl [] s.heap := hP
  have hl := lv_entry ([.int p0]) (n := 1) (Nat.le_of_ble_eq_true rfl)
  rw [lg_entry_eq]
  generalize (lg_sl ([.int p0]) ++ List.replicate (1 - (lg_sl ([.int p0])).length) Slot.unset).toArray = ls at hl ⊢
  have hl : lv_has ls 1 [(0, .int p0)] := hl
  refine lv_iload_n hx hb dX11_requireVariable_0 rfl (lv_at hl 0 rfl) ?_
  have hF := pv_new hA hS.1
  refine va_calli (va_runS (As := [.int p0]) (rest := []) ⟨hx, hb, hml, hown, hts⟩ (c_X11_isVariable l hfl D _ p0) (va_cwS 1 hts (pv_gS w5_59 w5_60 w1_1 w5_61) rfl rfl rfl (by decide +kernel) ⟨Nat.le_of_ble_eq_true rfl, Nat.le_of_ble_eq_true rfl⟩) (pv_ps hE hS hF (hP.sub [] rfl) (hK.sub [] rfl) (hD.sub [] (by decide) rfl)) rfl rfl hl.1 rfl (lv_room (Nat.le_of_ble_eq_true rfl)) dX11_requireVariable_1 ⟨Nat.le_of_ble_eq_true rfl, Nat.le_of_ble_eq_true rfl⟩) hS (fun q _ h => hF q h) hF (fun r_0 u t H1 locs1 ht hvm hw hB hz1 hk1 hS => ?_)
  refine W.widen (k := 0) (n := 0) (Nat.le_of_ble_eq_true rfl) (Nat.le_of_ble_eq_true rfl) ?_
  have hP := pv_keep hP rfl hk1
  rcases hw with ⟨rfl, a_2⟩ | ⟨rfl, a_2⟩
  · refine lv_if_ne (tgt := 18) hx hb dX11_requireVariable_4 (by decide) (fun _ => ?_) (fun c_3 => absurd c_3 (by decide))
    refine vx_ret ?_
    refine W.widen (k := 1) (n := 6) (Nat.le_of_ble_eq_true rfl) (Nat.le_of_ble_eq_true rfl) ?_
    exact W.vret hx hb hr (fun t ht hW => ⟨⟨(), rfl, a_2, trivial⟩, hS.F ht⟩) hS.2.2 dX11_requireVariable_18
  · refine lv_if_ne (tgt := 18) hx hb dX11_requireVariable_4 (by decide) (fun c_4 => absurd (by decide) c_4) (fun _ => ?_)
    obtain ⟨sa, hsa⟩ := hE.2.2.2.1 (455, "no such variable") (by decide)
    exact vx_throwSW (own := RX11) (cls := "java/lang/IllegalArgumentException") (names := ["java/lang/RuntimeException", "java/lang/Exception"]) hx hb hfl hown rfl (by decide) (hg w4_151 rfl) (hg w1_14 rfl) hsa (vx_hat (fun w h => hts w (pv_in (vx_at_133_g w h) (List.mem_filter.mp h).2)) vx_at_133_b (fun w h => va_Nw.use (pv_kind_on (List.mem_filter.mp h).2) (hE.2.2.1 w h))) vx_at_133_t hE.1 hE.2.1 hS (hl.1.trans hml.symm) dX11_requireVariable_7 dX11_requireVariable_10 dX11_requireVariable_11 dX11_requireVariable_14 dX11_requireVariable_17 (fun x h9 => absurd (hnt x h9) id) (Nat.le_of_ble_eq_true rfl) (Nat.le_of_ble_eq_true rfl) (Nat.le_of_ble_eq_true rfl) (Nat.le_of_ble_eq_true rfl) hlocks (fun t h1 h2 h3 => ⟨(), trivial, ⟨rfl, a_2⟩, Nat.le_trans hS.1 h2, fun q h4 h5 => (h3 q (Nat.lt_of_lt_of_le h4 hS.1)).trans (hS.2.1 q h4 h5)⟩) hS.2.2 (Nat.le_of_ble_eq_true rfl) (Nat.le_of_ble_eq_true rfl)

theorem dX11_requireSign_0 : decode cX11_requireSign 0 = .ok (.iload_n 0, 1) := by decide +kernel
theorem dX11_requireSign_1 : decode cX11_requireSign 1 = .ok (.bipush 43, 2) := by decide +kernel
theorem dX11_requireSign_3 : decode cX11_requireSign 3 = .ok (.if_icmp .eq 26, 3) := by decide +kernel
theorem dX11_requireSign_29 : decode cX11_requireSign 29 = .ok (.return_, 1) := by decide +kernel
theorem dX11_requireSign_6 : decode cX11_requireSign 6 = .ok (.iload_n 0, 1) := by decide +kernel
theorem dX11_requireSign_7 : decode cX11_requireSign 7 = .ok (.bipush 45, 2) := by decide +kernel
theorem dX11_requireSign_9 : decode cX11_requireSign 9 = .ok (.if_icmp .eq 20, 3) := by decide +kernel
theorem dX11_requireSign_12 : decode cX11_requireSign 12 = .ok (.iload_n 0, 1) := by decide +kernel
theorem dX11_requireSign_13 : decode cX11_requireSign 13 = .ok (.bipush 48, 2) := by decide +kernel
theorem dX11_requireSign_15 : decode cX11_requireSign 15 = .ok (.if_icmp .eq 14, 3) := by decide +kernel
theorem dX11_requireSign_18 : decode cX11_requireSign 18 = .ok (.new 129, 3) := by decide +kernel
theorem dX11_requireSign_21 : decode cX11_requireSign 21 = .ok (.dup, 1) := by decide +kernel
theorem dX11_requireSign_22 : decode cX11_requireSign 22 = .ok (.ldc_w 457, 3) := by decide +kernel
theorem dX11_requireSign_25 : decode cX11_requireSign 25 = .ok (.invokespecial 133, 3) := by decide +kernel
theorem dX11_requireSign_28 : decode cX11_requireSign 28 = .ok (.athrow, 1) := by decide +kernel
set_option maxHeartbeats 4000000 in
set_option maxRecDepth 100000 in
/-- X11_requireSign -/
theorem c_X11_requireSign (l : Launch) (hfl : l.stackTraces = false) (D : va_G) (sz : Nat) (p0 : Int32) : vx_Met l yX11_requireSign (Cond.code yX11_requireSign cX11_requireSign 1 none :: pv_W) ({ frames := 7, cells := 1, slots := 6, locals := 100 } : Room) (va_Pc [.int p0] (pv_P D [] [] (va_A [] sz) sz)) (va_Qv (fun (_ : Unit) => (pv_sn p0)) (fun _ _ => True) (va_A [] sz)) (vx_X (fun _ : Unit => True) (fun E _ _ => E = "java/lang/IllegalArgumentException" ∧ ¬ (pv_sn p0)) (va_A [] sz)) 1 6 (va_A [] sz) := by
  refine vx_ofW (cc := cX11_requireSign) (maxL := 1) (ret := none) (by decide) rfl ?_
  intro p e s m args below meth c s₁ B hml hnt hv
  obtain ⟨rfl, hsz, hE, hP, hK, hD0⟩ := hv
  have hx := B.exec
  have hb := B.bytes
  have hr := B.returns
  have hts := fun (w : Cond) (h : w ∈ pv_W) => atoms_spec (ws := Cond.code yX11_requireSign cX11_requireSign 1 none :: pv_W) B.pre w (List.mem_cons_of_mem _ h)
  have hg := fun {w : Cond} (h : w ∈ lw_tbl) (g : goodWord w = true) => hts w (pv_in h g)
  have hown : s.vm.findClass RX11 = some m.cls := findClass_of_methodNamed B.named
  have hlocks := B.notSynchronized
  subst hsz
  have hD := hD0.self (sz := s.heap.size)
  generalize hAe : va_A [] s.heap.size = A at hD hE ⊢
  have hA : ∀ q : Nat, s.heap.size ≤ q → A q := fun q h => by rw [← hAe]; exact Or.inr h
  have hS : va_S A s.heap s.heap [] := va_S.rf
  have hP : va_P D pv_cl [] s.heap := hP
  have hl := lv_entry ([.int p0]) (n := 1) (Nat.le_of_ble_eq_true rfl)
  rw [lg_entry_eq]
  generalize (lg_sl ([.int p0]) ++ List.replicate (1 - (lg_sl ([.int p0])).length) Slot.unset).toArray = ls at hl ⊢
  have hl : lv_has ls 1 [(0, .int p0)] := hl
  refine lv_iload_n hx hb dX11_requireSign_0 rfl (lv_at hl 0 rfl) ?_
  refine lv_bipush (v := 43) hx hb dX11_requireSign_1 (by decide) ?_
  refine lv_icmp_eq (tgt := 29) hx hb dX11_requireSign_3 (by decide) (fun c_1 => ?_) (fun c_1 => ?_)
  · refine vx_ret ?_
    refine W.widen (k := 1) (n := 6) (Nat.le_of_ble_eq_true rfl) (Nat.le_of_ble_eq_true rfl) ?_
    exact W.vret hx hb hr (fun t ht hW => ⟨⟨(), rfl, Or.inl c_1, trivial⟩, hS.F ht⟩) hS.2.2 dX11_requireSign_29
  · refine lv_iload_n hx hb dX11_requireSign_6 rfl (lv_at hl 0 rfl) ?_
    refine lv_bipush (v := 45) hx hb dX11_requireSign_7 (by decide) ?_
    refine lv_icmp_eq (tgt := 29) hx hb dX11_requireSign_9 (by decide) (fun c_2 => ?_) (fun c_2 => ?_)
    · refine vx_ret ?_
      refine W.widen (k := 1) (n := 6) (Nat.le_of_ble_eq_true rfl) (Nat.le_of_ble_eq_true rfl) ?_
      exact W.vret hx hb hr (fun t ht hW => ⟨⟨(), rfl, Or.inr (Or.inl c_2), trivial⟩, hS.F ht⟩) hS.2.2 dX11_requireSign_29
    · refine lv_iload_n hx hb dX11_requireSign_12 rfl (lv_at hl 0 rfl) ?_
      refine lv_bipush (v := 48) hx hb dX11_requireSign_13 (by decide) ?_
      refine lv_icmp_eq (tgt := 29) hx hb dX11_requireSign_15 (by decide) (fun c_3 => ?_) (fun c_3 => ?_)
      · refine vx_ret ?_
        refine W.widen (k := 1) (n := 6) (Nat.le_of_ble_eq_true rfl) (Nat.le_of_ble_eq_true rfl) ?_
        exact W.vret hx hb hr (fun t ht hW => ⟨⟨(), rfl, Or.inr (Or.inr (c_3)), trivial⟩, hS.F ht⟩) hS.2.2 dX11_requireSign_29
      · obtain ⟨sa, hsa⟩ := hE.2.2.2.1 (457, "no such sign") (by decide)
        exact vx_throwSW (own := RX11) (cls := "java/lang/IllegalArgumentException") (names := ["java/lang/RuntimeException", "java/lang/Exception"]) hx hb hfl hown rfl (by decide) (hg w4_151 rfl) (hg w1_14 rfl) hsa (vx_hat (fun w h => hts w (pv_in (vx_at_133_g w h) (List.mem_filter.mp h).2)) vx_at_133_b (fun w h => va_Nw.use (pv_kind_on (List.mem_filter.mp h).2) (hE.2.2.1 w h))) vx_at_133_t hE.1 hE.2.1 hS (hl.1.trans hml.symm) dX11_requireSign_18 dX11_requireSign_21 dX11_requireSign_22 dX11_requireSign_25 dX11_requireSign_28 (fun x h9 => absurd (hnt x h9) id) (Nat.le_of_ble_eq_true rfl) (Nat.le_of_ble_eq_true rfl) (Nat.le_of_ble_eq_true rfl) (Nat.le_of_ble_eq_true rfl) hlocks (fun t h1 h2 h3 => ⟨(), trivial, ⟨rfl, pv_no3 c_1 c_2 c_3⟩, Nat.le_trans hS.1 h2, fun q h4 h5 => (h3 q (Nat.lt_of_lt_of_le h4 hS.1)).trans (hS.2.1 q h4 h5)⟩) hS.2.2 (Nat.le_of_ble_eq_true rfl) (Nat.le_of_ble_eq_true rfl)

theorem dX11_requireAny_0 : decode cX11_requireAny 0 = .ok (.aload_n 0, 1) := by decide +kernel
theorem dX11_requireAny_1 : decode cX11_requireAny 1 = .ok (.getfield 15, 3) := by decide +kernel
theorem dX11_requireAny_4 : decode cX11_requireAny 4 = .ok (.ifCond .ne 14, 3) := by decide +kernel
theorem dX11_requireAny_7 : decode cX11_requireAny 7 = .ok (.new 174, 3) := by decide +kernel
theorem dX11_requireAny_10 : decode cX11_requireAny 10 = .ok (.dup, 1) := by decide +kernel
theorem dX11_requireAny_11 : decode cX11_requireAny 11 = .ok (.ldc_w 488, 3) := by decide +kernel
theorem dX11_requireAny_14 : decode cX11_requireAny 14 = .ok (.invokespecial 178, 3) := by decide +kernel
theorem dX11_requireAny_17 : decode cX11_requireAny 17 = .ok (.athrow, 1) := by decide +kernel
theorem vx_at_178_g : ∀ w ∈ (vx_atS RX11 178 "java/lang/ArithmeticException" ["java/lang/RuntimeException", "java/lang/Exception"]).filter goodWord, w ∈ lw_tbl := by decide +kernel
theorem vx_at_178_b : ∀ w ∈ (vx_atS RX11 178 "java/lang/ArithmeticException" ["java/lang/RuntimeException", "java/lang/Exception"]).filter (fun w => !goodWord w), w ∈ pv_bw := by decide +kernel
theorem vx_at_178_t : ∀ w ∈ Cond.classLink RX11 174 "java/lang/ArithmeticException" :: Cond.initialized "java/lang/ArithmeticException" :: vx_atS RX11 178 "java/lang/ArithmeticException" ["java/lang/RuntimeException", "java/lang/Exception"], vx_ot w = true := by decide +kernel
theorem w5_179 : (Jvm.Cond.classLink "Polyforge" (174 : Nat) "java/lang/ArithmeticException") ∈ lw_tbl := pv_t5 (pv_mg 179 rfl)
theorem w1_23 : (Jvm.Cond.initialized "java/lang/ArithmeticException") ∈ lw_tbl := pv_t1 (pv_mg 23 rfl)
set_option maxHeartbeats 4000000 in
set_option maxRecDepth 100000 in
/-- requireAny on a fresh object: throws -/
theorem c_X11_requireAny (l : Launch) (hfl : l.stackTraces = false) (D : va_G) (sz : Nat) (h0 : Nat) (q : Nat → Nat) : vx_Met l yX11_requireAny (Cond.code yX11_requireAny cX11_requireAny 1 none :: pv_W) ({ frames := 7, cells := 1, slots := 6, locals := 100 } : Room) (va_Pc [.ref h0] (pv_P D [] [(h0, .inr (0, [.ref (q 0), .int 0, .int 108, .ref (q 1), .int 0, .ref (q 2), .int 0, .ref (q 3), .ref (q 4), .int 1, .ref (q 5), .ref (q 6), .ref (q 7), .ref (q 8), .ref (q 9)]))] (va_A [] sz) sz)) (fun _ _ _ _ => False) (vx_X (fun _ : Unit => True) (fun E _ _ => E = "java/lang/ArithmeticException") (va_A [] sz)) 1 6 (va_A [] sz) := by
  refine vx_ofW (cc := cX11_requireAny) (maxL := 1) (ret := none) (by decide) rfl ?_
  intro p e s m args below meth c s₁ B hml hnt hv
  obtain ⟨rfl, hsz, hE, hP, hK, hD0⟩ := hv
  have hx := B.exec
  have hb := B.bytes
  have hr := B.returns
  have hts := fun (w : Cond) (h : w ∈ pv_W) => atoms_spec (ws := Cond.code yX11_requireAny cX11_requireAny 1 none :: pv_W) B.pre w (List.mem_cons_of_mem _ h)
  have hg := fun {w : Cond} (h : w ∈ lw_tbl) (g : goodWord w = true) => hts w (pv_in h g)
  have hown : s.vm.findClass RX11 = some m.cls := findClass_of_methodNamed B.named
  have hlocks := B.notSynchronized
  subst hsz
  have hD := hD0
  generalize hAe : va_A [] s.heap.size = A at hE ⊢
  have hA : ∀ q : Nat, s.heap.size ≤ q → A q := fun q h => by rw [← hAe]; exact Or.inr h
  have hS : va_S A s.heap s.heap [] := va_S.rf
  have hP : va_P D pv_cl [(h0, .inr (0, [.ref (q 0), .int 0, .int 108, .ref (q 1), .int 0, .ref (q 2), .int 0, .ref (q 3), .ref (q 4), .int 1, .ref (q 5), .ref (q 6), .ref (q 7), .ref (q 8), .ref (q 9)]))] s.heap := hP
  have hl := lv_entry ([.ref h0]) (n := 1) (Nat.le_of_ble_eq_true rfl)
  rw [lg_entry_eq]
  generalize (lg_sl ([.ref h0]) ++ List.replicate (1 - (lg_sl ([.ref h0])).length) Slot.unset).toArray = ls at hl ⊢
  have hl : lv_has ls 1 [(0, .ref h0)] := hl
  refine lv_aload_n hx hb dX11_requireAny_0 rfl (lv_at hl 0 rfl) ?_
  refine va_get (own := RX11) (D := D) (ci := 0) (v := .int 0) (C := RX11) (T := TX11) (N := 15) hx hb hts inF11 hown hK hP 0 rfl rfl 1 (by decide) (hg w2_38 rfl) (fun _ h9 => h9) rfl dX11_requireAny_1 ?_
  refine lv_if_ne (tgt := 18) hx hb dX11_requireAny_4 (by decide) (fun c_1 => absurd (by decide) c_1) (fun _ => ?_)
  obtain ⟨sa, hsa⟩ := hE.2.2.2.1 (488, "no polynomial is kept") (by decide)
  exact vx_throwSW (own := RX11) (cls := "java/lang/ArithmeticException") (names := ["java/lang/RuntimeException", "java/lang/Exception"]) hx hb hfl hown rfl (by decide) (hg w5_179 rfl) (hg w1_23 rfl) hsa (vx_hat (fun w h => hts w (pv_in (vx_at_178_g w h) (List.mem_filter.mp h).2)) vx_at_178_b (fun w h => va_Nw.use (pv_kind_on (List.mem_filter.mp h).2) (hE.2.2.1 w h))) vx_at_178_t hE.1 hE.2.1 hS (hl.1.trans hml.symm) dX11_requireAny_7 dX11_requireAny_10 dX11_requireAny_11 dX11_requireAny_14 dX11_requireAny_17 (fun x h9 => absurd (hnt x h9) id) (Nat.le_of_ble_eq_true rfl) (Nat.le_of_ble_eq_true rfl) (Nat.le_of_ble_eq_true rfl) (Nat.le_of_ble_eq_true rfl) hlocks (fun t h1 h2 h3 => ⟨(), trivial, rfl, Nat.le_trans hS.1 h2, fun q h4 h5 => (h3 q (Nat.lt_of_lt_of_le h4 hS.1)).trans (hS.2.1 q h4 h5)⟩) hS.2.2 (Nat.le_of_ble_eq_true rfl) (Nat.le_of_ble_eq_true rfl)

theorem dX11_lineShare_0 : decode cX11_lineShare 0 = .ok (.aload_n 0, 1) := by decide +kernel
theorem dX11_lineShare_1 : decode cX11_lineShare 1 = .ok (.invokevirtual 419, 3) := by decide +kernel
theorem w8_176 : (Jvm.Cond.methodLink "Polyforge" (419 : Nat) ({ cls := "Polyforge", name := "requireAny", desc := "()V" } : Jvm.MethodName)) ∈ lw_tbl := pv_t8 (pv_mg 176 rfl)
theorem w8_179 : (Jvm.Cond.code ({ cls := "Polyforge", name := "requireAny", desc := "()V" } : Jvm.MethodName) prog_1_method_73_code (1 : Nat) (Option.none : Option Jvm.ClassFile.FieldType)) ∈ lw_tbl := pv_t8 (pv_mg 179 rfl)
theorem wp5_7 : Cond.selects "Polyforge" ⟨"Polyforge", "requireAny", "()V"⟩ ⟨"Polyforge", "requireAny", "()V"⟩ ∈ lw_tbl := pv_mg 71 rfl
theorem w8_178 : (Jvm.Cond.instanceMethod ({ cls := "Polyforge", name := "requireAny", desc := "()V" } : Jvm.MethodName)) ∈ lw_tbl := pv_t8 (pv_mg 178 rfl)
set_option maxHeartbeats 4000000 in
set_option maxRecDepth 100000 in
/-- lineShare on a fresh object: throws -/
theorem c_X11_lineShare (l : Launch) (hfl : l.stackTraces = false) (D : va_G) (sz : Nat) (h0 : Nat) (q : Nat → Nat) : vx_Met l yX11_lineShare (Cond.code yX11_lineShare cX11_lineShare 3 (some .float) :: pv_W) ({ frames := 8, cells := 1, slots := 6, locals := 120 } : Room) (va_Pc [.ref h0] (pv_P D [] [(h0, .inr (0, [.ref (q 0), .int 0, .int 108, .ref (q 1), .int 0, .ref (q 2), .int 0, .ref (q 3), .ref (q 4), .int 1, .ref (q 5), .ref (q 6), .ref (q 7), .ref (q 8), .ref (q 9)]))] (va_A [] sz) sz)) (fun _ _ _ _ => False) (vx_X (fun _ : Unit => True) (fun E _ _ => E = "java/lang/ArithmeticException") (va_A [] sz)) 1 6 (va_A [] sz) := by
  refine vx_ofW (cc := cX11_lineShare) (maxL := 3) (ret := (some .float)) (by decide) rfl ?_
  intro p e s m args below meth c s₁ B hml hnt hv
  obtain ⟨rfl, hsz, hE, hP, hK, hD0⟩ := hv
  have hx := B.exec
  have hb := B.bytes
  have hr := B.returns
  have hts := fun (w : Cond) (h : w ∈ pv_W) => atoms_spec (ws := Cond.code yX11_lineShare cX11_lineShare 3 (some .float) :: pv_W) B.pre w (List.mem_cons_of_mem _ h)
  have hg := fun {w : Cond} (h : w ∈ lw_tbl) (g : goodWord w = true) => hts w (pv_in h g)
  have hown : s.vm.findClass RX11 = some m.cls := findClass_of_methodNamed B.named
  have hlocks := B.notSynchronized
  subst hsz
  have hD := hD0
  generalize hAe : va_A [] s.heap.size = A at hE ⊢
  have hA : ∀ q : Nat, s.heap.size ≤ q → A q := fun q h => by rw [← hAe]; exact Or.inr h
  have hS : va_S A s.heap s.heap [] := va_S.rf
  have hP : va_P D pv_cl [(h0, .inr (0, [.ref (q 0), .int 0, .int 108, .ref (q 1), .int 0, .ref (q 2), .int 0, .ref (q 3), .ref (q 4), .int 1, .ref (q 5), .ref (q 6), .ref (q 7), .ref (q 8), .ref (q 9)]))] s.heap := hP
  have hl := lv_entry ([.ref h0]) (n := 3) (Nat.le_of_ble_eq_true rfl)
  rw [lg_entry_eq]
  generalize (lg_sl ([.ref h0]) ++ List.replicate (3 - (lg_sl ([.ref h0])).length) Slot.unset).toArray = ls at hl ⊢
  have hl : lv_has ls 3 [(0, .ref h0)] := hl
  refine lv_aload_n hx hb dX11_lineShare_0 rfl (lv_at hl 0 rfl) ?_
  have hF := pv_new hA hS.1
  refine pv_thrown (vx_runV (As := []) (rest := []) ⟨hx, hb, hml, hown, hts⟩ (c_X11_requireAny l hfl D _ h0 q ) (cwV 0 hts (pv_gV w8_176 w8_178 wp5_7 w1_1 w8_179) rfl rfl rfl (by decide +kernel) ⟨Nat.le_of_ble_eq_true rfl, Nat.le_of_ble_eq_true rfl⟩) (pv_pV hE hS hF (hP.sub [0] rfl) (hK.sub [] rfl) (hD.sub [0] (by decide) rfl) (va_recv (ci := 0) (q0 := 0) hK hP rfl rfl)) rfl rfl hl.1 rfl (lv_room (Nat.le_of_ble_eq_true rfl)) dX11_lineShare_1 ⟨Nat.le_of_ble_eq_true rfl, Nat.le_of_ble_eq_true rfl⟩) (fun _ _ _ h => h) hS hF hF (fun E ce q9 u t H1 locs1 ht hvm hpx hbx hz1 hk1 hS hce hcv hcl => ?_)
  exact vx_out (fun x h9 => absurd (hnt x h9) id) hlocks hce hcv hcl (fun t ht hvm => ⟨(), trivial, hbx, hS.F ht⟩) hS.2.2 (Nat.le_of_ble_eq_true rfl) (Nat.le_of_ble_eq_true rfl)

theorem dX11_meanTerms_0 : decode cX11_meanTerms 0 = .ok (.aload_n 0, 1) := by decide +kernel
theorem dX11_meanTerms_1 : decode cX11_meanTerms 1 = .ok (.invokevirtual 419, 3) := by decide +kernel
set_option maxHeartbeats 4000000 in
set_option maxRecDepth 100000 in
/-- meanTerms on a fresh object: throws -/
theorem c_X11_meanTerms (l : Launch) (hfl : l.stackTraces = false) (D : va_G) (sz : Nat) (h0 : Nat) (q : Nat → Nat) : vx_Met l yX11_meanTerms (Cond.code yX11_meanTerms cX11_meanTerms 4 (some .double) :: pv_W) ({ frames := 8, cells := 1, slots := 6, locals := 120 } : Room) (va_Pc [.ref h0] (pv_P D [] [(h0, .inr (0, [.ref (q 0), .int 0, .int 108, .ref (q 1), .int 0, .ref (q 2), .int 0, .ref (q 3), .ref (q 4), .int 1, .ref (q 5), .ref (q 6), .ref (q 7), .ref (q 8), .ref (q 9)]))] (va_A [] sz) sz)) (fun _ _ _ _ => False) (vx_X (fun _ : Unit => True) (fun E _ _ => E = "java/lang/ArithmeticException") (va_A [] sz)) 1 6 (va_A [] sz) := by
  refine vx_ofW (cc := cX11_meanTerms) (maxL := 4) (ret := (some .double)) (by decide) rfl ?_
  intro p e s m args below meth c s₁ B hml hnt hv
  obtain ⟨rfl, hsz, hE, hP, hK, hD0⟩ := hv
  have hx := B.exec
  have hb := B.bytes
  have hr := B.returns
  have hts := fun (w : Cond) (h : w ∈ pv_W) => atoms_spec (ws := Cond.code yX11_meanTerms cX11_meanTerms 4 (some .double) :: pv_W) B.pre w (List.mem_cons_of_mem _ h)
  have hg := fun {w : Cond} (h : w ∈ lw_tbl) (g : goodWord w = true) => hts w (pv_in h g)
  have hown : s.vm.findClass RX11 = some m.cls := findClass_of_methodNamed B.named
  have hlocks := B.notSynchronized
  subst hsz
  have hD := hD0
  generalize hAe : va_A [] s.heap.size = A at hE ⊢
  have hA : ∀ q : Nat, s.heap.size ≤ q → A q := fun q h => by rw [← hAe]; exact Or.inr h
  have hS : va_S A s.heap s.heap [] := va_S.rf
  have hP : va_P D pv_cl [(h0, .inr (0, [.ref (q 0), .int 0, .int 108, .ref (q 1), .int 0, .ref (q 2), .int 0, .ref (q 3), .ref (q 4), .int 1, .ref (q 5), .ref (q 6), .ref (q 7), .ref (q 8), .ref (q 9)]))] s.heap := hP
  have hl := lv_entry ([.ref h0]) (n := 4) (Nat.le_of_ble_eq_true rfl)
  rw [lg_entry_eq]
  generalize (lg_sl ([.ref h0]) ++ List.replicate (4 - (lg_sl ([.ref h0])).length) Slot.unset).toArray = ls at hl ⊢
  have hl : lv_has ls 4 [(0, .ref h0)] := hl
  refine lv_aload_n hx hb dX11_meanTerms_0 rfl (lv_at hl 0 rfl) ?_
  have hF := pv_new hA hS.1
  refine pv_thrown (vx_runV (As := []) (rest := []) ⟨hx, hb, hml, hown, hts⟩ (c_X11_requireAny l hfl D _ h0 q ) (cwV 0 hts (pv_gV w8_176 w8_178 wp5_7 w1_1 w8_179) rfl rfl rfl (by decide +kernel) ⟨Nat.le_of_ble_eq_true rfl, Nat.le_of_ble_eq_true rfl⟩) (pv_pV hE hS hF (hP.sub [0] rfl) (hK.sub [] rfl) (hD.sub [0] (by decide) rfl) (va_recv (ci := 0) (q0 := 0) hK hP rfl rfl)) rfl rfl hl.1 rfl (lv_room (Nat.le_of_ble_eq_true rfl)) dX11_meanTerms_1 ⟨Nat.le_of_ble_eq_true rfl, Nat.le_of_ble_eq_true rfl⟩) (fun _ _ _ h => h) hS hF hF (fun E ce q9 u t H1 locs1 ht hvm hpx hbx hz1 hk1 hS hce hcv hcl => ?_)
  exact vx_out (fun x h9 => absurd (hnt x h9) id) hlocks hce hcv hcl (fun t ht hvm => ⟨(), trivial, hbx, hS.F ht⟩) hS.2.2 (Nat.le_of_ble_eq_true rfl) (Nat.le_of_ble_eq_true rfl)

theorem dX11_closeFrame_0 : decode cX11_closeFrame 0 = .ok (.aload_n 0, 1) := by decide +kernel
theorem dX11_closeFrame_1 : decode cX11_closeFrame 1 = .ok (.getfield 49, 3) := by decide +kernel
theorem w2_46 : (Jvm.Cond.fieldLink "Polyforge" (49 : Nat) "Polyforge" "openFrames" "I") ∈ lw_tbl := pv_t2 (pv_mg 46 rfl)
theorem dX11_closeFrame_4 : decode cX11_closeFrame 4 = .ok (.iconst 1, 1) := by decide +kernel
theorem dX11_closeFrame_5 : decode cX11_closeFrame 5 = .ok (.if_icmp .gt 14, 3) := by decide +kernel
theorem dX11_closeFrame_8 : decode cX11_closeFrame 8 = .ok (.new 306, 3) := by decide +kernel
theorem dX11_closeFrame_11 : decode cX11_closeFrame 11 = .ok (.dup, 1) := by decide +kernel
theorem dX11_closeFrame_12 : decode cX11_closeFrame 12 = .ok (.ldc_w 411, 3) := by decide +kernel
theorem dX11_closeFrame_15 : decode cX11_closeFrame 15 = .ok (.invokespecial 310, 3) := by decide +kernel
theorem dX11_closeFrame_18 : decode cX11_closeFrame 18 = .ok (.athrow, 1) := by decide +kernel
theorem vx_at_310_g : ∀ w ∈ (vx_atS RX11 310 "java/lang/IllegalStateException" ["java/lang/RuntimeException", "java/lang/Exception"]).filter goodWord, w ∈ lw_tbl := by decide +kernel
theorem vx_at_310_b : ∀ w ∈ (vx_atS RX11 310 "java/lang/IllegalStateException" ["java/lang/RuntimeException", "java/lang/Exception"]).filter (fun w => !goodWord w), w ∈ pv_bw := by decide +kernel
theorem vx_at_310_t : ∀ w ∈ Cond.classLink RX11 306 "java/lang/IllegalStateException" :: Cond.initialized "java/lang/IllegalStateException" :: vx_atS RX11 310 "java/lang/IllegalStateException" ["java/lang/RuntimeException", "java/lang/Exception"], vx_ot w = true := by decide +kernel
theorem w5_9 : (Jvm.Cond.classLink "Polyforge" (306 : Nat) "java/lang/IllegalStateException") ∈ lw_tbl := pv_t5 (pv_mg 9 rfl)
theorem w1_18 : (Jvm.Cond.initialized "java/lang/IllegalStateException") ∈ lw_tbl := pv_t1 (pv_mg 18 rfl)
set_option maxHeartbeats 4000000 in
set_option maxRecDepth 100000 in
/-- closeFrame on a fresh object: throws -/
theorem c_X11_closeFrame (l : Launch) (hfl : l.stackTraces = false) (D : va_G) (sz : Nat) (h0 : Nat) (q : Nat → Nat) : vx_Met l yX11_closeFrame (Cond.code yX11_closeFrame cX11_closeFrame 3 (some .int) :: pv_W) ({ frames := 7, cells := 1, slots := 6, locals := 100 } : Room) (va_Pc [.ref h0] (pv_P D [] [(h0, .inr (0, [.ref (q 0), .int 0, .int 108, .ref (q 1), .int 0, .ref (q 2), .int 0, .ref (q 3), .ref (q 4), .int 1, .ref (q 5), .ref (q 6), .ref (q 7), .ref (q 8), .ref (q 9)]))] (va_A [] sz) sz)) (fun _ _ _ _ => False) (vx_X (fun _ : Unit => True) (fun E _ _ => E = "java/lang/IllegalStateException") (va_A [] sz)) 1 6 (va_A [] sz) := by
  refine vx_ofW (cc := cX11_closeFrame) (maxL := 3) (ret := (some .int)) (by decide) rfl ?_
  intro p e s m args below meth c s₁ B hml hnt hv
  obtain ⟨rfl, hsz, hE, hP, hK, hD0⟩ := hv
  have hx := B.exec
  have hb := B.bytes
  have hr := B.returns
  have hts := fun (w : Cond) (h : w ∈ pv_W) => atoms_spec (ws := Cond.code yX11_closeFrame cX11_closeFrame 3 (some .int) :: pv_W) B.pre w (List.mem_cons_of_mem _ h)
  have hg := fun {w : Cond} (h : w ∈ lw_tbl) (g : goodWord w = true) => hts w (pv_in h g)
  have hown : s.vm.findClass RX11 = some m.cls := findClass_of_methodNamed B.named
  have hlocks := B.notSynchronized
  subst hsz
  have hD := hD0
  generalize hAe : va_A [] s.heap.size = A at hE ⊢
  have hA : ∀ q : Nat, s.heap.size ≤ q → A q := fun q h => by rw [← hAe]; exact Or.inr h
  have hS : va_S A s.heap s.heap [] := va_S.rf
  have hP : va_P D pv_cl [(h0, .inr (0, [.ref (q 0), .int 0, .int 108, .ref (q 1), .int 0, .ref (q 2), .int 0, .ref (q 3), .ref (q 4), .int 1, .ref (q 5), .ref (q 6), .ref (q 7), .ref (q 8), .ref (q 9)]))] s.heap := hP
  have hl := lv_entry ([.ref h0]) (n := 3) (Nat.le_of_ble_eq_true rfl)
  rw [lg_entry_eq]
  generalize (lg_sl ([.ref h0]) ++ List.replicate (3 - (lg_sl ([.ref h0])).length) Slot.unset).toArray = ls at hl ⊢
  have hl : lv_has ls 3 [(0, .ref h0)] := hl
  refine lv_aload_n hx hb dX11_closeFrame_0 rfl (lv_at hl 0 rfl) ?_
  refine va_get (own := RX11) (D := D) (ci := 0) (v := .int 1) (C := RX11) (T := TX11) (N := 15) hx hb hts inF11 hown hK hP 0 rfl rfl 9 (by decide) (hg w2_46 rfl) (fun _ h9 => h9) rfl dX11_closeFrame_1 ?_
  refine lv_iconst (v := 1) hx hb dX11_closeFrame_4 (by decide) ?_
  refine lv_icmp_gt (tgt := 19) hx hb dX11_closeFrame_5 (by decide) (fun c_1 => absurd c_1 (by decide)) (fun _ => ?_)
  obtain ⟨sa, hsa⟩ := hE.2.2.2.1 (411, "one frame alone is open") (by decide)
  exact vx_throwSW (own := RX11) (cls := "java/lang/IllegalStateException") (names := ["java/lang/RuntimeException", "java/lang/Exception"]) hx hb hfl hown rfl (by decide) (hg w5_9 rfl) (hg w1_18 rfl) hsa (vx_hat (fun w h => hts w (pv_in (vx_at_310_g w h) (List.mem_filter.mp h).2)) vx_at_310_b (fun w h => va_Nw.use (pv_kind_on (List.mem_filter.mp h).2) (hE.2.2.1 w h))) vx_at_310_t hE.1 hE.2.1 hS (hl.1.trans hml.symm) dX11_closeFrame_8 dX11_closeFrame_11 dX11_closeFrame_12 dX11_closeFrame_15 dX11_closeFrame_18 (fun x h9 => absurd (hnt x h9) id) (Nat.le_of_ble_eq_true rfl) (Nat.le_of_ble_eq_true rfl) (Nat.le_of_ble_eq_true rfl) (Nat.le_of_ble_eq_true rfl) hlocks (fun t h1 h2 h3 => ⟨(), trivial, rfl, Nat.le_trans hS.1 h2, fun q h4 h5 => (h3 q (Nat.lt_of_lt_of_le h4 hS.1)).trans (hS.2.1 q h4 h5)⟩) hS.2.2 (Nat.le_of_ble_eq_true rfl) (Nat.le_of_ble_eq_true rfl)

theorem dX11_polynomials_0 : decode cX11_polynomials 0 = .ok (.aload_n 0, 1) := by decide +kernel
theorem dX11_polynomials_1 : decode cX11_polynomials 1 = .ok (.getfield 15, 3) := by decide +kernel
theorem dX11_polynomials_4 : decode cX11_polynomials 4 = .ok (.ireturn, 1) := by decide +kernel
set_option maxHeartbeats 4000000 in
set_option maxRecDepth 100000 in
/-- polynomials on a fresh object -/
theorem c_X11_polynomials (l : Launch) (hfl : l.stackTraces = false) (D : va_G) (sz : Nat) (h0 : Nat) (q : Nat → Nat) : Met l yX11_polynomials (Cond.code yX11_polynomials cX11_polynomials 1 (some .int) :: pv_W) ({ frames := 0, cells := 0, slots := 0, locals := 0 } : Room) (va_Pc [.ref h0] (pv_P D [] [(h0, .inr (0, [.ref (q 0), .int 0, .int 108, .ref (q 1), .int 0, .ref (q 2), .int 0, .ref (q 3), .ref (q 4), .int 1, .ref (q 5), .ref (q 6), .ref (q 7), .ref (q 8), .ref (q 9)]))] (va_A [] sz) sz)) (va_Qi (fun r (_ : Unit) => r = 0) (fun _ _ => True) (va_A [] sz)) 0 0 (va_A [] sz) := by
  refine Met.ofW (cc := cX11_polynomials) (maxL := 1) (ret := (some .int)) (by decide) rfl ?_
  intro p e s m args below meth c s₁ B hml hv
  obtain ⟨rfl, hsz, hE, hP, hK, hD0⟩ := hv
  have hx := B.exec
  have hb := B.bytes
  have hr := B.returns
  have hts := fun (w : Cond) (h : w ∈ pv_W) => atoms_spec (ws := Cond.code yX11_polynomials cX11_polynomials 1 (some .int) :: pv_W) B.pre w (List.mem_cons_of_mem _ h)
  have hg := fun {w : Cond} (h : w ∈ lw_tbl) (g : goodWord w = true) => hts w (pv_in h g)
  have hown : s.vm.findClass RX11 = some m.cls := findClass_of_methodNamed B.named
  have hlocks := B.notSynchronized
  subst hsz
  have hD := hD0
  generalize hAe : va_A [] s.heap.size = A at hE ⊢
  have hA : ∀ q : Nat, s.heap.size ≤ q → A q := fun q h => by rw [← hAe]; exact Or.inr h
  have hS : va_S A s.heap s.heap [] := va_S.rf
  have hP : va_P D pv_cl [(h0, .inr (0, [.ref (q 0), .int 0, .int 108, .ref (q 1), .int 0, .ref (q 2), .int 0, .ref (q 3), .ref (q 4), .int 1, .ref (q 5), .ref (q 6), .ref (q 7), .ref (q 8), .ref (q 9)]))] s.heap := hP
  have hl := lv_entry ([.ref h0]) (n := 1) (Nat.le_of_ble_eq_true rfl)
  rw [lg_entry_eq]
  generalize (lg_sl ([.ref h0]) ++ List.replicate (1 - (lg_sl ([.ref h0])).length) Slot.unset).toArray = ls at hl ⊢
  have hl : lv_has ls 1 [(0, .ref h0)] := hl
  refine lv_aload_n hx hb dX11_polynomials_0 rfl (lv_at hl 0 rfl) ?_
  refine va_get (own := RX11) (D := D) (ci := 0) (v := .int 0) (C := RX11) (T := TX11) (N := 15) hx hb hts inF11 hown hK hP 0 rfl rfl 1 (by decide) (hg w2_38 rfl) (fun _ h9 => h9) rfl dX11_polynomials_1 ?_
  refine W.widen (k := 0) (n := 0) (Nat.le_of_ble_eq_true rfl) (Nat.le_of_ble_eq_true rfl) ?_
  exact W.iret (v := 0) hx hb hr (fun t ht hW => ⟨⟨0, (), rfl, rfl, trivial⟩, hS.F ht⟩) hS.2.2 dX11_polynomials_4

theorem dX11_isSound_0 : decode cX11_isSound 0 = .ok (.iconst 0, 1) := by decide +kernel
theorem dX11_isSound_1 : decode cX11_isSound 1 = .ok (.istore_n 1, 1) := by decide +kernel
theorem dX11_isSound_2 : decode cX11_isSound 2 = .ok (.iload_n 1, 1) := by decide +kernel
theorem dX11_isSound_3 : decode cX11_isSound 3 = .ok (.aload_n 0, 1) := by decide +kernel
theorem dX11_isSound_4 : decode cX11_isSound 4 = .ok (.getfield 15, 3) := by decide +kernel
theorem dX11_isSound_7 : decode cX11_isSound 7 = .ok (.if_icmp .ge 58, 3) := by decide +kernel
theorem dX11_isSound_65 : decode cX11_isSound 65 = .ok (.iconst 0, 1) := by decide +kernel
theorem dX11_isSound_66 : decode cX11_isSound 66 = .ok (.istore_n 1, 1) := by decide +kernel
theorem dX11_isSound_67 : decode cX11_isSound 67 = .ok (.iload_n 1, 1) := by decide +kernel
theorem dX11_isSound_68 : decode cX11_isSound 68 = .ok (.aload_n 0, 1) := by decide +kernel
theorem dX11_isSound_69 : decode cX11_isSound 69 = .ok (.getfield 29, 3) := by decide +kernel
theorem dX11_isSound_72 : decode cX11_isSound 72 = .ok (.if_icmp .ge 34, 3) := by decide +kernel
theorem dX11_isSound_106 : decode cX11_isSound 106 = .ok (.iconst 1, 1) := by decide +kernel
theorem dX11_isSound_107 : decode cX11_isSound 107 = .ok (.ireturn, 1) := by decide +kernel
set_option maxHeartbeats 4000000 in
set_option maxRecDepth 100000 in
/-- isSound on a fresh object -/
theorem c_X11_isSound (l : Launch) (hfl : l.stackTraces = false) (D : va_G) (sz : Nat) (h0 : Nat) (q : Nat → Nat) : Met l yX11_isSound (Cond.code yX11_isSound cX11_isSound 3 (some .boolean) :: pv_W) ({ frames := 0, cells := 0, slots := 0, locals := 0 } : Room) (va_Pc [.ref h0] (pv_P D [] [(h0, .inr (0, [.ref (q 0), .int 0, .int 108, .ref (q 1), .int 0, .ref (q 2), .int 0, .ref (q 3), .ref (q 4), .int 1, .ref (q 5), .ref (q 6), .ref (q 7), .ref (q 8), .ref (q 9)]))] (va_A [] sz) sz)) (va_Qi (fun r (_ : Unit) => r = 1) (fun _ _ => True) (va_A [] sz)) 0 0 (va_A [] sz) := by
  refine Met.ofW (cc := cX11_isSound) (maxL := 3) (ret := (some .boolean)) (by decide) rfl ?_
  intro p e s m args below meth c s₁ B hml hv
  obtain ⟨rfl, hsz, hE, hP, hK, hD0⟩ := hv
  have hx := B.exec
  have hb := B.bytes
  have hr := B.returns
  have hts := fun (w : Cond) (h : w ∈ pv_W) => atoms_spec (ws := Cond.code yX11_isSound cX11_isSound 3 (some .boolean) :: pv_W) B.pre w (List.mem_cons_of_mem _ h)
  have hg := fun {w : Cond} (h : w ∈ lw_tbl) (g : goodWord w = true) => hts w (pv_in h g)
  have hown : s.vm.findClass RX11 = some m.cls := findClass_of_methodNamed B.named
  have hlocks := B.notSynchronized
  subst hsz
  have hD := hD0
  generalize hAe : va_A [] s.heap.size = A at hE ⊢
  have hA : ∀ q : Nat, s.heap.size ≤ q → A q := fun q h => by rw [← hAe]; exact Or.inr h
  have hS : va_S A s.heap s.heap [] := va_S.rf
  have hP : va_P D pv_cl [(h0, .inr (0, [.ref (q 0), .int 0, .int 108, .ref (q 1), .int 0, .ref (q 2), .int 0, .ref (q 3), .ref (q 4), .int 1, .ref (q 5), .ref (q 6), .ref (q 7), .ref (q 8), .ref (q 9)]))] s.heap := hP
  have hl := lv_entry ([.ref h0]) (n := 3) (Nat.le_of_ble_eq_true rfl)
  rw [lg_entry_eq]
  generalize (lg_sl ([.ref h0]) ++ List.replicate (3 - (lg_sl ([.ref h0])).length) Slot.unset).toArray = ls at hl ⊢
  have hl : lv_has ls 3 [(0, .ref h0)] := hl
  refine lv_iconst (v := 0) hx hb dX11_isSound_0 (by decide) ?_
  refine lv_istore_n (lv' := [(1, .int 0), (0, .ref h0)]) hx hb dX11_isSound_1 rfl hl (by decide) rfl (fun ls hl => ?_)
  refine lv_iload_n hx hb dX11_isSound_2 rfl (lv_at hl 0 rfl) ?_
  refine lv_aload_n hx hb dX11_isSound_3 rfl (lv_at hl 1 rfl) ?_
  refine va_get (own := RX11) (D := D) (ci := 0) (v := .int 0) (C := RX11) (T := TX11) (N := 15) hx hb hts inF11 hown hK hP 0 rfl rfl 1 (by decide) (hg w2_38 rfl) (fun _ h9 => h9) rfl dX11_isSound_4 ?_
  refine lv_icmp_ge (tgt := 65) hx hb dX11_isSound_7 (by decide) (fun _ => ?_) (fun c_1 => absurd (by decide) c_1)
  refine lv_iconst (v := 0) hx hb dX11_isSound_65 (by decide) ?_
  refine lv_istore_n (lv' := [(1, .int 0), (0, .ref h0)]) hx hb dX11_isSound_66 rfl hl (by decide) rfl (fun ls hl => ?_)
  refine lv_iload_n hx hb dX11_isSound_67 rfl (lv_at hl 0 rfl) ?_
  refine lv_aload_n hx hb dX11_isSound_68 rfl (lv_at hl 1 rfl) ?_
  refine va_get (own := RX11) (D := D) (ci := 0) (v := .int 0) (C := RX11) (T := TX11) (N := 15) hx hb hts inF11 hown hK hP 0 rfl rfl 4 (by decide) (hg w2_41 rfl) (fun _ h9 => h9) rfl dX11_isSound_69 ?_
  refine lv_icmp_ge (tgt := 106) hx hb dX11_isSound_72 (by decide) (fun _ => ?_) (fun c_2 => absurd (by decide) c_2)
  refine lv_iconst (v := 1) hx hb dX11_isSound_106 (by decide) ?_
  refine W.widen (k := 0) (n := 0) (Nat.le_of_ble_eq_true rfl) (Nat.le_of_ble_eq_true rfl) ?_
  exact W.zret (v := 1) (ty := .boolean) hx hb hr rfl (fun t ht hW => ⟨⟨1, (), rfl, rfl, trivial⟩, hS.F ht⟩) hS.2.2 dX11_isSound_107

theorem dX11_openFrame_0 : decode cX11_openFrame 0 = .ok (.aload_n 0, 1) := by decide +kernel
theorem dX11_openFrame_1 : decode cX11_openFrame 1 = .ok (.getfield 49, 3) := by decide +kernel
theorem dX11_openFrame_4 : decode cX11_openFrame 4 = .ok (.bipush 6, 2) := by decide +kernel
theorem dX11_openFrame_6 : decode cX11_openFrame 6 = .ok (.if_icmp .lt 14, 3) := by decide +kernel
theorem dX11_openFrame_20 : decode cX11_openFrame 20 = .ok (.aload_n 0, 1) := by decide +kernel
theorem dX11_openFrame_21 : decode cX11_openFrame 21 = .ok (.dup, 1) := by decide +kernel
theorem dX11_openFrame_22 : decode cX11_openFrame 22 = .ok (.getfield 49, 3) := by decide +kernel
theorem dX11_openFrame_25 : decode cX11_openFrame 25 = .ok (.iconst 1, 1) := by decide +kernel
theorem dX11_openFrame_26 : decode cX11_openFrame 26 = .ok (.iadd, 1) := by decide +kernel
theorem dX11_openFrame_27 : decode cX11_openFrame 27 = .ok (.putfield 49, 3) := by decide +kernel
theorem dX11_openFrame_30 : decode cX11_openFrame 30 = .ok (.aload_n 0, 1) := by decide +kernel
theorem dX11_openFrame_31 : decode cX11_openFrame 31 = .ok (.getfield 49, 3) := by decide +kernel
theorem dX11_openFrame_34 : decode cX11_openFrame 34 = .ok (.ireturn, 1) := by decide +kernel
set_option maxHeartbeats 4000000 in
set_option maxRecDepth 100000 in
/-- openFrame on a fresh object: 2 -/
theorem c_X11_openFrame (l : Launch) (hfl : l.stackTraces = false) (D : va_G) (sz : Nat) (h0 : Nat) (q : Nat → Nat) : vx_Met l yX11_openFrame (Cond.code yX11_openFrame cX11_openFrame 1 (some .int) :: pv_W) ({ frames := 0, cells := 0, slots := 0, locals := 0 } : Room) (va_Pc [.ref h0] (pv_P D [] [(h0, .inr (0, [.ref (q 0), .int 0, .int 108, .ref (q 1), .int 0, .ref (q 2), .int 0, .ref (q 3), .ref (q 4), .int 1, .ref (q 5), .ref (q 6), .ref (q 7), .ref (q 8), .ref (q 9)]))] (va_A [(h0, .inr (0, [.ref (q 0), .int 0, .int 108, .ref (q 1), .int 0, .ref (q 2), .int 0, .ref (q 3), .ref (q 4), .int 1, .ref (q 5), .ref (q 6), .ref (q 7), .ref (q 8), .ref (q 9)]))] sz) sz)) (va_Qi (fun r (_ : Unit) => r = 2) (fun _ _ => True) (va_A [(h0, .inr (0, [.ref (q 0), .int 0, .int 108, .ref (q 1), .int 0, .ref (q 2), .int 0, .ref (q 3), .ref (q 4), .int 1, .ref (q 5), .ref (q 6), .ref (q 7), .ref (q 8), .ref (q 9)]))] sz)) (vx_X (fun _ : Unit => True) (fun E _ _ => False) (va_A [(h0, .inr (0, [.ref (q 0), .int 0, .int 108, .ref (q 1), .int 0, .ref (q 2), .int 0, .ref (q 3), .ref (q 4), .int 1, .ref (q 5), .ref (q 6), .ref (q 7), .ref (q 8), .ref (q 9)]))] sz)) 0 0 (va_A [(h0, .inr (0, [.ref (q 0), .int 0, .int 108, .ref (q 1), .int 0, .ref (q 2), .int 0, .ref (q 3), .ref (q 4), .int 1, .ref (q 5), .ref (q 6), .ref (q 7), .ref (q 8), .ref (q 9)]))] sz) := by
  refine vx_ofW (cc := cX11_openFrame) (maxL := 1) (ret := (some .int)) (by decide) rfl ?_
  intro p e s m args below meth c s₁ B hml hnt hv
  obtain ⟨rfl, hsz, hE, hP, hK, hD0⟩ := hv
  have hx := B.exec
  have hb := B.bytes
  have hr := B.returns
  have hts := fun (w : Cond) (h : w ∈ pv_W) => atoms_spec (ws := Cond.code yX11_openFrame cX11_openFrame 1 (some .int) :: pv_W) B.pre w (List.mem_cons_of_mem _ h)
  have hg := fun {w : Cond} (h : w ∈ lw_tbl) (g : goodWord w = true) => hts w (pv_in h g)
  have hown : s.vm.findClass RX11 = some m.cls := findClass_of_methodNamed B.named
  have hlocks := B.notSynchronized
  subst hsz
  have hD := hD0.self (sz := s.heap.size)
  generalize hAe : va_A [(h0, .inr (0, [.ref (q 0), .int 0, .int 108, .ref (q 1), .int 0, .ref (q 2), .int 0, .ref (q 3), .ref (q 4), .int 1, .ref (q 5), .ref (q 6), .ref (q 7), .ref (q 8), .ref (q 9)]))] s.heap.size = A at hD hE ⊢
  have hA : ∀ q : Nat, s.heap.size ≤ q → A q := fun q h => by rw [← hAe]; exact Or.inr h
  have hS : va_S A s.heap s.heap [] := va_S.rf
  have hP : va_P D pv_cl [(h0, .inr (0, [.ref (q 0), .int 0, .int 108, .ref (q 1), .int 0, .ref (q 2), .int 0, .ref (q 3), .ref (q 4), .int 1, .ref (q 5), .ref (q 6), .ref (q 7), .ref (q 8), .ref (q 9)]))] s.heap := hP
  have hl := lv_entry ([.ref h0]) (n := 1) (Nat.le_of_ble_eq_true rfl)
  rw [lg_entry_eq]
  generalize (lg_sl ([.ref h0]) ++ List.replicate (1 - (lg_sl ([.ref h0])).length) Slot.unset).toArray = ls at hl ⊢
  have hl : lv_has ls 1 [(0, .ref h0)] := hl
  refine lv_aload_n hx hb dX11_openFrame_0 rfl (lv_at hl 0 rfl) ?_
  refine va_get (own := RX11) (D := D) (ci := 0) (v := .int 1) (C := RX11) (T := TX11) (N := 15) hx hb hts inF11 hown hK hP 0 rfl rfl 9 (by decide) (hg w2_46 rfl) (fun _ h9 => h9) rfl dX11_openFrame_1 ?_
  refine lv_bipush (v := 6) hx hb dX11_openFrame_4 (by decide) ?_
  refine lv_icmp_lt (tgt := 20) hx hb dX11_openFrame_6 (by decide) (fun _ => ?_) (fun c_1 => absurd (by decide) c_1)
  refine lv_aload_n hx hb dX11_openFrame_20 rfl (lv_at hl 0 rfl) ?_
  refine lv_dup hx hb dX11_openFrame_21 rfl ?_
  refine va_get (own := RX11) (D := D) (ci := 0) (v := .int 1) (C := RX11) (T := TX11) (N := 15) hx hb hts inF11 hown hK hP 0 rfl rfl 9 (by decide) (hg w2_46 rfl) (fun _ h9 => h9) rfl dX11_openFrame_22 ?_
  refine lv_iconst (v := 1) hx hb dX11_openFrame_25 (by decide) ?_
  refine lv_iadd hx hb dX11_openFrame_26 ?_
  refine pv_setI 2 (by decide) ?_
  refine va_put (own := RX11) (D := D) (ci := 0) (v := .int 2) (ty := .int) (C := RX11) (T := TX11) (N := 15) hx hb hts inF11 tyX11 tyX11_ok nmX11 hown hK hP hD hS 0 rfl rfl 9 (by decide) (hg w2_46 rfl) (fun _ h9 => h9) rfl (by decide +kernel) rfl rfl (Nat.le_of_ble_eq_true rfl) dX11_openFrame_27 (fun H locs hP hD hS => ?_)
  have hP : va_P D pv_cl [(h0, .inr (0, [.ref (q 0), .int 0, .int 108, .ref (q 1), .int 0, .ref (q 2), .int 0, .ref (q 3), .ref (q 4), .int 2, .ref (q 5), .ref (q 6), .ref (q 7), .ref (q 8), .ref (q 9)]))] _ := hP
  have hD : va_D A [(h0, .inr (0, [.ref (q 0), .int 0, .int 108, .ref (q 1), .int 0, .ref (q 2), .int 0, .ref (q 3), .ref (q 4), .int 2, .ref (q 5), .ref (q 6), .ref (q 7), .ref (q 8), .ref (q 9)]))] := hD
  refine lv_aload_n hx hb dX11_openFrame_30 rfl (lv_at hl 0 rfl) ?_
  refine va_get (own := RX11) (D := D) (ci := 0) (v := .int 2) (C := RX11) (T := TX11) (N := 15) hx hb hts inF11 hown hK hP 0 rfl rfl 9 (by decide) (hg w2_46 rfl) (fun _ h9 => h9) rfl dX11_openFrame_31 ?_
  refine vx_ret ?_
  refine W.widen (k := 0) (n := 0) (Nat.le_of_ble_eq_true rfl) (Nat.le_of_ble_eq_true rfl) ?_
  exact W.iret (v := 2) hx hb hr (fun t ht hW => ⟨⟨2, (), rfl, rfl, trivial⟩, hS.F ht⟩) hS.2.2 dX11_openFrame_34

theorem dX11_setOrder_0 : decode cX11_setOrder 0 = .ok (.iload_n 1, 1) := by decide +kernel
theorem dX11_setOrder_1 : decode cX11_setOrder 1 = .ok (.bipush 108, 2) := by decide +kernel
theorem dX11_setOrder_3 : decode cX11_setOrder 3 = .ok (.if_icmp .eq 25, 3) := by decide +kernel
theorem dX11_setOrder_28 : decode cX11_setOrder 28 = .ok (.aload_n 0, 1) := by decide +kernel
theorem dX11_setOrder_29 : decode cX11_setOrder 29 = .ok (.getfield 19, 3) := by decide +kernel
theorem w2_39 : (Jvm.Cond.fieldLink "Polyforge" (19 : Nat) "Polyforge" "order" "C") ∈ lw_tbl := pv_t2 (pv_mg 39 rfl)
theorem dX11_setOrder_32 : decode cX11_setOrder 32 = .ok (.istore_n 2, 1) := by decide +kernel
theorem dX11_setOrder_33 : decode cX11_setOrder 33 = .ok (.aload_n 0, 1) := by decide +kernel
theorem dX11_setOrder_34 : decode cX11_setOrder 34 = .ok (.iload_n 1, 1) := by decide +kernel
theorem dX11_setOrder_35 : decode cX11_setOrder 35 = .ok (.putfield 19, 3) := by decide +kernel
theorem dX11_setOrder_38 : decode cX11_setOrder 38 = .ok (.iload_n 2, 1) := by decide +kernel
theorem dX11_setOrder_39 : decode cX11_setOrder 39 = .ok (.ireturn, 1) := by decide +kernel
theorem dX11_setOrder_6 : decode cX11_setOrder 6 = .ok (.iload_n 1, 1) := by decide +kernel
theorem dX11_setOrder_7 : decode cX11_setOrder 7 = .ok (.bipush 100, 2) := by decide +kernel
theorem dX11_setOrder_9 : decode cX11_setOrder 9 = .ok (.if_icmp .eq 19, 3) := by decide +kernel
theorem dX11_setOrder_12 : decode cX11_setOrder 12 = .ok (.iload_n 1, 1) := by decide +kernel
theorem dX11_setOrder_13 : decode cX11_setOrder 13 = .ok (.bipush 114, 2) := by decide +kernel
theorem dX11_setOrder_15 : decode cX11_setOrder 15 = .ok (.if_icmp .eq 13, 3) := by decide +kernel
theorem dX11_setOrder_18 : decode cX11_setOrder 18 = .ok (.new 129, 3) := by decide +kernel
theorem dX11_setOrder_21 : decode cX11_setOrder 21 = .ok (.dup, 1) := by decide +kernel
theorem dX11_setOrder_22 : decode cX11_setOrder 22 = .ok (.ldc 160, 2) := by decide +kernel
theorem dX11_setOrder_24 : decode cX11_setOrder 24 = .ok (.invokespecial 133, 3) := by decide +kernel
theorem dX11_setOrder_27 : decode cX11_setOrder 27 = .ok (.athrow, 1) := by decide +kernel
set_option maxHeartbeats 4000000 in
set_option maxRecDepth 100000 in
/-- setOrder on a fresh object -/
theorem c_X11_setOrder (l : Launch) (hfl : l.stackTraces = false) (D : va_G) (sz : Nat) (h0 : Nat) (q : Nat → Nat) (p0 : Int32) : vx_Met l yX11_setOrder (Cond.code yX11_setOrder cX11_setOrder 3 (some .char) :: pv_W) ({ frames := 7, cells := 1, slots := 6, locals := 100 } : Room) (va_Pc [.ref h0, .int p0] (pv_P D [] [(h0, .inr (0, [.ref (q 0), .int 0, .int 108, .ref (q 1), .int 0, .ref (q 2), .int 0, .ref (q 3), .ref (q 4), .int 1, .ref (q 5), .ref (q 6), .ref (q 7), .ref (q 8), .ref (q 9)]))] (va_A [(h0, .inr (0, [.ref (q 0), .int 0, .int 108, .ref (q 1), .int 0, .ref (q 2), .int 0, .ref (q 3), .ref (q 4), .int 1, .ref (q 5), .ref (q 6), .ref (q 7), .ref (q 8), .ref (q 9)]))] sz) sz)) (va_Qi (fun r (_ : Unit) => r = 108 ∧ pv_od p0) (fun _ _ => True) (va_A [(h0, .inr (0, [.ref (q 0), .int 0, .int 108, .ref (q 1), .int 0, .ref (q 2), .int 0, .ref (q 3), .ref (q 4), .int 1, .ref (q 5), .ref (q 6), .ref (q 7), .ref (q 8), .ref (q 9)]))] sz)) (vx_X (fun _ : Unit => True) (fun E _ _ => E = "java/lang/IllegalArgumentException" ∧ ¬ pv_od p0) (va_A [(h0, .inr (0, [.ref (q 0), .int 0, .int 108, .ref (q 1), .int 0, .ref (q 2), .int 0, .ref (q 3), .ref (q 4), .int 1, .ref (q 5), .ref (q 6), .ref (q 7), .ref (q 8), .ref (q 9)]))] sz)) 1 6 (va_A [(h0, .inr (0, [.ref (q 0), .int 0, .int 108, .ref (q 1), .int 0, .ref (q 2), .int 0, .ref (q 3), .ref (q 4), .int 1, .ref (q 5), .ref (q 6), .ref (q 7), .ref (q 8), .ref (q 9)]))] sz) := by
  refine vx_ofW (cc := cX11_setOrder) (maxL := 3) (ret := (some .char)) (by decide) rfl ?_
  intro p e s m args below meth c s₁ B hml hnt hv
  obtain ⟨rfl, hsz, hE, hP, hK, hD0⟩ := hv
  have hx := B.exec
  have hb := B.bytes
  have hr := B.returns
  have hts := fun (w : Cond) (h : w ∈ pv_W) => atoms_spec (ws := Cond.code yX11_setOrder cX11_setOrder 3 (some .char) :: pv_W) B.pre w (List.mem_cons_of_mem _ h)
  have hg := fun {w : Cond} (h : w ∈ lw_tbl) (g : goodWord w = true) => hts w (pv_in h g)
  have hown : s.vm.findClass RX11 = some m.cls := findClass_of_methodNamed B.named
  have hlocks := B.notSynchronized
  subst hsz
  have hD := hD0.self (sz := s.heap.size)
  generalize hAe : va_A [(h0, .inr (0, [.ref (q 0), .int 0, .int 108, .ref (q 1), .int 0, .ref (q 2), .int 0, .ref (q 3), .ref (q 4), .int 1, .ref (q 5), .ref (q 6), .ref (q 7), .ref (q 8), .ref (q 9)]))] s.heap.size = A at hD hE ⊢
  have hA : ∀ q : Nat, s.heap.size ≤ q → A q := fun q h => by rw [← hAe]; exact Or.inr h
  have hS : va_S A s.heap s.heap [] := va_S.rf
  have hP : va_P D pv_cl [(h0, .inr (0, [.ref (q 0), .int 0, .int 108, .ref (q 1), .int 0, .ref (q 2), .int 0, .ref (q 3), .ref (q 4), .int 1, .ref (q 5), .ref (q 6), .ref (q 7), .ref (q 8), .ref (q 9)]))] s.heap := hP
  have hl := lv_entry ([.ref h0, .int p0]) (n := 3) (Nat.le_of_ble_eq_true rfl)
  rw [lg_entry_eq]
  generalize (lg_sl ([.ref h0, .int p0]) ++ List.replicate (3 - (lg_sl ([.ref h0, .int p0])).length) Slot.unset).toArray = ls at hl ⊢
  have hl : lv_has ls 3 [(0, .ref h0), (1, .int p0)] := hl
  refine lv_iload_n hx hb dX11_setOrder_0 rfl (lv_at hl 1 rfl) ?_
  refine lv_bipush (v := 108) hx hb dX11_setOrder_1 (by decide) ?_
  refine lv_icmp_eq (tgt := 28) hx hb dX11_setOrder_3 (by decide) (fun c_1 => ?_) (fun c_1 => ?_)
  · have hod : pv_od p0 := Or.inl c_1
    refine lv_aload_n hx hb dX11_setOrder_28 rfl (lv_at hl 0 rfl) ?_
    refine va_get (own := RX11) (D := D) (ci := 0) (v := .int 108) (C := RX11) (T := TX11) (N := 15) hx hb hts inF11 hown hK hP 0 rfl rfl 2 (by decide) (hg w2_39 rfl) (fun _ h9 => h9) rfl dX11_setOrder_29 ?_
    refine lv_istore_n (lv' := [(2, .int 108), (0, .ref h0), (1, .int p0)]) hx hb dX11_setOrder_32 rfl hl (by decide) rfl (fun ls hl => ?_)
    refine lv_aload_n hx hb dX11_setOrder_33 rfl (lv_at hl 1 rfl) ?_
    refine lv_iload_n hx hb dX11_setOrder_34 rfl (lv_at hl 2 rfl) ?_
    refine va_put (own := RX11) (D := D) (ci := 0) (v := .int p0) (ty := .char) (C := RX11) (T := TX11) (N := 15) hx hb hts inF11 tyX11 tyX11_ok nmX11 hown hK hP hD hS 0 rfl rfl 2 (by decide) (hg w2_39 rfl) (fun _ h9 => h9) rfl (by decide +kernel) (by rcases hod with rfl | rfl | rfl <;> rfl) (by rcases hod with rfl | rfl | rfl <;> rfl) (Nat.le_of_ble_eq_true rfl) dX11_setOrder_35 (fun H locs hP hD hS => ?_)
    have hP : va_P D pv_cl [(h0, .inr (0, [.ref (q 0), .int 0, .int p0, .ref (q 1), .int 0, .ref (q 2), .int 0, .ref (q 3), .ref (q 4), .int 1, .ref (q 5), .ref (q 6), .ref (q 7), .ref (q 8), .ref (q 9)]))] _ := hP
    have hD : va_D A [(h0, .inr (0, [.ref (q 0), .int 0, .int p0, .ref (q 1), .int 0, .ref (q 2), .int 0, .ref (q 3), .ref (q 4), .int 1, .ref (q 5), .ref (q 6), .ref (q 7), .ref (q 8), .ref (q 9)]))] := hD
    refine lv_iload_n hx hb dX11_setOrder_38 rfl (lv_at hl 0 rfl) ?_
    refine vx_ret ?_
    refine W.widen (k := 1) (n := 6) (Nat.le_of_ble_eq_true rfl) (Nat.le_of_ble_eq_true rfl) ?_
    exact W.zret (v := 108) (ty := .char) hx hb hr rfl (fun t ht hW => ⟨⟨108, (), rfl, ⟨rfl, hod⟩, trivial⟩, hS.F ht⟩) hS.2.2 dX11_setOrder_39
  · refine lv_iload_n hx hb dX11_setOrder_6 rfl (lv_at hl 1 rfl) ?_
    refine lv_bipush (v := 100) hx hb dX11_setOrder_7 (by decide) ?_
    refine lv_icmp_eq (tgt := 28) hx hb dX11_setOrder_9 (by decide) (fun c_2 => ?_) (fun c_2 => ?_)
    · have hod : pv_od p0 := Or.inr (Or.inl c_2)
      refine lv_aload_n hx hb dX11_setOrder_28 rfl (lv_at hl 0 rfl) ?_
      refine va_get (own := RX11) (D := D) (ci := 0) (v := .int 108) (C := RX11) (T := TX11) (N := 15) hx hb hts inF11 hown hK hP 0 rfl rfl 2 (by decide) (hg w2_39 rfl) (fun _ h9 => h9) rfl dX11_setOrder_29 ?_
      refine lv_istore_n (lv' := [(2, .int 108), (0, .ref h0), (1, .int p0)]) hx hb dX11_setOrder_32 rfl hl (by decide) rfl (fun ls hl => ?_)
      refine lv_aload_n hx hb dX11_setOrder_33 rfl (lv_at hl 1 rfl) ?_
      refine lv_iload_n hx hb dX11_setOrder_34 rfl (lv_at hl 2 rfl) ?_
      refine va_put (own := RX11) (D := D) (ci := 0) (v := .int p0) (ty := .char) (C := RX11) (T := TX11) (N := 15) hx hb hts inF11 tyX11 tyX11_ok nmX11 hown hK hP hD hS 0 rfl rfl 2 (by decide) (hg w2_39 rfl) (fun _ h9 => h9) rfl (by decide +kernel) (by rcases hod with rfl | rfl | rfl <;> rfl) (by rcases hod with rfl | rfl | rfl <;> rfl) (Nat.le_of_ble_eq_true rfl) dX11_setOrder_35 (fun H locs hP hD hS => ?_)
      have hP : va_P D pv_cl [(h0, .inr (0, [.ref (q 0), .int 0, .int p0, .ref (q 1), .int 0, .ref (q 2), .int 0, .ref (q 3), .ref (q 4), .int 1, .ref (q 5), .ref (q 6), .ref (q 7), .ref (q 8), .ref (q 9)]))] _ := hP
      have hD : va_D A [(h0, .inr (0, [.ref (q 0), .int 0, .int p0, .ref (q 1), .int 0, .ref (q 2), .int 0, .ref (q 3), .ref (q 4), .int 1, .ref (q 5), .ref (q 6), .ref (q 7), .ref (q 8), .ref (q 9)]))] := hD
      refine lv_iload_n hx hb dX11_setOrder_38 rfl (lv_at hl 0 rfl) ?_
      refine vx_ret ?_
      refine W.widen (k := 1) (n := 6) (Nat.le_of_ble_eq_true rfl) (Nat.le_of_ble_eq_true rfl) ?_
      exact W.zret (v := 108) (ty := .char) hx hb hr rfl (fun t ht hW => ⟨⟨108, (), rfl, ⟨rfl, hod⟩, trivial⟩, hS.F ht⟩) hS.2.2 dX11_setOrder_39
    · refine lv_iload_n hx hb dX11_setOrder_12 rfl (lv_at hl 1 rfl) ?_
      refine lv_bipush (v := 114) hx hb dX11_setOrder_13 (by decide) ?_
      refine lv_icmp_eq (tgt := 28) hx hb dX11_setOrder_15 (by decide) (fun c_3 => ?_) (fun c_3 => ?_)
      · have hod : pv_od p0 := Or.inr (Or.inr (c_3))
        refine lv_aload_n hx hb dX11_setOrder_28 rfl (lv_at hl 0 rfl) ?_
        refine va_get (own := RX11) (D := D) (ci := 0) (v := .int 108) (C := RX11) (T := TX11) (N := 15) hx hb hts inF11 hown hK hP 0 rfl rfl 2 (by decide) (hg w2_39 rfl) (fun _ h9 => h9) rfl dX11_setOrder_29 ?_
        refine lv_istore_n (lv' := [(2, .int 108), (0, .ref h0), (1, .int p0)]) hx hb dX11_setOrder_32 rfl hl (by decide) rfl (fun ls hl => ?_)
        refine lv_aload_n hx hb dX11_setOrder_33 rfl (lv_at hl 1 rfl) ?_
        refine lv_iload_n hx hb dX11_setOrder_34 rfl (lv_at hl 2 rfl) ?_
        refine va_put (own := RX11) (D := D) (ci := 0) (v := .int p0) (ty := .char) (C := RX11) (T := TX11) (N := 15) hx hb hts inF11 tyX11 tyX11_ok nmX11 hown hK hP hD hS 0 rfl rfl 2 (by decide) (hg w2_39 rfl) (fun _ h9 => h9) rfl (by decide +kernel) (by rcases hod with rfl | rfl | rfl <;> rfl) (by rcases hod with rfl | rfl | rfl <;> rfl) (Nat.le_of_ble_eq_true rfl) dX11_setOrder_35 (fun H locs hP hD hS => ?_)
        have hP : va_P D pv_cl [(h0, .inr (0, [.ref (q 0), .int 0, .int p0, .ref (q 1), .int 0, .ref (q 2), .int 0, .ref (q 3), .ref (q 4), .int 1, .ref (q 5), .ref (q 6), .ref (q 7), .ref (q 8), .ref (q 9)]))] _ := hP
        have hD : va_D A [(h0, .inr (0, [.ref (q 0), .int 0, .int p0, .ref (q 1), .int 0, .ref (q 2), .int 0, .ref (q 3), .ref (q 4), .int 1, .ref (q 5), .ref (q 6), .ref (q 7), .ref (q 8), .ref (q 9)]))] := hD
        refine lv_iload_n hx hb dX11_setOrder_38 rfl (lv_at hl 0 rfl) ?_
        refine vx_ret ?_
        refine W.widen (k := 1) (n := 6) (Nat.le_of_ble_eq_true rfl) (Nat.le_of_ble_eq_true rfl) ?_
        exact W.zret (v := 108) (ty := .char) hx hb hr rfl (fun t ht hW => ⟨⟨108, (), rfl, ⟨rfl, hod⟩, trivial⟩, hS.F ht⟩) hS.2.2 dX11_setOrder_39
      · obtain ⟨sa, hsa⟩ := hE.2.2.2.1 (160, "no such order") (by decide)
        exact vx_throwS (own := RX11) (cls := "java/lang/IllegalArgumentException") (names := ["java/lang/RuntimeException", "java/lang/Exception"]) hx hb hfl hown rfl (by decide) (hg w4_151 rfl) (hg w1_14 rfl) hsa (vx_hat (fun w h => hts w (pv_in (vx_at_133_g w h) (List.mem_filter.mp h).2)) vx_at_133_b (fun w h => va_Nw.use (pv_kind_on (List.mem_filter.mp h).2) (hE.2.2.1 w h))) vx_at_133_t hE.1 hE.2.1 hS (hl.1.trans hml.symm) dX11_setOrder_18 dX11_setOrder_21 dX11_setOrder_22 dX11_setOrder_24 dX11_setOrder_27 (fun x h9 => absurd (hnt x h9) id) (Nat.le_of_ble_eq_true rfl) (Nat.le_of_ble_eq_true rfl) (Nat.le_of_ble_eq_true rfl) (Nat.le_of_ble_eq_true rfl) hlocks (fun t h1 h2 h3 => ⟨(), trivial, ⟨rfl, pv_no3 c_1 c_2 c_3⟩, Nat.le_trans hS.1 h2, fun q h4 h5 => (h3 q (Nat.lt_of_lt_of_le h4 hS.1)).trans (hS.2.1 q h4 h5)⟩) hS.2.2 (Nat.le_of_ble_eq_true rfl) (Nat.le_of_ble_eq_true rfl)

theorem dX11_signOf_0 : decode cX11_signOf 0 = .ok (.iload_n 1, 1) := by decide +kernel
theorem dX11_signOf_1 : decode cX11_signOf 1 = .ok (.invokestatic 452, 3) := by decide +kernel
theorem dX11_signOf_4 : decode cX11_signOf 4 = .ok (.ifCond .eq 12, 3) := by decide +kernel
theorem dX11_signOf_7 : decode cX11_signOf 7 = .ok (.aload_n 0, 1) := by decide +kernel
theorem dX11_signOf_8 : decode cX11_signOf 8 = .ok (.getfield 41, 3) := by decide +kernel
theorem w2_44 : (Jvm.Cond.fieldLink "Polyforge" (41 : Nat) "Polyforge" "signs" "[C") ∈ lw_tbl := pv_t2 (pv_mg 44 rfl)
theorem dX11_signOf_11 : decode cX11_signOf 11 = .ok (.iload_n 1, 1) := by decide +kernel
theorem dX11_signOf_12 : decode cX11_signOf 12 = .ok (.caload, 1) := by decide +kernel
theorem dX11_signOf_13 : decode cX11_signOf 13 = .ok (.goto 5, 3) := by decide +kernel
theorem dX11_signOf_18 : decode cX11_signOf 18 = .ok (.ireturn, 1) := by decide +kernel
theorem dX11_signOf_16 : decode cX11_signOf 16 = .ok (.bipush 63, 2) := by decide +kernel
set_option maxHeartbeats 4000000 in
set_option maxRecDepth 100000 in
/-- signOf -/
theorem c_X11_signOf (l : Launch) (hfl : l.stackTraces = false) (D : va_G) (sz : Nat) (h0 : Nat) (q : Nat → Nat) (cC : ClassId) (sg : Nat → Int32) (hch : pv_ch sg) (p0 : Int32) : Met l yX11_signOf (Cond.code yX11_signOf cX11_signOf 2 (some .char) :: pv_W) ({ frames := 1, cells := 0, slots := 0, locals := 20 } : Room) (va_Pc [.ref h0, .int p0] (pv_P D [(cC, .char)] [(h0, .inr (0, [.ref (q 0), .int 0, .int 108, .ref (q 1), .int 0, .ref (q 2), .int 0, .ref (q 3), .ref (q 4), .int 1, .ref (q 5), .ref (q 6), .ref (q 7), .ref (q 8), .ref (q 9)])), ((q 3), .inl (cC, 3, .inl sg))] (va_A [] sz) sz)) (va_Qi (fun r (_ : Unit) => (pv_vr p0 ∧ r = sg p0.toNatClampNeg) ∨ (¬ pv_vr p0 ∧ r = 63)) (fun _ _ => True) (va_A [] sz)) 0 0 (va_A [] sz) := by
  refine Met.ofW (cc := cX11_signOf) (maxL := 2) (ret := (some .char)) (by decide) rfl ?_
  intro p e s m args below meth c s₁ B hml hv
  obtain ⟨rfl, hsz, hE, hP, hK, hD0⟩ := hv
  have hx := B.exec
  have hb := B.bytes
  have hr := B.returns
  have hts := fun (w : Cond) (h : w ∈ pv_W) => atoms_spec (ws := Cond.code yX11_signOf cX11_signOf 2 (some .char) :: pv_W) B.pre w (List.mem_cons_of_mem _ h)
  have hg := fun {w : Cond} (h : w ∈ lw_tbl) (g : goodWord w = true) => hts w (pv_in h g)
  have hown : s.vm.findClass RX11 = some m.cls := findClass_of_methodNamed B.named
  have hlocks := B.notSynchronized
  subst hsz
  have hD := hD0
  generalize hAe : va_A [] s.heap.size = A at hE ⊢
  have hA : ∀ q : Nat, s.heap.size ≤ q → A q := fun q h => by rw [← hAe]; exact Or.inr h
  have hS : va_S A s.heap s.heap [] := va_S.rf
  have hP : va_P D pv_cl [(h0, .inr (0, [.ref (q 0), .int 0, .int 108, .ref (q 1), .int 0, .ref (q 2), .int 0, .ref (q 3), .ref (q 4), .int 1, .ref (q 5), .ref (q 6), .ref (q 7), .ref (q 8), .ref (q 9)])), ((q 3), .inl (cC, 3, .inl sg))] s.heap := hP
  have hl := lv_entry ([.ref h0, .int p0]) (n := 2) (Nat.le_of_ble_eq_true rfl)
  rw [lg_entry_eq]
  generalize (lg_sl ([.ref h0, .int p0]) ++ List.replicate (2 - (lg_sl ([.ref h0, .int p0])).length) Slot.unset).toArray = ls at hl ⊢
  have hl : lv_has ls 2 [(0, .ref h0), (1, .int p0)] := hl
  refine lv_iload_n hx hb dX11_signOf_0 rfl (lv_at hl 1 rfl) ?_
  have hF := pv_new hA hS.1
  refine va_calli (va_runS (As := [.int p0]) (rest := []) ⟨hx, hb, hml, hown, hts⟩ (c_X11_isVariable l hfl D _ p0) (va_cwS 1 hts (pv_gS w5_59 w5_60 w1_1 w5_61) rfl rfl rfl (by decide +kernel) ⟨Nat.le_of_ble_eq_true rfl, Nat.le_of_ble_eq_true rfl⟩) (pv_ps hE hS hF (hP.sub [] rfl) (hK.sub [] rfl) (hD.sub [] (by decide) rfl)) rfl rfl hl.1 rfl (lv_room (Nat.le_of_ble_eq_true rfl)) dX11_signOf_1 ⟨Nat.le_of_ble_eq_true rfl, Nat.le_of_ble_eq_true rfl⟩) hS (fun q _ h => hF q h) hF (fun r_0 u t H1 locs1 ht hvm hw hB hz1 hk1 hS => ?_)
  refine W.widen (k := 0) (n := 0) (Nat.le_of_ble_eq_true rfl) (Nat.le_of_ble_eq_true rfl) ?_
  have hP := pv_keep hP rfl hk1
  rcases hw with ⟨rfl, a_2⟩ | ⟨rfl, a_2⟩
  · refine lv_if_eq (tgt := 16) hx hb dX11_signOf_4 (by decide) (fun c_3 => absurd c_3 (by decide)) (fun _ => ?_)
    refine lv_aload_n hx hb dX11_signOf_7 rfl (lv_at hl 0 rfl) ?_
    refine va_get (own := RX11) (D := D) (ci := 0) (v := .ref (q 3)) (C := RX11) (T := TX11) (N := 15) hx hb hts inF11 hown hK hP 0 rfl rfl 7 (by decide) (hg w2_44 rfl) (fun _ h9 => h9) rfl dX11_signOf_8 ?_
    refine lv_iload_n hx hb dX11_signOf_11 rfl (lv_at hl 1 rfl) ?_
    refine va_cald hx hb hK hP 1 0 rfl rfl (pv_vin a_2) dX11_signOf_12 ?_
    refine lv_goto (tgt := 18) hx hb dX11_signOf_13 (by decide) ?_
    refine W.widen (k := 0) (n := 0) (Nat.le_of_ble_eq_true rfl) (Nat.le_of_ble_eq_true rfl) ?_
    exact W.zret (v := sg p0.toNatClampNeg) (ty := .char) hx hb hr (hch _ (pv_vcl a_2)) (fun t ht hW => ⟨⟨sg p0.toNatClampNeg, (), rfl, Or.inl ⟨a_2, rfl⟩, trivial⟩, hS.F ht⟩) hS.2.2 dX11_signOf_18
  · refine lv_if_eq (tgt := 16) hx hb dX11_signOf_4 (by decide) (fun _ => ?_) (fun c_4 => absurd (by decide) c_4)
    refine lv_bipush (v := 63) hx hb dX11_signOf_16 (by decide) ?_
    refine W.widen (k := 0) (n := 0) (Nat.le_of_ble_eq_true rfl) (Nat.le_of_ble_eq_true rfl) ?_
    exact W.zret (v := 63) (ty := .char) hx hb hr rfl (fun t ht hW => ⟨⟨63, (), rfl, Or.inr ⟨a_2, rfl⟩, trivial⟩, hS.F ht⟩) hS.2.2 dX11_signOf_18

theorem dX11_sign_0 : decode cX11_sign 0 = .ok (.iload_n 1, 1) := by decide +kernel
theorem dX11_sign_1 : decode cX11_sign 1 = .ok (.invokestatic 96, 3) := by decide +kernel
theorem w5_56 : (Jvm.Cond.methodLink "Polyforge" (96 : Nat) ({ cls := "Polyforge", name := "requireVariable", desc := "(I)V" } : Jvm.MethodName)) ∈ lw_tbl := pv_t5 (pv_mg 56 rfl)
theorem w5_58 : (Jvm.Cond.code ({ cls := "Polyforge", name := "requireVariable", desc := "(I)V" } : Jvm.MethodName) prog_1_method_59_code (1 : Nat) (Option.none : Option Jvm.ClassFile.FieldType)) ∈ lw_tbl := pv_t5 (pv_mg 58 rfl)
theorem w5_57 : (Jvm.Cond.static ({ cls := "Polyforge", name := "requireVariable", desc := "(I)V" } : Jvm.MethodName)) ∈ lw_tbl := pv_t5 (pv_mg 57 rfl)
theorem dX11_sign_4 : decode cX11_sign 4 = .ok (.aload_n 0, 1) := by decide +kernel
theorem dX11_sign_5 : decode cX11_sign 5 = .ok (.iload_n 1, 1) := by decide +kernel
theorem dX11_sign_6 : decode cX11_sign 6 = .ok (.invokevirtual 403, 3) := by decide +kernel
theorem w8_97 : (Jvm.Cond.methodLink "Polyforge" (403 : Nat) ({ cls := "Polyforge", name := "signOf", desc := "(I)C" } : Jvm.MethodName)) ∈ lw_tbl := pv_t8 (pv_mg 97 rfl)
theorem w8_100 : (Jvm.Cond.code ({ cls := "Polyforge", name := "signOf", desc := "(I)C" } : Jvm.MethodName) prog_1_method_101_code (2 : Nat) (Option.some Jvm.ClassFile.FieldType.char)) ∈ lw_tbl := pv_t8 (pv_mg 100 rfl)
theorem wp5_2 : Cond.selects "Polyforge" ⟨"Polyforge", "signOf", "(I)C"⟩ ⟨"Polyforge", "signOf", "(I)C"⟩ ∈ lw_tbl := pv_mg 66 rfl
theorem w8_99 : (Jvm.Cond.instanceMethod ({ cls := "Polyforge", name := "signOf", desc := "(I)C" } : Jvm.MethodName)) ∈ lw_tbl := pv_t8 (pv_mg 99 rfl)
theorem dX11_sign_9 : decode cX11_sign 9 = .ok (.ireturn, 1) := by decide +kernel
set_option maxHeartbeats 4000000 in
set_option maxRecDepth 100000 in
/-- sign on a fresh object -/
theorem c_X11_sign (l : Launch) (hfl : l.stackTraces = false) (D : va_G) (sz : Nat) (h0 : Nat) (q : Nat → Nat) (cC : ClassId) (sg : Nat → Int32) (hsg : ∀ j, j < 3 → sg j = 63) (p0 : Int32) : vx_Met l yX11_sign (Cond.code yX11_sign cX11_sign 2 (some .char) :: pv_W) ({ frames := 8, cells := 1, slots := 6, locals := 120 } : Room) (va_Pc [.ref h0, .int p0] (pv_P D [(cC, .char)] [(h0, .inr (0, [.ref (q 0), .int 0, .int 108, .ref (q 1), .int 0, .ref (q 2), .int 0, .ref (q 3), .ref (q 4), .int 1, .ref (q 5), .ref (q 6), .ref (q 7), .ref (q 8), .ref (q 9)])), ((q 3), .inl (cC, 3, .inl sg))] (va_A [] sz) sz)) (va_Qi (fun r (_ : Unit) => r = 63 ∧ pv_vr p0) (fun _ _ => True) (va_A [] sz)) (vx_X (fun _ : Unit => True) (fun E _ _ => E = "java/lang/IllegalArgumentException" ∧ ¬ pv_vr p0) (va_A [] sz)) 1 6 (va_A [] sz) := by
  refine vx_ofW (cc := cX11_sign) (maxL := 2) (ret := (some .char)) (by decide) rfl ?_
  intro p e s m args below meth c s₁ B hml hnt hv
  obtain ⟨rfl, hsz, hE, hP, hK, hD0⟩ := hv
  have hx := B.exec
  have hb := B.bytes
  have hr := B.returns
  have hts := fun (w : Cond) (h : w ∈ pv_W) => atoms_spec (ws := Cond.code yX11_sign cX11_sign 2 (some .char) :: pv_W) B.pre w (List.mem_cons_of_mem _ h)
  have hg := fun {w : Cond} (h : w ∈ lw_tbl) (g : goodWord w = true) => hts w (pv_in h g)
  have hown : s.vm.findClass RX11 = some m.cls := findClass_of_methodNamed B.named
  have hlocks := B.notSynchronized
  subst hsz
  have hD := hD0
  generalize hAe : va_A [] s.heap.size = A at hE ⊢
  have hA : ∀ q : Nat, s.heap.size ≤ q → A q := fun q h => by rw [← hAe]; exact Or.inr h
  have hS : va_S A s.heap s.heap [] := va_S.rf
  have hP : va_P D pv_cl [(h0, .inr (0, [.ref (q 0), .int 0, .int 108, .ref (q 1), .int 0, .ref (q 2), .int 0, .ref (q 3), .ref (q 4), .int 1, .ref (q 5), .ref (q 6), .ref (q 7), .ref (q 8), .ref (q 9)])), ((q 3), .inl (cC, 3, .inl sg))] s.heap := hP
  have hl := lv_entry ([.ref h0, .int p0]) (n := 2) (Nat.le_of_ble_eq_true rfl)
  rw [lg_entry_eq]
  generalize (lg_sl ([.ref h0, .int p0]) ++ List.replicate (2 - (lg_sl ([.ref h0, .int p0])).length) Slot.unset).toArray = ls at hl ⊢
  have hl : lv_has ls 2 [(0, .ref h0), (1, .int p0)] := hl
  refine lv_iload_n hx hb dX11_sign_0 rfl (lv_at hl 1 rfl) ?_
  have hF := pv_new hA hS.1
  refine vx_callv (vx_runS (As := [.int p0]) (rest := []) ⟨hx, hb, hml, hown, hts⟩ (c_X11_requireVariable l hfl D _ p0) (va_cwS 1 hts (pv_gS w5_56 w5_57 w1_1 w5_58) rfl rfl rfl (by decide +kernel) ⟨Nat.le_of_ble_eq_true rfl, Nat.le_of_ble_eq_true rfl⟩) (pv_ps hE hS hF (hP.sub [] rfl) (hK.sub [] rfl) (hD.sub [] (by decide) rfl)) rfl rfl hl.1 rfl (lv_room (Nat.le_of_ble_eq_true rfl)) dX11_sign_1 ⟨Nat.le_of_ble_eq_true rfl, Nat.le_of_ble_eq_true rfl⟩) hS (fun q _ h => hF q h) hF (fun q _ h => hF q h) (fun E ce q9 u t H1 locs1 ht hvm hpx hbx hz1 hk1 hS hce hcv hcl => ?_) (fun u t H1 locs1 ht hvm hw hB hz1 hk1 hS => ?_)
  · exact vx_out (fun x h9 => absurd (hnt x h9) id) hlocks hce hcv hcl (fun t ht hvm => ⟨(), trivial, hbx, hS.F ht⟩) hS.2.2 (Nat.le_of_ble_eq_true rfl) (Nat.le_of_ble_eq_true rfl)
  · refine W.widen (k := 1) (n := 6) (Nat.le_of_ble_eq_true rfl) (Nat.le_of_ble_eq_true rfl) ?_
    have hP := pv_keep hP rfl hk1
    have a_2 := hw
    refine lv_aload_n hx hb dX11_sign_4 rfl (lv_at hl 0 rfl) ?_
    refine lv_iload_n hx hb dX11_sign_5 rfl (lv_at hl 1 rfl) ?_
    have hF := pv_new hA hS.1
    refine va_calli (va_runV (As := [.int p0]) (rest := []) ⟨hx, hb, hml, hown, hts⟩ (c_X11_signOf l hfl D _ h0 q cC sg (pv_ch63 hsg) p0) (cwV 1 hts (pv_gV w8_97 w8_99 wp5_2 w1_1 w8_100) rfl rfl rfl (by decide +kernel) ⟨Nat.le_of_ble_eq_true rfl, Nat.le_of_ble_eq_true rfl⟩) (pv_pV hE hS hF (hP.sub [0, 1] rfl) (hK.sub [0] rfl) (hD.sub [0, 1] (by decide) rfl) (va_recv (ci := 0) (q0 := 0) hK hP rfl rfl)) rfl rfl hl.1 rfl (lv_room (Nat.le_of_ble_eq_true rfl)) dX11_sign_6 ⟨Nat.le_of_ble_eq_true rfl, Nat.le_of_ble_eq_true rfl⟩) hS (fun q _ h => hF q h) hF (fun r_2 u t H1 locs1 ht hvm hw hB hz1 hk1 hS => ?_)
    refine W.widen (k := 1) (n := 6) (Nat.le_of_ble_eq_true rfl) (Nat.le_of_ble_eq_true rfl) ?_
    have hP := pv_keep hP rfl hk1
    have hw : r_2 = 63 := hw.elim (fun h => h.2.trans (hsg _ (pv_vcl h.1))) (fun h => h.2)
    obtain rfl := hw
    refine vx_ret ?_
    refine W.widen (k := 1) (n := 6) (Nat.le_of_ble_eq_true rfl) (Nat.le_of_ble_eq_true rfl) ?_
    exact W.zret (v := 63) (ty := .char) hx hb hr rfl (fun t ht hW => ⟨⟨63, (), rfl, ⟨rfl, a_2⟩, trivial⟩, hS.F ht⟩) hS.2.2 dX11_sign_9

theorem dX11_assume_0 : decode cX11_assume 0 = .ok (.iload_n 1, 1) := by decide +kernel
theorem dX11_assume_1 : decode cX11_assume 1 = .ok (.invokestatic 96, 3) := by decide +kernel
theorem dX11_assume_4 : decode cX11_assume 4 = .ok (.iload_n 2, 1) := by decide +kernel
theorem dX11_assume_5 : decode cX11_assume 5 = .ok (.invokestatic 391, 3) := by decide +kernel
theorem w8_61 : (Jvm.Cond.methodLink "Polyforge" (391 : Nat) ({ cls := "Polyforge", name := "requireSign", desc := "(C)V" } : Jvm.MethodName)) ∈ lw_tbl := pv_t8 (pv_mg 61 rfl)
theorem w8_63 : (Jvm.Cond.code ({ cls := "Polyforge", name := "requireSign", desc := "(C)V" } : Jvm.MethodName) prog_1_method_60_code (1 : Nat) (Option.none : Option Jvm.ClassFile.FieldType)) ∈ lw_tbl := pv_t8 (pv_mg 63 rfl)
theorem w8_62 : (Jvm.Cond.static ({ cls := "Polyforge", name := "requireSign", desc := "(C)V" } : Jvm.MethodName)) ∈ lw_tbl := pv_t8 (pv_mg 62 rfl)
theorem dX11_assume_8 : decode cX11_assume 8 = .ok (.aload_n 0, 1) := by decide +kernel
theorem dX11_assume_9 : decode cX11_assume 9 = .ok (.iload_n 1, 1) := by decide +kernel
theorem dX11_assume_10 : decode cX11_assume 10 = .ok (.invokevirtual 403, 3) := by decide +kernel
theorem dX11_assume_13 : decode cX11_assume 13 = .ok (.bipush 63, 2) := by decide +kernel
theorem dX11_assume_15 : decode cX11_assume 15 = .ok (.if_icmp .eq 14, 3) := by decide +kernel
theorem dX11_assume_29 : decode cX11_assume 29 = .ok (.iconst 0, 1) := by decide +kernel
theorem dX11_assume_30 : decode cX11_assume 30 = .ok (.istore_n 3, 1) := by decide +kernel
theorem dX11_assume_31 : decode cX11_assume 31 = .ok (.iconst 0, 1) := by decide +kernel
theorem dX11_assume_32 : decode cX11_assume 32 = .ok (.istore 4, 2) := by decide +kernel
theorem dX11_assume_34 : decode cX11_assume 34 = .ok (.iload 4, 2) := by decide +kernel
theorem dX11_assume_36 : decode cX11_assume 36 = .ok (.iconst 3, 1) := by decide +kernel
theorem dX11_assume_37 : decode cX11_assume 37 = .ok (.if_icmp .ge 53, 3) := by decide +kernel
theorem dX11_assume_40 : decode cX11_assume 40 = .ok (.iload 4, 2) := by decide +kernel
theorem dX11_assume_42 : decode cX11_assume 42 = .ok (.iload_n 1, 1) := by decide +kernel
theorem dX11_assume_43 : decode cX11_assume 43 = .ok (.if_icmp .ne 22, 3) := by decide +kernel
theorem dX11_assume_46 : decode cX11_assume 46 = .ok (.aload_n 0, 1) := by decide +kernel
theorem dX11_assume_47 : decode cX11_assume 47 = .ok (.getfield 41, 3) := by decide +kernel
theorem dX11_assume_50 : decode cX11_assume 50 = .ok (.iload 4, 2) := by decide +kernel
theorem dX11_assume_52 : decode cX11_assume 52 = .ok (.iload_n 2, 1) := by decide +kernel
theorem dX11_assume_53 : decode cX11_assume 53 = .ok (.castore, 1) := by decide +kernel
theorem dX11_assume_54 : decode cX11_assume 54 = .ok (.aload_n 0, 1) := by decide +kernel
theorem dX11_assume_55 : decode cX11_assume 55 = .ok (.getfield 45, 3) := by decide +kernel
theorem w2_45 : (Jvm.Cond.fieldLink "Polyforge" (45 : Nat) "Polyforge" "signFrames" "[I") ∈ lw_tbl := pv_t2 (pv_mg 45 rfl)
theorem dX11_assume_58 : decode cX11_assume 58 = .ok (.iload 4, 2) := by decide +kernel
theorem dX11_assume_60 : decode cX11_assume 60 = .ok (.aload_n 0, 1) := by decide +kernel
theorem dX11_assume_61 : decode cX11_assume 61 = .ok (.getfield 49, 3) := by decide +kernel
theorem dX11_assume_64 : decode cX11_assume 64 = .ok (.iastore, 1) := by decide +kernel
theorem dX11_assume_65 : decode cX11_assume 65 = .ok (.iload_n 3, 1) := by decide +kernel
theorem dX11_assume_66 : decode cX11_assume 66 = .ok (.aload_n 0, 1) := by decide +kernel
theorem dX11_assume_67 : decode cX11_assume 67 = .ok (.iload 4, 2) := by decide +kernel
theorem dX11_assume_69 : decode cX11_assume 69 = .ok (.invokevirtual 403, 3) := by decide +kernel
theorem dX11_assume_72 : decode cX11_assume 72 = .ok (.bipush 63, 2) := by decide +kernel
theorem dX11_assume_74 : decode cX11_assume 74 = .ok (.if_icmp .eq 7, 3) := by decide +kernel
theorem dX11_assume_77 : decode cX11_assume 77 = .ok (.iconst 1, 1) := by decide +kernel
theorem dX11_assume_78 : decode cX11_assume 78 = .ok (.goto 4, 3) := by decide +kernel
theorem dX11_assume_82 : decode cX11_assume 82 = .ok (.iadd, 1) := by decide +kernel
theorem dX11_assume_83 : decode cX11_assume 83 = .ok (.istore_n 3, 1) := by decide +kernel
theorem dX11_assume_84 : decode cX11_assume 84 = .ok (.iinc 4 1, 3) := by decide +kernel
theorem dX11_assume_87 : decode cX11_assume 87 = .ok (.goto (-53), 3) := by decide +kernel
theorem dX11_assume_81 : decode cX11_assume 81 = .ok (.iconst 0, 1) := by decide +kernel
theorem dX11_assume_90 : decode cX11_assume 90 = .ok (.iload_n 3, 1) := by decide +kernel
theorem dX11_assume_91 : decode cX11_assume 91 = .ok (.ireturn, 1) := by decide +kernel
set_option maxHeartbeats 4000000 in
set_option maxRecDepth 100000 in
/-- assume on a fresh object -/
theorem c_X11_assume (l : Launch) (hfl : l.stackTraces = false) (D : va_G) (sz : Nat) (h0 : Nat) (q : Nat → Nat) (cC cI : ClassId) (sg sf : Nat → Int32) (hsg : ∀ j, j < 3 → sg j = 63) (p0 p1 : Int32) : vx_Met l yX11_assume (Cond.code yX11_assume cX11_assume 5 (some .int) :: pv_W) ({ frames := 8, cells := 2, slots := 12, locals := 120 } : Room) (va_Pc [.ref h0, .int p0, .int p1] (pv_P D [(cC, .char), (cI, .int)] [(h0, .inr (0, [.ref (q 0), .int 0, .int 108, .ref (q 1), .int 0, .ref (q 2), .int 0, .ref (q 3), .ref (q 4), .int 1, .ref (q 5), .ref (q 6), .ref (q 7), .ref (q 8), .ref (q 9)])), ((q 3), .inl (cC, 3, .inl sg)), ((q 4), .inl (cI, 3, .inl sf))] (va_A [(h0, .inr (0, [.ref (q 0), .int 0, .int 108, .ref (q 1), .int 0, .ref (q 2), .int 0, .ref (q 3), .ref (q 4), .int 1, .ref (q 5), .ref (q 6), .ref (q 7), .ref (q 8), .ref (q 9)])), ((q 3), .inl (cC, 3, .inl sg)), ((q 4), .inl (cI, 3, .inl sf))] sz) sz)) (va_Qi (fun r (_ : Unit) => r = 1 ∧ pv_vr p0 ∧ pv_sn p1) (fun _ _ => True) (va_A [(h0, .inr (0, [.ref (q 0), .int 0, .int 108, .ref (q 1), .int 0, .ref (q 2), .int 0, .ref (q 3), .ref (q 4), .int 1, .ref (q 5), .ref (q 6), .ref (q 7), .ref (q 8), .ref (q 9)])), ((q 3), .inl (cC, 3, .inl sg)), ((q 4), .inl (cI, 3, .inl sf))] sz)) (vx_X (fun _ : Unit => True) (fun E _ _ => E = "java/lang/IllegalArgumentException" ∧ ¬ (pv_vr p0 ∧ pv_sn p1)) (va_A [(h0, .inr (0, [.ref (q 0), .int 0, .int 108, .ref (q 1), .int 0, .ref (q 2), .int 0, .ref (q 3), .ref (q 4), .int 1, .ref (q 5), .ref (q 6), .ref (q 7), .ref (q 8), .ref (q 9)])), ((q 3), .inl (cC, 3, .inl sg)), ((q 4), .inl (cI, 3, .inl sf))] sz)) 2 12 (va_A [(h0, .inr (0, [.ref (q 0), .int 0, .int 108, .ref (q 1), .int 0, .ref (q 2), .int 0, .ref (q 3), .ref (q 4), .int 1, .ref (q 5), .ref (q 6), .ref (q 7), .ref (q 8), .ref (q 9)])), ((q 3), .inl (cC, 3, .inl sg)), ((q 4), .inl (cI, 3, .inl sf))] sz) := by
  refine vx_ofW (cc := cX11_assume) (maxL := 5) (ret := (some .int)) (by decide) rfl ?_
  intro p e s m args below meth c s₁ B hml hnt hv
  obtain ⟨rfl, hsz, hE, hP, hK, hD0⟩ := hv
  have hx := B.exec
  have hb := B.bytes
  have hr := B.returns
  have hts := fun (w : Cond) (h : w ∈ pv_W) => atoms_spec (ws := Cond.code yX11_assume cX11_assume 5 (some .int) :: pv_W) B.pre w (List.mem_cons_of_mem _ h)
  have hg := fun {w : Cond} (h : w ∈ lw_tbl) (g : goodWord w = true) => hts w (pv_in h g)
  have hown : s.vm.findClass RX11 = some m.cls := findClass_of_methodNamed B.named
  have hlocks := B.notSynchronized
  subst hsz
  have hD := hD0.self (sz := s.heap.size)
  generalize hAe : va_A [(h0, .inr (0, [.ref (q 0), .int 0, .int 108, .ref (q 1), .int 0, .ref (q 2), .int 0, .ref (q 3), .ref (q 4), .int 1, .ref (q 5), .ref (q 6), .ref (q 7), .ref (q 8), .ref (q 9)])), ((q 3), .inl (cC, 3, .inl sg)), ((q 4), .inl (cI, 3, .inl sf))] s.heap.size = A at hD hE ⊢
  have hA : ∀ q : Nat, s.heap.size ≤ q → A q := fun q h => by rw [← hAe]; exact Or.inr h
  have hS : va_S A s.heap s.heap [] := va_S.rf
  have hP : va_P D pv_cl [(h0, .inr (0, [.ref (q 0), .int 0, .int 108, .ref (q 1), .int 0, .ref (q 2), .int 0, .ref (q 3), .ref (q 4), .int 1, .ref (q 5), .ref (q 6), .ref (q 7), .ref (q 8), .ref (q 9)])), ((q 3), .inl (cC, 3, .inl sg)), ((q 4), .inl (cI, 3, .inl sf))] s.heap := hP
  have hl := lv_entry ([.ref h0, .int p0, .int p1]) (n := 5) (Nat.le_of_ble_eq_true rfl)
  rw [lg_entry_eq]
  generalize (lg_sl ([.ref h0, .int p0, .int p1]) ++ List.replicate (5 - (lg_sl ([.ref h0, .int p0, .int p1])).length) Slot.unset).toArray = ls at hl ⊢
  have hl : lv_has ls 5 [(0, .ref h0), (1, .int p0), (2, .int p1)] := hl
  refine lv_iload_n hx hb dX11_assume_0 rfl (lv_at hl 1 rfl) ?_
  have hF := pv_new hA hS.1
  refine vx_callv (vx_runS (As := [.int p0]) (rest := []) ⟨hx, hb, hml, hown, hts⟩ (c_X11_requireVariable l hfl D _ p0) (va_cwS 1 hts (pv_gS w5_56 w5_57 w1_1 w5_58) rfl rfl rfl (by decide +kernel) ⟨Nat.le_of_ble_eq_true rfl, Nat.le_of_ble_eq_true rfl⟩) (pv_ps hE hS hF (hP.sub [] rfl) (hK.sub [] rfl) (hD.sub [] (by decide) rfl)) rfl rfl hl.1 rfl (lv_room (Nat.le_of_ble_eq_true rfl)) dX11_assume_1 ⟨Nat.le_of_ble_eq_true rfl, Nat.le_of_ble_eq_true rfl⟩) hS (fun q _ h => hF q h) hF (fun q _ h => hF q h) (fun E ce q9 u t H1 locs1 ht hvm hpx hbx hz1 hk1 hS hce hcv hcl => ?_) (fun u t H1 locs1 ht hvm hw hB hz1 hk1 hS => ?_)
  · exact vx_out (fun x h9 => absurd (hnt x h9) id) hlocks hce hcv hcl (fun t ht hvm => ⟨(), trivial, ⟨hbx.1, fun h => hbx.2 h.1⟩, hS.F ht⟩) hS.2.2 (Nat.le_of_ble_eq_true rfl) (Nat.le_of_ble_eq_true rfl)
  · refine W.widen (k := 1) (n := 6) (Nat.le_of_ble_eq_true rfl) (Nat.le_of_ble_eq_true rfl) ?_
    have hP := pv_keep hP rfl hk1
    have a_2 := hw
    refine lv_iload_n hx hb dX11_assume_4 rfl (lv_at hl 2 rfl) ?_
    have hF := pv_new hA hS.1
    refine vx_callv (vx_runS (As := [.int p1]) (rest := []) ⟨hx, hb, hml, hown, hts⟩ (c_X11_requireSign l hfl D _ p1) (va_cwS 1 hts (pv_gS w8_61 w8_62 w1_1 w8_63) rfl rfl rfl (by decide +kernel) ⟨Nat.le_of_ble_eq_true rfl, Nat.le_of_ble_eq_true rfl⟩) (pv_ps hE hS hF (hP.sub [] rfl) (hK.sub [] rfl) (hD.sub [] (by decide) rfl)) rfl rfl hl.1 rfl (lv_room (Nat.le_of_ble_eq_true rfl)) dX11_assume_5 ⟨Nat.le_of_ble_eq_true rfl, Nat.le_of_ble_eq_true rfl⟩) hS (fun q _ h => hF q h) hF (fun q _ h => hF q h) (fun E ce q9 u t H1 locs1 ht hvm hpx hbx hz1 hk1 hS hce hcv hcl => ?_) (fun u t H1 locs1 ht hvm hw hB hz1 hk1 hS => ?_)
    · exact vx_out (fun x h9 => absurd (hnt x h9) id) hlocks hce hcv hcl (fun t ht hvm => ⟨(), trivial, ⟨hbx.1, fun h => hbx.2 h.2⟩, hS.F ht⟩) hS.2.2 (Nat.le_of_ble_eq_true rfl) (Nat.le_of_ble_eq_true rfl)
    · refine W.widen (k := 2) (n := 12) (Nat.le_of_ble_eq_true rfl) (Nat.le_of_ble_eq_true rfl) ?_
      have hP := pv_keep hP rfl hk1
      have a_4 := hw
      refine lv_aload_n hx hb dX11_assume_8 rfl (lv_at hl 0 rfl) ?_
      refine lv_iload_n hx hb dX11_assume_9 rfl (lv_at hl 1 rfl) ?_
      have hF := pv_new hA hS.1
      refine va_calli (va_runV (As := [.int p0]) (rest := []) ⟨hx, hb, hml, hown, hts⟩ (c_X11_signOf l hfl D _ h0 q cC sg (pv_ch63 hsg) p0) (cwV 1 hts (pv_gV w8_97 w8_99 wp5_2 w1_1 w8_100) rfl rfl rfl (by decide +kernel) ⟨Nat.le_of_ble_eq_true rfl, Nat.le_of_ble_eq_true rfl⟩) (pv_pV hE hS hF (hP.sub [0, 1] rfl) (hK.sub [0] rfl) (hD.sub [0, 1] (by decide) rfl) (va_recv (ci := 0) (q0 := 0) hK hP rfl rfl)) rfl rfl hl.1 rfl (lv_room (Nat.le_of_ble_eq_true rfl)) dX11_assume_10 ⟨Nat.le_of_ble_eq_true rfl, Nat.le_of_ble_eq_true rfl⟩) hS (fun q _ h => hF q h) hF (fun r_4 u t H1 locs1 ht hvm hw hB hz1 hk1 hS => ?_)
      refine W.widen (k := 2) (n := 12) (Nat.le_of_ble_eq_true rfl) (Nat.le_of_ble_eq_true rfl) ?_
      have hP := pv_keep hP rfl hk1
      have hw : r_4 = 63 := hw.elim (fun h => h.2.trans (hsg _ (pv_vcl h.1))) (fun h => h.2)
      obtain rfl := hw
      have hsn : ¬ vp_nar .char p1 = 63 := by rcases a_4 with rfl | rfl | rfl <;> decide
      have hchp : narrow .char (.int (vp_nar .char p1)) = .int (vp_nar .char p1) := by rcases a_4 with rfl | rfl | rfl <;> rfl
      have hok : pv_vr p0 ∧ pv_sn p1 := ⟨a_2, a_4⟩
      rcases pv_v3 a_2 with rfl | rfl | rfl
      · refine lv_bipush (v := 63) hx hb dX11_assume_13 (by decide) ?_
        refine lv_icmp_eq (tgt := 29) hx hb dX11_assume_15 (by decide) (fun _ => ?_) (fun c_6 => absurd (by decide) c_6)
        refine lv_iconst (v := 0) hx hb dX11_assume_29 (by decide) ?_
        refine lv_istore_n (lv' := [(3, .int 0), (0, .ref h0), (1, .int 0), (2, .int p1)]) hx hb dX11_assume_30 rfl hl (by decide) rfl (fun ls hl => ?_)
        refine lv_iconst (v := 0) hx hb dX11_assume_31 (by decide) ?_
        refine lv_istore (lv' := [(4, .int 0), (3, .int 0), (0, .ref h0), (1, .int 0), (2, .int p1)]) hx hb dX11_assume_32 hl (by decide) rfl (fun ls hl => ?_)
        refine lv_iload hx hb dX11_assume_34 (lv_at hl 0 rfl) ?_
        refine lv_iconst (v := 3) hx hb dX11_assume_36 (by decide) ?_
        refine lv_icmp_ge (tgt := 90) hx hb dX11_assume_37 (by decide) (fun c_7 => absurd c_7 (by decide)) (fun _ => ?_)
        refine lv_iload hx hb dX11_assume_40 (lv_at hl 0 rfl) ?_
        refine lv_iload_n hx hb dX11_assume_42 rfl (lv_at hl 3 rfl) ?_
        refine lv_icmp_ne (tgt := 65) hx hb dX11_assume_43 (by decide) (fun c_8 => absurd (by decide) c_8) (fun _ => ?_)
        refine lv_aload_n hx hb dX11_assume_46 rfl (lv_at hl 2 rfl) ?_
        refine va_get (own := RX11) (D := D) (ci := 0) (v := .ref (q 3)) (C := RX11) (T := TX11) (N := 15) hx hb hts inF11 hown hK hP 0 rfl rfl 7 (by decide) (hg w2_44 rfl) (fun _ h9 => h9) rfl dX11_assume_47 ?_
        refine lv_iload hx hb dX11_assume_50 (lv_at hl 0 rfl) ?_
        refine lv_iload_n hx hb dX11_assume_52 rfl (lv_at hl 4 rfl) ?_
        refine va_cast hx hb hK hP hD hS 1 0 rfl rfl (by unfold vp_in; decide) dX11_assume_53 (fun H locs hP hD hS => ?_)
        have hP : va_P D pv_cl [(h0, .inr (0, [.ref (q 0), .int 0, .int 108, .ref (q 1), .int 0, .ref (q 2), .int 0, .ref (q 3), .ref (q 4), .int 1, .ref (q 5), .ref (q 6), .ref (q 7), .ref (q 8), .ref (q 9)])), ((q 3), .inl (cC, 3, .inl (upd (sg) (0 : Int32).toNatClampNeg (vp_nar .char p1)))), ((q 4), .inl (cI, 3, .inl sf))] _ := hP
        have hD : va_D A [(h0, .inr (0, [.ref (q 0), .int 0, .int 108, .ref (q 1), .int 0, .ref (q 2), .int 0, .ref (q 3), .ref (q 4), .int 1, .ref (q 5), .ref (q 6), .ref (q 7), .ref (q 8), .ref (q 9)])), ((q 3), .inl (cC, 3, .inl (upd (sg) (0 : Int32).toNatClampNeg (vp_nar .char p1)))), ((q 4), .inl (cI, 3, .inl sf))] := hD
        refine lv_aload_n hx hb dX11_assume_54 rfl (lv_at hl 2 rfl) ?_
        refine va_get (own := RX11) (D := D) (ci := 0) (v := .ref (q 4)) (C := RX11) (T := TX11) (N := 15) hx hb hts inF11 hown hK hP 0 rfl rfl 8 (by decide) (hg w2_45 rfl) (fun _ h9 => h9) rfl dX11_assume_55 ?_
        refine lv_iload hx hb dX11_assume_58 (lv_at hl 0 rfl) ?_
        refine lv_aload_n hx hb dX11_assume_60 rfl (lv_at hl 2 rfl) ?_
        refine va_get (own := RX11) (D := D) (ci := 0) (v := .int 1) (C := RX11) (T := TX11) (N := 15) hx hb hts inF11 hown hK hP 0 rfl rfl 9 (by decide) (hg w2_46 rfl) (fun _ h9 => h9) rfl dX11_assume_61 ?_
        refine va_iast hx hb hK hP hD hS 2 1 rfl rfl (by unfold vp_in; decide) dX11_assume_64 (fun H locs hP hD hS => ?_)
        have hP : va_P D pv_cl [(h0, .inr (0, [.ref (q 0), .int 0, .int 108, .ref (q 1), .int 0, .ref (q 2), .int 0, .ref (q 3), .ref (q 4), .int 1, .ref (q 5), .ref (q 6), .ref (q 7), .ref (q 8), .ref (q 9)])), ((q 3), .inl (cC, 3, .inl (upd (sg) (0 : Int32).toNatClampNeg (vp_nar .char p1)))), ((q 4), .inl (cI, 3, .inl (upd (sf) (0 : Int32).toNatClampNeg 1)))] _ := hP
        have hD : va_D A [(h0, .inr (0, [.ref (q 0), .int 0, .int 108, .ref (q 1), .int 0, .ref (q 2), .int 0, .ref (q 3), .ref (q 4), .int 1, .ref (q 5), .ref (q 6), .ref (q 7), .ref (q 8), .ref (q 9)])), ((q 3), .inl (cC, 3, .inl (upd (sg) (0 : Int32).toNatClampNeg (vp_nar .char p1)))), ((q 4), .inl (cI, 3, .inl (upd (sf) (0 : Int32).toNatClampNeg 1)))] := hD
        refine lv_iload_n hx hb dX11_assume_65 rfl (lv_at hl 1 rfl) ?_
        refine lv_aload_n hx hb dX11_assume_66 rfl (lv_at hl 2 rfl) ?_
        refine lv_iload hx hb dX11_assume_67 (lv_at hl 0 rfl) ?_
        have hF := pv_new hA hS.1
        refine va_calli (va_runV (As := [.int 0]) (rest := [.int 0]) ⟨hx, hb, hml, hown, hts⟩ (c_X11_signOf l hfl D _ h0 q cC (upd (sg) (0 : Int32).toNatClampNeg (vp_nar .char p1)) (pv_ch_upd (pv_ch63 hsg) _ hchp) 0) (cwV 1 hts (pv_gV w8_97 w8_99 wp5_2 w1_1 w8_100) rfl rfl rfl (by decide +kernel) ⟨Nat.le_of_ble_eq_true rfl, Nat.le_of_ble_eq_true rfl⟩) (pv_pV hE hS hF (hP.sub [0, 1] rfl) (hK.sub [0] rfl) (hD.sub [0, 1] (by decide) rfl) (va_recv (ci := 0) (q0 := 0) hK hP rfl rfl)) rfl rfl hl.1 rfl (lv_room (Nat.le_of_ble_eq_true rfl)) dX11_assume_69 ⟨Nat.le_of_ble_eq_true rfl, Nat.le_of_ble_eq_true rfl⟩) hS (fun q _ h => hF q h) hF (fun r_8 u t H1 locs1 ht hvm hw hB hz1 hk1 hS => ?_)
        refine W.widen (k := 2) (n := 12) (Nat.le_of_ble_eq_true rfl) (Nat.le_of_ble_eq_true rfl) ?_
        have hP := pv_keep hP rfl hk1
        have hw : r_8 = vp_nar .char p1 := hw.elim (fun h => h.2.trans pk_us) (fun h => absurd ⟨by decide, by decide⟩ h.1)
        subst hw
        refine lv_bipush (v := 63) hx hb dX11_assume_72 (by decide) ?_
        refine lv_icmp_eq (tgt := 81) hx hb dX11_assume_74 (by decide) (fun c_10 => absurd c_10 hsn) (fun c_10 => ?_)
        refine lv_iconst (v := 1) hx hb dX11_assume_77 (by decide) ?_
        refine lv_goto (tgt := 82) hx hb dX11_assume_78 (by decide) ?_
        refine lv_iadd hx hb dX11_assume_82 ?_
        refine pv_setI 1 (by decide) ?_
        refine lv_istore_n (lv' := [(3, .int 1), (4, .int 0), (0, .ref h0), (1, .int 0), (2, .int p1)]) hx hb dX11_assume_83 rfl hl (by decide) rfl (fun ls hl => ?_)
        refine lv_iinc (v := 1) (lv' := [(4, .int 1), (3, .int 1), (0, .ref h0), (1, .int 0), (2, .int p1)]) hx hb dX11_assume_84 hl (k := 1) rfl (by decide) (by decide) rfl (fun ls hl => ?_)
        refine lv_goto (tgt := 34) hx hb dX11_assume_87 (by decide) ?_
        refine lv_iload hx hb dX11_assume_34 (lv_at hl 0 rfl) ?_
        refine lv_iconst (v := 3) hx hb dX11_assume_36 (by decide) ?_
        refine lv_icmp_ge (tgt := 90) hx hb dX11_assume_37 (by decide) (fun c_11 => absurd c_11 (by decide)) (fun _ => ?_)
        refine lv_iload hx hb dX11_assume_40 (lv_at hl 0 rfl) ?_
        refine lv_iload_n hx hb dX11_assume_42 rfl (lv_at hl 3 rfl) ?_
        refine lv_icmp_ne (tgt := 65) hx hb dX11_assume_43 (by decide) (fun _ => ?_) (fun c_12 => absurd c_12 (by decide))
        refine lv_iload_n hx hb dX11_assume_65 rfl (lv_at hl 1 rfl) ?_
        refine lv_aload_n hx hb dX11_assume_66 rfl (lv_at hl 2 rfl) ?_
        refine lv_iload hx hb dX11_assume_67 (lv_at hl 0 rfl) ?_
        have hF := pv_new hA hS.1
        refine va_calli (va_runV (As := [.int 1]) (rest := [.int 1]) ⟨hx, hb, hml, hown, hts⟩ (c_X11_signOf l hfl D _ h0 q cC (upd (sg) (0 : Int32).toNatClampNeg (vp_nar .char p1)) (pv_ch_upd (pv_ch63 hsg) _ hchp) 1) (cwV 1 hts (pv_gV w8_97 w8_99 wp5_2 w1_1 w8_100) rfl rfl rfl (by decide +kernel) ⟨Nat.le_of_ble_eq_true rfl, Nat.le_of_ble_eq_true rfl⟩) (pv_pV hE hS hF (hP.sub [0, 1] rfl) (hK.sub [0] rfl) (hD.sub [0, 1] (by decide) rfl) (va_recv (ci := 0) (q0 := 0) hK hP rfl rfl)) rfl rfl hl.1 rfl (lv_room (Nat.le_of_ble_eq_true rfl)) dX11_assume_69 ⟨Nat.le_of_ble_eq_true rfl, Nat.le_of_ble_eq_true rfl⟩) hS (fun q _ h => hF q h) hF (fun r_12 u t H1 locs1 ht hvm hw hB hz1 hk1 hS => ?_)
        refine W.widen (k := 2) (n := 12) (Nat.le_of_ble_eq_true rfl) (Nat.le_of_ble_eq_true rfl) ?_
        have hP := pv_keep hP rfl hk1
        have hw : r_12 = 63 := hw.elim (fun h => h.2.trans ((pk_un (by decide)).trans (hsg 1 (by decide)))) (fun h => h.2)
        subst hw
        refine lv_bipush (v := 63) hx hb dX11_assume_72 (by decide) ?_
        refine lv_icmp_eq (tgt := 81) hx hb dX11_assume_74 (by decide) (fun _ => ?_) (fun c_14 => absurd (by decide) c_14)
        refine lv_iconst (v := 0) hx hb dX11_assume_81 (by decide) ?_
        refine lv_iadd hx hb dX11_assume_82 ?_
        refine pv_setI 1 (by decide) ?_
        refine lv_istore_n (lv' := [(3, .int 1), (4, .int 1), (0, .ref h0), (1, .int 0), (2, .int p1)]) hx hb dX11_assume_83 rfl hl (by decide) rfl (fun ls hl => ?_)
        refine lv_iinc (v := 2) (lv' := [(4, .int 2), (3, .int 1), (0, .ref h0), (1, .int 0), (2, .int p1)]) hx hb dX11_assume_84 hl (k := 1) rfl (by decide) (by decide) rfl (fun ls hl => ?_)
        refine lv_goto (tgt := 34) hx hb dX11_assume_87 (by decide) ?_
        refine lv_iload hx hb dX11_assume_34 (lv_at hl 0 rfl) ?_
        refine lv_iconst (v := 3) hx hb dX11_assume_36 (by decide) ?_
        refine lv_icmp_ge (tgt := 90) hx hb dX11_assume_37 (by decide) (fun c_15 => absurd c_15 (by decide)) (fun _ => ?_)
        refine lv_iload hx hb dX11_assume_40 (lv_at hl 0 rfl) ?_
        refine lv_iload_n hx hb dX11_assume_42 rfl (lv_at hl 3 rfl) ?_
        refine lv_icmp_ne (tgt := 65) hx hb dX11_assume_43 (by decide) (fun _ => ?_) (fun c_16 => absurd c_16 (by decide))
        refine lv_iload_n hx hb dX11_assume_65 rfl (lv_at hl 1 rfl) ?_
        refine lv_aload_n hx hb dX11_assume_66 rfl (lv_at hl 2 rfl) ?_
        refine lv_iload hx hb dX11_assume_67 (lv_at hl 0 rfl) ?_
        have hF := pv_new hA hS.1
        refine va_calli (va_runV (As := [.int 2]) (rest := [.int 1]) ⟨hx, hb, hml, hown, hts⟩ (c_X11_signOf l hfl D _ h0 q cC (upd (sg) (0 : Int32).toNatClampNeg (vp_nar .char p1)) (pv_ch_upd (pv_ch63 hsg) _ hchp) 2) (cwV 1 hts (pv_gV w8_97 w8_99 wp5_2 w1_1 w8_100) rfl rfl rfl (by decide +kernel) ⟨Nat.le_of_ble_eq_true rfl, Nat.le_of_ble_eq_true rfl⟩) (pv_pV hE hS hF (hP.sub [0, 1] rfl) (hK.sub [0] rfl) (hD.sub [0, 1] (by decide) rfl) (va_recv (ci := 0) (q0 := 0) hK hP rfl rfl)) rfl rfl hl.1 rfl (lv_room (Nat.le_of_ble_eq_true rfl)) dX11_assume_69 ⟨Nat.le_of_ble_eq_true rfl, Nat.le_of_ble_eq_true rfl⟩) hS (fun q _ h => hF q h) hF (fun r_16 u t H1 locs1 ht hvm hw hB hz1 hk1 hS => ?_)
        refine W.widen (k := 2) (n := 12) (Nat.le_of_ble_eq_true rfl) (Nat.le_of_ble_eq_true rfl) ?_
        have hP := pv_keep hP rfl hk1
        have hw : r_16 = 63 := hw.elim (fun h => h.2.trans ((pk_un (by decide)).trans (hsg 2 (by decide)))) (fun h => h.2)
        subst hw
        refine lv_bipush (v := 63) hx hb dX11_assume_72 (by decide) ?_
        refine lv_icmp_eq (tgt := 81) hx hb dX11_assume_74 (by decide) (fun _ => ?_) (fun c_18 => absurd (by decide) c_18)
        refine lv_iconst (v := 0) hx hb dX11_assume_81 (by decide) ?_
        refine lv_iadd hx hb dX11_assume_82 ?_
        refine pv_setI 1 (by decide) ?_
        refine lv_istore_n (lv' := [(3, .int 1), (4, .int 2), (0, .ref h0), (1, .int 0), (2, .int p1)]) hx hb dX11_assume_83 rfl hl (by decide) rfl (fun ls hl => ?_)
        refine lv_iinc (v := 3) (lv' := [(4, .int 3), (3, .int 1), (0, .ref h0), (1, .int 0), (2, .int p1)]) hx hb dX11_assume_84 hl (k := 1) rfl (by decide) (by decide) rfl (fun ls hl => ?_)
        refine lv_goto (tgt := 34) hx hb dX11_assume_87 (by decide) ?_
        refine lv_iload hx hb dX11_assume_34 (lv_at hl 0 rfl) ?_
        refine lv_iconst (v := 3) hx hb dX11_assume_36 (by decide) ?_
        refine lv_icmp_ge (tgt := 90) hx hb dX11_assume_37 (by decide) (fun _ => ?_) (fun c_19 => absurd (by decide) c_19)
        refine lv_iload_n hx hb dX11_assume_90 rfl (lv_at hl 1 rfl) ?_
        refine vx_ret ?_
        refine W.widen (k := 2) (n := 12) (Nat.le_of_ble_eq_true rfl) (Nat.le_of_ble_eq_true rfl) ?_
        exact W.iret (v := 1) hx hb hr (fun t ht hW => ⟨⟨1, (), rfl, ⟨rfl, hok⟩, trivial⟩, hS.F ht⟩) hS.2.2 dX11_assume_91
      · refine lv_bipush (v := 63) hx hb dX11_assume_13 (by decide) ?_
        refine lv_icmp_eq (tgt := 29) hx hb dX11_assume_15 (by decide) (fun _ => ?_) (fun c_20 => absurd (by decide) c_20)
        refine lv_iconst (v := 0) hx hb dX11_assume_29 (by decide) ?_
        refine lv_istore_n (lv' := [(3, .int 0), (0, .ref h0), (1, .int 1), (2, .int p1)]) hx hb dX11_assume_30 rfl hl (by decide) rfl (fun ls hl => ?_)
        refine lv_iconst (v := 0) hx hb dX11_assume_31 (by decide) ?_
        refine lv_istore (lv' := [(4, .int 0), (3, .int 0), (0, .ref h0), (1, .int 1), (2, .int p1)]) hx hb dX11_assume_32 hl (by decide) rfl (fun ls hl => ?_)
        refine lv_iload hx hb dX11_assume_34 (lv_at hl 0 rfl) ?_
        refine lv_iconst (v := 3) hx hb dX11_assume_36 (by decide) ?_
        refine lv_icmp_ge (tgt := 90) hx hb dX11_assume_37 (by decide) (fun c_21 => absurd c_21 (by decide)) (fun _ => ?_)
        refine lv_iload hx hb dX11_assume_40 (lv_at hl 0 rfl) ?_
        refine lv_iload_n hx hb dX11_assume_42 rfl (lv_at hl 3 rfl) ?_
        refine lv_icmp_ne (tgt := 65) hx hb dX11_assume_43 (by decide) (fun _ => ?_) (fun c_22 => absurd c_22 (by decide))
        refine lv_iload_n hx hb dX11_assume_65 rfl (lv_at hl 1 rfl) ?_
        refine lv_aload_n hx hb dX11_assume_66 rfl (lv_at hl 2 rfl) ?_
        refine lv_iload hx hb dX11_assume_67 (lv_at hl 0 rfl) ?_
        have hF := pv_new hA hS.1
        refine va_calli (va_runV (As := [.int 0]) (rest := [.int 0]) ⟨hx, hb, hml, hown, hts⟩ (c_X11_signOf l hfl D _ h0 q cC sg (pv_ch63 hsg) 0) (cwV 1 hts (pv_gV w8_97 w8_99 wp5_2 w1_1 w8_100) rfl rfl rfl (by decide +kernel) ⟨Nat.le_of_ble_eq_true rfl, Nat.le_of_ble_eq_true rfl⟩) (pv_pV hE hS hF (hP.sub [0, 1] rfl) (hK.sub [0] rfl) (hD.sub [0, 1] (by decide) rfl) (va_recv (ci := 0) (q0 := 0) hK hP rfl rfl)) rfl rfl hl.1 rfl (lv_room (Nat.le_of_ble_eq_true rfl)) dX11_assume_69 ⟨Nat.le_of_ble_eq_true rfl, Nat.le_of_ble_eq_true rfl⟩) hS (fun q _ h => hF q h) hF (fun r_22 u t H1 locs1 ht hvm hw hB hz1 hk1 hS => ?_)
        refine W.widen (k := 2) (n := 12) (Nat.le_of_ble_eq_true rfl) (Nat.le_of_ble_eq_true rfl) ?_
        have hP := pv_keep hP rfl hk1
        have hw : r_22 = 63 := hw.elim (fun h => h.2.trans (hsg 0 (by decide))) (fun h => h.2)
        subst hw
        refine lv_bipush (v := 63) hx hb dX11_assume_72 (by decide) ?_
        refine lv_icmp_eq (tgt := 81) hx hb dX11_assume_74 (by decide) (fun _ => ?_) (fun c_24 => absurd (by decide) c_24)
        refine lv_iconst (v := 0) hx hb dX11_assume_81 (by decide) ?_
        refine lv_iadd hx hb dX11_assume_82 ?_
        refine pv_setI 0 (by decide) ?_
        refine lv_istore_n (lv' := [(3, .int 0), (4, .int 0), (0, .ref h0), (1, .int 1), (2, .int p1)]) hx hb dX11_assume_83 rfl hl (by decide) rfl (fun ls hl => ?_)
        refine lv_iinc (v := 1) (lv' := [(4, .int 1), (3, .int 0), (0, .ref h0), (1, .int 1), (2, .int p1)]) hx hb dX11_assume_84 hl (k := 1) rfl (by decide) (by decide) rfl (fun ls hl => ?_)
        refine lv_goto (tgt := 34) hx hb dX11_assume_87 (by decide) ?_
        refine lv_iload hx hb dX11_assume_34 (lv_at hl 0 rfl) ?_
        refine lv_iconst (v := 3) hx hb dX11_assume_36 (by decide) ?_
        refine lv_icmp_ge (tgt := 90) hx hb dX11_assume_37 (by decide) (fun c_25 => absurd c_25 (by decide)) (fun _ => ?_)
        refine lv_iload hx hb dX11_assume_40 (lv_at hl 0 rfl) ?_
        refine lv_iload_n hx hb dX11_assume_42 rfl (lv_at hl 3 rfl) ?_
        refine lv_icmp_ne (tgt := 65) hx hb dX11_assume_43 (by decide) (fun c_26 => absurd (by decide) c_26) (fun _ => ?_)
        refine lv_aload_n hx hb dX11_assume_46 rfl (lv_at hl 2 rfl) ?_
        refine va_get (own := RX11) (D := D) (ci := 0) (v := .ref (q 3)) (C := RX11) (T := TX11) (N := 15) hx hb hts inF11 hown hK hP 0 rfl rfl 7 (by decide) (hg w2_44 rfl) (fun _ h9 => h9) rfl dX11_assume_47 ?_
        refine lv_iload hx hb dX11_assume_50 (lv_at hl 0 rfl) ?_
        refine lv_iload_n hx hb dX11_assume_52 rfl (lv_at hl 4 rfl) ?_
        refine va_cast hx hb hK hP hD hS 1 0 rfl rfl (by unfold vp_in; decide) dX11_assume_53 (fun H locs hP hD hS => ?_)
        have hP : va_P D pv_cl [(h0, .inr (0, [.ref (q 0), .int 0, .int 108, .ref (q 1), .int 0, .ref (q 2), .int 0, .ref (q 3), .ref (q 4), .int 1, .ref (q 5), .ref (q 6), .ref (q 7), .ref (q 8), .ref (q 9)])), ((q 3), .inl (cC, 3, .inl (upd (sg) (1 : Int32).toNatClampNeg (vp_nar .char p1)))), ((q 4), .inl (cI, 3, .inl sf))] _ := hP
        have hD : va_D A [(h0, .inr (0, [.ref (q 0), .int 0, .int 108, .ref (q 1), .int 0, .ref (q 2), .int 0, .ref (q 3), .ref (q 4), .int 1, .ref (q 5), .ref (q 6), .ref (q 7), .ref (q 8), .ref (q 9)])), ((q 3), .inl (cC, 3, .inl (upd (sg) (1 : Int32).toNatClampNeg (vp_nar .char p1)))), ((q 4), .inl (cI, 3, .inl sf))] := hD
        refine lv_aload_n hx hb dX11_assume_54 rfl (lv_at hl 2 rfl) ?_
        refine va_get (own := RX11) (D := D) (ci := 0) (v := .ref (q 4)) (C := RX11) (T := TX11) (N := 15) hx hb hts inF11 hown hK hP 0 rfl rfl 8 (by decide) (hg w2_45 rfl) (fun _ h9 => h9) rfl dX11_assume_55 ?_
        refine lv_iload hx hb dX11_assume_58 (lv_at hl 0 rfl) ?_
        refine lv_aload_n hx hb dX11_assume_60 rfl (lv_at hl 2 rfl) ?_
        refine va_get (own := RX11) (D := D) (ci := 0) (v := .int 1) (C := RX11) (T := TX11) (N := 15) hx hb hts inF11 hown hK hP 0 rfl rfl 9 (by decide) (hg w2_46 rfl) (fun _ h9 => h9) rfl dX11_assume_61 ?_
        refine va_iast hx hb hK hP hD hS 2 1 rfl rfl (by unfold vp_in; decide) dX11_assume_64 (fun H locs hP hD hS => ?_)
        have hP : va_P D pv_cl [(h0, .inr (0, [.ref (q 0), .int 0, .int 108, .ref (q 1), .int 0, .ref (q 2), .int 0, .ref (q 3), .ref (q 4), .int 1, .ref (q 5), .ref (q 6), .ref (q 7), .ref (q 8), .ref (q 9)])), ((q 3), .inl (cC, 3, .inl (upd (sg) (1 : Int32).toNatClampNeg (vp_nar .char p1)))), ((q 4), .inl (cI, 3, .inl (upd (sf) (1 : Int32).toNatClampNeg 1)))] _ := hP
        have hD : va_D A [(h0, .inr (0, [.ref (q 0), .int 0, .int 108, .ref (q 1), .int 0, .ref (q 2), .int 0, .ref (q 3), .ref (q 4), .int 1, .ref (q 5), .ref (q 6), .ref (q 7), .ref (q 8), .ref (q 9)])), ((q 3), .inl (cC, 3, .inl (upd (sg) (1 : Int32).toNatClampNeg (vp_nar .char p1)))), ((q 4), .inl (cI, 3, .inl (upd (sf) (1 : Int32).toNatClampNeg 1)))] := hD
        refine lv_iload_n hx hb dX11_assume_65 rfl (lv_at hl 1 rfl) ?_
        refine lv_aload_n hx hb dX11_assume_66 rfl (lv_at hl 2 rfl) ?_
        refine lv_iload hx hb dX11_assume_67 (lv_at hl 0 rfl) ?_
        have hF := pv_new hA hS.1
        refine va_calli (va_runV (As := [.int 1]) (rest := [.int 0]) ⟨hx, hb, hml, hown, hts⟩ (c_X11_signOf l hfl D _ h0 q cC (upd (sg) (1 : Int32).toNatClampNeg (vp_nar .char p1)) (pv_ch_upd (pv_ch63 hsg) _ hchp) 1) (cwV 1 hts (pv_gV w8_97 w8_99 wp5_2 w1_1 w8_100) rfl rfl rfl (by decide +kernel) ⟨Nat.le_of_ble_eq_true rfl, Nat.le_of_ble_eq_true rfl⟩) (pv_pV hE hS hF (hP.sub [0, 1] rfl) (hK.sub [0] rfl) (hD.sub [0, 1] (by decide) rfl) (va_recv (ci := 0) (q0 := 0) hK hP rfl rfl)) rfl rfl hl.1 rfl (lv_room (Nat.le_of_ble_eq_true rfl)) dX11_assume_69 ⟨Nat.le_of_ble_eq_true rfl, Nat.le_of_ble_eq_true rfl⟩) hS (fun q _ h => hF q h) hF (fun r_26 u t H1 locs1 ht hvm hw hB hz1 hk1 hS => ?_)
        refine W.widen (k := 2) (n := 12) (Nat.le_of_ble_eq_true rfl) (Nat.le_of_ble_eq_true rfl) ?_
        have hP := pv_keep hP rfl hk1
        have hw : r_26 = vp_nar .char p1 := hw.elim (fun h => h.2.trans pk_us) (fun h => absurd ⟨by decide, by decide⟩ h.1)
        subst hw
        refine lv_bipush (v := 63) hx hb dX11_assume_72 (by decide) ?_
        refine lv_icmp_eq (tgt := 81) hx hb dX11_assume_74 (by decide) (fun c_28 => absurd c_28 hsn) (fun c_28 => ?_)
        refine lv_iconst (v := 1) hx hb dX11_assume_77 (by decide) ?_
        refine lv_goto (tgt := 82) hx hb dX11_assume_78 (by decide) ?_
        refine lv_iadd hx hb dX11_assume_82 ?_
        refine pv_setI 1 (by decide) ?_
        refine lv_istore_n (lv' := [(3, .int 1), (4, .int 1), (0, .ref h0), (1, .int 1), (2, .int p1)]) hx hb dX11_assume_83 rfl hl (by decide) rfl (fun ls hl => ?_)
        refine lv_iinc (v := 2) (lv' := [(4, .int 2), (3, .int 1), (0, .ref h0), (1, .int 1), (2, .int p1)]) hx hb dX11_assume_84 hl (k := 1) rfl (by decide) (by decide) rfl (fun ls hl => ?_)
        refine lv_goto (tgt := 34) hx hb dX11_assume_87 (by decide) ?_
        refine lv_iload hx hb dX11_assume_34 (lv_at hl 0 rfl) ?_
        refine lv_iconst (v := 3) hx hb dX11_assume_36 (by decide) ?_
        refine lv_icmp_ge (tgt := 90) hx hb dX11_assume_37 (by decide) (fun c_29 => absurd c_29 (by decide)) (fun _ => ?_)
        refine lv_iload hx hb dX11_assume_40 (lv_at hl 0 rfl) ?_
        refine lv_iload_n hx hb dX11_assume_42 rfl (lv_at hl 3 rfl) ?_
        refine lv_icmp_ne (tgt := 65) hx hb dX11_assume_43 (by decide) (fun _ => ?_) (fun c_30 => absurd c_30 (by decide))
        refine lv_iload_n hx hb dX11_assume_65 rfl (lv_at hl 1 rfl) ?_
        refine lv_aload_n hx hb dX11_assume_66 rfl (lv_at hl 2 rfl) ?_
        refine lv_iload hx hb dX11_assume_67 (lv_at hl 0 rfl) ?_
        have hF := pv_new hA hS.1
        refine va_calli (va_runV (As := [.int 2]) (rest := [.int 1]) ⟨hx, hb, hml, hown, hts⟩ (c_X11_signOf l hfl D _ h0 q cC (upd (sg) (1 : Int32).toNatClampNeg (vp_nar .char p1)) (pv_ch_upd (pv_ch63 hsg) _ hchp) 2) (cwV 1 hts (pv_gV w8_97 w8_99 wp5_2 w1_1 w8_100) rfl rfl rfl (by decide +kernel) ⟨Nat.le_of_ble_eq_true rfl, Nat.le_of_ble_eq_true rfl⟩) (pv_pV hE hS hF (hP.sub [0, 1] rfl) (hK.sub [0] rfl) (hD.sub [0, 1] (by decide) rfl) (va_recv (ci := 0) (q0 := 0) hK hP rfl rfl)) rfl rfl hl.1 rfl (lv_room (Nat.le_of_ble_eq_true rfl)) dX11_assume_69 ⟨Nat.le_of_ble_eq_true rfl, Nat.le_of_ble_eq_true rfl⟩) hS (fun q _ h => hF q h) hF (fun r_30 u t H1 locs1 ht hvm hw hB hz1 hk1 hS => ?_)
        refine W.widen (k := 2) (n := 12) (Nat.le_of_ble_eq_true rfl) (Nat.le_of_ble_eq_true rfl) ?_
        have hP := pv_keep hP rfl hk1
        have hw : r_30 = 63 := hw.elim (fun h => h.2.trans ((pk_un (by decide)).trans (hsg 2 (by decide)))) (fun h => h.2)
        subst hw
        refine lv_bipush (v := 63) hx hb dX11_assume_72 (by decide) ?_
        refine lv_icmp_eq (tgt := 81) hx hb dX11_assume_74 (by decide) (fun _ => ?_) (fun c_32 => absurd (by decide) c_32)
        refine lv_iconst (v := 0) hx hb dX11_assume_81 (by decide) ?_
        refine lv_iadd hx hb dX11_assume_82 ?_
        refine pv_setI 1 (by decide) ?_
        refine lv_istore_n (lv' := [(3, .int 1), (4, .int 2), (0, .ref h0), (1, .int 1), (2, .int p1)]) hx hb dX11_assume_83 rfl hl (by decide) rfl (fun ls hl => ?_)
        refine lv_iinc (v := 3) (lv' := [(4, .int 3), (3, .int 1), (0, .ref h0), (1, .int 1), (2, .int p1)]) hx hb dX11_assume_84 hl (k := 1) rfl (by decide) (by decide) rfl (fun ls hl => ?_)
        refine lv_goto (tgt := 34) hx hb dX11_assume_87 (by decide) ?_
        refine lv_iload hx hb dX11_assume_34 (lv_at hl 0 rfl) ?_
        refine lv_iconst (v := 3) hx hb dX11_assume_36 (by decide) ?_
        refine lv_icmp_ge (tgt := 90) hx hb dX11_assume_37 (by decide) (fun _ => ?_) (fun c_33 => absurd (by decide) c_33)
        refine lv_iload_n hx hb dX11_assume_90 rfl (lv_at hl 1 rfl) ?_
        refine vx_ret ?_
        refine W.widen (k := 2) (n := 12) (Nat.le_of_ble_eq_true rfl) (Nat.le_of_ble_eq_true rfl) ?_
        exact W.iret (v := 1) hx hb hr (fun t ht hW => ⟨⟨1, (), rfl, ⟨rfl, hok⟩, trivial⟩, hS.F ht⟩) hS.2.2 dX11_assume_91
      · refine lv_bipush (v := 63) hx hb dX11_assume_13 (by decide) ?_
        refine lv_icmp_eq (tgt := 29) hx hb dX11_assume_15 (by decide) (fun _ => ?_) (fun c_34 => absurd (by decide) c_34)
        refine lv_iconst (v := 0) hx hb dX11_assume_29 (by decide) ?_
        refine lv_istore_n (lv' := [(3, .int 0), (0, .ref h0), (1, .int 2), (2, .int p1)]) hx hb dX11_assume_30 rfl hl (by decide) rfl (fun ls hl => ?_)
        refine lv_iconst (v := 0) hx hb dX11_assume_31 (by decide) ?_
        refine lv_istore (lv' := [(4, .int 0), (3, .int 0), (0, .ref h0), (1, .int 2), (2, .int p1)]) hx hb dX11_assume_32 hl (by decide) rfl (fun ls hl => ?_)
        refine lv_iload hx hb dX11_assume_34 (lv_at hl 0 rfl) ?_
        refine lv_iconst (v := 3) hx hb dX11_assume_36 (by decide) ?_
        refine lv_icmp_ge (tgt := 90) hx hb dX11_assume_37 (by decide) (fun c_35 => absurd c_35 (by decide)) (fun _ => ?_)
        refine lv_iload hx hb dX11_assume_40 (lv_at hl 0 rfl) ?_
        refine lv_iload_n hx hb dX11_assume_42 rfl (lv_at hl 3 rfl) ?_
        refine lv_icmp_ne (tgt := 65) hx hb dX11_assume_43 (by decide) (fun _ => ?_) (fun c_36 => absurd c_36 (by decide))
        refine lv_iload_n hx hb dX11_assume_65 rfl (lv_at hl 1 rfl) ?_
        refine lv_aload_n hx hb dX11_assume_66 rfl (lv_at hl 2 rfl) ?_
        refine lv_iload hx hb dX11_assume_67 (lv_at hl 0 rfl) ?_
        have hF := pv_new hA hS.1
        refine va_calli (va_runV (As := [.int 0]) (rest := [.int 0]) ⟨hx, hb, hml, hown, hts⟩ (c_X11_signOf l hfl D _ h0 q cC sg (pv_ch63 hsg) 0) (cwV 1 hts (pv_gV w8_97 w8_99 wp5_2 w1_1 w8_100) rfl rfl rfl (by decide +kernel) ⟨Nat.le_of_ble_eq_true rfl, Nat.le_of_ble_eq_true rfl⟩) (pv_pV hE hS hF (hP.sub [0, 1] rfl) (hK.sub [0] rfl) (hD.sub [0, 1] (by decide) rfl) (va_recv (ci := 0) (q0 := 0) hK hP rfl rfl)) rfl rfl hl.1 rfl (lv_room (Nat.le_of_ble_eq_true rfl)) dX11_assume_69 ⟨Nat.le_of_ble_eq_true rfl, Nat.le_of_ble_eq_true rfl⟩) hS (fun q _ h => hF q h) hF (fun r_36 u t H1 locs1 ht hvm hw hB hz1 hk1 hS => ?_)
        refine W.widen (k := 2) (n := 12) (Nat.le_of_ble_eq_true rfl) (Nat.le_of_ble_eq_true rfl) ?_
        have hP := pv_keep hP rfl hk1
        have hw : r_36 = 63 := hw.elim (fun h => h.2.trans (hsg 0 (by decide))) (fun h => h.2)
        subst hw
        refine lv_bipush (v := 63) hx hb dX11_assume_72 (by decide) ?_
        refine lv_icmp_eq (tgt := 81) hx hb dX11_assume_74 (by decide) (fun _ => ?_) (fun c_38 => absurd (by decide) c_38)
        refine lv_iconst (v := 0) hx hb dX11_assume_81 (by decide) ?_
        refine lv_iadd hx hb dX11_assume_82 ?_
        refine pv_setI 0 (by decide) ?_
        refine lv_istore_n (lv' := [(3, .int 0), (4, .int 0), (0, .ref h0), (1, .int 2), (2, .int p1)]) hx hb dX11_assume_83 rfl hl (by decide) rfl (fun ls hl => ?_)
        refine lv_iinc (v := 1) (lv' := [(4, .int 1), (3, .int 0), (0, .ref h0), (1, .int 2), (2, .int p1)]) hx hb dX11_assume_84 hl (k := 1) rfl (by decide) (by decide) rfl (fun ls hl => ?_)
        refine lv_goto (tgt := 34) hx hb dX11_assume_87 (by decide) ?_
        refine lv_iload hx hb dX11_assume_34 (lv_at hl 0 rfl) ?_
        refine lv_iconst (v := 3) hx hb dX11_assume_36 (by decide) ?_
        refine lv_icmp_ge (tgt := 90) hx hb dX11_assume_37 (by decide) (fun c_39 => absurd c_39 (by decide)) (fun _ => ?_)
        refine lv_iload hx hb dX11_assume_40 (lv_at hl 0 rfl) ?_
        refine lv_iload_n hx hb dX11_assume_42 rfl (lv_at hl 3 rfl) ?_
        refine lv_icmp_ne (tgt := 65) hx hb dX11_assume_43 (by decide) (fun _ => ?_) (fun c_40 => absurd c_40 (by decide))
        refine lv_iload_n hx hb dX11_assume_65 rfl (lv_at hl 1 rfl) ?_
        refine lv_aload_n hx hb dX11_assume_66 rfl (lv_at hl 2 rfl) ?_
        refine lv_iload hx hb dX11_assume_67 (lv_at hl 0 rfl) ?_
        have hF := pv_new hA hS.1
        refine va_calli (va_runV (As := [.int 1]) (rest := [.int 0]) ⟨hx, hb, hml, hown, hts⟩ (c_X11_signOf l hfl D _ h0 q cC sg (pv_ch63 hsg) 1) (cwV 1 hts (pv_gV w8_97 w8_99 wp5_2 w1_1 w8_100) rfl rfl rfl (by decide +kernel) ⟨Nat.le_of_ble_eq_true rfl, Nat.le_of_ble_eq_true rfl⟩) (pv_pV hE hS hF (hP.sub [0, 1] rfl) (hK.sub [0] rfl) (hD.sub [0, 1] (by decide) rfl) (va_recv (ci := 0) (q0 := 0) hK hP rfl rfl)) rfl rfl hl.1 rfl (lv_room (Nat.le_of_ble_eq_true rfl)) dX11_assume_69 ⟨Nat.le_of_ble_eq_true rfl, Nat.le_of_ble_eq_true rfl⟩) hS (fun q _ h => hF q h) hF (fun r_40 u t H1 locs1 ht hvm hw hB hz1 hk1 hS => ?_)
        refine W.widen (k := 2) (n := 12) (Nat.le_of_ble_eq_true rfl) (Nat.le_of_ble_eq_true rfl) ?_
        have hP := pv_keep hP rfl hk1
        have hw : r_40 = 63 := hw.elim (fun h => h.2.trans (hsg 1 (by decide))) (fun h => h.2)
        subst hw
        refine lv_bipush (v := 63) hx hb dX11_assume_72 (by decide) ?_
        refine lv_icmp_eq (tgt := 81) hx hb dX11_assume_74 (by decide) (fun _ => ?_) (fun c_42 => absurd (by decide) c_42)
        refine lv_iconst (v := 0) hx hb dX11_assume_81 (by decide) ?_
        refine lv_iadd hx hb dX11_assume_82 ?_
        refine pv_setI 0 (by decide) ?_
        refine lv_istore_n (lv' := [(3, .int 0), (4, .int 1), (0, .ref h0), (1, .int 2), (2, .int p1)]) hx hb dX11_assume_83 rfl hl (by decide) rfl (fun ls hl => ?_)
        refine lv_iinc (v := 2) (lv' := [(4, .int 2), (3, .int 0), (0, .ref h0), (1, .int 2), (2, .int p1)]) hx hb dX11_assume_84 hl (k := 1) rfl (by decide) (by decide) rfl (fun ls hl => ?_)
        refine lv_goto (tgt := 34) hx hb dX11_assume_87 (by decide) ?_
        refine lv_iload hx hb dX11_assume_34 (lv_at hl 0 rfl) ?_
        refine lv_iconst (v := 3) hx hb dX11_assume_36 (by decide) ?_
        refine lv_icmp_ge (tgt := 90) hx hb dX11_assume_37 (by decide) (fun c_43 => absurd c_43 (by decide)) (fun _ => ?_)
        refine lv_iload hx hb dX11_assume_40 (lv_at hl 0 rfl) ?_
        refine lv_iload_n hx hb dX11_assume_42 rfl (lv_at hl 3 rfl) ?_
        refine lv_icmp_ne (tgt := 65) hx hb dX11_assume_43 (by decide) (fun c_44 => absurd (by decide) c_44) (fun _ => ?_)
        refine lv_aload_n hx hb dX11_assume_46 rfl (lv_at hl 2 rfl) ?_
        refine va_get (own := RX11) (D := D) (ci := 0) (v := .ref (q 3)) (C := RX11) (T := TX11) (N := 15) hx hb hts inF11 hown hK hP 0 rfl rfl 7 (by decide) (hg w2_44 rfl) (fun _ h9 => h9) rfl dX11_assume_47 ?_
        refine lv_iload hx hb dX11_assume_50 (lv_at hl 0 rfl) ?_
        refine lv_iload_n hx hb dX11_assume_52 rfl (lv_at hl 4 rfl) ?_
        refine va_cast hx hb hK hP hD hS 1 0 rfl rfl (by unfold vp_in; decide) dX11_assume_53 (fun H locs hP hD hS => ?_)
        have hP : va_P D pv_cl [(h0, .inr (0, [.ref (q 0), .int 0, .int 108, .ref (q 1), .int 0, .ref (q 2), .int 0, .ref (q 3), .ref (q 4), .int 1, .ref (q 5), .ref (q 6), .ref (q 7), .ref (q 8), .ref (q 9)])), ((q 3), .inl (cC, 3, .inl (upd (sg) (2 : Int32).toNatClampNeg (vp_nar .char p1)))), ((q 4), .inl (cI, 3, .inl sf))] _ := hP
        have hD : va_D A [(h0, .inr (0, [.ref (q 0), .int 0, .int 108, .ref (q 1), .int 0, .ref (q 2), .int 0, .ref (q 3), .ref (q 4), .int 1, .ref (q 5), .ref (q 6), .ref (q 7), .ref (q 8), .ref (q 9)])), ((q 3), .inl (cC, 3, .inl (upd (sg) (2 : Int32).toNatClampNeg (vp_nar .char p1)))), ((q 4), .inl (cI, 3, .inl sf))] := hD
        refine lv_aload_n hx hb dX11_assume_54 rfl (lv_at hl 2 rfl) ?_
        refine va_get (own := RX11) (D := D) (ci := 0) (v := .ref (q 4)) (C := RX11) (T := TX11) (N := 15) hx hb hts inF11 hown hK hP 0 rfl rfl 8 (by decide) (hg w2_45 rfl) (fun _ h9 => h9) rfl dX11_assume_55 ?_
        refine lv_iload hx hb dX11_assume_58 (lv_at hl 0 rfl) ?_
        refine lv_aload_n hx hb dX11_assume_60 rfl (lv_at hl 2 rfl) ?_
        refine va_get (own := RX11) (D := D) (ci := 0) (v := .int 1) (C := RX11) (T := TX11) (N := 15) hx hb hts inF11 hown hK hP 0 rfl rfl 9 (by decide) (hg w2_46 rfl) (fun _ h9 => h9) rfl dX11_assume_61 ?_
        refine va_iast hx hb hK hP hD hS 2 1 rfl rfl (by unfold vp_in; decide) dX11_assume_64 (fun H locs hP hD hS => ?_)
        have hP : va_P D pv_cl [(h0, .inr (0, [.ref (q 0), .int 0, .int 108, .ref (q 1), .int 0, .ref (q 2), .int 0, .ref (q 3), .ref (q 4), .int 1, .ref (q 5), .ref (q 6), .ref (q 7), .ref (q 8), .ref (q 9)])), ((q 3), .inl (cC, 3, .inl (upd (sg) (2 : Int32).toNatClampNeg (vp_nar .char p1)))), ((q 4), .inl (cI, 3, .inl (upd (sf) (2 : Int32).toNatClampNeg 1)))] _ := hP
        have hD : va_D A [(h0, .inr (0, [.ref (q 0), .int 0, .int 108, .ref (q 1), .int 0, .ref (q 2), .int 0, .ref (q 3), .ref (q 4), .int 1, .ref (q 5), .ref (q 6), .ref (q 7), .ref (q 8), .ref (q 9)])), ((q 3), .inl (cC, 3, .inl (upd (sg) (2 : Int32).toNatClampNeg (vp_nar .char p1)))), ((q 4), .inl (cI, 3, .inl (upd (sf) (2 : Int32).toNatClampNeg 1)))] := hD
        refine lv_iload_n hx hb dX11_assume_65 rfl (lv_at hl 1 rfl) ?_
        refine lv_aload_n hx hb dX11_assume_66 rfl (lv_at hl 2 rfl) ?_
        refine lv_iload hx hb dX11_assume_67 (lv_at hl 0 rfl) ?_
        have hF := pv_new hA hS.1
        refine va_calli (va_runV (As := [.int 2]) (rest := [.int 0]) ⟨hx, hb, hml, hown, hts⟩ (c_X11_signOf l hfl D _ h0 q cC (upd (sg) (2 : Int32).toNatClampNeg (vp_nar .char p1)) (pv_ch_upd (pv_ch63 hsg) _ hchp) 2) (cwV 1 hts (pv_gV w8_97 w8_99 wp5_2 w1_1 w8_100) rfl rfl rfl (by decide +kernel) ⟨Nat.le_of_ble_eq_true rfl, Nat.le_of_ble_eq_true rfl⟩) (pv_pV hE hS hF (hP.sub [0, 1] rfl) (hK.sub [0] rfl) (hD.sub [0, 1] (by decide) rfl) (va_recv (ci := 0) (q0 := 0) hK hP rfl rfl)) rfl rfl hl.1 rfl (lv_room (Nat.le_of_ble_eq_true rfl)) dX11_assume_69 ⟨Nat.le_of_ble_eq_true rfl, Nat.le_of_ble_eq_true rfl⟩) hS (fun q _ h => hF q h) hF (fun r_44 u t H1 locs1 ht hvm hw hB hz1 hk1 hS => ?_)
        refine W.widen (k := 2) (n := 12) (Nat.le_of_ble_eq_true rfl) (Nat.le_of_ble_eq_true rfl) ?_
        have hP := pv_keep hP rfl hk1
        have hw : r_44 = vp_nar .char p1 := hw.elim (fun h => h.2.trans pk_us) (fun h => absurd ⟨by decide, by decide⟩ h.1)
        subst hw
        refine lv_bipush (v := 63) hx hb dX11_assume_72 (by decide) ?_
        refine lv_icmp_eq (tgt := 81) hx hb dX11_assume_74 (by decide) (fun c_46 => absurd c_46 hsn) (fun c_46 => ?_)
        refine lv_iconst (v := 1) hx hb dX11_assume_77 (by decide) ?_
        refine lv_goto (tgt := 82) hx hb dX11_assume_78 (by decide) ?_
        refine lv_iadd hx hb dX11_assume_82 ?_
        refine pv_setI 1 (by decide) ?_
        refine lv_istore_n (lv' := [(3, .int 1), (4, .int 2), (0, .ref h0), (1, .int 2), (2, .int p1)]) hx hb dX11_assume_83 rfl hl (by decide) rfl (fun ls hl => ?_)
        refine lv_iinc (v := 3) (lv' := [(4, .int 3), (3, .int 1), (0, .ref h0), (1, .int 2), (2, .int p1)]) hx hb dX11_assume_84 hl (k := 1) rfl (by decide) (by decide) rfl (fun ls hl => ?_)
        refine lv_goto (tgt := 34) hx hb dX11_assume_87 (by decide) ?_
        refine lv_iload hx hb dX11_assume_34 (lv_at hl 0 rfl) ?_
        refine lv_iconst (v := 3) hx hb dX11_assume_36 (by decide) ?_
        refine lv_icmp_ge (tgt := 90) hx hb dX11_assume_37 (by decide) (fun _ => ?_) (fun c_47 => absurd (by decide) c_47)
        refine lv_iload_n hx hb dX11_assume_90 rfl (lv_at hl 1 rfl) ?_
        refine vx_ret ?_
        refine W.widen (k := 2) (n := 12) (Nat.le_of_ble_eq_true rfl) (Nat.le_of_ble_eq_true rfl) ?_
        exact W.iret (v := 1) hx hb hr (fun t ht hW => ⟨⟨1, (), rfl, ⟨rfl, hok⟩, trivial⟩, hS.F ht⟩) hS.2.2 dX11_assume_91

theorem dX7_init_0 : decode cX7_init 0 = .ok (.aload_n 0, 1) := by decide +kernel
theorem dX7_init_1 : decode cX7_init 1 = .ok (.invokespecial 5, 3) := by decide +kernel
theorem w5_35 : (Jvm.Cond.methodLink "Polyforge$Polynomial" (5 : Nat) ({ cls := "java/lang/Object", name := "<init>", desc := "()V" } : Jvm.MethodName)) ∈ lw_tbl := pv_t5 (pv_mg 35 rfl)
theorem w1_36 : (Jvm.Cond.instanceMethod ({ cls := "java/lang/Object", name := "<init>", desc := "()V" } : Jvm.MethodName)) ∈ lw_tbl := pv_t1 (pv_mg 36 rfl)
theorem w1_37 : (Jvm.Cond.code ({ cls := "java/lang/Object", name := "<init>", desc := "()V" } : Jvm.MethodName) object_method_1_code (1 : Nat) (Option.none : Option Jvm.ClassFile.FieldType)) ∈ lw_tbl := pv_t1 (pv_mg 37 rfl)
theorem dX7_init_4 : decode cX7_init 4 = .ok (.aload_n 0, 1) := by decide +kernel
theorem dX7_init_5 : decode cX7_init 5 = .ok (.iload_n 1, 1) := by decide +kernel
theorem dX7_init_6 : decode cX7_init 6 = .ok (.putfield 11, 3) := by decide +kernel
theorem w5_36 : (Jvm.Cond.fieldLink "Polyforge$Polynomial" (11 : Nat) "Polyforge$Polynomial" "ground" "I") ∈ lw_tbl := pv_t5 (pv_mg 36 rfl)
theorem dX7_init_9 : decode cX7_init 9 = .ok (.aload_n 0, 1) := by decide +kernel
theorem dX7_init_10 : decode cX7_init 10 = .ok (.aload_n 2, 1) := by decide +kernel
theorem dX7_init_11 : decode cX7_init 11 = .ok (.putfield 15, 3) := by decide +kernel
theorem w5_41 : (Jvm.Cond.fieldLink "Polyforge$Polynomial" (15 : Nat) "Polyforge$Polynomial" "packed" "[J") ∈ lw_tbl := pv_t5 (pv_mg 41 rfl)
theorem dX7_init_14 : decode cX7_init 14 = .ok (.return_, 1) := by decide +kernel
set_option maxHeartbeats 4000000 in
set_option maxRecDepth 100000 in
/-- Polynomial(ground, packed) -/
theorem c_X7_init (l : Launch) (hfl : l.stackTraces = false) (D : va_G) (sz : Nat) (h0 : Nat) (g0 : Int32) (v0 : Value) (p0 : Int32) (a0 : Nat) : Met l yX7_init (Cond.code yX7_init cX7_init 3 none :: pv_W) ({ frames := 1, cells := 0, slots := 0, locals := 40 } : Room) (va_Pc [.ref h0, .int p0, .ref a0] (pv_P D [] [(h0, .inr (9, [.int g0, v0]))] (va_A [(h0, .inr (9, [.int g0, v0]))] sz) sz)) (va_Qv (fun _ : Unit => True) (fun (_ : Unit) t => va_P D pv_cl [(h0, .inr (9, [.int p0, .ref a0]))] t.heap ∧ va_K D pv_cl [] t ∧ va_D (va_A [(h0, .inr (9, [.int g0, v0]))] sz) [(h0, .inr (9, [.int p0, .ref a0]))]) (va_A [(h0, .inr (9, [.int g0, v0]))] sz)) 0 0 (va_A [(h0, .inr (9, [.int g0, v0]))] sz) := by
  refine Met.ofW (cc := cX7_init) (maxL := 3) (ret := none) (by decide) rfl ?_
  intro p e s m args below meth c s₁ B hml hv
  obtain ⟨rfl, hsz, hE, hP, hK, hD0⟩ := hv
  have hx := B.exec
  have hb := B.bytes
  have hr := B.returns
  have hts := fun (w : Cond) (h : w ∈ pv_W) => atoms_spec (ws := Cond.code yX7_init cX7_init 3 none :: pv_W) B.pre w (List.mem_cons_of_mem _ h)
  have hg := fun {w : Cond} (h : w ∈ lw_tbl) (g : goodWord w = true) => hts w (pv_in h g)
  have hown : s.vm.findClass RX7 = some m.cls := findClass_of_methodNamed B.named
  have hlocks := B.notSynchronized
  have hin : meth.name = "<init>" := (name_of_methodNamed B.named B.method).1
  subst hsz
  have hD := hD0.self (sz := s.heap.size)
  generalize hAe : va_A [(h0, .inr (9, [.int g0, v0]))] s.heap.size = A at hD hE ⊢
  have hA : ∀ q : Nat, s.heap.size ≤ q → A q := fun q h => by rw [← hAe]; exact Or.inr h
  have hS : va_S A s.heap s.heap [] := va_S.rf
  have hP : va_P D pv_cl [(h0, .inr (9, [.int g0, v0]))] s.heap := hP
  have hl := lv_entry ([.ref h0, .int p0, .ref a0]) (n := 3) (Nat.le_of_ble_eq_true rfl)
  rw [lg_entry_eq]
  generalize (lg_sl ([.ref h0, .int p0, .ref a0]) ++ List.replicate (3 - (lg_sl ([.ref h0, .int p0, .ref a0])).length) Slot.unset).toArray = ls at hl ⊢
  have hl : lv_has ls 3 [(0, .ref h0), (1, .int p0), (2, .ref a0)] := hl
  refine lv_aload_n hx hb dX7_init_0 rfl (lv_at hl 0 rfl) ?_
  refine W.objInit (own := RX7) hx hb hown (hg w5_35 rfl) (hg w1_36 rfl) (hg w1_37 rfl) rfl (hl.1.trans hml.symm) (rest := []) rfl dX7_init_1 (Nat.le_of_ble_eq_true rfl) (Nat.le_of_ble_eq_true rfl) ?_
  refine lv_aload_n hx hb dX7_init_4 rfl (lv_at hl 0 rfl) ?_
  refine lv_iload_n hx hb dX7_init_5 rfl (lv_at hl 1 rfl) ?_
  refine va_putF (own := RX7) (D := D) (ci := 9) (v := .int p0) (ty := .int) (C := RX7) (T := TX7) (N := 2) hx hb hts inF7 tyX7 tyX7_ok nmX7 hown hK hP hD hS 0 rfl rfl 0 (by decide) (hg w5_36 rfl) (fun _ h9 => h9) rfl hin rfl (by decide +kernel) rfl rfl (Nat.le_of_ble_eq_true rfl) dX7_init_6 (fun H locs hP hD hS => ?_)
  have hP : va_P D pv_cl [(h0, .inr (9, [.int p0, v0]))] _ := hP
  have hD : va_D A [(h0, .inr (9, [.int p0, v0]))] := hD
  refine lv_aload_n hx hb dX7_init_9 rfl (lv_at hl 0 rfl) ?_
  refine lv_aload_n hx hb dX7_init_10 rfl (lv_at hl 2 rfl) ?_
  refine va_putF (own := RX7) (D := D) (ci := 9) (v := .ref a0) (ty := .array .long) (C := RX7) (T := TX7) (N := 2) hx hb hts inF7 tyX7 tyX7_ok nmX7 hown hK hP hD hS 0 rfl rfl 1 (by decide) (hg w5_41 rfl) (fun _ h9 => h9) rfl hin rfl (by decide +kernel) rfl rfl (Nat.le_of_ble_eq_true rfl) dX7_init_11 (fun H locs hP hD hS => ?_)
  have hP : va_P D pv_cl [(h0, .inr (9, [.int p0, .ref a0]))] _ := hP
  have hD : va_D A [(h0, .inr (9, [.int p0, .ref a0]))] := hD
  refine W.widen (k := 0) (n := 0) (Nat.le_of_ble_eq_true rfl) (Nat.le_of_ble_eq_true rfl) ?_
  exact W.vret hx hb hr (fun t ht hW => ⟨⟨(), rfl, trivial, (by rw [ht]; exact hP.sub [0] rfl), va_K.moved hW.alike (hK.sub [] rfl), hD.sub [0] (by decide) rfl⟩, hS.F ht⟩) hS.2.2 dX7_init_14

theorem dX4_init_0 : decode cX4_init 0 = .ok (.aload_n 0, 1) := by decide +kernel
theorem dX4_init_1 : decode cX4_init 1 = .ok (.invokespecial 3, 3) := by decide +kernel
theorem w7_155 : (Jvm.Cond.methodLink "Polyforge$Ideal" (3 : Nat) ({ cls := "java/lang/Object", name := "<init>", desc := "()V" } : Jvm.MethodName)) ∈ lw_tbl := pv_t7 (pv_mg 155 rfl)
theorem dX4_init_4 : decode cX4_init 4 = .ok (.aload_n 0, 1) := by decide +kernel
theorem dX4_init_5 : decode cX4_init 5 = .ok (.iconst 3, 1) := by decide +kernel
theorem dX4_init_6 : decode cX4_init 6 = .ok (.anewarray 9, 3) := by decide +kernel
theorem w7_156 : (Jvm.Cond.classLink "Polyforge$Ideal" (9 : Nat) "Polyforge$Polynomial") ∈ lw_tbl := pv_t7 (pv_mg 156 rfl)
theorem dX4_init_9 : decode cX4_init 9 = .ok (.putfield 11, 3) := by decide +kernel
theorem w7_160 : (Jvm.Cond.fieldLink "Polyforge$Ideal" (11 : Nat) "Polyforge$Ideal" "generators" "[LPolyforge$Polynomial;") ∈ lw_tbl := pv_t7 (pv_mg 160 rfl)
theorem dX4_init_12 : decode cX4_init 12 = .ok (.aload_n 0, 1) := by decide +kernel
theorem dX4_init_13 : decode cX4_init 13 = .ok (.iconst 0, 1) := by decide +kernel
theorem dX4_init_14 : decode cX4_init 14 = .ok (.putfield 17, 3) := by decide +kernel
theorem w7_161 : (Jvm.Cond.fieldLink "Polyforge$Ideal" (17 : Nat) "Polyforge$Ideal" "generatorCount" "I") ∈ lw_tbl := pv_t7 (pv_mg 161 rfl)
theorem dX4_init_17 : decode cX4_init 17 = .ok (.aload_n 0, 1) := by decide +kernel
theorem dX4_init_18 : decode cX4_init 18 = .ok (.aconst_null, 1) := by decide +kernel
theorem dX4_init_19 : decode cX4_init 19 = .ok (.putfield 21, 3) := by decide +kernel
theorem w7_164 : (Jvm.Cond.fieldLink "Polyforge$Ideal" (21 : Nat) "Polyforge$Ideal" "basisInL" "LPolyforge$Stock;") ∈ lw_tbl := pv_t7 (pv_mg 164 rfl)
theorem dX4_init_22 : decode cX4_init 22 = .ok (.aload_n 0, 1) := by decide +kernel
theorem dX4_init_23 : decode cX4_init 23 = .ok (.aconst_null, 1) := by decide +kernel
theorem dX4_init_24 : decode cX4_init 24 = .ok (.putfield 25, 3) := by decide +kernel
theorem w7_166 : (Jvm.Cond.fieldLink "Polyforge$Ideal" (25 : Nat) "Polyforge$Ideal" "basisInD" "LPolyforge$Stock;") ∈ lw_tbl := pv_t7 (pv_mg 166 rfl)
theorem dX4_init_27 : decode cX4_init 27 = .ok (.aload_n 0, 1) := by decide +kernel
theorem dX4_init_28 : decode cX4_init 28 = .ok (.aconst_null, 1) := by decide +kernel
theorem dX4_init_29 : decode cX4_init 29 = .ok (.putfield 28, 3) := by decide +kernel
theorem w7_168 : (Jvm.Cond.fieldLink "Polyforge$Ideal" (28 : Nat) "Polyforge$Ideal" "basisInR" "LPolyforge$Stock;") ∈ lw_tbl := pv_t7 (pv_mg 168 rfl)
theorem dX4_init_32 : decode cX4_init 32 = .ok (.aload_n 0, 1) := by decide +kernel
theorem dX4_init_33 : decode cX4_init 33 = .ok (.iload_n 1, 1) := by decide +kernel
theorem dX4_init_34 : decode cX4_init 34 = .ok (.putfield 31, 3) := by decide +kernel
theorem w7_157 : (Jvm.Cond.fieldLink "Polyforge$Ideal" (31 : Nat) "Polyforge$Ideal" "prime" "I") ∈ lw_tbl := pv_t7 (pv_mg 157 rfl)
theorem dX4_init_37 : decode cX4_init 37 = .ok (.return_, 1) := by decide +kernel
set_option maxHeartbeats 4000000 in
set_option maxRecDepth 100000 in
/-- Ideal(prime) -/
theorem c_X4_init (l : Launch) (hfl : l.stackTraces = false) (D : va_G) (sz : Nat) (h0 : Nat) (p0 : Int32) : Met l yX4_init (Cond.code yX4_init cX4_init 2 none :: pv_W) ({ frames := 1, cells := 1, slots := 3, locals := 40 } : Room) (va_Pc [.ref h0, .int p0] (pv_P D [] [(h0, .inr (10, [.int 0, .null, .int 0, .null, .null, .null]))] (va_A [(h0, .inr (10, [.int 0, .null, .int 0, .null, .null, .null]))] sz) sz)) (va_Qv (fun _ : Unit => True) (fun (_ : Unit) t => ∃ a : Nat, va_P D pv_cl [(h0, .inr (10, [.int p0, .ref a, .int 0, .null, .null, .null]))] t.heap ∧ va_K D pv_cl [] t ∧ va_D (va_A [(h0, .inr (10, [.int 0, .null, .int 0, .null, .null, .null]))] sz) [(h0, .inr (10, [.int p0, .ref a, .int 0, .null, .null, .null]))]) (va_A [(h0, .inr (10, [.int 0, .null, .int 0, .null, .null, .null]))] sz)) 1 3 (va_A [(h0, .inr (10, [.int 0, .null, .int 0, .null, .null, .null]))] sz) := by
  refine Met.ofW (cc := cX4_init) (maxL := 2) (ret := none) (by decide) rfl ?_
  intro p e s m args below meth c s₁ B hml hv
  obtain ⟨rfl, hsz, hE, hP, hK, hD0⟩ := hv
  have hx := B.exec
  have hb := B.bytes
  have hr := B.returns
  have hts := fun (w : Cond) (h : w ∈ pv_W) => atoms_spec (ws := Cond.code yX4_init cX4_init 2 none :: pv_W) B.pre w (List.mem_cons_of_mem _ h)
  have hg := fun {w : Cond} (h : w ∈ lw_tbl) (g : goodWord w = true) => hts w (pv_in h g)
  have hown : s.vm.findClass RX4 = some m.cls := findClass_of_methodNamed B.named
  have hlocks := B.notSynchronized
  have hin : meth.name = "<init>" := (name_of_methodNamed B.named B.method).1
  subst hsz
  have hD := hD0.self (sz := s.heap.size)
  generalize hAe : va_A [(h0, .inr (10, [.int 0, .null, .int 0, .null, .null, .null]))] s.heap.size = A at hD hE ⊢
  have hA : ∀ q : Nat, s.heap.size ≤ q → A q := fun q h => by rw [← hAe]; exact Or.inr h
  have hS : va_S A s.heap s.heap [] := va_S.rf
  have hP : va_P D pv_cl [(h0, .inr (10, [.int 0, .null, .int 0, .null, .null, .null]))] s.heap := hP
  have hl := lv_entry ([.ref h0, .int p0]) (n := 2) (Nat.le_of_ble_eq_true rfl)
  rw [lg_entry_eq]
  generalize (lg_sl ([.ref h0, .int p0]) ++ List.replicate (2 - (lg_sl ([.ref h0, .int p0])).length) Slot.unset).toArray = ls at hl ⊢
  have hl : lv_has ls 2 [(0, .ref h0), (1, .int p0)] := hl
  refine lv_aload_n hx hb dX4_init_0 rfl (lv_at hl 0 rfl) ?_
  refine W.objInit (own := RX4) hx hb hown (hg w7_155 rfl) (hg w1_36 rfl) (hg w1_37 rfl) rfl (hl.1.trans hml.symm) (rest := []) rfl dX4_init_1 (Nat.le_of_ble_eq_true rfl) (Nat.le_of_ble_eq_true rfl) ?_
  refine lv_aload_n hx hb dX4_init_4 rfl (lv_at hl 0 rfl) ?_
  refine lv_iconst (v := 3) hx hb dX4_init_5 (by decide) ?_
  refine va_newq (own := RX4) (C := "Polyforge$Polynomial") (N' := 3) hx hb hown (hg w7_156 rfl) (pv_ao (C := "Polyforge$Polynomial") hE (by simp [pv_ot])) hK hP hD hS hA (by decide) (by decide +kernel) (Nat.le_of_ble_eq_true rfl) (Nat.le_of_ble_eq_true rfl) (Nat.le_of_ble_eq_true rfl) dX4_init_6 (fun q_1 cA_2 H hK hP hD hS => ?_)
  have hP : va_P D pv_cl [(h0, .inr (10, [.int 0, .null, .int 0, .null, .null, .null])), (q_1, .inl (cA_2, 3, .inr (.inr (.inr (.inr (fun _ => none))))))] _ := hP
  have hD : va_D A [(h0, .inr (10, [.int 0, .null, .int 0, .null, .null, .null])), (q_1, .inl (cA_2, 3, .inr (.inr (.inr (.inr (fun _ => none))))))] := hD
  have hK : va_K D pv_cl [(cA_2, .object "Polyforge$Polynomial")] s := hK
  refine W.widen (k := 1) (n := 3) (Nat.le_of_ble_eq_true rfl) (Nat.le_of_ble_eq_true rfl) ?_
  refine va_putF (own := RX4) (D := D) (ci := 10) (v := .ref q_1) (ty := .array (.object "Polyforge$Polynomial")) (C := RX4) (T := TX4) (N := 6) hx hb hts inF4 tyX4 tyX4_ok nmX4 hown hK hP hD hS 0 rfl rfl 1 (by decide) (hg w7_160 rfl) (fun _ h9 => h9) rfl hin rfl (by decide +kernel) rfl rfl (Nat.le_of_ble_eq_true rfl) dX4_init_9 (fun H locs hP hD hS => ?_)
  have hP : va_P D pv_cl [(h0, .inr (10, [.int 0, .ref q_1, .int 0, .null, .null, .null])), (q_1, .inl (cA_2, 3, .inr (.inr (.inr (.inr (fun _ => none))))))] _ := hP
  have hD : va_D A [(h0, .inr (10, [.int 0, .ref q_1, .int 0, .null, .null, .null])), (q_1, .inl (cA_2, 3, .inr (.inr (.inr (.inr (fun _ => none))))))] := hD
  refine lv_aload_n hx hb dX4_init_12 rfl (lv_at hl 0 rfl) ?_
  refine lv_iconst (v := 0) hx hb dX4_init_13 (by decide) ?_
  refine va_put (own := RX4) (D := D) (ci := 10) (v := .int 0) (ty := .int) (C := RX4) (T := TX4) (N := 6) hx hb hts inF4 tyX4 tyX4_ok nmX4 hown hK hP hD hS 0 rfl rfl 2 (by decide) (hg w7_161 rfl) (fun _ h9 => h9) rfl (by decide +kernel) rfl rfl (Nat.le_of_ble_eq_true rfl) dX4_init_14 (fun H locs hP hD hS => ?_)
  have hP : va_P D pv_cl [(h0, .inr (10, [.int 0, .ref q_1, .int 0, .null, .null, .null])), (q_1, .inl (cA_2, 3, .inr (.inr (.inr (.inr (fun _ => none))))))] _ := hP
  have hD : va_D A [(h0, .inr (10, [.int 0, .ref q_1, .int 0, .null, .null, .null])), (q_1, .inl (cA_2, 3, .inr (.inr (.inr (.inr (fun _ => none))))))] := hD
  refine lv_aload_n hx hb dX4_init_17 rfl (lv_at hl 0 rfl) ?_
  refine lv_null hx hb dX4_init_18 ?_
  refine va_put (own := RX4) (D := D) (ci := 10) (v := .null) (ty := .object "Polyforge$Stock") (C := RX4) (T := TX4) (N := 6) hx hb hts inF4 tyX4 tyX4_ok nmX4 hown hK hP hD hS 0 rfl rfl 3 (by decide) (hg w7_164 rfl) (fun _ h9 => h9) rfl (by decide +kernel) rfl rfl (Nat.le_of_ble_eq_true rfl) dX4_init_19 (fun H locs hP hD hS => ?_)
  have hP : va_P D pv_cl [(h0, .inr (10, [.int 0, .ref q_1, .int 0, .null, .null, .null])), (q_1, .inl (cA_2, 3, .inr (.inr (.inr (.inr (fun _ => none))))))] _ := hP
  have hD : va_D A [(h0, .inr (10, [.int 0, .ref q_1, .int 0, .null, .null, .null])), (q_1, .inl (cA_2, 3, .inr (.inr (.inr (.inr (fun _ => none))))))] := hD
  refine lv_aload_n hx hb dX4_init_22 rfl (lv_at hl 0 rfl) ?_
  refine lv_null hx hb dX4_init_23 ?_
  refine va_put (own := RX4) (D := D) (ci := 10) (v := .null) (ty := .object "Polyforge$Stock") (C := RX4) (T := TX4) (N := 6) hx hb hts inF4 tyX4 tyX4_ok nmX4 hown hK hP hD hS 0 rfl rfl 4 (by decide) (hg w7_166 rfl) (fun _ h9 => h9) rfl (by decide +kernel) rfl rfl (Nat.le_of_ble_eq_true rfl) dX4_init_24 (fun H locs hP hD hS => ?_)
  have hP : va_P D pv_cl [(h0, .inr (10, [.int 0, .ref q_1, .int 0, .null, .null, .null])), (q_1, .inl (cA_2, 3, .inr (.inr (.inr (.inr (fun _ => none))))))] _ := hP
  have hD : va_D A [(h0, .inr (10, [.int 0, .ref q_1, .int 0, .null, .null, .null])), (q_1, .inl (cA_2, 3, .inr (.inr (.inr (.inr (fun _ => none))))))] := hD
  refine lv_aload_n hx hb dX4_init_27 rfl (lv_at hl 0 rfl) ?_
  refine lv_null hx hb dX4_init_28 ?_
  refine va_put (own := RX4) (D := D) (ci := 10) (v := .null) (ty := .object "Polyforge$Stock") (C := RX4) (T := TX4) (N := 6) hx hb hts inF4 tyX4 tyX4_ok nmX4 hown hK hP hD hS 0 rfl rfl 5 (by decide) (hg w7_168 rfl) (fun _ h9 => h9) rfl (by decide +kernel) rfl rfl (Nat.le_of_ble_eq_true rfl) dX4_init_29 (fun H locs hP hD hS => ?_)
  have hP : va_P D pv_cl [(h0, .inr (10, [.int 0, .ref q_1, .int 0, .null, .null, .null])), (q_1, .inl (cA_2, 3, .inr (.inr (.inr (.inr (fun _ => none))))))] _ := hP
  have hD : va_D A [(h0, .inr (10, [.int 0, .ref q_1, .int 0, .null, .null, .null])), (q_1, .inl (cA_2, 3, .inr (.inr (.inr (.inr (fun _ => none))))))] := hD
  refine lv_aload_n hx hb dX4_init_32 rfl (lv_at hl 0 rfl) ?_
  refine lv_iload_n hx hb dX4_init_33 rfl (lv_at hl 1 rfl) ?_
  refine va_putF (own := RX4) (D := D) (ci := 10) (v := .int p0) (ty := .int) (C := RX4) (T := TX4) (N := 6) hx hb hts inF4 tyX4 tyX4_ok nmX4 hown hK hP hD hS 0 rfl rfl 0 (by decide) (hg w7_157 rfl) (fun _ h9 => h9) rfl hin rfl (by decide +kernel) rfl rfl (Nat.le_of_ble_eq_true rfl) dX4_init_34 (fun H locs hP hD hS => ?_)
  have hP : va_P D pv_cl [(h0, .inr (10, [.int p0, .ref q_1, .int 0, .null, .null, .null])), (q_1, .inl (cA_2, 3, .inr (.inr (.inr (.inr (fun _ => none))))))] _ := hP
  have hD : va_D A [(h0, .inr (10, [.int p0, .ref q_1, .int 0, .null, .null, .null])), (q_1, .inl (cA_2, 3, .inr (.inr (.inr (.inr (fun _ => none))))))] := hD
  refine W.widen (k := 1) (n := 3) (Nat.le_of_ble_eq_true rfl) (Nat.le_of_ble_eq_true rfl) ?_
  exact W.vret hx hb hr (fun t ht hW => ⟨⟨(), rfl, trivial, q_1, (by rw [ht]; exact hP.sub [0] rfl), va_K.moved hW.alike (hK.sub [] rfl), hD.sub [0] (by decide) rfl⟩, hS.F ht⟩) hS.2.2 dX4_init_37

theorem dX11_addIdeal_0 : decode cX11_addIdeal 0 = .ok (.iload_n 1, 1) := by decide +kernel
theorem dX11_addIdeal_1 : decode cX11_addIdeal 1 = .ok (.invokestatic 222, 3) := by decide +kernel
theorem w6_188 : (Jvm.Cond.methodLink "Polyforge" (222 : Nat) ({ cls := "Polyforge", name := "requirePrime", desc := "(I)V" } : Jvm.MethodName)) ∈ lw_tbl := pv_t6 (pv_mg 188 rfl)
theorem w6_190 : (Jvm.Cond.code ({ cls := "Polyforge", name := "requirePrime", desc := "(I)V" } : Jvm.MethodName) prog_1_method_56_code (1 : Nat) (Option.none : Option Jvm.ClassFile.FieldType)) ∈ lw_tbl := pv_t6 (pv_mg 190 rfl)
theorem w6_189 : (Jvm.Cond.static ({ cls := "Polyforge", name := "requirePrime", desc := "(I)V" } : Jvm.MethodName)) ∈ lw_tbl := pv_t6 (pv_mg 189 rfl)
theorem dX11_addIdeal_4 : decode cX11_addIdeal 4 = .ok (.aload_n 0, 1) := by decide +kernel
theorem dX11_addIdeal_5 : decode cX11_addIdeal 5 = .ok (.getfield 29, 3) := by decide +kernel
theorem dX11_addIdeal_8 : decode cX11_addIdeal 8 = .ok (.iconst 5, 1) := by decide +kernel
theorem dX11_addIdeal_9 : decode cX11_addIdeal 9 = .ok (.if_icmp .lt 14, 3) := by decide +kernel
theorem dX11_addIdeal_23 : decode cX11_addIdeal 23 = .ok (.aload_n 0, 1) := by decide +kernel
theorem dX11_addIdeal_24 : decode cX11_addIdeal 24 = .ok (.getfield 25, 3) := by decide +kernel
theorem w2_40 : (Jvm.Cond.fieldLink "Polyforge" (25 : Nat) "Polyforge" "ideals" "[LPolyforge$Ideal;") ∈ lw_tbl := pv_t2 (pv_mg 40 rfl)
theorem dX11_addIdeal_27 : decode cX11_addIdeal 27 = .ok (.aload_n 0, 1) := by decide +kernel
theorem dX11_addIdeal_28 : decode cX11_addIdeal 28 = .ok (.getfield 29, 3) := by decide +kernel
theorem dX11_addIdeal_31 : decode cX11_addIdeal 31 = .ok (.new 23, 3) := by decide +kernel
theorem w1_40 : (Jvm.Cond.classLink "Polyforge" (23 : Nat) "Polyforge$Ideal") ∈ lw_tbl := pv_t1 (pv_mg 40 rfl)
theorem w7_151 : (Jvm.Cond.instantiable "Polyforge$Ideal" (6 : Nat)) ∈ lw_tbl := pv_t7 (pv_mg 151 rfl)
theorem w1_26 : (Jvm.Cond.initialized "Polyforge$Ideal") ∈ lw_tbl := pv_t1 (pv_mg 26 rfl)
theorem dX11_addIdeal_34 : decode cX11_addIdeal 34 = .ok (.dup, 1) := by decide +kernel
theorem dX11_addIdeal_35 : decode cX11_addIdeal 35 = .ok (.iload_n 1, 1) := by decide +kernel
theorem dX11_addIdeal_36 : decode cX11_addIdeal 36 = .ok (.invokespecial 311, 3) := by decide +kernel
theorem w7_152 : (Jvm.Cond.methodLink "Polyforge" (311 : Nat) ({ cls := "Polyforge$Ideal", name := "<init>", desc := "(I)V" } : Jvm.MethodName)) ∈ lw_tbl := pv_t7 (pv_mg 152 rfl)
theorem w7_154 : (Jvm.Cond.code ({ cls := "Polyforge$Ideal", name := "<init>", desc := "(I)V" } : Jvm.MethodName) prog_6_method_1_code (2 : Nat) (Option.none : Option Jvm.ClassFile.FieldType)) ∈ lw_tbl := pv_t7 (pv_mg 154 rfl)
theorem w7_153 : (Jvm.Cond.instanceMethod ({ cls := "Polyforge$Ideal", name := "<init>", desc := "(I)V" } : Jvm.MethodName)) ∈ lw_tbl := pv_t7 (pv_mg 153 rfl)
theorem dX11_addIdeal_39 : decode cX11_addIdeal 39 = .ok (.aastore, 1) := by decide +kernel
theorem dX11_addIdeal_40 : decode cX11_addIdeal 40 = .ok (.aload_n 0, 1) := by decide +kernel
theorem dX11_addIdeal_41 : decode cX11_addIdeal 41 = .ok (.dup, 1) := by decide +kernel
theorem dX11_addIdeal_42 : decode cX11_addIdeal 42 = .ok (.getfield 29, 3) := by decide +kernel
theorem dX11_addIdeal_45 : decode cX11_addIdeal 45 = .ok (.dup_x1, 1) := by decide +kernel
theorem dX11_addIdeal_46 : decode cX11_addIdeal 46 = .ok (.iconst 1, 1) := by decide +kernel
theorem dX11_addIdeal_47 : decode cX11_addIdeal 47 = .ok (.iadd, 1) := by decide +kernel
theorem dX11_addIdeal_48 : decode cX11_addIdeal 48 = .ok (.putfield 29, 3) := by decide +kernel
theorem dX11_addIdeal_51 : decode cX11_addIdeal 51 = .ok (.ireturn, 1) := by decide +kernel
set_option maxHeartbeats 4000000 in
set_option maxRecDepth 100000 in
/-- addIdeal on a fresh object -/
theorem c_X11_addIdeal (l : Launch) (hfl : l.stackTraces = false) (D : va_G) (sz : Nat) (h0 : Nat) (q : Nat → Nat) (cO : ClassId) (p0 : Int32) : vx_Met l yX11_addIdeal (Cond.code yX11_addIdeal cX11_addIdeal 2 (some .int) :: pv_W) ({ frames := 8, cells := 3, slots := 15, locals := 120 } : Room) (va_Pc [.ref h0, .int p0] (pv_P D [(cO, .object "Polyforge$Ideal")] [(h0, .inr (0, [.ref (q 0), .int 0, .int 108, .ref (q 1), .int 0, .ref (q 2), .int 0, .ref (q 3), .ref (q 4), .int 1, .ref (q 5), .ref (q 6), .ref (q 7), .ref (q 8), .ref (q 9)])), ((q 1), .inl (cO, 5, .inr (.inr (.inr (.inr (fun _ => none))))))] (va_A [(h0, .inr (0, [.ref (q 0), .int 0, .int 108, .ref (q 1), .int 0, .ref (q 2), .int 0, .ref (q 3), .ref (q 4), .int 1, .ref (q 5), .ref (q 6), .ref (q 7), .ref (q 8), .ref (q 9)])), ((q 1), .inl (cO, 5, .inr (.inr (.inr (.inr (fun _ => none))))))] sz) sz)) (va_Qi (fun r (_ : Unit) => r = 0 ∧ pv_pr p0) (fun _ _ => True) (va_A [(h0, .inr (0, [.ref (q 0), .int 0, .int 108, .ref (q 1), .int 0, .ref (q 2), .int 0, .ref (q 3), .ref (q 4), .int 1, .ref (q 5), .ref (q 6), .ref (q 7), .ref (q 8), .ref (q 9)])), ((q 1), .inl (cO, 5, .inr (.inr (.inr (.inr (fun _ => none))))))] sz)) (vx_X (fun _ : Unit => True) (fun E _ _ => E = "java/lang/IllegalArgumentException" ∧ ¬ pv_pr p0) (va_A [(h0, .inr (0, [.ref (q 0), .int 0, .int 108, .ref (q 1), .int 0, .ref (q 2), .int 0, .ref (q 3), .ref (q 4), .int 1, .ref (q 5), .ref (q 6), .ref (q 7), .ref (q 8), .ref (q 9)])), ((q 1), .inl (cO, 5, .inr (.inr (.inr (.inr (fun _ => none))))))] sz)) 3 15 (va_A [(h0, .inr (0, [.ref (q 0), .int 0, .int 108, .ref (q 1), .int 0, .ref (q 2), .int 0, .ref (q 3), .ref (q 4), .int 1, .ref (q 5), .ref (q 6), .ref (q 7), .ref (q 8), .ref (q 9)])), ((q 1), .inl (cO, 5, .inr (.inr (.inr (.inr (fun _ => none))))))] sz) := by
  refine vx_ofW (cc := cX11_addIdeal) (maxL := 2) (ret := (some .int)) (by decide) rfl ?_
  intro p e s m args below meth c s₁ B hml hnt hv
  obtain ⟨rfl, hsz, hE, hP, hK, hD0⟩ := hv
  have hx := B.exec
  have hb := B.bytes
  have hr := B.returns
  have hts := fun (w : Cond) (h : w ∈ pv_W) => atoms_spec (ws := Cond.code yX11_addIdeal cX11_addIdeal 2 (some .int) :: pv_W) B.pre w (List.mem_cons_of_mem _ h)
  have hg := fun {w : Cond} (h : w ∈ lw_tbl) (g : goodWord w = true) => hts w (pv_in h g)
  have hown : s.vm.findClass RX11 = some m.cls := findClass_of_methodNamed B.named
  have hlocks := B.notSynchronized
  subst hsz
  have hD := hD0.self (sz := s.heap.size)
  generalize hAe : va_A [(h0, .inr (0, [.ref (q 0), .int 0, .int 108, .ref (q 1), .int 0, .ref (q 2), .int 0, .ref (q 3), .ref (q 4), .int 1, .ref (q 5), .ref (q 6), .ref (q 7), .ref (q 8), .ref (q 9)])), ((q 1), .inl (cO, 5, .inr (.inr (.inr (.inr (fun _ => none))))))] s.heap.size = A at hD hE ⊢
  have hA : ∀ q : Nat, s.heap.size ≤ q → A q := fun q h => by rw [← hAe]; exact Or.inr h
  have hS : va_S A s.heap s.heap [] := va_S.rf
  have hP : va_P D pv_cl [(h0, .inr (0, [.ref (q 0), .int 0, .int 108, .ref (q 1), .int 0, .ref (q 2), .int 0, .ref (q 3), .ref (q 4), .int 1, .ref (q 5), .ref (q 6), .ref (q 7), .ref (q 8), .ref (q 9)])), ((q 1), .inl (cO, 5, .inr (.inr (.inr (.inr (fun _ => none))))))] s.heap := hP
  have hl := lv_entry ([.ref h0, .int p0]) (n := 2) (Nat.le_of_ble_eq_true rfl)
  rw [lg_entry_eq]
  generalize (lg_sl ([.ref h0, .int p0]) ++ List.replicate (2 - (lg_sl ([.ref h0, .int p0])).length) Slot.unset).toArray = ls at hl ⊢
  have hl : lv_has ls 2 [(0, .ref h0), (1, .int p0)] := hl
  refine lv_iload_n hx hb dX11_addIdeal_0 rfl (lv_at hl 1 rfl) ?_
  have hF := pv_new hA hS.1
  refine vx_callv (vx_runS (As := [.int p0]) (rest := []) ⟨hx, hb, hml, hown, hts⟩ (c_X11_requirePrime l hfl D _ p0) (va_cwS 1 hts (pv_gS w6_188 w6_189 w1_1 w6_190) rfl rfl rfl (by decide +kernel) ⟨Nat.le_of_ble_eq_true rfl, Nat.le_of_ble_eq_true rfl⟩) (pv_ps hE hS hF (hP.sub [] rfl) (hK.sub [] rfl) (hD.sub [] (by decide) rfl)) rfl rfl hl.1 rfl (lv_room (Nat.le_of_ble_eq_true rfl)) dX11_addIdeal_1 ⟨Nat.le_of_ble_eq_true rfl, Nat.le_of_ble_eq_true rfl⟩) hS (fun q _ h => hF q h) hF (fun q _ h => hF q h) (fun E ce q9 u t H1 locs1 ht hvm hpx hbx hz1 hk1 hS hce hcv hcl => ?_) (fun u t H1 locs1 ht hvm hw hB hz1 hk1 hS => ?_)
  · exact vx_out (fun x h9 => absurd (hnt x h9) id) hlocks hce hcv hcl (fun t ht hvm => ⟨(), trivial, hbx, hS.F ht⟩) hS.2.2 (Nat.le_of_ble_eq_true rfl) (Nat.le_of_ble_eq_true rfl)
  · refine W.widen (k := 1) (n := 6) (Nat.le_of_ble_eq_true rfl) (Nat.le_of_ble_eq_true rfl) ?_
    have hP := pv_keep hP rfl hk1
    have a_2 := hw
    refine lv_aload_n hx hb dX11_addIdeal_4 rfl (lv_at hl 0 rfl) ?_
    refine va_get (own := RX11) (D := D) (ci := 0) (v := .int 0) (C := RX11) (T := TX11) (N := 15) hx hb hts inF11 hown hK hP 0 rfl rfl 4 (by decide) (hg w2_41 rfl) (fun _ h9 => h9) rfl dX11_addIdeal_5 ?_
    refine lv_iconst (v := 5) hx hb dX11_addIdeal_8 (by decide) ?_
    refine lv_icmp_lt (tgt := 23) hx hb dX11_addIdeal_9 (by decide) (fun _ => ?_) (fun c_3 => absurd (by decide) c_3)
    refine lv_aload_n hx hb dX11_addIdeal_23 rfl (lv_at hl 0 rfl) ?_
    refine va_get (own := RX11) (D := D) (ci := 0) (v := .ref (q 1)) (C := RX11) (T := TX11) (N := 15) hx hb hts inF11 hown hK hP 0 rfl rfl 3 (by decide) (hg w2_40 rfl) (fun _ h9 => h9) rfl dX11_addIdeal_24 ?_
    refine lv_aload_n hx hb dX11_addIdeal_27 rfl (lv_at hl 0 rfl) ?_
    refine va_get (own := RX11) (D := D) (ci := 0) (v := .int 0) (C := RX11) (T := TX11) (N := 15) hx hb hts inF11 hown hK hP 0 rfl rfl 4 (by decide) (hg w2_41 rfl) (fun _ h9 => h9) rfl dX11_addIdeal_28 ?_
    refine va_new (own := RX11) (ci := 10) (fs := [.int 0, .null, .int 0, .null, .null, .null]) (C := RX4) (T := TX4) (N := 6) hx hb hts inF4 tyX4 tyX4_ok hown (hg w1_40 rfl) (hg w7_151 rfl) (hg w1_26 rfl) hK hP hD hS hA rfl (by decide +kernel) (Nat.le_of_ble_eq_true rfl) (Nat.le_of_ble_eq_true rfl) dX11_addIdeal_31 (fun q_4 H hP hD hS => ?_)
    have hP : va_P D pv_cl [(h0, .inr (0, [.ref (q 0), .int 0, .int 108, .ref (q 1), .int 0, .ref (q 2), .int 0, .ref (q 3), .ref (q 4), .int 1, .ref (q 5), .ref (q 6), .ref (q 7), .ref (q 8), .ref (q 9)])), ((q 1), .inl (cO, 5, .inr (.inr (.inr (.inr (fun _ => none)))))), (q_4, .inr (10, [.int 0, .null, .int 0, .null, .null, .null]))] _ := hP
    have hD : va_D A [(h0, .inr (0, [.ref (q 0), .int 0, .int 108, .ref (q 1), .int 0, .ref (q 2), .int 0, .ref (q 3), .ref (q 4), .int 1, .ref (q 5), .ref (q 6), .ref (q 7), .ref (q 8), .ref (q 9)])), ((q 1), .inl (cO, 5, .inr (.inr (.inr (.inr (fun _ => none)))))), (q_4, .inr (10, [.int 0, .null, .int 0, .null, .null, .null]))] := hD
    refine W.widen (k := 2) (n := 12) (Nat.le_of_ble_eq_true rfl) (Nat.le_of_ble_eq_true rfl) ?_
    refine lv_dup hx hb dX11_addIdeal_34 rfl ?_
    refine lv_iload_n hx hb dX11_addIdeal_35 rfl (lv_at hl 1 rfl) ?_
    have hF := va_free (wc := [(q_4, .inr (10, [.int 0, .null, .int 0, .null, .null, .null]))]) hD hS hA [2] rfl
    refine va_callv (va_runI (As := [.int p0]) (rest := [.ref q_4, .int 0, .ref (q 1)]) ⟨hx, hb, hml, hown, hts⟩ (c_X4_init l hfl D _ q_4 p0) (cwI 1 hts (pv_gC w7_154) rfl rfl rfl (hg w1_26 rfl) (hg w7_152 rfl) (hg w7_153 rfl) rfl (by decide +kernel) ⟨Nat.le_of_ble_eq_true rfl, Nat.le_of_ble_eq_true rfl⟩) (pv_ps hE hS hF (hP.sub [2] rfl) (hK.sub [] rfl) (hD.sub [2] (by decide) rfl)) rfl rfl hl.1 rfl (lv_room (Nat.le_of_ble_eq_true rfl)) dX11_addIdeal_36 ⟨Nat.le_of_ble_eq_true rfl, Nat.le_of_ble_eq_true rfl⟩) hS (fun q _ h => hF q h) hF (fun u t H1 locs1 ht hvm hw hB hz1 hk1 hS => ?_)
    refine W.widen (k := 3) (n := 15) (Nat.le_of_ble_eq_true rfl) (Nat.le_of_ble_eq_true rfl) ?_
    obtain ⟨b_6, hP1, hK1, hD1⟩ := hB
    rw [ht] at hP1
    have hK1 := va_K.moved hvm.symm hK1
    obtain ⟨hP, hD⟩ := va_join (wr := [(h0, .inr (0, [.ref (q 0), .int 0, .int 108, .ref (q 1), .int 0, .ref (q 2), .int 0, .ref (q 3), .ref (q 4), .int 1, .ref (q 5), .ref (q 6), .ref (q 7), .ref (q 8), .ref (q 9)])), ((q 1), .inl (cO, 5, .inr (.inr (.inr (.inr (fun _ => none))))))]) (w1 := [(q_4, .inr (10, [.int p0, .ref b_6, .int 0, .null, .null, .null]))]) hP hD [2] [0, 1] rfl rfl (by decide) (by decide) hk1 hF hP1 hD1
    have hP : va_P D pv_cl [(h0, .inr (0, [.ref (q 0), .int 0, .int 108, .ref (q 1), .int 0, .ref (q 2), .int 0, .ref (q 3), .ref (q 4), .int 1, .ref (q 5), .ref (q 6), .ref (q 7), .ref (q 8), .ref (q 9)])), ((q 1), .inl (cO, 5, .inr (.inr (.inr (.inr (fun _ => none)))))), (q_4, .inr (10, [.int p0, .ref b_6, .int 0, .null, .null, .null]))] _ := hP
    have hD : va_D A [(h0, .inr (0, [.ref (q 0), .int 0, .int 108, .ref (q 1), .int 0, .ref (q 2), .int 0, .ref (q 3), .ref (q 4), .int 1, .ref (q 5), .ref (q 6), .ref (q 7), .ref (q 8), .ref (q 9)])), ((q 1), .inl (cO, 5, .inr (.inr (.inr (.inr (fun _ => none)))))), (q_4, .inr (10, [.int p0, .ref b_6, .int 0, .null, .null, .null]))] := hD
    refine va_astq hx hb hK hP hD hS 1 0 2 10 rfl rfl rfl rfl (by unfold vp_in; decide) dX11_addIdeal_39 (fun H locs hP hD hS => ?_)
    have hP : va_P D pv_cl [(h0, .inr (0, [.ref (q 0), .int 0, .int 108, .ref (q 1), .int 0, .ref (q 2), .int 0, .ref (q 3), .ref (q 4), .int 1, .ref (q 5), .ref (q 6), .ref (q 7), .ref (q 8), .ref (q 9)])), ((q 1), .inl (cO, 5, .inr (.inr (.inr (.inr (va_up (fun _ => none) (0 : Int32).toNatClampNeg (some q_4))))))), (q_4, .inr (10, [.int p0, .ref b_6, .int 0, .null, .null, .null]))] _ := hP
    have hD : va_D A [(h0, .inr (0, [.ref (q 0), .int 0, .int 108, .ref (q 1), .int 0, .ref (q 2), .int 0, .ref (q 3), .ref (q 4), .int 1, .ref (q 5), .ref (q 6), .ref (q 7), .ref (q 8), .ref (q 9)])), ((q 1), .inl (cO, 5, .inr (.inr (.inr (.inr (va_up (fun _ => none) (0 : Int32).toNatClampNeg (some q_4))))))), (q_4, .inr (10, [.int p0, .ref b_6, .int 0, .null, .null, .null]))] := hD
    refine lv_aload_n hx hb dX11_addIdeal_40 rfl (lv_at hl 0 rfl) ?_
    refine lv_dup hx hb dX11_addIdeal_41 rfl ?_
    refine va_get (own := RX11) (D := D) (ci := 0) (v := .int 0) (C := RX11) (T := TX11) (N := 15) hx hb hts inF11 hown hK hP 0 rfl rfl 4 (by decide) (hg w2_41 rfl) (fun _ h9 => h9) rfl dX11_addIdeal_42 ?_
    refine lv_dup_x1 hx hb dX11_addIdeal_45 rfl rfl ?_
    refine lv_iconst (v := 1) hx hb dX11_addIdeal_46 (by decide) ?_
    refine lv_iadd hx hb dX11_addIdeal_47 ?_
    refine pv_setI 1 (by decide) ?_
    refine va_put (own := RX11) (D := D) (ci := 0) (v := .int 1) (ty := .int) (C := RX11) (T := TX11) (N := 15) hx hb hts inF11 tyX11 tyX11_ok nmX11 hown hK hP hD hS 0 rfl rfl 4 (by decide) (hg w2_41 rfl) (fun _ h9 => h9) rfl (by decide +kernel) rfl rfl (Nat.le_of_ble_eq_true rfl) dX11_addIdeal_48 (fun H locs hP hD hS => ?_)
    have hP : va_P D pv_cl [(h0, .inr (0, [.ref (q 0), .int 0, .int 108, .ref (q 1), .int 1, .ref (q 2), .int 0, .ref (q 3), .ref (q 4), .int 1, .ref (q 5), .ref (q 6), .ref (q 7), .ref (q 8), .ref (q 9)])), ((q 1), .inl (cO, 5, .inr (.inr (.inr (.inr (va_up (fun _ => none) (0 : Int32).toNatClampNeg (some q_4))))))), (q_4, .inr (10, [.int p0, .ref b_6, .int 0, .null, .null, .null]))] _ := hP
    have hD : va_D A [(h0, .inr (0, [.ref (q 0), .int 0, .int 108, .ref (q 1), .int 1, .ref (q 2), .int 0, .ref (q 3), .ref (q 4), .int 1, .ref (q 5), .ref (q 6), .ref (q 7), .ref (q 8), .ref (q 9)])), ((q 1), .inl (cO, 5, .inr (.inr (.inr (.inr (va_up (fun _ => none) (0 : Int32).toNatClampNeg (some q_4))))))), (q_4, .inr (10, [.int p0, .ref b_6, .int 0, .null, .null, .null]))] := hD
    refine vx_ret ?_
    refine W.widen (k := 3) (n := 15) (Nat.le_of_ble_eq_true rfl) (Nat.le_of_ble_eq_true rfl) ?_
    exact W.iret (v := 0) hx hb hr (fun t ht hW => ⟨⟨0, (), rfl, ⟨rfl, a_2⟩, trivial⟩, hS.F ht⟩) hS.2.2 dX11_addIdeal_51
end
section
/-- a method of a class of which the machine has methods of its own, but not this one -/
theorem pv_ofWF {l : Launch} {y : MethodName} {ws ws' : List Cond} {rm : Room} {Pc : Array Value → State → Prop} {Qc : Array Value → State → Outcome → State → Prop} {mc ms : Nat} {free : Addr → Prop} {cc : ByteArray} {maxL : Nat} {ret : Option FieldType}
    (hy : plainFor y = true) (hw : ws = Cond.code y cc maxL ret :: ws')
    (body : ∀ p e s m args below meth c s₁, BodyLoose p l y (headSpec ws rm) cc maxL ret e s m args below meth c s₁ → c.maxLocals = maxL → Pc args s →
      W p l e (headSpec ws rm).room s m args below meth c s.heap [] 0 0 (MQ below Qc args s mc ms free) (entryFrame m args maxL)) : Met l y ws rm Pc Qc mc ms free := by
  refine MetFree.of_bodySF (code := cc) (maxLocals := maxL) (ret := ret) hy ?_ ?_
  · intro args s m h hn
    obtain ⟨meth, c, h1, h2, h3, h4, h5, h6, -, -⟩ := Cond.code_spec hn (atoms_spec (ws := ws) h _ (by rw [hw]; exact List.mem_cons_self))
    exact ⟨meth, c, h1, h2, h3, h4, h5, h6⟩
  · intro p e s m args below meth c s₁ B hml hP _
    obtain ⟨t, a1, o, b1, b2, b3⟩ := body p e s m args below meth c s₁ B hml hP s₁ (by rw [B.state]; rfl) (Stand.of_body B)
    exact ⟨t, o, a1, b1, b2, ⟨b3.1, b3.2⟩⟩
theorem pv_P0 {D : va_G} {cl : List vw_C} {H : Heap} : va_P D cl [] H := fun k q h => by simp at h
theorem pv_D0 {A : Nat → Prop} : va_D A [] := ⟨fun i j p q h => by simp at h, fun k q h => by simp at h⟩
theorem pv_l0 {g : Int32} (h : ¬ g ≤ 0) : ¬ g.toInt64 = 0 := by
  intro e
  have h1 : g.toInt64.toInt = (0 : Int64).toInt := by rw [e]
  rw [Int32.toInt_toInt64] at h1
  refine h ?_
  rw [Int32.le_iff_toInt_le]
  exact Int.le_of_eq h1

theorem dJ9_floorMod_f86c9_0 : decode cJ9_floorMod_f86c9 0 = .ok (.lload_n 0, 1) := by decide +kernel
theorem dJ9_floorMod_f86c9_1 : decode cJ9_floorMod_f86c9 1 = .ok (.lload_n 2, 1) := by decide +kernel
theorem dJ9_floorMod_f86c9_2 : decode cJ9_floorMod_f86c9 2 = .ok (.lrem, 1) := by decide +kernel
theorem dJ9_floorMod_f86c9_3 : decode cJ9_floorMod_f86c9 3 = .ok (.lstore 4, 2) := by decide +kernel
theorem dJ9_floorMod_f86c9_5 : decode cJ9_floorMod_f86c9 5 = .ok (.lload_n 0, 1) := by decide +kernel
theorem dJ9_floorMod_f86c9_6 : decode cJ9_floorMod_f86c9 6 = .ok (.lload_n 2, 1) := by decide +kernel
theorem dJ9_floorMod_f86c9_7 : decode cJ9_floorMod_f86c9 7 = .ok (.lxor, 1) := by decide +kernel
theorem dJ9_floorMod_f86c9_8 : decode cJ9_floorMod_f86c9 8 = .ok (.lconst 0, 1) := by decide +kernel
theorem dJ9_floorMod_f86c9_9 : decode cJ9_floorMod_f86c9 9 = .ok (.lcmp, 1) := by decide +kernel
theorem dJ9_floorMod_f86c9_10 : decode cJ9_floorMod_f86c9 10 = .ok (.ifCond .ge 15, 3) := by decide +kernel
theorem dJ9_floorMod_f86c9_25 : decode cJ9_floorMod_f86c9 25 = .ok (.lload 4, 2) := by decide +kernel
theorem dJ9_floorMod_f86c9_27 : decode cJ9_floorMod_f86c9 27 = .ok (.lreturn, 1) := by decide +kernel
theorem dJ9_floorMod_f86c9_13 : decode cJ9_floorMod_f86c9 13 = .ok (.lload 4, 2) := by decide +kernel
theorem dJ9_floorMod_f86c9_15 : decode cJ9_floorMod_f86c9 15 = .ok (.lconst 0, 1) := by decide +kernel
theorem dJ9_floorMod_f86c9_16 : decode cJ9_floorMod_f86c9 16 = .ok (.lcmp, 1) := by decide +kernel
theorem dJ9_floorMod_f86c9_17 : decode cJ9_floorMod_f86c9 17 = .ok (.ifCond .eq 8, 3) := by decide +kernel
theorem dJ9_floorMod_f86c9_20 : decode cJ9_floorMod_f86c9 20 = .ok (.lload 4, 2) := by decide +kernel
theorem dJ9_floorMod_f86c9_22 : decode cJ9_floorMod_f86c9 22 = .ok (.lload_n 2, 1) := by decide +kernel
theorem dJ9_floorMod_f86c9_23 : decode cJ9_floorMod_f86c9 23 = .ok (.ladd, 1) := by decide +kernel
theorem dJ9_floorMod_f86c9_24 : decode cJ9_floorMod_f86c9 24 = .ok (.lreturn, 1) := by decide +kernel
set_option maxHeartbeats 4000000 in
set_option maxRecDepth 100000 in
/-- floorMod -/
theorem c_J9_floorMod_f86c9 (l : Launch) (hfl : l.stackTraces = false) (D : va_G) (sz : Nat) (p0 p1 : Int64) (hy : ¬ p1 = 0) : Met l yJ9_floorMod_f86c9 (Cond.code yJ9_floorMod_f86c9 cJ9_floorMod_f86c9 6 (some .long) :: pv_W) ({ frames := 0, cells := 0, slots := 0, locals := 0 } : Room) (va_Pc [.long p0, .long p1] (pv_P D [] [] (va_A [] sz) sz)) (va_Ql (fun _ (_ : Unit) => True) (fun _ _ => True) (va_A [] sz)) 0 0 (va_A [] sz) := by
  refine pv_ofWF (cc := cJ9_floorMod_f86c9) (maxL := 6) (ret := (some .long)) (by decide +kernel) rfl ?_
  intro p e s m args below meth c s₁ B hml hv
  obtain ⟨rfl, hsz, hE, hP, hK, hD0⟩ := hv
  have hx := B.exec
  have hb := B.bytes
  have hr := B.returns
  have hts := fun (w : Cond) (h : w ∈ pv_W) => atoms_spec (ws := Cond.code yJ9_floorMod_f86c9 cJ9_floorMod_f86c9 6 (some .long) :: pv_W) B.pre w (List.mem_cons_of_mem _ h)
  have hg := fun {w : Cond} (h : w ∈ lw_tbl) (g : goodWord w = true) => hts w (pv_in h g)
  have hown : s.vm.findClass RJ9 = some m.cls := findClass_of_methodNamed B.named
  have hlocks := B.notSynchronized
  subst hsz
  have hD := hD0.self (sz := s.heap.size)
  generalize hAe : va_A [] s.heap.size = A at hD hE ⊢
  have hA : ∀ q : Nat, s.heap.size ≤ q → A q := fun q h => by rw [← hAe]; exact Or.inr h
  have hS : va_S A s.heap s.heap [] := va_S.rf
  have hP : va_P D pv_cl [] s.heap := hP
  have hl := lv_entry ([.long p0, .long p1]) (n := 6) (Nat.le_of_ble_eq_true rfl)
  rw [lg_entry_eq]
  generalize (lg_sl ([.long p0, .long p1]) ++ List.replicate (6 - (lg_sl ([.long p0, .long p1])).length) Slot.unset).toArray = ls at hl ⊢
  have hl : lv_has ls 6 [(0, .long p0), (2, .long p1)] := hl
  refine lv_lload_n hx hb dJ9_floorMod_f86c9_0 rfl (lv_at hl 0 rfl) ?_
  refine lv_lload_n hx hb dJ9_floorMod_f86c9_1 rfl (lv_at hl 1 rfl) ?_
  refine lv_lrem hx hb dJ9_floorMod_f86c9_2 hy ?_
  refine lv_topl (fun x_1 ex_1 => ?_)
  refine lv_lstore (lv' := [(4, .long x_1), (0, .long p0), (2, .long p1)]) hx hb dJ9_floorMod_f86c9_3 hl (by decide) rfl (fun ls hl => ?_)
  refine lv_lload_n hx hb dJ9_floorMod_f86c9_5 rfl (lv_at hl 1 rfl) ?_
  refine lv_lload_n hx hb dJ9_floorMod_f86c9_6 rfl (lv_at hl 2 rfl) ?_
  refine lv_lxor hx hb dJ9_floorMod_f86c9_7 ?_
  refine lv_topl (fun x_2 ex_2 => ?_)
  refine lv_lconst (v := 0) hx hb dJ9_floorMod_f86c9_8 (by decide) ?_
  refine W.lcmp hx hb dJ9_floorMod_f86c9_9 ?_
  refine lv_topi (fun x_3 ex_3 => ?_)
  refine lv_if_ge (tgt := 25) hx hb dJ9_floorMod_f86c9_10 (by decide) (fun c_4 => ?_) (fun c_4 => ?_)
  · refine lv_lload hx hb dJ9_floorMod_f86c9_25 (lv_at hl 0 rfl) ?_
    refine W.widen (k := 0) (n := 0) (Nat.le_of_ble_eq_true rfl) (Nat.le_of_ble_eq_true rfl) ?_
    exact W.lret (v := x_1) hx hb hr (fun t ht hW => ⟨⟨x_1, (), rfl, trivial, trivial⟩, hS.F ht⟩) hS.2.2 dJ9_floorMod_f86c9_27
  · refine lv_lload hx hb dJ9_floorMod_f86c9_13 (lv_at hl 0 rfl) ?_
    refine lv_lconst (v := 0) hx hb dJ9_floorMod_f86c9_15 (by decide) ?_
    refine W.lcmp hx hb dJ9_floorMod_f86c9_16 ?_
    refine lv_topi (fun x_5 ex_5 => ?_)
    refine lv_if_eq (tgt := 25) hx hb dJ9_floorMod_f86c9_17 (by decide) (fun c_6 => ?_) (fun c_6 => ?_)
    · refine lv_lload hx hb dJ9_floorMod_f86c9_25 (lv_at hl 0 rfl) ?_
      refine W.widen (k := 0) (n := 0) (Nat.le_of_ble_eq_true rfl) (Nat.le_of_ble_eq_true rfl) ?_
      exact W.lret (v := x_1) hx hb hr (fun t ht hW => ⟨⟨x_1, (), rfl, trivial, trivial⟩, hS.F ht⟩) hS.2.2 dJ9_floorMod_f86c9_27
    · refine lv_lload hx hb dJ9_floorMod_f86c9_20 (lv_at hl 0 rfl) ?_
      refine lv_lload_n hx hb dJ9_floorMod_f86c9_22 rfl (lv_at hl 2 rfl) ?_
      refine lv_ladd hx hb dJ9_floorMod_f86c9_23 ?_
      refine lv_topl (fun x_7 ex_7 => ?_)
      refine W.widen (k := 0) (n := 0) (Nat.le_of_ble_eq_true rfl) (Nat.le_of_ble_eq_true rfl) ?_
      exact W.lret (v := x_7) hx hb hr (fun t ht hW => ⟨⟨x_7, (), rfl, trivial, trivial⟩, hS.F ht⟩) hS.2.2 dJ9_floorMod_f86c9_24

theorem dX11_mod_0 : decode cX11_mod 0 = .ok (.iload_n 2, 1) := by decide +kernel
theorem dX11_mod_1 : decode cX11_mod 1 = .ok (.ifCond .le 13, 3) := by decide +kernel
theorem dX11_mod_14 : decode cX11_mod 14 = .ok (.iconst 0, 1) := by decide +kernel
theorem dX11_mod_15 : decode cX11_mod 15 = .ok (.ireturn, 1) := by decide +kernel
theorem dX11_mod_4 : decode cX11_mod 4 = .ok (.lload_n 0, 1) := by decide +kernel
theorem dX11_mod_5 : decode cX11_mod 5 = .ok (.iload_n 2, 1) := by decide +kernel
theorem dX11_mod_6 : decode cX11_mod 6 = .ok (.i2l, 1) := by decide +kernel
theorem dX11_mod_7 : decode cX11_mod 7 = .ok (.invokestatic 531, 3) := by decide +kernel
theorem w2_181 : (Jvm.Cond.methodLink "Polyforge" (531 : Nat) ({ cls := "java/lang/Math", name := "floorMod", desc := "(JJ)J" } : Jvm.MethodName)) ∈ lw_tbl := pv_t2 (pv_mg 181 rfl)
theorem w2_183 : (Jvm.Cond.code ({ cls := "java/lang/Math", name := "floorMod", desc := "(JJ)J" } : Jvm.MethodName) prog_25_method_52_code (6 : Nat) (Option.some Jvm.ClassFile.FieldType.long)) ∈ lw_tbl := pv_t2 (pv_mg 183 rfl)
theorem w2_182 : (Jvm.Cond.static ({ cls := "java/lang/Math", name := "floorMod", desc := "(JJ)J" } : Jvm.MethodName)) ∈ lw_tbl := pv_t2 (pv_mg 182 rfl)
theorem w1_9 : (Jvm.Cond.initialized "java/lang/Math") ∈ lw_tbl := pv_t1 (pv_mg 9 rfl)
theorem dX11_mod_10 : decode cX11_mod 10 = .ok (.l2i, 1) := by decide +kernel
theorem dX11_mod_11 : decode cX11_mod 11 = .ok (.goto 4, 3) := by decide +kernel
set_option maxHeartbeats 4000000 in
set_option maxRecDepth 100000 in
/-- mod -/
theorem c_X11_mod (l : Launch) (hfl : l.stackTraces = false) (D : va_G) (sz : Nat) (p0 : Int64) (p1 : Int32) : Met l yX11_mod (Cond.code yX11_mod cX11_mod 3 (some .int) :: pv_W) ({ frames := 1, cells := 0, slots := 0, locals := 25 } : Room) (va_Pc [.long p0, .int p1] (pv_P D [] [] (va_A [] sz) sz)) (va_Qi (fun _ (_ : Unit) => True) (fun _ _ => True) (va_A [] sz)) 0 0 (va_A [] sz) := by
  refine Met.ofW (cc := cX11_mod) (maxL := 3) (ret := (some .int)) (by decide) rfl ?_
  intro p e s m args below meth c s₁ B hml hv
  obtain ⟨rfl, hsz, hE, hP, hK, hD0⟩ := hv
  have hx := B.exec
  have hb := B.bytes
  have hr := B.returns
  have hts := fun (w : Cond) (h : w ∈ pv_W) => atoms_spec (ws := Cond.code yX11_mod cX11_mod 3 (some .int) :: pv_W) B.pre w (List.mem_cons_of_mem _ h)
  have hg := fun {w : Cond} (h : w ∈ lw_tbl) (g : goodWord w = true) => hts w (pv_in h g)
  have hown : s.vm.findClass RX11 = some m.cls := findClass_of_methodNamed B.named
  have hlocks := B.notSynchronized
  subst hsz
  have hD := hD0.self (sz := s.heap.size)
  generalize hAe : va_A [] s.heap.size = A at hD hE ⊢
  have hA : ∀ q : Nat, s.heap.size ≤ q → A q := fun q h => by rw [← hAe]; exact Or.inr h
  have hS : va_S A s.heap s.heap [] := va_S.rf
  have hP : va_P D pv_cl [] s.heap := hP
  have hl := lv_entry ([.long p0, .int p1]) (n := 3) (Nat.le_of_ble_eq_true rfl)
  rw [lg_entry_eq]
  generalize (lg_sl ([.long p0, .int p1]) ++ List.replicate (3 - (lg_sl ([.long p0, .int p1])).length) Slot.unset).toArray = ls at hl ⊢
  have hl : lv_has ls 3 [(0, .long p0), (2, .int p1)] := hl
  refine lv_iload_n hx hb dX11_mod_0 rfl (lv_at hl 1 rfl) ?_
  refine lv_if_le (tgt := 14) hx hb dX11_mod_1 (by decide) (fun c_1 => ?_) (fun c_1 => ?_)
  · refine lv_iconst (v := 0) hx hb dX11_mod_14 (by decide) ?_
    refine W.widen (k := 0) (n := 0) (Nat.le_of_ble_eq_true rfl) (Nat.le_of_ble_eq_true rfl) ?_
    exact W.iret (v := 0) hx hb hr (fun t ht hW => ⟨⟨0, (), rfl, trivial, trivial⟩, hS.F ht⟩) hS.2.2 dX11_mod_15
  · refine lv_lload_n hx hb dX11_mod_4 rfl (lv_at hl 0 rfl) ?_
    refine lv_iload_n hx hb dX11_mod_5 rfl (lv_at hl 1 rfl) ?_
    refine lv_i2l hx hb dX11_mod_6 rfl ?_
    have hF := pv_new hA hS.1
    refine va_calll (va_runS (As := [.long p0, .long p1.toInt64]) (rest := []) ⟨hx, hb, hml, hown, hts⟩ (c_J9_floorMod_f86c9 l hfl D _ p0 p1.toInt64 (pv_l0 c_1)) (va_cwS 2 hts (pv_gS w2_181 w2_182 w1_9 w2_183) rfl rfl rfl (by decide +kernel) ⟨Nat.le_of_ble_eq_true rfl, Nat.le_of_ble_eq_true rfl⟩) (pv_ps hE hS hF (hP.sub [] rfl) (hK.sub [] rfl) (hD.sub [] (by decide) rfl)) rfl rfl hl.1 rfl (lv_room (Nat.le_of_ble_eq_true rfl)) dX11_mod_7 ⟨Nat.le_of_ble_eq_true rfl, Nat.le_of_ble_eq_true rfl⟩) hS (fun q _ h => hF q h) hF (fun r_1 u t H1 locs1 ht hvm hw hB hz1 hk1 hS => ?_)
    refine W.widen (k := 0) (n := 0) (Nat.le_of_ble_eq_true rfl) (Nat.le_of_ble_eq_true rfl) ?_
    have hP := pv_keep hP rfl hk1
    refine lv_l2i hx hb dX11_mod_10 rfl ?_
    refine lv_topi (fun x_3 ex_3 => ?_)
    refine lv_goto (tgt := 15) hx hb dX11_mod_11 (by decide) ?_
    refine W.widen (k := 0) (n := 0) (Nat.le_of_ble_eq_true rfl) (Nat.le_of_ble_eq_true rfl) ?_
    exact W.iret (v := x_3) hx hb hr (fun t ht hW => ⟨⟨x_3, (), rfl, trivial, trivial⟩, hS.F ht⟩) hS.2.2 dX11_mod_15

theorem dX9_isInRange_0 : decode cX9_isInRange 0 = .ok (.lload_n 0, 1) := by decide +kernel
theorem dX9_isInRange_1 : decode cX9_isInRange 1 = .ok (.ldc2_w 79, 3) := by decide +kernel
theorem w4_239 : (Jvm.Cond.constantLong "Polyforge$Slate" (79 : Nat) (-1000000000000 : Int64)) ∈ lw_tbl := pv_t4 (pv_mg 239 rfl)
theorem dX9_isInRange_4 : decode cX9_isInRange 4 = .ok (.lcmp, 1) := by decide +kernel
theorem dX9_isInRange_5 : decode cX9_isInRange 5 = .ok (.ifCond .lt 15, 3) := by decide +kernel
theorem dX9_isInRange_20 : decode cX9_isInRange 20 = .ok (.iconst 0, 1) := by decide +kernel
theorem dX9_isInRange_21 : decode cX9_isInRange 21 = .ok (.ireturn, 1) := by decide +kernel
theorem dX9_isInRange_8 : decode cX9_isInRange 8 = .ok (.lload_n 0, 1) := by decide +kernel
theorem dX9_isInRange_9 : decode cX9_isInRange 9 = .ok (.ldc2_w 81, 3) := by decide +kernel
theorem w5_0 : (Jvm.Cond.constantLong "Polyforge$Slate" (81 : Nat) (1000000000000 : Int64)) ∈ lw_tbl := pv_t5 (pv_mg 0 rfl)
theorem dX9_isInRange_12 : decode cX9_isInRange 12 = .ok (.lcmp, 1) := by decide +kernel
theorem dX9_isInRange_13 : decode cX9_isInRange 13 = .ok (.ifCond .gt 7, 3) := by decide +kernel
theorem dX9_isInRange_16 : decode cX9_isInRange 16 = .ok (.iconst 1, 1) := by decide +kernel
theorem dX9_isInRange_17 : decode cX9_isInRange 17 = .ok (.goto 4, 3) := by decide +kernel
set_option maxHeartbeats 4000000 in
set_option maxRecDepth 100000 in
/-- isInRange -/
theorem c_X9_isInRange (l : Launch) (hfl : l.stackTraces = false) (D : va_G) (sz : Nat) (p0 : Int64) : Met l yX9_isInRange (Cond.code yX9_isInRange cX9_isInRange 2 (some .boolean) :: pv_W) ({ frames := 0, cells := 0, slots := 0, locals := 0 } : Room) (va_Pc [.long p0] (pv_P D [] [] (va_A [] sz) sz)) (va_Qi (fun _ (_ : Unit) => True) (fun _ _ => True) (va_A [] sz)) 0 0 (va_A [] sz) := by
  refine Met.ofW (cc := cX9_isInRange) (maxL := 2) (ret := (some .boolean)) (by decide) rfl ?_
  intro p e s m args below meth c s₁ B hml hv
  obtain ⟨rfl, hsz, hE, hP, hK, hD0⟩ := hv
  have hx := B.exec
  have hb := B.bytes
  have hr := B.returns
  have hts := fun (w : Cond) (h : w ∈ pv_W) => atoms_spec (ws := Cond.code yX9_isInRange cX9_isInRange 2 (some .boolean) :: pv_W) B.pre w (List.mem_cons_of_mem _ h)
  have hg := fun {w : Cond} (h : w ∈ lw_tbl) (g : goodWord w = true) => hts w (pv_in h g)
  have hown : s.vm.findClass RX9 = some m.cls := findClass_of_methodNamed B.named
  have hlocks := B.notSynchronized
  subst hsz
  have hD := hD0.self (sz := s.heap.size)
  generalize hAe : va_A [] s.heap.size = A at hD hE ⊢
  have hA : ∀ q : Nat, s.heap.size ≤ q → A q := fun q h => by rw [← hAe]; exact Or.inr h
  have hS : va_S A s.heap s.heap [] := va_S.rf
  have hP : va_P D pv_cl [] s.heap := hP
  have hl := lv_entry ([.long p0]) (n := 2) (Nat.le_of_ble_eq_true rfl)
  rw [lg_entry_eq]
  generalize (lg_sl ([.long p0]) ++ List.replicate (2 - (lg_sl ([.long p0])).length) Slot.unset).toArray = ls at hl ⊢
  have hl : lv_has ls 2 [(0, .long p0)] := hl
  refine lv_lload_n hx hb dX9_isInRange_0 rfl (lv_at hl 0 rfl) ?_
  refine lv_ldc2 (own := RX9) (v := (-1000000000000)) hx hb hown (hg w4_239 rfl) dX9_isInRange_1 ?_
  refine W.lcmp hx hb dX9_isInRange_4 ?_
  refine lv_topi (fun x_1 ex_1 => ?_)
  refine lv_if_lt (tgt := 20) hx hb dX9_isInRange_5 (by decide) (fun c_2 => ?_) (fun c_2 => ?_)
  · refine lv_iconst (v := 0) hx hb dX9_isInRange_20 (by decide) ?_
    refine W.widen (k := 0) (n := 0) (Nat.le_of_ble_eq_true rfl) (Nat.le_of_ble_eq_true rfl) ?_
    exact W.zret (v := 0) (ty := .boolean) hx hb hr rfl (fun t ht hW => ⟨⟨0, (), rfl, trivial, trivial⟩, hS.F ht⟩) hS.2.2 dX9_isInRange_21
  · refine lv_lload_n hx hb dX9_isInRange_8 rfl (lv_at hl 0 rfl) ?_
    refine lv_ldc2 (own := RX9) (v := 1000000000000) hx hb hown (hg w5_0 rfl) dX9_isInRange_9 ?_
    refine W.lcmp hx hb dX9_isInRange_12 ?_
    refine lv_topi (fun x_3 ex_3 => ?_)
    refine lv_if_gt (tgt := 20) hx hb dX9_isInRange_13 (by decide) (fun c_4 => ?_) (fun c_4 => ?_)
    · refine lv_iconst (v := 0) hx hb dX9_isInRange_20 (by decide) ?_
      refine W.widen (k := 0) (n := 0) (Nat.le_of_ble_eq_true rfl) (Nat.le_of_ble_eq_true rfl) ?_
      exact W.zret (v := 0) (ty := .boolean) hx hb hr rfl (fun t ht hW => ⟨⟨0, (), rfl, trivial, trivial⟩, hS.F ht⟩) hS.2.2 dX9_isInRange_21
    · refine lv_iconst (v := 1) hx hb dX9_isInRange_16 (by decide) ?_
      refine lv_goto (tgt := 21) hx hb dX9_isInRange_17 (by decide) ?_
      refine W.widen (k := 0) (n := 0) (Nat.le_of_ble_eq_true rfl) (Nat.le_of_ble_eq_true rfl) ?_
      exact W.zret (v := 1) (ty := .boolean) hx hb hr rfl (fun t ht hW => ⟨⟨1, (), rfl, trivial, trivial⟩, hS.F ht⟩) hS.2.2 dX9_isInRange_21

theorem dX7_term_0 : decode cX7_term 0 = .ok (.lload_n 0, 1) := by decide +kernel
theorem dX7_term_1 : decode cX7_term 1 = .ok (.bipush 15, 2) := by decide +kernel
theorem dX7_term_3 : decode cX7_term 3 = .ok (.lshl, 1) := by decide +kernel
theorem dX7_term_4 : decode cX7_term 4 = .ok (.iload_n 2, 1) := by decide +kernel
theorem dX7_term_5 : decode cX7_term 5 = .ok (.sipush 32767, 3) := by decide +kernel
theorem dX7_term_8 : decode cX7_term 8 = .ok (.iand, 1) := by decide +kernel
theorem dX7_term_9 : decode cX7_term 9 = .ok (.i2l, 1) := by decide +kernel
theorem dX7_term_10 : decode cX7_term 10 = .ok (.lor, 1) := by decide +kernel
theorem dX7_term_11 : decode cX7_term 11 = .ok (.lreturn, 1) := by decide +kernel
set_option maxHeartbeats 4000000 in
set_option maxRecDepth 100000 in
/-- term -/
theorem c_X7_term (l : Launch) (hfl : l.stackTraces = false) (D : va_G) (sz : Nat) (p0 : Int64) (p1 : Int32) : Met l yX7_term (Cond.code yX7_term cX7_term 3 (some .long) :: pv_W) ({ frames := 0, cells := 0, slots := 0, locals := 0 } : Room) (va_Pc [.long p0, .int p1] (pv_P D [] [] (va_A [] sz) sz)) (va_Ql (fun _ (_ : Unit) => True) (fun _ _ => True) (va_A [] sz)) 0 0 (va_A [] sz) := by
  refine Met.ofW (cc := cX7_term) (maxL := 3) (ret := (some .long)) (by decide) rfl ?_
  intro p e s m args below meth c s₁ B hml hv
  obtain ⟨rfl, hsz, hE, hP, hK, hD0⟩ := hv
  have hx := B.exec
  have hb := B.bytes
  have hr := B.returns
  have hts := fun (w : Cond) (h : w ∈ pv_W) => atoms_spec (ws := Cond.code yX7_term cX7_term 3 (some .long) :: pv_W) B.pre w (List.mem_cons_of_mem _ h)
  have hg := fun {w : Cond} (h : w ∈ lw_tbl) (g : goodWord w = true) => hts w (pv_in h g)
  have hown : s.vm.findClass RX7 = some m.cls := findClass_of_methodNamed B.named
  have hlocks := B.notSynchronized
  subst hsz
  have hD := hD0.self (sz := s.heap.size)
  generalize hAe : va_A [] s.heap.size = A at hD hE ⊢
  have hA : ∀ q : Nat, s.heap.size ≤ q → A q := fun q h => by rw [← hAe]; exact Or.inr h
  have hS : va_S A s.heap s.heap [] := va_S.rf
  have hP : va_P D pv_cl [] s.heap := hP
  have hl := lv_entry ([.long p0, .int p1]) (n := 3) (Nat.le_of_ble_eq_true rfl)
  rw [lg_entry_eq]
  generalize (lg_sl ([.long p0, .int p1]) ++ List.replicate (3 - (lg_sl ([.long p0, .int p1])).length) Slot.unset).toArray = ls at hl ⊢
  have hl : lv_has ls 3 [(0, .long p0), (2, .int p1)] := hl
  refine lv_lload_n hx hb dX7_term_0 rfl (lv_at hl 0 rfl) ?_
  refine lv_bipush (v := 15) hx hb dX7_term_1 (by decide) ?_
  refine lv_lshl hx hb dX7_term_3 rfl ?_
  refine lv_topl (fun x_1 ex_1 => ?_)
  refine lv_iload_n hx hb dX7_term_4 rfl (lv_at hl 1 rfl) ?_
  refine lv_sipush (v := 32767) hx hb dX7_term_5 (by decide) ?_
  refine lv_iand hx hb dX7_term_8 ?_
  refine lv_topi (fun x_2 ex_2 => ?_)
  refine lv_i2l hx hb dX7_term_9 rfl ?_
  refine lv_lor hx hb dX7_term_10 ?_
  refine lv_topl (fun x_3 ex_3 => ?_)
  refine W.widen (k := 0) (n := 0) (Nat.le_of_ble_eq_true rfl) (Nat.le_of_ble_eq_true rfl) ?_
  exact W.lret (v := x_3) hx hb hr (fun t ht hW => ⟨⟨x_3, (), rfl, trivial, trivial⟩, hS.F ht⟩) hS.2.2 dX7_term_11

theorem dX7_unit_0 : decode cX7_unit 0 = .ok (.iload_n 0, 1) := by decide +kernel
theorem dX7_unit_1 : decode cX7_unit 1 = .ok (.ifCond .ne 9, 3) := by decide +kernel
theorem dX7_unit_10 : decode cX7_unit 10 = .ok (.iload_n 0, 1) := by decide +kernel
theorem dX7_unit_11 : decode cX7_unit 11 = .ok (.iconst 1, 1) := by decide +kernel
theorem dX7_unit_12 : decode cX7_unit 12 = .ok (.if_icmp .ne 8, 3) := by decide +kernel
theorem dX7_unit_20 : decode cX7_unit 20 = .ok (.iconst 1, 1) := by decide +kernel
theorem dX7_unit_21 : decode cX7_unit 21 = .ok (.ireturn, 1) := by decide +kernel
theorem dX7_unit_15 : decode cX7_unit 15 = .ok (.bipush 32, 2) := by decide +kernel
theorem dX7_unit_17 : decode cX7_unit 17 = .ok (.goto 4, 3) := by decide +kernel
theorem dX7_unit_4 : decode cX7_unit 4 = .ok (.sipush 1024, 3) := by decide +kernel
theorem dX7_unit_7 : decode cX7_unit 7 = .ok (.goto 14, 3) := by decide +kernel
set_option maxHeartbeats 4000000 in
set_option maxRecDepth 100000 in
/-- unit -/
theorem c_X7_unit (l : Launch) (hfl : l.stackTraces = false) (D : va_G) (sz : Nat) (p0 : Int32) : Met l yX7_unit (Cond.code yX7_unit cX7_unit 1 (some .int) :: pv_W) ({ frames := 0, cells := 0, slots := 0, locals := 0 } : Room) (va_Pc [.int p0] (pv_P D [] [] (va_A [] sz) sz)) (va_Qi (fun _ (_ : Unit) => True) (fun _ _ => True) (va_A [] sz)) 0 0 (va_A [] sz) := by
  refine Met.ofW (cc := cX7_unit) (maxL := 1) (ret := (some .int)) (by decide) rfl ?_
  intro p e s m args below meth c s₁ B hml hv
  obtain ⟨rfl, hsz, hE, hP, hK, hD0⟩ := hv
  have hx := B.exec
  have hb := B.bytes
  have hr := B.returns
  have hts := fun (w : Cond) (h : w ∈ pv_W) => atoms_spec (ws := Cond.code yX7_unit cX7_unit 1 (some .int) :: pv_W) B.pre w (List.mem_cons_of_mem _ h)
  have hg := fun {w : Cond} (h : w ∈ lw_tbl) (g : goodWord w = true) => hts w (pv_in h g)
  have hown : s.vm.findClass RX7 = some m.cls := findClass_of_methodNamed B.named
  have hlocks := B.notSynchronized
  subst hsz
  have hD := hD0.self (sz := s.heap.size)
  generalize hAe : va_A [] s.heap.size = A at hD hE ⊢
  have hA : ∀ q : Nat, s.heap.size ≤ q → A q := fun q h => by rw [← hAe]; exact Or.inr h
  have hS : va_S A s.heap s.heap [] := va_S.rf
  have hP : va_P D pv_cl [] s.heap := hP
  have hl := lv_entry ([.int p0]) (n := 1) (Nat.le_of_ble_eq_true rfl)
  rw [lg_entry_eq]
  generalize (lg_sl ([.int p0]) ++ List.replicate (1 - (lg_sl ([.int p0])).length) Slot.unset).toArray = ls at hl ⊢
  have hl : lv_has ls 1 [(0, .int p0)] := hl
  refine lv_iload_n hx hb dX7_unit_0 rfl (lv_at hl 0 rfl) ?_
  refine lv_if_ne (tgt := 10) hx hb dX7_unit_1 (by decide) (fun c_1 => ?_) (fun c_1 => ?_)
  · refine lv_iload_n hx hb dX7_unit_10 rfl (lv_at hl 0 rfl) ?_
    refine lv_iconst (v := 1) hx hb dX7_unit_11 (by decide) ?_
    refine lv_icmp_ne (tgt := 20) hx hb dX7_unit_12 (by decide) (fun c_2 => ?_) (fun c_2 => ?_)
    · refine lv_iconst (v := 1) hx hb dX7_unit_20 (by decide) ?_
      refine W.widen (k := 0) (n := 0) (Nat.le_of_ble_eq_true rfl) (Nat.le_of_ble_eq_true rfl) ?_
      exact W.iret (v := 1) hx hb hr (fun t ht hW => ⟨⟨1, (), rfl, trivial, trivial⟩, hS.F ht⟩) hS.2.2 dX7_unit_21
    · refine lv_bipush (v := 32) hx hb dX7_unit_15 (by decide) ?_
      refine lv_goto (tgt := 21) hx hb dX7_unit_17 (by decide) ?_
      refine W.widen (k := 0) (n := 0) (Nat.le_of_ble_eq_true rfl) (Nat.le_of_ble_eq_true rfl) ?_
      exact W.iret (v := 32) hx hb hr (fun t ht hW => ⟨⟨32, (), rfl, trivial, trivial⟩, hS.F ht⟩) hS.2.2 dX7_unit_21
  · refine lv_sipush (v := 1024) hx hb dX7_unit_4 (by decide) ?_
    refine lv_goto (tgt := 21) hx hb dX7_unit_7 (by decide) ?_
    refine W.widen (k := 0) (n := 0) (Nat.le_of_ble_eq_true rfl) (Nat.le_of_ble_eq_true rfl) ?_
    exact W.iret (v := 1024) hx hb hr (fun t ht hW => ⟨⟨1024, (), rfl, trivial, trivial⟩, hS.F ht⟩) hS.2.2 dX7_unit_21

theorem dX11_roomy_0 : decode cX11_roomy 0 = .ok (.iload_n 1, 1) := by decide +kernel
theorem dX11_roomy_1 : decode cX11_roomy 1 = .ok (.aload_n 0, 1) := by decide +kernel
theorem dX11_roomy_2 : decode cX11_roomy 2 = .ok (.arraylength, 1) := by decide +kernel
theorem dX11_roomy_3 : decode cX11_roomy 3 = .ok (.if_icmp .gt 5, 3) := by decide +kernel
theorem dX11_roomy_6 : decode cX11_roomy 6 = .ok (.aload_n 0, 1) := by decide +kernel
theorem dX11_roomy_7 : decode cX11_roomy 7 = .ok (.areturn, 1) := by decide +kernel
set_option maxHeartbeats 4000000 in
set_option maxRecDepth 100000 in
/-- roomy, of a row that is long enough -/
theorem c_X11_roomy (l : Launch) (hfl : l.stackTraces = false) (D : va_G) (sz : Nat) (h0 : Nat) (cJ : ClassId) (f : Nat → Int64) : Met l yX11_roomy (Cond.code yX11_roomy cX11_roomy 2 (some (.array .long)) :: pv_W) ({ frames := 0, cells := 0, slots := 0, locals := 0 } : Room) (va_Pc [.ref h0, .int 1] (pv_P D [(cJ, .long)] [(h0, .inl (cJ, 64, .inr (.inl f)))] (va_A [] sz) sz)) (va_Qr (fun (_ : Unit) => True) (fun _ a _ => a = h0) (va_A [] sz)) 0 0 (va_A [] sz) := by
  refine Met.ofW (cc := cX11_roomy) (maxL := 2) (ret := (some (.array .long))) (by decide) rfl ?_
  intro p e s m args below meth c s₁ B hml hv
  obtain ⟨rfl, hsz, hE, hP, hK, hD0⟩ := hv
  have hx := B.exec
  have hb := B.bytes
  have hr := B.returns
  have hts := fun (w : Cond) (h : w ∈ pv_W) => atoms_spec (ws := Cond.code yX11_roomy cX11_roomy 2 (some (.array .long)) :: pv_W) B.pre w (List.mem_cons_of_mem _ h)
  have hg := fun {w : Cond} (h : w ∈ lw_tbl) (g : goodWord w = true) => hts w (pv_in h g)
  have hown : s.vm.findClass RX11 = some m.cls := findClass_of_methodNamed B.named
  have hlocks := B.notSynchronized
  subst hsz
  have hD := hD0
  generalize hAe : va_A [] s.heap.size = A at hE ⊢
  have hA : ∀ q : Nat, s.heap.size ≤ q → A q := fun q h => by rw [← hAe]; exact Or.inr h
  have hS : va_S A s.heap s.heap [] := va_S.rf
  have hP : va_P D pv_cl [(h0, .inl (cJ, 64, .inr (.inl f)))] s.heap := hP
  have hl := lv_entry ([.ref h0, .int 1]) (n := 2) (Nat.le_of_ble_eq_true rfl)
  rw [lg_entry_eq]
  generalize (lg_sl ([.ref h0, .int 1]) ++ List.replicate (2 - (lg_sl ([.ref h0, .int 1])).length) Slot.unset).toArray = ls at hl ⊢
  have hl : lv_has ls 2 [(0, .ref h0), (1, .int 1)] := hl
  refine lv_iload_n hx hb dX11_roomy_0 rfl (lv_at hl 1 rfl) ?_
  refine lv_aload_n hx hb dX11_roomy_1 rfl (lv_at hl 0 rfl) ?_
  refine va_alen hx hb hK hP 0 0 rfl rfl (v := 64) rfl dX11_roomy_2 ?_
  refine lv_icmp_gt (tgt := 8) hx hb dX11_roomy_3 (by decide) (fun c_1 => absurd c_1 (by decide)) (fun _ => ?_)
  refine lv_aload_n hx hb dX11_roomy_6 rfl (lv_at hl 0 rfl) ?_
  refine W.widen (k := 0) (n := 0) (Nat.le_of_ble_eq_true rfl) (Nat.le_of_ble_eq_true rfl) ?_
  exact W.aret (v := .ref h0) hx hb hr (Or.inr ⟨_, rfl⟩) (Or.inr ⟨_, rfl⟩) (fun t ht hW => ⟨⟨(), h0, rfl, trivial, rfl⟩, hS.F ht⟩) hS.2.2 dX11_roomy_7

theorem dX9_begin_0 : decode cX9_begin 0 = .ok (.aload_n 0, 1) := by decide +kernel
theorem dX9_begin_1 : decode cX9_begin 1 = .ok (.iload_n 1, 1) := by decide +kernel
theorem dX9_begin_2 : decode cX9_begin 2 = .ok (.putfield 32, 3) := by decide +kernel
theorem w1_58 : (Jvm.Cond.fieldLink "Polyforge$Slate" (32 : Nat) "Polyforge$Slate" "ground" "I") ∈ lw_tbl := pv_t1 (pv_mg 58 rfl)
theorem dX9_begin_5 : decode cX9_begin 5 = .ok (.aload_n 0, 1) := by decide +kernel
theorem dX9_begin_6 : decode cX9_begin 6 = .ok (.iconst 0, 1) := by decide +kernel
theorem dX9_begin_7 : decode cX9_begin 7 = .ok (.putfield 28, 3) := by decide +kernel
theorem w1_56 : (Jvm.Cond.fieldLink "Polyforge$Slate" (28 : Nat) "Polyforge$Slate" "length" "I") ∈ lw_tbl := pv_t1 (pv_mg 56 rfl)
theorem dX9_begin_10 : decode cX9_begin 10 = .ok (.return_, 1) := by decide +kernel
set_option maxHeartbeats 4000000 in
set_option maxRecDepth 100000 in
/-- begin -/
theorem c_X9_begin (l : Launch) (hfl : l.stackTraces = false) (D : va_G) (sz : Nat) (h0 : Nat) (w : Nat → Nat) (p0 : Int32) : Met l yX9_begin (Cond.code yX9_begin cX9_begin 2 none :: pv_W) ({ frames := 0, cells := 0, slots := 0, locals := 0 } : Room) (va_Pc [.ref h0, .int p0] (pv_P D [] [(h0, .inr (2, [.ref (w 0), .ref (w 1), .ref (w 2), .ref (w 3), .int 0, .int 0]))] (va_A [(h0, .inr (2, [.ref (w 0), .ref (w 1), .ref (w 2), .ref (w 3), .int 0, .int 0]))] sz) sz)) (va_Qv (fun (_ : Unit) => True) (fun _ t => va_P D pv_cl [(h0, .inr (2, [.ref (w 0), .ref (w 1), .ref (w 2), .ref (w 3), .int 0, .int p0]))] t.heap ∧ va_K D pv_cl [] t ∧ va_D (va_A [(h0, .inr (2, [.ref (w 0), .ref (w 1), .ref (w 2), .ref (w 3), .int 0, .int 0]))] sz) [(h0, .inr (2, [.ref (w 0), .ref (w 1), .ref (w 2), .ref (w 3), .int 0, .int p0]))]) (va_A [(h0, .inr (2, [.ref (w 0), .ref (w 1), .ref (w 2), .ref (w 3), .int 0, .int 0]))] sz)) 0 0 (va_A [(h0, .inr (2, [.ref (w 0), .ref (w 1), .ref (w 2), .ref (w 3), .int 0, .int 0]))] sz) := by
  refine Met.ofW (cc := cX9_begin) (maxL := 2) (ret := none) (by decide) rfl ?_
  intro p e s m args below meth c s₁ B hml hv
  obtain ⟨rfl, hsz, hE, hP, hK, hD0⟩ := hv
  have hx := B.exec
  have hb := B.bytes
  have hr := B.returns
  have hts := fun (w : Cond) (h : w ∈ pv_W) => atoms_spec (ws := Cond.code yX9_begin cX9_begin 2 none :: pv_W) B.pre w (List.mem_cons_of_mem _ h)
  have hg := fun {w : Cond} (h : w ∈ lw_tbl) (g : goodWord w = true) => hts w (pv_in h g)
  have hown : s.vm.findClass RX9 = some m.cls := findClass_of_methodNamed B.named
  have hlocks := B.notSynchronized
  subst hsz
  have hD := hD0.self (sz := s.heap.size)
  generalize hAe : va_A [(h0, .inr (2, [.ref (w 0), .ref (w 1), .ref (w 2), .ref (w 3), .int 0, .int 0]))] s.heap.size = A at hD hE ⊢
  have hA : ∀ q : Nat, s.heap.size ≤ q → A q := fun q h => by rw [← hAe]; exact Or.inr h
  have hS : va_S A s.heap s.heap [] := va_S.rf
  have hP : va_P D pv_cl [(h0, .inr (2, [.ref (w 0), .ref (w 1), .ref (w 2), .ref (w 3), .int 0, .int 0]))] s.heap := hP
  have hl := lv_entry ([.ref h0, .int p0]) (n := 2) (Nat.le_of_ble_eq_true rfl)
  rw [lg_entry_eq]
  generalize (lg_sl ([.ref h0, .int p0]) ++ List.replicate (2 - (lg_sl ([.ref h0, .int p0])).length) Slot.unset).toArray = ls at hl ⊢
  have hl : lv_has ls 2 [(0, .ref h0), (1, .int p0)] := hl
  refine lv_aload_n hx hb dX9_begin_0 rfl (lv_at hl 0 rfl) ?_
  refine lv_iload_n hx hb dX9_begin_1 rfl (lv_at hl 1 rfl) ?_
  refine va_put (own := RX9) (D := D) (ci := 2) (v := .int p0) (ty := .int) (C := RX9) (T := TX9) (N := 6) hx hb hts inF9 tyX9 tyX9_ok nmX9 hown hK hP hD hS 0 rfl rfl 5 (by decide) (hg w1_58 rfl) (fun _ h9 => h9) rfl (by decide +kernel) rfl rfl (Nat.le_of_ble_eq_true rfl) dX9_begin_2 (fun H locs hP hD hS => ?_)
  have hP : va_P D pv_cl [(h0, .inr (2, [.ref (w 0), .ref (w 1), .ref (w 2), .ref (w 3), .int 0, .int p0]))] _ := hP
  have hD : va_D A [(h0, .inr (2, [.ref (w 0), .ref (w 1), .ref (w 2), .ref (w 3), .int 0, .int p0]))] := hD
  refine lv_aload_n hx hb dX9_begin_5 rfl (lv_at hl 0 rfl) ?_
  refine lv_iconst (v := 0) hx hb dX9_begin_6 (by decide) ?_
  refine va_put (own := RX9) (D := D) (ci := 2) (v := .int 0) (ty := .int) (C := RX9) (T := TX9) (N := 6) hx hb hts inF9 tyX9 tyX9_ok nmX9 hown hK hP hD hS 0 rfl rfl 4 (by decide) (hg w1_56 rfl) (fun _ h9 => h9) rfl (by decide +kernel) rfl rfl (Nat.le_of_ble_eq_true rfl) dX9_begin_7 (fun H locs hP hD hS => ?_)
  have hP : va_P D pv_cl [(h0, .inr (2, [.ref (w 0), .ref (w 1), .ref (w 2), .ref (w 3), .int 0, .int p0]))] _ := hP
  have hD : va_D A [(h0, .inr (2, [.ref (w 0), .ref (w 1), .ref (w 2), .ref (w 3), .int 0, .int p0]))] := hD
  refine W.widen (k := 0) (n := 0) (Nat.le_of_ble_eq_true rfl) (Nat.le_of_ble_eq_true rfl) ?_
  exact W.vret hx hb hr (fun t ht hW => ⟨⟨(), rfl, trivial, (by rw [ht]; exact hP.sub [0] rfl), va_K.moved hW.alike (hK.sub [] rfl), hD.sub [0] (by decide) rfl⟩, hS.F ht⟩) hS.2.2 dX9_begin_10

theorem dX9_settled_0 : decode cX9_settled 0 = .ok (.aload_n 0, 1) := by decide +kernel
theorem dX9_settled_1 : decode cX9_settled 1 = .ok (.getfield 32, 3) := by decide +kernel
theorem dX9_settled_4 : decode cX9_settled 4 = .ok (.ifCond .ne 7, 3) := by decide +kernel
theorem dX9_settled_11 : decode cX9_settled 11 = .ok (.lload_n 1, 1) := by decide +kernel
theorem dX9_settled_12 : decode cX9_settled 12 = .ok (.aload_n 0, 1) := by decide +kernel
theorem dX9_settled_13 : decode cX9_settled 13 = .ok (.getfield 32, 3) := by decide +kernel
theorem dX9_settled_16 : decode cX9_settled 16 = .ok (.invokestatic 83, 3) := by decide +kernel
theorem w4_235 : (Jvm.Cond.methodLinkNest "Polyforge$Slate" (83 : Nat) ({ cls := "Polyforge", name := "mod", desc := "(JI)I" } : Jvm.MethodName) "Polyforge") ∈ lw_tbl := pv_t4 (pv_mg 235 rfl)
theorem w2_180 : (Jvm.Cond.code ({ cls := "Polyforge", name := "mod", desc := "(JI)I" } : Jvm.MethodName) prog_1_method_84_code (3 : Nat) (Option.some Jvm.ClassFile.FieldType.int)) ∈ lw_tbl := pv_t2 (pv_mg 180 rfl)
theorem w2_179 : (Jvm.Cond.static ({ cls := "Polyforge", name := "mod", desc := "(JI)I" } : Jvm.MethodName)) ∈ lw_tbl := pv_t2 (pv_mg 179 rfl)
theorem dX9_settled_19 : decode cX9_settled 19 = .ok (.i2l, 1) := by decide +kernel
theorem dX9_settled_20 : decode cX9_settled 20 = .ok (.lreturn, 1) := by decide +kernel
theorem dX9_settled_7 : decode cX9_settled 7 = .ok (.lload_n 1, 1) := by decide +kernel
theorem dX9_settled_8 : decode cX9_settled 8 = .ok (.goto 12, 3) := by decide +kernel
set_option maxHeartbeats 4000000 in
set_option maxRecDepth 100000 in
/-- settled -/
theorem c_X9_settled (l : Launch) (hfl : l.stackTraces = false) (D : va_G) (sz : Nat) (h0 : Nat) (w : Nat → Nat) (g0 : Int32) (p0 : Int64) : Met l yX9_settled (Cond.code yX9_settled cX9_settled 3 (some .long) :: pv_W) ({ frames := 2, cells := 0, slots := 0, locals := 47 } : Room) (va_Pc [.ref h0, .long p0] (pv_P D [] [(h0, .inr (2, [.ref (w 0), .ref (w 1), .ref (w 2), .ref (w 3), .int 0, .int g0]))] (va_A [] sz) sz)) (va_Ql (fun _ (_ : Unit) => True) (fun _ _ => True) (va_A [] sz)) 0 0 (va_A [] sz) := by
  refine Met.ofW (cc := cX9_settled) (maxL := 3) (ret := (some .long)) (by decide) rfl ?_
  intro p e s m args below meth c s₁ B hml hv
  obtain ⟨rfl, hsz, hE, hP, hK, hD0⟩ := hv
  have hx := B.exec
  have hb := B.bytes
  have hr := B.returns
  have hts := fun (w : Cond) (h : w ∈ pv_W) => atoms_spec (ws := Cond.code yX9_settled cX9_settled 3 (some .long) :: pv_W) B.pre w (List.mem_cons_of_mem _ h)
  have hg := fun {w : Cond} (h : w ∈ lw_tbl) (g : goodWord w = true) => hts w (pv_in h g)
  have hown : s.vm.findClass RX9 = some m.cls := findClass_of_methodNamed B.named
  have hlocks := B.notSynchronized
  subst hsz
  have hD := hD0
  generalize hAe : va_A [] s.heap.size = A at hE ⊢
  have hA : ∀ q : Nat, s.heap.size ≤ q → A q := fun q h => by rw [← hAe]; exact Or.inr h
  have hS : va_S A s.heap s.heap [] := va_S.rf
  have hP : va_P D pv_cl [(h0, .inr (2, [.ref (w 0), .ref (w 1), .ref (w 2), .ref (w 3), .int 0, .int g0]))] s.heap := hP
  have hl := lv_entry ([.ref h0, .long p0]) (n := 3) (Nat.le_of_ble_eq_true rfl)
  rw [lg_entry_eq]
  generalize (lg_sl ([.ref h0, .long p0]) ++ List.replicate (3 - (lg_sl ([.ref h0, .long p0])).length) Slot.unset).toArray = ls at hl ⊢
  have hl : lv_has ls 3 [(0, .ref h0), (1, .long p0)] := hl
  refine lv_aload_n hx hb dX9_settled_0 rfl (lv_at hl 0 rfl) ?_
  refine va_get (own := RX9) (D := D) (ci := 2) (v := .int g0) (C := RX9) (T := TX9) (N := 6) hx hb hts inF9 hown hK hP 0 rfl rfl 5 (by decide) (hg w1_58 rfl) (fun _ h9 => h9) rfl dX9_settled_1 ?_
  refine lv_if_ne (tgt := 11) hx hb dX9_settled_4 (by decide) (fun c_1 => ?_) (fun c_1 => ?_)
  · refine lv_lload_n hx hb dX9_settled_11 rfl (lv_at hl 1 rfl) ?_
    refine lv_aload_n hx hb dX9_settled_12 rfl (lv_at hl 0 rfl) ?_
    refine va_get (own := RX9) (D := D) (ci := 2) (v := .int g0) (C := RX9) (T := TX9) (N := 6) hx hb hts inF9 hown hK hP 0 rfl rfl 5 (by decide) (hg w1_58 rfl) (fun _ h9 => h9) rfl dX9_settled_13 ?_
    have hF := pv_new hA hS.1
    refine va_calli (va_runSN (As := [.long p0, .int g0]) (rest := []) ⟨hx, hb, hml, hown, hts⟩ (c_X11_mod l hfl D _ p0 g0) ⟨(va_cnB 2 hts (pv_gC w2_180) rfl rfl rfl (hE.2.2.1 _ (pv_ib w4_235 rfl)) (hg w1_1 rfl) (by decide +kernel) ⟨Nat.le_of_ble_eq_true rfl, Nat.le_of_ble_eq_true rfl⟩), hg w2_179 rfl, trivial⟩ (pv_ps hE hS hF (hP.sub [] rfl) (hK.sub [] rfl) (hD.sub [] (by decide) rfl)) rfl rfl hl.1 rfl (lv_room (Nat.le_of_ble_eq_true rfl)) dX9_settled_16 ⟨Nat.le_of_ble_eq_true rfl, Nat.le_of_ble_eq_true rfl⟩) hS (fun q _ h => hF q h) hF (fun r_1 u t H1 locs1 ht hvm hw hB hz1 hk1 hS => ?_)
    refine W.widen (k := 0) (n := 0) (Nat.le_of_ble_eq_true rfl) (Nat.le_of_ble_eq_true rfl) ?_
    have hP := pv_keep hP rfl hk1
    refine lv_i2l hx hb dX9_settled_19 rfl ?_
    refine W.widen (k := 0) (n := 0) (Nat.le_of_ble_eq_true rfl) (Nat.le_of_ble_eq_true rfl) ?_
    exact W.lret (v := r_1.toInt64) hx hb hr (fun t ht hW => ⟨⟨r_1.toInt64, (), rfl, trivial, trivial⟩, hS.F ht⟩) hS.2.2 dX9_settled_20
  · refine lv_lload_n hx hb dX9_settled_7 rfl (lv_at hl 1 rfl) ?_
    refine lv_goto (tgt := 20) hx hb dX9_settled_8 (by decide) ?_
    refine W.widen (k := 0) (n := 0) (Nat.le_of_ble_eq_true rfl) (Nat.le_of_ble_eq_true rfl) ?_
    exact W.lret (v := p0) hx hb hr (fun t ht hW => ⟨⟨p0, (), rfl, trivial, trivial⟩, hS.F ht⟩) hS.2.2 dX9_settled_20

theorem dX9_put_0 : decode cX9_put 0 = .ok (.aload_n 0, 1) := by decide +kernel
theorem dX9_put_1 : decode cX9_put 1 = .ok (.lload_n 1, 1) := by decide +kernel
theorem dX9_put_2 : decode cX9_put 2 = .ok (.invokevirtual 87, 3) := by decide +kernel
theorem w4_231 : (Jvm.Cond.methodLink "Polyforge$Slate" (87 : Nat) ({ cls := "Polyforge$Slate", name := "settled", desc := "(J)J" } : Jvm.MethodName)) ∈ lw_tbl := pv_t4 (pv_mg 231 rfl)
theorem w4_234 : (Jvm.Cond.code ({ cls := "Polyforge$Slate", name := "settled", desc := "(J)J" } : Jvm.MethodName) prog_11_method_9_code (3 : Nat) (Option.some Jvm.ClassFile.FieldType.long)) ∈ lw_tbl := pv_t4 (pv_mg 234 rfl)
theorem wp3_11 : Cond.selects "Polyforge$Slate" ⟨"Polyforge$Slate", "settled", "(J)J"⟩ ⟨"Polyforge$Slate", "settled", "(J)J"⟩ ∈ lw_tbl := pv_mg 43 rfl
theorem w4_233 : (Jvm.Cond.instanceMethod ({ cls := "Polyforge$Slate", name := "settled", desc := "(J)J" } : Jvm.MethodName)) ∈ lw_tbl := pv_t4 (pv_mg 233 rfl)
theorem w1_2 : (Jvm.Cond.initialized "Polyforge$Slate") ∈ lw_tbl := pv_t1 (pv_mg 2 rfl)
theorem dX9_put_5 : decode cX9_put 5 = .ok (.lstore 4, 2) := by decide +kernel
theorem dX9_put_7 : decode cX9_put 7 = .ok (.lload 4, 2) := by decide +kernel
theorem dX9_put_9 : decode cX9_put 9 = .ok (.invokestatic 90, 3) := by decide +kernel
theorem w4_236 : (Jvm.Cond.methodLink "Polyforge$Slate" (90 : Nat) ({ cls := "Polyforge$Slate", name := "isInRange", desc := "(J)Z" } : Jvm.MethodName)) ∈ lw_tbl := pv_t4 (pv_mg 236 rfl)
theorem w4_238 : (Jvm.Cond.code ({ cls := "Polyforge$Slate", name := "isInRange", desc := "(J)Z" } : Jvm.MethodName) prog_11_method_8_code (2 : Nat) (Option.some Jvm.ClassFile.FieldType.boolean)) ∈ lw_tbl := pv_t4 (pv_mg 238 rfl)
theorem w4_237 : (Jvm.Cond.static ({ cls := "Polyforge$Slate", name := "isInRange", desc := "(J)Z" } : Jvm.MethodName)) ∈ lw_tbl := pv_t4 (pv_mg 237 rfl)
theorem dX9_put_12 : decode cX9_put 12 = .ok (.ifCond .ne 5, 3) := by decide +kernel
theorem dX9_put_17 : decode cX9_put 17 = .ok (.lload 4, 2) := by decide +kernel
theorem dX9_put_19 : decode cX9_put 19 = .ok (.lconst 0, 1) := by decide +kernel
theorem dX9_put_20 : decode cX9_put 20 = .ok (.lcmp, 1) := by decide +kernel
theorem dX9_put_21 : decode cX9_put 21 = .ok (.ifCond .eq 45, 3) := by decide +kernel
theorem dX9_put_66 : decode cX9_put 66 = .ok (.iconst 1, 1) := by decide +kernel
theorem dX9_put_67 : decode cX9_put 67 = .ok (.ireturn, 1) := by decide +kernel
theorem dX9_put_24 : decode cX9_put 24 = .ok (.aload_n 0, 1) := by decide +kernel
theorem dX9_put_25 : decode cX9_put 25 = .ok (.aload_n 0, 1) := by decide +kernel
theorem dX9_put_26 : decode cX9_put 26 = .ok (.getfield 22, 3) := by decide +kernel
theorem w1_53 : (Jvm.Cond.fieldLink "Polyforge$Slate" (22 : Nat) "Polyforge$Slate" "result" "[J") ∈ lw_tbl := pv_t1 (pv_mg 53 rfl)
theorem dX9_put_29 : decode cX9_put 29 = .ok (.aload_n 0, 1) := by decide +kernel
theorem dX9_put_30 : decode cX9_put 30 = .ok (.getfield 28, 3) := by decide +kernel
theorem dX9_put_33 : decode cX9_put 33 = .ok (.iconst 1, 1) := by decide +kernel
theorem dX9_put_34 : decode cX9_put 34 = .ok (.iadd, 1) := by decide +kernel
theorem dX9_put_35 : decode cX9_put 35 = .ok (.invokestatic 43, 3) := by decide +kernel
theorem w5_1 : (Jvm.Cond.methodLinkNest "Polyforge$Slate" (43 : Nat) ({ cls := "Polyforge", name := "roomy", desc := "([JI)[J" } : Jvm.MethodName) "Polyforge") ∈ lw_tbl := pv_t5 (pv_mg 1 rfl)
theorem w3_83 : (Jvm.Cond.code ({ cls := "Polyforge", name := "roomy", desc := "([JI)[J" } : Jvm.MethodName) prog_1_method_91_code (2 : Nat) (Option.some (Jvm.ClassFile.FieldType.array Jvm.ClassFile.FieldType.long))) ∈ lw_tbl := pv_t3 (pv_mg 83 rfl)
theorem w3_82 : (Jvm.Cond.static ({ cls := "Polyforge", name := "roomy", desc := "([JI)[J" } : Jvm.MethodName)) ∈ lw_tbl := pv_t3 (pv_mg 82 rfl)
theorem dX9_put_38 : decode cX9_put 38 = .ok (.putfield 22, 3) := by decide +kernel
theorem dX9_put_41 : decode cX9_put 41 = .ok (.aload_n 0, 1) := by decide +kernel
theorem dX9_put_42 : decode cX9_put 42 = .ok (.getfield 22, 3) := by decide +kernel
theorem dX9_put_45 : decode cX9_put 45 = .ok (.aload_n 0, 1) := by decide +kernel
theorem dX9_put_46 : decode cX9_put 46 = .ok (.getfield 28, 3) := by decide +kernel
theorem dX9_put_49 : decode cX9_put 49 = .ok (.lload 4, 2) := by decide +kernel
theorem dX9_put_51 : decode cX9_put 51 = .ok (.iload_n 3, 1) := by decide +kernel
theorem dX9_put_52 : decode cX9_put 52 = .ok (.invokestatic 94, 3) := by decide +kernel
theorem w5_2 : (Jvm.Cond.methodLink "Polyforge$Slate" (94 : Nat) ({ cls := "Polyforge$Polynomial", name := "term", desc := "(JI)J" } : Jvm.MethodName)) ∈ lw_tbl := pv_t5 (pv_mg 2 rfl)
theorem w5_4 : (Jvm.Cond.code ({ cls := "Polyforge$Polynomial", name := "term", desc := "(JI)J" } : Jvm.MethodName) prog_9_method_7_code (3 : Nat) (Option.some Jvm.ClassFile.FieldType.long)) ∈ lw_tbl := pv_t5 (pv_mg 4 rfl)
theorem w5_3 : (Jvm.Cond.static ({ cls := "Polyforge$Polynomial", name := "term", desc := "(JI)J" } : Jvm.MethodName)) ∈ lw_tbl := pv_t5 (pv_mg 3 rfl)
theorem w1_17 : (Jvm.Cond.initialized "Polyforge$Polynomial") ∈ lw_tbl := pv_t1 (pv_mg 17 rfl)
theorem dX9_put_55 : decode cX9_put 55 = .ok (.lastore, 1) := by decide +kernel
theorem dX9_put_56 : decode cX9_put 56 = .ok (.aload_n 0, 1) := by decide +kernel
theorem dX9_put_57 : decode cX9_put 57 = .ok (.dup, 1) := by decide +kernel
theorem dX9_put_58 : decode cX9_put 58 = .ok (.getfield 28, 3) := by decide +kernel
theorem dX9_put_61 : decode cX9_put 61 = .ok (.iconst 1, 1) := by decide +kernel
theorem dX9_put_62 : decode cX9_put 62 = .ok (.iadd, 1) := by decide +kernel
theorem dX9_put_63 : decode cX9_put 63 = .ok (.putfield 28, 3) := by decide +kernel
theorem dX9_put_15 : decode cX9_put 15 = .ok (.iconst 0, 1) := by decide +kernel
theorem dX9_put_16 : decode cX9_put 16 = .ok (.ireturn, 1) := by decide +kernel
set_option maxHeartbeats 4000000 in
set_option maxRecDepth 100000 in
/-- put, on an empty slate -/
theorem c_X9_put (l : Launch) (hfl : l.stackTraces = false) (D : va_G) (sz : Nat) (h0 : Nat) (w : Nat → Nat) (cJ : ClassId) (f : Nat → Int64) (g0 : Int32) (p0 : Int64) (p1 : Int32) : Met l yX9_put (Cond.code yX9_put cX9_put 6 (some .boolean) :: pv_W) ({ frames := 3, cells := 0, slots := 0, locals := 69 } : Room) (va_Pc [.ref h0, .long p0, .int p1] (pv_P D [(cJ, .long)] [(h0, .inr (2, [.ref (w 0), .ref (w 1), .ref (w 2), .ref (w 3), .int 0, .int g0])), ((w 2), .inl (cJ, 64, .inr (.inl f)))] (va_A [(h0, .inr (2, [.ref (w 0), .ref (w 1), .ref (w 2), .ref (w 3), .int 0, .int g0])), ((w 2), .inl (cJ, 64, .inr (.inl f)))] sz) sz)) (va_Qi (fun (_ : Int32) (u : Int32 × (Nat → Int64)) => u.1 = 0 ∨ u.1 = 1) (fun u t => va_P D pv_cl [(h0, .inr (2, [.ref (w 0), .ref (w 1), .ref (w 2), .ref (w 3), .int u.1, .int g0])), ((w 2), .inl (cJ, 64, .inr (.inl u.2)))] t.heap ∧ va_K D pv_cl [(cJ, .long)] t ∧ va_D (va_A [(h0, .inr (2, [.ref (w 0), .ref (w 1), .ref (w 2), .ref (w 3), .int 0, .int g0])), ((w 2), .inl (cJ, 64, .inr (.inl f)))] sz) [(h0, .inr (2, [.ref (w 0), .ref (w 1), .ref (w 2), .ref (w 3), .int u.1, .int g0])), ((w 2), .inl (cJ, 64, .inr (.inl u.2)))]) (va_A [(h0, .inr (2, [.ref (w 0), .ref (w 1), .ref (w 2), .ref (w 3), .int 0, .int g0])), ((w 2), .inl (cJ, 64, .inr (.inl f)))] sz)) 0 0 (va_A [(h0, .inr (2, [.ref (w 0), .ref (w 1), .ref (w 2), .ref (w 3), .int 0, .int g0])), ((w 2), .inl (cJ, 64, .inr (.inl f)))] sz) := by
  refine Met.ofW (cc := cX9_put) (maxL := 6) (ret := (some .boolean)) (by decide) rfl ?_
  intro p e s m args below meth c s₁ B hml hv
  obtain ⟨rfl, hsz, hE, hP, hK, hD0⟩ := hv
  have hx := B.exec
  have hb := B.bytes
  have hr := B.returns
  have hts := fun (w : Cond) (h : w ∈ pv_W) => atoms_spec (ws := Cond.code yX9_put cX9_put 6 (some .boolean) :: pv_W) B.pre w (List.mem_cons_of_mem _ h)
  have hg := fun {w : Cond} (h : w ∈ lw_tbl) (g : goodWord w = true) => hts w (pv_in h g)
  have hown : s.vm.findClass RX9 = some m.cls := findClass_of_methodNamed B.named
  have hlocks := B.notSynchronized
  subst hsz
  have hD := hD0.self (sz := s.heap.size)
  generalize hAe : va_A [(h0, .inr (2, [.ref (w 0), .ref (w 1), .ref (w 2), .ref (w 3), .int 0, .int g0])), ((w 2), .inl (cJ, 64, .inr (.inl f)))] s.heap.size = A at hD hE ⊢
  have hA : ∀ q : Nat, s.heap.size ≤ q → A q := fun q h => by rw [← hAe]; exact Or.inr h
  have hS : va_S A s.heap s.heap [] := va_S.rf
  have hP : va_P D pv_cl [(h0, .inr (2, [.ref (w 0), .ref (w 1), .ref (w 2), .ref (w 3), .int 0, .int g0])), ((w 2), .inl (cJ, 64, .inr (.inl f)))] s.heap := hP
  have hl := lv_entry ([.ref h0, .long p0, .int p1]) (n := 6) (Nat.le_of_ble_eq_true rfl)
  rw [lg_entry_eq]
  generalize (lg_sl ([.ref h0, .long p0, .int p1]) ++ List.replicate (6 - (lg_sl ([.ref h0, .long p0, .int p1])).length) Slot.unset).toArray = ls at hl ⊢
  have hl : lv_has ls 6 [(0, .ref h0), (1, .long p0), (3, .int p1)] := hl
  refine lv_aload_n hx hb dX9_put_0 rfl (lv_at hl 0 rfl) ?_
  refine lv_lload_n hx hb dX9_put_1 rfl (lv_at hl 1 rfl) ?_
  have hF := pv_new hA hS.1
  refine va_calll (va_runV (As := [.long p0]) (rest := []) ⟨hx, hb, hml, hown, hts⟩ (c_X9_settled l hfl D _ h0 w g0 p0) (cwV 1 hts (pv_gV w4_231 w4_233 wp3_11 w1_2 w4_234) rfl rfl rfl (by decide +kernel) ⟨Nat.le_of_ble_eq_true rfl, Nat.le_of_ble_eq_true rfl⟩) (pv_pV hE hS hF (hP.sub [0] rfl) (hK.sub [] rfl) (hD.sub [0] (by decide) rfl) (va_recv (ci := 2) (q0 := 0) hK hP rfl rfl)) rfl rfl hl.1 rfl (lv_room (Nat.le_of_ble_eq_true rfl)) dX9_put_2 ⟨Nat.le_of_ble_eq_true rfl, Nat.le_of_ble_eq_true rfl⟩) hS (fun q _ h => hF q h) hF (fun r_0 u t H1 locs1 ht hvm hw hB hz1 hk1 hS => ?_)
  refine W.widen (k := 0) (n := 0) (Nat.le_of_ble_eq_true rfl) (Nat.le_of_ble_eq_true rfl) ?_
  have hP := pv_keep hP rfl hk1
  refine lv_lstore (lv' := [(4, .long r_0), (0, .ref h0), (1, .long p0), (3, .int p1)]) hx hb dX9_put_5 hl (by decide) rfl (fun ls hl => ?_)
  refine lv_lload hx hb dX9_put_7 (lv_at hl 0 rfl) ?_
  have hF := pv_new hA hS.1
  refine va_calli (va_runS (As := [.long r_0]) (rest := []) ⟨hx, hb, hml, hown, hts⟩ (c_X9_isInRange l hfl D _ r_0) (va_cwS 1 hts (pv_gS w4_236 w4_237 w1_2 w4_238) rfl rfl rfl (by decide +kernel) ⟨Nat.le_of_ble_eq_true rfl, Nat.le_of_ble_eq_true rfl⟩) (pv_ps hE hS hF (hP.sub [] rfl) (hK.sub [] rfl) (hD.sub [] (by decide) rfl)) rfl rfl hl.1 rfl (lv_room (Nat.le_of_ble_eq_true rfl)) dX9_put_9 ⟨Nat.le_of_ble_eq_true rfl, Nat.le_of_ble_eq_true rfl⟩) hS (fun q _ h => hF q h) hF (fun r_1 u t H1 locs1 ht hvm hw hB hz1 hk1 hS => ?_)
  refine W.widen (k := 0) (n := 0) (Nat.le_of_ble_eq_true rfl) (Nat.le_of_ble_eq_true rfl) ?_
  have hP := pv_keep hP rfl hk1
  refine lv_if_ne (tgt := 17) hx hb dX9_put_12 (by decide) (fun c_3 => ?_) (fun c_3 => ?_)
  · refine lv_lload hx hb dX9_put_17 (lv_at hl 0 rfl) ?_
    refine lv_lconst (v := 0) hx hb dX9_put_19 (by decide) ?_
    refine W.lcmp hx hb dX9_put_20 ?_
    refine lv_topi (fun x_4 ex_4 => ?_)
    refine lv_if_eq (tgt := 66) hx hb dX9_put_21 (by decide) (fun c_5 => ?_) (fun c_5 => ?_)
    · refine lv_iconst (v := 1) hx hb dX9_put_66 (by decide) ?_
      refine W.widen (k := 0) (n := 0) (Nat.le_of_ble_eq_true rfl) (Nat.le_of_ble_eq_true rfl) ?_
      exact W.zret (v := 1) (ty := .boolean) hx hb hr rfl (fun t ht hW => ⟨⟨1, (0, f), rfl, Or.inl rfl, (by rw [ht]; exact hP.sub [0, 1] rfl), va_K.moved hW.alike (hK.sub [0] rfl), hD.sub [0, 1] (by decide) rfl⟩, hS.F ht⟩) hS.2.2 dX9_put_67
    · refine lv_aload_n hx hb dX9_put_24 rfl (lv_at hl 1 rfl) ?_
      refine lv_aload_n hx hb dX9_put_25 rfl (lv_at hl 1 rfl) ?_
      refine va_get (own := RX9) (D := D) (ci := 2) (v := .ref (w 2)) (C := RX9) (T := TX9) (N := 6) hx hb hts inF9 hown hK hP 0 rfl rfl 2 (by decide) (hg w1_53 rfl) (fun _ h9 => h9) rfl dX9_put_26 ?_
      refine lv_aload_n hx hb dX9_put_29 rfl (lv_at hl 1 rfl) ?_
      refine va_get (own := RX9) (D := D) (ci := 2) (v := .int 0) (C := RX9) (T := TX9) (N := 6) hx hb hts inF9 hown hK hP 0 rfl rfl 4 (by decide) (hg w1_56 rfl) (fun _ h9 => h9) rfl dX9_put_30 ?_
      refine lv_iconst (v := 1) hx hb dX9_put_33 (by decide) ?_
      refine lv_iadd hx hb dX9_put_34 ?_
      refine pv_setI 1 (by decide) ?_
      have hF := pv_new hA hS.1
      refine va_callr (va_runSN (As := [.ref (w 2), .int 1]) (rest := [.ref h0]) ⟨hx, hb, hml, hown, hts⟩ (c_X11_roomy l hfl D _ (w 2) cJ f) ⟨(va_cnB 2 hts (pv_gC w3_83) rfl rfl rfl (hE.2.2.1 _ (pv_ib w5_1 rfl)) (hg w1_1 rfl) (by decide +kernel) ⟨Nat.le_of_ble_eq_true rfl, Nat.le_of_ble_eq_true rfl⟩), hg w3_82 rfl, trivial⟩ (pv_ps hE hS hF (hP.sub [1] rfl) (hK.sub [0] rfl) (hD.sub [1] (by decide) rfl)) rfl rfl hl.1 rfl (lv_room (Nat.le_of_ble_eq_true rfl)) dX9_put_35 ⟨Nat.le_of_ble_eq_true rfl, Nat.le_of_ble_eq_true rfl⟩) hS (fun q _ h => hF q h) hF (fun u ra_5 t H1 locs1 ht hvm hw hB hz1 hk1 hS => ?_)
      refine W.widen (k := 0) (n := 0) (Nat.le_of_ble_eq_true rfl) (Nat.le_of_ble_eq_true rfl) ?_
      have hP := pv_keep hP rfl hk1
      subst hB
      refine va_put (own := RX9) (D := D) (ci := 2) (v := .ref (w 2)) (ty := .array .long) (C := RX9) (T := TX9) (N := 6) hx hb hts inF9 tyX9 tyX9_ok nmX9 hown hK hP hD hS 0 rfl rfl 2 (by decide) (hg w1_53 rfl) (fun _ h9 => h9) rfl (by decide +kernel) rfl rfl (Nat.le_of_ble_eq_true rfl) dX9_put_38 (fun H locs hP hD hS => ?_)
      have hP : va_P D pv_cl [(h0, .inr (2, [.ref (w 0), .ref (w 1), .ref (w 2), .ref (w 3), .int 0, .int g0])), ((w 2), .inl (cJ, 64, .inr (.inl f)))] _ := hP
      have hD : va_D A [(h0, .inr (2, [.ref (w 0), .ref (w 1), .ref (w 2), .ref (w 3), .int 0, .int g0])), ((w 2), .inl (cJ, 64, .inr (.inl f)))] := hD
      refine lv_aload_n hx hb dX9_put_41 rfl (lv_at hl 1 rfl) ?_
      refine va_get (own := RX9) (D := D) (ci := 2) (v := .ref (w 2)) (C := RX9) (T := TX9) (N := 6) hx hb hts inF9 hown hK hP 0 rfl rfl 2 (by decide) (hg w1_53 rfl) (fun _ h9 => h9) rfl dX9_put_42 ?_
      refine lv_aload_n hx hb dX9_put_45 rfl (lv_at hl 1 rfl) ?_
      refine va_get (own := RX9) (D := D) (ci := 2) (v := .int 0) (C := RX9) (T := TX9) (N := 6) hx hb hts inF9 hown hK hP 0 rfl rfl 4 (by decide) (hg w1_56 rfl) (fun _ h9 => h9) rfl dX9_put_46 ?_
      refine lv_lload hx hb dX9_put_49 (lv_at hl 0 rfl) ?_
      refine lv_iload_n hx hb dX9_put_51 rfl (lv_at hl 3 rfl) ?_
      have hF := pv_new hA hS.1
      refine va_calll (va_runS (As := [.long r_0, .int p1]) (rest := [.int 0, .ref (w 2)]) ⟨hx, hb, hml, hown, hts⟩ (c_X7_term l hfl D _ r_0 p1) (va_cwS 2 hts (pv_gS w5_2 w5_3 w1_17 w5_4) rfl rfl rfl (by decide +kernel) ⟨Nat.le_of_ble_eq_true rfl, Nat.le_of_ble_eq_true rfl⟩) (pv_ps hE hS hF (hP.sub [] rfl) (hK.sub [] rfl) (hD.sub [] (by decide) rfl)) rfl rfl hl.1 rfl (lv_room (Nat.le_of_ble_eq_true rfl)) dX9_put_52 ⟨Nat.le_of_ble_eq_true rfl, Nat.le_of_ble_eq_true rfl⟩) hS (fun q _ h => hF q h) hF (fun r_6 u t H1 locs1 ht hvm hw hB hz1 hk1 hS => ?_)
      refine W.widen (k := 0) (n := 0) (Nat.le_of_ble_eq_true rfl) (Nat.le_of_ble_eq_true rfl) ?_
      have hP := pv_keep hP rfl hk1
      refine va_last hx hb hK hP hD hS 1 0 rfl rfl (by unfold vp_in; decide) dX9_put_55 (fun H locs hP hD hS => ?_)
      have hP : va_P D pv_cl [(h0, .inr (2, [.ref (w 0), .ref (w 1), .ref (w 2), .ref (w 3), .int 0, .int g0])), ((w 2), .inl (cJ, 64, .inr (.inl (vp_updL (f) (0 : Int32).toNatClampNeg r_6))))] _ := hP
      have hD : va_D A [(h0, .inr (2, [.ref (w 0), .ref (w 1), .ref (w 2), .ref (w 3), .int 0, .int g0])), ((w 2), .inl (cJ, 64, .inr (.inl (vp_updL (f) (0 : Int32).toNatClampNeg r_6))))] := hD
      refine lv_aload_n hx hb dX9_put_56 rfl (lv_at hl 1 rfl) ?_
      refine lv_dup hx hb dX9_put_57 rfl ?_
      refine va_get (own := RX9) (D := D) (ci := 2) (v := .int 0) (C := RX9) (T := TX9) (N := 6) hx hb hts inF9 hown hK hP 0 rfl rfl 4 (by decide) (hg w1_56 rfl) (fun _ h9 => h9) rfl dX9_put_58 ?_
      refine lv_iconst (v := 1) hx hb dX9_put_61 (by decide) ?_
      refine lv_iadd hx hb dX9_put_62 ?_
      refine pv_setI 1 (by decide) ?_
      refine va_put (own := RX9) (D := D) (ci := 2) (v := .int 1) (ty := .int) (C := RX9) (T := TX9) (N := 6) hx hb hts inF9 tyX9 tyX9_ok nmX9 hown hK hP hD hS 0 rfl rfl 4 (by decide) (hg w1_56 rfl) (fun _ h9 => h9) rfl (by decide +kernel) rfl rfl (Nat.le_of_ble_eq_true rfl) dX9_put_63 (fun H locs hP hD hS => ?_)
      have hP : va_P D pv_cl [(h0, .inr (2, [.ref (w 0), .ref (w 1), .ref (w 2), .ref (w 3), .int 1, .int g0])), ((w 2), .inl (cJ, 64, .inr (.inl (vp_updL (f) (0 : Int32).toNatClampNeg r_6))))] _ := hP
      have hD : va_D A [(h0, .inr (2, [.ref (w 0), .ref (w 1), .ref (w 2), .ref (w 3), .int 1, .int g0])), ((w 2), .inl (cJ, 64, .inr (.inl (vp_updL (f) (0 : Int32).toNatClampNeg r_6))))] := hD
      refine lv_iconst (v := 1) hx hb dX9_put_66 (by decide) ?_
      refine W.widen (k := 0) (n := 0) (Nat.le_of_ble_eq_true rfl) (Nat.le_of_ble_eq_true rfl) ?_
      exact W.zret (v := 1) (ty := .boolean) hx hb hr rfl (fun t ht hW => ⟨⟨1, (1, vp_updL (f) (0 : Int32).toNatClampNeg r_6), rfl, Or.inr rfl, (by rw [ht]; exact hP.sub [0, 1] rfl), va_K.moved hW.alike (hK.sub [0] rfl), hD.sub [0, 1] (by decide) rfl⟩, hS.F ht⟩) hS.2.2 dX9_put_67
  · refine lv_iconst (v := 0) hx hb dX9_put_15 (by decide) ?_
    refine W.widen (k := 0) (n := 0) (Nat.le_of_ble_eq_true rfl) (Nat.le_of_ble_eq_true rfl) ?_
    exact W.zret (v := 0) (ty := .boolean) hx hb hr rfl (fun t ht hW => ⟨⟨0, (0, f), rfl, Or.inl rfl, (by rw [ht]; exact hP.sub [0, 1] rfl), va_K.moved hW.alike (hK.sub [0] rfl), hD.sub [0, 1] (by decide) rfl⟩, hS.F ht⟩) hS.2.2 dX9_put_16

theorem dJ7_copyOf_c38d5_0 : decode cJ7_copyOf_c38d5 0 = .ok (.iload_n 1, 1) := by decide +kernel
theorem dJ7_copyOf_c38d5_1 : decode cJ7_copyOf_c38d5 1 = .ok (.aload_n 0, 1) := by decide +kernel
theorem dJ7_copyOf_c38d5_2 : decode cJ7_copyOf_c38d5 2 = .ok (.arraylength, 1) := by decide +kernel
theorem dJ7_copyOf_c38d5_3 : decode cJ7_copyOf_c38d5 3 = .ok (.if_icmp .ne 11, 3) := by decide +kernel
theorem dJ7_copyOf_c38d5_14 : decode cJ7_copyOf_c38d5 14 = .ok (.iload_n 1, 1) := by decide +kernel
theorem dJ7_copyOf_c38d5_15 : decode cJ7_copyOf_c38d5 15 = .ok (.newarray .long, 2) := by decide +kernel
theorem w1_75 : (Jvm.Cond.arrayClass Jvm.ClassFile.FieldType.long) ∈ lw_tbl := pv_t1 (pv_mg 75 rfl)
theorem dJ7_copyOf_c38d5_17 : decode cJ7_copyOf_c38d5 17 = .ok (.astore_n 2, 1) := by decide +kernel
theorem dJ7_copyOf_c38d5_18 : decode cJ7_copyOf_c38d5 18 = .ok (.aload_n 0, 1) := by decide +kernel
theorem dJ7_copyOf_c38d5_19 : decode cJ7_copyOf_c38d5 19 = .ok (.iconst 0, 1) := by decide +kernel
theorem dJ7_copyOf_c38d5_20 : decode cJ7_copyOf_c38d5 20 = .ok (.aload_n 2, 1) := by decide +kernel
theorem dJ7_copyOf_c38d5_21 : decode cJ7_copyOf_c38d5 21 = .ok (.iconst 0, 1) := by decide +kernel
theorem dJ7_copyOf_c38d5_22 : decode cJ7_copyOf_c38d5 22 = .ok (.aload_n 0, 1) := by decide +kernel
theorem dJ7_copyOf_c38d5_23 : decode cJ7_copyOf_c38d5 23 = .ok (.arraylength, 1) := by decide +kernel
theorem dJ7_copyOf_c38d5_24 : decode cJ7_copyOf_c38d5 24 = .ok (.iload_n 1, 1) := by decide +kernel
theorem dJ7_copyOf_c38d5_25 : decode cJ7_copyOf_c38d5 25 = .ok (.invokestatic 304, 3) := by decide +kernel
theorem w3_95 : (Jvm.Cond.methodLink "java/util/Arrays" (304 : Nat) ({ cls := "java/lang/Math", name := "min", desc := "(II)I" } : Jvm.MethodName)) ∈ lw_tbl := pv_t3 (pv_mg 95 rfl)
theorem w3_72 : (Jvm.Cond.static ({ cls := "java/lang/Math", name := "min", desc := "(II)I" } : Jvm.MethodName)) ∈ lw_tbl := pv_t3 (pv_mg 72 rfl)
theorem w3_73 : (Jvm.Cond.code ({ cls := "java/lang/Math", name := "min", desc := "(II)I" } : Jvm.MethodName) prog_25_method_69_code (2 : Nat) (Option.some Jvm.ClassFile.FieldType.int)) ∈ lw_tbl := pv_t3 (pv_mg 73 rfl)
theorem dJ7_copyOf_c38d5_28 : decode cJ7_copyOf_c38d5 28 = .ok (.invokestatic 150, 3) := by decide +kernel
theorem w3_96 : (Jvm.Cond.methodLink "java/util/Arrays" (150 : Nat) ({ cls := "java/lang/System", name := "arraycopy", desc := "(Ljava/lang/Object;ILjava/lang/Object;II)V" } : Jvm.MethodName)) ∈ lw_tbl := pv_t3 (pv_mg 96 rfl)
theorem w2_206 : (Jvm.Cond.native ({ cls := "java/lang/System", name := "arraycopy", desc := "(Ljava/lang/Object;ILjava/lang/Object;II)V" } : Jvm.MethodName)) ∈ lw_tbl := pv_t2 (pv_mg 206 rfl)
theorem w2_205 : (Jvm.Cond.static ({ cls := "java/lang/System", name := "arraycopy", desc := "(Ljava/lang/Object;ILjava/lang/Object;II)V" } : Jvm.MethodName)) ∈ lw_tbl := pv_t2 (pv_mg 205 rfl)
theorem w1_16 : (Jvm.Cond.initialized "java/lang/System") ∈ lw_tbl := pv_t1 (pv_mg 16 rfl)
theorem dJ7_copyOf_c38d5_31 : decode cJ7_copyOf_c38d5 31 = .ok (.aload_n 2, 1) := by decide +kernel
theorem dJ7_copyOf_c38d5_32 : decode cJ7_copyOf_c38d5 32 = .ok (.areturn, 1) := by decide +kernel
set_option maxHeartbeats 4000000 in
set_option maxRecDepth 100000 in
/-- copyOf(row, 0) -/
theorem c_J7_copyOf_0 (l : Launch) (hfl : l.stackTraces = false) (D : va_G) (sz : Nat) (h0 : Nat) (cJ : ClassId) (f : Nat → Int64) : Met l yJ7_copyOf_c38d5 (Cond.code yJ7_copyOf_c38d5 cJ7_copyOf_c38d5 3 (some (.array .long)) :: pv_W) ({ frames := 1, cells := 1, slots := 0, locals := 60 } : Room) (va_Pc [.ref h0, .int 0] (pv_P D [(cJ, .long)] [(h0, .inl (cJ, 64, .inr (.inl f)))] (va_A [(h0, .inl (cJ, 64, .inr (.inl f)))] sz) sz)) (va_Qr (fun (_ : Unit) => True) (fun _ _ _ => True) (va_A [(h0, .inl (cJ, 64, .inr (.inl f)))] sz)) 1 0 (va_A [(h0, .inl (cJ, 64, .inr (.inl f)))] sz) := by
  refine Met.ofW (cc := cJ7_copyOf_c38d5) (maxL := 3) (ret := (some (.array .long))) (by decide) rfl ?_
  intro p e s m args below meth c s₁ B hml hv
  obtain ⟨rfl, hsz, hE, hP, hK, hD0⟩ := hv
  have hx := B.exec
  have hb := B.bytes
  have hr := B.returns
  have hts := fun (w : Cond) (h : w ∈ pv_W) => atoms_spec (ws := Cond.code yJ7_copyOf_c38d5 cJ7_copyOf_c38d5 3 (some (.array .long)) :: pv_W) B.pre w (List.mem_cons_of_mem _ h)
  have hg := fun {w : Cond} (h : w ∈ lw_tbl) (g : goodWord w = true) => hts w (pv_in h g)
  have hown : s.vm.findClass RJ7 = some m.cls := findClass_of_methodNamed B.named
  have hlocks := B.notSynchronized
  subst hsz
  have hD := hD0.self (sz := s.heap.size)
  generalize hAe : va_A [(h0, .inl (cJ, 64, .inr (.inl f)))] s.heap.size = A at hD hE ⊢
  have hA : ∀ q : Nat, s.heap.size ≤ q → A q := fun q h => by rw [← hAe]; exact Or.inr h
  have hS : va_S A s.heap s.heap [] := va_S.rf
  have hP : va_P D pv_cl [(h0, .inl (cJ, 64, .inr (.inl f)))] s.heap := hP
  have hl := lv_entry ([.ref h0, .int 0]) (n := 3) (Nat.le_of_ble_eq_true rfl)
  rw [lg_entry_eq]
  generalize (lg_sl ([.ref h0, .int 0]) ++ List.replicate (3 - (lg_sl ([.ref h0, .int 0])).length) Slot.unset).toArray = ls at hl ⊢
  have hl : lv_has ls 3 [(0, .ref h0), (1, .int 0)] := hl
  refine lv_iload_n hx hb dJ7_copyOf_c38d5_0 rfl (lv_at hl 1 rfl) ?_
  refine lv_aload_n hx hb dJ7_copyOf_c38d5_1 rfl (lv_at hl 0 rfl) ?_
  refine va_alen hx hb hK hP 0 0 rfl rfl (v := 64) rfl dJ7_copyOf_c38d5_2 ?_
  refine lv_icmp_ne (tgt := 14) hx hb dJ7_copyOf_c38d5_3 (by decide) (fun _ => ?_) (fun c_1 => absurd c_1 (by decide))
  refine lv_iload_n hx hb dJ7_copyOf_c38d5_14 rfl (lv_at hl 1 rfl) ?_
  refine va_newa (atype := .long) hx hb (hg w1_75 rfl) (ty := .long) rfl hK hP hD hS hA (a0 := (0, .inr (.inl (fun _ => 0)))) (fun _ => rfl) (by decide) (by decide +kernel) (Nat.le_of_ble_eq_true rfl) (Nat.le_of_ble_eq_true rfl) (Nat.le_of_ble_eq_true rfl) dJ7_copyOf_c38d5_15 (fun q_2 cA_3 H hK hP hD hS => ?_)
  have hP : va_P D pv_cl [(h0, .inl (cJ, 64, .inr (.inl f))), (q_2, .inl (cA_3, 0, .inr (.inl (fun _ => 0))))] _ := hP
  have hD : va_D A [(h0, .inl (cJ, 64, .inr (.inl f))), (q_2, .inl (cA_3, 0, .inr (.inl (fun _ => 0))))] := hD
  have hK : va_K D pv_cl [(cJ, .long), (cA_3, .long)] s := hK
  refine W.widen (k := 1) (n := 0) (Nat.le_of_ble_eq_true rfl) (Nat.le_of_ble_eq_true rfl) ?_
  refine lv_astore_n (lv' := [(2, .ref q_2), (0, .ref h0), (1, .int 0)]) hx hb dJ7_copyOf_c38d5_17 rfl hl (by decide) rfl (fun ls hl => ?_)
  refine lv_aload_n hx hb dJ7_copyOf_c38d5_18 rfl (lv_at hl 1 rfl) ?_
  refine lv_iconst (v := 0) hx hb dJ7_copyOf_c38d5_19 (by decide) ?_
  refine lv_aload_n hx hb dJ7_copyOf_c38d5_20 rfl (lv_at hl 0 rfl) ?_
  refine lv_iconst (v := 0) hx hb dJ7_copyOf_c38d5_21 (by decide) ?_
  refine lv_aload_n hx hb dJ7_copyOf_c38d5_22 rfl (lv_at hl 1 rfl) ?_
  refine va_alen hx hb hK hP 0 0 rfl rfl (v := 64) rfl dJ7_copyOf_c38d5_23 ?_
  refine lv_iload_n hx hb dJ7_copyOf_c38d5_24 rfl (lv_at hl 2 rfl) ?_
  refine va_mmin (own := RJ7) hx hb (hml.trans hl.1.symm) hown (hg w3_95 rfl) (hg w3_72 rfl) (hg w1_9 rfl) (hg w3_73 rfl) (Nat.le_of_ble_eq_true rfl) (Nat.le_of_ble_eq_true rfl) (Nat.le_of_ble_eq_true rfl) (Nat.le_of_ble_eq_true rfl) dJ7_copyOf_c38d5_25 ?_
  refine pv_setI 0 (by decide) ?_
  refine va_copyl (own := RJ7) hx hb (hml.trans hl.1.symm) hown (hg w3_96 rfl) (hg w2_206 rfl) (hg w2_205 rfl) (hg w1_16 rfl) hK hP hD hS 0 1 0 1 rfl rfl rfl rfl (by decide) (by decide) (by decide) (by decide) (by decide) (by decide) (fun _ _ => rfl) (Nat.le_of_ble_eq_true rfl) (by decide) dJ7_copyOf_c38d5_28 (fun H locs hP hD hS => ?_)
  have hP : va_P D pv_cl [(h0, .inl (cJ, 64, .inr (.inl f))), (q_2, .inl (cA_3, 0, .inr (.inl (va_cpy (f) (fun _ => 0) (0 : Int32).toNatClampNeg (0 : Int32).toNatClampNeg (0 : Int32).toNatClampNeg))))] _ := hP
  have hD : va_D A [(h0, .inl (cJ, 64, .inr (.inl f))), (q_2, .inl (cA_3, 0, .inr (.inl (va_cpy (f) (fun _ => 0) (0 : Int32).toNatClampNeg (0 : Int32).toNatClampNeg (0 : Int32).toNatClampNeg))))] := hD
  refine lv_aload_n hx hb dJ7_copyOf_c38d5_31 rfl (lv_at hl 0 rfl) ?_
  refine W.widen (k := 1) (n := 0) (Nat.le_of_ble_eq_true rfl) (Nat.le_of_ble_eq_true rfl) ?_
  exact W.aret (v := .ref q_2) hx hb hr (Or.inr ⟨_, rfl⟩) (Or.inr ⟨_, rfl⟩) (fun t ht hW => ⟨⟨(), q_2, rfl, trivial, trivial⟩, hS.F ht⟩) hS.2.2 dJ7_copyOf_c38d5_32

set_option maxHeartbeats 4000000 in
set_option maxRecDepth 100000 in
/-- copyOf(row, 1) -/
theorem c_J7_copyOf_1 (l : Launch) (hfl : l.stackTraces = false) (D : va_G) (sz : Nat) (h0 : Nat) (cJ : ClassId) (f : Nat → Int64) : Met l yJ7_copyOf_c38d5 (Cond.code yJ7_copyOf_c38d5 cJ7_copyOf_c38d5 3 (some (.array .long)) :: pv_W) ({ frames := 1, cells := 1, slots := 1, locals := 60 } : Room) (va_Pc [.ref h0, .int 1] (pv_P D [(cJ, .long)] [(h0, .inl (cJ, 64, .inr (.inl f)))] (va_A [(h0, .inl (cJ, 64, .inr (.inl f)))] sz) sz)) (va_Qr (fun (_ : Unit) => True) (fun _ _ _ => True) (va_A [(h0, .inl (cJ, 64, .inr (.inl f)))] sz)) 1 1 (va_A [(h0, .inl (cJ, 64, .inr (.inl f)))] sz) := by
  refine Met.ofW (cc := cJ7_copyOf_c38d5) (maxL := 3) (ret := (some (.array .long))) (by decide) rfl ?_
  intro p e s m args below meth c s₁ B hml hv
  obtain ⟨rfl, hsz, hE, hP, hK, hD0⟩ := hv
  have hx := B.exec
  have hb := B.bytes
  have hr := B.returns
  have hts := fun (w : Cond) (h : w ∈ pv_W) => atoms_spec (ws := Cond.code yJ7_copyOf_c38d5 cJ7_copyOf_c38d5 3 (some (.array .long)) :: pv_W) B.pre w (List.mem_cons_of_mem _ h)
  have hg := fun {w : Cond} (h : w ∈ lw_tbl) (g : goodWord w = true) => hts w (pv_in h g)
  have hown : s.vm.findClass RJ7 = some m.cls := findClass_of_methodNamed B.named
  have hlocks := B.notSynchronized
  subst hsz
  have hD := hD0.self (sz := s.heap.size)
  generalize hAe : va_A [(h0, .inl (cJ, 64, .inr (.inl f)))] s.heap.size = A at hD hE ⊢
  have hA : ∀ q : Nat, s.heap.size ≤ q → A q := fun q h => by rw [← hAe]; exact Or.inr h
  have hS : va_S A s.heap s.heap [] := va_S.rf
  have hP : va_P D pv_cl [(h0, .inl (cJ, 64, .inr (.inl f)))] s.heap := hP
  have hl := lv_entry ([.ref h0, .int 1]) (n := 3) (Nat.le_of_ble_eq_true rfl)
  rw [lg_entry_eq]
  generalize (lg_sl ([.ref h0, .int 1]) ++ List.replicate (3 - (lg_sl ([.ref h0, .int 1])).length) Slot.unset).toArray = ls at hl ⊢
  have hl : lv_has ls 3 [(0, .ref h0), (1, .int 1)] := hl
  refine lv_iload_n hx hb dJ7_copyOf_c38d5_0 rfl (lv_at hl 1 rfl) ?_
  refine lv_aload_n hx hb dJ7_copyOf_c38d5_1 rfl (lv_at hl 0 rfl) ?_
  refine va_alen hx hb hK hP 0 0 rfl rfl (v := 64) rfl dJ7_copyOf_c38d5_2 ?_
  refine lv_icmp_ne (tgt := 14) hx hb dJ7_copyOf_c38d5_3 (by decide) (fun _ => ?_) (fun c_1 => absurd c_1 (by decide))
  refine lv_iload_n hx hb dJ7_copyOf_c38d5_14 rfl (lv_at hl 1 rfl) ?_
  refine va_newa (atype := .long) hx hb (hg w1_75 rfl) (ty := .long) rfl hK hP hD hS hA (a0 := (1, .inr (.inl (fun _ => 0)))) (fun _ => rfl) (by decide) (by decide +kernel) (Nat.le_of_ble_eq_true rfl) (Nat.le_of_ble_eq_true rfl) (Nat.le_of_ble_eq_true rfl) dJ7_copyOf_c38d5_15 (fun q_2 cA_3 H hK hP hD hS => ?_)
  have hP : va_P D pv_cl [(h0, .inl (cJ, 64, .inr (.inl f))), (q_2, .inl (cA_3, 1, .inr (.inl (fun _ => 0))))] _ := hP
  have hD : va_D A [(h0, .inl (cJ, 64, .inr (.inl f))), (q_2, .inl (cA_3, 1, .inr (.inl (fun _ => 0))))] := hD
  have hK : va_K D pv_cl [(cJ, .long), (cA_3, .long)] s := hK
  refine W.widen (k := 1) (n := 1) (Nat.le_of_ble_eq_true rfl) (Nat.le_of_ble_eq_true rfl) ?_
  refine lv_astore_n (lv' := [(2, .ref q_2), (0, .ref h0), (1, .int 1)]) hx hb dJ7_copyOf_c38d5_17 rfl hl (by decide) rfl (fun ls hl => ?_)
  refine lv_aload_n hx hb dJ7_copyOf_c38d5_18 rfl (lv_at hl 1 rfl) ?_
  refine lv_iconst (v := 0) hx hb dJ7_copyOf_c38d5_19 (by decide) ?_
  refine lv_aload_n hx hb dJ7_copyOf_c38d5_20 rfl (lv_at hl 0 rfl) ?_
  refine lv_iconst (v := 0) hx hb dJ7_copyOf_c38d5_21 (by decide) ?_
  refine lv_aload_n hx hb dJ7_copyOf_c38d5_22 rfl (lv_at hl 1 rfl) ?_
  refine va_alen hx hb hK hP 0 0 rfl rfl (v := 64) rfl dJ7_copyOf_c38d5_23 ?_
  refine lv_iload_n hx hb dJ7_copyOf_c38d5_24 rfl (lv_at hl 2 rfl) ?_
  refine va_mmin (own := RJ7) hx hb (hml.trans hl.1.symm) hown (hg w3_95 rfl) (hg w3_72 rfl) (hg w1_9 rfl) (hg w3_73 rfl) (Nat.le_of_ble_eq_true rfl) (Nat.le_of_ble_eq_true rfl) (Nat.le_of_ble_eq_true rfl) (Nat.le_of_ble_eq_true rfl) dJ7_copyOf_c38d5_25 ?_
  refine pv_setI 1 (by decide) ?_
  refine va_copyl (own := RJ7) hx hb (hml.trans hl.1.symm) hown (hg w3_96 rfl) (hg w2_206 rfl) (hg w2_205 rfl) (hg w1_16 rfl) hK hP hD hS 0 1 0 1 rfl rfl rfl rfl (by decide) (by decide) (by decide) (by decide) (by decide) (by decide) (fun _ _ => rfl) (Nat.le_of_ble_eq_true rfl) (by decide) dJ7_copyOf_c38d5_28 (fun H locs hP hD hS => ?_)
  have hP : va_P D pv_cl [(h0, .inl (cJ, 64, .inr (.inl f))), (q_2, .inl (cA_3, 1, .inr (.inl (va_cpy (f) (fun _ => 0) (0 : Int32).toNatClampNeg (0 : Int32).toNatClampNeg (1 : Int32).toNatClampNeg))))] _ := hP
  have hD : va_D A [(h0, .inl (cJ, 64, .inr (.inl f))), (q_2, .inl (cA_3, 1, .inr (.inl (va_cpy (f) (fun _ => 0) (0 : Int32).toNatClampNeg (0 : Int32).toNatClampNeg (1 : Int32).toNatClampNeg))))] := hD
  refine lv_aload_n hx hb dJ7_copyOf_c38d5_31 rfl (lv_at hl 0 rfl) ?_
  refine W.widen (k := 1) (n := 1) (Nat.le_of_ble_eq_true rfl) (Nat.le_of_ble_eq_true rfl) ?_
  exact W.aret (v := .ref q_2) hx hb hr (Or.inr ⟨_, rfl⟩) (Or.inr ⟨_, rfl⟩) (fun t ht hW => ⟨⟨(), q_2, rfl, trivial, trivial⟩, hS.F ht⟩) hS.2.2 dJ7_copyOf_c38d5_32

theorem dX9_listed_0 : decode cX9_listed 0 = .ok (.aload_n 0, 1) := by decide +kernel
theorem dX9_listed_1 : decode cX9_listed 1 = .ok (.getfield 22, 3) := by decide +kernel
theorem dX9_listed_4 : decode cX9_listed 4 = .ok (.aload_n 0, 1) := by decide +kernel
theorem dX9_listed_5 : decode cX9_listed 5 = .ok (.getfield 28, 3) := by decide +kernel
theorem dX9_listed_8 : decode cX9_listed 8 = .ok (.iconst 0, 1) := by decide +kernel
theorem dX9_listed_9 : decode cX9_listed 9 = .ok (.invokestatic 56, 3) := by decide +kernel
theorem w5_30 : (Jvm.Cond.methodLink "Polyforge$Slate" (56 : Nat) ({ cls := "java/lang/Math", name := "max", desc := "(II)I" } : Jvm.MethodName)) ∈ lw_tbl := pv_t5 (pv_mg 30 rfl)
theorem w1_222 : (Jvm.Cond.static ({ cls := "java/lang/Math", name := "max", desc := "(II)I" } : Jvm.MethodName)) ∈ lw_tbl := pv_t1 (pv_mg 222 rfl)
theorem w1_223 : (Jvm.Cond.code ({ cls := "java/lang/Math", name := "max", desc := "(II)I" } : Jvm.MethodName) prog_25_method_65_code (2 : Nat) (Option.some Jvm.ClassFile.FieldType.int)) ∈ lw_tbl := pv_t1 (pv_mg 223 rfl)
theorem dX9_listed_12 : decode cX9_listed 12 = .ok (.invokestatic 62, 3) := by decide +kernel
theorem w5_31 : (Jvm.Cond.methodLink "Polyforge$Slate" (62 : Nat) ({ cls := "java/util/Arrays", name := "copyOf", desc := "([JI)[J" } : Jvm.MethodName)) ∈ lw_tbl := pv_t5 (pv_mg 31 rfl)
theorem w3_87 : (Jvm.Cond.code ({ cls := "java/util/Arrays", name := "copyOf", desc := "([JI)[J" } : Jvm.MethodName) prog_31_method_124_code (3 : Nat) (Option.some (Jvm.ClassFile.FieldType.array Jvm.ClassFile.FieldType.long))) ∈ lw_tbl := pv_t3 (pv_mg 87 rfl)
theorem w3_86 : (Jvm.Cond.static ({ cls := "java/util/Arrays", name := "copyOf", desc := "([JI)[J" } : Jvm.MethodName)) ∈ lw_tbl := pv_t3 (pv_mg 86 rfl)
theorem w1_15 : (Jvm.Cond.initialized "java/util/Arrays") ∈ lw_tbl := pv_t1 (pv_mg 15 rfl)
theorem dX9_listed_15 : decode cX9_listed 15 = .ok (.areturn, 1) := by decide +kernel
set_option maxHeartbeats 4000000 in
set_option maxRecDepth 100000 in
/-- listed, of 0 terms -/
theorem c_X9_listed_0 (l : Launch) (hfl : l.stackTraces = false) (D : va_G) (sz : Nat) (h0 : Nat) (w : Nat → Nat) (cJ : ClassId) (f : Nat → Int64) (g0 : Int32) : Met l yX9_listed (Cond.code yX9_listed cX9_listed 1 (some (.array .long)) :: pv_W) ({ frames := 2, cells := 1, slots := 0, locals := 82 } : Room) (va_Pc [.ref h0] (pv_P D [(cJ, .long)] [(h0, .inr (2, [.ref (w 0), .ref (w 1), .ref (w 2), .ref (w 3), .int 0, .int g0])), ((w 2), .inl (cJ, 64, .inr (.inl f)))] (va_A [(h0, .inr (2, [.ref (w 0), .ref (w 1), .ref (w 2), .ref (w 3), .int 0, .int g0])), ((w 2), .inl (cJ, 64, .inr (.inl f)))] sz) sz)) (va_Qr (fun (_ : Unit) => True) (fun _ _ _ => True) (va_A [(h0, .inr (2, [.ref (w 0), .ref (w 1), .ref (w 2), .ref (w 3), .int 0, .int g0])), ((w 2), .inl (cJ, 64, .inr (.inl f)))] sz)) 1 0 (va_A [(h0, .inr (2, [.ref (w 0), .ref (w 1), .ref (w 2), .ref (w 3), .int 0, .int g0])), ((w 2), .inl (cJ, 64, .inr (.inl f)))] sz) := by
  refine Met.ofW (cc := cX9_listed) (maxL := 1) (ret := (some (.array .long))) (by decide) rfl ?_
  intro p e s m args below meth c s₁ B hml hv
  obtain ⟨rfl, hsz, hE, hP, hK, hD0⟩ := hv
  have hx := B.exec
  have hb := B.bytes
  have hr := B.returns
  have hts := fun (w : Cond) (h : w ∈ pv_W) => atoms_spec (ws := Cond.code yX9_listed cX9_listed 1 (some (.array .long)) :: pv_W) B.pre w (List.mem_cons_of_mem _ h)
  have hg := fun {w : Cond} (h : w ∈ lw_tbl) (g : goodWord w = true) => hts w (pv_in h g)
  have hown : s.vm.findClass RX9 = some m.cls := findClass_of_methodNamed B.named
  have hlocks := B.notSynchronized
  subst hsz
  have hD := hD0.self (sz := s.heap.size)
  generalize hAe : va_A [(h0, .inr (2, [.ref (w 0), .ref (w 1), .ref (w 2), .ref (w 3), .int 0, .int g0])), ((w 2), .inl (cJ, 64, .inr (.inl f)))] s.heap.size = A at hD hE ⊢
  have hA : ∀ q : Nat, s.heap.size ≤ q → A q := fun q h => by rw [← hAe]; exact Or.inr h
  have hS : va_S A s.heap s.heap [] := va_S.rf
  have hP : va_P D pv_cl [(h0, .inr (2, [.ref (w 0), .ref (w 1), .ref (w 2), .ref (w 3), .int 0, .int g0])), ((w 2), .inl (cJ, 64, .inr (.inl f)))] s.heap := hP
  have hl := lv_entry ([.ref h0]) (n := 1) (Nat.le_of_ble_eq_true rfl)
  rw [lg_entry_eq]
  generalize (lg_sl ([.ref h0]) ++ List.replicate (1 - (lg_sl ([.ref h0])).length) Slot.unset).toArray = ls at hl ⊢
  have hl : lv_has ls 1 [(0, .ref h0)] := hl
  refine lv_aload_n hx hb dX9_listed_0 rfl (lv_at hl 0 rfl) ?_
  refine va_get (own := RX9) (D := D) (ci := 2) (v := .ref (w 2)) (C := RX9) (T := TX9) (N := 6) hx hb hts inF9 hown hK hP 0 rfl rfl 2 (by decide) (hg w1_53 rfl) (fun _ h9 => h9) rfl dX9_listed_1 ?_
  refine lv_aload_n hx hb dX9_listed_4 rfl (lv_at hl 0 rfl) ?_
  refine va_get (own := RX9) (D := D) (ci := 2) (v := .int 0) (C := RX9) (T := TX9) (N := 6) hx hb hts inF9 hown hK hP 0 rfl rfl 4 (by decide) (hg w1_56 rfl) (fun _ h9 => h9) rfl dX9_listed_5 ?_
  refine lv_iconst (v := 0) hx hb dX9_listed_8 (by decide) ?_
  refine va_mmax (own := RX9) hx hb (hml.trans hl.1.symm) hown (hg w5_30 rfl) (hg w1_222 rfl) (hg w1_9 rfl) (hg w1_223 rfl) (Nat.le_of_ble_eq_true rfl) (Nat.le_of_ble_eq_true rfl) (Nat.le_of_ble_eq_true rfl) (Nat.le_of_ble_eq_true rfl) dX9_listed_9 ?_
  refine pv_setI 0 (by decide) ?_
  have hF := va_free (wc := [((w 2), .inl (cJ, 64, .inr (.inl f)))]) hD hS hA [1] rfl
  refine va_callr (va_runS (As := [.ref (w 2), .int 0]) (rest := []) ⟨hx, hb, hml, hown, hts⟩ (c_J7_copyOf_0 l hfl D _ (w 2) cJ f) (va_cwS 2 hts (pv_gS w5_31 w3_86 w1_15 w3_87) rfl rfl rfl (by decide +kernel) ⟨Nat.le_of_ble_eq_true rfl, Nat.le_of_ble_eq_true rfl⟩) (pv_ps hE hS hF (hP.sub [1] rfl) (hK.sub [0] rfl) (hD.sub [1] (by decide) rfl)) rfl rfl hl.1 rfl (lv_room (Nat.le_of_ble_eq_true rfl)) dX9_listed_12 ⟨Nat.le_of_ble_eq_true rfl, Nat.le_of_ble_eq_true rfl⟩) hS (fun q _ h => hF q h) hF (fun u ra_0 t H1 locs1 ht hvm hw hB hz1 hk1 hS => ?_)
  refine W.widen (k := 1) (n := 0) (Nat.le_of_ble_eq_true rfl) (Nat.le_of_ble_eq_true rfl) ?_
  obtain ⟨hP, hD⟩ := va_join (wr := [(h0, .inr (2, [.ref (w 0), .ref (w 1), .ref (w 2), .ref (w 3), .int 0, .int g0]))]) (w1 := []) hP hD [1] [0] rfl rfl (by decide) (by decide) hk1 hF pv_P0 pv_D0
  have hP : va_P D pv_cl [(h0, .inr (2, [.ref (w 0), .ref (w 1), .ref (w 2), .ref (w 3), .int 0, .int g0]))] _ := hP
  have hD : va_D A [(h0, .inr (2, [.ref (w 0), .ref (w 1), .ref (w 2), .ref (w 3), .int 0, .int g0]))] := hD
  refine W.widen (k := 1) (n := 0) (Nat.le_of_ble_eq_true rfl) (Nat.le_of_ble_eq_true rfl) ?_
  exact W.aret (v := .ref ra_0) hx hb hr (Or.inr ⟨_, rfl⟩) (Or.inr ⟨_, rfl⟩) (fun t ht hW => ⟨⟨(), ra_0, rfl, trivial, trivial⟩, hS.F ht⟩) hS.2.2 dX9_listed_15

set_option maxHeartbeats 4000000 in
set_option maxRecDepth 100000 in
/-- listed, of 1 terms -/
theorem c_X9_listed_1 (l : Launch) (hfl : l.stackTraces = false) (D : va_G) (sz : Nat) (h0 : Nat) (w : Nat → Nat) (cJ : ClassId) (f : Nat → Int64) (g0 : Int32) : Met l yX9_listed (Cond.code yX9_listed cX9_listed 1 (some (.array .long)) :: pv_W) ({ frames := 2, cells := 1, slots := 1, locals := 82 } : Room) (va_Pc [.ref h0] (pv_P D [(cJ, .long)] [(h0, .inr (2, [.ref (w 0), .ref (w 1), .ref (w 2), .ref (w 3), .int 1, .int g0])), ((w 2), .inl (cJ, 64, .inr (.inl f)))] (va_A [(h0, .inr (2, [.ref (w 0), .ref (w 1), .ref (w 2), .ref (w 3), .int 1, .int g0])), ((w 2), .inl (cJ, 64, .inr (.inl f)))] sz) sz)) (va_Qr (fun (_ : Unit) => True) (fun _ _ _ => True) (va_A [(h0, .inr (2, [.ref (w 0), .ref (w 1), .ref (w 2), .ref (w 3), .int 1, .int g0])), ((w 2), .inl (cJ, 64, .inr (.inl f)))] sz)) 1 1 (va_A [(h0, .inr (2, [.ref (w 0), .ref (w 1), .ref (w 2), .ref (w 3), .int 1, .int g0])), ((w 2), .inl (cJ, 64, .inr (.inl f)))] sz) := by
  refine Met.ofW (cc := cX9_listed) (maxL := 1) (ret := (some (.array .long))) (by decide) rfl ?_
  intro p e s m args below meth c s₁ B hml hv
  obtain ⟨rfl, hsz, hE, hP, hK, hD0⟩ := hv
  have hx := B.exec
  have hb := B.bytes
  have hr := B.returns
  have hts := fun (w : Cond) (h : w ∈ pv_W) => atoms_spec (ws := Cond.code yX9_listed cX9_listed 1 (some (.array .long)) :: pv_W) B.pre w (List.mem_cons_of_mem _ h)
  have hg := fun {w : Cond} (h : w ∈ lw_tbl) (g : goodWord w = true) => hts w (pv_in h g)
  have hown : s.vm.findClass RX9 = some m.cls := findClass_of_methodNamed B.named
  have hlocks := B.notSynchronized
  subst hsz
  have hD := hD0.self (sz := s.heap.size)
  generalize hAe : va_A [(h0, .inr (2, [.ref (w 0), .ref (w 1), .ref (w 2), .ref (w 3), .int 1, .int g0])), ((w 2), .inl (cJ, 64, .inr (.inl f)))] s.heap.size = A at hD hE ⊢
  have hA : ∀ q : Nat, s.heap.size ≤ q → A q := fun q h => by rw [← hAe]; exact Or.inr h
  have hS : va_S A s.heap s.heap [] := va_S.rf
  have hP : va_P D pv_cl [(h0, .inr (2, [.ref (w 0), .ref (w 1), .ref (w 2), .ref (w 3), .int 1, .int g0])), ((w 2), .inl (cJ, 64, .inr (.inl f)))] s.heap := hP
  have hl := lv_entry ([.ref h0]) (n := 1) (Nat.le_of_ble_eq_true rfl)
  rw [lg_entry_eq]
  generalize (lg_sl ([.ref h0]) ++ List.replicate (1 - (lg_sl ([.ref h0])).length) Slot.unset).toArray = ls at hl ⊢
  have hl : lv_has ls 1 [(0, .ref h0)] := hl
  refine lv_aload_n hx hb dX9_listed_0 rfl (lv_at hl 0 rfl) ?_
  refine va_get (own := RX9) (D := D) (ci := 2) (v := .ref (w 2)) (C := RX9) (T := TX9) (N := 6) hx hb hts inF9 hown hK hP 0 rfl rfl 2 (by decide) (hg w1_53 rfl) (fun _ h9 => h9) rfl dX9_listed_1 ?_
  refine lv_aload_n hx hb dX9_listed_4 rfl (lv_at hl 0 rfl) ?_
  refine va_get (own := RX9) (D := D) (ci := 2) (v := .int 1) (C := RX9) (T := TX9) (N := 6) hx hb hts inF9 hown hK hP 0 rfl rfl 4 (by decide) (hg w1_56 rfl) (fun _ h9 => h9) rfl dX9_listed_5 ?_
  refine lv_iconst (v := 0) hx hb dX9_listed_8 (by decide) ?_
  refine va_mmax (own := RX9) hx hb (hml.trans hl.1.symm) hown (hg w5_30 rfl) (hg w1_222 rfl) (hg w1_9 rfl) (hg w1_223 rfl) (Nat.le_of_ble_eq_true rfl) (Nat.le_of_ble_eq_true rfl) (Nat.le_of_ble_eq_true rfl) (Nat.le_of_ble_eq_true rfl) dX9_listed_9 ?_
  refine pv_setI 1 (by decide) ?_
  have hF := va_free (wc := [((w 2), .inl (cJ, 64, .inr (.inl f)))]) hD hS hA [1] rfl
  refine va_callr (va_runS (As := [.ref (w 2), .int 1]) (rest := []) ⟨hx, hb, hml, hown, hts⟩ (c_J7_copyOf_1 l hfl D _ (w 2) cJ f) (va_cwS 2 hts (pv_gS w5_31 w3_86 w1_15 w3_87) rfl rfl rfl (by decide +kernel) ⟨Nat.le_of_ble_eq_true rfl, Nat.le_of_ble_eq_true rfl⟩) (pv_ps hE hS hF (hP.sub [1] rfl) (hK.sub [0] rfl) (hD.sub [1] (by decide) rfl)) rfl rfl hl.1 rfl (lv_room (Nat.le_of_ble_eq_true rfl)) dX9_listed_12 ⟨Nat.le_of_ble_eq_true rfl, Nat.le_of_ble_eq_true rfl⟩) hS (fun q _ h => hF q h) hF (fun u ra_0 t H1 locs1 ht hvm hw hB hz1 hk1 hS => ?_)
  refine W.widen (k := 1) (n := 1) (Nat.le_of_ble_eq_true rfl) (Nat.le_of_ble_eq_true rfl) ?_
  obtain ⟨hP, hD⟩ := va_join (wr := [(h0, .inr (2, [.ref (w 0), .ref (w 1), .ref (w 2), .ref (w 3), .int 1, .int g0]))]) (w1 := []) hP hD [1] [0] rfl rfl (by decide) (by decide) hk1 hF pv_P0 pv_D0
  have hP : va_P D pv_cl [(h0, .inr (2, [.ref (w 0), .ref (w 1), .ref (w 2), .ref (w 3), .int 1, .int g0]))] _ := hP
  have hD : va_D A [(h0, .inr (2, [.ref (w 0), .ref (w 1), .ref (w 2), .ref (w 3), .int 1, .int g0]))] := hD
  refine W.widen (k := 1) (n := 1) (Nat.le_of_ble_eq_true rfl) (Nat.le_of_ble_eq_true rfl) ?_
  exact W.aret (v := .ref ra_0) hx hb hr (Or.inr ⟨_, rfl⟩) (Or.inr ⟨_, rfl⟩) (fun t ht hW => ⟨⟨(), ra_0, rfl, trivial, trivial⟩, hS.F ht⟩) hS.2.2 dX9_listed_15

theorem dX11_keep_0 : decode cX11_keep 0 = .ok (.iconst 0, 1) := by decide +kernel
theorem dX11_keep_1 : decode cX11_keep 1 = .ok (.istore_n 1, 1) := by decide +kernel
theorem dX11_keep_2 : decode cX11_keep 2 = .ok (.iload_n 1, 1) := by decide +kernel
theorem dX11_keep_3 : decode cX11_keep 3 = .ok (.aload_n 0, 1) := by decide +kernel
theorem dX11_keep_4 : decode cX11_keep 4 = .ok (.getfield 15, 3) := by decide +kernel
theorem dX11_keep_7 : decode cX11_keep 7 = .ok (.if_icmp .ge 49, 3) := by decide +kernel
theorem dX11_keep_56 : decode cX11_keep 56 = .ok (.aload_n 0, 1) := by decide +kernel
theorem dX11_keep_57 : decode cX11_keep 57 = .ok (.getfield 15, 3) := by decide +kernel
theorem dX11_keep_60 : decode cX11_keep 60 = .ok (.bipush 60, 2) := by decide +kernel
theorem dX11_keep_62 : decode cX11_keep 62 = .ok (.if_icmp .lt 14, 3) := by decide +kernel
theorem dX11_keep_76 : decode cX11_keep 76 = .ok (.aload_n 0, 1) := by decide +kernel
theorem dX11_keep_77 : decode cX11_keep 77 = .ok (.getfield 11, 3) := by decide +kernel
theorem w2_37 : (Jvm.Cond.fieldLink "Polyforge" (11 : Nat) "Polyforge" "kept" "[LPolyforge$Polynomial;") ∈ lw_tbl := pv_t2 (pv_mg 37 rfl)
theorem dX11_keep_80 : decode cX11_keep 80 = .ok (.aload_n 0, 1) := by decide +kernel
theorem dX11_keep_81 : decode cX11_keep 81 = .ok (.getfield 15, 3) := by decide +kernel
theorem dX11_keep_84 : decode cX11_keep 84 = .ok (.new 9, 3) := by decide +kernel
theorem w1_38 : (Jvm.Cond.classLink "Polyforge" (9 : Nat) "Polyforge$Polynomial") ∈ lw_tbl := pv_t1 (pv_mg 38 rfl)
theorem w5_25 : (Jvm.Cond.instantiable "Polyforge$Polynomial" (2 : Nat)) ∈ lw_tbl := pv_t5 (pv_mg 25 rfl)
theorem dX11_keep_87 : decode cX11_keep 87 = .ok (.dup, 1) := by decide +kernel
theorem dX11_keep_88 : decode cX11_keep 88 = .ok (.aload_n 0, 1) := by decide +kernel
theorem dX11_keep_89 : decode cX11_keep 89 = .ok (.getfield 58, 3) := by decide +kernel
theorem w2_48 : (Jvm.Cond.fieldLink "Polyforge" (58 : Nat) "Polyforge" "slate" "LPolyforge$Slate;") ∈ lw_tbl := pv_t2 (pv_mg 48 rfl)
theorem dX11_keep_92 : decode cX11_keep 92 = .ok (.getfield 508, 3) := by decide +kernel
theorem w1_59 : (Jvm.Cond.fieldLinkNest "Polyforge" (508 : Nat) "Polyforge$Slate" "ground" "I" "Polyforge") ∈ lw_tbl := pv_t1 (pv_mg 59 rfl)
theorem dX11_keep_95 : decode cX11_keep 95 = .ok (.aload_n 0, 1) := by decide +kernel
theorem dX11_keep_96 : decode cX11_keep 96 = .ok (.getfield 58, 3) := by decide +kernel
theorem dX11_keep_99 : decode cX11_keep 99 = .ok (.invokevirtual 521, 3) := by decide +kernel
theorem w5_26 : (Jvm.Cond.methodLink "Polyforge" (521 : Nat) ({ cls := "Polyforge$Slate", name := "listed", desc := "()[J" } : Jvm.MethodName)) ∈ lw_tbl := pv_t5 (pv_mg 26 rfl)
theorem w5_29 : (Jvm.Cond.code ({ cls := "Polyforge$Slate", name := "listed", desc := "()[J" } : Jvm.MethodName) prog_11_method_4_code (1 : Nat) (Option.some (Jvm.ClassFile.FieldType.array Jvm.ClassFile.FieldType.long))) ∈ lw_tbl := pv_t5 (pv_mg 29 rfl)
theorem w5_28 : (Jvm.Cond.selects "Polyforge$Slate" ({ cls := "Polyforge$Slate", name := "listed", desc := "()[J" } : Jvm.MethodName) ({ cls := "Polyforge$Slate", name := "listed", desc := "()[J" } : Jvm.MethodName)) ∈ lw_tbl := pv_t5 (pv_mg 28 rfl)
theorem w5_27 : (Jvm.Cond.instanceMethod ({ cls := "Polyforge$Slate", name := "listed", desc := "()[J" } : Jvm.MethodName)) ∈ lw_tbl := pv_t5 (pv_mg 27 rfl)
theorem dX11_keep_102 : decode cX11_keep 102 = .ok (.invokespecial 525, 3) := by decide +kernel
theorem w5_32 : (Jvm.Cond.methodLink "Polyforge" (525 : Nat) ({ cls := "Polyforge$Polynomial", name := "<init>", desc := "(I[J)V" } : Jvm.MethodName)) ∈ lw_tbl := pv_t5 (pv_mg 32 rfl)
theorem w5_34 : (Jvm.Cond.code ({ cls := "Polyforge$Polynomial", name := "<init>", desc := "(I[J)V" } : Jvm.MethodName) prog_9_method_1_code (3 : Nat) (Option.none : Option Jvm.ClassFile.FieldType)) ∈ lw_tbl := pv_t5 (pv_mg 34 rfl)
theorem w5_33 : (Jvm.Cond.instanceMethod ({ cls := "Polyforge$Polynomial", name := "<init>", desc := "(I[J)V" } : Jvm.MethodName)) ∈ lw_tbl := pv_t5 (pv_mg 33 rfl)
theorem dX11_keep_105 : decode cX11_keep 105 = .ok (.aastore, 1) := by decide +kernel
theorem dX11_keep_106 : decode cX11_keep 106 = .ok (.aload_n 0, 1) := by decide +kernel
theorem dX11_keep_107 : decode cX11_keep 107 = .ok (.dup, 1) := by decide +kernel
theorem dX11_keep_108 : decode cX11_keep 108 = .ok (.getfield 15, 3) := by decide +kernel
theorem dX11_keep_111 : decode cX11_keep 111 = .ok (.dup_x1, 1) := by decide +kernel
theorem dX11_keep_112 : decode cX11_keep 112 = .ok (.iconst 1, 1) := by decide +kernel
theorem dX11_keep_113 : decode cX11_keep 113 = .ok (.iadd, 1) := by decide +kernel
theorem dX11_keep_114 : decode cX11_keep 114 = .ok (.putfield 15, 3) := by decide +kernel
theorem dX11_keep_117 : decode cX11_keep 117 = .ok (.ireturn, 1) := by decide +kernel
set_option maxHeartbeats 4000000 in
set_option maxRecDepth 100000 in
/-- keep, 0 terms on the slate -/
theorem c_X11_keep_0 (l : Launch) (hfl : l.stackTraces = false) (D : va_G) (sz : Nat) (h0 : Nat) (q w : Nat → Nat) (cJ cP : ClassId) (f : Nat → Int64) (g0 : Int32) : vx_Met l yX11_keep (Cond.code yX11_keep cX11_keep 3 (some .int) :: pv_W) ({ frames := 3, cells := 2, slots := 2, locals := 102 } : Room) (va_Pc [.ref h0] (pv_P D [(cJ, .long), (cP, .object "Polyforge$Polynomial")] [(h0, .inr (0, [.ref (q 0), .int 0, .int 108, .ref (q 1), .int 0, .ref (q 2), .int 0, .ref (q 3), .ref (q 4), .int 1, .ref (q 5), .ref (q 6), .ref (q 7), .ref (q 8), .ref (q 9)])), ((q 6), .inr (2, [.ref (w 0), .ref (w 1), .ref (w 2), .ref (w 3), .int 0, .int g0])), ((w 2), .inl (cJ, 64, .inr (.inl f))), ((q 0), .inl (cP, 60, .inr (.inr (.inr (.inr (fun _ => none))))))] (va_A [(h0, .inr (0, [.ref (q 0), .int 0, .int 108, .ref (q 1), .int 0, .ref (q 2), .int 0, .ref (q 3), .ref (q 4), .int 1, .ref (q 5), .ref (q 6), .ref (q 7), .ref (q 8), .ref (q 9)])), ((q 6), .inr (2, [.ref (w 0), .ref (w 1), .ref (w 2), .ref (w 3), .int 0, .int g0])), ((w 2), .inl (cJ, 64, .inr (.inl f))), ((q 0), .inl (cP, 60, .inr (.inr (.inr (.inr (fun _ => none))))))] sz) sz)) (va_Qi (fun r (_ : Unit) => r = 0) (fun _ _ => True) (va_A [(h0, .inr (0, [.ref (q 0), .int 0, .int 108, .ref (q 1), .int 0, .ref (q 2), .int 0, .ref (q 3), .ref (q 4), .int 1, .ref (q 5), .ref (q 6), .ref (q 7), .ref (q 8), .ref (q 9)])), ((q 6), .inr (2, [.ref (w 0), .ref (w 1), .ref (w 2), .ref (w 3), .int 0, .int g0])), ((w 2), .inl (cJ, 64, .inr (.inl f))), ((q 0), .inl (cP, 60, .inr (.inr (.inr (.inr (fun _ => none))))))] sz)) (vx_X (fun _ : Unit => True) (fun E _ _ => False) (va_A [(h0, .inr (0, [.ref (q 0), .int 0, .int 108, .ref (q 1), .int 0, .ref (q 2), .int 0, .ref (q 3), .ref (q 4), .int 1, .ref (q 5), .ref (q 6), .ref (q 7), .ref (q 8), .ref (q 9)])), ((q 6), .inr (2, [.ref (w 0), .ref (w 1), .ref (w 2), .ref (w 3), .int 0, .int g0])), ((w 2), .inl (cJ, 64, .inr (.inl f))), ((q 0), .inl (cP, 60, .inr (.inr (.inr (.inr (fun _ => none))))))] sz)) 2 2 (va_A [(h0, .inr (0, [.ref (q 0), .int 0, .int 108, .ref (q 1), .int 0, .ref (q 2), .int 0, .ref (q 3), .ref (q 4), .int 1, .ref (q 5), .ref (q 6), .ref (q 7), .ref (q 8), .ref (q 9)])), ((q 6), .inr (2, [.ref (w 0), .ref (w 1), .ref (w 2), .ref (w 3), .int 0, .int g0])), ((w 2), .inl (cJ, 64, .inr (.inl f))), ((q 0), .inl (cP, 60, .inr (.inr (.inr (.inr (fun _ => none))))))] sz) := by
  refine vx_ofW (cc := cX11_keep) (maxL := 3) (ret := (some .int)) (by decide) rfl ?_
  intro p e s m args below meth c s₁ B hml hnt hv
  obtain ⟨rfl, hsz, hE, hP, hK, hD0⟩ := hv
  have hx := B.exec
  have hb := B.bytes
  have hr := B.returns
  have hts := fun (w : Cond) (h : w ∈ pv_W) => atoms_spec (ws := Cond.code yX11_keep cX11_keep 3 (some .int) :: pv_W) B.pre w (List.mem_cons_of_mem _ h)
  have hg := fun {w : Cond} (h : w ∈ lw_tbl) (g : goodWord w = true) => hts w (pv_in h g)
  have hown : s.vm.findClass RX11 = some m.cls := findClass_of_methodNamed B.named
  have hlocks := B.notSynchronized
  subst hsz
  have hD := hD0.self (sz := s.heap.size)
  generalize hAe : va_A [(h0, .inr (0, [.ref (q 0), .int 0, .int 108, .ref (q 1), .int 0, .ref (q 2), .int 0, .ref (q 3), .ref (q 4), .int 1, .ref (q 5), .ref (q 6), .ref (q 7), .ref (q 8), .ref (q 9)])), ((q 6), .inr (2, [.ref (w 0), .ref (w 1), .ref (w 2), .ref (w 3), .int 0, .int g0])), ((w 2), .inl (cJ, 64, .inr (.inl f))), ((q 0), .inl (cP, 60, .inr (.inr (.inr (.inr (fun _ => none))))))] s.heap.size = A at hD hE ⊢
  have hA : ∀ q : Nat, s.heap.size ≤ q → A q := fun q h => by rw [← hAe]; exact Or.inr h
  have hS : va_S A s.heap s.heap [] := va_S.rf
  have hP : va_P D pv_cl [(h0, .inr (0, [.ref (q 0), .int 0, .int 108, .ref (q 1), .int 0, .ref (q 2), .int 0, .ref (q 3), .ref (q 4), .int 1, .ref (q 5), .ref (q 6), .ref (q 7), .ref (q 8), .ref (q 9)])), ((q 6), .inr (2, [.ref (w 0), .ref (w 1), .ref (w 2), .ref (w 3), .int 0, .int g0])), ((w 2), .inl (cJ, 64, .inr (.inl f))), ((q 0), .inl (cP, 60, .inr (.inr (.inr (.inr (fun _ => none))))))] s.heap := hP
  have hl := lv_entry ([.ref h0]) (n := 3) (Nat.le_of_ble_eq_true rfl)
  rw [lg_entry_eq]
  generalize (lg_sl ([.ref h0]) ++ List.replicate (3 - (lg_sl ([.ref h0])).length) Slot.unset).toArray = ls at hl ⊢
  have hl : lv_has ls 3 [(0, .ref h0)] := hl
  refine lv_iconst (v := 0) hx hb dX11_keep_0 (by decide) ?_
  refine lv_istore_n (lv' := [(1, .int 0), (0, .ref h0)]) hx hb dX11_keep_1 rfl hl (by decide) rfl (fun ls hl => ?_)
  refine lv_iload_n hx hb dX11_keep_2 rfl (lv_at hl 0 rfl) ?_
  refine lv_aload_n hx hb dX11_keep_3 rfl (lv_at hl 1 rfl) ?_
  refine va_get (own := RX11) (D := D) (ci := 0) (v := .int 0) (C := RX11) (T := TX11) (N := 15) hx hb hts inF11 hown hK hP 0 rfl rfl 1 (by decide) (hg w2_38 rfl) (fun _ h9 => h9) rfl dX11_keep_4 ?_
  refine lv_icmp_ge (tgt := 56) hx hb dX11_keep_7 (by decide) (fun _ => ?_) (fun c_1 => absurd (by decide) c_1)
  refine lv_aload_n hx hb dX11_keep_56 rfl (lv_at hl 1 rfl) ?_
  refine va_get (own := RX11) (D := D) (ci := 0) (v := .int 0) (C := RX11) (T := TX11) (N := 15) hx hb hts inF11 hown hK hP 0 rfl rfl 1 (by decide) (hg w2_38 rfl) (fun _ h9 => h9) rfl dX11_keep_57 ?_
  refine lv_bipush (v := 60) hx hb dX11_keep_60 (by decide) ?_
  refine lv_icmp_lt (tgt := 76) hx hb dX11_keep_62 (by decide) (fun _ => ?_) (fun c_2 => absurd (by decide) c_2)
  refine lv_aload_n hx hb dX11_keep_76 rfl (lv_at hl 1 rfl) ?_
  refine va_get (own := RX11) (D := D) (ci := 0) (v := .ref (q 0)) (C := RX11) (T := TX11) (N := 15) hx hb hts inF11 hown hK hP 0 rfl rfl 0 (by decide) (hg w2_37 rfl) (fun _ h9 => h9) rfl dX11_keep_77 ?_
  refine lv_aload_n hx hb dX11_keep_80 rfl (lv_at hl 1 rfl) ?_
  refine va_get (own := RX11) (D := D) (ci := 0) (v := .int 0) (C := RX11) (T := TX11) (N := 15) hx hb hts inF11 hown hK hP 0 rfl rfl 1 (by decide) (hg w2_38 rfl) (fun _ h9 => h9) rfl dX11_keep_81 ?_
  refine va_new (own := RX11) (ci := 9) (fs := [.int 0, .null]) (C := RX7) (T := TX7) (N := 2) hx hb hts inF7 tyX7 tyX7_ok hown (hg w1_38 rfl) (hg w5_25 rfl) (hg w1_17 rfl) hK hP hD hS hA rfl (by decide +kernel) (Nat.le_of_ble_eq_true rfl) (Nat.le_of_ble_eq_true rfl) dX11_keep_84 (fun q_3 H hP hD hS => ?_)
  have hP : va_P D pv_cl [(h0, .inr (0, [.ref (q 0), .int 0, .int 108, .ref (q 1), .int 0, .ref (q 2), .int 0, .ref (q 3), .ref (q 4), .int 1, .ref (q 5), .ref (q 6), .ref (q 7), .ref (q 8), .ref (q 9)])), ((q 6), .inr (2, [.ref (w 0), .ref (w 1), .ref (w 2), .ref (w 3), .int 0, .int g0])), ((w 2), .inl (cJ, 64, .inr (.inl f))), ((q 0), .inl (cP, 60, .inr (.inr (.inr (.inr (fun _ => none)))))), (q_3, .inr (9, [.int 0, .null]))] _ := hP
  have hD : va_D A [(h0, .inr (0, [.ref (q 0), .int 0, .int 108, .ref (q 1), .int 0, .ref (q 2), .int 0, .ref (q 3), .ref (q 4), .int 1, .ref (q 5), .ref (q 6), .ref (q 7), .ref (q 8), .ref (q 9)])), ((q 6), .inr (2, [.ref (w 0), .ref (w 1), .ref (w 2), .ref (w 3), .int 0, .int g0])), ((w 2), .inl (cJ, 64, .inr (.inl f))), ((q 0), .inl (cP, 60, .inr (.inr (.inr (.inr (fun _ => none)))))), (q_3, .inr (9, [.int 0, .null]))] := hD
  refine W.widen (k := 1) (n := 2) (Nat.le_of_ble_eq_true rfl) (Nat.le_of_ble_eq_true rfl) ?_
  refine lv_dup hx hb dX11_keep_87 rfl ?_
  refine lv_aload_n hx hb dX11_keep_88 rfl (lv_at hl 1 rfl) ?_
  refine va_get (own := RX11) (D := D) (ci := 0) (v := .ref (q 6)) (C := RX11) (T := TX11) (N := 15) hx hb hts inF11 hown hK hP 0 rfl rfl 11 (by decide) (hg w2_48 rfl) (fun _ h9 => h9) rfl dX11_keep_89 ?_
  refine va_getN (own := RX11) (D := D) (ci := 2) (v := .int g0) (C := RX9) (T := TX9) (N := 6) hx hb hts inF9 hown hK hP 1 rfl rfl 5 (by decide) (va_Nw.use rfl (hE.2.2.1 _ (pv_ib w1_59 rfl))) (fun _ h9 => h9) rfl dX11_keep_92 ?_
  refine lv_aload_n hx hb dX11_keep_95 rfl (lv_at hl 1 rfl) ?_
  refine va_get (own := RX11) (D := D) (ci := 0) (v := .ref (q 6)) (C := RX11) (T := TX11) (N := 15) hx hb hts inF11 hown hK hP 0 rfl rfl 11 (by decide) (hg w2_48 rfl) (fun _ h9 => h9) rfl dX11_keep_96 ?_
  have hF := va_free (wc := [((q 6), .inr (2, [.ref (w 0), .ref (w 1), .ref (w 2), .ref (w 3), .int 0, .int g0])), ((w 2), .inl (cJ, 64, .inr (.inl f)))]) hD hS hA [1, 2] rfl
  refine va_callr (va_runV (As := []) (rest := [.int g0, .ref q_3, .ref q_3, .int 0, .ref (q 0)]) ⟨hx, hb, hml, hown, hts⟩ (c_X9_listed_0 l hfl D _ (q 6) w cJ f g0) (cwV 0 hts (pv_gV w5_26 w5_27 w5_28 w1_2 w5_29) rfl rfl rfl (by decide +kernel) ⟨Nat.le_of_ble_eq_true rfl, Nat.le_of_ble_eq_true rfl⟩) (pv_pV hE hS hF (hP.sub [1, 2] rfl) (hK.sub [0] rfl) (hD.sub [1, 2] (by decide) rfl) (va_recv (ci := 2) (q0 := 1) hK hP rfl rfl)) rfl rfl hl.1 rfl (lv_room (Nat.le_of_ble_eq_true rfl)) dX11_keep_99 ⟨Nat.le_of_ble_eq_true rfl, Nat.le_of_ble_eq_true rfl⟩) hS (fun q _ h => hF q h) hF (fun u ra_3 t H1 locs1 ht hvm hw hB hz1 hk1 hS => ?_)
  refine W.widen (k := 2) (n := 2) (Nat.le_of_ble_eq_true rfl) (Nat.le_of_ble_eq_true rfl) ?_
  obtain ⟨hP, hD⟩ := va_join (wr := [(h0, .inr (0, [.ref (q 0), .int 0, .int 108, .ref (q 1), .int 0, .ref (q 2), .int 0, .ref (q 3), .ref (q 4), .int 1, .ref (q 5), .ref (q 6), .ref (q 7), .ref (q 8), .ref (q 9)])), ((q 0), .inl (cP, 60, .inr (.inr (.inr (.inr (fun _ => none)))))), (q_3, .inr (9, [.int 0, .null]))]) (w1 := []) hP hD [1, 2] [0, 3, 4] rfl rfl (by decide) (by decide) hk1 hF pv_P0 pv_D0
  have hP : va_P D pv_cl [(h0, .inr (0, [.ref (q 0), .int 0, .int 108, .ref (q 1), .int 0, .ref (q 2), .int 0, .ref (q 3), .ref (q 4), .int 1, .ref (q 5), .ref (q 6), .ref (q 7), .ref (q 8), .ref (q 9)])), ((q 0), .inl (cP, 60, .inr (.inr (.inr (.inr (fun _ => none)))))), (q_3, .inr (9, [.int 0, .null]))] _ := hP
  have hD : va_D A [(h0, .inr (0, [.ref (q 0), .int 0, .int 108, .ref (q 1), .int 0, .ref (q 2), .int 0, .ref (q 3), .ref (q 4), .int 1, .ref (q 5), .ref (q 6), .ref (q 7), .ref (q 8), .ref (q 9)])), ((q 0), .inl (cP, 60, .inr (.inr (.inr (.inr (fun _ => none)))))), (q_3, .inr (9, [.int 0, .null]))] := hD
  have hF := va_free (wc := [(q_3, .inr (9, [.int 0, .null]))]) hD hS hA [2] rfl
  refine va_callv (va_runI (As := [.int g0, .ref ra_3]) (rest := [.ref q_3, .int 0, .ref (q 0)]) ⟨hx, hb, hml, hown, hts⟩ (c_X7_init l hfl D _ q_3 0 .null g0 ra_3) (cwI 2 hts (pv_gC w5_34) rfl rfl rfl (hg w1_17 rfl) (hg w5_32 rfl) (hg w5_33 rfl) rfl (by decide +kernel) ⟨Nat.le_of_ble_eq_true rfl, Nat.le_of_ble_eq_true rfl⟩) (pv_ps hE hS hF (hP.sub [2] rfl) (hK.sub [] rfl) (hD.sub [2] (by decide) rfl)) rfl rfl hl.1 rfl (lv_room (Nat.le_of_ble_eq_true rfl)) dX11_keep_102 ⟨Nat.le_of_ble_eq_true rfl, Nat.le_of_ble_eq_true rfl⟩) hS (fun q _ h => hF q h) hF (fun u t H1 locs1 ht hvm hw hB hz1 hk1 hS => ?_)
  refine W.widen (k := 2) (n := 2) (Nat.le_of_ble_eq_true rfl) (Nat.le_of_ble_eq_true rfl) ?_
  obtain ⟨hP1, hK1, hD1⟩ := hB
  rw [ht] at hP1
  have hK1 := va_K.moved hvm.symm hK1
  obtain ⟨hP, hD⟩ := va_join (wr := [(h0, .inr (0, [.ref (q 0), .int 0, .int 108, .ref (q 1), .int 0, .ref (q 2), .int 0, .ref (q 3), .ref (q 4), .int 1, .ref (q 5), .ref (q 6), .ref (q 7), .ref (q 8), .ref (q 9)])), ((q 0), .inl (cP, 60, .inr (.inr (.inr (.inr (fun _ => none))))))]) (w1 := [(q_3, .inr (9, [.int g0, .ref ra_3]))]) hP hD [2] [0, 1] rfl rfl (by decide) (by decide) hk1 hF hP1 hD1
  have hP : va_P D pv_cl [(h0, .inr (0, [.ref (q 0), .int 0, .int 108, .ref (q 1), .int 0, .ref (q 2), .int 0, .ref (q 3), .ref (q 4), .int 1, .ref (q 5), .ref (q 6), .ref (q 7), .ref (q 8), .ref (q 9)])), ((q 0), .inl (cP, 60, .inr (.inr (.inr (.inr (fun _ => none)))))), (q_3, .inr (9, [.int g0, .ref ra_3]))] _ := hP
  have hD : va_D A [(h0, .inr (0, [.ref (q 0), .int 0, .int 108, .ref (q 1), .int 0, .ref (q 2), .int 0, .ref (q 3), .ref (q 4), .int 1, .ref (q 5), .ref (q 6), .ref (q 7), .ref (q 8), .ref (q 9)])), ((q 0), .inl (cP, 60, .inr (.inr (.inr (.inr (fun _ => none)))))), (q_3, .inr (9, [.int g0, .ref ra_3]))] := hD
  refine va_astq hx hb hK hP hD hS 1 1 2 9 rfl rfl rfl rfl (by unfold vp_in; decide) dX11_keep_105 (fun H locs hP hD hS => ?_)
  have hP : va_P D pv_cl [(h0, .inr (0, [.ref (q 0), .int 0, .int 108, .ref (q 1), .int 0, .ref (q 2), .int 0, .ref (q 3), .ref (q 4), .int 1, .ref (q 5), .ref (q 6), .ref (q 7), .ref (q 8), .ref (q 9)])), ((q 0), .inl (cP, 60, .inr (.inr (.inr (.inr (va_up (fun _ => none) (0 : Int32).toNatClampNeg (some q_3))))))), (q_3, .inr (9, [.int g0, .ref ra_3]))] _ := hP
  have hD : va_D A [(h0, .inr (0, [.ref (q 0), .int 0, .int 108, .ref (q 1), .int 0, .ref (q 2), .int 0, .ref (q 3), .ref (q 4), .int 1, .ref (q 5), .ref (q 6), .ref (q 7), .ref (q 8), .ref (q 9)])), ((q 0), .inl (cP, 60, .inr (.inr (.inr (.inr (va_up (fun _ => none) (0 : Int32).toNatClampNeg (some q_3))))))), (q_3, .inr (9, [.int g0, .ref ra_3]))] := hD
  refine lv_aload_n hx hb dX11_keep_106 rfl (lv_at hl 1 rfl) ?_
  refine lv_dup hx hb dX11_keep_107 rfl ?_
  refine va_get (own := RX11) (D := D) (ci := 0) (v := .int 0) (C := RX11) (T := TX11) (N := 15) hx hb hts inF11 hown hK hP 0 rfl rfl 1 (by decide) (hg w2_38 rfl) (fun _ h9 => h9) rfl dX11_keep_108 ?_
  refine lv_dup_x1 hx hb dX11_keep_111 rfl rfl ?_
  refine lv_iconst (v := 1) hx hb dX11_keep_112 (by decide) ?_
  refine lv_iadd hx hb dX11_keep_113 ?_
  refine pv_setI 1 (by decide) ?_
  refine va_put (own := RX11) (D := D) (ci := 0) (v := .int 1) (ty := .int) (C := RX11) (T := TX11) (N := 15) hx hb hts inF11 tyX11 tyX11_ok nmX11 hown hK hP hD hS 0 rfl rfl 1 (by decide) (hg w2_38 rfl) (fun _ h9 => h9) rfl (by decide +kernel) rfl rfl (Nat.le_of_ble_eq_true rfl) dX11_keep_114 (fun H locs hP hD hS => ?_)
  have hP : va_P D pv_cl [(h0, .inr (0, [.ref (q 0), .int 1, .int 108, .ref (q 1), .int 0, .ref (q 2), .int 0, .ref (q 3), .ref (q 4), .int 1, .ref (q 5), .ref (q 6), .ref (q 7), .ref (q 8), .ref (q 9)])), ((q 0), .inl (cP, 60, .inr (.inr (.inr (.inr (va_up (fun _ => none) (0 : Int32).toNatClampNeg (some q_3))))))), (q_3, .inr (9, [.int g0, .ref ra_3]))] _ := hP
  have hD : va_D A [(h0, .inr (0, [.ref (q 0), .int 1, .int 108, .ref (q 1), .int 0, .ref (q 2), .int 0, .ref (q 3), .ref (q 4), .int 1, .ref (q 5), .ref (q 6), .ref (q 7), .ref (q 8), .ref (q 9)])), ((q 0), .inl (cP, 60, .inr (.inr (.inr (.inr (va_up (fun _ => none) (0 : Int32).toNatClampNeg (some q_3))))))), (q_3, .inr (9, [.int g0, .ref ra_3]))] := hD
  refine vx_ret ?_
  refine W.widen (k := 2) (n := 2) (Nat.le_of_ble_eq_true rfl) (Nat.le_of_ble_eq_true rfl) ?_
  exact W.iret (v := 0) hx hb hr (fun t ht hW => ⟨⟨0, (), rfl, rfl, trivial⟩, hS.F ht⟩) hS.2.2 dX11_keep_117

set_option maxHeartbeats 4000000 in
set_option maxRecDepth 100000 in
/-- keep, 1 terms on the slate -/
theorem c_X11_keep_1 (l : Launch) (hfl : l.stackTraces = false) (D : va_G) (sz : Nat) (h0 : Nat) (q w : Nat → Nat) (cJ cP : ClassId) (f : Nat → Int64) (g0 : Int32) : vx_Met l yX11_keep (Cond.code yX11_keep cX11_keep 3 (some .int) :: pv_W) ({ frames := 3, cells := 2, slots := 3, locals := 102 } : Room) (va_Pc [.ref h0] (pv_P D [(cJ, .long), (cP, .object "Polyforge$Polynomial")] [(h0, .inr (0, [.ref (q 0), .int 0, .int 108, .ref (q 1), .int 0, .ref (q 2), .int 0, .ref (q 3), .ref (q 4), .int 1, .ref (q 5), .ref (q 6), .ref (q 7), .ref (q 8), .ref (q 9)])), ((q 6), .inr (2, [.ref (w 0), .ref (w 1), .ref (w 2), .ref (w 3), .int 1, .int g0])), ((w 2), .inl (cJ, 64, .inr (.inl f))), ((q 0), .inl (cP, 60, .inr (.inr (.inr (.inr (fun _ => none))))))] (va_A [(h0, .inr (0, [.ref (q 0), .int 0, .int 108, .ref (q 1), .int 0, .ref (q 2), .int 0, .ref (q 3), .ref (q 4), .int 1, .ref (q 5), .ref (q 6), .ref (q 7), .ref (q 8), .ref (q 9)])), ((q 6), .inr (2, [.ref (w 0), .ref (w 1), .ref (w 2), .ref (w 3), .int 1, .int g0])), ((w 2), .inl (cJ, 64, .inr (.inl f))), ((q 0), .inl (cP, 60, .inr (.inr (.inr (.inr (fun _ => none))))))] sz) sz)) (va_Qi (fun r (_ : Unit) => r = 0) (fun _ _ => True) (va_A [(h0, .inr (0, [.ref (q 0), .int 0, .int 108, .ref (q 1), .int 0, .ref (q 2), .int 0, .ref (q 3), .ref (q 4), .int 1, .ref (q 5), .ref (q 6), .ref (q 7), .ref (q 8), .ref (q 9)])), ((q 6), .inr (2, [.ref (w 0), .ref (w 1), .ref (w 2), .ref (w 3), .int 1, .int g0])), ((w 2), .inl (cJ, 64, .inr (.inl f))), ((q 0), .inl (cP, 60, .inr (.inr (.inr (.inr (fun _ => none))))))] sz)) (vx_X (fun _ : Unit => True) (fun E _ _ => False) (va_A [(h0, .inr (0, [.ref (q 0), .int 0, .int 108, .ref (q 1), .int 0, .ref (q 2), .int 0, .ref (q 3), .ref (q 4), .int 1, .ref (q 5), .ref (q 6), .ref (q 7), .ref (q 8), .ref (q 9)])), ((q 6), .inr (2, [.ref (w 0), .ref (w 1), .ref (w 2), .ref (w 3), .int 1, .int g0])), ((w 2), .inl (cJ, 64, .inr (.inl f))), ((q 0), .inl (cP, 60, .inr (.inr (.inr (.inr (fun _ => none))))))] sz)) 2 3 (va_A [(h0, .inr (0, [.ref (q 0), .int 0, .int 108, .ref (q 1), .int 0, .ref (q 2), .int 0, .ref (q 3), .ref (q 4), .int 1, .ref (q 5), .ref (q 6), .ref (q 7), .ref (q 8), .ref (q 9)])), ((q 6), .inr (2, [.ref (w 0), .ref (w 1), .ref (w 2), .ref (w 3), .int 1, .int g0])), ((w 2), .inl (cJ, 64, .inr (.inl f))), ((q 0), .inl (cP, 60, .inr (.inr (.inr (.inr (fun _ => none))))))] sz) := by
  refine vx_ofW (cc := cX11_keep) (maxL := 3) (ret := (some .int)) (by decide) rfl ?_
  intro p e s m args below meth c s₁ B hml hnt hv
  obtain ⟨rfl, hsz, hE, hP, hK, hD0⟩ := hv
  have hx := B.exec
  have hb := B.bytes
  have hr := B.returns
  have hts := fun (w : Cond) (h : w ∈ pv_W) => atoms_spec (ws := Cond.code yX11_keep cX11_keep 3 (some .int) :: pv_W) B.pre w (List.mem_cons_of_mem _ h)
  have hg := fun {w : Cond} (h : w ∈ lw_tbl) (g : goodWord w = true) => hts w (pv_in h g)
  have hown : s.vm.findClass RX11 = some m.cls := findClass_of_methodNamed B.named
  have hlocks := B.notSynchronized
  subst hsz
  have hD := hD0.self (sz := s.heap.size)
  generalize hAe : va_A [(h0, .inr (0, [.ref (q 0), .int 0, .int 108, .ref (q 1), .int 0, .ref (q 2), .int 0, .ref (q 3), .ref (q 4), .int 1, .ref (q 5), .ref (q 6), .ref (q 7), .ref (q 8), .ref (q 9)])), ((q 6), .inr (2, [.ref (w 0), .ref (w 1), .ref (w 2), .ref (w 3), .int 1, .int g0])), ((w 2), .inl (cJ, 64, .inr (.inl f))), ((q 0), .inl (cP, 60, .inr (.inr (.inr (.inr (fun _ => none))))))] s.heap.size = A at hD hE ⊢
  have hA : ∀ q : Nat, s.heap.size ≤ q → A q := fun q h => by rw [← hAe]; exact Or.inr h
  have hS : va_S A s.heap s.heap [] := va_S.rf
  have hP : va_P D pv_cl [(h0, .inr (0, [.ref (q 0), .int 0, .int 108, .ref (q 1), .int 0, .ref (q 2), .int 0, .ref (q 3), .ref (q 4), .int 1, .ref (q 5), .ref (q 6), .ref (q 7), .ref (q 8), .ref (q 9)])), ((q 6), .inr (2, [.ref (w 0), .ref (w 1), .ref (w 2), .ref (w 3), .int 1, .int g0])), ((w 2), .inl (cJ, 64, .inr (.inl f))), ((q 0), .inl (cP, 60, .inr (.inr (.inr (.inr (fun _ => none))))))] s.heap := hP
  have hl := lv_entry ([.ref h0]) (n := 3) (Nat.le_of_ble_eq_true rfl)
  rw [lg_entry_eq]
  generalize (lg_sl ([.ref h0]) ++ List.replicate (3 - (lg_sl ([.ref h0])).length) Slot.unset).toArray = ls at hl ⊢
  have hl : lv_has ls 3 [(0, .ref h0)] := hl
  refine lv_iconst (v := 0) hx hb dX11_keep_0 (by decide) ?_
  refine lv_istore_n (lv' := [(1, .int 0), (0, .ref h0)]) hx hb dX11_keep_1 rfl hl (by decide) rfl (fun ls hl => ?_)
  refine lv_iload_n hx hb dX11_keep_2 rfl (lv_at hl 0 rfl) ?_
  refine lv_aload_n hx hb dX11_keep_3 rfl (lv_at hl 1 rfl) ?_
  refine va_get (own := RX11) (D := D) (ci := 0) (v := .int 0) (C := RX11) (T := TX11) (N := 15) hx hb hts inF11 hown hK hP 0 rfl rfl 1 (by decide) (hg w2_38 rfl) (fun _ h9 => h9) rfl dX11_keep_4 ?_
  refine lv_icmp_ge (tgt := 56) hx hb dX11_keep_7 (by decide) (fun _ => ?_) (fun c_1 => absurd (by decide) c_1)
  refine lv_aload_n hx hb dX11_keep_56 rfl (lv_at hl 1 rfl) ?_
  refine va_get (own := RX11) (D := D) (ci := 0) (v := .int 0) (C := RX11) (T := TX11) (N := 15) hx hb hts inF11 hown hK hP 0 rfl rfl 1 (by decide) (hg w2_38 rfl) (fun _ h9 => h9) rfl dX11_keep_57 ?_
  refine lv_bipush (v := 60) hx hb dX11_keep_60 (by decide) ?_
  refine lv_icmp_lt (tgt := 76) hx hb dX11_keep_62 (by decide) (fun _ => ?_) (fun c_2 => absurd (by decide) c_2)
  refine lv_aload_n hx hb dX11_keep_76 rfl (lv_at hl 1 rfl) ?_
  refine va_get (own := RX11) (D := D) (ci := 0) (v := .ref (q 0)) (C := RX11) (T := TX11) (N := 15) hx hb hts inF11 hown hK hP 0 rfl rfl 0 (by decide) (hg w2_37 rfl) (fun _ h9 => h9) rfl dX11_keep_77 ?_
  refine lv_aload_n hx hb dX11_keep_80 rfl (lv_at hl 1 rfl) ?_
  refine va_get (own := RX11) (D := D) (ci := 0) (v := .int 0) (C := RX11) (T := TX11) (N := 15) hx hb hts inF11 hown hK hP 0 rfl rfl 1 (by decide) (hg w2_38 rfl) (fun _ h9 => h9) rfl dX11_keep_81 ?_
  refine va_new (own := RX11) (ci := 9) (fs := [.int 0, .null]) (C := RX7) (T := TX7) (N := 2) hx hb hts inF7 tyX7 tyX7_ok hown (hg w1_38 rfl) (hg w5_25 rfl) (hg w1_17 rfl) hK hP hD hS hA rfl (by decide +kernel) (Nat.le_of_ble_eq_true rfl) (Nat.le_of_ble_eq_true rfl) dX11_keep_84 (fun q_3 H hP hD hS => ?_)
  have hP : va_P D pv_cl [(h0, .inr (0, [.ref (q 0), .int 0, .int 108, .ref (q 1), .int 0, .ref (q 2), .int 0, .ref (q 3), .ref (q 4), .int 1, .ref (q 5), .ref (q 6), .ref (q 7), .ref (q 8), .ref (q 9)])), ((q 6), .inr (2, [.ref (w 0), .ref (w 1), .ref (w 2), .ref (w 3), .int 1, .int g0])), ((w 2), .inl (cJ, 64, .inr (.inl f))), ((q 0), .inl (cP, 60, .inr (.inr (.inr (.inr (fun _ => none)))))), (q_3, .inr (9, [.int 0, .null]))] _ := hP
  have hD : va_D A [(h0, .inr (0, [.ref (q 0), .int 0, .int 108, .ref (q 1), .int 0, .ref (q 2), .int 0, .ref (q 3), .ref (q 4), .int 1, .ref (q 5), .ref (q 6), .ref (q 7), .ref (q 8), .ref (q 9)])), ((q 6), .inr (2, [.ref (w 0), .ref (w 1), .ref (w 2), .ref (w 3), .int 1, .int g0])), ((w 2), .inl (cJ, 64, .inr (.inl f))), ((q 0), .inl (cP, 60, .inr (.inr (.inr (.inr (fun _ => none)))))), (q_3, .inr (9, [.int 0, .null]))] := hD
  refine W.widen (k := 1) (n := 2) (Nat.le_of_ble_eq_true rfl) (Nat.le_of_ble_eq_true rfl) ?_
  refine lv_dup hx hb dX11_keep_87 rfl ?_
  refine lv_aload_n hx hb dX11_keep_88 rfl (lv_at hl 1 rfl) ?_
  refine va_get (own := RX11) (D := D) (ci := 0) (v := .ref (q 6)) (C := RX11) (T := TX11) (N := 15) hx hb hts inF11 hown hK hP 0 rfl rfl 11 (by decide) (hg w2_48 rfl) (fun _ h9 => h9) rfl dX11_keep_89 ?_
  refine va_getN (own := RX11) (D := D) (ci := 2) (v := .int g0) (C := RX9) (T := TX9) (N := 6) hx hb hts inF9 hown hK hP 1 rfl rfl 5 (by decide) (va_Nw.use rfl (hE.2.2.1 _ (pv_ib w1_59 rfl))) (fun _ h9 => h9) rfl dX11_keep_92 ?_
  refine lv_aload_n hx hb dX11_keep_95 rfl (lv_at hl 1 rfl) ?_
  refine va_get (own := RX11) (D := D) (ci := 0) (v := .ref (q 6)) (C := RX11) (T := TX11) (N := 15) hx hb hts inF11 hown hK hP 0 rfl rfl 11 (by decide) (hg w2_48 rfl) (fun _ h9 => h9) rfl dX11_keep_96 ?_
  have hF := va_free (wc := [((q 6), .inr (2, [.ref (w 0), .ref (w 1), .ref (w 2), .ref (w 3), .int 1, .int g0])), ((w 2), .inl (cJ, 64, .inr (.inl f)))]) hD hS hA [1, 2] rfl
  refine va_callr (va_runV (As := []) (rest := [.int g0, .ref q_3, .ref q_3, .int 0, .ref (q 0)]) ⟨hx, hb, hml, hown, hts⟩ (c_X9_listed_1 l hfl D _ (q 6) w cJ f g0) (cwV 0 hts (pv_gV w5_26 w5_27 w5_28 w1_2 w5_29) rfl rfl rfl (by decide +kernel) ⟨Nat.le_of_ble_eq_true rfl, Nat.le_of_ble_eq_true rfl⟩) (pv_pV hE hS hF (hP.sub [1, 2] rfl) (hK.sub [0] rfl) (hD.sub [1, 2] (by decide) rfl) (va_recv (ci := 2) (q0 := 1) hK hP rfl rfl)) rfl rfl hl.1 rfl (lv_room (Nat.le_of_ble_eq_true rfl)) dX11_keep_99 ⟨Nat.le_of_ble_eq_true rfl, Nat.le_of_ble_eq_true rfl⟩) hS (fun q _ h => hF q h) hF (fun u ra_3 t H1 locs1 ht hvm hw hB hz1 hk1 hS => ?_)
  refine W.widen (k := 2) (n := 3) (Nat.le_of_ble_eq_true rfl) (Nat.le_of_ble_eq_true rfl) ?_
  obtain ⟨hP, hD⟩ := va_join (wr := [(h0, .inr (0, [.ref (q 0), .int 0, .int 108, .ref (q 1), .int 0, .ref (q 2), .int 0, .ref (q 3), .ref (q 4), .int 1, .ref (q 5), .ref (q 6), .ref (q 7), .ref (q 8), .ref (q 9)])), ((q 0), .inl (cP, 60, .inr (.inr (.inr (.inr (fun _ => none)))))), (q_3, .inr (9, [.int 0, .null]))]) (w1 := []) hP hD [1, 2] [0, 3, 4] rfl rfl (by decide) (by decide) hk1 hF pv_P0 pv_D0
  have hP : va_P D pv_cl [(h0, .inr (0, [.ref (q 0), .int 0, .int 108, .ref (q 1), .int 0, .ref (q 2), .int 0, .ref (q 3), .ref (q 4), .int 1, .ref (q 5), .ref (q 6), .ref (q 7), .ref (q 8), .ref (q 9)])), ((q 0), .inl (cP, 60, .inr (.inr (.inr (.inr (fun _ => none)))))), (q_3, .inr (9, [.int 0, .null]))] _ := hP
  have hD : va_D A [(h0, .inr (0, [.ref (q 0), .int 0, .int 108, .ref (q 1), .int 0, .ref (q 2), .int 0, .ref (q 3), .ref (q 4), .int 1, .ref (q 5), .ref (q 6), .ref (q 7), .ref (q 8), .ref (q 9)])), ((q 0), .inl (cP, 60, .inr (.inr (.inr (.inr (fun _ => none)))))), (q_3, .inr (9, [.int 0, .null]))] := hD
  have hF := va_free (wc := [(q_3, .inr (9, [.int 0, .null]))]) hD hS hA [2] rfl
  refine va_callv (va_runI (As := [.int g0, .ref ra_3]) (rest := [.ref q_3, .int 0, .ref (q 0)]) ⟨hx, hb, hml, hown, hts⟩ (c_X7_init l hfl D _ q_3 0 .null g0 ra_3) (cwI 2 hts (pv_gC w5_34) rfl rfl rfl (hg w1_17 rfl) (hg w5_32 rfl) (hg w5_33 rfl) rfl (by decide +kernel) ⟨Nat.le_of_ble_eq_true rfl, Nat.le_of_ble_eq_true rfl⟩) (pv_ps hE hS hF (hP.sub [2] rfl) (hK.sub [] rfl) (hD.sub [2] (by decide) rfl)) rfl rfl hl.1 rfl (lv_room (Nat.le_of_ble_eq_true rfl)) dX11_keep_102 ⟨Nat.le_of_ble_eq_true rfl, Nat.le_of_ble_eq_true rfl⟩) hS (fun q _ h => hF q h) hF (fun u t H1 locs1 ht hvm hw hB hz1 hk1 hS => ?_)
  refine W.widen (k := 2) (n := 3) (Nat.le_of_ble_eq_true rfl) (Nat.le_of_ble_eq_true rfl) ?_
  obtain ⟨hP1, hK1, hD1⟩ := hB
  rw [ht] at hP1
  have hK1 := va_K.moved hvm.symm hK1
  obtain ⟨hP, hD⟩ := va_join (wr := [(h0, .inr (0, [.ref (q 0), .int 0, .int 108, .ref (q 1), .int 0, .ref (q 2), .int 0, .ref (q 3), .ref (q 4), .int 1, .ref (q 5), .ref (q 6), .ref (q 7), .ref (q 8), .ref (q 9)])), ((q 0), .inl (cP, 60, .inr (.inr (.inr (.inr (fun _ => none))))))]) (w1 := [(q_3, .inr (9, [.int g0, .ref ra_3]))]) hP hD [2] [0, 1] rfl rfl (by decide) (by decide) hk1 hF hP1 hD1
  have hP : va_P D pv_cl [(h0, .inr (0, [.ref (q 0), .int 0, .int 108, .ref (q 1), .int 0, .ref (q 2), .int 0, .ref (q 3), .ref (q 4), .int 1, .ref (q 5), .ref (q 6), .ref (q 7), .ref (q 8), .ref (q 9)])), ((q 0), .inl (cP, 60, .inr (.inr (.inr (.inr (fun _ => none)))))), (q_3, .inr (9, [.int g0, .ref ra_3]))] _ := hP
  have hD : va_D A [(h0, .inr (0, [.ref (q 0), .int 0, .int 108, .ref (q 1), .int 0, .ref (q 2), .int 0, .ref (q 3), .ref (q 4), .int 1, .ref (q 5), .ref (q 6), .ref (q 7), .ref (q 8), .ref (q 9)])), ((q 0), .inl (cP, 60, .inr (.inr (.inr (.inr (fun _ => none)))))), (q_3, .inr (9, [.int g0, .ref ra_3]))] := hD
  refine va_astq hx hb hK hP hD hS 1 1 2 9 rfl rfl rfl rfl (by unfold vp_in; decide) dX11_keep_105 (fun H locs hP hD hS => ?_)
  have hP : va_P D pv_cl [(h0, .inr (0, [.ref (q 0), .int 0, .int 108, .ref (q 1), .int 0, .ref (q 2), .int 0, .ref (q 3), .ref (q 4), .int 1, .ref (q 5), .ref (q 6), .ref (q 7), .ref (q 8), .ref (q 9)])), ((q 0), .inl (cP, 60, .inr (.inr (.inr (.inr (va_up (fun _ => none) (0 : Int32).toNatClampNeg (some q_3))))))), (q_3, .inr (9, [.int g0, .ref ra_3]))] _ := hP
  have hD : va_D A [(h0, .inr (0, [.ref (q 0), .int 0, .int 108, .ref (q 1), .int 0, .ref (q 2), .int 0, .ref (q 3), .ref (q 4), .int 1, .ref (q 5), .ref (q 6), .ref (q 7), .ref (q 8), .ref (q 9)])), ((q 0), .inl (cP, 60, .inr (.inr (.inr (.inr (va_up (fun _ => none) (0 : Int32).toNatClampNeg (some q_3))))))), (q_3, .inr (9, [.int g0, .ref ra_3]))] := hD
  refine lv_aload_n hx hb dX11_keep_106 rfl (lv_at hl 1 rfl) ?_
  refine lv_dup hx hb dX11_keep_107 rfl ?_
  refine va_get (own := RX11) (D := D) (ci := 0) (v := .int 0) (C := RX11) (T := TX11) (N := 15) hx hb hts inF11 hown hK hP 0 rfl rfl 1 (by decide) (hg w2_38 rfl) (fun _ h9 => h9) rfl dX11_keep_108 ?_
  refine lv_dup_x1 hx hb dX11_keep_111 rfl rfl ?_
  refine lv_iconst (v := 1) hx hb dX11_keep_112 (by decide) ?_
  refine lv_iadd hx hb dX11_keep_113 ?_
  refine pv_setI 1 (by decide) ?_
  refine va_put (own := RX11) (D := D) (ci := 0) (v := .int 1) (ty := .int) (C := RX11) (T := TX11) (N := 15) hx hb hts inF11 tyX11 tyX11_ok nmX11 hown hK hP hD hS 0 rfl rfl 1 (by decide) (hg w2_38 rfl) (fun _ h9 => h9) rfl (by decide +kernel) rfl rfl (Nat.le_of_ble_eq_true rfl) dX11_keep_114 (fun H locs hP hD hS => ?_)
  have hP : va_P D pv_cl [(h0, .inr (0, [.ref (q 0), .int 1, .int 108, .ref (q 1), .int 0, .ref (q 2), .int 0, .ref (q 3), .ref (q 4), .int 1, .ref (q 5), .ref (q 6), .ref (q 7), .ref (q 8), .ref (q 9)])), ((q 0), .inl (cP, 60, .inr (.inr (.inr (.inr (va_up (fun _ => none) (0 : Int32).toNatClampNeg (some q_3))))))), (q_3, .inr (9, [.int g0, .ref ra_3]))] _ := hP
  have hD : va_D A [(h0, .inr (0, [.ref (q 0), .int 1, .int 108, .ref (q 1), .int 0, .ref (q 2), .int 0, .ref (q 3), .ref (q 4), .int 1, .ref (q 5), .ref (q 6), .ref (q 7), .ref (q 8), .ref (q 9)])), ((q 0), .inl (cP, 60, .inr (.inr (.inr (.inr (va_up (fun _ => none) (0 : Int32).toNatClampNeg (some q_3))))))), (q_3, .inr (9, [.int g0, .ref ra_3]))] := hD
  refine vx_ret ?_
  refine W.widen (k := 2) (n := 3) (Nat.le_of_ble_eq_true rfl) (Nat.le_of_ble_eq_true rfl) ?_
  exact W.iret (v := 0) hx hb hr (fun t ht hW => ⟨⟨0, (), rfl, rfl, trivial⟩, hS.F ht⟩) hS.2.2 dX11_keep_117

theorem dX11_constant_0 : decode cX11_constant 0 = .ok (.iload_n 1, 1) := by decide +kernel
theorem dX11_constant_1 : decode cX11_constant 1 = .ok (.invokestatic 81, 3) := by decide +kernel
theorem w4_145 : (Jvm.Cond.methodLink "Polyforge" (81 : Nat) ({ cls := "Polyforge", name := "requireGround", desc := "(I)V" } : Jvm.MethodName)) ∈ lw_tbl := pv_t4 (pv_mg 145 rfl)
theorem w4_147 : (Jvm.Cond.code ({ cls := "Polyforge", name := "requireGround", desc := "(I)V" } : Jvm.MethodName) prog_1_method_55_code (1 : Nat) (Option.none : Option Jvm.ClassFile.FieldType)) ∈ lw_tbl := pv_t4 (pv_mg 147 rfl)
theorem w4_146 : (Jvm.Cond.static ({ cls := "Polyforge", name := "requireGround", desc := "(I)V" } : Jvm.MethodName)) ∈ lw_tbl := pv_t4 (pv_mg 146 rfl)
theorem dX11_constant_4 : decode cX11_constant 4 = .ok (.aload_n 0, 1) := by decide +kernel
theorem dX11_constant_5 : decode cX11_constant 5 = .ok (.getfield 58, 3) := by decide +kernel
theorem dX11_constant_8 : decode cX11_constant 8 = .ok (.iload_n 1, 1) := by decide +kernel
theorem dX11_constant_9 : decode cX11_constant 9 = .ok (.invokevirtual 85, 3) := by decide +kernel
theorem w4_223 : (Jvm.Cond.methodLink "Polyforge" (85 : Nat) ({ cls := "Polyforge$Slate", name := "begin", desc := "(I)V" } : Jvm.MethodName)) ∈ lw_tbl := pv_t4 (pv_mg 223 rfl)
theorem w4_226 : (Jvm.Cond.code ({ cls := "Polyforge$Slate", name := "begin", desc := "(I)V" } : Jvm.MethodName) prog_11_method_2_code (2 : Nat) (Option.none : Option Jvm.ClassFile.FieldType)) ∈ lw_tbl := pv_t4 (pv_mg 226 rfl)
theorem w4_225 : (Jvm.Cond.selects "Polyforge$Slate" ({ cls := "Polyforge$Slate", name := "begin", desc := "(I)V" } : Jvm.MethodName) ({ cls := "Polyforge$Slate", name := "begin", desc := "(I)V" } : Jvm.MethodName)) ∈ lw_tbl := pv_t4 (pv_mg 225 rfl)
theorem w4_224 : (Jvm.Cond.instanceMethod ({ cls := "Polyforge$Slate", name := "begin", desc := "(I)V" } : Jvm.MethodName)) ∈ lw_tbl := pv_t4 (pv_mg 224 rfl)
theorem dX11_constant_12 : decode cX11_constant 12 = .ok (.aload_n 0, 1) := by decide +kernel
theorem dX11_constant_13 : decode cX11_constant 13 = .ok (.getfield 58, 3) := by decide +kernel
theorem dX11_constant_16 : decode cX11_constant 16 = .ok (.iload_n 2, 1) := by decide +kernel
theorem dX11_constant_17 : decode cX11_constant 17 = .ok (.i2l, 1) := by decide +kernel
theorem dX11_constant_18 : decode cX11_constant 18 = .ok (.iconst 0, 1) := by decide +kernel
theorem dX11_constant_19 : decode cX11_constant 19 = .ok (.invokevirtual 88, 3) := by decide +kernel
theorem w4_227 : (Jvm.Cond.methodLink "Polyforge" (88 : Nat) ({ cls := "Polyforge$Slate", name := "put", desc := "(JI)Z" } : Jvm.MethodName)) ∈ lw_tbl := pv_t4 (pv_mg 227 rfl)
theorem w4_230 : (Jvm.Cond.code ({ cls := "Polyforge$Slate", name := "put", desc := "(JI)Z" } : Jvm.MethodName) prog_11_method_10_code (6 : Nat) (Option.some Jvm.ClassFile.FieldType.boolean)) ∈ lw_tbl := pv_t4 (pv_mg 230 rfl)
theorem w4_229 : (Jvm.Cond.selects "Polyforge$Slate" ({ cls := "Polyforge$Slate", name := "put", desc := "(JI)Z" } : Jvm.MethodName) ({ cls := "Polyforge$Slate", name := "put", desc := "(JI)Z" } : Jvm.MethodName)) ∈ lw_tbl := pv_t4 (pv_mg 229 rfl)
theorem w4_228 : (Jvm.Cond.instanceMethod ({ cls := "Polyforge$Slate", name := "put", desc := "(JI)Z" } : Jvm.MethodName)) ∈ lw_tbl := pv_t4 (pv_mg 228 rfl)
theorem dX11_constant_22 : decode cX11_constant 22 = .ok (.pop, 1) := by decide +kernel
theorem dX11_constant_23 : decode cX11_constant 23 = .ok (.aload_n 0, 1) := by decide +kernel
theorem dX11_constant_24 : decode cX11_constant 24 = .ok (.invokevirtual 92, 3) := by decide +kernel
theorem w5_5 : (Jvm.Cond.methodLink "Polyforge" (92 : Nat) ({ cls := "Polyforge", name := "keep", desc := "()I" } : Jvm.MethodName)) ∈ lw_tbl := pv_t5 (pv_mg 5 rfl)
theorem w5_8 : (Jvm.Cond.code ({ cls := "Polyforge", name := "keep", desc := "()I" } : Jvm.MethodName) prog_1_method_81_code (3 : Nat) (Option.some Jvm.ClassFile.FieldType.int)) ∈ lw_tbl := pv_t5 (pv_mg 8 rfl)
theorem wp3_12 : Cond.selects "Polyforge" ⟨"Polyforge", "keep", "()I"⟩ ⟨"Polyforge", "keep", "()I"⟩ ∈ lw_tbl := pv_mg 44 rfl
theorem w5_7 : (Jvm.Cond.instanceMethod ({ cls := "Polyforge", name := "keep", desc := "()I" } : Jvm.MethodName)) ∈ lw_tbl := pv_t5 (pv_mg 7 rfl)
theorem dX11_constant_27 : decode cX11_constant 27 = .ok (.ireturn, 1) := by decide +kernel
set_option maxHeartbeats 4000000 in
set_option maxRecDepth 100000 in
/-- constant on a fresh object -/
theorem c_X11_constant (l : Launch) (hfl : l.stackTraces = false) (D : va_G) (sz : Nat) (h0 : Nat) (q w : Nat → Nat) (cJ cP : ClassId) (f : Nat → Int64) (p0 p1 : Int32) : vx_Met l yX11_constant (Cond.code yX11_constant cX11_constant 3 (some .int) :: pv_W) ({ frames := 8, cells := 3, slots := 9, locals := 124 } : Room) (va_Pc [.ref h0, .int p0, .int p1] (pv_P D [(cJ, .long), (cP, .object "Polyforge$Polynomial")] [(h0, .inr (0, [.ref (q 0), .int 0, .int 108, .ref (q 1), .int 0, .ref (q 2), .int 0, .ref (q 3), .ref (q 4), .int 1, .ref (q 5), .ref (q 6), .ref (q 7), .ref (q 8), .ref (q 9)])), ((q 6), .inr (2, [.ref (w 0), .ref (w 1), .ref (w 2), .ref (w 3), .int 0, .int 0])), ((w 2), .inl (cJ, 64, .inr (.inl f))), ((q 0), .inl (cP, 60, .inr (.inr (.inr (.inr (fun _ => none))))))] (va_A [(h0, .inr (0, [.ref (q 0), .int 0, .int 108, .ref (q 1), .int 0, .ref (q 2), .int 0, .ref (q 3), .ref (q 4), .int 1, .ref (q 5), .ref (q 6), .ref (q 7), .ref (q 8), .ref (q 9)])), ((q 6), .inr (2, [.ref (w 0), .ref (w 1), .ref (w 2), .ref (w 3), .int 0, .int 0])), ((w 2), .inl (cJ, 64, .inr (.inl f))), ((q 0), .inl (cP, 60, .inr (.inr (.inr (.inr (fun _ => none))))))] sz) sz)) (va_Qi (fun r (_ : Unit) => r = 0 ∧ (p0 = 0 ∨ pv_pr p0)) (fun _ _ => True) (va_A [(h0, .inr (0, [.ref (q 0), .int 0, .int 108, .ref (q 1), .int 0, .ref (q 2), .int 0, .ref (q 3), .ref (q 4), .int 1, .ref (q 5), .ref (q 6), .ref (q 7), .ref (q 8), .ref (q 9)])), ((q 6), .inr (2, [.ref (w 0), .ref (w 1), .ref (w 2), .ref (w 3), .int 0, .int 0])), ((w 2), .inl (cJ, 64, .inr (.inl f))), ((q 0), .inl (cP, 60, .inr (.inr (.inr (.inr (fun _ => none))))))] sz)) (vx_X (fun _ : Unit => True) (fun E _ _ => E = "java/lang/IllegalArgumentException" ∧ ¬ (p0 = 0 ∨ pv_pr p0)) (va_A [(h0, .inr (0, [.ref (q 0), .int 0, .int 108, .ref (q 1), .int 0, .ref (q 2), .int 0, .ref (q 3), .ref (q 4), .int 1, .ref (q 5), .ref (q 6), .ref (q 7), .ref (q 8), .ref (q 9)])), ((q 6), .inr (2, [.ref (w 0), .ref (w 1), .ref (w 2), .ref (w 3), .int 0, .int 0])), ((w 2), .inl (cJ, 64, .inr (.inl f))), ((q 0), .inl (cP, 60, .inr (.inr (.inr (.inr (fun _ => none))))))] sz)) 3 9 (va_A [(h0, .inr (0, [.ref (q 0), .int 0, .int 108, .ref (q 1), .int 0, .ref (q 2), .int 0, .ref (q 3), .ref (q 4), .int 1, .ref (q 5), .ref (q 6), .ref (q 7), .ref (q 8), .ref (q 9)])), ((q 6), .inr (2, [.ref (w 0), .ref (w 1), .ref (w 2), .ref (w 3), .int 0, .int 0])), ((w 2), .inl (cJ, 64, .inr (.inl f))), ((q 0), .inl (cP, 60, .inr (.inr (.inr (.inr (fun _ => none))))))] sz) := by
  refine vx_ofW (cc := cX11_constant) (maxL := 3) (ret := (some .int)) (by decide) rfl ?_
  intro p e s m args below meth c s₁ B hml hnt hv
  obtain ⟨rfl, hsz, hE, hP, hK, hD0⟩ := hv
  have hx := B.exec
  have hb := B.bytes
  have hr := B.returns
  have hts := fun (w : Cond) (h : w ∈ pv_W) => atoms_spec (ws := Cond.code yX11_constant cX11_constant 3 (some .int) :: pv_W) B.pre w (List.mem_cons_of_mem _ h)
  have hg := fun {w : Cond} (h : w ∈ lw_tbl) (g : goodWord w = true) => hts w (pv_in h g)
  have hown : s.vm.findClass RX11 = some m.cls := findClass_of_methodNamed B.named
  have hlocks := B.notSynchronized
  subst hsz
  have hD := hD0.self (sz := s.heap.size)
  generalize hAe : va_A [(h0, .inr (0, [.ref (q 0), .int 0, .int 108, .ref (q 1), .int 0, .ref (q 2), .int 0, .ref (q 3), .ref (q 4), .int 1, .ref (q 5), .ref (q 6), .ref (q 7), .ref (q 8), .ref (q 9)])), ((q 6), .inr (2, [.ref (w 0), .ref (w 1), .ref (w 2), .ref (w 3), .int 0, .int 0])), ((w 2), .inl (cJ, 64, .inr (.inl f))), ((q 0), .inl (cP, 60, .inr (.inr (.inr (.inr (fun _ => none))))))] s.heap.size = A at hD hE ⊢
  have hA : ∀ q : Nat, s.heap.size ≤ q → A q := fun q h => by rw [← hAe]; exact Or.inr h
  have hS : va_S A s.heap s.heap [] := va_S.rf
  have hP : va_P D pv_cl [(h0, .inr (0, [.ref (q 0), .int 0, .int 108, .ref (q 1), .int 0, .ref (q 2), .int 0, .ref (q 3), .ref (q 4), .int 1, .ref (q 5), .ref (q 6), .ref (q 7), .ref (q 8), .ref (q 9)])), ((q 6), .inr (2, [.ref (w 0), .ref (w 1), .ref (w 2), .ref (w 3), .int 0, .int 0])), ((w 2), .inl (cJ, 64, .inr (.inl f))), ((q 0), .inl (cP, 60, .inr (.inr (.inr (.inr (fun _ => none))))))] s.heap := hP
  have hl := lv_entry ([.ref h0, .int p0, .int p1]) (n := 3) (Nat.le_of_ble_eq_true rfl)
  rw [lg_entry_eq]
  generalize (lg_sl ([.ref h0, .int p0, .int p1]) ++ List.replicate (3 - (lg_sl ([.ref h0, .int p0, .int p1])).length) Slot.unset).toArray = ls at hl ⊢
  have hl : lv_has ls 3 [(0, .ref h0), (1, .int p0), (2, .int p1)] := hl
  refine lv_iload_n hx hb dX11_constant_0 rfl (lv_at hl 1 rfl) ?_
  have hF := pv_new hA hS.1
  refine vx_callv (vx_runS (As := [.int p0]) (rest := []) ⟨hx, hb, hml, hown, hts⟩ (c_X11_requireGround l hfl D _ p0) (va_cwS 1 hts (pv_gS w4_145 w4_146 w1_1 w4_147) rfl rfl rfl (by decide +kernel) ⟨Nat.le_of_ble_eq_true rfl, Nat.le_of_ble_eq_true rfl⟩) (pv_ps hE hS hF (hP.sub [] rfl) (hK.sub [] rfl) (hD.sub [] (by decide) rfl)) rfl rfl hl.1 rfl (lv_room (Nat.le_of_ble_eq_true rfl)) dX11_constant_1 ⟨Nat.le_of_ble_eq_true rfl, Nat.le_of_ble_eq_true rfl⟩) hS (fun q _ h => hF q h) hF (fun q _ h => hF q h) (fun E ce q9 u t H1 locs1 ht hvm hpx hbx hz1 hk1 hS hce hcv hcl => ?_) (fun u t H1 locs1 ht hvm hw hB hz1 hk1 hS => ?_)
  · exact vx_out (fun x h9 => absurd (hnt x h9) id) hlocks hce hcv hcl (fun t ht hvm => ⟨(), trivial, hbx, hS.F ht⟩) hS.2.2 (Nat.le_of_ble_eq_true rfl) (Nat.le_of_ble_eq_true rfl)
  · refine W.widen (k := 1) (n := 6) (Nat.le_of_ble_eq_true rfl) (Nat.le_of_ble_eq_true rfl) ?_
    have hP := pv_keep hP rfl hk1
    have a_2 := hw
    refine lv_aload_n hx hb dX11_constant_4 rfl (lv_at hl 0 rfl) ?_
    refine va_get (own := RX11) (D := D) (ci := 0) (v := .ref (q 6)) (C := RX11) (T := TX11) (N := 15) hx hb hts inF11 hown hK hP 0 rfl rfl 11 (by decide) (hg w2_48 rfl) (fun _ h9 => h9) rfl dX11_constant_5 ?_
    refine lv_iload_n hx hb dX11_constant_8 rfl (lv_at hl 1 rfl) ?_
    have hF := va_free (wc := [((q 6), .inr (2, [.ref (w 0), .ref (w 1), .ref (w 2), .ref (w 3), .int 0, .int 0]))]) hD hS hA [1] rfl
    refine va_callv (va_runV (As := [.int p0]) (rest := []) ⟨hx, hb, hml, hown, hts⟩ (c_X9_begin l hfl D _ (q 6) w p0) (cwV 1 hts (pv_gV w4_223 w4_224 w4_225 w1_2 w4_226) rfl rfl rfl (by decide +kernel) ⟨Nat.le_of_ble_eq_true rfl, Nat.le_of_ble_eq_true rfl⟩) (pv_pV hE hS hF (hP.sub [1] rfl) (hK.sub [] rfl) (hD.sub [1] (by decide) rfl) (va_recv (ci := 2) (q0 := 1) hK hP rfl rfl)) rfl rfl hl.1 rfl (lv_room (Nat.le_of_ble_eq_true rfl)) dX11_constant_9 ⟨Nat.le_of_ble_eq_true rfl, Nat.le_of_ble_eq_true rfl⟩) hS (fun q _ h => hF q h) hF (fun u t H1 locs1 ht hvm hw hB hz1 hk1 hS => ?_)
    refine W.widen (k := 1) (n := 6) (Nat.le_of_ble_eq_true rfl) (Nat.le_of_ble_eq_true rfl) ?_
    obtain ⟨hP1, hK1, hD1⟩ := hB
    rw [ht] at hP1
    have hK1 := va_K.moved hvm.symm hK1
    obtain ⟨hP, hD⟩ := va_join (wr := [(h0, .inr (0, [.ref (q 0), .int 0, .int 108, .ref (q 1), .int 0, .ref (q 2), .int 0, .ref (q 3), .ref (q 4), .int 1, .ref (q 5), .ref (q 6), .ref (q 7), .ref (q 8), .ref (q 9)])), ((w 2), .inl (cJ, 64, .inr (.inl f))), ((q 0), .inl (cP, 60, .inr (.inr (.inr (.inr (fun _ => none))))))]) (w1 := [((q 6), .inr (2, [.ref (w 0), .ref (w 1), .ref (w 2), .ref (w 3), .int 0, .int p0]))]) hP hD [1] [0, 2, 3] rfl rfl (by decide) (by decide) hk1 hF hP1 hD1
    have hP : va_P D pv_cl [(h0, .inr (0, [.ref (q 0), .int 0, .int 108, .ref (q 1), .int 0, .ref (q 2), .int 0, .ref (q 3), .ref (q 4), .int 1, .ref (q 5), .ref (q 6), .ref (q 7), .ref (q 8), .ref (q 9)])), ((w 2), .inl (cJ, 64, .inr (.inl f))), ((q 0), .inl (cP, 60, .inr (.inr (.inr (.inr (fun _ => none)))))), ((q 6), .inr (2, [.ref (w 0), .ref (w 1), .ref (w 2), .ref (w 3), .int 0, .int p0]))] _ := hP
    have hD : va_D A [(h0, .inr (0, [.ref (q 0), .int 0, .int 108, .ref (q 1), .int 0, .ref (q 2), .int 0, .ref (q 3), .ref (q 4), .int 1, .ref (q 5), .ref (q 6), .ref (q 7), .ref (q 8), .ref (q 9)])), ((w 2), .inl (cJ, 64, .inr (.inl f))), ((q 0), .inl (cP, 60, .inr (.inr (.inr (.inr (fun _ => none)))))), ((q 6), .inr (2, [.ref (w 0), .ref (w 1), .ref (w 2), .ref (w 3), .int 0, .int p0]))] := hD
    refine lv_aload_n hx hb dX11_constant_12 rfl (lv_at hl 0 rfl) ?_
    refine va_get (own := RX11) (D := D) (ci := 0) (v := .ref (q 6)) (C := RX11) (T := TX11) (N := 15) hx hb hts inF11 hown hK hP 0 rfl rfl 11 (by decide) (hg w2_48 rfl) (fun _ h9 => h9) rfl dX11_constant_13 ?_
    refine lv_iload_n hx hb dX11_constant_16 rfl (lv_at hl 2 rfl) ?_
    refine lv_i2l hx hb dX11_constant_17 rfl ?_
    refine lv_iconst (v := 0) hx hb dX11_constant_18 (by decide) ?_
    have hF := va_free (wc := [((q 6), .inr (2, [.ref (w 0), .ref (w 1), .ref (w 2), .ref (w 3), .int 0, .int p0])), ((w 2), .inl (cJ, 64, .inr (.inl f)))]) hD hS hA [3, 1] rfl
    refine va_calli (va_runV (As := [.long p1.toInt64, .int 0]) (rest := []) ⟨hx, hb, hml, hown, hts⟩ (c_X9_put l hfl D _ (q 6) w cJ f p0 p1.toInt64 0) (cwV 2 hts (pv_gV w4_227 w4_228 w4_229 w1_2 w4_230) rfl rfl rfl (by decide +kernel) ⟨Nat.le_of_ble_eq_true rfl, Nat.le_of_ble_eq_true rfl⟩) (pv_pV hE hS hF (hP.sub [3, 1] rfl) (hK.sub [0] rfl) (hD.sub [3, 1] (by decide) rfl) (va_recv (ci := 2) (q0 := 3) hK hP rfl rfl)) rfl rfl hl.1 rfl (lv_room (Nat.le_of_ble_eq_true rfl)) dX11_constant_19 ⟨Nat.le_of_ble_eq_true rfl, Nat.le_of_ble_eq_true rfl⟩) hS (fun q _ h => hF q h) hF (fun r_3 u t H1 locs1 ht hvm hw hB hz1 hk1 hS => ?_)
    refine W.widen (k := 1) (n := 6) (Nat.le_of_ble_eq_true rfl) (Nat.le_of_ble_eq_true rfl) ?_
    obtain ⟨n1, f1⟩ := u
    obtain ⟨hP1, hK1, hD1⟩ := hB
    rcases (show n1 = 0 ∨ n1 = 1 from hw) with rfl | rfl
    · rw [ht] at hP1
      have hK1 := va_K.moved hvm.symm hK1
      obtain ⟨hP, hD⟩ := va_join (wr := [(h0, .inr (0, [.ref (q 0), .int 0, .int 108, .ref (q 1), .int 0, .ref (q 2), .int 0, .ref (q 3), .ref (q 4), .int 1, .ref (q 5), .ref (q 6), .ref (q 7), .ref (q 8), .ref (q 9)])), ((q 0), .inl (cP, 60, .inr (.inr (.inr (.inr (fun _ => none))))))]) (w1 := [((q 6), .inr (2, [.ref (w 0), .ref (w 1), .ref (w 2), .ref (w 3), .int 0, .int p0])), ((w 2), .inl (cJ, 64, .inr (.inl f1)))]) hP hD [3, 1] [0, 2] rfl rfl (by decide) (by decide) hk1 hF hP1 hD1
      have hP : va_P D pv_cl [(h0, .inr (0, [.ref (q 0), .int 0, .int 108, .ref (q 1), .int 0, .ref (q 2), .int 0, .ref (q 3), .ref (q 4), .int 1, .ref (q 5), .ref (q 6), .ref (q 7), .ref (q 8), .ref (q 9)])), ((q 0), .inl (cP, 60, .inr (.inr (.inr (.inr (fun _ => none)))))), ((q 6), .inr (2, [.ref (w 0), .ref (w 1), .ref (w 2), .ref (w 3), .int 0, .int p0])), ((w 2), .inl (cJ, 64, .inr (.inl f1)))] _ := hP
      have hD : va_D A [(h0, .inr (0, [.ref (q 0), .int 0, .int 108, .ref (q 1), .int 0, .ref (q 2), .int 0, .ref (q 3), .ref (q 4), .int 1, .ref (q 5), .ref (q 6), .ref (q 7), .ref (q 8), .ref (q 9)])), ((q 0), .inl (cP, 60, .inr (.inr (.inr (.inr (fun _ => none)))))), ((q 6), .inr (2, [.ref (w 0), .ref (w 1), .ref (w 2), .ref (w 3), .int 0, .int p0])), ((w 2), .inl (cJ, 64, .inr (.inl f1)))] := hD
      refine lv_pop hx hb dX11_constant_22 rfl ?_
      refine lv_aload_n hx hb dX11_constant_23 rfl (lv_at hl 0 rfl) ?_
      have hF := va_free (wc := [(h0, .inr (0, [.ref (q 0), .int 0, .int 108, .ref (q 1), .int 0, .ref (q 2), .int 0, .ref (q 3), .ref (q 4), .int 1, .ref (q 5), .ref (q 6), .ref (q 7), .ref (q 8), .ref (q 9)])), ((q 6), .inr (2, [.ref (w 0), .ref (w 1), .ref (w 2), .ref (w 3), .int 0, .int p0])), ((w 2), .inl (cJ, 64, .inr (.inl f1))), ((q 0), .inl (cP, 60, .inr (.inr (.inr (.inr (fun _ => none))))))]) hD hS hA [0, 2, 3, 1] rfl
      refine vx_calli (vx_runV (As := []) (rest := []) ⟨hx, hb, hml, hown, hts⟩ (c_X11_keep_0 l hfl D _ h0 q w cJ cP f1 p0) (cwV 0 hts (pv_gV w5_5 w5_7 wp3_12 w1_1 w5_8) rfl rfl rfl (by decide +kernel) ⟨Nat.le_of_ble_eq_true rfl, Nat.le_of_ble_eq_true rfl⟩) (pv_pV hE hS hF (hP.sub [0, 2, 3, 1] rfl) (hK.sub [0, 1] rfl) (hD.sub [0, 2, 3, 1] (by decide) rfl) (va_recv (ci := 0) (q0 := 0) hK hP rfl rfl)) rfl rfl hl.1 rfl (lv_room (Nat.le_of_ble_eq_true rfl)) dX11_constant_24 ⟨Nat.le_of_ble_eq_true rfl, Nat.le_of_ble_eq_true rfl⟩) hS (fun q _ h => hF q h) hF (fun q _ h => hF q h) (fun E ce q9 u t H1 locs1 ht hvm hpx hbx hz1 hk1 hS hce hcv hcl => ?_) (fun r_4 u t H1 locs1 ht hvm hw hB hz1 hk1 hS => ?_)
      · exact vx_out (fun x h9 => absurd (hnt x h9) id) hlocks hce hcv hcl (fun t ht hvm => ⟨(), trivial, hbx.elim, hS.F ht⟩) hS.2.2 (Nat.le_of_ble_eq_true rfl) (Nat.le_of_ble_eq_true rfl)
      · refine W.widen (k := 3) (n := 8) (Nat.le_of_ble_eq_true rfl) (Nat.le_of_ble_eq_true rfl) ?_
        obtain rfl := hw
        refine vx_ret ?_
        refine W.widen (k := 3) (n := 9) (Nat.le_of_ble_eq_true rfl) (Nat.le_of_ble_eq_true rfl) ?_
        exact W.iret (v := 0) hx hb hr (fun t ht hW => ⟨⟨0, (), rfl, ⟨rfl, a_2⟩, trivial⟩, hS.F ht⟩) hS.2.2 dX11_constant_27
    · rw [ht] at hP1
      have hK1 := va_K.moved hvm.symm hK1
      obtain ⟨hP, hD⟩ := va_join (wr := [(h0, .inr (0, [.ref (q 0), .int 0, .int 108, .ref (q 1), .int 0, .ref (q 2), .int 0, .ref (q 3), .ref (q 4), .int 1, .ref (q 5), .ref (q 6), .ref (q 7), .ref (q 8), .ref (q 9)])), ((q 0), .inl (cP, 60, .inr (.inr (.inr (.inr (fun _ => none))))))]) (w1 := [((q 6), .inr (2, [.ref (w 0), .ref (w 1), .ref (w 2), .ref (w 3), .int 1, .int p0])), ((w 2), .inl (cJ, 64, .inr (.inl f1)))]) hP hD [3, 1] [0, 2] rfl rfl (by decide) (by decide) hk1 hF hP1 hD1
      have hP : va_P D pv_cl [(h0, .inr (0, [.ref (q 0), .int 0, .int 108, .ref (q 1), .int 0, .ref (q 2), .int 0, .ref (q 3), .ref (q 4), .int 1, .ref (q 5), .ref (q 6), .ref (q 7), .ref (q 8), .ref (q 9)])), ((q 0), .inl (cP, 60, .inr (.inr (.inr (.inr (fun _ => none)))))), ((q 6), .inr (2, [.ref (w 0), .ref (w 1), .ref (w 2), .ref (w 3), .int 1, .int p0])), ((w 2), .inl (cJ, 64, .inr (.inl f1)))] _ := hP
      have hD : va_D A [(h0, .inr (0, [.ref (q 0), .int 0, .int 108, .ref (q 1), .int 0, .ref (q 2), .int 0, .ref (q 3), .ref (q 4), .int 1, .ref (q 5), .ref (q 6), .ref (q 7), .ref (q 8), .ref (q 9)])), ((q 0), .inl (cP, 60, .inr (.inr (.inr (.inr (fun _ => none)))))), ((q 6), .inr (2, [.ref (w 0), .ref (w 1), .ref (w 2), .ref (w 3), .int 1, .int p0])), ((w 2), .inl (cJ, 64, .inr (.inl f1)))] := hD
      refine lv_pop hx hb dX11_constant_22 rfl ?_
      refine lv_aload_n hx hb dX11_constant_23 rfl (lv_at hl 0 rfl) ?_
      have hF := va_free (wc := [(h0, .inr (0, [.ref (q 0), .int 0, .int 108, .ref (q 1), .int 0, .ref (q 2), .int 0, .ref (q 3), .ref (q 4), .int 1, .ref (q 5), .ref (q 6), .ref (q 7), .ref (q 8), .ref (q 9)])), ((q 6), .inr (2, [.ref (w 0), .ref (w 1), .ref (w 2), .ref (w 3), .int 1, .int p0])), ((w 2), .inl (cJ, 64, .inr (.inl f1))), ((q 0), .inl (cP, 60, .inr (.inr (.inr (.inr (fun _ => none))))))]) hD hS hA [0, 2, 3, 1] rfl
      refine vx_calli (vx_runV (As := []) (rest := []) ⟨hx, hb, hml, hown, hts⟩ (c_X11_keep_1 l hfl D _ h0 q w cJ cP f1 p0) (cwV 0 hts (pv_gV w5_5 w5_7 wp3_12 w1_1 w5_8) rfl rfl rfl (by decide +kernel) ⟨Nat.le_of_ble_eq_true rfl, Nat.le_of_ble_eq_true rfl⟩) (pv_pV hE hS hF (hP.sub [0, 2, 3, 1] rfl) (hK.sub [0, 1] rfl) (hD.sub [0, 2, 3, 1] (by decide) rfl) (va_recv (ci := 0) (q0 := 0) hK hP rfl rfl)) rfl rfl hl.1 rfl (lv_room (Nat.le_of_ble_eq_true rfl)) dX11_constant_24 ⟨Nat.le_of_ble_eq_true rfl, Nat.le_of_ble_eq_true rfl⟩) hS (fun q _ h => hF q h) hF (fun q _ h => hF q h) (fun E ce q9 u t H1 locs1 ht hvm hpx hbx hz1 hk1 hS hce hcv hcl => ?_) (fun r_5 u t H1 locs1 ht hvm hw hB hz1 hk1 hS => ?_)
      · exact vx_out (fun x h9 => absurd (hnt x h9) id) hlocks hce hcv hcl (fun t ht hvm => ⟨(), trivial, hbx.elim, hS.F ht⟩) hS.2.2 (Nat.le_of_ble_eq_true rfl) (Nat.le_of_ble_eq_true rfl)
      · refine W.widen (k := 3) (n := 9) (Nat.le_of_ble_eq_true rfl) (Nat.le_of_ble_eq_true rfl) ?_
        obtain rfl := hw
        refine vx_ret ?_
        refine W.widen (k := 3) (n := 9) (Nat.le_of_ble_eq_true rfl) (Nat.le_of_ble_eq_true rfl) ?_
        exact W.iret (v := 0) hx hb hr (fun t ht hW => ⟨⟨0, (), rfl, ⟨rfl, a_2⟩, trivial⟩, hS.F ht⟩) hS.2.2 dX11_constant_27

theorem dX11_variable_0 : decode cX11_variable 0 = .ok (.iload_n 1, 1) := by decide +kernel
theorem dX11_variable_1 : decode cX11_variable 1 = .ok (.invokestatic 81, 3) := by decide +kernel
theorem dX11_variable_4 : decode cX11_variable 4 = .ok (.iload_n 2, 1) := by decide +kernel
theorem dX11_variable_5 : decode cX11_variable 5 = .ok (.invokestatic 96, 3) := by decide +kernel
theorem dX11_variable_8 : decode cX11_variable 8 = .ok (.aload_n 0, 1) := by decide +kernel
theorem dX11_variable_9 : decode cX11_variable 9 = .ok (.getfield 58, 3) := by decide +kernel
theorem dX11_variable_12 : decode cX11_variable 12 = .ok (.iload_n 1, 1) := by decide +kernel
theorem dX11_variable_13 : decode cX11_variable 13 = .ok (.invokevirtual 85, 3) := by decide +kernel
theorem dX11_variable_16 : decode cX11_variable 16 = .ok (.aload_n 0, 1) := by decide +kernel
theorem dX11_variable_17 : decode cX11_variable 17 = .ok (.getfield 58, 3) := by decide +kernel
theorem dX11_variable_20 : decode cX11_variable 20 = .ok (.lconst 1, 1) := by decide +kernel
theorem dX11_variable_21 : decode cX11_variable 21 = .ok (.iload_n 2, 1) := by decide +kernel
theorem dX11_variable_22 : decode cX11_variable 22 = .ok (.invokestatic 99, 3) := by decide +kernel
theorem w5_63 : (Jvm.Cond.methodLink "Polyforge" (99 : Nat) ({ cls := "Polyforge$Polynomial", name := "unit", desc := "(I)I" } : Jvm.MethodName)) ∈ lw_tbl := pv_t5 (pv_mg 63 rfl)
theorem w5_65 : (Jvm.Cond.code ({ cls := "Polyforge$Polynomial", name := "unit", desc := "(I)I" } : Jvm.MethodName) prog_9_method_3_code (1 : Nat) (Option.some Jvm.ClassFile.FieldType.int)) ∈ lw_tbl := pv_t5 (pv_mg 65 rfl)
theorem w5_64 : (Jvm.Cond.static ({ cls := "Polyforge$Polynomial", name := "unit", desc := "(I)I" } : Jvm.MethodName)) ∈ lw_tbl := pv_t5 (pv_mg 64 rfl)
theorem dX11_variable_25 : decode cX11_variable 25 = .ok (.invokevirtual 88, 3) := by decide +kernel
theorem dX11_variable_28 : decode cX11_variable 28 = .ok (.pop, 1) := by decide +kernel
theorem dX11_variable_29 : decode cX11_variable 29 = .ok (.aload_n 0, 1) := by decide +kernel
theorem dX11_variable_30 : decode cX11_variable 30 = .ok (.invokevirtual 92, 3) := by decide +kernel
theorem dX11_variable_33 : decode cX11_variable 33 = .ok (.ireturn, 1) := by decide +kernel
set_option maxHeartbeats 4000000 in
set_option maxRecDepth 100000 in
/-- variable on a fresh object -/
theorem c_X11_variable (l : Launch) (hfl : l.stackTraces = false) (D : va_G) (sz : Nat) (h0 : Nat) (q w : Nat → Nat) (cJ cP : ClassId) (f : Nat → Int64) (p0 p1 : Int32) : vx_Met l yX11_variable (Cond.code yX11_variable cX11_variable 3 (some .int) :: pv_W) ({ frames := 8, cells := 4, slots := 15, locals := 124 } : Room) (va_Pc [.ref h0, .int p0, .int p1] (pv_P D [(cJ, .long), (cP, .object "Polyforge$Polynomial")] [(h0, .inr (0, [.ref (q 0), .int 0, .int 108, .ref (q 1), .int 0, .ref (q 2), .int 0, .ref (q 3), .ref (q 4), .int 1, .ref (q 5), .ref (q 6), .ref (q 7), .ref (q 8), .ref (q 9)])), ((q 6), .inr (2, [.ref (w 0), .ref (w 1), .ref (w 2), .ref (w 3), .int 0, .int 0])), ((w 2), .inl (cJ, 64, .inr (.inl f))), ((q 0), .inl (cP, 60, .inr (.inr (.inr (.inr (fun _ => none))))))] (va_A [(h0, .inr (0, [.ref (q 0), .int 0, .int 108, .ref (q 1), .int 0, .ref (q 2), .int 0, .ref (q 3), .ref (q 4), .int 1, .ref (q 5), .ref (q 6), .ref (q 7), .ref (q 8), .ref (q 9)])), ((q 6), .inr (2, [.ref (w 0), .ref (w 1), .ref (w 2), .ref (w 3), .int 0, .int 0])), ((w 2), .inl (cJ, 64, .inr (.inl f))), ((q 0), .inl (cP, 60, .inr (.inr (.inr (.inr (fun _ => none))))))] sz) sz)) (va_Qi (fun r (_ : Unit) => r = 0 ∧ ((p0 = 0 ∨ pv_pr p0) ∧ pv_vr p1)) (fun _ _ => True) (va_A [(h0, .inr (0, [.ref (q 0), .int 0, .int 108, .ref (q 1), .int 0, .ref (q 2), .int 0, .ref (q 3), .ref (q 4), .int 1, .ref (q 5), .ref (q 6), .ref (q 7), .ref (q 8), .ref (q 9)])), ((q 6), .inr (2, [.ref (w 0), .ref (w 1), .ref (w 2), .ref (w 3), .int 0, .int 0])), ((w 2), .inl (cJ, 64, .inr (.inl f))), ((q 0), .inl (cP, 60, .inr (.inr (.inr (.inr (fun _ => none))))))] sz)) (vx_X (fun _ : Unit => True) (fun E _ _ => E = "java/lang/IllegalArgumentException" ∧ ¬ ((p0 = 0 ∨ pv_pr p0) ∧ pv_vr p1)) (va_A [(h0, .inr (0, [.ref (q 0), .int 0, .int 108, .ref (q 1), .int 0, .ref (q 2), .int 0, .ref (q 3), .ref (q 4), .int 1, .ref (q 5), .ref (q 6), .ref (q 7), .ref (q 8), .ref (q 9)])), ((q 6), .inr (2, [.ref (w 0), .ref (w 1), .ref (w 2), .ref (w 3), .int 0, .int 0])), ((w 2), .inl (cJ, 64, .inr (.inl f))), ((q 0), .inl (cP, 60, .inr (.inr (.inr (.inr (fun _ => none))))))] sz)) 4 15 (va_A [(h0, .inr (0, [.ref (q 0), .int 0, .int 108, .ref (q 1), .int 0, .ref (q 2), .int 0, .ref (q 3), .ref (q 4), .int 1, .ref (q 5), .ref (q 6), .ref (q 7), .ref (q 8), .ref (q 9)])), ((q 6), .inr (2, [.ref (w 0), .ref (w 1), .ref (w 2), .ref (w 3), .int 0, .int 0])), ((w 2), .inl (cJ, 64, .inr (.inl f))), ((q 0), .inl (cP, 60, .inr (.inr (.inr (.inr (fun _ => none))))))] sz) := by
  refine vx_ofW (cc := cX11_variable) (maxL := 3) (ret := (some .int)) (by decide) rfl ?_
  intro p e s m args below meth c s₁ B hml hnt hv
  obtain ⟨rfl, hsz, hE, hP, hK, hD0⟩ := hv
  have hx := B.exec
  have hb := B.bytes
  have hr := B.returns
  have hts := fun (w : Cond) (h : w ∈ pv_W) => atoms_spec (ws := Cond.code yX11_variable cX11_variable 3 (some .int) :: pv_W) B.pre w (List.mem_cons_of_mem _ h)
  have hg := fun {w : Cond} (h : w ∈ lw_tbl) (g : goodWord w = true) => hts w (pv_in h g)
  have hown : s.vm.findClass RX11 = some m.cls := findClass_of_methodNamed B.named
  have hlocks := B.notSynchronized
  subst hsz
  have hD := hD0.self (sz := s.heap.size)
  generalize hAe : va_A [(h0, .inr (0, [.ref (q 0), .int 0, .int 108, .ref (q 1), .int 0, .ref (q 2), .int 0, .ref (q 3), .ref (q 4), .int 1, .ref (q 5), .ref (q 6), .ref (q 7), .ref (q 8), .ref (q 9)])), ((q 6), .inr (2, [.ref (w 0), .ref (w 1), .ref (w 2), .ref (w 3), .int 0, .int 0])), ((w 2), .inl (cJ, 64, .inr (.inl f))), ((q 0), .inl (cP, 60, .inr (.inr (.inr (.inr (fun _ => none))))))] s.heap.size = A at hD hE ⊢
  have hA : ∀ q : Nat, s.heap.size ≤ q → A q := fun q h => by rw [← hAe]; exact Or.inr h
  have hS : va_S A s.heap s.heap [] := va_S.rf
  have hP : va_P D pv_cl [(h0, .inr (0, [.ref (q 0), .int 0, .int 108, .ref (q 1), .int 0, .ref (q 2), .int 0, .ref (q 3), .ref (q 4), .int 1, .ref (q 5), .ref (q 6), .ref (q 7), .ref (q 8), .ref (q 9)])), ((q 6), .inr (2, [.ref (w 0), .ref (w 1), .ref (w 2), .ref (w 3), .int 0, .int 0])), ((w 2), .inl (cJ, 64, .inr (.inl f))), ((q 0), .inl (cP, 60, .inr (.inr (.inr (.inr (fun _ => none))))))] s.heap := hP
  have hl := lv_entry ([.ref h0, .int p0, .int p1]) (n := 3) (Nat.le_of_ble_eq_true rfl)
  rw [lg_entry_eq]
  generalize (lg_sl ([.ref h0, .int p0, .int p1]) ++ List.replicate (3 - (lg_sl ([.ref h0, .int p0, .int p1])).length) Slot.unset).toArray = ls at hl ⊢
  have hl : lv_has ls 3 [(0, .ref h0), (1, .int p0), (2, .int p1)] := hl
  refine lv_iload_n hx hb dX11_variable_0 rfl (lv_at hl 1 rfl) ?_
  have hF := pv_new hA hS.1
  refine vx_callv (vx_runS (As := [.int p0]) (rest := []) ⟨hx, hb, hml, hown, hts⟩ (c_X11_requireGround l hfl D _ p0) (va_cwS 1 hts (pv_gS w4_145 w4_146 w1_1 w4_147) rfl rfl rfl (by decide +kernel) ⟨Nat.le_of_ble_eq_true rfl, Nat.le_of_ble_eq_true rfl⟩) (pv_ps hE hS hF (hP.sub [] rfl) (hK.sub [] rfl) (hD.sub [] (by decide) rfl)) rfl rfl hl.1 rfl (lv_room (Nat.le_of_ble_eq_true rfl)) dX11_variable_1 ⟨Nat.le_of_ble_eq_true rfl, Nat.le_of_ble_eq_true rfl⟩) hS (fun q _ h => hF q h) hF (fun q _ h => hF q h) (fun E ce q9 u t H1 locs1 ht hvm hpx hbx hz1 hk1 hS hce hcv hcl => ?_) (fun u t H1 locs1 ht hvm hw hB hz1 hk1 hS => ?_)
  · exact vx_out (fun x h9 => absurd (hnt x h9) id) hlocks hce hcv hcl (fun t ht hvm => ⟨(), trivial, ⟨hbx.1, fun h => hbx.2 h.1⟩, hS.F ht⟩) hS.2.2 (Nat.le_of_ble_eq_true rfl) (Nat.le_of_ble_eq_true rfl)
  · refine W.widen (k := 1) (n := 6) (Nat.le_of_ble_eq_true rfl) (Nat.le_of_ble_eq_true rfl) ?_
    have hP := pv_keep hP rfl hk1
    have a_2 := hw
    refine lv_iload_n hx hb dX11_variable_4 rfl (lv_at hl 2 rfl) ?_
    have hF := pv_new hA hS.1
    refine vx_callv (vx_runS (As := [.int p1]) (rest := []) ⟨hx, hb, hml, hown, hts⟩ (c_X11_requireVariable l hfl D _ p1) (va_cwS 1 hts (pv_gS w5_56 w5_57 w1_1 w5_58) rfl rfl rfl (by decide +kernel) ⟨Nat.le_of_ble_eq_true rfl, Nat.le_of_ble_eq_true rfl⟩) (pv_ps hE hS hF (hP.sub [] rfl) (hK.sub [] rfl) (hD.sub [] (by decide) rfl)) rfl rfl hl.1 rfl (lv_room (Nat.le_of_ble_eq_true rfl)) dX11_variable_5 ⟨Nat.le_of_ble_eq_true rfl, Nat.le_of_ble_eq_true rfl⟩) hS (fun q _ h => hF q h) hF (fun q _ h => hF q h) (fun E ce q9 u t H1 locs1 ht hvm hpx hbx hz1 hk1 hS hce hcv hcl => ?_) (fun u t H1 locs1 ht hvm hw hB hz1 hk1 hS => ?_)
    · exact vx_out (fun x h9 => absurd (hnt x h9) id) hlocks hce hcv hcl (fun t ht hvm => ⟨(), trivial, ⟨hbx.1, fun h => hbx.2 h.2⟩, hS.F ht⟩) hS.2.2 (Nat.le_of_ble_eq_true rfl) (Nat.le_of_ble_eq_true rfl)
    · refine W.widen (k := 2) (n := 12) (Nat.le_of_ble_eq_true rfl) (Nat.le_of_ble_eq_true rfl) ?_
      have hP := pv_keep hP rfl hk1
      have a_4 := hw
      refine lv_aload_n hx hb dX11_variable_8 rfl (lv_at hl 0 rfl) ?_
      refine va_get (own := RX11) (D := D) (ci := 0) (v := .ref (q 6)) (C := RX11) (T := TX11) (N := 15) hx hb hts inF11 hown hK hP 0 rfl rfl 11 (by decide) (hg w2_48 rfl) (fun _ h9 => h9) rfl dX11_variable_9 ?_
      refine lv_iload_n hx hb dX11_variable_12 rfl (lv_at hl 1 rfl) ?_
      have hF := va_free (wc := [((q 6), .inr (2, [.ref (w 0), .ref (w 1), .ref (w 2), .ref (w 3), .int 0, .int 0]))]) hD hS hA [1] rfl
      refine va_callv (va_runV (As := [.int p0]) (rest := []) ⟨hx, hb, hml, hown, hts⟩ (c_X9_begin l hfl D _ (q 6) w p0) (cwV 1 hts (pv_gV w4_223 w4_224 w4_225 w1_2 w4_226) rfl rfl rfl (by decide +kernel) ⟨Nat.le_of_ble_eq_true rfl, Nat.le_of_ble_eq_true rfl⟩) (pv_pV hE hS hF (hP.sub [1] rfl) (hK.sub [] rfl) (hD.sub [1] (by decide) rfl) (va_recv (ci := 2) (q0 := 1) hK hP rfl rfl)) rfl rfl hl.1 rfl (lv_room (Nat.le_of_ble_eq_true rfl)) dX11_variable_13 ⟨Nat.le_of_ble_eq_true rfl, Nat.le_of_ble_eq_true rfl⟩) hS (fun q _ h => hF q h) hF (fun u t H1 locs1 ht hvm hw hB hz1 hk1 hS => ?_)
      refine W.widen (k := 2) (n := 12) (Nat.le_of_ble_eq_true rfl) (Nat.le_of_ble_eq_true rfl) ?_
      obtain ⟨hP1, hK1, hD1⟩ := hB
      rw [ht] at hP1
      have hK1 := va_K.moved hvm.symm hK1
      obtain ⟨hP, hD⟩ := va_join (wr := [(h0, .inr (0, [.ref (q 0), .int 0, .int 108, .ref (q 1), .int 0, .ref (q 2), .int 0, .ref (q 3), .ref (q 4), .int 1, .ref (q 5), .ref (q 6), .ref (q 7), .ref (q 8), .ref (q 9)])), ((w 2), .inl (cJ, 64, .inr (.inl f))), ((q 0), .inl (cP, 60, .inr (.inr (.inr (.inr (fun _ => none))))))]) (w1 := [((q 6), .inr (2, [.ref (w 0), .ref (w 1), .ref (w 2), .ref (w 3), .int 0, .int p0]))]) hP hD [1] [0, 2, 3] rfl rfl (by decide) (by decide) hk1 hF hP1 hD1
      have hP : va_P D pv_cl [(h0, .inr (0, [.ref (q 0), .int 0, .int 108, .ref (q 1), .int 0, .ref (q 2), .int 0, .ref (q 3), .ref (q 4), .int 1, .ref (q 5), .ref (q 6), .ref (q 7), .ref (q 8), .ref (q 9)])), ((w 2), .inl (cJ, 64, .inr (.inl f))), ((q 0), .inl (cP, 60, .inr (.inr (.inr (.inr (fun _ => none)))))), ((q 6), .inr (2, [.ref (w 0), .ref (w 1), .ref (w 2), .ref (w 3), .int 0, .int p0]))] _ := hP
      have hD : va_D A [(h0, .inr (0, [.ref (q 0), .int 0, .int 108, .ref (q 1), .int 0, .ref (q 2), .int 0, .ref (q 3), .ref (q 4), .int 1, .ref (q 5), .ref (q 6), .ref (q 7), .ref (q 8), .ref (q 9)])), ((w 2), .inl (cJ, 64, .inr (.inl f))), ((q 0), .inl (cP, 60, .inr (.inr (.inr (.inr (fun _ => none)))))), ((q 6), .inr (2, [.ref (w 0), .ref (w 1), .ref (w 2), .ref (w 3), .int 0, .int p0]))] := hD
      refine lv_aload_n hx hb dX11_variable_16 rfl (lv_at hl 0 rfl) ?_
      refine va_get (own := RX11) (D := D) (ci := 0) (v := .ref (q 6)) (C := RX11) (T := TX11) (N := 15) hx hb hts inF11 hown hK hP 0 rfl rfl 11 (by decide) (hg w2_48 rfl) (fun _ h9 => h9) rfl dX11_variable_17 ?_
      refine lv_lconst (v := 1) hx hb dX11_variable_20 (by decide) ?_
      refine lv_iload_n hx hb dX11_variable_21 rfl (lv_at hl 2 rfl) ?_
      have hF := pv_new hA hS.1
      refine va_calli (va_runS (As := [.int p1]) (rest := [.long 1, .ref (q 6)]) ⟨hx, hb, hml, hown, hts⟩ (c_X7_unit l hfl D _ p1) (va_cwS 1 hts (pv_gS w5_63 w5_64 w1_17 w5_65) rfl rfl rfl (by decide +kernel) ⟨Nat.le_of_ble_eq_true rfl, Nat.le_of_ble_eq_true rfl⟩) (pv_ps hE hS hF (hP.sub [] rfl) (hK.sub [] rfl) (hD.sub [] (by decide) rfl)) rfl rfl hl.1 rfl (lv_room (Nat.le_of_ble_eq_true rfl)) dX11_variable_22 ⟨Nat.le_of_ble_eq_true rfl, Nat.le_of_ble_eq_true rfl⟩) hS (fun q _ h => hF q h) hF (fun r_5 u t H1 locs1 ht hvm hw hB hz1 hk1 hS => ?_)
      refine W.widen (k := 2) (n := 12) (Nat.le_of_ble_eq_true rfl) (Nat.le_of_ble_eq_true rfl) ?_
      have hP := pv_keep hP rfl hk1
      have hF := va_free (wc := [((q 6), .inr (2, [.ref (w 0), .ref (w 1), .ref (w 2), .ref (w 3), .int 0, .int p0])), ((w 2), .inl (cJ, 64, .inr (.inl f)))]) hD hS hA [3, 1] rfl
      refine va_calli (va_runV (As := [.long 1, .int r_5]) (rest := []) ⟨hx, hb, hml, hown, hts⟩ (c_X9_put l hfl D _ (q 6) w cJ f p0 1 r_5) (cwV 2 hts (pv_gV w4_227 w4_228 w4_229 w1_2 w4_230) rfl rfl rfl (by decide +kernel) ⟨Nat.le_of_ble_eq_true rfl, Nat.le_of_ble_eq_true rfl⟩) (pv_pV hE hS hF (hP.sub [3, 1] rfl) (hK.sub [0] rfl) (hD.sub [3, 1] (by decide) rfl) (va_recv (ci := 2) (q0 := 3) hK hP rfl rfl)) rfl rfl hl.1 rfl (lv_room (Nat.le_of_ble_eq_true rfl)) dX11_variable_25 ⟨Nat.le_of_ble_eq_true rfl, Nat.le_of_ble_eq_true rfl⟩) hS (fun q _ h => hF q h) hF (fun r_6 u t H1 locs1 ht hvm hw hB hz1 hk1 hS => ?_)
      refine W.widen (k := 2) (n := 12) (Nat.le_of_ble_eq_true rfl) (Nat.le_of_ble_eq_true rfl) ?_
      obtain ⟨n1, f1⟩ := u
      obtain ⟨hP1, hK1, hD1⟩ := hB
      rcases (show n1 = 0 ∨ n1 = 1 from hw) with rfl | rfl
      · rw [ht] at hP1
        have hK1 := va_K.moved hvm.symm hK1
        obtain ⟨hP, hD⟩ := va_join (wr := [(h0, .inr (0, [.ref (q 0), .int 0, .int 108, .ref (q 1), .int 0, .ref (q 2), .int 0, .ref (q 3), .ref (q 4), .int 1, .ref (q 5), .ref (q 6), .ref (q 7), .ref (q 8), .ref (q 9)])), ((q 0), .inl (cP, 60, .inr (.inr (.inr (.inr (fun _ => none))))))]) (w1 := [((q 6), .inr (2, [.ref (w 0), .ref (w 1), .ref (w 2), .ref (w 3), .int 0, .int p0])), ((w 2), .inl (cJ, 64, .inr (.inl f1)))]) hP hD [3, 1] [0, 2] rfl rfl (by decide) (by decide) hk1 hF hP1 hD1
        have hP : va_P D pv_cl [(h0, .inr (0, [.ref (q 0), .int 0, .int 108, .ref (q 1), .int 0, .ref (q 2), .int 0, .ref (q 3), .ref (q 4), .int 1, .ref (q 5), .ref (q 6), .ref (q 7), .ref (q 8), .ref (q 9)])), ((q 0), .inl (cP, 60, .inr (.inr (.inr (.inr (fun _ => none)))))), ((q 6), .inr (2, [.ref (w 0), .ref (w 1), .ref (w 2), .ref (w 3), .int 0, .int p0])), ((w 2), .inl (cJ, 64, .inr (.inl f1)))] _ := hP
        have hD : va_D A [(h0, .inr (0, [.ref (q 0), .int 0, .int 108, .ref (q 1), .int 0, .ref (q 2), .int 0, .ref (q 3), .ref (q 4), .int 1, .ref (q 5), .ref (q 6), .ref (q 7), .ref (q 8), .ref (q 9)])), ((q 0), .inl (cP, 60, .inr (.inr (.inr (.inr (fun _ => none)))))), ((q 6), .inr (2, [.ref (w 0), .ref (w 1), .ref (w 2), .ref (w 3), .int 0, .int p0])), ((w 2), .inl (cJ, 64, .inr (.inl f1)))] := hD
        refine lv_pop hx hb dX11_variable_28 rfl ?_
        refine lv_aload_n hx hb dX11_variable_29 rfl (lv_at hl 0 rfl) ?_
        have hF := va_free (wc := [(h0, .inr (0, [.ref (q 0), .int 0, .int 108, .ref (q 1), .int 0, .ref (q 2), .int 0, .ref (q 3), .ref (q 4), .int 1, .ref (q 5), .ref (q 6), .ref (q 7), .ref (q 8), .ref (q 9)])), ((q 6), .inr (2, [.ref (w 0), .ref (w 1), .ref (w 2), .ref (w 3), .int 0, .int p0])), ((w 2), .inl (cJ, 64, .inr (.inl f1))), ((q 0), .inl (cP, 60, .inr (.inr (.inr (.inr (fun _ => none))))))]) hD hS hA [0, 2, 3, 1] rfl
        refine vx_calli (vx_runV (As := []) (rest := []) ⟨hx, hb, hml, hown, hts⟩ (c_X11_keep_0 l hfl D _ h0 q w cJ cP f1 p0) (cwV 0 hts (pv_gV w5_5 w5_7 wp3_12 w1_1 w5_8) rfl rfl rfl (by decide +kernel) ⟨Nat.le_of_ble_eq_true rfl, Nat.le_of_ble_eq_true rfl⟩) (pv_pV hE hS hF (hP.sub [0, 2, 3, 1] rfl) (hK.sub [0, 1] rfl) (hD.sub [0, 2, 3, 1] (by decide) rfl) (va_recv (ci := 0) (q0 := 0) hK hP rfl rfl)) rfl rfl hl.1 rfl (lv_room (Nat.le_of_ble_eq_true rfl)) dX11_variable_30 ⟨Nat.le_of_ble_eq_true rfl, Nat.le_of_ble_eq_true rfl⟩) hS (fun q _ h => hF q h) hF (fun q _ h => hF q h) (fun E ce q9 u t H1 locs1 ht hvm hpx hbx hz1 hk1 hS hce hcv hcl => ?_) (fun r_7 u t H1 locs1 ht hvm hw hB hz1 hk1 hS => ?_)
        · exact vx_out (fun x h9 => absurd (hnt x h9) id) hlocks hce hcv hcl (fun t ht hvm => ⟨(), trivial, hbx.elim, hS.F ht⟩) hS.2.2 (Nat.le_of_ble_eq_true rfl) (Nat.le_of_ble_eq_true rfl)
        · refine W.widen (k := 4) (n := 14) (Nat.le_of_ble_eq_true rfl) (Nat.le_of_ble_eq_true rfl) ?_
          obtain rfl := hw
          refine vx_ret ?_
          refine W.widen (k := 4) (n := 15) (Nat.le_of_ble_eq_true rfl) (Nat.le_of_ble_eq_true rfl) ?_
          exact W.iret (v := 0) hx hb hr (fun t ht hW => ⟨⟨0, (), rfl, ⟨rfl, a_2, a_4⟩, trivial⟩, hS.F ht⟩) hS.2.2 dX11_variable_33
      · rw [ht] at hP1
        have hK1 := va_K.moved hvm.symm hK1
        obtain ⟨hP, hD⟩ := va_join (wr := [(h0, .inr (0, [.ref (q 0), .int 0, .int 108, .ref (q 1), .int 0, .ref (q 2), .int 0, .ref (q 3), .ref (q 4), .int 1, .ref (q 5), .ref (q 6), .ref (q 7), .ref (q 8), .ref (q 9)])), ((q 0), .inl (cP, 60, .inr (.inr (.inr (.inr (fun _ => none))))))]) (w1 := [((q 6), .inr (2, [.ref (w 0), .ref (w 1), .ref (w 2), .ref (w 3), .int 1, .int p0])), ((w 2), .inl (cJ, 64, .inr (.inl f1)))]) hP hD [3, 1] [0, 2] rfl rfl (by decide) (by decide) hk1 hF hP1 hD1
        have hP : va_P D pv_cl [(h0, .inr (0, [.ref (q 0), .int 0, .int 108, .ref (q 1), .int 0, .ref (q 2), .int 0, .ref (q 3), .ref (q 4), .int 1, .ref (q 5), .ref (q 6), .ref (q 7), .ref (q 8), .ref (q 9)])), ((q 0), .inl (cP, 60, .inr (.inr (.inr (.inr (fun _ => none)))))), ((q 6), .inr (2, [.ref (w 0), .ref (w 1), .ref (w 2), .ref (w 3), .int 1, .int p0])), ((w 2), .inl (cJ, 64, .inr (.inl f1)))] _ := hP
        have hD : va_D A [(h0, .inr (0, [.ref (q 0), .int 0, .int 108, .ref (q 1), .int 0, .ref (q 2), .int 0, .ref (q 3), .ref (q 4), .int 1, .ref (q 5), .ref (q 6), .ref (q 7), .ref (q 8), .ref (q 9)])), ((q 0), .inl (cP, 60, .inr (.inr (.inr (.inr (fun _ => none)))))), ((q 6), .inr (2, [.ref (w 0), .ref (w 1), .ref (w 2), .ref (w 3), .int 1, .int p0])), ((w 2), .inl (cJ, 64, .inr (.inl f1)))] := hD
        refine lv_pop hx hb dX11_variable_28 rfl ?_
        refine lv_aload_n hx hb dX11_variable_29 rfl (lv_at hl 0 rfl) ?_
        have hF := va_free (wc := [(h0, .inr (0, [.ref (q 0), .int 0, .int 108, .ref (q 1), .int 0, .ref (q 2), .int 0, .ref (q 3), .ref (q 4), .int 1, .ref (q 5), .ref (q 6), .ref (q 7), .ref (q 8), .ref (q 9)])), ((q 6), .inr (2, [.ref (w 0), .ref (w 1), .ref (w 2), .ref (w 3), .int 1, .int p0])), ((w 2), .inl (cJ, 64, .inr (.inl f1))), ((q 0), .inl (cP, 60, .inr (.inr (.inr (.inr (fun _ => none))))))]) hD hS hA [0, 2, 3, 1] rfl
        refine vx_calli (vx_runV (As := []) (rest := []) ⟨hx, hb, hml, hown, hts⟩ (c_X11_keep_1 l hfl D _ h0 q w cJ cP f1 p0) (cwV 0 hts (pv_gV w5_5 w5_7 wp3_12 w1_1 w5_8) rfl rfl rfl (by decide +kernel) ⟨Nat.le_of_ble_eq_true rfl, Nat.le_of_ble_eq_true rfl⟩) (pv_pV hE hS hF (hP.sub [0, 2, 3, 1] rfl) (hK.sub [0, 1] rfl) (hD.sub [0, 2, 3, 1] (by decide) rfl) (va_recv (ci := 0) (q0 := 0) hK hP rfl rfl)) rfl rfl hl.1 rfl (lv_room (Nat.le_of_ble_eq_true rfl)) dX11_variable_30 ⟨Nat.le_of_ble_eq_true rfl, Nat.le_of_ble_eq_true rfl⟩) hS (fun q _ h => hF q h) hF (fun q _ h => hF q h) (fun E ce q9 u t H1 locs1 ht hvm hpx hbx hz1 hk1 hS hce hcv hcl => ?_) (fun r_8 u t H1 locs1 ht hvm hw hB hz1 hk1 hS => ?_)
        · exact vx_out (fun x h9 => absurd (hnt x h9) id) hlocks hce hcv hcl (fun t ht hvm => ⟨(), trivial, hbx.elim, hS.F ht⟩) hS.2.2 (Nat.le_of_ble_eq_true rfl) (Nat.le_of_ble_eq_true rfl)
        · refine W.widen (k := 4) (n := 15) (Nat.le_of_ble_eq_true rfl) (Nat.le_of_ble_eq_true rfl) ?_
          obtain rfl := hw
          refine vx_ret ?_
          refine W.widen (k := 4) (n := 15) (Nat.le_of_ble_eq_true rfl) (Nat.le_of_ble_eq_true rfl) ?_
          exact W.iret (v := 0) hx hb hr (fun t ht hW => ⟨⟨0, (), rfl, ⟨rfl, a_2, a_4⟩, trivial⟩, hS.F ht⟩) hS.2.2 dX11_variable_33
end
section
def pv_m (c : Int32) (q : Nat → Nat) : List Value := [.int c, .int 108, .int 0, .ref (q 0), .ref (q 1), .int 0, .int 0, .ref (q 2), .ref (q 3), .ref (q 4), .int 0, .ref (q 5), .ref (q 6), .ref (q 7), .ref (q 8), .int 1, .ref (q 9), .ref (q 10), .int 0, .int 0, .ref (q 11), .ref (q 12), .ref (q 13), .ref (q 14), .ref (q 15), .ref (q 16), .ref (q 17), .int (-1), .int 0, .int 0, .int 0, .ref (q 18), .ref (q 19), .ref (q 20), .ref (q 21), .ref (q 22), .ref (q 23), .int 0, .ref (q 24), .ref (q 25), .ref (q 26), .ref (q 27), .int 0, .ref (q 28), .ref (q 29)]
theorem pv_0m1 {p : Int32} (h : (0 : Int32) ≤ p ∧ p ≤ -1) : False := by
  have h1 := h.1
  have h2 := h.2
  rw [Int32.le_iff_toInt_le] at h1 h2
  have e0 : (0 : Int32).toInt = 0 := rfl
  have e1 : (-1 : Int32).toInt = -1 := rfl
  omega
theorem pv_in3 {v : Int32} : (0 : Int32) ≤ v ∧ v ≤ 2 ↔ pv_vr v := by
  unfold pv_vr
  rw [Int32.le_iff_toInt_le, Int32.le_iff_toInt_le, Int32.lt_iff_toInt_lt, Int32.le_iff_toInt_le]
  have e0 : (0 : Int32).toInt = 0 := rfl
  have e1 : (2 : Int32).toInt = 2 := rfl
  have e2 : (3 : Int32).toInt = 3 := rfl
  omega

theorem dX13_in_0 : decode cX13_in 0 = .ok (.iload_n 0, 1) := by decide +kernel
theorem dX13_in_1 : decode cX13_in 1 = .ok (.iload_n 1, 1) := by decide +kernel
theorem dX13_in_2 : decode cX13_in 2 = .ok (.if_icmp .lt 12, 3) := by decide +kernel
theorem dX13_in_14 : decode cX13_in 14 = .ok (.iconst 0, 1) := by decide +kernel
theorem dX13_in_15 : decode cX13_in 15 = .ok (.ireturn, 1) := by decide +kernel
theorem dX13_in_5 : decode cX13_in 5 = .ok (.iload_n 0, 1) := by decide +kernel
theorem dX13_in_6 : decode cX13_in 6 = .ok (.iload_n 2, 1) := by decide +kernel
theorem dX13_in_7 : decode cX13_in 7 = .ok (.if_icmp .gt 7, 3) := by decide +kernel
theorem dX13_in_10 : decode cX13_in 10 = .ok (.iconst 1, 1) := by decide +kernel
theorem dX13_in_11 : decode cX13_in 11 = .ok (.goto 4, 3) := by decide +kernel
set_option maxHeartbeats 4000000 in
set_option maxRecDepth 100000 in
/-- in -/
theorem c_X13_in (l : Launch) (hfl : l.stackTraces = false) (D : va_G) (sz : Nat) (p0 p1 p2 : Int32) : Met l yX13_in (Cond.code yX13_in cX13_in 3 (some .boolean) :: pv_W) ({ frames := 0, cells := 0, slots := 0, locals := 0 } : Room) (va_Pc [.int p0, .int p1, .int p2] (pv_P D [] [] (va_A [] sz) sz)) (va_Qi (fun r (_ : Unit) => (r = 1 ∧ p1 ≤ p0 ∧ p0 ≤ p2) ∨ (r = 0 ∧ ¬ (p1 ≤ p0 ∧ p0 ≤ p2))) (fun _ _ => True) (va_A [] sz)) 0 0 (va_A [] sz) := by
  refine Met.ofW (cc := cX13_in) (maxL := 3) (ret := (some .boolean)) (by decide) rfl ?_
  intro p e s m args below meth c s₁ B hml hv
  obtain ⟨rfl, hsz, hE, hP, hK, hD0⟩ := hv
  have hx := B.exec
  have hb := B.bytes
  have hr := B.returns
  have hts := fun (w : Cond) (h : w ∈ pv_W) => atoms_spec (ws := Cond.code yX13_in cX13_in 3 (some .boolean) :: pv_W) B.pre w (List.mem_cons_of_mem _ h)
  have hg := fun {w : Cond} (h : w ∈ lw_tbl) (g : goodWord w = true) => hts w (pv_in h g)
  have hown : s.vm.findClass RX13 = some m.cls := findClass_of_methodNamed B.named
  have hlocks := B.notSynchronized
  subst hsz
  have hD := hD0.self (sz := s.heap.size)
  generalize hAe : va_A [] s.heap.size = A at hD hE ⊢
  have hA : ∀ q : Nat, s.heap.size ≤ q → A q := fun q h => by rw [← hAe]; exact Or.inr h
  have hS : va_S A s.heap s.heap [] := va_S.rf
  have hP : va_P D pv_cl [] s.heap := hP
  have hl := lv_entry ([.int p0, .int p1, .int p2]) (n := 3) (Nat.le_of_ble_eq_true rfl)
  rw [lg_entry_eq]
  generalize (lg_sl ([.int p0, .int p1, .int p2]) ++ List.replicate (3 - (lg_sl ([.int p0, .int p1, .int p2])).length) Slot.unset).toArray = ls at hl ⊢
  have hl : lv_has ls 3 [(0, .int p0), (1, .int p1), (2, .int p2)] := hl
  refine lv_iload_n hx hb dX13_in_0 rfl (lv_at hl 0 rfl) ?_
  refine lv_iload_n hx hb dX13_in_1 rfl (lv_at hl 1 rfl) ?_
  refine lv_icmp_lt (tgt := 14) hx hb dX13_in_2 (by decide) (fun c_1 => ?_) (fun c_1 => ?_)
  · refine lv_iconst (v := 0) hx hb dX13_in_14 (by decide) ?_
    refine W.widen (k := 0) (n := 0) (Nat.le_of_ble_eq_true rfl) (Nat.le_of_ble_eq_true rfl) ?_
    exact W.zret (v := 0) (ty := .boolean) hx hb hr rfl (fun t ht hW => ⟨⟨0, (), rfl, Or.inr ⟨rfl, fun h => absurd (Int32.not_lt.mpr h.1) (fun h9 => h9 c_1)⟩, trivial⟩, hS.F ht⟩) hS.2.2 dX13_in_15
  · refine lv_iload_n hx hb dX13_in_5 rfl (lv_at hl 0 rfl) ?_
    refine lv_iload_n hx hb dX13_in_6 rfl (lv_at hl 2 rfl) ?_
    refine lv_icmp_gt (tgt := 14) hx hb dX13_in_7 (by decide) (fun c_2 => ?_) (fun c_2 => ?_)
    · refine lv_iconst (v := 0) hx hb dX13_in_14 (by decide) ?_
      refine W.widen (k := 0) (n := 0) (Nat.le_of_ble_eq_true rfl) (Nat.le_of_ble_eq_true rfl) ?_
      exact W.zret (v := 0) (ty := .boolean) hx hb hr rfl (fun t ht hW => ⟨⟨0, (), rfl, Or.inr ⟨rfl, fun h => absurd (Int32.not_lt.mpr h.2) (fun h9 => h9 c_2)⟩, trivial⟩, hS.F ht⟩) hS.2.2 dX13_in_15
    · refine lv_iconst (v := 1) hx hb dX13_in_10 (by decide) ?_
      refine lv_goto (tgt := 15) hx hb dX13_in_11 (by decide) ?_
      refine W.widen (k := 0) (n := 0) (Nat.le_of_ble_eq_true rfl) (Nat.le_of_ble_eq_true rfl) ?_
      exact W.zret (v := 1) (ty := .boolean) hx hb hr rfl (fun t ht hW => ⟨⟨1, (), rfl, Or.inl ⟨rfl, Int32.not_lt.mp c_1, Int32.not_lt.mp c_2⟩, trivial⟩, hS.F ht⟩) hS.2.2 dX13_in_15

theorem dX13_is_0 : decode cX13_is 0 = .ok (.iload_n 1, 1) := by decide +kernel
theorem dX13_is_1 : decode cX13_is 1 = .ok (.iconst 0, 1) := by decide +kernel
theorem dX13_is_2 : decode cX13_is 2 = .ok (.aload_n 0, 1) := by decide +kernel
theorem dX13_is_3 : decode cX13_is 3 = .ok (.getfield 125, 3) := by decide +kernel
theorem w8_207 : (Jvm.Cond.fieldLink "PolyforgeModel" (125 : Nat) "PolyforgeModel" "kept" "I") ∈ lw_tbl := pv_t8 (pv_mg 207 rfl)
theorem dX13_is_6 : decode cX13_is 6 = .ok (.iconst 1, 1) := by decide +kernel
theorem dX13_is_7 : decode cX13_is 7 = .ok (.isub, 1) := by decide +kernel
theorem dX13_is_8 : decode cX13_is 8 = .ok (.invokestatic 128, 3) := by decide +kernel
theorem w9_152 : (Jvm.Cond.methodLink "PolyforgeModel" (128 : Nat) ({ cls := "PolyforgeModel", name := "in", desc := "(III)Z" } : Jvm.MethodName)) ∈ lw_tbl := pv_t9 (pv_mg 152 rfl)
theorem w9_154 : (Jvm.Cond.code ({ cls := "PolyforgeModel", name := "in", desc := "(III)Z" } : Jvm.MethodName) prog_14_method_3_code (3 : Nat) (Option.some Jvm.ClassFile.FieldType.boolean)) ∈ lw_tbl := pv_t9 (pv_mg 154 rfl)
theorem w9_153 : (Jvm.Cond.static ({ cls := "PolyforgeModel", name := "in", desc := "(III)Z" } : Jvm.MethodName)) ∈ lw_tbl := pv_t9 (pv_mg 153 rfl)
theorem w1_10 : (Jvm.Cond.initialized "PolyforgeModel") ∈ lw_tbl := pv_t1 (pv_mg 10 rfl)
theorem dX13_is_11 : decode cX13_is 11 = .ok (.ireturn, 1) := by decide +kernel
set_option maxHeartbeats 4000000 in
set_option maxRecDepth 100000 in
/-- is on a fresh object: no -/
theorem c_X13_is (l : Launch) (hfl : l.stackTraces = false) (D : va_G) (sz : Nat) (h0 : Nat) (q : Nat → Nat) (p0 : Int32) : Met l yX13_is (Cond.code yX13_is cX13_is 2 (some .boolean) :: pv_W) ({ frames := 1, cells := 0, slots := 0, locals := 22 } : Room) (va_Pc [.ref h0, .int p0] (pv_P D [] [(h0, .inr (1, pv_m 0 q))] (va_A [] sz) sz)) (va_Qi (fun r (_ : Unit) => r = 0) (fun _ _ => True) (va_A [] sz)) 0 0 (va_A [] sz) := by
  refine Met.ofW (cc := cX13_is) (maxL := 2) (ret := (some .boolean)) (by decide) rfl ?_
  intro p e s m args below meth c s₁ B hml hv
  obtain ⟨rfl, hsz, hE, hP, hK, hD0⟩ := hv
  have hx := B.exec
  have hb := B.bytes
  have hr := B.returns
  have hts := fun (w : Cond) (h : w ∈ pv_W) => atoms_spec (ws := Cond.code yX13_is cX13_is 2 (some .boolean) :: pv_W) B.pre w (List.mem_cons_of_mem _ h)
  have hg := fun {w : Cond} (h : w ∈ lw_tbl) (g : goodWord w = true) => hts w (pv_in h g)
  have hown : s.vm.findClass RX13 = some m.cls := findClass_of_methodNamed B.named
  have hlocks := B.notSynchronized
  subst hsz
  have hD := hD0
  generalize hAe : va_A [] s.heap.size = A at hE ⊢
  have hA : ∀ q : Nat, s.heap.size ≤ q → A q := fun q h => by rw [← hAe]; exact Or.inr h
  have hS : va_S A s.heap s.heap [] := va_S.rf
  have hP : va_P D pv_cl [(h0, .inr (1, pv_m 0 q))] s.heap := hP
  have hl := lv_entry ([.ref h0, .int p0]) (n := 2) (Nat.le_of_ble_eq_true rfl)
  rw [lg_entry_eq]
  generalize (lg_sl ([.ref h0, .int p0]) ++ List.replicate (2 - (lg_sl ([.ref h0, .int p0])).length) Slot.unset).toArray = ls at hl ⊢
  have hl : lv_has ls 2 [(0, .ref h0), (1, .int p0)] := hl
  refine lv_iload_n hx hb dX13_is_0 rfl (lv_at hl 1 rfl) ?_
  refine lv_iconst (v := 0) hx hb dX13_is_1 (by decide) ?_
  refine lv_aload_n hx hb dX13_is_2 rfl (lv_at hl 0 rfl) ?_
  refine va_get (own := RX13) (D := D) (ci := 1) (v := .int 0) (C := RX13) (T := TX13) (N := 45) hx hb hts inF13 hown hK hP 0 rfl rfl 2 (by decide) (hg w8_207 rfl) (fun _ h9 => h9) rfl dX13_is_3 ?_
  refine lv_iconst (v := 1) hx hb dX13_is_6 (by decide) ?_
  refine lv_isub hx hb dX13_is_7 ?_
  refine pv_setI (-1) (by decide) ?_
  have hF := pv_new hA hS.1
  refine va_calli (va_runS (As := [.int p0, .int 0, .int (-1)]) (rest := []) ⟨hx, hb, hml, hown, hts⟩ (c_X13_in l hfl D _ p0 0 (-1)) (va_cwS 3 hts (pv_gS w9_152 w9_153 w1_10 w9_154) rfl rfl rfl (by decide +kernel) ⟨Nat.le_of_ble_eq_true rfl, Nat.le_of_ble_eq_true rfl⟩) (pv_ps hE hS hF (hP.sub [] rfl) (hK.sub [] rfl) (hD.sub [] (by decide) rfl)) rfl rfl hl.1 rfl (lv_room (Nat.le_of_ble_eq_true rfl)) dX13_is_8 ⟨Nat.le_of_ble_eq_true rfl, Nat.le_of_ble_eq_true rfl⟩) hS (fun q _ h => hF q h) hF (fun r_0 u t H1 locs1 ht hvm hw hB hz1 hk1 hS => ?_)
  refine W.widen (k := 0) (n := 0) (Nat.le_of_ble_eq_true rfl) (Nat.le_of_ble_eq_true rfl) ?_
  have hP := pv_keep hP rfl hk1
  rcases hw with ⟨rfl, a_2⟩ | ⟨rfl, a_2⟩
  · exact (pv_0m1 a_2).elim
  · refine W.widen (k := 0) (n := 0) (Nat.le_of_ble_eq_true rfl) (Nat.le_of_ble_eq_true rfl) ?_
    exact W.zret (v := 0) (ty := .boolean) hx hb hr rfl (fun t ht hW => ⟨⟨0, (), rfl, rfl, trivial⟩, hS.F ht⟩) hS.2.2 dX13_is_11

theorem dX13_isIdeal_0 : decode cX13_isIdeal 0 = .ok (.iload_n 1, 1) := by decide +kernel
theorem dX13_isIdeal_1 : decode cX13_isIdeal 1 = .ok (.iconst 0, 1) := by decide +kernel
theorem dX13_isIdeal_2 : decode cX13_isIdeal 2 = .ok (.aload_n 0, 1) := by decide +kernel
theorem dX13_isIdeal_3 : decode cX13_isIdeal 3 = .ok (.getfield 399, 3) := by decide +kernel
theorem w8_211 : (Jvm.Cond.fieldLink "PolyforgeModel" (399 : Nat) "PolyforgeModel" "ideals" "I") ∈ lw_tbl := pv_t8 (pv_mg 211 rfl)
theorem dX13_isIdeal_6 : decode cX13_isIdeal 6 = .ok (.iconst 1, 1) := by decide +kernel
theorem dX13_isIdeal_7 : decode cX13_isIdeal 7 = .ok (.isub, 1) := by decide +kernel
theorem dX13_isIdeal_8 : decode cX13_isIdeal 8 = .ok (.invokestatic 128, 3) := by decide +kernel
theorem dX13_isIdeal_11 : decode cX13_isIdeal 11 = .ok (.ireturn, 1) := by decide +kernel
set_option maxHeartbeats 4000000 in
set_option maxRecDepth 100000 in
/-- isIdeal on a fresh object: no -/
theorem c_X13_isIdeal (l : Launch) (hfl : l.stackTraces = false) (D : va_G) (sz : Nat) (h0 : Nat) (q : Nat → Nat) (p0 : Int32) : Met l yX13_isIdeal (Cond.code yX13_isIdeal cX13_isIdeal 2 (some .boolean) :: pv_W) ({ frames := 1, cells := 0, slots := 0, locals := 22 } : Room) (va_Pc [.ref h0, .int p0] (pv_P D [] [(h0, .inr (1, pv_m 0 q))] (va_A [] sz) sz)) (va_Qi (fun r (_ : Unit) => r = 0) (fun _ _ => True) (va_A [] sz)) 0 0 (va_A [] sz) := by
  refine Met.ofW (cc := cX13_isIdeal) (maxL := 2) (ret := (some .boolean)) (by decide) rfl ?_
  intro p e s m args below meth c s₁ B hml hv
  obtain ⟨rfl, hsz, hE, hP, hK, hD0⟩ := hv
  have hx := B.exec
  have hb := B.bytes
  have hr := B.returns
  have hts := fun (w : Cond) (h : w ∈ pv_W) => atoms_spec (ws := Cond.code yX13_isIdeal cX13_isIdeal 2 (some .boolean) :: pv_W) B.pre w (List.mem_cons_of_mem _ h)
  have hg := fun {w : Cond} (h : w ∈ lw_tbl) (g : goodWord w = true) => hts w (pv_in h g)
  have hown : s.vm.findClass RX13 = some m.cls := findClass_of_methodNamed B.named
  have hlocks := B.notSynchronized
  subst hsz
  have hD := hD0
  generalize hAe : va_A [] s.heap.size = A at hE ⊢
  have hA : ∀ q : Nat, s.heap.size ≤ q → A q := fun q h => by rw [← hAe]; exact Or.inr h
  have hS : va_S A s.heap s.heap [] := va_S.rf
  have hP : va_P D pv_cl [(h0, .inr (1, pv_m 0 q))] s.heap := hP
  have hl := lv_entry ([.ref h0, .int p0]) (n := 2) (Nat.le_of_ble_eq_true rfl)
  rw [lg_entry_eq]
  generalize (lg_sl ([.ref h0, .int p0]) ++ List.replicate (2 - (lg_sl ([.ref h0, .int p0])).length) Slot.unset).toArray = ls at hl ⊢
  have hl : lv_has ls 2 [(0, .ref h0), (1, .int p0)] := hl
  refine lv_iload_n hx hb dX13_isIdeal_0 rfl (lv_at hl 1 rfl) ?_
  refine lv_iconst (v := 0) hx hb dX13_isIdeal_1 (by decide) ?_
  refine lv_aload_n hx hb dX13_isIdeal_2 rfl (lv_at hl 0 rfl) ?_
  refine va_get (own := RX13) (D := D) (ci := 1) (v := .int 0) (C := RX13) (T := TX13) (N := 45) hx hb hts inF13 hown hK hP 0 rfl rfl 6 (by decide) (hg w8_211 rfl) (fun _ h9 => h9) rfl dX13_isIdeal_3 ?_
  refine lv_iconst (v := 1) hx hb dX13_isIdeal_6 (by decide) ?_
  refine lv_isub hx hb dX13_isIdeal_7 ?_
  refine pv_setI (-1) (by decide) ?_
  have hF := pv_new hA hS.1
  refine va_calli (va_runS (As := [.int p0, .int 0, .int (-1)]) (rest := []) ⟨hx, hb, hml, hown, hts⟩ (c_X13_in l hfl D _ p0 0 (-1)) (va_cwS 3 hts (pv_gS w9_152 w9_153 w1_10 w9_154) rfl rfl rfl (by decide +kernel) ⟨Nat.le_of_ble_eq_true rfl, Nat.le_of_ble_eq_true rfl⟩) (pv_ps hE hS hF (hP.sub [] rfl) (hK.sub [] rfl) (hD.sub [] (by decide) rfl)) rfl rfl hl.1 rfl (lv_room (Nat.le_of_ble_eq_true rfl)) dX13_isIdeal_8 ⟨Nat.le_of_ble_eq_true rfl, Nat.le_of_ble_eq_true rfl⟩) hS (fun q _ h => hF q h) hF (fun r_0 u t H1 locs1 ht hvm hw hB hz1 hk1 hS => ?_)
  refine W.widen (k := 0) (n := 0) (Nat.le_of_ble_eq_true rfl) (Nat.le_of_ble_eq_true rfl) ?_
  have hP := pv_keep hP rfl hk1
  rcases hw with ⟨rfl, a_2⟩ | ⟨rfl, a_2⟩
  · exact (pv_0m1 a_2).elim
  · refine W.widen (k := 0) (n := 0) (Nat.le_of_ble_eq_true rfl) (Nat.le_of_ble_eq_true rfl) ?_
    exact W.zret (v := 0) (ty := .boolean) hx hb hr rfl (fun t ht hW => ⟨⟨0, (), rfl, rfl, trivial⟩, hS.F ht⟩) hS.2.2 dX13_isIdeal_11

theorem dX13_are_0 : decode cX13_are 0 = .ok (.aload_n 0, 1) := by decide +kernel
theorem dX13_are_1 : decode cX13_are 1 = .ok (.iload_n 1, 1) := by decide +kernel
theorem dX13_are_2 : decode cX13_are 2 = .ok (.invokevirtual 132, 3) := by decide +kernel
theorem w9_168 : (Jvm.Cond.methodLink "PolyforgeModel" (132 : Nat) ({ cls := "PolyforgeModel", name := "is", desc := "(I)Z" } : Jvm.MethodName)) ∈ lw_tbl := pv_t9 (pv_mg 168 rfl)
theorem w9_171 : (Jvm.Cond.code ({ cls := "PolyforgeModel", name := "is", desc := "(I)Z" } : Jvm.MethodName) prog_14_method_6_code (2 : Nat) (Option.some Jvm.ClassFile.FieldType.boolean)) ∈ lw_tbl := pv_t9 (pv_mg 171 rfl)
theorem wp5_13 : Cond.selects "PolyforgeModel" ⟨"PolyforgeModel", "is", "(I)Z"⟩ ⟨"PolyforgeModel", "is", "(I)Z"⟩ ∈ lw_tbl := pv_mg 77 rfl
theorem w9_170 : (Jvm.Cond.instanceMethod ({ cls := "PolyforgeModel", name := "is", desc := "(I)Z" } : Jvm.MethodName)) ∈ lw_tbl := pv_t9 (pv_mg 170 rfl)
theorem dX13_are_5 : decode cX13_are 5 = .ok (.ifCond .eq 15, 3) := by decide +kernel
theorem dX13_are_20 : decode cX13_are 20 = .ok (.iconst 0, 1) := by decide +kernel
theorem dX13_are_21 : decode cX13_are 21 = .ok (.ireturn, 1) := by decide +kernel
set_option maxHeartbeats 4000000 in
set_option maxRecDepth 100000 in
/-- are on a fresh object: no -/
theorem c_X13_are (l : Launch) (hfl : l.stackTraces = false) (D : va_G) (sz : Nat) (h0 : Nat) (q : Nat → Nat) (p0 p1 : Int32) : Met l yX13_are (Cond.code yX13_are cX13_are 3 (some .boolean) :: pv_W) ({ frames := 2, cells := 0, slots := 0, locals := 43 } : Room) (va_Pc [.ref h0, .int p0, .int p1] (pv_P D [] [(h0, .inr (1, pv_m 0 q))] (va_A [] sz) sz)) (va_Qi (fun r (_ : Unit) => r = 0) (fun _ _ => True) (va_A [] sz)) 0 0 (va_A [] sz) := by
  refine Met.ofW (cc := cX13_are) (maxL := 3) (ret := (some .boolean)) (by decide) rfl ?_
  intro p e s m args below meth c s₁ B hml hv
  obtain ⟨rfl, hsz, hE, hP, hK, hD0⟩ := hv
  have hx := B.exec
  have hb := B.bytes
  have hr := B.returns
  have hts := fun (w : Cond) (h : w ∈ pv_W) => atoms_spec (ws := Cond.code yX13_are cX13_are 3 (some .boolean) :: pv_W) B.pre w (List.mem_cons_of_mem _ h)
  have hg := fun {w : Cond} (h : w ∈ lw_tbl) (g : goodWord w = true) => hts w (pv_in h g)
  have hown : s.vm.findClass RX13 = some m.cls := findClass_of_methodNamed B.named
  have hlocks := B.notSynchronized
  subst hsz
  have hD := hD0
  generalize hAe : va_A [] s.heap.size = A at hE ⊢
  have hA : ∀ q : Nat, s.heap.size ≤ q → A q := fun q h => by rw [← hAe]; exact Or.inr h
  have hS : va_S A s.heap s.heap [] := va_S.rf
  have hP : va_P D pv_cl [(h0, .inr (1, pv_m 0 q))] s.heap := hP
  have hl := lv_entry ([.ref h0, .int p0, .int p1]) (n := 3) (Nat.le_of_ble_eq_true rfl)
  rw [lg_entry_eq]
  generalize (lg_sl ([.ref h0, .int p0, .int p1]) ++ List.replicate (3 - (lg_sl ([.ref h0, .int p0, .int p1])).length) Slot.unset).toArray = ls at hl ⊢
  have hl : lv_has ls 3 [(0, .ref h0), (1, .int p0), (2, .int p1)] := hl
  refine lv_aload_n hx hb dX13_are_0 rfl (lv_at hl 0 rfl) ?_
  refine lv_iload_n hx hb dX13_are_1 rfl (lv_at hl 1 rfl) ?_
  have hF := pv_new hA hS.1
  refine va_calli (va_runV (As := [.int p0]) (rest := []) ⟨hx, hb, hml, hown, hts⟩ (c_X13_is l hfl D _ h0 q p0) (cwV 1 hts (pv_gV w9_168 w9_170 wp5_13 w1_10 w9_171) rfl rfl rfl (by decide +kernel) ⟨Nat.le_of_ble_eq_true rfl, Nat.le_of_ble_eq_true rfl⟩) (pv_pV hE hS hF (hP.sub [0] rfl) (hK.sub [] rfl) (hD.sub [0] (by decide) rfl) (va_recv (ci := 1) (q0 := 0) hK hP rfl rfl)) rfl rfl hl.1 rfl (lv_room (Nat.le_of_ble_eq_true rfl)) dX13_are_2 ⟨Nat.le_of_ble_eq_true rfl, Nat.le_of_ble_eq_true rfl⟩) hS (fun q _ h => hF q h) hF (fun r_0 u t H1 locs1 ht hvm hw hB hz1 hk1 hS => ?_)
  refine W.widen (k := 0) (n := 0) (Nat.le_of_ble_eq_true rfl) (Nat.le_of_ble_eq_true rfl) ?_
  have hP := pv_keep hP rfl hk1
  obtain rfl := hw
  refine lv_if_eq (tgt := 20) hx hb dX13_are_5 (by decide) (fun _ => ?_) (fun c_2 => absurd (by decide) c_2)
  refine lv_iconst (v := 0) hx hb dX13_are_20 (by decide) ?_
  refine W.widen (k := 0) (n := 0) (Nat.le_of_ble_eq_true rfl) (Nat.le_of_ble_eq_true rfl) ?_
  exact W.zret (v := 0) (ty := .boolean) hx hb hr rfl (fun t ht hW => ⟨⟨0, (), rfl, rfl, trivial⟩, hS.F ht⟩) hS.2.2 dX13_are_21

theorem dX13_fails_0 : decode cX13_fails 0 = .ok (.aload_n 0, 1) := by decide +kernel
theorem dX13_fails_1 : decode cX13_fails 1 = .ok (.iload_n 1, 1) := by decide +kernel
theorem dX13_fails_2 : decode cX13_fails 2 = .ok (.putfield 122, 3) := by decide +kernel
theorem w8_205 : (Jvm.Cond.fieldLink "PolyforgeModel" (122 : Nat) "PolyforgeModel" "code" "I") ∈ lw_tbl := pv_t8 (pv_mg 205 rfl)
theorem dX13_fails_5 : decode cX13_fails 5 = .ok (.iconst 0, 1) := by decide +kernel
theorem dX13_fails_6 : decode cX13_fails 6 = .ok (.ireturn, 1) := by decide +kernel
set_option maxHeartbeats 4000000 in
set_option maxRecDepth 100000 in
/-- fails -/
theorem c_X13_fails (l : Launch) (hfl : l.stackTraces = false) (D : va_G) (sz : Nat) (h0 : Nat) (q : Nat → Nat) (p0 : Int32) : Met l yX13_fails (Cond.code yX13_fails cX13_fails 2 (some .int) :: pv_W) ({ frames := 0, cells := 0, slots := 0, locals := 0 } : Room) (va_Pc [.ref h0, .int p0] (pv_P D [] [(h0, .inr (1, pv_m 0 q))] (va_A [(h0, .inr (1, pv_m 0 q))] sz) sz)) (va_Qi (fun r (_ : Unit) => r = 0) (fun _ t => va_P D pv_cl [(h0, .inr (1, pv_m p0 q))] t.heap ∧ va_K D pv_cl [] t ∧ va_D (va_A [(h0, .inr (1, pv_m 0 q))] sz) [(h0, .inr (1, pv_m p0 q))]) (va_A [(h0, .inr (1, pv_m 0 q))] sz)) 0 0 (va_A [(h0, .inr (1, pv_m 0 q))] sz) := by
  refine Met.ofW (cc := cX13_fails) (maxL := 2) (ret := (some .int)) (by decide) rfl ?_
  intro p e s m args below meth c s₁ B hml hv
  obtain ⟨rfl, hsz, hE, hP, hK, hD0⟩ := hv
  have hx := B.exec
  have hb := B.bytes
  have hr := B.returns
  have hts := fun (w : Cond) (h : w ∈ pv_W) => atoms_spec (ws := Cond.code yX13_fails cX13_fails 2 (some .int) :: pv_W) B.pre w (List.mem_cons_of_mem _ h)
  have hg := fun {w : Cond} (h : w ∈ lw_tbl) (g : goodWord w = true) => hts w (pv_in h g)
  have hown : s.vm.findClass RX13 = some m.cls := findClass_of_methodNamed B.named
  have hlocks := B.notSynchronized
  subst hsz
  have hD := hD0.self (sz := s.heap.size)
  generalize hAe : va_A [(h0, .inr (1, pv_m 0 q))] s.heap.size = A at hD hE ⊢
  have hA : ∀ q : Nat, s.heap.size ≤ q → A q := fun q h => by rw [← hAe]; exact Or.inr h
  have hS : va_S A s.heap s.heap [] := va_S.rf
  have hP : va_P D pv_cl [(h0, .inr (1, pv_m 0 q))] s.heap := hP
  have hl := lv_entry ([.ref h0, .int p0]) (n := 2) (Nat.le_of_ble_eq_true rfl)
  rw [lg_entry_eq]
  generalize (lg_sl ([.ref h0, .int p0]) ++ List.replicate (2 - (lg_sl ([.ref h0, .int p0])).length) Slot.unset).toArray = ls at hl ⊢
  have hl : lv_has ls 2 [(0, .ref h0), (1, .int p0)] := hl
  refine lv_aload_n hx hb dX13_fails_0 rfl (lv_at hl 0 rfl) ?_
  refine lv_iload_n hx hb dX13_fails_1 rfl (lv_at hl 1 rfl) ?_
  refine va_put (own := RX13) (D := D) (ci := 1) (v := .int p0) (ty := .int) (C := RX13) (T := TX13) (N := 45) hx hb hts inF13 tyX13 tyX13_ok nmX13 hown hK hP hD hS 0 rfl rfl 0 (by decide) (hg w8_205 rfl) (fun _ h9 => h9) rfl (by decide +kernel) rfl rfl (Nat.le_of_ble_eq_true rfl) dX13_fails_2 (fun H locs hP hD hS => ?_)
  have hP : va_P D pv_cl [(h0, .inr (1, pv_m p0 q))] _ := hP
  have hD : va_D A [(h0, .inr (1, pv_m p0 q))] := hD
  refine lv_iconst (v := 0) hx hb dX13_fails_5 (by decide) ?_
  refine W.widen (k := 0) (n := 0) (Nat.le_of_ble_eq_true rfl) (Nat.le_of_ble_eq_true rfl) ?_
  exact W.iret (v := 0) hx hb hr (fun t ht hW => ⟨⟨0, (), rfl, rfl, (by rw [ht]; exact hP.sub [0] rfl), va_K.moved hW.alike (hK.sub [] rfl), hD.sub [0] (by decide) rfl⟩, hS.F ht⟩) hS.2.2 dX13_fails_6

theorem dX13_thrown_0 : decode cX13_thrown 0 = .ok (.aload_n 0, 1) := by decide +kernel
theorem dX13_thrown_1 : decode cX13_thrown 1 = .ok (.getfield 122, 3) := by decide +kernel
theorem dX13_thrown_4 : decode cX13_thrown 4 = .ok (.ireturn, 1) := by decide +kernel
set_option maxHeartbeats 4000000 in
set_option maxRecDepth 100000 in
/-- thrown -/
theorem c_X13_thrown (l : Launch) (hfl : l.stackTraces = false) (D : va_G) (sz : Nat) (h0 : Nat) (fs : List Value) (c0 : Int32) (hc : fs[0]? = some (.int c0)) : Met l yX13_thrown (Cond.code yX13_thrown cX13_thrown 1 (some .int) :: pv_W) ({ frames := 0, cells := 0, slots := 0, locals := 0 } : Room) (va_Pc [.ref h0] (pv_P D [] [(h0, .inr (1, fs))] (va_A [] sz) sz)) (va_Qi (fun r (_ : Unit) => r = c0) (fun _ _ => True) (va_A [] sz)) 0 0 (va_A [] sz) := by
  refine Met.ofW (cc := cX13_thrown) (maxL := 1) (ret := (some .int)) (by decide) rfl ?_
  intro p e s m args below meth c s₁ B hml hv
  obtain ⟨rfl, hsz, hE, hP, hK, hD0⟩ := hv
  have hx := B.exec
  have hb := B.bytes
  have hr := B.returns
  have hts := fun (w : Cond) (h : w ∈ pv_W) => atoms_spec (ws := Cond.code yX13_thrown cX13_thrown 1 (some .int) :: pv_W) B.pre w (List.mem_cons_of_mem _ h)
  have hg := fun {w : Cond} (h : w ∈ lw_tbl) (g : goodWord w = true) => hts w (pv_in h g)
  have hown : s.vm.findClass RX13 = some m.cls := findClass_of_methodNamed B.named
  have hlocks := B.notSynchronized
  subst hsz
  have hD := hD0
  generalize hAe : va_A [] s.heap.size = A at hE ⊢
  have hA : ∀ q : Nat, s.heap.size ≤ q → A q := fun q h => by rw [← hAe]; exact Or.inr h
  have hS : va_S A s.heap s.heap [] := va_S.rf
  have hP : va_P D pv_cl [(h0, .inr (1, fs))] s.heap := hP
  have hl := lv_entry ([.ref h0]) (n := 1) (Nat.le_of_ble_eq_true rfl)
  rw [lg_entry_eq]
  generalize (lg_sl ([.ref h0]) ++ List.replicate (1 - (lg_sl ([.ref h0])).length) Slot.unset).toArray = ls at hl ⊢
  have hl : lv_has ls 1 [(0, .ref h0)] := hl
  refine lv_aload_n hx hb dX13_thrown_0 rfl (lv_at hl 0 rfl) ?_
  refine va_get (own := RX13) (D := D) (ci := 1) (v := .int c0) (C := RX13) (T := TX13) (N := 45) hx hb hts inF13 hown hK hP 0 rfl rfl 0 (by decide) (hg w8_205 rfl) (fun _ h9 => h9) hc dX13_thrown_1 ?_
  refine W.widen (k := 0) (n := 0) (Nat.le_of_ble_eq_true rfl) (Nat.le_of_ble_eq_true rfl) ?_
  exact W.iret (v := c0) hx hb hr (fun t ht hW => ⟨⟨c0, (), rfl, rfl, trivial⟩, hS.F ht⟩) hS.2.2 dX13_thrown_4

theorem pv_l00 {g : Int32} (h : ¬ g = 0) : ¬ g.toInt64 = 0 := by
  intro e
  have h1 : g.toInt64.toInt = (0 : Int64).toInt := by rw [e]
  rw [Int32.toInt_toInt64] at h1
  exact h (Int32.toInt_inj.mp h1)

theorem dX13_mod_0 : decode cX13_mod 0 = .ok (.iload_n 2, 1) := by decide +kernel
theorem dX13_mod_1 : decode cX13_mod 1 = .ok (.ifCond .ne 5, 3) := by decide +kernel
theorem dX13_mod_6 : decode cX13_mod 6 = .ok (.lload_n 0, 1) := by decide +kernel
theorem dX13_mod_7 : decode cX13_mod 7 = .ok (.iload_n 2, 1) := by decide +kernel
theorem dX13_mod_8 : decode cX13_mod 8 = .ok (.i2l, 1) := by decide +kernel
theorem dX13_mod_9 : decode cX13_mod 9 = .ok (.lrem, 1) := by decide +kernel
theorem dX13_mod_10 : decode cX13_mod 10 = .ok (.lstore_n 3, 1) := by decide +kernel
theorem dX13_mod_11 : decode cX13_mod 11 = .ok (.lload_n 3, 1) := by decide +kernel
theorem dX13_mod_12 : decode cX13_mod 12 = .ok (.lconst 0, 1) := by decide +kernel
theorem dX13_mod_13 : decode cX13_mod 13 = .ok (.lcmp, 1) := by decide +kernel
theorem dX13_mod_14 : decode cX13_mod 14 = .ok (.ifCond .ge 10, 3) := by decide +kernel
theorem dX13_mod_24 : decode cX13_mod 24 = .ok (.lload_n 3, 1) := by decide +kernel
theorem dX13_mod_25 : decode cX13_mod 25 = .ok (.lreturn, 1) := by decide +kernel
theorem dX13_mod_17 : decode cX13_mod 17 = .ok (.lload_n 3, 1) := by decide +kernel
theorem dX13_mod_18 : decode cX13_mod 18 = .ok (.iload_n 2, 1) := by decide +kernel
theorem dX13_mod_19 : decode cX13_mod 19 = .ok (.i2l, 1) := by decide +kernel
theorem dX13_mod_20 : decode cX13_mod 20 = .ok (.ladd, 1) := by decide +kernel
theorem dX13_mod_21 : decode cX13_mod 21 = .ok (.goto 4, 3) := by decide +kernel
theorem dX13_mod_4 : decode cX13_mod 4 = .ok (.lload_n 0, 1) := by decide +kernel
theorem dX13_mod_5 : decode cX13_mod 5 = .ok (.lreturn, 1) := by decide +kernel
set_option maxHeartbeats 4000000 in
set_option maxRecDepth 100000 in
/-- mod -/
theorem c_X13_mod (l : Launch) (hfl : l.stackTraces = false) (D : va_G) (sz : Nat) (p0 : Int64) (p1 : Int32) : Met l yX13_mod (Cond.code yX13_mod cX13_mod 5 (some .long) :: pv_W) ({ frames := 0, cells := 0, slots := 0, locals := 0 } : Room) (va_Pc [.long p0, .int p1] (pv_P D [] [] (va_A [] sz) sz)) (va_Ql (fun _ (_ : Unit) => True) (fun _ _ => True) (va_A [] sz)) 0 0 (va_A [] sz) := by
  refine Met.ofW (cc := cX13_mod) (maxL := 5) (ret := (some .long)) (by decide) rfl ?_
  intro p e s m args below meth c s₁ B hml hv
  obtain ⟨rfl, hsz, hE, hP, hK, hD0⟩ := hv
  have hx := B.exec
  have hb := B.bytes
  have hr := B.returns
  have hts := fun (w : Cond) (h : w ∈ pv_W) => atoms_spec (ws := Cond.code yX13_mod cX13_mod 5 (some .long) :: pv_W) B.pre w (List.mem_cons_of_mem _ h)
  have hg := fun {w : Cond} (h : w ∈ lw_tbl) (g : goodWord w = true) => hts w (pv_in h g)
  have hown : s.vm.findClass RX13 = some m.cls := findClass_of_methodNamed B.named
  have hlocks := B.notSynchronized
  subst hsz
  have hD := hD0.self (sz := s.heap.size)
  generalize hAe : va_A [] s.heap.size = A at hD hE ⊢
  have hA : ∀ q : Nat, s.heap.size ≤ q → A q := fun q h => by rw [← hAe]; exact Or.inr h
  have hS : va_S A s.heap s.heap [] := va_S.rf
  have hP : va_P D pv_cl [] s.heap := hP
  have hl := lv_entry ([.long p0, .int p1]) (n := 5) (Nat.le_of_ble_eq_true rfl)
  rw [lg_entry_eq]
  generalize (lg_sl ([.long p0, .int p1]) ++ List.replicate (5 - (lg_sl ([.long p0, .int p1])).length) Slot.unset).toArray = ls at hl ⊢
  have hl : lv_has ls 5 [(0, .long p0), (2, .int p1)] := hl
  refine lv_iload_n hx hb dX13_mod_0 rfl (lv_at hl 1 rfl) ?_
  refine lv_if_ne (tgt := 6) hx hb dX13_mod_1 (by decide) (fun c_1 => ?_) (fun c_1 => ?_)
  · refine lv_lload_n hx hb dX13_mod_6 rfl (lv_at hl 0 rfl) ?_
    refine lv_iload_n hx hb dX13_mod_7 rfl (lv_at hl 1 rfl) ?_
    refine lv_i2l hx hb dX13_mod_8 rfl ?_
    refine lv_lrem hx hb dX13_mod_9 (pv_l00 c_1) ?_
    refine lv_topl (fun x_2 ex_2 => ?_)
    refine lv_lstore_n (lv' := [(3, .long x_2), (0, .long p0), (2, .int p1)]) hx hb dX13_mod_10 rfl hl (by decide) rfl (fun ls hl => ?_)
    refine lv_lload_n hx hb dX13_mod_11 rfl (lv_at hl 0 rfl) ?_
    refine lv_lconst (v := 0) hx hb dX13_mod_12 (by decide) ?_
    refine W.lcmp hx hb dX13_mod_13 ?_
    refine lv_topi (fun x_3 ex_3 => ?_)
    refine lv_if_ge (tgt := 24) hx hb dX13_mod_14 (by decide) (fun c_4 => ?_) (fun c_4 => ?_)
    · refine lv_lload_n hx hb dX13_mod_24 rfl (lv_at hl 0 rfl) ?_
      refine W.widen (k := 0) (n := 0) (Nat.le_of_ble_eq_true rfl) (Nat.le_of_ble_eq_true rfl) ?_
      exact W.lret (v := x_2) hx hb hr (fun t ht hW => ⟨⟨x_2, (), rfl, trivial, trivial⟩, hS.F ht⟩) hS.2.2 dX13_mod_25
    · refine lv_lload_n hx hb dX13_mod_17 rfl (lv_at hl 0 rfl) ?_
      refine lv_iload_n hx hb dX13_mod_18 rfl (lv_at hl 2 rfl) ?_
      refine lv_i2l hx hb dX13_mod_19 rfl ?_
      refine lv_ladd hx hb dX13_mod_20 ?_
      refine lv_topl (fun x_5 ex_5 => ?_)
      refine lv_goto (tgt := 25) hx hb dX13_mod_21 (by decide) ?_
      refine W.widen (k := 0) (n := 0) (Nat.le_of_ble_eq_true rfl) (Nat.le_of_ble_eq_true rfl) ?_
      exact W.lret (v := x_5) hx hb hr (fun t ht hW => ⟨⟨x_5, (), rfl, trivial, trivial⟩, hS.F ht⟩) hS.2.2 dX13_mod_25
  · refine lv_lload_n hx hb dX13_mod_4 rfl (lv_at hl 0 rfl) ?_
    refine W.widen (k := 0) (n := 0) (Nat.le_of_ble_eq_true rfl) (Nat.le_of_ble_eq_true rfl) ?_
    exact W.lret (v := p0) hx hb hr (fun t ht hW => ⟨⟨p0, (), rfl, trivial, trivial⟩, hS.F ht⟩) hS.2.2 dX13_mod_5

theorem dX12_init_0 : decode cX12_init 0 = .ok (.aload_n 0, 1) := by decide +kernel
theorem dX12_init_1 : decode cX12_init 1 = .ok (.invokespecial 1, 3) := by decide +kernel
theorem w9_127 : (Jvm.Cond.methodLink "PolyforgeModel$Terms" (1 : Nat) ({ cls := "java/lang/Object", name := "<init>", desc := "()V" } : Jvm.MethodName)) ∈ lw_tbl := pv_t9 (pv_mg 127 rfl)
theorem dX12_init_4 : decode cX12_init 4 = .ok (.aload_n 0, 1) := by decide +kernel
theorem dX12_init_5 : decode cX12_init 5 = .ok (.iload_n 1, 1) := by decide +kernel
theorem dX12_init_6 : decode cX12_init 6 = .ok (.newarray .int, 2) := by decide +kernel
theorem w1_74 : (Jvm.Cond.arrayClass Jvm.ClassFile.FieldType.int) ∈ lw_tbl := pv_t1 (pv_mg 74 rfl)
theorem dX12_init_8 : decode cX12_init 8 = .ok (.putfield 7, 3) := by decide +kernel
theorem w9_128 : (Jvm.Cond.fieldLink "PolyforgeModel$Terms" (7 : Nat) "PolyforgeModel$Terms" "monomials" "[I") ∈ lw_tbl := pv_t9 (pv_mg 128 rfl)
theorem dX12_init_11 : decode cX12_init 11 = .ok (.aload_n 0, 1) := by decide +kernel
theorem dX12_init_12 : decode cX12_init 12 = .ok (.iload_n 1, 1) := by decide +kernel
theorem dX12_init_13 : decode cX12_init 13 = .ok (.newarray .long, 2) := by decide +kernel
theorem dX12_init_15 : decode cX12_init 15 = .ok (.putfield 13, 3) := by decide +kernel
theorem w9_130 : (Jvm.Cond.fieldLink "PolyforgeModel$Terms" (13 : Nat) "PolyforgeModel$Terms" "coefficients" "[J") ∈ lw_tbl := pv_t9 (pv_mg 130 rfl)
theorem dX12_init_18 : decode cX12_init 18 = .ok (.return_, 1) := by decide +kernel
set_option maxHeartbeats 4000000 in
set_option maxRecDepth 100000 in
/-- Terms(0) -/
theorem c_X12_init_0 (l : Launch) (hfl : l.stackTraces = false) (D : va_G) (sz : Nat) (h0 : Nat) : Met l yX12_init (Cond.code yX12_init cX12_init 2 none :: pv_W) ({ frames := 1, cells := 2, slots := 0, locals := 40 } : Room) (va_Pc [.ref h0, .int 0] (pv_P D [] [(h0, .inr (11, [.null, .null]))] (va_A [(h0, .inr (11, [.null, .null]))] sz) sz)) (va_Qv (fun (_ : Unit) => True) (fun _ t => ∃ (a b : Nat) (cI cJ : ClassId), va_P D pv_cl [(h0, .inr (11, [.ref a, .ref b])), (a, .inl (cI, 0, .inl (fun _ => 0))), (b, .inl (cJ, 0, .inr (.inl (fun _ => 0))))] t.heap ∧ va_K D pv_cl [(cI, .int), (cJ, .long)] t ∧ va_D (va_A [(h0, .inr (11, [.null, .null]))] sz) [(h0, .inr (11, [.ref a, .ref b])), (a, .inl (cI, 0, .inl (fun _ => 0))), (b, .inl (cJ, 0, .inr (.inl (fun _ => 0))))]) (va_A [(h0, .inr (11, [.null, .null]))] sz)) 2 0 (va_A [(h0, .inr (11, [.null, .null]))] sz) := by
  refine Met.ofW (cc := cX12_init) (maxL := 2) (ret := none) (by decide) rfl ?_
  intro p e s m args below meth c s₁ B hml hv
  obtain ⟨rfl, hsz, hE, hP, hK, hD0⟩ := hv
  have hx := B.exec
  have hb := B.bytes
  have hr := B.returns
  have hts := fun (w : Cond) (h : w ∈ pv_W) => atoms_spec (ws := Cond.code yX12_init cX12_init 2 none :: pv_W) B.pre w (List.mem_cons_of_mem _ h)
  have hg := fun {w : Cond} (h : w ∈ lw_tbl) (g : goodWord w = true) => hts w (pv_in h g)
  have hown : s.vm.findClass RX12 = some m.cls := findClass_of_methodNamed B.named
  have hlocks := B.notSynchronized
  have hin : meth.name = "<init>" := (name_of_methodNamed B.named B.method).1
  subst hsz
  have hD := hD0.self (sz := s.heap.size)
  generalize hAe : va_A [(h0, .inr (11, [.null, .null]))] s.heap.size = A at hD hE ⊢
  have hA : ∀ q : Nat, s.heap.size ≤ q → A q := fun q h => by rw [← hAe]; exact Or.inr h
  have hS : va_S A s.heap s.heap [] := va_S.rf
  have hP : va_P D pv_cl [(h0, .inr (11, [.null, .null]))] s.heap := hP
  have hl := lv_entry ([.ref h0, .int 0]) (n := 2) (Nat.le_of_ble_eq_true rfl)
  rw [lg_entry_eq]
  generalize (lg_sl ([.ref h0, .int 0]) ++ List.replicate (2 - (lg_sl ([.ref h0, .int 0])).length) Slot.unset).toArray = ls at hl ⊢
  have hl : lv_has ls 2 [(0, .ref h0), (1, .int 0)] := hl
  refine lv_aload_n hx hb dX12_init_0 rfl (lv_at hl 0 rfl) ?_
  refine W.objInit (own := RX12) hx hb hown (hg w9_127 rfl) (hg w1_36 rfl) (hg w1_37 rfl) rfl (hl.1.trans hml.symm) (rest := []) rfl dX12_init_1 (Nat.le_of_ble_eq_true rfl) (Nat.le_of_ble_eq_true rfl) ?_
  refine lv_aload_n hx hb dX12_init_4 rfl (lv_at hl 0 rfl) ?_
  refine lv_iload_n hx hb dX12_init_5 rfl (lv_at hl 1 rfl) ?_
  refine va_newa (atype := .int) hx hb (hg w1_74 rfl) (ty := .int) rfl hK hP hD hS hA (a0 := (0, .inl (fun _ => 0))) (fun _ => rfl) (by decide) (by decide +kernel) (Nat.le_of_ble_eq_true rfl) (Nat.le_of_ble_eq_true rfl) (Nat.le_of_ble_eq_true rfl) dX12_init_6 (fun q_1 cA_2 H hK hP hD hS => ?_)
  have hP : va_P D pv_cl [(h0, .inr (11, [.null, .null])), (q_1, .inl (cA_2, 0, .inl (fun _ => 0)))] _ := hP
  have hD : va_D A [(h0, .inr (11, [.null, .null])), (q_1, .inl (cA_2, 0, .inl (fun _ => 0)))] := hD
  have hK : va_K D pv_cl [(cA_2, .int)] s := hK
  refine W.widen (k := 1) (n := 0) (Nat.le_of_ble_eq_true rfl) (Nat.le_of_ble_eq_true rfl) ?_
  refine va_putF (own := RX12) (D := D) (ci := 11) (v := .ref q_1) (ty := .array .int) (C := RX12) (T := TX12) (N := 2) hx hb hts inF12 tyX12 tyX12_ok nmX12 hown hK hP hD hS 0 rfl rfl 0 (by decide) (hg w9_128 rfl) (fun _ h9 => h9) rfl hin rfl (by decide +kernel) rfl rfl (Nat.le_of_ble_eq_true rfl) dX12_init_8 (fun H locs hP hD hS => ?_)
  have hP : va_P D pv_cl [(h0, .inr (11, [.ref q_1, .null])), (q_1, .inl (cA_2, 0, .inl (fun _ => 0)))] _ := hP
  have hD : va_D A [(h0, .inr (11, [.ref q_1, .null])), (q_1, .inl (cA_2, 0, .inl (fun _ => 0)))] := hD
  refine lv_aload_n hx hb dX12_init_11 rfl (lv_at hl 0 rfl) ?_
  refine lv_iload_n hx hb dX12_init_12 rfl (lv_at hl 1 rfl) ?_
  refine va_newa (atype := .long) hx hb (hg w1_75 rfl) (ty := .long) rfl hK hP hD hS hA (a0 := (0, .inr (.inl (fun _ => 0)))) (fun _ => rfl) (by decide) (by decide +kernel) (Nat.le_of_ble_eq_true rfl) (Nat.le_of_ble_eq_true rfl) (Nat.le_of_ble_eq_true rfl) dX12_init_13 (fun q_3 cA_4 H hK hP hD hS => ?_)
  have hP : va_P D pv_cl [(h0, .inr (11, [.ref q_1, .null])), (q_1, .inl (cA_2, 0, .inl (fun _ => 0))), (q_3, .inl (cA_4, 0, .inr (.inl (fun _ => 0))))] _ := hP
  have hD : va_D A [(h0, .inr (11, [.ref q_1, .null])), (q_1, .inl (cA_2, 0, .inl (fun _ => 0))), (q_3, .inl (cA_4, 0, .inr (.inl (fun _ => 0))))] := hD
  have hK : va_K D pv_cl [(cA_2, .int), (cA_4, .long)] s := hK
  refine W.widen (k := 2) (n := 0) (Nat.le_of_ble_eq_true rfl) (Nat.le_of_ble_eq_true rfl) ?_
  refine va_putF (own := RX12) (D := D) (ci := 11) (v := .ref q_3) (ty := .array .long) (C := RX12) (T := TX12) (N := 2) hx hb hts inF12 tyX12 tyX12_ok nmX12 hown hK hP hD hS 0 rfl rfl 1 (by decide) (hg w9_130 rfl) (fun _ h9 => h9) rfl hin rfl (by decide +kernel) rfl rfl (Nat.le_of_ble_eq_true rfl) dX12_init_15 (fun H locs hP hD hS => ?_)
  have hP : va_P D pv_cl [(h0, .inr (11, [.ref q_1, .ref q_3])), (q_1, .inl (cA_2, 0, .inl (fun _ => 0))), (q_3, .inl (cA_4, 0, .inr (.inl (fun _ => 0))))] _ := hP
  have hD : va_D A [(h0, .inr (11, [.ref q_1, .ref q_3])), (q_1, .inl (cA_2, 0, .inl (fun _ => 0))), (q_3, .inl (cA_4, 0, .inr (.inl (fun _ => 0))))] := hD
  refine W.widen (k := 2) (n := 0) (Nat.le_of_ble_eq_true rfl) (Nat.le_of_ble_eq_true rfl) ?_
  exact W.vret hx hb hr (fun t ht hW => ⟨⟨(), rfl, trivial, q_1, q_3, cA_2, cA_4, (by rw [ht]; exact hP.sub [0, 1, 2] rfl), va_K.moved hW.alike (hK.sub [0, 1] rfl), hD.sub [0, 1, 2] (by decide) rfl⟩, hS.F ht⟩) hS.2.2 dX12_init_18

set_option maxHeartbeats 4000000 in
set_option maxRecDepth 100000 in
/-- Terms(1) -/
theorem c_X12_init_1 (l : Launch) (hfl : l.stackTraces = false) (D : va_G) (sz : Nat) (h0 : Nat) : Met l yX12_init (Cond.code yX12_init cX12_init 2 none :: pv_W) ({ frames := 1, cells := 2, slots := 2, locals := 40 } : Room) (va_Pc [.ref h0, .int 1] (pv_P D [] [(h0, .inr (11, [.null, .null]))] (va_A [(h0, .inr (11, [.null, .null]))] sz) sz)) (va_Qv (fun (_ : Unit) => True) (fun _ t => ∃ (a b : Nat) (cI cJ : ClassId), va_P D pv_cl [(h0, .inr (11, [.ref a, .ref b])), (a, .inl (cI, 1, .inl (fun _ => 0))), (b, .inl (cJ, 1, .inr (.inl (fun _ => 0))))] t.heap ∧ va_K D pv_cl [(cI, .int), (cJ, .long)] t ∧ va_D (va_A [(h0, .inr (11, [.null, .null]))] sz) [(h0, .inr (11, [.ref a, .ref b])), (a, .inl (cI, 1, .inl (fun _ => 0))), (b, .inl (cJ, 1, .inr (.inl (fun _ => 0))))]) (va_A [(h0, .inr (11, [.null, .null]))] sz)) 2 2 (va_A [(h0, .inr (11, [.null, .null]))] sz) := by
  refine Met.ofW (cc := cX12_init) (maxL := 2) (ret := none) (by decide) rfl ?_
  intro p e s m args below meth c s₁ B hml hv
  obtain ⟨rfl, hsz, hE, hP, hK, hD0⟩ := hv
  have hx := B.exec
  have hb := B.bytes
  have hr := B.returns
  have hts := fun (w : Cond) (h : w ∈ pv_W) => atoms_spec (ws := Cond.code yX12_init cX12_init 2 none :: pv_W) B.pre w (List.mem_cons_of_mem _ h)
  have hg := fun {w : Cond} (h : w ∈ lw_tbl) (g : goodWord w = true) => hts w (pv_in h g)
  have hown : s.vm.findClass RX12 = some m.cls := findClass_of_methodNamed B.named
  have hlocks := B.notSynchronized
  have hin : meth.name = "<init>" := (name_of_methodNamed B.named B.method).1
  subst hsz
  have hD := hD0.self (sz := s.heap.size)
  generalize hAe : va_A [(h0, .inr (11, [.null, .null]))] s.heap.size = A at hD hE ⊢
  have hA : ∀ q : Nat, s.heap.size ≤ q → A q := fun q h => by rw [← hAe]; exact Or.inr h
  have hS : va_S A s.heap s.heap [] := va_S.rf
  have hP : va_P D pv_cl [(h0, .inr (11, [.null, .null]))] s.heap := hP
  have hl := lv_entry ([.ref h0, .int 1]) (n := 2) (Nat.le_of_ble_eq_true rfl)
  rw [lg_entry_eq]
  generalize (lg_sl ([.ref h0, .int 1]) ++ List.replicate (2 - (lg_sl ([.ref h0, .int 1])).length) Slot.unset).toArray = ls at hl ⊢
  have hl : lv_has ls 2 [(0, .ref h0), (1, .int 1)] := hl
  refine lv_aload_n hx hb dX12_init_0 rfl (lv_at hl 0 rfl) ?_
  refine W.objInit (own := RX12) hx hb hown (hg w9_127 rfl) (hg w1_36 rfl) (hg w1_37 rfl) rfl (hl.1.trans hml.symm) (rest := []) rfl dX12_init_1 (Nat.le_of_ble_eq_true rfl) (Nat.le_of_ble_eq_true rfl) ?_
  refine lv_aload_n hx hb dX12_init_4 rfl (lv_at hl 0 rfl) ?_
  refine lv_iload_n hx hb dX12_init_5 rfl (lv_at hl 1 rfl) ?_
  refine va_newa (atype := .int) hx hb (hg w1_74 rfl) (ty := .int) rfl hK hP hD hS hA (a0 := (1, .inl (fun _ => 0))) (fun _ => rfl) (by decide) (by decide +kernel) (Nat.le_of_ble_eq_true rfl) (Nat.le_of_ble_eq_true rfl) (Nat.le_of_ble_eq_true rfl) dX12_init_6 (fun q_1 cA_2 H hK hP hD hS => ?_)
  have hP : va_P D pv_cl [(h0, .inr (11, [.null, .null])), (q_1, .inl (cA_2, 1, .inl (fun _ => 0)))] _ := hP
  have hD : va_D A [(h0, .inr (11, [.null, .null])), (q_1, .inl (cA_2, 1, .inl (fun _ => 0)))] := hD
  have hK : va_K D pv_cl [(cA_2, .int)] s := hK
  refine W.widen (k := 1) (n := 1) (Nat.le_of_ble_eq_true rfl) (Nat.le_of_ble_eq_true rfl) ?_
  refine va_putF (own := RX12) (D := D) (ci := 11) (v := .ref q_1) (ty := .array .int) (C := RX12) (T := TX12) (N := 2) hx hb hts inF12 tyX12 tyX12_ok nmX12 hown hK hP hD hS 0 rfl rfl 0 (by decide) (hg w9_128 rfl) (fun _ h9 => h9) rfl hin rfl (by decide +kernel) rfl rfl (Nat.le_of_ble_eq_true rfl) dX12_init_8 (fun H locs hP hD hS => ?_)
  have hP : va_P D pv_cl [(h0, .inr (11, [.ref q_1, .null])), (q_1, .inl (cA_2, 1, .inl (fun _ => 0)))] _ := hP
  have hD : va_D A [(h0, .inr (11, [.ref q_1, .null])), (q_1, .inl (cA_2, 1, .inl (fun _ => 0)))] := hD
  refine lv_aload_n hx hb dX12_init_11 rfl (lv_at hl 0 rfl) ?_
  refine lv_iload_n hx hb dX12_init_12 rfl (lv_at hl 1 rfl) ?_
  refine va_newa (atype := .long) hx hb (hg w1_75 rfl) (ty := .long) rfl hK hP hD hS hA (a0 := (1, .inr (.inl (fun _ => 0)))) (fun _ => rfl) (by decide) (by decide +kernel) (Nat.le_of_ble_eq_true rfl) (Nat.le_of_ble_eq_true rfl) (Nat.le_of_ble_eq_true rfl) dX12_init_13 (fun q_3 cA_4 H hK hP hD hS => ?_)
  have hP : va_P D pv_cl [(h0, .inr (11, [.ref q_1, .null])), (q_1, .inl (cA_2, 1, .inl (fun _ => 0))), (q_3, .inl (cA_4, 1, .inr (.inl (fun _ => 0))))] _ := hP
  have hD : va_D A [(h0, .inr (11, [.ref q_1, .null])), (q_1, .inl (cA_2, 1, .inl (fun _ => 0))), (q_3, .inl (cA_4, 1, .inr (.inl (fun _ => 0))))] := hD
  have hK : va_K D pv_cl [(cA_2, .int), (cA_4, .long)] s := hK
  refine W.widen (k := 2) (n := 2) (Nat.le_of_ble_eq_true rfl) (Nat.le_of_ble_eq_true rfl) ?_
  refine va_putF (own := RX12) (D := D) (ci := 11) (v := .ref q_3) (ty := .array .long) (C := RX12) (T := TX12) (N := 2) hx hb hts inF12 tyX12 tyX12_ok nmX12 hown hK hP hD hS 0 rfl rfl 1 (by decide) (hg w9_130 rfl) (fun _ h9 => h9) rfl hin rfl (by decide +kernel) rfl rfl (Nat.le_of_ble_eq_true rfl) dX12_init_15 (fun H locs hP hD hS => ?_)
  have hP : va_P D pv_cl [(h0, .inr (11, [.ref q_1, .ref q_3])), (q_1, .inl (cA_2, 1, .inl (fun _ => 0))), (q_3, .inl (cA_4, 1, .inr (.inl (fun _ => 0))))] _ := hP
  have hD : va_D A [(h0, .inr (11, [.ref q_1, .ref q_3])), (q_1, .inl (cA_2, 1, .inl (fun _ => 0))), (q_3, .inl (cA_4, 1, .inr (.inl (fun _ => 0))))] := hD
  refine W.widen (k := 2) (n := 2) (Nat.le_of_ble_eq_true rfl) (Nat.le_of_ble_eq_true rfl) ?_
  exact W.vret hx hb hr (fun t ht hW => ⟨⟨(), rfl, trivial, q_1, q_3, cA_2, cA_4, (by rw [ht]; exact hP.sub [0, 1, 2] rfl), va_K.moved hW.alike (hK.sub [0, 1] rfl), hD.sub [0, 1, 2] (by decide) rfl⟩, hS.F ht⟩) hS.2.2 dX12_init_18

theorem dX13_single_0 : decode cX13_single 0 = .ok (.new 17, 3) := by decide +kernel
theorem w8_198 : (Jvm.Cond.classLink "PolyforgeModel" (17 : Nat) "PolyforgeModel$Terms") ∈ lw_tbl := pv_t8 (pv_mg 198 rfl)
theorem w9_123 : (Jvm.Cond.instantiable "PolyforgeModel$Terms" (2 : Nat)) ∈ lw_tbl := pv_t9 (pv_mg 123 rfl)
theorem w1_19 : (Jvm.Cond.initialized "PolyforgeModel$Terms") ∈ lw_tbl := pv_t1 (pv_mg 19 rfl)
theorem dX13_single_3 : decode cX13_single 3 = .ok (.dup, 1) := by decide +kernel
theorem dX13_single_4 : decode cX13_single 4 = .ok (.lload_n 1, 1) := by decide +kernel
theorem dX13_single_5 : decode cX13_single 5 = .ok (.lconst 0, 1) := by decide +kernel
theorem dX13_single_6 : decode cX13_single 6 = .ok (.lcmp, 1) := by decide +kernel
theorem dX13_single_7 : decode cX13_single 7 = .ok (.ifCond .ne 7, 3) := by decide +kernel
theorem dX13_single_14 : decode cX13_single 14 = .ok (.iconst 1, 1) := by decide +kernel
theorem dX13_single_15 : decode cX13_single 15 = .ok (.invokespecial 165, 3) := by decide +kernel
theorem w9_124 : (Jvm.Cond.methodLink "PolyforgeModel" (165 : Nat) ({ cls := "PolyforgeModel$Terms", name := "<init>", desc := "(I)V" } : Jvm.MethodName)) ∈ lw_tbl := pv_t9 (pv_mg 124 rfl)
theorem w9_126 : (Jvm.Cond.code ({ cls := "PolyforgeModel$Terms", name := "<init>", desc := "(I)V" } : Jvm.MethodName) prog_15_method_1_code (2 : Nat) (Option.none : Option Jvm.ClassFile.FieldType)) ∈ lw_tbl := pv_t9 (pv_mg 126 rfl)
theorem w9_125 : (Jvm.Cond.instanceMethod ({ cls := "PolyforgeModel$Terms", name := "<init>", desc := "(I)V" } : Jvm.MethodName)) ∈ lw_tbl := pv_t9 (pv_mg 125 rfl)
theorem dX13_single_18 : decode cX13_single 18 = .ok (.astore_n 3, 1) := by decide +kernel
theorem dX13_single_19 : decode cX13_single 19 = .ok (.lload_n 1, 1) := by decide +kernel
theorem dX13_single_20 : decode cX13_single 20 = .ok (.lconst 0, 1) := by decide +kernel
theorem dX13_single_21 : decode cX13_single 21 = .ok (.lcmp, 1) := by decide +kernel
theorem dX13_single_22 : decode cX13_single 22 = .ok (.ifCond .eq 17, 3) := by decide +kernel
theorem dX13_single_25 : decode cX13_single 25 = .ok (.aload_n 3, 1) := by decide +kernel
theorem dX13_single_26 : decode cX13_single 26 = .ok (.getfield 168, 3) := by decide +kernel
theorem w9_129 : (Jvm.Cond.fieldLinkNest "PolyforgeModel" (168 : Nat) "PolyforgeModel$Terms" "monomials" "[I" "PolyforgeModel") ∈ lw_tbl := pv_t9 (pv_mg 129 rfl)
theorem dX13_single_29 : decode cX13_single 29 = .ok (.iconst 0, 1) := by decide +kernel
theorem dX13_single_30 : decode cX13_single 30 = .ok (.iload_n 0, 1) := by decide +kernel
theorem dX13_single_31 : decode cX13_single 31 = .ok (.iastore, 1) := by decide +kernel
theorem dX13_single_32 : decode cX13_single 32 = .ok (.aload_n 3, 1) := by decide +kernel
theorem dX13_single_33 : decode cX13_single 33 = .ok (.getfield 174, 3) := by decide +kernel
theorem w9_131 : (Jvm.Cond.fieldLinkNest "PolyforgeModel" (174 : Nat) "PolyforgeModel$Terms" "coefficients" "[J" "PolyforgeModel") ∈ lw_tbl := pv_t9 (pv_mg 131 rfl)
theorem dX13_single_36 : decode cX13_single 36 = .ok (.iconst 0, 1) := by decide +kernel
theorem dX13_single_37 : decode cX13_single 37 = .ok (.lload_n 1, 1) := by decide +kernel
theorem dX13_single_38 : decode cX13_single 38 = .ok (.lastore, 1) := by decide +kernel
theorem dX13_single_39 : decode cX13_single 39 = .ok (.aload_n 3, 1) := by decide +kernel
theorem dX13_single_40 : decode cX13_single 40 = .ok (.areturn, 1) := by decide +kernel
theorem dX13_single_10 : decode cX13_single 10 = .ok (.iconst 0, 1) := by decide +kernel
theorem dX13_single_11 : decode cX13_single 11 = .ok (.goto 4, 3) := by decide +kernel
set_option maxHeartbeats 4000000 in
set_option maxRecDepth 100000 in
/-- single -/
theorem c_X13_single (l : Launch) (hfl : l.stackTraces = false) (D : va_G) (sz : Nat) (p0 : Int32) (p1 : Int64) : Met l yX13_single (Cond.code yX13_single cX13_single 4 (some (.object "PolyforgeModel$Terms")) :: pv_W) ({ frames := 2, cells := 3, slots := 4, locals := 61 } : Room) (va_Pc [.int p0, .long p1] (pv_P D [] [] (va_A [] sz) sz)) (va_Qr (fun (_ : Unit) => True) (fun _ a t => ∃ b c : Nat, va_P D pv_cl [(a, .inr (11, [.ref b, .ref c]))] t.heap ∧ va_K D pv_cl [] t ∧ va_D (va_A [] sz) [(a, .inr (11, [.ref b, .ref c]))]) (va_A [] sz)) 3 4 (va_A [] sz) := by
  refine Met.ofW (cc := cX13_single) (maxL := 4) (ret := (some (.object "PolyforgeModel$Terms"))) (by decide) rfl ?_
  intro p e s m args below meth c s₁ B hml hv
  obtain ⟨rfl, hsz, hE, hP, hK, hD0⟩ := hv
  have hx := B.exec
  have hb := B.bytes
  have hr := B.returns
  have hts := fun (w : Cond) (h : w ∈ pv_W) => atoms_spec (ws := Cond.code yX13_single cX13_single 4 (some (.object "PolyforgeModel$Terms")) :: pv_W) B.pre w (List.mem_cons_of_mem _ h)
  have hg := fun {w : Cond} (h : w ∈ lw_tbl) (g : goodWord w = true) => hts w (pv_in h g)
  have hown : s.vm.findClass RX13 = some m.cls := findClass_of_methodNamed B.named
  have hlocks := B.notSynchronized
  subst hsz
  have hD := hD0.self (sz := s.heap.size)
  generalize hAe : va_A [] s.heap.size = A at hD hE ⊢
  have hA : ∀ q : Nat, s.heap.size ≤ q → A q := fun q h => by rw [← hAe]; exact Or.inr h
  have hS : va_S A s.heap s.heap [] := va_S.rf
  have hP : va_P D pv_cl [] s.heap := hP
  have hl := lv_entry ([.int p0, .long p1]) (n := 4) (Nat.le_of_ble_eq_true rfl)
  rw [lg_entry_eq]
  generalize (lg_sl ([.int p0, .long p1]) ++ List.replicate (4 - (lg_sl ([.int p0, .long p1])).length) Slot.unset).toArray = ls at hl ⊢
  have hl : lv_has ls 4 [(0, .int p0), (1, .long p1)] := hl
  refine va_new (own := RX13) (ci := 11) (fs := [.null, .null]) (C := RX12) (T := TX12) (N := 2) hx hb hts inF12 tyX12 tyX12_ok hown (hg w8_198 rfl) (hg w9_123 rfl) (hg w1_19 rfl) hK hP hD hS hA rfl (by decide +kernel) (Nat.le_of_ble_eq_true rfl) (Nat.le_of_ble_eq_true rfl) dX13_single_0 (fun q_1 H hP hD hS => ?_)
  have hP : va_P D pv_cl [(q_1, .inr (11, [.null, .null]))] _ := hP
  have hD : va_D A [(q_1, .inr (11, [.null, .null]))] := hD
  refine W.widen (k := 1) (n := 2) (Nat.le_of_ble_eq_true rfl) (Nat.le_of_ble_eq_true rfl) ?_
  refine lv_dup hx hb dX13_single_3 rfl ?_
  refine lv_lload_n hx hb dX13_single_4 rfl (lv_at hl 1 rfl) ?_
  refine lv_lconst (v := 0) hx hb dX13_single_5 (by decide) ?_
  refine W.lcmp hx hb dX13_single_6 ?_
  refine lv_topi (fun x_2 ex_2 => ?_)
  refine lv_if_ne (tgt := 14) hx hb dX13_single_7 (by decide) (fun c_3 => ?_) (fun c_3 => ?_)
  · refine lv_iconst (v := 1) hx hb dX13_single_14 (by decide) ?_
    have hF := va_free (wc := [(q_1, .inr (11, [.null, .null]))]) hD hS hA [0] rfl
    refine va_callv (va_runI (As := [.int 1]) (rest := [.ref q_1]) ⟨hx, hb, hml, hown, hts⟩ (c_X12_init_1 l hfl D _ q_1) (cwI 1 hts (pv_gC w9_126) rfl rfl rfl (hg w1_19 rfl) (hg w9_124 rfl) (hg w9_125 rfl) rfl (by decide +kernel) ⟨Nat.le_of_ble_eq_true rfl, Nat.le_of_ble_eq_true rfl⟩) (pv_ps hE hS hF (hP.sub [0] rfl) (hK.sub [] rfl) (hD.sub [0] (by decide) rfl)) rfl rfl hl.1 rfl (lv_room (Nat.le_of_ble_eq_true rfl)) dX13_single_15 ⟨Nat.le_of_ble_eq_true rfl, Nat.le_of_ble_eq_true rfl⟩) hS (fun q _ h => hF q h) hF (fun u t H1 locs1 ht hvm hw hB hz1 hk1 hS => ?_)
    refine W.widen (k := 3) (n := 4) (Nat.le_of_ble_eq_true rfl) (Nat.le_of_ble_eq_true rfl) ?_
    obtain ⟨a_5, b_6, cI_7, cJ_8, hP1, hK1, hD1⟩ := hB
    rw [ht] at hP1
    have hK1 := va_K.moved hvm.symm hK1
    obtain ⟨hP, hD⟩ := va_join (wr := []) (w1 := [(q_1, .inr (11, [.ref a_5, .ref b_6])), (a_5, .inl (cI_7, 1, .inl (fun _ => 0))), (b_6, .inl (cJ_8, 1, .inr (.inl (fun _ => 0))))]) hP hD [0] [] rfl rfl (by decide) (by decide) hk1 hF hP1 hD1
    have hP : va_P D pv_cl [(q_1, .inr (11, [.ref a_5, .ref b_6])), (a_5, .inl (cI_7, 1, .inl (fun _ => 0))), (b_6, .inl (cJ_8, 1, .inr (.inl (fun _ => 0))))] _ := hP
    have hD : va_D A [(q_1, .inr (11, [.ref a_5, .ref b_6])), (a_5, .inl (cI_7, 1, .inl (fun _ => 0))), (b_6, .inl (cJ_8, 1, .inr (.inl (fun _ => 0))))] := hD
    have hK := (hK.sub [] rfl).app hK1
    have hK : va_K D pv_cl [(cI_7, .int), (cJ_8, .long)] s := hK
    refine lv_astore_n (lv' := [(3, .ref q_1), (0, .int p0), (1, .long p1)]) hx hb dX13_single_18 rfl hl (by decide) rfl (fun ls hl => ?_)
    refine lv_lload_n hx hb dX13_single_19 rfl (lv_at hl 2 rfl) ?_
    refine lv_lconst (v := 0) hx hb dX13_single_20 (by decide) ?_
    refine W.lcmp hx hb dX13_single_21 ?_
    refine lv_topi (fun x_9 ex_9 => ?_)
    refine lv_if_eq (tgt := 39) hx hb dX13_single_22 (by decide) (fun c_10 => absurd (ex_2.trans (ex_9.symm.trans c_10)) c_3) (fun c_10 => ?_)
    refine lv_aload_n hx hb dX13_single_25 rfl (lv_at hl 0 rfl) ?_
    refine va_getN (own := RX13) (D := D) (ci := 11) (v := .ref a_5) (C := RX12) (T := TX12) (N := 2) hx hb hts inF12 hown hK hP 0 rfl rfl 0 (by decide) (va_Nw.use rfl (hE.2.2.1 _ (pv_ib w9_129 rfl))) (fun _ h9 => h9) rfl dX13_single_26 ?_
    refine lv_iconst (v := 0) hx hb dX13_single_29 (by decide) ?_
    refine lv_iload_n hx hb dX13_single_30 rfl (lv_at hl 1 rfl) ?_
    refine va_iast hx hb hK hP hD hS 1 0 rfl rfl (by unfold vp_in; decide) dX13_single_31 (fun H locs hP hD hS => ?_)
    have hP : va_P D pv_cl [(q_1, .inr (11, [.ref a_5, .ref b_6])), (a_5, .inl (cI_7, 1, .inl (upd (fun _ => 0) (0 : Int32).toNatClampNeg p0))), (b_6, .inl (cJ_8, 1, .inr (.inl (fun _ => 0))))] _ := hP
    have hD : va_D A [(q_1, .inr (11, [.ref a_5, .ref b_6])), (a_5, .inl (cI_7, 1, .inl (upd (fun _ => 0) (0 : Int32).toNatClampNeg p0))), (b_6, .inl (cJ_8, 1, .inr (.inl (fun _ => 0))))] := hD
    refine lv_aload_n hx hb dX13_single_32 rfl (lv_at hl 0 rfl) ?_
    refine va_getN (own := RX13) (D := D) (ci := 11) (v := .ref b_6) (C := RX12) (T := TX12) (N := 2) hx hb hts inF12 hown hK hP 0 rfl rfl 1 (by decide) (va_Nw.use rfl (hE.2.2.1 _ (pv_ib w9_131 rfl))) (fun _ h9 => h9) rfl dX13_single_33 ?_
    refine lv_iconst (v := 0) hx hb dX13_single_36 (by decide) ?_
    refine lv_lload_n hx hb dX13_single_37 rfl (lv_at hl 2 rfl) ?_
    refine va_last hx hb hK hP hD hS 2 1 rfl rfl (by unfold vp_in; decide) dX13_single_38 (fun H locs hP hD hS => ?_)
    have hP : va_P D pv_cl [(q_1, .inr (11, [.ref a_5, .ref b_6])), (a_5, .inl (cI_7, 1, .inl (upd (fun _ => 0) (0 : Int32).toNatClampNeg p0))), (b_6, .inl (cJ_8, 1, .inr (.inl (vp_updL (fun _ => 0) (0 : Int32).toNatClampNeg p1))))] _ := hP
    have hD : va_D A [(q_1, .inr (11, [.ref a_5, .ref b_6])), (a_5, .inl (cI_7, 1, .inl (upd (fun _ => 0) (0 : Int32).toNatClampNeg p0))), (b_6, .inl (cJ_8, 1, .inr (.inl (vp_updL (fun _ => 0) (0 : Int32).toNatClampNeg p1))))] := hD
    refine lv_aload_n hx hb dX13_single_39 rfl (lv_at hl 0 rfl) ?_
    refine W.widen (k := 3) (n := 4) (Nat.le_of_ble_eq_true rfl) (Nat.le_of_ble_eq_true rfl) ?_
    exact W.aret (v := .ref q_1) hx hb hr (Or.inl ⟨_, rfl⟩) (Or.inr ⟨_, rfl⟩) (fun t ht hW => ⟨⟨(), q_1, rfl, trivial, a_5, b_6, (by rw [ht]; exact hP.sub [0] rfl), va_K.moved hW.alike (hK.sub [] rfl), hD.sub [0] (by decide) rfl⟩, hS.F ht⟩) hS.2.2 dX13_single_40
  · refine lv_iconst (v := 0) hx hb dX13_single_10 (by decide) ?_
    refine lv_goto (tgt := 15) hx hb dX13_single_11 (by decide) ?_
    have hF := va_free (wc := [(q_1, .inr (11, [.null, .null]))]) hD hS hA [0] rfl
    refine va_callv (va_runI (As := [.int 0]) (rest := [.ref q_1]) ⟨hx, hb, hml, hown, hts⟩ (c_X12_init_0 l hfl D _ q_1) (cwI 1 hts (pv_gC w9_126) rfl rfl rfl (hg w1_19 rfl) (hg w9_124 rfl) (hg w9_125 rfl) rfl (by decide +kernel) ⟨Nat.le_of_ble_eq_true rfl, Nat.le_of_ble_eq_true rfl⟩) (pv_ps hE hS hF (hP.sub [0] rfl) (hK.sub [] rfl) (hD.sub [0] (by decide) rfl)) rfl rfl hl.1 rfl (lv_room (Nat.le_of_ble_eq_true rfl)) dX13_single_15 ⟨Nat.le_of_ble_eq_true rfl, Nat.le_of_ble_eq_true rfl⟩) hS (fun q _ h => hF q h) hF (fun u t H1 locs1 ht hvm hw hB hz1 hk1 hS => ?_)
    refine W.widen (k := 3) (n := 2) (Nat.le_of_ble_eq_true rfl) (Nat.le_of_ble_eq_true rfl) ?_
    obtain ⟨a_12, b_13, cI_14, cJ_15, hP1, hK1, hD1⟩ := hB
    rw [ht] at hP1
    have hK1 := va_K.moved hvm.symm hK1
    obtain ⟨hP, hD⟩ := va_join (wr := []) (w1 := [(q_1, .inr (11, [.ref a_12, .ref b_13])), (a_12, .inl (cI_14, 0, .inl (fun _ => 0))), (b_13, .inl (cJ_15, 0, .inr (.inl (fun _ => 0))))]) hP hD [0] [] rfl rfl (by decide) (by decide) hk1 hF hP1 hD1
    have hP : va_P D pv_cl [(q_1, .inr (11, [.ref a_12, .ref b_13])), (a_12, .inl (cI_14, 0, .inl (fun _ => 0))), (b_13, .inl (cJ_15, 0, .inr (.inl (fun _ => 0))))] _ := hP
    have hD : va_D A [(q_1, .inr (11, [.ref a_12, .ref b_13])), (a_12, .inl (cI_14, 0, .inl (fun _ => 0))), (b_13, .inl (cJ_15, 0, .inr (.inl (fun _ => 0))))] := hD
    have hK := (hK.sub [] rfl).app hK1
    have hK : va_K D pv_cl [(cI_14, .int), (cJ_15, .long)] s := hK
    refine lv_astore_n (lv' := [(3, .ref q_1), (0, .int p0), (1, .long p1)]) hx hb dX13_single_18 rfl hl (by decide) rfl (fun ls hl => ?_)
    refine lv_lload_n hx hb dX13_single_19 rfl (lv_at hl 2 rfl) ?_
    refine lv_lconst (v := 0) hx hb dX13_single_20 (by decide) ?_
    refine W.lcmp hx hb dX13_single_21 ?_
    refine lv_topi (fun x_16 ex_16 => ?_)
    refine lv_if_eq (tgt := 39) hx hb dX13_single_22 (by decide) (fun c_17 => ?_) (fun c_17 => absurd (ex_16.trans (ex_2.symm.trans c_3)) c_17)
    refine lv_aload_n hx hb dX13_single_39 rfl (lv_at hl 0 rfl) ?_
    refine W.widen (k := 3) (n := 4) (Nat.le_of_ble_eq_true rfl) (Nat.le_of_ble_eq_true rfl) ?_
    exact W.aret (v := .ref q_1) hx hb hr (Or.inl ⟨_, rfl⟩) (Or.inr ⟨_, rfl⟩) (fun t ht hW => ⟨⟨(), q_1, rfl, trivial, a_12, b_13, (by rw [ht]; exact hP.sub [0] rfl), va_K.moved hW.alike (hK.sub [] rfl), hD.sub [0] (by decide) rfl⟩, hS.F ht⟩) hS.2.2 dX13_single_40

theorem dX13_keeps_0 : decode cX13_keeps 0 = .ok (.iconst 0, 1) := by decide +kernel
theorem dX13_keeps_1 : decode cX13_keeps 1 = .ok (.istore 4, 2) := by decide +kernel
theorem dX13_keeps_3 : decode cX13_keeps 3 = .ok (.iload 4, 2) := by decide +kernel
theorem dX13_keeps_5 : decode cX13_keeps 5 = .ok (.aload_n 0, 1) := by decide +kernel
theorem dX13_keeps_6 : decode cX13_keeps 6 = .ok (.getfield 125, 3) := by decide +kernel
theorem dX13_keeps_9 : decode cX13_keeps 9 = .ok (.if_icmp .ge 37, 3) := by decide +kernel
theorem dX13_keeps_46 : decode cX13_keeps 46 = .ok (.aload_n 0, 1) := by decide +kernel
theorem dX13_keeps_47 : decode cX13_keeps 47 = .ok (.getfield 125, 3) := by decide +kernel
theorem dX13_keeps_50 : decode cX13_keeps 50 = .ok (.bipush 60, 2) := by decide +kernel
theorem dX13_keeps_52 : decode cX13_keeps 52 = .ok (.if_icmp .ne 9, 3) := by decide +kernel
theorem dX13_keeps_61 : decode cX13_keeps 61 = .ok (.aload_n 0, 1) := by decide +kernel
theorem dX13_keeps_62 : decode cX13_keeps 62 = .ok (.getfield 13, 3) := by decide +kernel
theorem w8_208 : (Jvm.Cond.fieldLink "PolyforgeModel" (13 : Nat) "PolyforgeModel" "grounds" "[I") ∈ lw_tbl := pv_t8 (pv_mg 208 rfl)
theorem dX13_keeps_65 : decode cX13_keeps 65 = .ok (.aload_n 0, 1) := by decide +kernel
theorem dX13_keeps_66 : decode cX13_keeps 66 = .ok (.getfield 125, 3) := by decide +kernel
theorem dX13_keeps_69 : decode cX13_keeps 69 = .ok (.iload_n 1, 1) := by decide +kernel
theorem dX13_keeps_70 : decode cX13_keeps 70 = .ok (.iastore, 1) := by decide +kernel
theorem dX13_keeps_71 : decode cX13_keeps 71 = .ok (.aload_n 0, 1) := by decide +kernel
theorem dX13_keeps_72 : decode cX13_keeps 72 = .ok (.getfield 19, 3) := by decide +kernel
theorem w8_209 : (Jvm.Cond.fieldLink "PolyforgeModel" (19 : Nat) "PolyforgeModel" "polynomials" "[LPolyforgeModel$Terms;") ∈ lw_tbl := pv_t8 (pv_mg 209 rfl)
theorem dX13_keeps_75 : decode cX13_keeps 75 = .ok (.aload_n 0, 1) := by decide +kernel
theorem dX13_keeps_76 : decode cX13_keeps 76 = .ok (.getfield 125, 3) := by decide +kernel
theorem dX13_keeps_79 : decode cX13_keeps 79 = .ok (.aload_n 2, 1) := by decide +kernel
theorem dX13_keeps_80 : decode cX13_keeps 80 = .ok (.aastore, 1) := by decide +kernel
theorem dX13_keeps_81 : decode cX13_keeps 81 = .ok (.aload_n 0, 1) := by decide +kernel
theorem dX13_keeps_82 : decode cX13_keeps 82 = .ok (.dup, 1) := by decide +kernel
theorem dX13_keeps_83 : decode cX13_keeps 83 = .ok (.getfield 125, 3) := by decide +kernel
theorem dX13_keeps_86 : decode cX13_keeps 86 = .ok (.iconst 1, 1) := by decide +kernel
theorem dX13_keeps_87 : decode cX13_keeps 87 = .ok (.iadd, 1) := by decide +kernel
theorem dX13_keeps_88 : decode cX13_keeps 88 = .ok (.putfield 125, 3) := by decide +kernel
theorem dX13_keeps_91 : decode cX13_keeps 91 = .ok (.aload_n 0, 1) := by decide +kernel
theorem dX13_keeps_92 : decode cX13_keeps 92 = .ok (.getfield 125, 3) := by decide +kernel
theorem dX13_keeps_95 : decode cX13_keeps 95 = .ok (.iconst 1, 1) := by decide +kernel
theorem dX13_keeps_96 : decode cX13_keeps 96 = .ok (.isub, 1) := by decide +kernel
theorem dX13_keeps_97 : decode cX13_keeps 97 = .ok (.ireturn, 1) := by decide +kernel
set_option maxHeartbeats 4000000 in
set_option maxRecDepth 100000 in
/-- keeps: the first one -/
theorem c_X13_keeps (l : Launch) (hfl : l.stackTraces = false) (D : va_G) (sz : Nat) (h0 : Nat) (q : Nat → Nat) (cI cT : ClassId) (a0 b0 b1 : Nat) (p0 p1 : Int32) : Met l yX13_keeps (Cond.code yX13_keeps cX13_keeps 5 (some .int) :: pv_W) ({ frames := 0, cells := 0, slots := 0, locals := 0 } : Room) (va_Pc [.ref h0, .int p0, .ref a0, .int p1] (pv_P D [(cI, .int), (cT, .object "PolyforgeModel$Terms")] [(h0, .inr (1, pv_m 0 q)), (a0, .inr (11, [.ref b0, .ref b1])), ((q 0), .inl (cI, 60, .inl (fun _ => 0))), ((q 1), .inl (cT, 60, .inr (.inr (.inr (.inr (fun _ => none))))))] (va_A [(h0, .inr (1, pv_m 0 q)), (a0, .inr (11, [.ref b0, .ref b1])), ((q 0), .inl (cI, 60, .inl (fun _ => 0))), ((q 1), .inl (cT, 60, .inr (.inr (.inr (.inr (fun _ => none))))))] sz) sz)) (va_Qi (fun r (u : Int32) => r = 0 ∧ u = 0) (fun (u : Int32) t => ∃ fs : List Value, fs[0]? = some (.int u) ∧ va_P D pv_cl [(h0, .inr (1, fs))] t.heap ∧ va_K D pv_cl [] t ∧ va_D (va_A [(h0, .inr (1, pv_m 0 q)), (a0, .inr (11, [.ref b0, .ref b1])), ((q 0), .inl (cI, 60, .inl (fun _ => 0))), ((q 1), .inl (cT, 60, .inr (.inr (.inr (.inr (fun _ => none))))))] sz) [(h0, .inr (1, fs))]) (va_A [(h0, .inr (1, pv_m 0 q)), (a0, .inr (11, [.ref b0, .ref b1])), ((q 0), .inl (cI, 60, .inl (fun _ => 0))), ((q 1), .inl (cT, 60, .inr (.inr (.inr (.inr (fun _ => none))))))] sz)) 0 0 (va_A [(h0, .inr (1, pv_m 0 q)), (a0, .inr (11, [.ref b0, .ref b1])), ((q 0), .inl (cI, 60, .inl (fun _ => 0))), ((q 1), .inl (cT, 60, .inr (.inr (.inr (.inr (fun _ => none))))))] sz) := by
  refine Met.ofW (cc := cX13_keeps) (maxL := 5) (ret := (some .int)) (by decide) rfl ?_
  intro p e s m args below meth c s₁ B hml hv
  obtain ⟨rfl, hsz, hE, hP, hK, hD0⟩ := hv
  have hx := B.exec
  have hb := B.bytes
  have hr := B.returns
  have hts := fun (w : Cond) (h : w ∈ pv_W) => atoms_spec (ws := Cond.code yX13_keeps cX13_keeps 5 (some .int) :: pv_W) B.pre w (List.mem_cons_of_mem _ h)
  have hg := fun {w : Cond} (h : w ∈ lw_tbl) (g : goodWord w = true) => hts w (pv_in h g)
  have hown : s.vm.findClass RX13 = some m.cls := findClass_of_methodNamed B.named
  have hlocks := B.notSynchronized
  subst hsz
  have hD := hD0.self (sz := s.heap.size)
  generalize hAe : va_A [(h0, .inr (1, pv_m 0 q)), (a0, .inr (11, [.ref b0, .ref b1])), ((q 0), .inl (cI, 60, .inl (fun _ => 0))), ((q 1), .inl (cT, 60, .inr (.inr (.inr (.inr (fun _ => none))))))] s.heap.size = A at hD hE ⊢
  have hA : ∀ q : Nat, s.heap.size ≤ q → A q := fun q h => by rw [← hAe]; exact Or.inr h
  have hS : va_S A s.heap s.heap [] := va_S.rf
  have hP : va_P D pv_cl [(h0, .inr (1, pv_m 0 q)), (a0, .inr (11, [.ref b0, .ref b1])), ((q 0), .inl (cI, 60, .inl (fun _ => 0))), ((q 1), .inl (cT, 60, .inr (.inr (.inr (.inr (fun _ => none))))))] s.heap := hP
  have hl := lv_entry ([.ref h0, .int p0, .ref a0, .int p1]) (n := 5) (Nat.le_of_ble_eq_true rfl)
  rw [lg_entry_eq]
  generalize (lg_sl ([.ref h0, .int p0, .ref a0, .int p1]) ++ List.replicate (5 - (lg_sl ([.ref h0, .int p0, .ref a0, .int p1])).length) Slot.unset).toArray = ls at hl ⊢
  have hl : lv_has ls 5 [(0, .ref h0), (1, .int p0), (2, .ref a0), (3, .int p1)] := hl
  refine lv_iconst (v := 0) hx hb dX13_keeps_0 (by decide) ?_
  refine lv_istore (lv' := [(4, .int 0), (0, .ref h0), (1, .int p0), (2, .ref a0), (3, .int p1)]) hx hb dX13_keeps_1 hl (by decide) rfl (fun ls hl => ?_)
  refine lv_iload hx hb dX13_keeps_3 (lv_at hl 0 rfl) ?_
  refine lv_aload_n hx hb dX13_keeps_5 rfl (lv_at hl 1 rfl) ?_
  refine va_get (own := RX13) (D := D) (ci := 1) (v := .int 0) (C := RX13) (T := TX13) (N := 45) hx hb hts inF13 hown hK hP 0 rfl rfl 2 (by decide) (hg w8_207 rfl) (fun _ h9 => h9) rfl dX13_keeps_6 ?_
  refine lv_icmp_ge (tgt := 46) hx hb dX13_keeps_9 (by decide) (fun _ => ?_) (fun c_1 => absurd (by decide) c_1)
  refine lv_aload_n hx hb dX13_keeps_46 rfl (lv_at hl 1 rfl) ?_
  refine va_get (own := RX13) (D := D) (ci := 1) (v := .int 0) (C := RX13) (T := TX13) (N := 45) hx hb hts inF13 hown hK hP 0 rfl rfl 2 (by decide) (hg w8_207 rfl) (fun _ h9 => h9) rfl dX13_keeps_47 ?_
  refine lv_bipush (v := 60) hx hb dX13_keeps_50 (by decide) ?_
  refine lv_icmp_ne (tgt := 61) hx hb dX13_keeps_52 (by decide) (fun _ => ?_) (fun c_2 => absurd c_2 (by decide))
  refine lv_aload_n hx hb dX13_keeps_61 rfl (lv_at hl 1 rfl) ?_
  refine va_get (own := RX13) (D := D) (ci := 1) (v := .ref (q 0)) (C := RX13) (T := TX13) (N := 45) hx hb hts inF13 hown hK hP 0 rfl rfl 3 (by decide) (hg w8_208 rfl) (fun _ h9 => h9) rfl dX13_keeps_62 ?_
  refine lv_aload_n hx hb dX13_keeps_65 rfl (lv_at hl 1 rfl) ?_
  refine va_get (own := RX13) (D := D) (ci := 1) (v := .int 0) (C := RX13) (T := TX13) (N := 45) hx hb hts inF13 hown hK hP 0 rfl rfl 2 (by decide) (hg w8_207 rfl) (fun _ h9 => h9) rfl dX13_keeps_66 ?_
  refine lv_iload_n hx hb dX13_keeps_69 rfl (lv_at hl 2 rfl) ?_
  refine va_iast hx hb hK hP hD hS 2 0 rfl rfl (by unfold vp_in; decide) dX13_keeps_70 (fun H locs hP hD hS => ?_)
  have hP : va_P D pv_cl [(h0, .inr (1, pv_m 0 q)), (a0, .inr (11, [.ref b0, .ref b1])), ((q 0), .inl (cI, 60, .inl (upd (fun _ => 0) (0 : Int32).toNatClampNeg p0))), ((q 1), .inl (cT, 60, .inr (.inr (.inr (.inr (fun _ => none))))))] _ := hP
  have hD : va_D A [(h0, .inr (1, pv_m 0 q)), (a0, .inr (11, [.ref b0, .ref b1])), ((q 0), .inl (cI, 60, .inl (upd (fun _ => 0) (0 : Int32).toNatClampNeg p0))), ((q 1), .inl (cT, 60, .inr (.inr (.inr (.inr (fun _ => none))))))] := hD
  refine lv_aload_n hx hb dX13_keeps_71 rfl (lv_at hl 1 rfl) ?_
  refine va_get (own := RX13) (D := D) (ci := 1) (v := .ref (q 1)) (C := RX13) (T := TX13) (N := 45) hx hb hts inF13 hown hK hP 0 rfl rfl 4 (by decide) (hg w8_209 rfl) (fun _ h9 => h9) rfl dX13_keeps_72 ?_
  refine lv_aload_n hx hb dX13_keeps_75 rfl (lv_at hl 1 rfl) ?_
  refine va_get (own := RX13) (D := D) (ci := 1) (v := .int 0) (C := RX13) (T := TX13) (N := 45) hx hb hts inF13 hown hK hP 0 rfl rfl 2 (by decide) (hg w8_207 rfl) (fun _ h9 => h9) rfl dX13_keeps_76 ?_
  refine lv_aload_n hx hb dX13_keeps_79 rfl (lv_at hl 3 rfl) ?_
  refine va_astq hx hb hK hP hD hS 3 1 1 11 rfl rfl rfl rfl (by unfold vp_in; decide) dX13_keeps_80 (fun H locs hP hD hS => ?_)
  have hP : va_P D pv_cl [(h0, .inr (1, pv_m 0 q)), (a0, .inr (11, [.ref b0, .ref b1])), ((q 0), .inl (cI, 60, .inl (upd (fun _ => 0) (0 : Int32).toNatClampNeg p0))), ((q 1), .inl (cT, 60, .inr (.inr (.inr (.inr (va_up (fun _ => none) (0 : Int32).toNatClampNeg (some a0)))))))] _ := hP
  have hD : va_D A [(h0, .inr (1, pv_m 0 q)), (a0, .inr (11, [.ref b0, .ref b1])), ((q 0), .inl (cI, 60, .inl (upd (fun _ => 0) (0 : Int32).toNatClampNeg p0))), ((q 1), .inl (cT, 60, .inr (.inr (.inr (.inr (va_up (fun _ => none) (0 : Int32).toNatClampNeg (some a0)))))))] := hD
  refine lv_aload_n hx hb dX13_keeps_81 rfl (lv_at hl 1 rfl) ?_
  refine lv_dup hx hb dX13_keeps_82 rfl ?_
  refine va_get (own := RX13) (D := D) (ci := 1) (v := .int 0) (C := RX13) (T := TX13) (N := 45) hx hb hts inF13 hown hK hP 0 rfl rfl 2 (by decide) (hg w8_207 rfl) (fun _ h9 => h9) rfl dX13_keeps_83 ?_
  refine lv_iconst (v := 1) hx hb dX13_keeps_86 (by decide) ?_
  refine lv_iadd hx hb dX13_keeps_87 ?_
  refine pv_setI 1 (by decide) ?_
  refine va_put (own := RX13) (D := D) (ci := 1) (v := .int 1) (ty := .int) (C := RX13) (T := TX13) (N := 45) hx hb hts inF13 tyX13 tyX13_ok nmX13 hown hK hP hD hS 0 rfl rfl 2 (by decide) (hg w8_207 rfl) (fun _ h9 => h9) rfl (by decide +kernel) rfl rfl (Nat.le_of_ble_eq_true rfl) dX13_keeps_88 (fun H locs hP hD hS => ?_)
  have hP : va_P D pv_cl [(h0, .inr (1, (pv_m 0 q).set 2 (.int 1))), (a0, .inr (11, [.ref b0, .ref b1])), ((q 0), .inl (cI, 60, .inl (upd (fun _ => 0) (0 : Int32).toNatClampNeg p0))), ((q 1), .inl (cT, 60, .inr (.inr (.inr (.inr (va_up (fun _ => none) (0 : Int32).toNatClampNeg (some a0)))))))] _ := hP
  have hD : va_D A [(h0, .inr (1, (pv_m 0 q).set 2 (.int 1))), (a0, .inr (11, [.ref b0, .ref b1])), ((q 0), .inl (cI, 60, .inl (upd (fun _ => 0) (0 : Int32).toNatClampNeg p0))), ((q 1), .inl (cT, 60, .inr (.inr (.inr (.inr (va_up (fun _ => none) (0 : Int32).toNatClampNeg (some a0)))))))] := hD
  refine lv_aload_n hx hb dX13_keeps_91 rfl (lv_at hl 1 rfl) ?_
  refine va_get (own := RX13) (D := D) (ci := 1) (v := .int 1) (C := RX13) (T := TX13) (N := 45) hx hb hts inF13 hown hK hP 0 rfl rfl 2 (by decide) (hg w8_207 rfl) (fun _ h9 => h9) rfl dX13_keeps_92 ?_
  refine lv_iconst (v := 1) hx hb dX13_keeps_95 (by decide) ?_
  refine lv_isub hx hb dX13_keeps_96 ?_
  refine pv_setI 0 (by decide) ?_
  refine W.widen (k := 0) (n := 0) (Nat.le_of_ble_eq_true rfl) (Nat.le_of_ble_eq_true rfl) ?_
  exact W.iret (v := 0) hx hb hr (fun t ht hW => ⟨⟨0, 0, rfl, ⟨rfl, rfl⟩, (pv_m 0 q).set 2 (.int 1), rfl, (by rw [ht]; exact hP.sub [0] rfl), va_K.moved hW.alike (hK.sub [] rfl), hD.sub [0] (by decide) rfl⟩, hS.F ht⟩) hS.2.2 dX13_keeps_97

theorem dX13_constant_0 : decode cX13_constant 0 = .ok (.aload_n 0, 1) := by decide +kernel
theorem dX13_constant_1 : decode cX13_constant 1 = .ok (.iconst 0, 1) := by decide +kernel
theorem dX13_constant_2 : decode cX13_constant 2 = .ok (.putfield 122, 3) := by decide +kernel
theorem dX13_constant_5 : decode cX13_constant 5 = .ok (.iload_n 1, 1) := by decide +kernel
theorem dX13_constant_6 : decode cX13_constant 6 = .ok (.ifCond .eq 16, 3) := by decide +kernel
theorem dX13_constant_22 : decode cX13_constant 22 = .ok (.aload_n 0, 1) := by decide +kernel
theorem dX13_constant_23 : decode cX13_constant 23 = .ok (.iload_n 1, 1) := by decide +kernel
theorem dX13_constant_24 : decode cX13_constant 24 = .ok (.iconst 0, 1) := by decide +kernel
theorem dX13_constant_25 : decode cX13_constant 25 = .ok (.iload_n 2, 1) := by decide +kernel
theorem dX13_constant_26 : decode cX13_constant 26 = .ok (.i2l, 1) := by decide +kernel
theorem dX13_constant_27 : decode cX13_constant 27 = .ok (.iload_n 1, 1) := by decide +kernel
theorem dX13_constant_28 : decode cX13_constant 28 = .ok (.invokestatic 153, 3) := by decide +kernel
theorem w9_117 : (Jvm.Cond.methodLink "PolyforgeModel" (153 : Nat) ({ cls := "PolyforgeModel", name := "mod", desc := "(JI)J" } : Jvm.MethodName)) ∈ lw_tbl := pv_t9 (pv_mg 117 rfl)
theorem w9_119 : (Jvm.Cond.code ({ cls := "PolyforgeModel", name := "mod", desc := "(JI)J" } : Jvm.MethodName) prog_14_method_17_code (5 : Nat) (Option.some Jvm.ClassFile.FieldType.long)) ∈ lw_tbl := pv_t9 (pv_mg 119 rfl)
theorem w9_118 : (Jvm.Cond.static ({ cls := "PolyforgeModel", name := "mod", desc := "(JI)J" } : Jvm.MethodName)) ∈ lw_tbl := pv_t9 (pv_mg 118 rfl)
theorem dX13_constant_31 : decode cX13_constant 31 = .ok (.invokestatic 209, 3) := by decide +kernel
theorem w9_120 : (Jvm.Cond.methodLink "PolyforgeModel" (209 : Nat) ({ cls := "PolyforgeModel", name := "single", desc := "(IJ)LPolyforgeModel$Terms;" } : Jvm.MethodName)) ∈ lw_tbl := pv_t9 (pv_mg 120 rfl)
theorem w9_122 : (Jvm.Cond.code ({ cls := "PolyforgeModel", name := "single", desc := "(IJ)LPolyforgeModel$Terms;" } : Jvm.MethodName) prog_14_method_20_code (4 : Nat) (Option.some (Jvm.ClassFile.FieldType.object "PolyforgeModel$Terms"))) ∈ lw_tbl := pv_t9 (pv_mg 122 rfl)
theorem w9_121 : (Jvm.Cond.static ({ cls := "PolyforgeModel", name := "single", desc := "(IJ)LPolyforgeModel$Terms;" } : Jvm.MethodName)) ∈ lw_tbl := pv_t9 (pv_mg 121 rfl)
theorem dX13_constant_34 : decode cX13_constant 34 = .ok (.iconst 2, 1) := by decide +kernel
theorem dX13_constant_35 : decode cX13_constant 35 = .ok (.invokevirtual 213, 3) := by decide +kernel
theorem w9_137 : (Jvm.Cond.methodLink "PolyforgeModel" (213 : Nat) ({ cls := "PolyforgeModel", name := "keeps", desc := "(ILPolyforgeModel$Terms;I)I" } : Jvm.MethodName)) ∈ lw_tbl := pv_t9 (pv_mg 137 rfl)
theorem w9_140 : (Jvm.Cond.code ({ cls := "PolyforgeModel", name := "keeps", desc := "(ILPolyforgeModel$Terms;I)I" } : Jvm.MethodName) prog_14_method_22_code (5 : Nat) (Option.some Jvm.ClassFile.FieldType.int)) ∈ lw_tbl := pv_t9 (pv_mg 140 rfl)
theorem wp5_10 : Cond.selects "PolyforgeModel" ⟨"PolyforgeModel", "keeps", "(ILPolyforgeModel$Terms;I)I"⟩ ⟨"PolyforgeModel", "keeps", "(ILPolyforgeModel$Terms;I)I"⟩ ∈ lw_tbl := pv_mg 74 rfl
theorem w9_139 : (Jvm.Cond.instanceMethod ({ cls := "PolyforgeModel", name := "keeps", desc := "(ILPolyforgeModel$Terms;I)I" } : Jvm.MethodName)) ∈ lw_tbl := pv_t9 (pv_mg 139 rfl)
theorem dX13_constant_38 : decode cX13_constant 38 = .ok (.ireturn, 1) := by decide +kernel
theorem dX13_constant_9 : decode cX13_constant 9 = .ok (.iload_n 1, 1) := by decide +kernel
theorem dX13_constant_10 : decode cX13_constant 10 = .ok (.invokestatic 206, 3) := by decide +kernel
theorem w9_110 : (Jvm.Cond.methodLink "PolyforgeModel" (206 : Nat) ({ cls := "PolyforgeModel", name := "isPrime", desc := "(I)Z" } : Jvm.MethodName)) ∈ lw_tbl := pv_t9 (pv_mg 110 rfl)
theorem w9_112 : (Jvm.Cond.code ({ cls := "PolyforgeModel", name := "isPrime", desc := "(I)Z" } : Jvm.MethodName) prog_14_method_5_code (1 : Nat) (Option.some Jvm.ClassFile.FieldType.boolean)) ∈ lw_tbl := pv_t9 (pv_mg 112 rfl)
theorem w9_111 : (Jvm.Cond.static ({ cls := "PolyforgeModel", name := "isPrime", desc := "(I)Z" } : Jvm.MethodName)) ∈ lw_tbl := pv_t9 (pv_mg 111 rfl)
theorem dX13_constant_13 : decode cX13_constant 13 = .ok (.ifCond .ne 9, 3) := by decide +kernel
theorem dX13_constant_16 : decode cX13_constant 16 = .ok (.aload_n 0, 1) := by decide +kernel
theorem dX13_constant_17 : decode cX13_constant 17 = .ok (.iconst 1, 1) := by decide +kernel
theorem dX13_constant_18 : decode cX13_constant 18 = .ok (.invokevirtual 185, 3) := by decide +kernel
theorem w9_113 : (Jvm.Cond.methodLink "PolyforgeModel" (185 : Nat) ({ cls := "PolyforgeModel", name := "fails", desc := "(I)I" } : Jvm.MethodName)) ∈ lw_tbl := pv_t9 (pv_mg 113 rfl)
theorem w9_116 : (Jvm.Cond.code ({ cls := "PolyforgeModel", name := "fails", desc := "(I)I" } : Jvm.MethodName) prog_14_method_4_code (2 : Nat) (Option.some Jvm.ClassFile.FieldType.int)) ∈ lw_tbl := pv_t9 (pv_mg 116 rfl)
theorem wp5_9 : Cond.selects "PolyforgeModel" ⟨"PolyforgeModel", "fails", "(I)I"⟩ ⟨"PolyforgeModel", "fails", "(I)I"⟩ ∈ lw_tbl := pv_mg 73 rfl
theorem w9_115 : (Jvm.Cond.instanceMethod ({ cls := "PolyforgeModel", name := "fails", desc := "(I)I" } : Jvm.MethodName)) ∈ lw_tbl := pv_t9 (pv_mg 115 rfl)
theorem dX13_constant_21 : decode cX13_constant 21 = .ok (.ireturn, 1) := by decide +kernel
set_option maxHeartbeats 4000000 in
set_option maxRecDepth 100000 in
/-- constant on a fresh object -/
theorem c_X13_constant (l : Launch) (hfl : l.stackTraces = false) (D : va_G) (sz : Nat) (h0 : Nat) (q : Nat → Nat) (cI cT : ClassId) (p0 p1 : Int32) : Met l yX13_constant (Cond.code yX13_constant cX13_constant 3 (some .int) :: pv_W) ({ frames := 3, cells := 3, slots := 4, locals := 84 } : Room) (va_Pc [.ref h0, .int p0, .int p1] (pv_P D [(cI, .int), (cT, .object "PolyforgeModel$Terms")] [(h0, .inr (1, pv_m 0 q)), ((q 0), .inl (cI, 60, .inl (fun _ => 0))), ((q 1), .inl (cT, 60, .inr (.inr (.inr (.inr (fun _ => none))))))] (va_A [(h0, .inr (1, pv_m 0 q)), ((q 0), .inl (cI, 60, .inl (fun _ => 0))), ((q 1), .inl (cT, 60, .inr (.inr (.inr (.inr (fun _ => none))))))] sz) sz)) (va_Qi (fun r (u : Int32) => (u = 0 ∧ r = 0 ∧ (p0 = 0 ∨ pv_pr p0)) ∨ (u = 1 ∧ ¬ (p0 = 0 ∨ pv_pr p0))) (fun (u : Int32) t => ∃ fs : List Value, fs[0]? = some (.int u) ∧ va_P D pv_cl [(h0, .inr (1, fs))] t.heap ∧ va_K D pv_cl [] t ∧ va_D (va_A [(h0, .inr (1, pv_m 0 q)), ((q 0), .inl (cI, 60, .inl (fun _ => 0))), ((q 1), .inl (cT, 60, .inr (.inr (.inr (.inr (fun _ => none))))))] sz) [(h0, .inr (1, fs))]) (va_A [(h0, .inr (1, pv_m 0 q)), ((q 0), .inl (cI, 60, .inl (fun _ => 0))), ((q 1), .inl (cT, 60, .inr (.inr (.inr (.inr (fun _ => none))))))] sz)) 3 4 (va_A [(h0, .inr (1, pv_m 0 q)), ((q 0), .inl (cI, 60, .inl (fun _ => 0))), ((q 1), .inl (cT, 60, .inr (.inr (.inr (.inr (fun _ => none))))))] sz) := by
  refine Met.ofW (cc := cX13_constant) (maxL := 3) (ret := (some .int)) (by decide) rfl ?_
  intro p e s m args below meth c s₁ B hml hv
  obtain ⟨rfl, hsz, hE, hP, hK, hD0⟩ := hv
  have hx := B.exec
  have hb := B.bytes
  have hr := B.returns
  have hts := fun (w : Cond) (h : w ∈ pv_W) => atoms_spec (ws := Cond.code yX13_constant cX13_constant 3 (some .int) :: pv_W) B.pre w (List.mem_cons_of_mem _ h)
  have hg := fun {w : Cond} (h : w ∈ lw_tbl) (g : goodWord w = true) => hts w (pv_in h g)
  have hown : s.vm.findClass RX13 = some m.cls := findClass_of_methodNamed B.named
  have hlocks := B.notSynchronized
  subst hsz
  have hD := hD0.self (sz := s.heap.size)
  generalize hAe : va_A [(h0, .inr (1, pv_m 0 q)), ((q 0), .inl (cI, 60, .inl (fun _ => 0))), ((q 1), .inl (cT, 60, .inr (.inr (.inr (.inr (fun _ => none))))))] s.heap.size = A at hD hE ⊢
  have hA : ∀ q : Nat, s.heap.size ≤ q → A q := fun q h => by rw [← hAe]; exact Or.inr h
  have hS : va_S A s.heap s.heap [] := va_S.rf
  have hP : va_P D pv_cl [(h0, .inr (1, pv_m 0 q)), ((q 0), .inl (cI, 60, .inl (fun _ => 0))), ((q 1), .inl (cT, 60, .inr (.inr (.inr (.inr (fun _ => none))))))] s.heap := hP
  have hl := lv_entry ([.ref h0, .int p0, .int p1]) (n := 3) (Nat.le_of_ble_eq_true rfl)
  rw [lg_entry_eq]
  generalize (lg_sl ([.ref h0, .int p0, .int p1]) ++ List.replicate (3 - (lg_sl ([.ref h0, .int p0, .int p1])).length) Slot.unset).toArray = ls at hl ⊢
  have hl : lv_has ls 3 [(0, .ref h0), (1, .int p0), (2, .int p1)] := hl
  refine lv_aload_n hx hb dX13_constant_0 rfl (lv_at hl 0 rfl) ?_
  refine lv_iconst (v := 0) hx hb dX13_constant_1 (by decide) ?_
  refine va_put (own := RX13) (D := D) (ci := 1) (v := .int 0) (ty := .int) (C := RX13) (T := TX13) (N := 45) hx hb hts inF13 tyX13 tyX13_ok nmX13 hown hK hP hD hS 0 rfl rfl 0 (by decide) (hg w8_205 rfl) (fun _ h9 => h9) rfl (by decide +kernel) rfl rfl (Nat.le_of_ble_eq_true rfl) dX13_constant_2 (fun H locs hP hD hS => ?_)
  have hP : va_P D pv_cl [(h0, .inr (1, pv_m 0 q)), ((q 0), .inl (cI, 60, .inl (fun _ => 0))), ((q 1), .inl (cT, 60, .inr (.inr (.inr (.inr (fun _ => none))))))] _ := hP
  have hD : va_D A [(h0, .inr (1, pv_m 0 q)), ((q 0), .inl (cI, 60, .inl (fun _ => 0))), ((q 1), .inl (cT, 60, .inr (.inr (.inr (.inr (fun _ => none))))))] := hD
  refine lv_iload_n hx hb dX13_constant_5 rfl (lv_at hl 1 rfl) ?_
  refine lv_if_eq (tgt := 22) hx hb dX13_constant_6 (by decide) (fun c_1 => ?_) (fun c_1 => ?_)
  · refine lv_aload_n hx hb dX13_constant_22 rfl (lv_at hl 0 rfl) ?_
    refine lv_iload_n hx hb dX13_constant_23 rfl (lv_at hl 1 rfl) ?_
    refine lv_iconst (v := 0) hx hb dX13_constant_24 (by decide) ?_
    refine lv_iload_n hx hb dX13_constant_25 rfl (lv_at hl 2 rfl) ?_
    refine lv_i2l hx hb dX13_constant_26 rfl ?_
    refine lv_iload_n hx hb dX13_constant_27 rfl (lv_at hl 1 rfl) ?_
    have hF := pv_new hA hS.1
    refine va_calll (va_runS (As := [.long p1.toInt64, .int p0]) (rest := [.int 0, .int p0, .ref h0]) ⟨hx, hb, hml, hown, hts⟩ (c_X13_mod l hfl D _ p1.toInt64 p0) (va_cwS 2 hts (pv_gS w9_117 w9_118 w1_10 w9_119) rfl rfl rfl (by decide +kernel) ⟨Nat.le_of_ble_eq_true rfl, Nat.le_of_ble_eq_true rfl⟩) (pv_ps hE hS hF (hP.sub [] rfl) (hK.sub [] rfl) (hD.sub [] (by decide) rfl)) rfl rfl hl.1 rfl (lv_room (Nat.le_of_ble_eq_true rfl)) dX13_constant_28 ⟨Nat.le_of_ble_eq_true rfl, Nat.le_of_ble_eq_true rfl⟩) hS (fun q _ h => hF q h) hF (fun r_1 u t H1 locs1 ht hvm hw hB hz1 hk1 hS => ?_)
    refine W.widen (k := 0) (n := 0) (Nat.le_of_ble_eq_true rfl) (Nat.le_of_ble_eq_true rfl) ?_
    have hP := pv_keep hP rfl hk1
    have hF := va_free (wc := []) hD hS hA [] rfl
    refine va_callr (va_runS (As := [.int 0, .long r_1]) (rest := [.int p0, .ref h0]) ⟨hx, hb, hml, hown, hts⟩ (c_X13_single l hfl D _ 0 r_1) (va_cwS 2 hts (pv_gS w9_120 w9_121 w1_10 w9_122) rfl rfl rfl (by decide +kernel) ⟨Nat.le_of_ble_eq_true rfl, Nat.le_of_ble_eq_true rfl⟩) (pv_ps hE hS hF (hP.sub [] rfl) (hK.sub [] rfl) (hD.sub [] (by decide) rfl)) rfl rfl hl.1 rfl (lv_room (Nat.le_of_ble_eq_true rfl)) dX13_constant_31 ⟨Nat.le_of_ble_eq_true rfl, Nat.le_of_ble_eq_true rfl⟩) hS (fun q _ h => hF q h) hF (fun u ra_2 t H1 locs1 ht hvm hw hB hz1 hk1 hS => ?_)
    refine W.widen (k := 3) (n := 4) (Nat.le_of_ble_eq_true rfl) (Nat.le_of_ble_eq_true rfl) ?_
    obtain ⟨b_4, c_5, hP1, hK1, hD1⟩ := hB
    rw [ht] at hP1
    have hK1 := va_K.moved hvm.symm hK1
    obtain ⟨hP, hD⟩ := va_join (wr := [(h0, .inr (1, pv_m 0 q)), ((q 0), .inl (cI, 60, .inl (fun _ => 0))), ((q 1), .inl (cT, 60, .inr (.inr (.inr (.inr (fun _ => none))))))]) (w1 := [(ra_2, .inr (11, [.ref b_4, .ref c_5]))]) hP hD [] [0, 1, 2] rfl rfl (by decide) (by decide) hk1 hF hP1 hD1
    have hP : va_P D pv_cl [(h0, .inr (1, pv_m 0 q)), ((q 0), .inl (cI, 60, .inl (fun _ => 0))), ((q 1), .inl (cT, 60, .inr (.inr (.inr (.inr (fun _ => none)))))), (ra_2, .inr (11, [.ref b_4, .ref c_5]))] _ := hP
    have hD : va_D A [(h0, .inr (1, pv_m 0 q)), ((q 0), .inl (cI, 60, .inl (fun _ => 0))), ((q 1), .inl (cT, 60, .inr (.inr (.inr (.inr (fun _ => none)))))), (ra_2, .inr (11, [.ref b_4, .ref c_5]))] := hD
    refine lv_iconst (v := 2) hx hb dX13_constant_34 (by decide) ?_
    have hF := va_free (wc := [(h0, .inr (1, pv_m 0 q)), (ra_2, .inr (11, [.ref b_4, .ref c_5])), ((q 0), .inl (cI, 60, .inl (fun _ => 0))), ((q 1), .inl (cT, 60, .inr (.inr (.inr (.inr (fun _ => none))))))]) hD hS hA [0, 3, 1, 2] rfl
    refine va_calli (va_runV (As := [.int p0, .ref ra_2, .int 2]) (rest := []) ⟨hx, hb, hml, hown, hts⟩ (c_X13_keeps l hfl D _ h0 q cI cT ra_2 b_4 c_5 p0 2) (cwV 3 hts (pv_gV w9_137 w9_139 wp5_10 w1_10 w9_140) rfl rfl rfl (by decide +kernel) ⟨Nat.le_of_ble_eq_true rfl, Nat.le_of_ble_eq_true rfl⟩) (pv_pV hE hS hF (hP.sub [0, 3, 1, 2] rfl) (hK.sub [0, 1] rfl) (hD.sub [0, 3, 1, 2] (by decide) rfl) (va_recv (ci := 1) (q0 := 0) hK hP rfl rfl)) rfl rfl hl.1 rfl (lv_room (Nat.le_of_ble_eq_true rfl)) dX13_constant_35 ⟨Nat.le_of_ble_eq_true rfl, Nat.le_of_ble_eq_true rfl⟩) hS (fun q _ h => hF q h) hF (fun r_5 u t H1 locs1 ht hvm hw hB hz1 hk1 hS => ?_)
    refine W.widen (k := 3) (n := 4) (Nat.le_of_ble_eq_true rfl) (Nat.le_of_ble_eq_true rfl) ?_
    obtain ⟨rfl, hw⟩ := hw
    subst hw
    obtain ⟨fs_7, hf_8, hP1, hK1, hD1⟩ := hB
    rw [ht] at hP1
    have hK1 := va_K.moved hvm.symm hK1
    obtain ⟨hP, hD⟩ := va_join (wr := []) (w1 := [(h0, .inr (1, fs_7))]) hP hD [0, 3, 1, 2] [] rfl rfl (by decide) (by decide) hk1 hF hP1 hD1
    have hP : va_P D pv_cl [(h0, .inr (1, fs_7))] _ := hP
    have hD : va_D A [(h0, .inr (1, fs_7))] := hD
    refine W.widen (k := 3) (n := 4) (Nat.le_of_ble_eq_true rfl) (Nat.le_of_ble_eq_true rfl) ?_
    exact W.iret (v := 0) hx hb hr (fun t ht hW => ⟨⟨0, 0, rfl, Or.inl ⟨rfl, rfl, Or.inl c_1⟩, fs_7, hf_8, (by rw [ht]; exact hP.sub [0] rfl), va_K.moved hW.alike (hK.sub [] rfl), hD.sub [0] (by decide) rfl⟩, hS.F ht⟩) hS.2.2 dX13_constant_38
  · refine lv_iload_n hx hb dX13_constant_9 rfl (lv_at hl 1 rfl) ?_
    have hF := pv_new hA hS.1
    refine va_calli (va_runS (As := [.int p0]) (rest := []) ⟨hx, hb, hml, hown, hts⟩ (c_X13_isPrime l hfl D _ p0) (va_cwS 1 hts (pv_gS w9_110 w9_111 w1_10 w9_112) rfl rfl rfl (by decide +kernel) ⟨Nat.le_of_ble_eq_true rfl, Nat.le_of_ble_eq_true rfl⟩) (pv_ps hE hS hF (hP.sub [] rfl) (hK.sub [] rfl) (hD.sub [] (by decide) rfl)) rfl rfl hl.1 rfl (lv_room (Nat.le_of_ble_eq_true rfl)) dX13_constant_10 ⟨Nat.le_of_ble_eq_true rfl, Nat.le_of_ble_eq_true rfl⟩) hS (fun q _ h => hF q h) hF (fun r_8 u t H1 locs1 ht hvm hw hB hz1 hk1 hS => ?_)
    refine W.widen (k := 0) (n := 0) (Nat.le_of_ble_eq_true rfl) (Nat.le_of_ble_eq_true rfl) ?_
    have hP := pv_keep hP rfl hk1
    rcases hw with ⟨rfl, a_10⟩ | ⟨rfl, a_10⟩
    · refine lv_if_ne (tgt := 22) hx hb dX13_constant_13 (by decide) (fun _ => ?_) (fun c_11 => absurd c_11 (by decide))
      refine lv_aload_n hx hb dX13_constant_22 rfl (lv_at hl 0 rfl) ?_
      refine lv_iload_n hx hb dX13_constant_23 rfl (lv_at hl 1 rfl) ?_
      refine lv_iconst (v := 0) hx hb dX13_constant_24 (by decide) ?_
      refine lv_iload_n hx hb dX13_constant_25 rfl (lv_at hl 2 rfl) ?_
      refine lv_i2l hx hb dX13_constant_26 rfl ?_
      refine lv_iload_n hx hb dX13_constant_27 rfl (lv_at hl 1 rfl) ?_
      have hF := pv_new hA hS.1
      refine va_calll (va_runS (As := [.long p1.toInt64, .int p0]) (rest := [.int 0, .int p0, .ref h0]) ⟨hx, hb, hml, hown, hts⟩ (c_X13_mod l hfl D _ p1.toInt64 p0) (va_cwS 2 hts (pv_gS w9_117 w9_118 w1_10 w9_119) rfl rfl rfl (by decide +kernel) ⟨Nat.le_of_ble_eq_true rfl, Nat.le_of_ble_eq_true rfl⟩) (pv_ps hE hS hF (hP.sub [] rfl) (hK.sub [] rfl) (hD.sub [] (by decide) rfl)) rfl rfl hl.1 rfl (lv_room (Nat.le_of_ble_eq_true rfl)) dX13_constant_28 ⟨Nat.le_of_ble_eq_true rfl, Nat.le_of_ble_eq_true rfl⟩) hS (fun q _ h => hF q h) hF (fun r_11 u t H1 locs1 ht hvm hw hB hz1 hk1 hS => ?_)
      refine W.widen (k := 0) (n := 0) (Nat.le_of_ble_eq_true rfl) (Nat.le_of_ble_eq_true rfl) ?_
      have hP := pv_keep hP rfl hk1
      have hF := va_free (wc := []) hD hS hA [] rfl
      refine va_callr (va_runS (As := [.int 0, .long r_11]) (rest := [.int p0, .ref h0]) ⟨hx, hb, hml, hown, hts⟩ (c_X13_single l hfl D _ 0 r_11) (va_cwS 2 hts (pv_gS w9_120 w9_121 w1_10 w9_122) rfl rfl rfl (by decide +kernel) ⟨Nat.le_of_ble_eq_true rfl, Nat.le_of_ble_eq_true rfl⟩) (pv_ps hE hS hF (hP.sub [] rfl) (hK.sub [] rfl) (hD.sub [] (by decide) rfl)) rfl rfl hl.1 rfl (lv_room (Nat.le_of_ble_eq_true rfl)) dX13_constant_31 ⟨Nat.le_of_ble_eq_true rfl, Nat.le_of_ble_eq_true rfl⟩) hS (fun q _ h => hF q h) hF (fun u ra_12 t H1 locs1 ht hvm hw hB hz1 hk1 hS => ?_)
      refine W.widen (k := 3) (n := 4) (Nat.le_of_ble_eq_true rfl) (Nat.le_of_ble_eq_true rfl) ?_
      obtain ⟨b_14, c_15, hP1, hK1, hD1⟩ := hB
      rw [ht] at hP1
      have hK1 := va_K.moved hvm.symm hK1
      obtain ⟨hP, hD⟩ := va_join (wr := [(h0, .inr (1, pv_m 0 q)), ((q 0), .inl (cI, 60, .inl (fun _ => 0))), ((q 1), .inl (cT, 60, .inr (.inr (.inr (.inr (fun _ => none))))))]) (w1 := [(ra_12, .inr (11, [.ref b_14, .ref c_15]))]) hP hD [] [0, 1, 2] rfl rfl (by decide) (by decide) hk1 hF hP1 hD1
      have hP : va_P D pv_cl [(h0, .inr (1, pv_m 0 q)), ((q 0), .inl (cI, 60, .inl (fun _ => 0))), ((q 1), .inl (cT, 60, .inr (.inr (.inr (.inr (fun _ => none)))))), (ra_12, .inr (11, [.ref b_14, .ref c_15]))] _ := hP
      have hD : va_D A [(h0, .inr (1, pv_m 0 q)), ((q 0), .inl (cI, 60, .inl (fun _ => 0))), ((q 1), .inl (cT, 60, .inr (.inr (.inr (.inr (fun _ => none)))))), (ra_12, .inr (11, [.ref b_14, .ref c_15]))] := hD
      refine lv_iconst (v := 2) hx hb dX13_constant_34 (by decide) ?_
      have hF := va_free (wc := [(h0, .inr (1, pv_m 0 q)), (ra_12, .inr (11, [.ref b_14, .ref c_15])), ((q 0), .inl (cI, 60, .inl (fun _ => 0))), ((q 1), .inl (cT, 60, .inr (.inr (.inr (.inr (fun _ => none))))))]) hD hS hA [0, 3, 1, 2] rfl
      refine va_calli (va_runV (As := [.int p0, .ref ra_12, .int 2]) (rest := []) ⟨hx, hb, hml, hown, hts⟩ (c_X13_keeps l hfl D _ h0 q cI cT ra_12 b_14 c_15 p0 2) (cwV 3 hts (pv_gV w9_137 w9_139 wp5_10 w1_10 w9_140) rfl rfl rfl (by decide +kernel) ⟨Nat.le_of_ble_eq_true rfl, Nat.le_of_ble_eq_true rfl⟩) (pv_pV hE hS hF (hP.sub [0, 3, 1, 2] rfl) (hK.sub [0, 1] rfl) (hD.sub [0, 3, 1, 2] (by decide) rfl) (va_recv (ci := 1) (q0 := 0) hK hP rfl rfl)) rfl rfl hl.1 rfl (lv_room (Nat.le_of_ble_eq_true rfl)) dX13_constant_35 ⟨Nat.le_of_ble_eq_true rfl, Nat.le_of_ble_eq_true rfl⟩) hS (fun q _ h => hF q h) hF (fun r_15 u t H1 locs1 ht hvm hw hB hz1 hk1 hS => ?_)
      refine W.widen (k := 3) (n := 4) (Nat.le_of_ble_eq_true rfl) (Nat.le_of_ble_eq_true rfl) ?_
      obtain ⟨rfl, hw⟩ := hw
      subst hw
      obtain ⟨fs_17, hf_18, hP1, hK1, hD1⟩ := hB
      rw [ht] at hP1
      have hK1 := va_K.moved hvm.symm hK1
      obtain ⟨hP, hD⟩ := va_join (wr := []) (w1 := [(h0, .inr (1, fs_17))]) hP hD [0, 3, 1, 2] [] rfl rfl (by decide) (by decide) hk1 hF hP1 hD1
      have hP : va_P D pv_cl [(h0, .inr (1, fs_17))] _ := hP
      have hD : va_D A [(h0, .inr (1, fs_17))] := hD
      refine W.widen (k := 3) (n := 4) (Nat.le_of_ble_eq_true rfl) (Nat.le_of_ble_eq_true rfl) ?_
      exact W.iret (v := 0) hx hb hr (fun t ht hW => ⟨⟨0, 0, rfl, Or.inl ⟨rfl, rfl, Or.inr a_10⟩, fs_17, hf_18, (by rw [ht]; exact hP.sub [0] rfl), va_K.moved hW.alike (hK.sub [] rfl), hD.sub [0] (by decide) rfl⟩, hS.F ht⟩) hS.2.2 dX13_constant_38
    · refine lv_if_ne (tgt := 22) hx hb dX13_constant_13 (by decide) (fun c_19 => absurd (by decide) c_19) (fun _ => ?_)
      refine lv_aload_n hx hb dX13_constant_16 rfl (lv_at hl 0 rfl) ?_
      refine lv_iconst (v := 1) hx hb dX13_constant_17 (by decide) ?_
      have hF := va_free (wc := [(h0, .inr (1, pv_m 0 q))]) hD hS hA [0] rfl
      refine va_calli (va_runV (As := [.int 1]) (rest := []) ⟨hx, hb, hml, hown, hts⟩ (c_X13_fails l hfl D _ h0 q 1) (cwV 1 hts (pv_gV w9_113 w9_115 wp5_9 w1_10 w9_116) rfl rfl rfl (by decide +kernel) ⟨Nat.le_of_ble_eq_true rfl, Nat.le_of_ble_eq_true rfl⟩) (pv_pV hE hS hF (hP.sub [0] rfl) (hK.sub [] rfl) (hD.sub [0] (by decide) rfl) (va_recv (ci := 1) (q0 := 0) hK hP rfl rfl)) rfl rfl hl.1 rfl (lv_room (Nat.le_of_ble_eq_true rfl)) dX13_constant_18 ⟨Nat.le_of_ble_eq_true rfl, Nat.le_of_ble_eq_true rfl⟩) hS (fun q _ h => hF q h) hF (fun r_19 u t H1 locs1 ht hvm hw hB hz1 hk1 hS => ?_)
      refine W.widen (k := 0) (n := 0) (Nat.le_of_ble_eq_true rfl) (Nat.le_of_ble_eq_true rfl) ?_
      obtain rfl := hw
      obtain ⟨hP1, hK1, hD1⟩ := hB
      rw [ht] at hP1
      have hK1 := va_K.moved hvm.symm hK1
      obtain ⟨hP, hD⟩ := va_join (wr := [((q 0), .inl (cI, 60, .inl (fun _ => 0))), ((q 1), .inl (cT, 60, .inr (.inr (.inr (.inr (fun _ => none))))))]) (w1 := [(h0, .inr (1, pv_m 1 q))]) hP hD [0] [1, 2] rfl rfl (by decide) (by decide) hk1 hF hP1 hD1
      have hP : va_P D pv_cl [((q 0), .inl (cI, 60, .inl (fun _ => 0))), ((q 1), .inl (cT, 60, .inr (.inr (.inr (.inr (fun _ => none)))))), (h0, .inr (1, pv_m 1 q))] _ := hP
      have hD : va_D A [((q 0), .inl (cI, 60, .inl (fun _ => 0))), ((q 1), .inl (cT, 60, .inr (.inr (.inr (.inr (fun _ => none)))))), (h0, .inr (1, pv_m 1 q))] := hD
      refine W.widen (k := 3) (n := 4) (Nat.le_of_ble_eq_true rfl) (Nat.le_of_ble_eq_true rfl) ?_
      exact W.iret (v := 0) hx hb hr (fun t ht hW => ⟨⟨0, 1, rfl, Or.inr ⟨rfl, pv_no2 c_1 a_10⟩, pv_m 1 q, rfl, (by rw [ht]; exact hP.sub [2] rfl), va_K.moved hW.alike (hK.sub [] rfl), hD.sub [2] (by decide) rfl⟩, hS.F ht⟩) hS.2.2 dX13_constant_21

theorem dX13_variable_0 : decode cX13_variable 0 = .ok (.aload_n 0, 1) := by decide +kernel
theorem dX13_variable_1 : decode cX13_variable 1 = .ok (.iconst 0, 1) := by decide +kernel
theorem dX13_variable_2 : decode cX13_variable 2 = .ok (.putfield 122, 3) := by decide +kernel
theorem dX13_variable_5 : decode cX13_variable 5 = .ok (.iload_n 1, 1) := by decide +kernel
theorem dX13_variable_6 : decode cX13_variable 6 = .ok (.ifCond .eq 10, 3) := by decide +kernel
theorem dX13_variable_16 : decode cX13_variable 16 = .ok (.iload_n 2, 1) := by decide +kernel
theorem dX13_variable_17 : decode cX13_variable 17 = .ok (.iconst 0, 1) := by decide +kernel
theorem dX13_variable_18 : decode cX13_variable 18 = .ok (.iconst 2, 1) := by decide +kernel
theorem dX13_variable_19 : decode cX13_variable 19 = .ok (.invokestatic 128, 3) := by decide +kernel
theorem dX13_variable_22 : decode cX13_variable 22 = .ok (.ifCond .ne 9, 3) := by decide +kernel
theorem dX13_variable_31 : decode cX13_variable 31 = .ok (.aload_n 0, 1) := by decide +kernel
theorem dX13_variable_32 : decode cX13_variable 32 = .ok (.iload_n 1, 1) := by decide +kernel
theorem dX13_variable_33 : decode cX13_variable 33 = .ok (.iload_n 2, 1) := by decide +kernel
theorem dX13_variable_34 : decode cX13_variable 34 = .ok (.ifCond .ne 8, 3) := by decide +kernel
theorem dX13_variable_42 : decode cX13_variable 42 = .ok (.iload_n 2, 1) := by decide +kernel
theorem dX13_variable_43 : decode cX13_variable 43 = .ok (.iconst 1, 1) := by decide +kernel
theorem dX13_variable_44 : decode cX13_variable 44 = .ok (.if_icmp .ne 9, 3) := by decide +kernel
theorem dX13_variable_53 : decode cX13_variable 53 = .ok (.iconst 1, 1) := by decide +kernel
theorem dX13_variable_54 : decode cX13_variable 54 = .ok (.lconst 1, 1) := by decide +kernel
theorem dX13_variable_55 : decode cX13_variable 55 = .ok (.invokestatic 209, 3) := by decide +kernel
theorem dX13_variable_58 : decode cX13_variable 58 = .ok (.iconst 2, 1) := by decide +kernel
theorem dX13_variable_59 : decode cX13_variable 59 = .ok (.invokevirtual 213, 3) := by decide +kernel
theorem dX13_variable_62 : decode cX13_variable 62 = .ok (.ireturn, 1) := by decide +kernel
theorem dX13_variable_47 : decode cX13_variable 47 = .ok (.sipush 1024, 3) := by decide +kernel
theorem dX13_variable_50 : decode cX13_variable 50 = .ok (.goto 4, 3) := by decide +kernel
theorem dX13_variable_37 : decode cX13_variable 37 = .ok (.ldc 217, 2) := by decide +kernel
theorem w9_155 : (Jvm.Cond.constant "PolyforgeModel" (217 : Nat) (1048576 : Int32)) ∈ lw_tbl := pv_t9 (pv_mg 155 rfl)
theorem dX13_variable_39 : decode cX13_variable 39 = .ok (.goto 15, 3) := by decide +kernel
theorem dX13_variable_25 : decode cX13_variable 25 = .ok (.aload_n 0, 1) := by decide +kernel
theorem dX13_variable_26 : decode cX13_variable 26 = .ok (.iconst 1, 1) := by decide +kernel
theorem dX13_variable_27 : decode cX13_variable 27 = .ok (.invokevirtual 185, 3) := by decide +kernel
theorem dX13_variable_30 : decode cX13_variable 30 = .ok (.ireturn, 1) := by decide +kernel
theorem dX13_variable_9 : decode cX13_variable 9 = .ok (.iload_n 1, 1) := by decide +kernel
theorem dX13_variable_10 : decode cX13_variable 10 = .ok (.invokestatic 206, 3) := by decide +kernel
theorem dX13_variable_13 : decode cX13_variable 13 = .ok (.ifCond .eq 12, 3) := by decide +kernel
set_option maxHeartbeats 4000000 in
set_option maxRecDepth 100000 in
/-- variable on a fresh object -/
theorem c_X13_variable (l : Launch) (hfl : l.stackTraces = false) (D : va_G) (sz : Nat) (h0 : Nat) (q : Nat → Nat) (cI cT : ClassId) (p0 p1 : Int32) : Met l yX13_variable (Cond.code yX13_variable cX13_variable 3 (some .int) :: pv_W) ({ frames := 3, cells := 3, slots := 4, locals := 84 } : Room) (va_Pc [.ref h0, .int p0, .int p1] (pv_P D [(cI, .int), (cT, .object "PolyforgeModel$Terms")] [(h0, .inr (1, pv_m 0 q)), ((q 0), .inl (cI, 60, .inl (fun _ => 0))), ((q 1), .inl (cT, 60, .inr (.inr (.inr (.inr (fun _ => none))))))] (va_A [(h0, .inr (1, pv_m 0 q)), ((q 0), .inl (cI, 60, .inl (fun _ => 0))), ((q 1), .inl (cT, 60, .inr (.inr (.inr (.inr (fun _ => none))))))] sz) sz)) (va_Qi (fun r (u : Int32) => (u = 0 ∧ r = 0 ∧ ((p0 = 0 ∨ pv_pr p0) ∧ pv_vr p1)) ∨ (u = 1 ∧ ¬ ((p0 = 0 ∨ pv_pr p0) ∧ pv_vr p1))) (fun (u : Int32) t => ∃ fs : List Value, fs[0]? = some (.int u) ∧ va_P D pv_cl [(h0, .inr (1, fs))] t.heap ∧ va_K D pv_cl [] t ∧ va_D (va_A [(h0, .inr (1, pv_m 0 q)), ((q 0), .inl (cI, 60, .inl (fun _ => 0))), ((q 1), .inl (cT, 60, .inr (.inr (.inr (.inr (fun _ => none))))))] sz) [(h0, .inr (1, fs))]) (va_A [(h0, .inr (1, pv_m 0 q)), ((q 0), .inl (cI, 60, .inl (fun _ => 0))), ((q 1), .inl (cT, 60, .inr (.inr (.inr (.inr (fun _ => none))))))] sz)) 3 4 (va_A [(h0, .inr (1, pv_m 0 q)), ((q 0), .inl (cI, 60, .inl (fun _ => 0))), ((q 1), .inl (cT, 60, .inr (.inr (.inr (.inr (fun _ => none))))))] sz) := by
  refine Met.ofW (cc := cX13_variable) (maxL := 3) (ret := (some .int)) (by decide) rfl ?_
  intro p e s m args below meth c s₁ B hml hv
  obtain ⟨rfl, hsz, hE, hP, hK, hD0⟩ := hv
  have hx := B.exec
  have hb := B.bytes
  have hr := B.returns
  have hts := fun (w : Cond) (h : w ∈ pv_W) => atoms_spec (ws := Cond.code yX13_variable cX13_variable 3 (some .int) :: pv_W) B.pre w (List.mem_cons_of_mem _ h)
  have hg := fun {w : Cond} (h : w ∈ lw_tbl) (g : goodWord w = true) => hts w (pv_in h g)
  have hown : s.vm.findClass RX13 = some m.cls := findClass_of_methodNamed B.named
  have hlocks := B.notSynchronized
  subst hsz
  have hD := hD0.self (sz := s.heap.size)
  generalize hAe : va_A [(h0, .inr (1, pv_m 0 q)), ((q 0), .inl (cI, 60, .inl (fun _ => 0))), ((q 1), .inl (cT, 60, .inr (.inr (.inr (.inr (fun _ => none))))))] s.heap.size = A at hD hE ⊢
  have hA : ∀ q : Nat, s.heap.size ≤ q → A q := fun q h => by rw [← hAe]; exact Or.inr h
  have hS : va_S A s.heap s.heap [] := va_S.rf
  have hP : va_P D pv_cl [(h0, .inr (1, pv_m 0 q)), ((q 0), .inl (cI, 60, .inl (fun _ => 0))), ((q 1), .inl (cT, 60, .inr (.inr (.inr (.inr (fun _ => none))))))] s.heap := hP
  have hl := lv_entry ([.ref h0, .int p0, .int p1]) (n := 3) (Nat.le_of_ble_eq_true rfl)
  rw [lg_entry_eq]
  generalize (lg_sl ([.ref h0, .int p0, .int p1]) ++ List.replicate (3 - (lg_sl ([.ref h0, .int p0, .int p1])).length) Slot.unset).toArray = ls at hl ⊢
  have hl : lv_has ls 3 [(0, .ref h0), (1, .int p0), (2, .int p1)] := hl
  refine lv_aload_n hx hb dX13_variable_0 rfl (lv_at hl 0 rfl) ?_
  refine lv_iconst (v := 0) hx hb dX13_variable_1 (by decide) ?_
  refine va_put (own := RX13) (D := D) (ci := 1) (v := .int 0) (ty := .int) (C := RX13) (T := TX13) (N := 45) hx hb hts inF13 tyX13 tyX13_ok nmX13 hown hK hP hD hS 0 rfl rfl 0 (by decide) (hg w8_205 rfl) (fun _ h9 => h9) rfl (by decide +kernel) rfl rfl (Nat.le_of_ble_eq_true rfl) dX13_variable_2 (fun H locs hP hD hS => ?_)
  have hP : va_P D pv_cl [(h0, .inr (1, pv_m 0 q)), ((q 0), .inl (cI, 60, .inl (fun _ => 0))), ((q 1), .inl (cT, 60, .inr (.inr (.inr (.inr (fun _ => none))))))] _ := hP
  have hD : va_D A [(h0, .inr (1, pv_m 0 q)), ((q 0), .inl (cI, 60, .inl (fun _ => 0))), ((q 1), .inl (cT, 60, .inr (.inr (.inr (.inr (fun _ => none))))))] := hD
  refine lv_iload_n hx hb dX13_variable_5 rfl (lv_at hl 1 rfl) ?_
  refine lv_if_eq (tgt := 16) hx hb dX13_variable_6 (by decide) (fun c_1 => ?_) (fun c_1 => ?_)
  · refine lv_iload_n hx hb dX13_variable_16 rfl (lv_at hl 2 rfl) ?_
    refine lv_iconst (v := 0) hx hb dX13_variable_17 (by decide) ?_
    refine lv_iconst (v := 2) hx hb dX13_variable_18 (by decide) ?_
    have hF := pv_new hA hS.1
    refine va_calli (va_runS (As := [.int p1, .int 0, .int 2]) (rest := []) ⟨hx, hb, hml, hown, hts⟩ (c_X13_in l hfl D _ p1 0 2) (va_cwS 3 hts (pv_gS w9_152 w9_153 w1_10 w9_154) rfl rfl rfl (by decide +kernel) ⟨Nat.le_of_ble_eq_true rfl, Nat.le_of_ble_eq_true rfl⟩) (pv_ps hE hS hF (hP.sub [] rfl) (hK.sub [] rfl) (hD.sub [] (by decide) rfl)) rfl rfl hl.1 rfl (lv_room (Nat.le_of_ble_eq_true rfl)) dX13_variable_19 ⟨Nat.le_of_ble_eq_true rfl, Nat.le_of_ble_eq_true rfl⟩) hS (fun q _ h => hF q h) hF (fun r_1 u t H1 locs1 ht hvm hw hB hz1 hk1 hS => ?_)
    refine W.widen (k := 0) (n := 0) (Nat.le_of_ble_eq_true rfl) (Nat.le_of_ble_eq_true rfl) ?_
    have hP := pv_keep hP rfl hk1
    rcases hw with ⟨rfl, a_3⟩ | ⟨rfl, a_3⟩
    · refine lv_if_ne (tgt := 31) hx hb dX13_variable_22 (by decide) (fun _ => ?_) (fun c_4 => absurd c_4 (by decide))
      refine lv_aload_n hx hb dX13_variable_31 rfl (lv_at hl 0 rfl) ?_
      refine lv_iload_n hx hb dX13_variable_32 rfl (lv_at hl 1 rfl) ?_
      refine lv_iload_n hx hb dX13_variable_33 rfl (lv_at hl 2 rfl) ?_
      refine lv_if_ne (tgt := 42) hx hb dX13_variable_34 (by decide) (fun c_5 => ?_) (fun c_5 => ?_)
      · refine lv_iload_n hx hb dX13_variable_42 rfl (lv_at hl 2 rfl) ?_
        refine lv_iconst (v := 1) hx hb dX13_variable_43 (by decide) ?_
        refine lv_icmp_ne (tgt := 53) hx hb dX13_variable_44 (by decide) (fun c_6 => ?_) (fun c_6 => ?_)
        · refine lv_iconst (v := 1) hx hb dX13_variable_53 (by decide) ?_
          refine lv_lconst (v := 1) hx hb dX13_variable_54 (by decide) ?_
          have hF := va_free (wc := []) hD hS hA [] rfl
          refine va_callr (va_runS (As := [.int 1, .long 1]) (rest := [.int p0, .ref h0]) ⟨hx, hb, hml, hown, hts⟩ (c_X13_single l hfl D _ 1 1) (va_cwS 2 hts (pv_gS w9_120 w9_121 w1_10 w9_122) rfl rfl rfl (by decide +kernel) ⟨Nat.le_of_ble_eq_true rfl, Nat.le_of_ble_eq_true rfl⟩) (pv_ps hE hS hF (hP.sub [] rfl) (hK.sub [] rfl) (hD.sub [] (by decide) rfl)) rfl rfl hl.1 rfl (lv_room (Nat.le_of_ble_eq_true rfl)) dX13_variable_55 ⟨Nat.le_of_ble_eq_true rfl, Nat.le_of_ble_eq_true rfl⟩) hS (fun q _ h => hF q h) hF (fun u ra_6 t H1 locs1 ht hvm hw hB hz1 hk1 hS => ?_)
          refine W.widen (k := 3) (n := 4) (Nat.le_of_ble_eq_true rfl) (Nat.le_of_ble_eq_true rfl) ?_
          obtain ⟨b_8, c_9, hP1, hK1, hD1⟩ := hB
          rw [ht] at hP1
          have hK1 := va_K.moved hvm.symm hK1
          obtain ⟨hP, hD⟩ := va_join (wr := [(h0, .inr (1, pv_m 0 q)), ((q 0), .inl (cI, 60, .inl (fun _ => 0))), ((q 1), .inl (cT, 60, .inr (.inr (.inr (.inr (fun _ => none))))))]) (w1 := [(ra_6, .inr (11, [.ref b_8, .ref c_9]))]) hP hD [] [0, 1, 2] rfl rfl (by decide) (by decide) hk1 hF hP1 hD1
          have hP : va_P D pv_cl [(h0, .inr (1, pv_m 0 q)), ((q 0), .inl (cI, 60, .inl (fun _ => 0))), ((q 1), .inl (cT, 60, .inr (.inr (.inr (.inr (fun _ => none)))))), (ra_6, .inr (11, [.ref b_8, .ref c_9]))] _ := hP
          have hD : va_D A [(h0, .inr (1, pv_m 0 q)), ((q 0), .inl (cI, 60, .inl (fun _ => 0))), ((q 1), .inl (cT, 60, .inr (.inr (.inr (.inr (fun _ => none)))))), (ra_6, .inr (11, [.ref b_8, .ref c_9]))] := hD
          refine lv_iconst (v := 2) hx hb dX13_variable_58 (by decide) ?_
          have hF := va_free (wc := [(h0, .inr (1, pv_m 0 q)), (ra_6, .inr (11, [.ref b_8, .ref c_9])), ((q 0), .inl (cI, 60, .inl (fun _ => 0))), ((q 1), .inl (cT, 60, .inr (.inr (.inr (.inr (fun _ => none))))))]) hD hS hA [0, 3, 1, 2] rfl
          refine va_calli (va_runV (As := [.int p0, .ref ra_6, .int 2]) (rest := []) ⟨hx, hb, hml, hown, hts⟩ (c_X13_keeps l hfl D _ h0 q cI cT ra_6 b_8 c_9 p0 2) (cwV 3 hts (pv_gV w9_137 w9_139 wp5_10 w1_10 w9_140) rfl rfl rfl (by decide +kernel) ⟨Nat.le_of_ble_eq_true rfl, Nat.le_of_ble_eq_true rfl⟩) (pv_pV hE hS hF (hP.sub [0, 3, 1, 2] rfl) (hK.sub [0, 1] rfl) (hD.sub [0, 3, 1, 2] (by decide) rfl) (va_recv (ci := 1) (q0 := 0) hK hP rfl rfl)) rfl rfl hl.1 rfl (lv_room (Nat.le_of_ble_eq_true rfl)) dX13_variable_59 ⟨Nat.le_of_ble_eq_true rfl, Nat.le_of_ble_eq_true rfl⟩) hS (fun q _ h => hF q h) hF (fun r_9 u t H1 locs1 ht hvm hw hB hz1 hk1 hS => ?_)
          refine W.widen (k := 3) (n := 4) (Nat.le_of_ble_eq_true rfl) (Nat.le_of_ble_eq_true rfl) ?_
          obtain ⟨rfl, hw⟩ := hw
          subst hw
          obtain ⟨fs_11, hf_12, hP1, hK1, hD1⟩ := hB
          rw [ht] at hP1
          have hK1 := va_K.moved hvm.symm hK1
          obtain ⟨hP, hD⟩ := va_join (wr := []) (w1 := [(h0, .inr (1, fs_11))]) hP hD [0, 3, 1, 2] [] rfl rfl (by decide) (by decide) hk1 hF hP1 hD1
          have hP : va_P D pv_cl [(h0, .inr (1, fs_11))] _ := hP
          have hD : va_D A [(h0, .inr (1, fs_11))] := hD
          refine W.widen (k := 3) (n := 4) (Nat.le_of_ble_eq_true rfl) (Nat.le_of_ble_eq_true rfl) ?_
          exact W.iret (v := 0) hx hb hr (fun t ht hW => ⟨⟨0, 0, rfl, Or.inl ⟨rfl, rfl, ⟨Or.inl c_1, pv_in3.mp a_3⟩⟩, fs_11, hf_12, (by rw [ht]; exact hP.sub [0] rfl), va_K.moved hW.alike (hK.sub [] rfl), hD.sub [0] (by decide) rfl⟩, hS.F ht⟩) hS.2.2 dX13_variable_62
        · refine lv_sipush (v := 1024) hx hb dX13_variable_47 (by decide) ?_
          refine lv_goto (tgt := 54) hx hb dX13_variable_50 (by decide) ?_
          refine lv_lconst (v := 1) hx hb dX13_variable_54 (by decide) ?_
          have hF := va_free (wc := []) hD hS hA [] rfl
          refine va_callr (va_runS (As := [.int 1024, .long 1]) (rest := [.int p0, .ref h0]) ⟨hx, hb, hml, hown, hts⟩ (c_X13_single l hfl D _ 1024 1) (va_cwS 2 hts (pv_gS w9_120 w9_121 w1_10 w9_122) rfl rfl rfl (by decide +kernel) ⟨Nat.le_of_ble_eq_true rfl, Nat.le_of_ble_eq_true rfl⟩) (pv_ps hE hS hF (hP.sub [] rfl) (hK.sub [] rfl) (hD.sub [] (by decide) rfl)) rfl rfl hl.1 rfl (lv_room (Nat.le_of_ble_eq_true rfl)) dX13_variable_55 ⟨Nat.le_of_ble_eq_true rfl, Nat.le_of_ble_eq_true rfl⟩) hS (fun q _ h => hF q h) hF (fun u ra_12 t H1 locs1 ht hvm hw hB hz1 hk1 hS => ?_)
          refine W.widen (k := 3) (n := 4) (Nat.le_of_ble_eq_true rfl) (Nat.le_of_ble_eq_true rfl) ?_
          obtain ⟨b_14, c_15, hP1, hK1, hD1⟩ := hB
          rw [ht] at hP1
          have hK1 := va_K.moved hvm.symm hK1
          obtain ⟨hP, hD⟩ := va_join (wr := [(h0, .inr (1, pv_m 0 q)), ((q 0), .inl (cI, 60, .inl (fun _ => 0))), ((q 1), .inl (cT, 60, .inr (.inr (.inr (.inr (fun _ => none))))))]) (w1 := [(ra_12, .inr (11, [.ref b_14, .ref c_15]))]) hP hD [] [0, 1, 2] rfl rfl (by decide) (by decide) hk1 hF hP1 hD1
          have hP : va_P D pv_cl [(h0, .inr (1, pv_m 0 q)), ((q 0), .inl (cI, 60, .inl (fun _ => 0))), ((q 1), .inl (cT, 60, .inr (.inr (.inr (.inr (fun _ => none)))))), (ra_12, .inr (11, [.ref b_14, .ref c_15]))] _ := hP
          have hD : va_D A [(h0, .inr (1, pv_m 0 q)), ((q 0), .inl (cI, 60, .inl (fun _ => 0))), ((q 1), .inl (cT, 60, .inr (.inr (.inr (.inr (fun _ => none)))))), (ra_12, .inr (11, [.ref b_14, .ref c_15]))] := hD
          refine lv_iconst (v := 2) hx hb dX13_variable_58 (by decide) ?_
          have hF := va_free (wc := [(h0, .inr (1, pv_m 0 q)), (ra_12, .inr (11, [.ref b_14, .ref c_15])), ((q 0), .inl (cI, 60, .inl (fun _ => 0))), ((q 1), .inl (cT, 60, .inr (.inr (.inr (.inr (fun _ => none))))))]) hD hS hA [0, 3, 1, 2] rfl
          refine va_calli (va_runV (As := [.int p0, .ref ra_12, .int 2]) (rest := []) ⟨hx, hb, hml, hown, hts⟩ (c_X13_keeps l hfl D _ h0 q cI cT ra_12 b_14 c_15 p0 2) (cwV 3 hts (pv_gV w9_137 w9_139 wp5_10 w1_10 w9_140) rfl rfl rfl (by decide +kernel) ⟨Nat.le_of_ble_eq_true rfl, Nat.le_of_ble_eq_true rfl⟩) (pv_pV hE hS hF (hP.sub [0, 3, 1, 2] rfl) (hK.sub [0, 1] rfl) (hD.sub [0, 3, 1, 2] (by decide) rfl) (va_recv (ci := 1) (q0 := 0) hK hP rfl rfl)) rfl rfl hl.1 rfl (lv_room (Nat.le_of_ble_eq_true rfl)) dX13_variable_59 ⟨Nat.le_of_ble_eq_true rfl, Nat.le_of_ble_eq_true rfl⟩) hS (fun q _ h => hF q h) hF (fun r_15 u t H1 locs1 ht hvm hw hB hz1 hk1 hS => ?_)
          refine W.widen (k := 3) (n := 4) (Nat.le_of_ble_eq_true rfl) (Nat.le_of_ble_eq_true rfl) ?_
          obtain ⟨rfl, hw⟩ := hw
          subst hw
          obtain ⟨fs_17, hf_18, hP1, hK1, hD1⟩ := hB
          rw [ht] at hP1
          have hK1 := va_K.moved hvm.symm hK1
          obtain ⟨hP, hD⟩ := va_join (wr := []) (w1 := [(h0, .inr (1, fs_17))]) hP hD [0, 3, 1, 2] [] rfl rfl (by decide) (by decide) hk1 hF hP1 hD1
          have hP : va_P D pv_cl [(h0, .inr (1, fs_17))] _ := hP
          have hD : va_D A [(h0, .inr (1, fs_17))] := hD
          refine W.widen (k := 3) (n := 4) (Nat.le_of_ble_eq_true rfl) (Nat.le_of_ble_eq_true rfl) ?_
          exact W.iret (v := 0) hx hb hr (fun t ht hW => ⟨⟨0, 0, rfl, Or.inl ⟨rfl, rfl, ⟨Or.inl c_1, pv_in3.mp a_3⟩⟩, fs_17, hf_18, (by rw [ht]; exact hP.sub [0] rfl), va_K.moved hW.alike (hK.sub [] rfl), hD.sub [0] (by decide) rfl⟩, hS.F ht⟩) hS.2.2 dX13_variable_62
      · refine lv_ldc (own := RX13) (v := 1048576) hx hb hown (hg w9_155 rfl) dX13_variable_37 ?_
        refine lv_goto (tgt := 54) hx hb dX13_variable_39 (by decide) ?_
        refine lv_lconst (v := 1) hx hb dX13_variable_54 (by decide) ?_
        have hF := va_free (wc := []) hD hS hA [] rfl
        refine va_callr (va_runS (As := [.int 1048576, .long 1]) (rest := [.int p0, .ref h0]) ⟨hx, hb, hml, hown, hts⟩ (c_X13_single l hfl D _ 1048576 1) (va_cwS 2 hts (pv_gS w9_120 w9_121 w1_10 w9_122) rfl rfl rfl (by decide +kernel) ⟨Nat.le_of_ble_eq_true rfl, Nat.le_of_ble_eq_true rfl⟩) (pv_ps hE hS hF (hP.sub [] rfl) (hK.sub [] rfl) (hD.sub [] (by decide) rfl)) rfl rfl hl.1 rfl (lv_room (Nat.le_of_ble_eq_true rfl)) dX13_variable_55 ⟨Nat.le_of_ble_eq_true rfl, Nat.le_of_ble_eq_true rfl⟩) hS (fun q _ h => hF q h) hF (fun u ra_18 t H1 locs1 ht hvm hw hB hz1 hk1 hS => ?_)
        refine W.widen (k := 3) (n := 4) (Nat.le_of_ble_eq_true rfl) (Nat.le_of_ble_eq_true rfl) ?_
        obtain ⟨b_20, c_21, hP1, hK1, hD1⟩ := hB
        rw [ht] at hP1
        have hK1 := va_K.moved hvm.symm hK1
        obtain ⟨hP, hD⟩ := va_join (wr := [(h0, .inr (1, pv_m 0 q)), ((q 0), .inl (cI, 60, .inl (fun _ => 0))), ((q 1), .inl (cT, 60, .inr (.inr (.inr (.inr (fun _ => none))))))]) (w1 := [(ra_18, .inr (11, [.ref b_20, .ref c_21]))]) hP hD [] [0, 1, 2] rfl rfl (by decide) (by decide) hk1 hF hP1 hD1
        have hP : va_P D pv_cl [(h0, .inr (1, pv_m 0 q)), ((q 0), .inl (cI, 60, .inl (fun _ => 0))), ((q 1), .inl (cT, 60, .inr (.inr (.inr (.inr (fun _ => none)))))), (ra_18, .inr (11, [.ref b_20, .ref c_21]))] _ := hP
        have hD : va_D A [(h0, .inr (1, pv_m 0 q)), ((q 0), .inl (cI, 60, .inl (fun _ => 0))), ((q 1), .inl (cT, 60, .inr (.inr (.inr (.inr (fun _ => none)))))), (ra_18, .inr (11, [.ref b_20, .ref c_21]))] := hD
        refine lv_iconst (v := 2) hx hb dX13_variable_58 (by decide) ?_
        have hF := va_free (wc := [(h0, .inr (1, pv_m 0 q)), (ra_18, .inr (11, [.ref b_20, .ref c_21])), ((q 0), .inl (cI, 60, .inl (fun _ => 0))), ((q 1), .inl (cT, 60, .inr (.inr (.inr (.inr (fun _ => none))))))]) hD hS hA [0, 3, 1, 2] rfl
        refine va_calli (va_runV (As := [.int p0, .ref ra_18, .int 2]) (rest := []) ⟨hx, hb, hml, hown, hts⟩ (c_X13_keeps l hfl D _ h0 q cI cT ra_18 b_20 c_21 p0 2) (cwV 3 hts (pv_gV w9_137 w9_139 wp5_10 w1_10 w9_140) rfl rfl rfl (by decide +kernel) ⟨Nat.le_of_ble_eq_true rfl, Nat.le_of_ble_eq_true rfl⟩) (pv_pV hE hS hF (hP.sub [0, 3, 1, 2] rfl) (hK.sub [0, 1] rfl) (hD.sub [0, 3, 1, 2] (by decide) rfl) (va_recv (ci := 1) (q0 := 0) hK hP rfl rfl)) rfl rfl hl.1 rfl (lv_room (Nat.le_of_ble_eq_true rfl)) dX13_variable_59 ⟨Nat.le_of_ble_eq_true rfl, Nat.le_of_ble_eq_true rfl⟩) hS (fun q _ h => hF q h) hF (fun r_21 u t H1 locs1 ht hvm hw hB hz1 hk1 hS => ?_)
        refine W.widen (k := 3) (n := 4) (Nat.le_of_ble_eq_true rfl) (Nat.le_of_ble_eq_true rfl) ?_
        obtain ⟨rfl, hw⟩ := hw
        subst hw
        obtain ⟨fs_23, hf_24, hP1, hK1, hD1⟩ := hB
        rw [ht] at hP1
        have hK1 := va_K.moved hvm.symm hK1
        obtain ⟨hP, hD⟩ := va_join (wr := []) (w1 := [(h0, .inr (1, fs_23))]) hP hD [0, 3, 1, 2] [] rfl rfl (by decide) (by decide) hk1 hF hP1 hD1
        have hP : va_P D pv_cl [(h0, .inr (1, fs_23))] _ := hP
        have hD : va_D A [(h0, .inr (1, fs_23))] := hD
        refine W.widen (k := 3) (n := 4) (Nat.le_of_ble_eq_true rfl) (Nat.le_of_ble_eq_true rfl) ?_
        exact W.iret (v := 0) hx hb hr (fun t ht hW => ⟨⟨0, 0, rfl, Or.inl ⟨rfl, rfl, ⟨Or.inl c_1, pv_in3.mp a_3⟩⟩, fs_23, hf_24, (by rw [ht]; exact hP.sub [0] rfl), va_K.moved hW.alike (hK.sub [] rfl), hD.sub [0] (by decide) rfl⟩, hS.F ht⟩) hS.2.2 dX13_variable_62
    · refine lv_if_ne (tgt := 31) hx hb dX13_variable_22 (by decide) (fun c_25 => absurd (by decide) c_25) (fun _ => ?_)
      refine lv_aload_n hx hb dX13_variable_25 rfl (lv_at hl 0 rfl) ?_
      refine lv_iconst (v := 1) hx hb dX13_variable_26 (by decide) ?_
      have hF := va_free (wc := [(h0, .inr (1, pv_m 0 q))]) hD hS hA [0] rfl
      refine va_calli (va_runV (As := [.int 1]) (rest := []) ⟨hx, hb, hml, hown, hts⟩ (c_X13_fails l hfl D _ h0 q 1) (cwV 1 hts (pv_gV w9_113 w9_115 wp5_9 w1_10 w9_116) rfl rfl rfl (by decide +kernel) ⟨Nat.le_of_ble_eq_true rfl, Nat.le_of_ble_eq_true rfl⟩) (pv_pV hE hS hF (hP.sub [0] rfl) (hK.sub [] rfl) (hD.sub [0] (by decide) rfl) (va_recv (ci := 1) (q0 := 0) hK hP rfl rfl)) rfl rfl hl.1 rfl (lv_room (Nat.le_of_ble_eq_true rfl)) dX13_variable_27 ⟨Nat.le_of_ble_eq_true rfl, Nat.le_of_ble_eq_true rfl⟩) hS (fun q _ h => hF q h) hF (fun r_25 u t H1 locs1 ht hvm hw hB hz1 hk1 hS => ?_)
      refine W.widen (k := 0) (n := 0) (Nat.le_of_ble_eq_true rfl) (Nat.le_of_ble_eq_true rfl) ?_
      obtain rfl := hw
      obtain ⟨hP1, hK1, hD1⟩ := hB
      rw [ht] at hP1
      have hK1 := va_K.moved hvm.symm hK1
      obtain ⟨hP, hD⟩ := va_join (wr := [((q 0), .inl (cI, 60, .inl (fun _ => 0))), ((q 1), .inl (cT, 60, .inr (.inr (.inr (.inr (fun _ => none))))))]) (w1 := [(h0, .inr (1, pv_m 1 q))]) hP hD [0] [1, 2] rfl rfl (by decide) (by decide) hk1 hF hP1 hD1
      have hP : va_P D pv_cl [((q 0), .inl (cI, 60, .inl (fun _ => 0))), ((q 1), .inl (cT, 60, .inr (.inr (.inr (.inr (fun _ => none)))))), (h0, .inr (1, pv_m 1 q))] _ := hP
      have hD : va_D A [((q 0), .inl (cI, 60, .inl (fun _ => 0))), ((q 1), .inl (cT, 60, .inr (.inr (.inr (.inr (fun _ => none)))))), (h0, .inr (1, pv_m 1 q))] := hD
      refine W.widen (k := 3) (n := 4) (Nat.le_of_ble_eq_true rfl) (Nat.le_of_ble_eq_true rfl) ?_
      exact W.iret (v := 0) hx hb hr (fun t ht hW => ⟨⟨0, 1, rfl, Or.inr ⟨rfl, fun h => a_3 (pv_in3.mpr h.2)⟩, pv_m 1 q, rfl, (by rw [ht]; exact hP.sub [2] rfl), va_K.moved hW.alike (hK.sub [] rfl), hD.sub [2] (by decide) rfl⟩, hS.F ht⟩) hS.2.2 dX13_variable_30
  · refine lv_iload_n hx hb dX13_variable_9 rfl (lv_at hl 1 rfl) ?_
    have hF := pv_new hA hS.1
    refine va_calli (va_runS (As := [.int p0]) (rest := []) ⟨hx, hb, hml, hown, hts⟩ (c_X13_isPrime l hfl D _ p0) (va_cwS 1 hts (pv_gS w9_110 w9_111 w1_10 w9_112) rfl rfl rfl (by decide +kernel) ⟨Nat.le_of_ble_eq_true rfl, Nat.le_of_ble_eq_true rfl⟩) (pv_ps hE hS hF (hP.sub [] rfl) (hK.sub [] rfl) (hD.sub [] (by decide) rfl)) rfl rfl hl.1 rfl (lv_room (Nat.le_of_ble_eq_true rfl)) dX13_variable_10 ⟨Nat.le_of_ble_eq_true rfl, Nat.le_of_ble_eq_true rfl⟩) hS (fun q _ h => hF q h) hF (fun r_26 u t H1 locs1 ht hvm hw hB hz1 hk1 hS => ?_)
    refine W.widen (k := 0) (n := 0) (Nat.le_of_ble_eq_true rfl) (Nat.le_of_ble_eq_true rfl) ?_
    have hP := pv_keep hP rfl hk1
    rcases hw with ⟨rfl, a_28⟩ | ⟨rfl, a_28⟩
    · refine lv_if_eq (tgt := 25) hx hb dX13_variable_13 (by decide) (fun c_29 => absurd c_29 (by decide)) (fun _ => ?_)
      refine lv_iload_n hx hb dX13_variable_16 rfl (lv_at hl 2 rfl) ?_
      refine lv_iconst (v := 0) hx hb dX13_variable_17 (by decide) ?_
      refine lv_iconst (v := 2) hx hb dX13_variable_18 (by decide) ?_
      have hF := pv_new hA hS.1
      refine va_calli (va_runS (As := [.int p1, .int 0, .int 2]) (rest := []) ⟨hx, hb, hml, hown, hts⟩ (c_X13_in l hfl D _ p1 0 2) (va_cwS 3 hts (pv_gS w9_152 w9_153 w1_10 w9_154) rfl rfl rfl (by decide +kernel) ⟨Nat.le_of_ble_eq_true rfl, Nat.le_of_ble_eq_true rfl⟩) (pv_ps hE hS hF (hP.sub [] rfl) (hK.sub [] rfl) (hD.sub [] (by decide) rfl)) rfl rfl hl.1 rfl (lv_room (Nat.le_of_ble_eq_true rfl)) dX13_variable_19 ⟨Nat.le_of_ble_eq_true rfl, Nat.le_of_ble_eq_true rfl⟩) hS (fun q _ h => hF q h) hF (fun r_29 u t H1 locs1 ht hvm hw hB hz1 hk1 hS => ?_)
      refine W.widen (k := 0) (n := 0) (Nat.le_of_ble_eq_true rfl) (Nat.le_of_ble_eq_true rfl) ?_
      have hP := pv_keep hP rfl hk1
      rcases hw with ⟨rfl, a_31⟩ | ⟨rfl, a_31⟩
      · refine lv_if_ne (tgt := 31) hx hb dX13_variable_22 (by decide) (fun _ => ?_) (fun c_32 => absurd c_32 (by decide))
        refine lv_aload_n hx hb dX13_variable_31 rfl (lv_at hl 0 rfl) ?_
        refine lv_iload_n hx hb dX13_variable_32 rfl (lv_at hl 1 rfl) ?_
        refine lv_iload_n hx hb dX13_variable_33 rfl (lv_at hl 2 rfl) ?_
        refine lv_if_ne (tgt := 42) hx hb dX13_variable_34 (by decide) (fun c_33 => ?_) (fun c_33 => ?_)
        · refine lv_iload_n hx hb dX13_variable_42 rfl (lv_at hl 2 rfl) ?_
          refine lv_iconst (v := 1) hx hb dX13_variable_43 (by decide) ?_
          refine lv_icmp_ne (tgt := 53) hx hb dX13_variable_44 (by decide) (fun c_34 => ?_) (fun c_34 => ?_)
          · refine lv_iconst (v := 1) hx hb dX13_variable_53 (by decide) ?_
            refine lv_lconst (v := 1) hx hb dX13_variable_54 (by decide) ?_
            have hF := va_free (wc := []) hD hS hA [] rfl
            refine va_callr (va_runS (As := [.int 1, .long 1]) (rest := [.int p0, .ref h0]) ⟨hx, hb, hml, hown, hts⟩ (c_X13_single l hfl D _ 1 1) (va_cwS 2 hts (pv_gS w9_120 w9_121 w1_10 w9_122) rfl rfl rfl (by decide +kernel) ⟨Nat.le_of_ble_eq_true rfl, Nat.le_of_ble_eq_true rfl⟩) (pv_ps hE hS hF (hP.sub [] rfl) (hK.sub [] rfl) (hD.sub [] (by decide) rfl)) rfl rfl hl.1 rfl (lv_room (Nat.le_of_ble_eq_true rfl)) dX13_variable_55 ⟨Nat.le_of_ble_eq_true rfl, Nat.le_of_ble_eq_true rfl⟩) hS (fun q _ h => hF q h) hF (fun u ra_34 t H1 locs1 ht hvm hw hB hz1 hk1 hS => ?_)
            refine W.widen (k := 3) (n := 4) (Nat.le_of_ble_eq_true rfl) (Nat.le_of_ble_eq_true rfl) ?_
            obtain ⟨b_36, c_37, hP1, hK1, hD1⟩ := hB
            rw [ht] at hP1
            have hK1 := va_K.moved hvm.symm hK1
            obtain ⟨hP, hD⟩ := va_join (wr := [(h0, .inr (1, pv_m 0 q)), ((q 0), .inl (cI, 60, .inl (fun _ => 0))), ((q 1), .inl (cT, 60, .inr (.inr (.inr (.inr (fun _ => none))))))]) (w1 := [(ra_34, .inr (11, [.ref b_36, .ref c_37]))]) hP hD [] [0, 1, 2] rfl rfl (by decide) (by decide) hk1 hF hP1 hD1
            have hP : va_P D pv_cl [(h0, .inr (1, pv_m 0 q)), ((q 0), .inl (cI, 60, .inl (fun _ => 0))), ((q 1), .inl (cT, 60, .inr (.inr (.inr (.inr (fun _ => none)))))), (ra_34, .inr (11, [.ref b_36, .ref c_37]))] _ := hP
            have hD : va_D A [(h0, .inr (1, pv_m 0 q)), ((q 0), .inl (cI, 60, .inl (fun _ => 0))), ((q 1), .inl (cT, 60, .inr (.inr (.inr (.inr (fun _ => none)))))), (ra_34, .inr (11, [.ref b_36, .ref c_37]))] := hD
            refine lv_iconst (v := 2) hx hb dX13_variable_58 (by decide) ?_
            have hF := va_free (wc := [(h0, .inr (1, pv_m 0 q)), (ra_34, .inr (11, [.ref b_36, .ref c_37])), ((q 0), .inl (cI, 60, .inl (fun _ => 0))), ((q 1), .inl (cT, 60, .inr (.inr (.inr (.inr (fun _ => none))))))]) hD hS hA [0, 3, 1, 2] rfl
            refine va_calli (va_runV (As := [.int p0, .ref ra_34, .int 2]) (rest := []) ⟨hx, hb, hml, hown, hts⟩ (c_X13_keeps l hfl D _ h0 q cI cT ra_34 b_36 c_37 p0 2) (cwV 3 hts (pv_gV w9_137 w9_139 wp5_10 w1_10 w9_140) rfl rfl rfl (by decide +kernel) ⟨Nat.le_of_ble_eq_true rfl, Nat.le_of_ble_eq_true rfl⟩) (pv_pV hE hS hF (hP.sub [0, 3, 1, 2] rfl) (hK.sub [0, 1] rfl) (hD.sub [0, 3, 1, 2] (by decide) rfl) (va_recv (ci := 1) (q0 := 0) hK hP rfl rfl)) rfl rfl hl.1 rfl (lv_room (Nat.le_of_ble_eq_true rfl)) dX13_variable_59 ⟨Nat.le_of_ble_eq_true rfl, Nat.le_of_ble_eq_true rfl⟩) hS (fun q _ h => hF q h) hF (fun r_37 u t H1 locs1 ht hvm hw hB hz1 hk1 hS => ?_)
            refine W.widen (k := 3) (n := 4) (Nat.le_of_ble_eq_true rfl) (Nat.le_of_ble_eq_true rfl) ?_
            obtain ⟨rfl, hw⟩ := hw
            subst hw
            obtain ⟨fs_39, hf_40, hP1, hK1, hD1⟩ := hB
            rw [ht] at hP1
            have hK1 := va_K.moved hvm.symm hK1
            obtain ⟨hP, hD⟩ := va_join (wr := []) (w1 := [(h0, .inr (1, fs_39))]) hP hD [0, 3, 1, 2] [] rfl rfl (by decide) (by decide) hk1 hF hP1 hD1
            have hP : va_P D pv_cl [(h0, .inr (1, fs_39))] _ := hP
            have hD : va_D A [(h0, .inr (1, fs_39))] := hD
            refine W.widen (k := 3) (n := 4) (Nat.le_of_ble_eq_true rfl) (Nat.le_of_ble_eq_true rfl) ?_
            exact W.iret (v := 0) hx hb hr (fun t ht hW => ⟨⟨0, 0, rfl, Or.inl ⟨rfl, rfl, ⟨Or.inr a_28, pv_in3.mp a_31⟩⟩, fs_39, hf_40, (by rw [ht]; exact hP.sub [0] rfl), va_K.moved hW.alike (hK.sub [] rfl), hD.sub [0] (by decide) rfl⟩, hS.F ht⟩) hS.2.2 dX13_variable_62
          · refine lv_sipush (v := 1024) hx hb dX13_variable_47 (by decide) ?_
            refine lv_goto (tgt := 54) hx hb dX13_variable_50 (by decide) ?_
            refine lv_lconst (v := 1) hx hb dX13_variable_54 (by decide) ?_
            have hF := va_free (wc := []) hD hS hA [] rfl
            refine va_callr (va_runS (As := [.int 1024, .long 1]) (rest := [.int p0, .ref h0]) ⟨hx, hb, hml, hown, hts⟩ (c_X13_single l hfl D _ 1024 1) (va_cwS 2 hts (pv_gS w9_120 w9_121 w1_10 w9_122) rfl rfl rfl (by decide +kernel) ⟨Nat.le_of_ble_eq_true rfl, Nat.le_of_ble_eq_true rfl⟩) (pv_ps hE hS hF (hP.sub [] rfl) (hK.sub [] rfl) (hD.sub [] (by decide) rfl)) rfl rfl hl.1 rfl (lv_room (Nat.le_of_ble_eq_true rfl)) dX13_variable_55 ⟨Nat.le_of_ble_eq_true rfl, Nat.le_of_ble_eq_true rfl⟩) hS (fun q _ h => hF q h) hF (fun u ra_40 t H1 locs1 ht hvm hw hB hz1 hk1 hS => ?_)
            refine W.widen (k := 3) (n := 4) (Nat.le_of_ble_eq_true rfl) (Nat.le_of_ble_eq_true rfl) ?_
            obtain ⟨b_42, c_43, hP1, hK1, hD1⟩ := hB
            rw [ht] at hP1
            have hK1 := va_K.moved hvm.symm hK1
            obtain ⟨hP, hD⟩ := va_join (wr := [(h0, .inr (1, pv_m 0 q)), ((q 0), .inl (cI, 60, .inl (fun _ => 0))), ((q 1), .inl (cT, 60, .inr (.inr (.inr (.inr (fun _ => none))))))]) (w1 := [(ra_40, .inr (11, [.ref b_42, .ref c_43]))]) hP hD [] [0, 1, 2] rfl rfl (by decide) (by decide) hk1 hF hP1 hD1
            have hP : va_P D pv_cl [(h0, .inr (1, pv_m 0 q)), ((q 0), .inl (cI, 60, .inl (fun _ => 0))), ((q 1), .inl (cT, 60, .inr (.inr (.inr (.inr (fun _ => none)))))), (ra_40, .inr (11, [.ref b_42, .ref c_43]))] _ := hP
            have hD : va_D A [(h0, .inr (1, pv_m 0 q)), ((q 0), .inl (cI, 60, .inl (fun _ => 0))), ((q 1), .inl (cT, 60, .inr (.inr (.inr (.inr (fun _ => none)))))), (ra_40, .inr (11, [.ref b_42, .ref c_43]))] := hD
            refine lv_iconst (v := 2) hx hb dX13_variable_58 (by decide) ?_
            have hF := va_free (wc := [(h0, .inr (1, pv_m 0 q)), (ra_40, .inr (11, [.ref b_42, .ref c_43])), ((q 0), .inl (cI, 60, .inl (fun _ => 0))), ((q 1), .inl (cT, 60, .inr (.inr (.inr (.inr (fun _ => none))))))]) hD hS hA [0, 3, 1, 2] rfl
            refine va_calli (va_runV (As := [.int p0, .ref ra_40, .int 2]) (rest := []) ⟨hx, hb, hml, hown, hts⟩ (c_X13_keeps l hfl D _ h0 q cI cT ra_40 b_42 c_43 p0 2) (cwV 3 hts (pv_gV w9_137 w9_139 wp5_10 w1_10 w9_140) rfl rfl rfl (by decide +kernel) ⟨Nat.le_of_ble_eq_true rfl, Nat.le_of_ble_eq_true rfl⟩) (pv_pV hE hS hF (hP.sub [0, 3, 1, 2] rfl) (hK.sub [0, 1] rfl) (hD.sub [0, 3, 1, 2] (by decide) rfl) (va_recv (ci := 1) (q0 := 0) hK hP rfl rfl)) rfl rfl hl.1 rfl (lv_room (Nat.le_of_ble_eq_true rfl)) dX13_variable_59 ⟨Nat.le_of_ble_eq_true rfl, Nat.le_of_ble_eq_true rfl⟩) hS (fun q _ h => hF q h) hF (fun r_43 u t H1 locs1 ht hvm hw hB hz1 hk1 hS => ?_)
            refine W.widen (k := 3) (n := 4) (Nat.le_of_ble_eq_true rfl) (Nat.le_of_ble_eq_true rfl) ?_
            obtain ⟨rfl, hw⟩ := hw
            subst hw
            obtain ⟨fs_45, hf_46, hP1, hK1, hD1⟩ := hB
            rw [ht] at hP1
            have hK1 := va_K.moved hvm.symm hK1
            obtain ⟨hP, hD⟩ := va_join (wr := []) (w1 := [(h0, .inr (1, fs_45))]) hP hD [0, 3, 1, 2] [] rfl rfl (by decide) (by decide) hk1 hF hP1 hD1
            have hP : va_P D pv_cl [(h0, .inr (1, fs_45))] _ := hP
            have hD : va_D A [(h0, .inr (1, fs_45))] := hD
            refine W.widen (k := 3) (n := 4) (Nat.le_of_ble_eq_true rfl) (Nat.le_of_ble_eq_true rfl) ?_
            exact W.iret (v := 0) hx hb hr (fun t ht hW => ⟨⟨0, 0, rfl, Or.inl ⟨rfl, rfl, ⟨Or.inr a_28, pv_in3.mp a_31⟩⟩, fs_45, hf_46, (by rw [ht]; exact hP.sub [0] rfl), va_K.moved hW.alike (hK.sub [] rfl), hD.sub [0] (by decide) rfl⟩, hS.F ht⟩) hS.2.2 dX13_variable_62
        · refine lv_ldc (own := RX13) (v := 1048576) hx hb hown (hg w9_155 rfl) dX13_variable_37 ?_
          refine lv_goto (tgt := 54) hx hb dX13_variable_39 (by decide) ?_
          refine lv_lconst (v := 1) hx hb dX13_variable_54 (by decide) ?_
          have hF := va_free (wc := []) hD hS hA [] rfl
          refine va_callr (va_runS (As := [.int 1048576, .long 1]) (rest := [.int p0, .ref h0]) ⟨hx, hb, hml, hown, hts⟩ (c_X13_single l hfl D _ 1048576 1) (va_cwS 2 hts (pv_gS w9_120 w9_121 w1_10 w9_122) rfl rfl rfl (by decide +kernel) ⟨Nat.le_of_ble_eq_true rfl, Nat.le_of_ble_eq_true rfl⟩) (pv_ps hE hS hF (hP.sub [] rfl) (hK.sub [] rfl) (hD.sub [] (by decide) rfl)) rfl rfl hl.1 rfl (lv_room (Nat.le_of_ble_eq_true rfl)) dX13_variable_55 ⟨Nat.le_of_ble_eq_true rfl, Nat.le_of_ble_eq_true rfl⟩) hS (fun q _ h => hF q h) hF (fun u ra_46 t H1 locs1 ht hvm hw hB hz1 hk1 hS => ?_)
          refine W.widen (k := 3) (n := 4) (Nat.le_of_ble_eq_true rfl) (Nat.le_of_ble_eq_true rfl) ?_
          obtain ⟨b_48, c_49, hP1, hK1, hD1⟩ := hB
          rw [ht] at hP1
          have hK1 := va_K.moved hvm.symm hK1
          obtain ⟨hP, hD⟩ := va_join (wr := [(h0, .inr (1, pv_m 0 q)), ((q 0), .inl (cI, 60, .inl (fun _ => 0))), ((q 1), .inl (cT, 60, .inr (.inr (.inr (.inr (fun _ => none))))))]) (w1 := [(ra_46, .inr (11, [.ref b_48, .ref c_49]))]) hP hD [] [0, 1, 2] rfl rfl (by decide) (by decide) hk1 hF hP1 hD1
          have hP : va_P D pv_cl [(h0, .inr (1, pv_m 0 q)), ((q 0), .inl (cI, 60, .inl (fun _ => 0))), ((q 1), .inl (cT, 60, .inr (.inr (.inr (.inr (fun _ => none)))))), (ra_46, .inr (11, [.ref b_48, .ref c_49]))] _ := hP
          have hD : va_D A [(h0, .inr (1, pv_m 0 q)), ((q 0), .inl (cI, 60, .inl (fun _ => 0))), ((q 1), .inl (cT, 60, .inr (.inr (.inr (.inr (fun _ => none)))))), (ra_46, .inr (11, [.ref b_48, .ref c_49]))] := hD
          refine lv_iconst (v := 2) hx hb dX13_variable_58 (by decide) ?_
          have hF := va_free (wc := [(h0, .inr (1, pv_m 0 q)), (ra_46, .inr (11, [.ref b_48, .ref c_49])), ((q 0), .inl (cI, 60, .inl (fun _ => 0))), ((q 1), .inl (cT, 60, .inr (.inr (.inr (.inr (fun _ => none))))))]) hD hS hA [0, 3, 1, 2] rfl
          refine va_calli (va_runV (As := [.int p0, .ref ra_46, .int 2]) (rest := []) ⟨hx, hb, hml, hown, hts⟩ (c_X13_keeps l hfl D _ h0 q cI cT ra_46 b_48 c_49 p0 2) (cwV 3 hts (pv_gV w9_137 w9_139 wp5_10 w1_10 w9_140) rfl rfl rfl (by decide +kernel) ⟨Nat.le_of_ble_eq_true rfl, Nat.le_of_ble_eq_true rfl⟩) (pv_pV hE hS hF (hP.sub [0, 3, 1, 2] rfl) (hK.sub [0, 1] rfl) (hD.sub [0, 3, 1, 2] (by decide) rfl) (va_recv (ci := 1) (q0 := 0) hK hP rfl rfl)) rfl rfl hl.1 rfl (lv_room (Nat.le_of_ble_eq_true rfl)) dX13_variable_59 ⟨Nat.le_of_ble_eq_true rfl, Nat.le_of_ble_eq_true rfl⟩) hS (fun q _ h => hF q h) hF (fun r_49 u t H1 locs1 ht hvm hw hB hz1 hk1 hS => ?_)
          refine W.widen (k := 3) (n := 4) (Nat.le_of_ble_eq_true rfl) (Nat.le_of_ble_eq_true rfl) ?_
          obtain ⟨rfl, hw⟩ := hw
          subst hw
          obtain ⟨fs_51, hf_52, hP1, hK1, hD1⟩ := hB
          rw [ht] at hP1
          have hK1 := va_K.moved hvm.symm hK1
          obtain ⟨hP, hD⟩ := va_join (wr := []) (w1 := [(h0, .inr (1, fs_51))]) hP hD [0, 3, 1, 2] [] rfl rfl (by decide) (by decide) hk1 hF hP1 hD1
          have hP : va_P D pv_cl [(h0, .inr (1, fs_51))] _ := hP
          have hD : va_D A [(h0, .inr (1, fs_51))] := hD
          refine W.widen (k := 3) (n := 4) (Nat.le_of_ble_eq_true rfl) (Nat.le_of_ble_eq_true rfl) ?_
          exact W.iret (v := 0) hx hb hr (fun t ht hW => ⟨⟨0, 0, rfl, Or.inl ⟨rfl, rfl, ⟨Or.inr a_28, pv_in3.mp a_31⟩⟩, fs_51, hf_52, (by rw [ht]; exact hP.sub [0] rfl), va_K.moved hW.alike (hK.sub [] rfl), hD.sub [0] (by decide) rfl⟩, hS.F ht⟩) hS.2.2 dX13_variable_62
      · refine lv_if_ne (tgt := 31) hx hb dX13_variable_22 (by decide) (fun c_53 => absurd (by decide) c_53) (fun _ => ?_)
        refine lv_aload_n hx hb dX13_variable_25 rfl (lv_at hl 0 rfl) ?_
        refine lv_iconst (v := 1) hx hb dX13_variable_26 (by decide) ?_
        have hF := va_free (wc := [(h0, .inr (1, pv_m 0 q))]) hD hS hA [0] rfl
        refine va_calli (va_runV (As := [.int 1]) (rest := []) ⟨hx, hb, hml, hown, hts⟩ (c_X13_fails l hfl D _ h0 q 1) (cwV 1 hts (pv_gV w9_113 w9_115 wp5_9 w1_10 w9_116) rfl rfl rfl (by decide +kernel) ⟨Nat.le_of_ble_eq_true rfl, Nat.le_of_ble_eq_true rfl⟩) (pv_pV hE hS hF (hP.sub [0] rfl) (hK.sub [] rfl) (hD.sub [0] (by decide) rfl) (va_recv (ci := 1) (q0 := 0) hK hP rfl rfl)) rfl rfl hl.1 rfl (lv_room (Nat.le_of_ble_eq_true rfl)) dX13_variable_27 ⟨Nat.le_of_ble_eq_true rfl, Nat.le_of_ble_eq_true rfl⟩) hS (fun q _ h => hF q h) hF (fun r_53 u t H1 locs1 ht hvm hw hB hz1 hk1 hS => ?_)
        refine W.widen (k := 0) (n := 0) (Nat.le_of_ble_eq_true rfl) (Nat.le_of_ble_eq_true rfl) ?_
        obtain rfl := hw
        obtain ⟨hP1, hK1, hD1⟩ := hB
        rw [ht] at hP1
        have hK1 := va_K.moved hvm.symm hK1
        obtain ⟨hP, hD⟩ := va_join (wr := [((q 0), .inl (cI, 60, .inl (fun _ => 0))), ((q 1), .inl (cT, 60, .inr (.inr (.inr (.inr (fun _ => none))))))]) (w1 := [(h0, .inr (1, pv_m 1 q))]) hP hD [0] [1, 2] rfl rfl (by decide) (by decide) hk1 hF hP1 hD1
        have hP : va_P D pv_cl [((q 0), .inl (cI, 60, .inl (fun _ => 0))), ((q 1), .inl (cT, 60, .inr (.inr (.inr (.inr (fun _ => none)))))), (h0, .inr (1, pv_m 1 q))] _ := hP
        have hD : va_D A [((q 0), .inl (cI, 60, .inl (fun _ => 0))), ((q 1), .inl (cT, 60, .inr (.inr (.inr (.inr (fun _ => none)))))), (h0, .inr (1, pv_m 1 q))] := hD
        refine W.widen (k := 3) (n := 4) (Nat.le_of_ble_eq_true rfl) (Nat.le_of_ble_eq_true rfl) ?_
        exact W.iret (v := 0) hx hb hr (fun t ht hW => ⟨⟨0, 1, rfl, Or.inr ⟨rfl, fun h => a_31 (pv_in3.mpr h.2)⟩, pv_m 1 q, rfl, (by rw [ht]; exact hP.sub [2] rfl), va_K.moved hW.alike (hK.sub [] rfl), hD.sub [2] (by decide) rfl⟩, hS.F ht⟩) hS.2.2 dX13_variable_30
    · refine lv_if_eq (tgt := 25) hx hb dX13_variable_13 (by decide) (fun _ => ?_) (fun c_55 => absurd (by decide) c_55)
      refine lv_aload_n hx hb dX13_variable_25 rfl (lv_at hl 0 rfl) ?_
      refine lv_iconst (v := 1) hx hb dX13_variable_26 (by decide) ?_
      have hF := va_free (wc := [(h0, .inr (1, pv_m 0 q))]) hD hS hA [0] rfl
      refine va_calli (va_runV (As := [.int 1]) (rest := []) ⟨hx, hb, hml, hown, hts⟩ (c_X13_fails l hfl D _ h0 q 1) (cwV 1 hts (pv_gV w9_113 w9_115 wp5_9 w1_10 w9_116) rfl rfl rfl (by decide +kernel) ⟨Nat.le_of_ble_eq_true rfl, Nat.le_of_ble_eq_true rfl⟩) (pv_pV hE hS hF (hP.sub [0] rfl) (hK.sub [] rfl) (hD.sub [0] (by decide) rfl) (va_recv (ci := 1) (q0 := 0) hK hP rfl rfl)) rfl rfl hl.1 rfl (lv_room (Nat.le_of_ble_eq_true rfl)) dX13_variable_27 ⟨Nat.le_of_ble_eq_true rfl, Nat.le_of_ble_eq_true rfl⟩) hS (fun q _ h => hF q h) hF (fun r_55 u t H1 locs1 ht hvm hw hB hz1 hk1 hS => ?_)
      refine W.widen (k := 0) (n := 0) (Nat.le_of_ble_eq_true rfl) (Nat.le_of_ble_eq_true rfl) ?_
      obtain rfl := hw
      obtain ⟨hP1, hK1, hD1⟩ := hB
      rw [ht] at hP1
      have hK1 := va_K.moved hvm.symm hK1
      obtain ⟨hP, hD⟩ := va_join (wr := [((q 0), .inl (cI, 60, .inl (fun _ => 0))), ((q 1), .inl (cT, 60, .inr (.inr (.inr (.inr (fun _ => none))))))]) (w1 := [(h0, .inr (1, pv_m 1 q))]) hP hD [0] [1, 2] rfl rfl (by decide) (by decide) hk1 hF hP1 hD1
      have hP : va_P D pv_cl [((q 0), .inl (cI, 60, .inl (fun _ => 0))), ((q 1), .inl (cT, 60, .inr (.inr (.inr (.inr (fun _ => none)))))), (h0, .inr (1, pv_m 1 q))] _ := hP
      have hD : va_D A [((q 0), .inl (cI, 60, .inl (fun _ => 0))), ((q 1), .inl (cT, 60, .inr (.inr (.inr (.inr (fun _ => none)))))), (h0, .inr (1, pv_m 1 q))] := hD
      refine W.widen (k := 3) (n := 4) (Nat.le_of_ble_eq_true rfl) (Nat.le_of_ble_eq_true rfl) ?_
      exact W.iret (v := 0) hx hb hr (fun t ht hW => ⟨⟨0, 1, rfl, Or.inr ⟨rfl, fun h => pv_no2 c_1 a_28 h.1⟩, pv_m 1 q, rfl, (by rw [ht]; exact hP.sub [2] rfl), va_K.moved hW.alike (hK.sub [] rfl), hD.sub [2] (by decide) rfl⟩, hS.F ht⟩) hS.2.2 dX13_variable_30

theorem dX13_setOrder_0 : decode cX13_setOrder 0 = .ok (.aload_n 0, 1) := by decide +kernel
theorem dX13_setOrder_1 : decode cX13_setOrder 1 = .ok (.iload_n 1, 1) := by decide +kernel
theorem dX13_setOrder_2 : decode cX13_setOrder 2 = .ok (.bipush 108, 2) := by decide +kernel
theorem dX13_setOrder_4 : decode cX13_setOrder 4 = .ok (.if_icmp .eq 15, 3) := by decide +kernel
theorem dX13_setOrder_19 : decode cX13_setOrder 19 = .ok (.iconst 0, 1) := by decide +kernel
theorem dX13_setOrder_20 : decode cX13_setOrder 20 = .ok (.goto 4, 3) := by decide +kernel
theorem dX13_setOrder_24 : decode cX13_setOrder 24 = .ok (.putfield 122, 3) := by decide +kernel
theorem dX13_setOrder_27 : decode cX13_setOrder 27 = .ok (.aload_n 0, 1) := by decide +kernel
theorem dX13_setOrder_28 : decode cX13_setOrder 28 = .ok (.getfield 122, 3) := by decide +kernel
theorem dX13_setOrder_31 : decode cX13_setOrder 31 = .ok (.ifCond .le 5, 3) := by decide +kernel
theorem dX13_setOrder_36 : decode cX13_setOrder 36 = .ok (.aload_n 0, 1) := by decide +kernel
theorem dX13_setOrder_37 : decode cX13_setOrder 37 = .ok (.getfield 7, 3) := by decide +kernel
theorem w8_206 : (Jvm.Cond.fieldLink "PolyforgeModel" (7 : Nat) "PolyforgeModel" "order" "C") ∈ lw_tbl := pv_t8 (pv_mg 206 rfl)
theorem dX13_setOrder_40 : decode cX13_setOrder 40 = .ok (.istore_n 2, 1) := by decide +kernel
theorem dX13_setOrder_41 : decode cX13_setOrder 41 = .ok (.aload_n 0, 1) := by decide +kernel
theorem dX13_setOrder_42 : decode cX13_setOrder 42 = .ok (.iload_n 1, 1) := by decide +kernel
theorem dX13_setOrder_43 : decode cX13_setOrder 43 = .ok (.putfield 7, 3) := by decide +kernel
theorem dX13_setOrder_46 : decode cX13_setOrder 46 = .ok (.iload_n 2, 1) := by decide +kernel
theorem dX13_setOrder_47 : decode cX13_setOrder 47 = .ok (.ireturn, 1) := by decide +kernel
theorem dX13_setOrder_7 : decode cX13_setOrder 7 = .ok (.iload_n 1, 1) := by decide +kernel
theorem dX13_setOrder_8 : decode cX13_setOrder 8 = .ok (.bipush 100, 2) := by decide +kernel
theorem dX13_setOrder_10 : decode cX13_setOrder 10 = .ok (.if_icmp .eq 9, 3) := by decide +kernel
theorem dX13_setOrder_13 : decode cX13_setOrder 13 = .ok (.iload_n 1, 1) := by decide +kernel
theorem dX13_setOrder_14 : decode cX13_setOrder 14 = .ok (.bipush 114, 2) := by decide +kernel
theorem dX13_setOrder_16 : decode cX13_setOrder 16 = .ok (.if_icmp .ne 7, 3) := by decide +kernel
theorem dX13_setOrder_23 : decode cX13_setOrder 23 = .ok (.iconst 1, 1) := by decide +kernel
theorem dX13_setOrder_34 : decode cX13_setOrder 34 = .ok (.iconst 0, 1) := by decide +kernel
theorem dX13_setOrder_35 : decode cX13_setOrder 35 = .ok (.ireturn, 1) := by decide +kernel
set_option maxHeartbeats 4000000 in
set_option maxRecDepth 100000 in
/-- setOrder on a fresh object -/
theorem c_X13_setOrder (l : Launch) (hfl : l.stackTraces = false) (D : va_G) (sz : Nat) (h0 : Nat) (q : Nat → Nat) (p0 : Int32) : Met l yX13_setOrder (Cond.code yX13_setOrder cX13_setOrder 3 (some .char) :: pv_W) ({ frames := 0, cells := 0, slots := 0, locals := 0 } : Room) (va_Pc [.ref h0, .int p0] (pv_P D [] [(h0, .inr (1, pv_m 0 q))] (va_A [(h0, .inr (1, pv_m 0 q))] sz) sz)) (va_Qi (fun r (u : Int32) => (u = 0 ∧ r = 108 ∧ pv_od p0) ∨ (u = 1 ∧ ¬ pv_od p0)) (fun (u : Int32) t => ∃ fs : List Value, fs[0]? = some (.int u) ∧ va_P D pv_cl [(h0, .inr (1, fs))] t.heap ∧ va_K D pv_cl [] t ∧ va_D (va_A [(h0, .inr (1, pv_m 0 q))] sz) [(h0, .inr (1, fs))]) (va_A [(h0, .inr (1, pv_m 0 q))] sz)) 0 0 (va_A [(h0, .inr (1, pv_m 0 q))] sz) := by
  refine Met.ofW (cc := cX13_setOrder) (maxL := 3) (ret := (some .char)) (by decide) rfl ?_
  intro p e s m args below meth c s₁ B hml hv
  obtain ⟨rfl, hsz, hE, hP, hK, hD0⟩ := hv
  have hx := B.exec
  have hb := B.bytes
  have hr := B.returns
  have hts := fun (w : Cond) (h : w ∈ pv_W) => atoms_spec (ws := Cond.code yX13_setOrder cX13_setOrder 3 (some .char) :: pv_W) B.pre w (List.mem_cons_of_mem _ h)
  have hg := fun {w : Cond} (h : w ∈ lw_tbl) (g : goodWord w = true) => hts w (pv_in h g)
  have hown : s.vm.findClass RX13 = some m.cls := findClass_of_methodNamed B.named
  have hlocks := B.notSynchronized
  subst hsz
  have hD := hD0.self (sz := s.heap.size)
  generalize hAe : va_A [(h0, .inr (1, pv_m 0 q))] s.heap.size = A at hD hE ⊢
  have hA : ∀ q : Nat, s.heap.size ≤ q → A q := fun q h => by rw [← hAe]; exact Or.inr h
  have hS : va_S A s.heap s.heap [] := va_S.rf
  have hP : va_P D pv_cl [(h0, .inr (1, pv_m 0 q))] s.heap := hP
  have hl := lv_entry ([.ref h0, .int p0]) (n := 3) (Nat.le_of_ble_eq_true rfl)
  rw [lg_entry_eq]
  generalize (lg_sl ([.ref h0, .int p0]) ++ List.replicate (3 - (lg_sl ([.ref h0, .int p0])).length) Slot.unset).toArray = ls at hl ⊢
  have hl : lv_has ls 3 [(0, .ref h0), (1, .int p0)] := hl
  refine lv_aload_n hx hb dX13_setOrder_0 rfl (lv_at hl 0 rfl) ?_
  refine lv_iload_n hx hb dX13_setOrder_1 rfl (lv_at hl 1 rfl) ?_
  refine lv_bipush (v := 108) hx hb dX13_setOrder_2 (by decide) ?_
  refine lv_icmp_eq (tgt := 19) hx hb dX13_setOrder_4 (by decide) (fun c_1 => ?_) (fun c_1 => ?_)
  · refine lv_iconst (v := 0) hx hb dX13_setOrder_19 (by decide) ?_
    refine lv_goto (tgt := 24) hx hb dX13_setOrder_20 (by decide) ?_
    refine va_put (own := RX13) (D := D) (ci := 1) (v := .int 0) (ty := .int) (C := RX13) (T := TX13) (N := 45) hx hb hts inF13 tyX13 tyX13_ok nmX13 hown hK hP hD hS 0 rfl rfl 0 (by decide) (hg w8_205 rfl) (fun _ h9 => h9) rfl (by decide +kernel) rfl rfl (Nat.le_of_ble_eq_true rfl) dX13_setOrder_24 (fun H locs hP hD hS => ?_)
    have hP : va_P D pv_cl [(h0, .inr (1, pv_m 0 q))] _ := hP
    have hD : va_D A [(h0, .inr (1, pv_m 0 q))] := hD
    refine lv_aload_n hx hb dX13_setOrder_27 rfl (lv_at hl 0 rfl) ?_
    refine va_get (own := RX13) (D := D) (ci := 1) (v := .int 0) (C := RX13) (T := TX13) (N := 45) hx hb hts inF13 hown hK hP 0 rfl rfl 0 (by decide) (hg w8_205 rfl) (fun _ h9 => h9) rfl dX13_setOrder_28 ?_
    refine lv_if_le (tgt := 36) hx hb dX13_setOrder_31 (by decide) (fun _ => ?_) (fun c_2 => absurd (by decide) c_2)
    refine lv_aload_n hx hb dX13_setOrder_36 rfl (lv_at hl 0 rfl) ?_
    refine va_get (own := RX13) (D := D) (ci := 1) (v := .int 108) (C := RX13) (T := TX13) (N := 45) hx hb hts inF13 hown hK hP 0 rfl rfl 1 (by decide) (hg w8_206 rfl) (fun _ h9 => h9) rfl dX13_setOrder_37 ?_
    refine lv_istore_n (lv' := [(2, .int 108), (0, .ref h0), (1, .int p0)]) hx hb dX13_setOrder_40 rfl hl (by decide) rfl (fun ls hl => ?_)
    refine lv_aload_n hx hb dX13_setOrder_41 rfl (lv_at hl 1 rfl) ?_
    refine lv_iload_n hx hb dX13_setOrder_42 rfl (lv_at hl 2 rfl) ?_
    have hod : pv_od p0 := Or.inl c_1
    refine va_put (own := RX13) (D := D) (ci := 1) (v := .int p0) (ty := .char) (C := RX13) (T := TX13) (N := 45) hx hb hts inF13 tyX13 tyX13_ok nmX13 hown hK hP hD hS 0 rfl rfl 1 (by decide) (hg w8_206 rfl) (fun _ h9 => h9) rfl (by decide +kernel) (by rcases hod with rfl | rfl | rfl <;> rfl) (by rcases hod with rfl | rfl | rfl <;> rfl) (Nat.le_of_ble_eq_true rfl) dX13_setOrder_43 (fun H locs hP hD hS => ?_)
    have hP : va_P D pv_cl [(h0, .inr (1, (pv_m 0 q).set 1 (.int p0)))] _ := hP
    have hD : va_D A [(h0, .inr (1, (pv_m 0 q).set 1 (.int p0)))] := hD
    refine lv_iload_n hx hb dX13_setOrder_46 rfl (lv_at hl 0 rfl) ?_
    refine W.widen (k := 0) (n := 0) (Nat.le_of_ble_eq_true rfl) (Nat.le_of_ble_eq_true rfl) ?_
    exact W.zret (v := 108) (ty := .char) hx hb hr rfl (fun t ht hW => ⟨⟨108, 0, rfl, Or.inl ⟨rfl, rfl, hod⟩, (pv_m 0 q).set 1 (.int p0), rfl, (by rw [ht]; exact hP.sub [0] rfl), va_K.moved hW.alike (hK.sub [] rfl), hD.sub [0] (by decide) rfl⟩, hS.F ht⟩) hS.2.2 dX13_setOrder_47
  · refine lv_iload_n hx hb dX13_setOrder_7 rfl (lv_at hl 1 rfl) ?_
    refine lv_bipush (v := 100) hx hb dX13_setOrder_8 (by decide) ?_
    refine lv_icmp_eq (tgt := 19) hx hb dX13_setOrder_10 (by decide) (fun c_3 => ?_) (fun c_3 => ?_)
    · refine lv_iconst (v := 0) hx hb dX13_setOrder_19 (by decide) ?_
      refine lv_goto (tgt := 24) hx hb dX13_setOrder_20 (by decide) ?_
      refine va_put (own := RX13) (D := D) (ci := 1) (v := .int 0) (ty := .int) (C := RX13) (T := TX13) (N := 45) hx hb hts inF13 tyX13 tyX13_ok nmX13 hown hK hP hD hS 0 rfl rfl 0 (by decide) (hg w8_205 rfl) (fun _ h9 => h9) rfl (by decide +kernel) rfl rfl (Nat.le_of_ble_eq_true rfl) dX13_setOrder_24 (fun H locs hP hD hS => ?_)
      have hP : va_P D pv_cl [(h0, .inr (1, pv_m 0 q))] _ := hP
      have hD : va_D A [(h0, .inr (1, pv_m 0 q))] := hD
      refine lv_aload_n hx hb dX13_setOrder_27 rfl (lv_at hl 0 rfl) ?_
      refine va_get (own := RX13) (D := D) (ci := 1) (v := .int 0) (C := RX13) (T := TX13) (N := 45) hx hb hts inF13 hown hK hP 0 rfl rfl 0 (by decide) (hg w8_205 rfl) (fun _ h9 => h9) rfl dX13_setOrder_28 ?_
      refine lv_if_le (tgt := 36) hx hb dX13_setOrder_31 (by decide) (fun _ => ?_) (fun c_4 => absurd (by decide) c_4)
      refine lv_aload_n hx hb dX13_setOrder_36 rfl (lv_at hl 0 rfl) ?_
      refine va_get (own := RX13) (D := D) (ci := 1) (v := .int 108) (C := RX13) (T := TX13) (N := 45) hx hb hts inF13 hown hK hP 0 rfl rfl 1 (by decide) (hg w8_206 rfl) (fun _ h9 => h9) rfl dX13_setOrder_37 ?_
      refine lv_istore_n (lv' := [(2, .int 108), (0, .ref h0), (1, .int p0)]) hx hb dX13_setOrder_40 rfl hl (by decide) rfl (fun ls hl => ?_)
      refine lv_aload_n hx hb dX13_setOrder_41 rfl (lv_at hl 1 rfl) ?_
      refine lv_iload_n hx hb dX13_setOrder_42 rfl (lv_at hl 2 rfl) ?_
      have hod : pv_od p0 := Or.inr (Or.inl c_3)
      refine va_put (own := RX13) (D := D) (ci := 1) (v := .int p0) (ty := .char) (C := RX13) (T := TX13) (N := 45) hx hb hts inF13 tyX13 tyX13_ok nmX13 hown hK hP hD hS 0 rfl rfl 1 (by decide) (hg w8_206 rfl) (fun _ h9 => h9) rfl (by decide +kernel) (by rcases hod with rfl | rfl | rfl <;> rfl) (by rcases hod with rfl | rfl | rfl <;> rfl) (Nat.le_of_ble_eq_true rfl) dX13_setOrder_43 (fun H locs hP hD hS => ?_)
      have hP : va_P D pv_cl [(h0, .inr (1, (pv_m 0 q).set 1 (.int p0)))] _ := hP
      have hD : va_D A [(h0, .inr (1, (pv_m 0 q).set 1 (.int p0)))] := hD
      refine lv_iload_n hx hb dX13_setOrder_46 rfl (lv_at hl 0 rfl) ?_
      refine W.widen (k := 0) (n := 0) (Nat.le_of_ble_eq_true rfl) (Nat.le_of_ble_eq_true rfl) ?_
      exact W.zret (v := 108) (ty := .char) hx hb hr rfl (fun t ht hW => ⟨⟨108, 0, rfl, Or.inl ⟨rfl, rfl, hod⟩, (pv_m 0 q).set 1 (.int p0), rfl, (by rw [ht]; exact hP.sub [0] rfl), va_K.moved hW.alike (hK.sub [] rfl), hD.sub [0] (by decide) rfl⟩, hS.F ht⟩) hS.2.2 dX13_setOrder_47
    · refine lv_iload_n hx hb dX13_setOrder_13 rfl (lv_at hl 1 rfl) ?_
      refine lv_bipush (v := 114) hx hb dX13_setOrder_14 (by decide) ?_
      refine lv_icmp_ne (tgt := 23) hx hb dX13_setOrder_16 (by decide) (fun c_5 => ?_) (fun c_5 => ?_)
      · refine lv_iconst (v := 1) hx hb dX13_setOrder_23 (by decide) ?_
        refine va_put (own := RX13) (D := D) (ci := 1) (v := .int 1) (ty := .int) (C := RX13) (T := TX13) (N := 45) hx hb hts inF13 tyX13 tyX13_ok nmX13 hown hK hP hD hS 0 rfl rfl 0 (by decide) (hg w8_205 rfl) (fun _ h9 => h9) rfl (by decide +kernel) rfl rfl (Nat.le_of_ble_eq_true rfl) dX13_setOrder_24 (fun H locs hP hD hS => ?_)
        have hP : va_P D pv_cl [(h0, .inr (1, pv_m 1 q))] _ := hP
        have hD : va_D A [(h0, .inr (1, pv_m 1 q))] := hD
        refine lv_aload_n hx hb dX13_setOrder_27 rfl (lv_at hl 0 rfl) ?_
        refine va_get (own := RX13) (D := D) (ci := 1) (v := .int 1) (C := RX13) (T := TX13) (N := 45) hx hb hts inF13 hown hK hP 0 rfl rfl 0 (by decide) (hg w8_205 rfl) (fun _ h9 => h9) rfl dX13_setOrder_28 ?_
        refine lv_if_le (tgt := 36) hx hb dX13_setOrder_31 (by decide) (fun c_6 => absurd c_6 (by decide)) (fun _ => ?_)
        refine lv_iconst (v := 0) hx hb dX13_setOrder_34 (by decide) ?_
        refine W.widen (k := 0) (n := 0) (Nat.le_of_ble_eq_true rfl) (Nat.le_of_ble_eq_true rfl) ?_
        exact W.zret (v := 0) (ty := .char) hx hb hr rfl (fun t ht hW => ⟨⟨0, 1, rfl, Or.inr ⟨rfl, pv_no3 c_1 c_3 c_5⟩, pv_m 1 q, rfl, (by rw [ht]; exact hP.sub [0] rfl), va_K.moved hW.alike (hK.sub [] rfl), hD.sub [0] (by decide) rfl⟩, hS.F ht⟩) hS.2.2 dX13_setOrder_35
      · refine lv_iconst (v := 0) hx hb dX13_setOrder_19 (by decide) ?_
        refine lv_goto (tgt := 24) hx hb dX13_setOrder_20 (by decide) ?_
        refine va_put (own := RX13) (D := D) (ci := 1) (v := .int 0) (ty := .int) (C := RX13) (T := TX13) (N := 45) hx hb hts inF13 tyX13 tyX13_ok nmX13 hown hK hP hD hS 0 rfl rfl 0 (by decide) (hg w8_205 rfl) (fun _ h9 => h9) rfl (by decide +kernel) rfl rfl (Nat.le_of_ble_eq_true rfl) dX13_setOrder_24 (fun H locs hP hD hS => ?_)
        have hP : va_P D pv_cl [(h0, .inr (1, pv_m 0 q))] _ := hP
        have hD : va_D A [(h0, .inr (1, pv_m 0 q))] := hD
        refine lv_aload_n hx hb dX13_setOrder_27 rfl (lv_at hl 0 rfl) ?_
        refine va_get (own := RX13) (D := D) (ci := 1) (v := .int 0) (C := RX13) (T := TX13) (N := 45) hx hb hts inF13 hown hK hP 0 rfl rfl 0 (by decide) (hg w8_205 rfl) (fun _ h9 => h9) rfl dX13_setOrder_28 ?_
        refine lv_if_le (tgt := 36) hx hb dX13_setOrder_31 (by decide) (fun _ => ?_) (fun c_7 => absurd (by decide) c_7)
        refine lv_aload_n hx hb dX13_setOrder_36 rfl (lv_at hl 0 rfl) ?_
        refine va_get (own := RX13) (D := D) (ci := 1) (v := .int 108) (C := RX13) (T := TX13) (N := 45) hx hb hts inF13 hown hK hP 0 rfl rfl 1 (by decide) (hg w8_206 rfl) (fun _ h9 => h9) rfl dX13_setOrder_37 ?_
        refine lv_istore_n (lv' := [(2, .int 108), (0, .ref h0), (1, .int p0)]) hx hb dX13_setOrder_40 rfl hl (by decide) rfl (fun ls hl => ?_)
        refine lv_aload_n hx hb dX13_setOrder_41 rfl (lv_at hl 1 rfl) ?_
        refine lv_iload_n hx hb dX13_setOrder_42 rfl (lv_at hl 2 rfl) ?_
        have hod : pv_od p0 := Or.inr (Or.inr (c_5))
        refine va_put (own := RX13) (D := D) (ci := 1) (v := .int p0) (ty := .char) (C := RX13) (T := TX13) (N := 45) hx hb hts inF13 tyX13 tyX13_ok nmX13 hown hK hP hD hS 0 rfl rfl 1 (by decide) (hg w8_206 rfl) (fun _ h9 => h9) rfl (by decide +kernel) (by rcases hod with rfl | rfl | rfl <;> rfl) (by rcases hod with rfl | rfl | rfl <;> rfl) (Nat.le_of_ble_eq_true rfl) dX13_setOrder_43 (fun H locs hP hD hS => ?_)
        have hP : va_P D pv_cl [(h0, .inr (1, (pv_m 0 q).set 1 (.int p0)))] _ := hP
        have hD : va_D A [(h0, .inr (1, (pv_m 0 q).set 1 (.int p0)))] := hD
        refine lv_iload_n hx hb dX13_setOrder_46 rfl (lv_at hl 0 rfl) ?_
        refine W.widen (k := 0) (n := 0) (Nat.le_of_ble_eq_true rfl) (Nat.le_of_ble_eq_true rfl) ?_
        exact W.zret (v := 108) (ty := .char) hx hb hr rfl (fun t ht hW => ⟨⟨108, 0, rfl, Or.inl ⟨rfl, rfl, hod⟩, (pv_m 0 q).set 1 (.int p0), rfl, (by rw [ht]; exact hP.sub [0] rfl), va_K.moved hW.alike (hK.sub [] rfl), hD.sub [0] (by decide) rfl⟩, hS.F ht⟩) hS.2.2 dX13_setOrder_47

theorem dX13_addIdeal_0 : decode cX13_addIdeal 0 = .ok (.aload_n 0, 1) := by decide +kernel
theorem dX13_addIdeal_1 : decode cX13_addIdeal 1 = .ok (.iconst 0, 1) := by decide +kernel
theorem dX13_addIdeal_2 : decode cX13_addIdeal 2 = .ok (.putfield 122, 3) := by decide +kernel
theorem dX13_addIdeal_5 : decode cX13_addIdeal 5 = .ok (.iload_n 1, 1) := by decide +kernel
theorem dX13_addIdeal_6 : decode cX13_addIdeal 6 = .ok (.invokestatic 206, 3) := by decide +kernel
theorem dX13_addIdeal_9 : decode cX13_addIdeal 9 = .ok (.ifCond .ne 9, 3) := by decide +kernel
theorem dX13_addIdeal_18 : decode cX13_addIdeal 18 = .ok (.aload_n 0, 1) := by decide +kernel
theorem dX13_addIdeal_19 : decode cX13_addIdeal 19 = .ok (.getfield 399, 3) := by decide +kernel
theorem dX13_addIdeal_22 : decode cX13_addIdeal 22 = .ok (.iconst 5, 1) := by decide +kernel
theorem dX13_addIdeal_23 : decode cX13_addIdeal 23 = .ok (.if_icmp .ne 9, 3) := by decide +kernel
theorem dX13_addIdeal_32 : decode cX13_addIdeal 32 = .ok (.aload_n 0, 1) := by decide +kernel
theorem dX13_addIdeal_33 : decode cX13_addIdeal 33 = .ok (.getfield 23, 3) := by decide +kernel
theorem w8_212 : (Jvm.Cond.fieldLink "PolyforgeModel" (23 : Nat) "PolyforgeModel" "idealPrime" "[I") ∈ lw_tbl := pv_t8 (pv_mg 212 rfl)
theorem dX13_addIdeal_36 : decode cX13_addIdeal 36 = .ok (.aload_n 0, 1) := by decide +kernel
theorem dX13_addIdeal_37 : decode cX13_addIdeal 37 = .ok (.getfield 399, 3) := by decide +kernel
theorem dX13_addIdeal_40 : decode cX13_addIdeal 40 = .ok (.iload_n 1, 1) := by decide +kernel
theorem dX13_addIdeal_41 : decode cX13_addIdeal 41 = .ok (.iastore, 1) := by decide +kernel
theorem dX13_addIdeal_42 : decode cX13_addIdeal 42 = .ok (.aload_n 0, 1) := by decide +kernel
theorem dX13_addIdeal_43 : decode cX13_addIdeal 43 = .ok (.dup, 1) := by decide +kernel
theorem dX13_addIdeal_44 : decode cX13_addIdeal 44 = .ok (.getfield 399, 3) := by decide +kernel
theorem dX13_addIdeal_47 : decode cX13_addIdeal 47 = .ok (.iconst 1, 1) := by decide +kernel
theorem dX13_addIdeal_48 : decode cX13_addIdeal 48 = .ok (.iadd, 1) := by decide +kernel
theorem dX13_addIdeal_49 : decode cX13_addIdeal 49 = .ok (.putfield 399, 3) := by decide +kernel
theorem dX13_addIdeal_52 : decode cX13_addIdeal 52 = .ok (.aload_n 0, 1) := by decide +kernel
theorem dX13_addIdeal_53 : decode cX13_addIdeal 53 = .ok (.getfield 399, 3) := by decide +kernel
theorem dX13_addIdeal_56 : decode cX13_addIdeal 56 = .ok (.iconst 1, 1) := by decide +kernel
theorem dX13_addIdeal_57 : decode cX13_addIdeal 57 = .ok (.isub, 1) := by decide +kernel
theorem dX13_addIdeal_58 : decode cX13_addIdeal 58 = .ok (.ireturn, 1) := by decide +kernel
theorem dX13_addIdeal_12 : decode cX13_addIdeal 12 = .ok (.aload_n 0, 1) := by decide +kernel
theorem dX13_addIdeal_13 : decode cX13_addIdeal 13 = .ok (.iconst 1, 1) := by decide +kernel
theorem dX13_addIdeal_14 : decode cX13_addIdeal 14 = .ok (.invokevirtual 185, 3) := by decide +kernel
theorem dX13_addIdeal_17 : decode cX13_addIdeal 17 = .ok (.ireturn, 1) := by decide +kernel
set_option maxHeartbeats 4000000 in
set_option maxRecDepth 100000 in
/-- addIdeal on a fresh object -/
theorem c_X13_addIdeal (l : Launch) (hfl : l.stackTraces = false) (D : va_G) (sz : Nat) (h0 : Nat) (q : Nat → Nat) (cI : ClassId) (p0 : Int32) : Met l yX13_addIdeal (Cond.code yX13_addIdeal cX13_addIdeal 2 (some .int) :: pv_W) ({ frames := 1, cells := 0, slots := 0, locals := 21 } : Room) (va_Pc [.ref h0, .int p0] (pv_P D [(cI, .int)] [(h0, .inr (1, pv_m 0 q)), ((q 2), .inl (cI, 5, .inl (fun _ => 0)))] (va_A [(h0, .inr (1, pv_m 0 q)), ((q 2), .inl (cI, 5, .inl (fun _ => 0)))] sz) sz)) (va_Qi (fun r (u : Int32) => (u = 0 ∧ r = 0 ∧ pv_pr p0) ∨ (u = 1 ∧ ¬ pv_pr p0)) (fun (u : Int32) t => ∃ fs : List Value, fs[0]? = some (.int u) ∧ va_P D pv_cl [(h0, .inr (1, fs))] t.heap ∧ va_K D pv_cl [] t ∧ va_D (va_A [(h0, .inr (1, pv_m 0 q)), ((q 2), .inl (cI, 5, .inl (fun _ => 0)))] sz) [(h0, .inr (1, fs))]) (va_A [(h0, .inr (1, pv_m 0 q)), ((q 2), .inl (cI, 5, .inl (fun _ => 0)))] sz)) 0 0 (va_A [(h0, .inr (1, pv_m 0 q)), ((q 2), .inl (cI, 5, .inl (fun _ => 0)))] sz) := by
  refine Met.ofW (cc := cX13_addIdeal) (maxL := 2) (ret := (some .int)) (by decide) rfl ?_
  intro p e s m args below meth c s₁ B hml hv
  obtain ⟨rfl, hsz, hE, hP, hK, hD0⟩ := hv
  have hx := B.exec
  have hb := B.bytes
  have hr := B.returns
  have hts := fun (w : Cond) (h : w ∈ pv_W) => atoms_spec (ws := Cond.code yX13_addIdeal cX13_addIdeal 2 (some .int) :: pv_W) B.pre w (List.mem_cons_of_mem _ h)
  have hg := fun {w : Cond} (h : w ∈ lw_tbl) (g : goodWord w = true) => hts w (pv_in h g)
  have hown : s.vm.findClass RX13 = some m.cls := findClass_of_methodNamed B.named
  have hlocks := B.notSynchronized
  subst hsz
  have hD := hD0.self (sz := s.heap.size)
  generalize hAe : va_A [(h0, .inr (1, pv_m 0 q)), ((q 2), .inl (cI, 5, .inl (fun _ => 0)))] s.heap.size = A at hD hE ⊢
  have hA : ∀ q : Nat, s.heap.size ≤ q → A q := fun q h => by rw [← hAe]; exact Or.inr h
  have hS : va_S A s.heap s.heap [] := va_S.rf
  have hP : va_P D pv_cl [(h0, .inr (1, pv_m 0 q)), ((q 2), .inl (cI, 5, .inl (fun _ => 0)))] s.heap := hP
  have hl := lv_entry ([.ref h0, .int p0]) (n := 2) (Nat.le_of_ble_eq_true rfl)
  rw [lg_entry_eq]
  generalize (lg_sl ([.ref h0, .int p0]) ++ List.replicate (2 - (lg_sl ([.ref h0, .int p0])).length) Slot.unset).toArray = ls at hl ⊢
  have hl : lv_has ls 2 [(0, .ref h0), (1, .int p0)] := hl
  refine lv_aload_n hx hb dX13_addIdeal_0 rfl (lv_at hl 0 rfl) ?_
  refine lv_iconst (v := 0) hx hb dX13_addIdeal_1 (by decide) ?_
  refine va_put (own := RX13) (D := D) (ci := 1) (v := .int 0) (ty := .int) (C := RX13) (T := TX13) (N := 45) hx hb hts inF13 tyX13 tyX13_ok nmX13 hown hK hP hD hS 0 rfl rfl 0 (by decide) (hg w8_205 rfl) (fun _ h9 => h9) rfl (by decide +kernel) rfl rfl (Nat.le_of_ble_eq_true rfl) dX13_addIdeal_2 (fun H locs hP hD hS => ?_)
  have hP : va_P D pv_cl [(h0, .inr (1, pv_m 0 q)), ((q 2), .inl (cI, 5, .inl (fun _ => 0)))] _ := hP
  have hD : va_D A [(h0, .inr (1, pv_m 0 q)), ((q 2), .inl (cI, 5, .inl (fun _ => 0)))] := hD
  refine lv_iload_n hx hb dX13_addIdeal_5 rfl (lv_at hl 1 rfl) ?_
  have hF := pv_new hA hS.1
  refine va_calli (va_runS (As := [.int p0]) (rest := []) ⟨hx, hb, hml, hown, hts⟩ (c_X13_isPrime l hfl D _ p0) (va_cwS 1 hts (pv_gS w9_110 w9_111 w1_10 w9_112) rfl rfl rfl (by decide +kernel) ⟨Nat.le_of_ble_eq_true rfl, Nat.le_of_ble_eq_true rfl⟩) (pv_ps hE hS hF (hP.sub [] rfl) (hK.sub [] rfl) (hD.sub [] (by decide) rfl)) rfl rfl hl.1 rfl (lv_room (Nat.le_of_ble_eq_true rfl)) dX13_addIdeal_6 ⟨Nat.le_of_ble_eq_true rfl, Nat.le_of_ble_eq_true rfl⟩) hS (fun q _ h => hF q h) hF (fun r_0 u t H1 locs1 ht hvm hw hB hz1 hk1 hS => ?_)
  refine W.widen (k := 0) (n := 0) (Nat.le_of_ble_eq_true rfl) (Nat.le_of_ble_eq_true rfl) ?_
  have hP := pv_keep hP rfl hk1
  rcases hw with ⟨rfl, a_2⟩ | ⟨rfl, a_2⟩
  · refine lv_if_ne (tgt := 18) hx hb dX13_addIdeal_9 (by decide) (fun _ => ?_) (fun c_3 => absurd c_3 (by decide))
    refine lv_aload_n hx hb dX13_addIdeal_18 rfl (lv_at hl 0 rfl) ?_
    refine va_get (own := RX13) (D := D) (ci := 1) (v := .int 0) (C := RX13) (T := TX13) (N := 45) hx hb hts inF13 hown hK hP 0 rfl rfl 6 (by decide) (hg w8_211 rfl) (fun _ h9 => h9) rfl dX13_addIdeal_19 ?_
    refine lv_iconst (v := 5) hx hb dX13_addIdeal_22 (by decide) ?_
    refine lv_icmp_ne (tgt := 32) hx hb dX13_addIdeal_23 (by decide) (fun _ => ?_) (fun c_4 => absurd c_4 (by decide))
    refine lv_aload_n hx hb dX13_addIdeal_32 rfl (lv_at hl 0 rfl) ?_
    refine va_get (own := RX13) (D := D) (ci := 1) (v := .ref (q 2)) (C := RX13) (T := TX13) (N := 45) hx hb hts inF13 hown hK hP 0 rfl rfl 7 (by decide) (hg w8_212 rfl) (fun _ h9 => h9) rfl dX13_addIdeal_33 ?_
    refine lv_aload_n hx hb dX13_addIdeal_36 rfl (lv_at hl 0 rfl) ?_
    refine va_get (own := RX13) (D := D) (ci := 1) (v := .int 0) (C := RX13) (T := TX13) (N := 45) hx hb hts inF13 hown hK hP 0 rfl rfl 6 (by decide) (hg w8_211 rfl) (fun _ h9 => h9) rfl dX13_addIdeal_37 ?_
    refine lv_iload_n hx hb dX13_addIdeal_40 rfl (lv_at hl 1 rfl) ?_
    refine va_iast hx hb hK hP hD hS 1 0 rfl rfl (by unfold vp_in; decide) dX13_addIdeal_41 (fun H locs hP hD hS => ?_)
    have hP : va_P D pv_cl [(h0, .inr (1, pv_m 0 q)), ((q 2), .inl (cI, 5, .inl (upd (fun _ => 0) (0 : Int32).toNatClampNeg p0)))] _ := hP
    have hD : va_D A [(h0, .inr (1, pv_m 0 q)), ((q 2), .inl (cI, 5, .inl (upd (fun _ => 0) (0 : Int32).toNatClampNeg p0)))] := hD
    refine lv_aload_n hx hb dX13_addIdeal_42 rfl (lv_at hl 0 rfl) ?_
    refine lv_dup hx hb dX13_addIdeal_43 rfl ?_
    refine va_get (own := RX13) (D := D) (ci := 1) (v := .int 0) (C := RX13) (T := TX13) (N := 45) hx hb hts inF13 hown hK hP 0 rfl rfl 6 (by decide) (hg w8_211 rfl) (fun _ h9 => h9) rfl dX13_addIdeal_44 ?_
    refine lv_iconst (v := 1) hx hb dX13_addIdeal_47 (by decide) ?_
    refine lv_iadd hx hb dX13_addIdeal_48 ?_
    refine pv_setI 1 (by decide) ?_
    refine va_put (own := RX13) (D := D) (ci := 1) (v := .int 1) (ty := .int) (C := RX13) (T := TX13) (N := 45) hx hb hts inF13 tyX13 tyX13_ok nmX13 hown hK hP hD hS 0 rfl rfl 6 (by decide) (hg w8_211 rfl) (fun _ h9 => h9) rfl (by decide +kernel) rfl rfl (Nat.le_of_ble_eq_true rfl) dX13_addIdeal_49 (fun H locs hP hD hS => ?_)
    have hP : va_P D pv_cl [(h0, .inr (1, (pv_m 0 q).set 6 (.int 1))), ((q 2), .inl (cI, 5, .inl (upd (fun _ => 0) (0 : Int32).toNatClampNeg p0)))] _ := hP
    have hD : va_D A [(h0, .inr (1, (pv_m 0 q).set 6 (.int 1))), ((q 2), .inl (cI, 5, .inl (upd (fun _ => 0) (0 : Int32).toNatClampNeg p0)))] := hD
    refine lv_aload_n hx hb dX13_addIdeal_52 rfl (lv_at hl 0 rfl) ?_
    refine va_get (own := RX13) (D := D) (ci := 1) (v := .int 1) (C := RX13) (T := TX13) (N := 45) hx hb hts inF13 hown hK hP 0 rfl rfl 6 (by decide) (hg w8_211 rfl) (fun _ h9 => h9) rfl dX13_addIdeal_53 ?_
    refine lv_iconst (v := 1) hx hb dX13_addIdeal_56 (by decide) ?_
    refine lv_isub hx hb dX13_addIdeal_57 ?_
    refine pv_setI 0 (by decide) ?_
    refine W.widen (k := 0) (n := 0) (Nat.le_of_ble_eq_true rfl) (Nat.le_of_ble_eq_true rfl) ?_
    exact W.iret (v := 0) hx hb hr (fun t ht hW => ⟨⟨0, 0, rfl, Or.inl ⟨rfl, rfl, a_2⟩, (pv_m 0 q).set 6 (.int 1), rfl, (by rw [ht]; exact hP.sub [0] rfl), va_K.moved hW.alike (hK.sub [] rfl), hD.sub [0] (by decide) rfl⟩, hS.F ht⟩) hS.2.2 dX13_addIdeal_58
  · refine lv_if_ne (tgt := 18) hx hb dX13_addIdeal_9 (by decide) (fun c_5 => absurd (by decide) c_5) (fun _ => ?_)
    refine lv_aload_n hx hb dX13_addIdeal_12 rfl (lv_at hl 0 rfl) ?_
    refine lv_iconst (v := 1) hx hb dX13_addIdeal_13 (by decide) ?_
    have hF := va_free (wc := [(h0, .inr (1, pv_m 0 q))]) hD hS hA [0] rfl
    refine va_calli (va_runV (As := [.int 1]) (rest := []) ⟨hx, hb, hml, hown, hts⟩ (c_X13_fails l hfl D _ h0 q 1) (cwV 1 hts (pv_gV w9_113 w9_115 wp5_9 w1_10 w9_116) rfl rfl rfl (by decide +kernel) ⟨Nat.le_of_ble_eq_true rfl, Nat.le_of_ble_eq_true rfl⟩) (pv_pV hE hS hF (hP.sub [0] rfl) (hK.sub [] rfl) (hD.sub [0] (by decide) rfl) (va_recv (ci := 1) (q0 := 0) hK hP rfl rfl)) rfl rfl hl.1 rfl (lv_room (Nat.le_of_ble_eq_true rfl)) dX13_addIdeal_14 ⟨Nat.le_of_ble_eq_true rfl, Nat.le_of_ble_eq_true rfl⟩) hS (fun q _ h => hF q h) hF (fun r_5 u t H1 locs1 ht hvm hw hB hz1 hk1 hS => ?_)
    refine W.widen (k := 0) (n := 0) (Nat.le_of_ble_eq_true rfl) (Nat.le_of_ble_eq_true rfl) ?_
    obtain rfl := hw
    obtain ⟨hP1, hK1, hD1⟩ := hB
    rw [ht] at hP1
    have hK1 := va_K.moved hvm.symm hK1
    obtain ⟨hP, hD⟩ := va_join (wr := [((q 2), .inl (cI, 5, .inl (fun _ => 0)))]) (w1 := [(h0, .inr (1, pv_m 1 q))]) hP hD [0] [1] rfl rfl (by decide) (by decide) hk1 hF hP1 hD1
    have hP : va_P D pv_cl [((q 2), .inl (cI, 5, .inl (fun _ => 0))), (h0, .inr (1, pv_m 1 q))] _ := hP
    have hD : va_D A [((q 2), .inl (cI, 5, .inl (fun _ => 0))), (h0, .inr (1, pv_m 1 q))] := hD
    refine W.widen (k := 0) (n := 0) (Nat.le_of_ble_eq_true rfl) (Nat.le_of_ble_eq_true rfl) ?_
    exact W.iret (v := 0) hx hb hr (fun t ht hW => ⟨⟨0, 1, rfl, Or.inr ⟨rfl, a_2⟩, pv_m 1 q, rfl, (by rw [ht]; exact hP.sub [1] rfl), va_K.moved hW.alike (hK.sub [] rfl), hD.sub [1] (by decide) rfl⟩, hS.F ht⟩) hS.2.2 dX13_addIdeal_17

theorem dX13_openFrame_0 : decode cX13_openFrame 0 = .ok (.aload_n 0, 1) := by decide +kernel
theorem dX13_openFrame_1 : decode cX13_openFrame 1 = .ok (.iconst 0, 1) := by decide +kernel
theorem dX13_openFrame_2 : decode cX13_openFrame 2 = .ok (.putfield 122, 3) := by decide +kernel
theorem dX13_openFrame_5 : decode cX13_openFrame 5 = .ok (.aload_n 0, 1) := by decide +kernel
theorem dX13_openFrame_6 : decode cX13_openFrame 6 = .ok (.getfield 45, 3) := by decide +kernel
theorem w8_220 : (Jvm.Cond.fieldLink "PolyforgeModel" (45 : Nat) "PolyforgeModel" "frames" "I") ∈ lw_tbl := pv_t8 (pv_mg 220 rfl)
theorem dX13_openFrame_9 : decode cX13_openFrame 9 = .ok (.bipush 6, 2) := by decide +kernel
theorem dX13_openFrame_11 : decode cX13_openFrame 11 = .ok (.if_icmp .ne 9, 3) := by decide +kernel
theorem dX13_openFrame_20 : decode cX13_openFrame 20 = .ok (.aload_n 0, 1) := by decide +kernel
theorem dX13_openFrame_21 : decode cX13_openFrame 21 = .ok (.dup, 1) := by decide +kernel
theorem dX13_openFrame_22 : decode cX13_openFrame 22 = .ok (.getfield 45, 3) := by decide +kernel
theorem dX13_openFrame_25 : decode cX13_openFrame 25 = .ok (.iconst 1, 1) := by decide +kernel
theorem dX13_openFrame_26 : decode cX13_openFrame 26 = .ok (.iadd, 1) := by decide +kernel
theorem dX13_openFrame_27 : decode cX13_openFrame 27 = .ok (.putfield 45, 3) := by decide +kernel
theorem dX13_openFrame_30 : decode cX13_openFrame 30 = .ok (.aload_n 0, 1) := by decide +kernel
theorem dX13_openFrame_31 : decode cX13_openFrame 31 = .ok (.getfield 45, 3) := by decide +kernel
theorem dX13_openFrame_34 : decode cX13_openFrame 34 = .ok (.ireturn, 1) := by decide +kernel
set_option maxHeartbeats 4000000 in
set_option maxRecDepth 100000 in
/-- openFrame on a fresh object -/
theorem c_X13_openFrame (l : Launch) (hfl : l.stackTraces = false) (D : va_G) (sz : Nat) (h0 : Nat) (q : Nat → Nat) : Met l yX13_openFrame (Cond.code yX13_openFrame cX13_openFrame 1 (some .int) :: pv_W) ({ frames := 0, cells := 0, slots := 0, locals := 0 } : Room) (va_Pc [.ref h0] (pv_P D [] [(h0, .inr (1, pv_m 0 q))] (va_A [(h0, .inr (1, pv_m 0 q))] sz) sz)) (va_Qi (fun r (u : Int32) => u = 0 ∧ r = 2) (fun (u : Int32) t => ∃ fs : List Value, fs[0]? = some (.int u) ∧ va_P D pv_cl [(h0, .inr (1, fs))] t.heap ∧ va_K D pv_cl [] t ∧ va_D (va_A [(h0, .inr (1, pv_m 0 q))] sz) [(h0, .inr (1, fs))]) (va_A [(h0, .inr (1, pv_m 0 q))] sz)) 0 0 (va_A [(h0, .inr (1, pv_m 0 q))] sz) := by
  refine Met.ofW (cc := cX13_openFrame) (maxL := 1) (ret := (some .int)) (by decide) rfl ?_
  intro p e s m args below meth c s₁ B hml hv
  obtain ⟨rfl, hsz, hE, hP, hK, hD0⟩ := hv
  have hx := B.exec
  have hb := B.bytes
  have hr := B.returns
  have hts := fun (w : Cond) (h : w ∈ pv_W) => atoms_spec (ws := Cond.code yX13_openFrame cX13_openFrame 1 (some .int) :: pv_W) B.pre w (List.mem_cons_of_mem _ h)
  have hg := fun {w : Cond} (h : w ∈ lw_tbl) (g : goodWord w = true) => hts w (pv_in h g)
  have hown : s.vm.findClass RX13 = some m.cls := findClass_of_methodNamed B.named
  have hlocks := B.notSynchronized
  subst hsz
  have hD := hD0.self (sz := s.heap.size)
  generalize hAe : va_A [(h0, .inr (1, pv_m 0 q))] s.heap.size = A at hD hE ⊢
  have hA : ∀ q : Nat, s.heap.size ≤ q → A q := fun q h => by rw [← hAe]; exact Or.inr h
  have hS : va_S A s.heap s.heap [] := va_S.rf
  have hP : va_P D pv_cl [(h0, .inr (1, pv_m 0 q))] s.heap := hP
  have hl := lv_entry ([.ref h0]) (n := 1) (Nat.le_of_ble_eq_true rfl)
  rw [lg_entry_eq]
  generalize (lg_sl ([.ref h0]) ++ List.replicate (1 - (lg_sl ([.ref h0])).length) Slot.unset).toArray = ls at hl ⊢
  have hl : lv_has ls 1 [(0, .ref h0)] := hl
  refine lv_aload_n hx hb dX13_openFrame_0 rfl (lv_at hl 0 rfl) ?_
  refine lv_iconst (v := 0) hx hb dX13_openFrame_1 (by decide) ?_
  refine va_put (own := RX13) (D := D) (ci := 1) (v := .int 0) (ty := .int) (C := RX13) (T := TX13) (N := 45) hx hb hts inF13 tyX13 tyX13_ok nmX13 hown hK hP hD hS 0 rfl rfl 0 (by decide) (hg w8_205 rfl) (fun _ h9 => h9) rfl (by decide +kernel) rfl rfl (Nat.le_of_ble_eq_true rfl) dX13_openFrame_2 (fun H locs hP hD hS => ?_)
  have hP : va_P D pv_cl [(h0, .inr (1, pv_m 0 q))] _ := hP
  have hD : va_D A [(h0, .inr (1, pv_m 0 q))] := hD
  refine lv_aload_n hx hb dX13_openFrame_5 rfl (lv_at hl 0 rfl) ?_
  refine va_get (own := RX13) (D := D) (ci := 1) (v := .int 1) (C := RX13) (T := TX13) (N := 45) hx hb hts inF13 hown hK hP 0 rfl rfl 15 (by decide) (hg w8_220 rfl) (fun _ h9 => h9) rfl dX13_openFrame_6 ?_
  refine lv_bipush (v := 6) hx hb dX13_openFrame_9 (by decide) ?_
  refine lv_icmp_ne (tgt := 20) hx hb dX13_openFrame_11 (by decide) (fun _ => ?_) (fun c_1 => absurd c_1 (by decide))
  refine lv_aload_n hx hb dX13_openFrame_20 rfl (lv_at hl 0 rfl) ?_
  refine lv_dup hx hb dX13_openFrame_21 rfl ?_
  refine va_get (own := RX13) (D := D) (ci := 1) (v := .int 1) (C := RX13) (T := TX13) (N := 45) hx hb hts inF13 hown hK hP 0 rfl rfl 15 (by decide) (hg w8_220 rfl) (fun _ h9 => h9) rfl dX13_openFrame_22 ?_
  refine lv_iconst (v := 1) hx hb dX13_openFrame_25 (by decide) ?_
  refine lv_iadd hx hb dX13_openFrame_26 ?_
  refine pv_setI 2 (by decide) ?_
  refine va_put (own := RX13) (D := D) (ci := 1) (v := .int 2) (ty := .int) (C := RX13) (T := TX13) (N := 45) hx hb hts inF13 tyX13 tyX13_ok nmX13 hown hK hP hD hS 0 rfl rfl 15 (by decide) (hg w8_220 rfl) (fun _ h9 => h9) rfl (by decide +kernel) rfl rfl (Nat.le_of_ble_eq_true rfl) dX13_openFrame_27 (fun H locs hP hD hS => ?_)
  have hP : va_P D pv_cl [(h0, .inr (1, (pv_m 0 q).set 15 (.int 2)))] _ := hP
  have hD : va_D A [(h0, .inr (1, (pv_m 0 q).set 15 (.int 2)))] := hD
  refine lv_aload_n hx hb dX13_openFrame_30 rfl (lv_at hl 0 rfl) ?_
  refine va_get (own := RX13) (D := D) (ci := 1) (v := .int 2) (C := RX13) (T := TX13) (N := 45) hx hb hts inF13 hown hK hP 0 rfl rfl 15 (by decide) (hg w8_220 rfl) (fun _ h9 => h9) rfl dX13_openFrame_31 ?_
  refine W.widen (k := 0) (n := 0) (Nat.le_of_ble_eq_true rfl) (Nat.le_of_ble_eq_true rfl) ?_
  exact W.iret (v := 2) hx hb hr (fun t ht hW => ⟨⟨2, 0, rfl, ⟨rfl, rfl⟩, (pv_m 0 q).set 15 (.int 2), rfl, (by rw [ht]; exact hP.sub [0] rfl), va_K.moved hW.alike (hK.sub [] rfl), hD.sub [0] (by decide) rfl⟩, hS.F ht⟩) hS.2.2 dX13_openFrame_34

theorem dX13_polynomials_0 : decode cX13_polynomials 0 = .ok (.aload_n 0, 1) := by decide +kernel
theorem dX13_polynomials_1 : decode cX13_polynomials 1 = .ok (.iconst 0, 1) := by decide +kernel
theorem dX13_polynomials_2 : decode cX13_polynomials 2 = .ok (.putfield 122, 3) := by decide +kernel
theorem dX13_polynomials_5 : decode cX13_polynomials 5 = .ok (.aload_n 0, 1) := by decide +kernel
theorem dX13_polynomials_6 : decode cX13_polynomials 6 = .ok (.getfield 125, 3) := by decide +kernel
theorem dX13_polynomials_9 : decode cX13_polynomials 9 = .ok (.ireturn, 1) := by decide +kernel
set_option maxHeartbeats 4000000 in
set_option maxRecDepth 100000 in
/-- polynomials on a fresh object -/
theorem c_X13_polynomials (l : Launch) (hfl : l.stackTraces = false) (D : va_G) (sz : Nat) (h0 : Nat) (q : Nat → Nat) : Met l yX13_polynomials (Cond.code yX13_polynomials cX13_polynomials 1 (some .int) :: pv_W) ({ frames := 0, cells := 0, slots := 0, locals := 0 } : Room) (va_Pc [.ref h0] (pv_P D [] [(h0, .inr (1, pv_m 0 q))] (va_A [(h0, .inr (1, pv_m 0 q))] sz) sz)) (va_Qi (fun r (u : Int32) => u = 0 ∧ r = 0) (fun (u : Int32) t => ∃ fs : List Value, fs[0]? = some (.int u) ∧ va_P D pv_cl [(h0, .inr (1, fs))] t.heap ∧ va_K D pv_cl [] t ∧ va_D (va_A [(h0, .inr (1, pv_m 0 q))] sz) [(h0, .inr (1, fs))]) (va_A [(h0, .inr (1, pv_m 0 q))] sz)) 0 0 (va_A [(h0, .inr (1, pv_m 0 q))] sz) := by
  refine Met.ofW (cc := cX13_polynomials) (maxL := 1) (ret := (some .int)) (by decide) rfl ?_
  intro p e s m args below meth c s₁ B hml hv
  obtain ⟨rfl, hsz, hE, hP, hK, hD0⟩ := hv
  have hx := B.exec
  have hb := B.bytes
  have hr := B.returns
  have hts := fun (w : Cond) (h : w ∈ pv_W) => atoms_spec (ws := Cond.code yX13_polynomials cX13_polynomials 1 (some .int) :: pv_W) B.pre w (List.mem_cons_of_mem _ h)
  have hg := fun {w : Cond} (h : w ∈ lw_tbl) (g : goodWord w = true) => hts w (pv_in h g)
  have hown : s.vm.findClass RX13 = some m.cls := findClass_of_methodNamed B.named
  have hlocks := B.notSynchronized
  subst hsz
  have hD := hD0.self (sz := s.heap.size)
  generalize hAe : va_A [(h0, .inr (1, pv_m 0 q))] s.heap.size = A at hD hE ⊢
  have hA : ∀ q : Nat, s.heap.size ≤ q → A q := fun q h => by rw [← hAe]; exact Or.inr h
  have hS : va_S A s.heap s.heap [] := va_S.rf
  have hP : va_P D pv_cl [(h0, .inr (1, pv_m 0 q))] s.heap := hP
  have hl := lv_entry ([.ref h0]) (n := 1) (Nat.le_of_ble_eq_true rfl)
  rw [lg_entry_eq]
  generalize (lg_sl ([.ref h0]) ++ List.replicate (1 - (lg_sl ([.ref h0])).length) Slot.unset).toArray = ls at hl ⊢
  have hl : lv_has ls 1 [(0, .ref h0)] := hl
  refine lv_aload_n hx hb dX13_polynomials_0 rfl (lv_at hl 0 rfl) ?_
  refine lv_iconst (v := 0) hx hb dX13_polynomials_1 (by decide) ?_
  refine va_put (own := RX13) (D := D) (ci := 1) (v := .int 0) (ty := .int) (C := RX13) (T := TX13) (N := 45) hx hb hts inF13 tyX13 tyX13_ok nmX13 hown hK hP hD hS 0 rfl rfl 0 (by decide) (hg w8_205 rfl) (fun _ h9 => h9) rfl (by decide +kernel) rfl rfl (Nat.le_of_ble_eq_true rfl) dX13_polynomials_2 (fun H locs hP hD hS => ?_)
  have hP : va_P D pv_cl [(h0, .inr (1, pv_m 0 q))] _ := hP
  have hD : va_D A [(h0, .inr (1, pv_m 0 q))] := hD
  refine lv_aload_n hx hb dX13_polynomials_5 rfl (lv_at hl 0 rfl) ?_
  refine va_get (own := RX13) (D := D) (ci := 1) (v := .int 0) (C := RX13) (T := TX13) (N := 45) hx hb hts inF13 hown hK hP 0 rfl rfl 2 (by decide) (hg w8_207 rfl) (fun _ h9 => h9) rfl dX13_polynomials_6 ?_
  refine W.widen (k := 0) (n := 0) (Nat.le_of_ble_eq_true rfl) (Nat.le_of_ble_eq_true rfl) ?_
  exact W.iret (v := 0) hx hb hr (fun t ht hW => ⟨⟨0, 0, rfl, ⟨rfl, rfl⟩, pv_m 0 q, rfl, (by rw [ht]; exact hP.sub [0] rfl), va_K.moved hW.alike (hK.sub [] rfl), hD.sub [0] (by decide) rfl⟩, hS.F ht⟩) hS.2.2 dX13_polynomials_9

theorem dX13_isSound_0 : decode cX13_isSound 0 = .ok (.aload_n 0, 1) := by decide +kernel
theorem dX13_isSound_1 : decode cX13_isSound 1 = .ok (.iconst 0, 1) := by decide +kernel
theorem dX13_isSound_2 : decode cX13_isSound 2 = .ok (.putfield 122, 3) := by decide +kernel
theorem dX13_isSound_5 : decode cX13_isSound 5 = .ok (.iconst 1, 1) := by decide +kernel
theorem dX13_isSound_6 : decode cX13_isSound 6 = .ok (.ireturn, 1) := by decide +kernel
set_option maxHeartbeats 4000000 in
set_option maxRecDepth 100000 in
/-- isSound on a fresh object -/
theorem c_X13_isSound (l : Launch) (hfl : l.stackTraces = false) (D : va_G) (sz : Nat) (h0 : Nat) (q : Nat → Nat) : Met l yX13_isSound (Cond.code yX13_isSound cX13_isSound 1 (some .boolean) :: pv_W) ({ frames := 0, cells := 0, slots := 0, locals := 0 } : Room) (va_Pc [.ref h0] (pv_P D [] [(h0, .inr (1, pv_m 0 q))] (va_A [(h0, .inr (1, pv_m 0 q))] sz) sz)) (va_Qi (fun r (u : Int32) => u = 0 ∧ r = 1) (fun (u : Int32) t => ∃ fs : List Value, fs[0]? = some (.int u) ∧ va_P D pv_cl [(h0, .inr (1, fs))] t.heap ∧ va_K D pv_cl [] t ∧ va_D (va_A [(h0, .inr (1, pv_m 0 q))] sz) [(h0, .inr (1, fs))]) (va_A [(h0, .inr (1, pv_m 0 q))] sz)) 0 0 (va_A [(h0, .inr (1, pv_m 0 q))] sz) := by
  refine Met.ofW (cc := cX13_isSound) (maxL := 1) (ret := (some .boolean)) (by decide) rfl ?_
  intro p e s m args below meth c s₁ B hml hv
  obtain ⟨rfl, hsz, hE, hP, hK, hD0⟩ := hv
  have hx := B.exec
  have hb := B.bytes
  have hr := B.returns
  have hts := fun (w : Cond) (h : w ∈ pv_W) => atoms_spec (ws := Cond.code yX13_isSound cX13_isSound 1 (some .boolean) :: pv_W) B.pre w (List.mem_cons_of_mem _ h)
  have hg := fun {w : Cond} (h : w ∈ lw_tbl) (g : goodWord w = true) => hts w (pv_in h g)
  have hown : s.vm.findClass RX13 = some m.cls := findClass_of_methodNamed B.named
  have hlocks := B.notSynchronized
  subst hsz
  have hD := hD0.self (sz := s.heap.size)
  generalize hAe : va_A [(h0, .inr (1, pv_m 0 q))] s.heap.size = A at hD hE ⊢
  have hA : ∀ q : Nat, s.heap.size ≤ q → A q := fun q h => by rw [← hAe]; exact Or.inr h
  have hS : va_S A s.heap s.heap [] := va_S.rf
  have hP : va_P D pv_cl [(h0, .inr (1, pv_m 0 q))] s.heap := hP
  have hl := lv_entry ([.ref h0]) (n := 1) (Nat.le_of_ble_eq_true rfl)
  rw [lg_entry_eq]
  generalize (lg_sl ([.ref h0]) ++ List.replicate (1 - (lg_sl ([.ref h0])).length) Slot.unset).toArray = ls at hl ⊢
  have hl : lv_has ls 1 [(0, .ref h0)] := hl
  refine lv_aload_n hx hb dX13_isSound_0 rfl (lv_at hl 0 rfl) ?_
  refine lv_iconst (v := 0) hx hb dX13_isSound_1 (by decide) ?_
  refine va_put (own := RX13) (D := D) (ci := 1) (v := .int 0) (ty := .int) (C := RX13) (T := TX13) (N := 45) hx hb hts inF13 tyX13 tyX13_ok nmX13 hown hK hP hD hS 0 rfl rfl 0 (by decide) (hg w8_205 rfl) (fun _ h9 => h9) rfl (by decide +kernel) rfl rfl (Nat.le_of_ble_eq_true rfl) dX13_isSound_2 (fun H locs hP hD hS => ?_)
  have hP : va_P D pv_cl [(h0, .inr (1, pv_m 0 q))] _ := hP
  have hD : va_D A [(h0, .inr (1, pv_m 0 q))] := hD
  refine lv_iconst (v := 1) hx hb dX13_isSound_5 (by decide) ?_
  refine W.widen (k := 0) (n := 0) (Nat.le_of_ble_eq_true rfl) (Nat.le_of_ble_eq_true rfl) ?_
  exact W.zret (v := 1) (ty := .boolean) hx hb hr rfl (fun t ht hW => ⟨⟨1, 0, rfl, ⟨rfl, rfl⟩, pv_m 0 q, rfl, (by rw [ht]; exact hP.sub [0] rfl), va_K.moved hW.alike (hK.sub [] rfl), hD.sub [0] (by decide) rfl⟩, hS.F ht⟩) hS.2.2 dX13_isSound_6

theorem dX13_sign_0 : decode cX13_sign 0 = .ok (.aload_n 0, 1) := by decide +kernel
theorem dX13_sign_1 : decode cX13_sign 1 = .ok (.iload_n 1, 1) := by decide +kernel
theorem dX13_sign_2 : decode cX13_sign 2 = .ok (.iconst 0, 1) := by decide +kernel
theorem dX13_sign_3 : decode cX13_sign 3 = .ok (.iconst 2, 1) := by decide +kernel
theorem dX13_sign_4 : decode cX13_sign 4 = .ok (.invokestatic 128, 3) := by decide +kernel
theorem dX13_sign_7 : decode cX13_sign 7 = .ok (.ifCond .eq 7, 3) := by decide +kernel
theorem dX13_sign_10 : decode cX13_sign 10 = .ok (.iconst 0, 1) := by decide +kernel
theorem dX13_sign_11 : decode cX13_sign 11 = .ok (.goto 4, 3) := by decide +kernel
theorem dX13_sign_15 : decode cX13_sign 15 = .ok (.putfield 122, 3) := by decide +kernel
theorem dX13_sign_18 : decode cX13_sign 18 = .ok (.aload_n 0, 1) := by decide +kernel
theorem dX13_sign_19 : decode cX13_sign 19 = .ok (.getfield 122, 3) := by decide +kernel
theorem dX13_sign_22 : decode cX13_sign 22 = .ok (.ifCond .le 7, 3) := by decide +kernel
theorem dX13_sign_29 : decode cX13_sign 29 = .ok (.aload_n 0, 1) := by decide +kernel
theorem dX13_sign_30 : decode cX13_sign 30 = .ok (.getfield 49, 3) := by decide +kernel
theorem w8_221 : (Jvm.Cond.fieldLink "PolyforgeModel" (49 : Nat) "PolyforgeModel" "signs" "[C") ∈ lw_tbl := pv_t8 (pv_mg 221 rfl)
theorem dX13_sign_33 : decode cX13_sign 33 = .ok (.iload_n 1, 1) := by decide +kernel
theorem dX13_sign_34 : decode cX13_sign 34 = .ok (.caload, 1) := by decide +kernel
theorem dX13_sign_35 : decode cX13_sign 35 = .ok (.ireturn, 1) := by decide +kernel
theorem dX13_sign_14 : decode cX13_sign 14 = .ok (.iconst 1, 1) := by decide +kernel
theorem dX13_sign_25 : decode cX13_sign 25 = .ok (.iconst 0, 1) := by decide +kernel
theorem dX13_sign_26 : decode cX13_sign 26 = .ok (.goto 9, 3) := by decide +kernel
set_option maxHeartbeats 4000000 in
set_option maxRecDepth 100000 in
/-- sign on a fresh object -/
theorem c_X13_sign (l : Launch) (hfl : l.stackTraces = false) (D : va_G) (sz : Nat) (h0 : Nat) (q : Nat → Nat) (cC : ClassId) (sg : Nat → Int32) (hsg : ∀ j, j < 3 → sg j = 63) (p0 : Int32) : Met l yX13_sign (Cond.code yX13_sign cX13_sign 2 (some .char) :: pv_W) ({ frames := 1, cells := 0, slots := 0, locals := 22 } : Room) (va_Pc [.ref h0, .int p0] (pv_P D [(cC, .char)] [(h0, .inr (1, pv_m 0 q)), ((q 9), .inl (cC, 3, .inl sg))] (va_A [(h0, .inr (1, pv_m 0 q)), ((q 9), .inl (cC, 3, .inl sg))] sz) sz)) (va_Qi (fun r (u : Int32) => (u = 0 ∧ r = 63 ∧ pv_vr p0) ∨ (u = 1 ∧ ¬ pv_vr p0)) (fun (u : Int32) t => ∃ fs : List Value, fs[0]? = some (.int u) ∧ va_P D pv_cl [(h0, .inr (1, fs))] t.heap ∧ va_K D pv_cl [] t ∧ va_D (va_A [(h0, .inr (1, pv_m 0 q)), ((q 9), .inl (cC, 3, .inl sg))] sz) [(h0, .inr (1, fs))]) (va_A [(h0, .inr (1, pv_m 0 q)), ((q 9), .inl (cC, 3, .inl sg))] sz)) 0 0 (va_A [(h0, .inr (1, pv_m 0 q)), ((q 9), .inl (cC, 3, .inl sg))] sz) := by
  refine Met.ofW (cc := cX13_sign) (maxL := 2) (ret := (some .char)) (by decide) rfl ?_
  intro p e s m args below meth c s₁ B hml hv
  obtain ⟨rfl, hsz, hE, hP, hK, hD0⟩ := hv
  have hx := B.exec
  have hb := B.bytes
  have hr := B.returns
  have hts := fun (w : Cond) (h : w ∈ pv_W) => atoms_spec (ws := Cond.code yX13_sign cX13_sign 2 (some .char) :: pv_W) B.pre w (List.mem_cons_of_mem _ h)
  have hg := fun {w : Cond} (h : w ∈ lw_tbl) (g : goodWord w = true) => hts w (pv_in h g)
  have hown : s.vm.findClass RX13 = some m.cls := findClass_of_methodNamed B.named
  have hlocks := B.notSynchronized
  subst hsz
  have hD := hD0.self (sz := s.heap.size)
  generalize hAe : va_A [(h0, .inr (1, pv_m 0 q)), ((q 9), .inl (cC, 3, .inl sg))] s.heap.size = A at hD hE ⊢
  have hA : ∀ q : Nat, s.heap.size ≤ q → A q := fun q h => by rw [← hAe]; exact Or.inr h
  have hS : va_S A s.heap s.heap [] := va_S.rf
  have hP : va_P D pv_cl [(h0, .inr (1, pv_m 0 q)), ((q 9), .inl (cC, 3, .inl sg))] s.heap := hP
  have hl := lv_entry ([.ref h0, .int p0]) (n := 2) (Nat.le_of_ble_eq_true rfl)
  rw [lg_entry_eq]
  generalize (lg_sl ([.ref h0, .int p0]) ++ List.replicate (2 - (lg_sl ([.ref h0, .int p0])).length) Slot.unset).toArray = ls at hl ⊢
  have hl : lv_has ls 2 [(0, .ref h0), (1, .int p0)] := hl
  refine lv_aload_n hx hb dX13_sign_0 rfl (lv_at hl 0 rfl) ?_
  refine lv_iload_n hx hb dX13_sign_1 rfl (lv_at hl 1 rfl) ?_
  refine lv_iconst (v := 0) hx hb dX13_sign_2 (by decide) ?_
  refine lv_iconst (v := 2) hx hb dX13_sign_3 (by decide) ?_
  have hF := pv_new hA hS.1
  refine va_calli (va_runS (As := [.int p0, .int 0, .int 2]) (rest := [.ref h0]) ⟨hx, hb, hml, hown, hts⟩ (c_X13_in l hfl D _ p0 0 2) (va_cwS 3 hts (pv_gS w9_152 w9_153 w1_10 w9_154) rfl rfl rfl (by decide +kernel) ⟨Nat.le_of_ble_eq_true rfl, Nat.le_of_ble_eq_true rfl⟩) (pv_ps hE hS hF (hP.sub [] rfl) (hK.sub [] rfl) (hD.sub [] (by decide) rfl)) rfl rfl hl.1 rfl (lv_room (Nat.le_of_ble_eq_true rfl)) dX13_sign_4 ⟨Nat.le_of_ble_eq_true rfl, Nat.le_of_ble_eq_true rfl⟩) hS (fun q _ h => hF q h) hF (fun r_0 u t H1 locs1 ht hvm hw hB hz1 hk1 hS => ?_)
  refine W.widen (k := 0) (n := 0) (Nat.le_of_ble_eq_true rfl) (Nat.le_of_ble_eq_true rfl) ?_
  have hP := pv_keep hP rfl hk1
  rcases hw with ⟨rfl, a_2⟩ | ⟨rfl, a_2⟩
  · refine lv_if_eq (tgt := 14) hx hb dX13_sign_7 (by decide) (fun c_3 => absurd c_3 (by decide)) (fun _ => ?_)
    refine lv_iconst (v := 0) hx hb dX13_sign_10 (by decide) ?_
    refine lv_goto (tgt := 15) hx hb dX13_sign_11 (by decide) ?_
    refine va_put (own := RX13) (D := D) (ci := 1) (v := .int 0) (ty := .int) (C := RX13) (T := TX13) (N := 45) hx hb hts inF13 tyX13 tyX13_ok nmX13 hown hK hP hD hS 0 rfl rfl 0 (by decide) (hg w8_205 rfl) (fun _ h9 => h9) rfl (by decide +kernel) rfl rfl (Nat.le_of_ble_eq_true rfl) dX13_sign_15 (fun H locs hP hD hS => ?_)
    have hP : va_P D pv_cl [(h0, .inr (1, pv_m 0 q)), ((q 9), .inl (cC, 3, .inl sg))] _ := hP
    have hD : va_D A [(h0, .inr (1, pv_m 0 q)), ((q 9), .inl (cC, 3, .inl sg))] := hD
    refine lv_aload_n hx hb dX13_sign_18 rfl (lv_at hl 0 rfl) ?_
    refine va_get (own := RX13) (D := D) (ci := 1) (v := .int 0) (C := RX13) (T := TX13) (N := 45) hx hb hts inF13 hown hK hP 0 rfl rfl 0 (by decide) (hg w8_205 rfl) (fun _ h9 => h9) rfl dX13_sign_19 ?_
    refine lv_if_le (tgt := 29) hx hb dX13_sign_22 (by decide) (fun _ => ?_) (fun c_4 => absurd (by decide) c_4)
    refine lv_aload_n hx hb dX13_sign_29 rfl (lv_at hl 0 rfl) ?_
    refine va_get (own := RX13) (D := D) (ci := 1) (v := .ref (q 9)) (C := RX13) (T := TX13) (N := 45) hx hb hts inF13 hown hK hP 0 rfl rfl 16 (by decide) (hg w8_221 rfl) (fun _ h9 => h9) rfl dX13_sign_30 ?_
    refine lv_iload_n hx hb dX13_sign_33 rfl (lv_at hl 1 rfl) ?_
    refine va_cald hx hb hK hP 1 0 rfl rfl (pv_vin (pv_in3.mp a_2)) dX13_sign_34 ?_
    refine pv_setI 63 (hsg _ (pv_vcl (pv_in3.mp a_2))) ?_
    refine W.widen (k := 0) (n := 0) (Nat.le_of_ble_eq_true rfl) (Nat.le_of_ble_eq_true rfl) ?_
    exact W.zret (v := 63) (ty := .char) hx hb hr rfl (fun t ht hW => ⟨⟨63, 0, rfl, Or.inl ⟨rfl, rfl, pv_in3.mp a_2⟩, pv_m 0 q, rfl, (by rw [ht]; exact hP.sub [0] rfl), va_K.moved hW.alike (hK.sub [] rfl), hD.sub [0] (by decide) rfl⟩, hS.F ht⟩) hS.2.2 dX13_sign_35
  · refine lv_if_eq (tgt := 14) hx hb dX13_sign_7 (by decide) (fun _ => ?_) (fun c_5 => absurd (by decide) c_5)
    refine lv_iconst (v := 1) hx hb dX13_sign_14 (by decide) ?_
    refine va_put (own := RX13) (D := D) (ci := 1) (v := .int 1) (ty := .int) (C := RX13) (T := TX13) (N := 45) hx hb hts inF13 tyX13 tyX13_ok nmX13 hown hK hP hD hS 0 rfl rfl 0 (by decide) (hg w8_205 rfl) (fun _ h9 => h9) rfl (by decide +kernel) rfl rfl (Nat.le_of_ble_eq_true rfl) dX13_sign_15 (fun H locs hP hD hS => ?_)
    have hP : va_P D pv_cl [(h0, .inr (1, pv_m 1 q)), ((q 9), .inl (cC, 3, .inl sg))] _ := hP
    have hD : va_D A [(h0, .inr (1, pv_m 1 q)), ((q 9), .inl (cC, 3, .inl sg))] := hD
    refine lv_aload_n hx hb dX13_sign_18 rfl (lv_at hl 0 rfl) ?_
    refine va_get (own := RX13) (D := D) (ci := 1) (v := .int 1) (C := RX13) (T := TX13) (N := 45) hx hb hts inF13 hown hK hP 0 rfl rfl 0 (by decide) (hg w8_205 rfl) (fun _ h9 => h9) rfl dX13_sign_19 ?_
    refine lv_if_le (tgt := 29) hx hb dX13_sign_22 (by decide) (fun c_6 => absurd c_6 (by decide)) (fun _ => ?_)
    refine lv_iconst (v := 0) hx hb dX13_sign_25 (by decide) ?_
    refine lv_goto (tgt := 35) hx hb dX13_sign_26 (by decide) ?_
    refine W.widen (k := 0) (n := 0) (Nat.le_of_ble_eq_true rfl) (Nat.le_of_ble_eq_true rfl) ?_
    exact W.zret (v := 0) (ty := .char) hx hb hr rfl (fun t ht hW => ⟨⟨0, 1, rfl, Or.inr ⟨rfl, fun h => a_2 (pv_in3.mpr h)⟩, pv_m 1 q, rfl, (by rw [ht]; exact hP.sub [0] rfl), va_K.moved hW.alike (hK.sub [] rfl), hD.sub [0] (by decide) rfl⟩, hS.F ht⟩) hS.2.2 dX13_sign_35

theorem dX13_isSign_0 : decode cX13_isSign 0 = .ok (.iload_n 0, 1) := by decide +kernel
theorem dX13_isSign_1 : decode cX13_isSign 1 = .ok (.bipush 43, 2) := by decide +kernel
theorem dX13_isSign_3 : decode cX13_isSign 3 = .ok (.if_icmp .eq 15, 3) := by decide +kernel
theorem dX13_isSign_18 : decode cX13_isSign 18 = .ok (.iconst 1, 1) := by decide +kernel
theorem dX13_isSign_19 : decode cX13_isSign 19 = .ok (.goto 4, 3) := by decide +kernel
theorem dX13_isSign_23 : decode cX13_isSign 23 = .ok (.ireturn, 1) := by decide +kernel
theorem dX13_isSign_6 : decode cX13_isSign 6 = .ok (.iload_n 0, 1) := by decide +kernel
theorem dX13_isSign_7 : decode cX13_isSign 7 = .ok (.bipush 45, 2) := by decide +kernel
theorem dX13_isSign_9 : decode cX13_isSign 9 = .ok (.if_icmp .eq 9, 3) := by decide +kernel
theorem dX13_isSign_12 : decode cX13_isSign 12 = .ok (.iload_n 0, 1) := by decide +kernel
theorem dX13_isSign_13 : decode cX13_isSign 13 = .ok (.bipush 48, 2) := by decide +kernel
theorem dX13_isSign_15 : decode cX13_isSign 15 = .ok (.if_icmp .ne 7, 3) := by decide +kernel
theorem dX13_isSign_22 : decode cX13_isSign 22 = .ok (.iconst 0, 1) := by decide +kernel
set_option maxHeartbeats 4000000 in
set_option maxRecDepth 100000 in
/-- isSign -/
theorem c_X13_isSign (l : Launch) (hfl : l.stackTraces = false) (D : va_G) (sz : Nat) (p0 : Int32) : Met l yX13_isSign (Cond.code yX13_isSign cX13_isSign 1 (some .boolean) :: pv_W) ({ frames := 0, cells := 0, slots := 0, locals := 0 } : Room) (va_Pc [.int p0] (pv_P D [] [] (va_A [] sz) sz)) (va_Qi (fun r (_ : Unit) => (r = 1 ∧ pv_sn p0) ∨ (r = 0 ∧ ¬ pv_sn p0)) (fun _ _ => True) (va_A [] sz)) 0 0 (va_A [] sz) := by
  refine Met.ofW (cc := cX13_isSign) (maxL := 1) (ret := (some .boolean)) (by decide) rfl ?_
  intro p e s m args below meth c s₁ B hml hv
  obtain ⟨rfl, hsz, hE, hP, hK, hD0⟩ := hv
  have hx := B.exec
  have hb := B.bytes
  have hr := B.returns
  have hts := fun (w : Cond) (h : w ∈ pv_W) => atoms_spec (ws := Cond.code yX13_isSign cX13_isSign 1 (some .boolean) :: pv_W) B.pre w (List.mem_cons_of_mem _ h)
  have hg := fun {w : Cond} (h : w ∈ lw_tbl) (g : goodWord w = true) => hts w (pv_in h g)
  have hown : s.vm.findClass RX13 = some m.cls := findClass_of_methodNamed B.named
  have hlocks := B.notSynchronized
  subst hsz
  have hD := hD0.self (sz := s.heap.size)
  generalize hAe : va_A [] s.heap.size = A at hD hE ⊢
  have hA : ∀ q : Nat, s.heap.size ≤ q → A q := fun q h => by rw [← hAe]; exact Or.inr h
  have hS : va_S A s.heap s.heap [] := va_S.rf
  have hP : va_P D pv_cl [] s.heap := hP
  have hl := lv_entry ([.int p0]) (n := 1) (Nat.le_of_ble_eq_true rfl)
  rw [lg_entry_eq]
  generalize (lg_sl ([.int p0]) ++ List.replicate (1 - (lg_sl ([.int p0])).length) Slot.unset).toArray = ls at hl ⊢
  have hl : lv_has ls 1 [(0, .int p0)] := hl
  refine lv_iload_n hx hb dX13_isSign_0 rfl (lv_at hl 0 rfl) ?_
  refine lv_bipush (v := 43) hx hb dX13_isSign_1 (by decide) ?_
  refine lv_icmp_eq (tgt := 18) hx hb dX13_isSign_3 (by decide) (fun c_1 => ?_) (fun c_1 => ?_)
  · refine lv_iconst (v := 1) hx hb dX13_isSign_18 (by decide) ?_
    refine lv_goto (tgt := 23) hx hb dX13_isSign_19 (by decide) ?_
    refine W.widen (k := 0) (n := 0) (Nat.le_of_ble_eq_true rfl) (Nat.le_of_ble_eq_true rfl) ?_
    exact W.zret (v := 1) (ty := .boolean) hx hb hr rfl (fun t ht hW => ⟨⟨1, (), rfl, Or.inl ⟨rfl, Or.inl c_1⟩, trivial⟩, hS.F ht⟩) hS.2.2 dX13_isSign_23
  · refine lv_iload_n hx hb dX13_isSign_6 rfl (lv_at hl 0 rfl) ?_
    refine lv_bipush (v := 45) hx hb dX13_isSign_7 (by decide) ?_
    refine lv_icmp_eq (tgt := 18) hx hb dX13_isSign_9 (by decide) (fun c_2 => ?_) (fun c_2 => ?_)
    · refine lv_iconst (v := 1) hx hb dX13_isSign_18 (by decide) ?_
      refine lv_goto (tgt := 23) hx hb dX13_isSign_19 (by decide) ?_
      refine W.widen (k := 0) (n := 0) (Nat.le_of_ble_eq_true rfl) (Nat.le_of_ble_eq_true rfl) ?_
      exact W.zret (v := 1) (ty := .boolean) hx hb hr rfl (fun t ht hW => ⟨⟨1, (), rfl, Or.inl ⟨rfl, Or.inr (Or.inl c_2)⟩, trivial⟩, hS.F ht⟩) hS.2.2 dX13_isSign_23
    · refine lv_iload_n hx hb dX13_isSign_12 rfl (lv_at hl 0 rfl) ?_
      refine lv_bipush (v := 48) hx hb dX13_isSign_13 (by decide) ?_
      refine lv_icmp_ne (tgt := 22) hx hb dX13_isSign_15 (by decide) (fun c_3 => ?_) (fun c_3 => ?_)
      · refine lv_iconst (v := 0) hx hb dX13_isSign_22 (by decide) ?_
        refine W.widen (k := 0) (n := 0) (Nat.le_of_ble_eq_true rfl) (Nat.le_of_ble_eq_true rfl) ?_
        exact W.zret (v := 0) (ty := .boolean) hx hb hr rfl (fun t ht hW => ⟨⟨0, (), rfl, Or.inr ⟨rfl, pv_no3 c_1 c_2 c_3⟩, trivial⟩, hS.F ht⟩) hS.2.2 dX13_isSign_23
      · refine lv_iconst (v := 1) hx hb dX13_isSign_18 (by decide) ?_
        refine lv_goto (tgt := 23) hx hb dX13_isSign_19 (by decide) ?_
        refine W.widen (k := 0) (n := 0) (Nat.le_of_ble_eq_true rfl) (Nat.le_of_ble_eq_true rfl) ?_
        exact W.zret (v := 1) (ty := .boolean) hx hb hr rfl (fun t ht hW => ⟨⟨1, (), rfl, Or.inl ⟨rfl, Or.inr (Or.inr (c_3))⟩, trivial⟩, hS.F ht⟩) hS.2.2 dX13_isSign_23

theorem dX13_knownSigns_0 : decode cX13_knownSigns 0 = .ok (.iconst 0, 1) := by decide +kernel
theorem dX13_knownSigns_1 : decode cX13_knownSigns 1 = .ok (.istore_n 1, 1) := by decide +kernel
theorem dX13_knownSigns_2 : decode cX13_knownSigns 2 = .ok (.iconst 0, 1) := by decide +kernel
theorem dX13_knownSigns_3 : decode cX13_knownSigns 3 = .ok (.istore_n 2, 1) := by decide +kernel
theorem dX13_knownSigns_4 : decode cX13_knownSigns 4 = .ok (.iload_n 2, 1) := by decide +kernel
theorem dX13_knownSigns_5 : decode cX13_knownSigns 5 = .ok (.iconst 3, 1) := by decide +kernel
theorem dX13_knownSigns_6 : decode cX13_knownSigns 6 = .ok (.if_icmp .ge 28, 3) := by decide +kernel
theorem dX13_knownSigns_9 : decode cX13_knownSigns 9 = .ok (.iload_n 1, 1) := by decide +kernel
theorem dX13_knownSigns_10 : decode cX13_knownSigns 10 = .ok (.aload_n 0, 1) := by decide +kernel
theorem dX13_knownSigns_11 : decode cX13_knownSigns 11 = .ok (.getfield 49, 3) := by decide +kernel
theorem dX13_knownSigns_14 : decode cX13_knownSigns 14 = .ok (.iload_n 2, 1) := by decide +kernel
theorem dX13_knownSigns_15 : decode cX13_knownSigns 15 = .ok (.caload, 1) := by decide +kernel
theorem dX13_knownSigns_16 : decode cX13_knownSigns 16 = .ok (.bipush 63, 2) := by decide +kernel
theorem dX13_knownSigns_18 : decode cX13_knownSigns 18 = .ok (.if_icmp .ne 7, 3) := by decide +kernel
theorem dX13_knownSigns_25 : decode cX13_knownSigns 25 = .ok (.iconst 1, 1) := by decide +kernel
theorem dX13_knownSigns_26 : decode cX13_knownSigns 26 = .ok (.iadd, 1) := by decide +kernel
theorem dX13_knownSigns_27 : decode cX13_knownSigns 27 = .ok (.istore_n 1, 1) := by decide +kernel
theorem dX13_knownSigns_28 : decode cX13_knownSigns 28 = .ok (.iinc 2 1, 3) := by decide +kernel
theorem dX13_knownSigns_31 : decode cX13_knownSigns 31 = .ok (.goto (-27), 3) := by decide +kernel
theorem dX13_knownSigns_21 : decode cX13_knownSigns 21 = .ok (.iconst 0, 1) := by decide +kernel
theorem dX13_knownSigns_22 : decode cX13_knownSigns 22 = .ok (.goto 4, 3) := by decide +kernel
theorem dX13_knownSigns_34 : decode cX13_knownSigns 34 = .ok (.iload_n 1, 1) := by decide +kernel
theorem dX13_knownSigns_35 : decode cX13_knownSigns 35 = .ok (.ireturn, 1) := by decide +kernel
set_option maxHeartbeats 4000000 in
set_option maxRecDepth 100000 in
/-- knownSigns, of one -/
theorem c_X13_knownSigns_0 (l : Launch) (hfl : l.stackTraces = false) (D : va_G) (sz : Nat) (h0 : Nat) (q : Nat → Nat) (cC : ClassId) (sg : Nat → Int32) (hk : ∀ j, j < 3 → j ≠ 0 → sg j = 63) (hkx : ¬ sg 0 = 63) : Met l yX13_knownSigns (Cond.code yX13_knownSigns cX13_knownSigns 3 (some .int) :: pv_W) ({ frames := 0, cells := 0, slots := 0, locals := 0 } : Room) (va_Pc [.ref h0] (pv_P D [(cC, .char)] [(h0, .inr (1, pv_m 0 q)), ((q 9), .inl (cC, 3, .inl sg))] (va_A [] sz) sz)) (va_Qi (fun r (_ : Unit) => r = 1) (fun _ _ => True) (va_A [] sz)) 0 0 (va_A [] sz) := by
  refine Met.ofW (cc := cX13_knownSigns) (maxL := 3) (ret := (some .int)) (by decide) rfl ?_
  intro p e s m args below meth c s₁ B hml hv
  obtain ⟨rfl, hsz, hE, hP, hK, hD0⟩ := hv
  have hx := B.exec
  have hb := B.bytes
  have hr := B.returns
  have hts := fun (w : Cond) (h : w ∈ pv_W) => atoms_spec (ws := Cond.code yX13_knownSigns cX13_knownSigns 3 (some .int) :: pv_W) B.pre w (List.mem_cons_of_mem _ h)
  have hg := fun {w : Cond} (h : w ∈ lw_tbl) (g : goodWord w = true) => hts w (pv_in h g)
  have hown : s.vm.findClass RX13 = some m.cls := findClass_of_methodNamed B.named
  have hlocks := B.notSynchronized
  subst hsz
  have hD := hD0
  generalize hAe : va_A [] s.heap.size = A at hE ⊢
  have hA : ∀ q : Nat, s.heap.size ≤ q → A q := fun q h => by rw [← hAe]; exact Or.inr h
  have hS : va_S A s.heap s.heap [] := va_S.rf
  have hP : va_P D pv_cl [(h0, .inr (1, pv_m 0 q)), ((q 9), .inl (cC, 3, .inl sg))] s.heap := hP
  have hl := lv_entry ([.ref h0]) (n := 3) (Nat.le_of_ble_eq_true rfl)
  rw [lg_entry_eq]
  generalize (lg_sl ([.ref h0]) ++ List.replicate (3 - (lg_sl ([.ref h0])).length) Slot.unset).toArray = ls at hl ⊢
  have hl : lv_has ls 3 [(0, .ref h0)] := hl
  refine lv_iconst (v := 0) hx hb dX13_knownSigns_0 (by decide) ?_
  refine lv_istore_n (lv' := [(1, .int 0), (0, .ref h0)]) hx hb dX13_knownSigns_1 rfl hl (by decide) rfl (fun ls hl => ?_)
  refine lv_iconst (v := 0) hx hb dX13_knownSigns_2 (by decide) ?_
  refine lv_istore_n (lv' := [(2, .int 0), (1, .int 0), (0, .ref h0)]) hx hb dX13_knownSigns_3 rfl hl (by decide) rfl (fun ls hl => ?_)
  refine lv_iload_n hx hb dX13_knownSigns_4 rfl (lv_at hl 0 rfl) ?_
  refine lv_iconst (v := 3) hx hb dX13_knownSigns_5 (by decide) ?_
  refine lv_icmp_ge (tgt := 34) hx hb dX13_knownSigns_6 (by decide) (fun c_1 => absurd c_1 (by decide)) (fun _ => ?_)
  refine lv_iload_n hx hb dX13_knownSigns_9 rfl (lv_at hl 1 rfl) ?_
  refine lv_aload_n hx hb dX13_knownSigns_10 rfl (lv_at hl 2 rfl) ?_
  refine va_get (own := RX13) (D := D) (ci := 1) (v := .ref (q 9)) (C := RX13) (T := TX13) (N := 45) hx hb hts inF13 hown hK hP 0 rfl rfl 16 (by decide) (hg w8_221 rfl) (fun _ h9 => h9) rfl dX13_knownSigns_11 ?_
  refine lv_iload_n hx hb dX13_knownSigns_14 rfl (lv_at hl 0 rfl) ?_
  refine va_cald hx hb hK hP 1 0 rfl rfl (by unfold vp_in; decide) dX13_knownSigns_15 ?_
  refine lv_bipush (v := 63) hx hb dX13_knownSigns_16 (by decide) ?_
  refine lv_icmp_ne (tgt := 25) hx hb dX13_knownSigns_18 (by decide) (fun c_2 => ?_) (fun c_2 => absurd c_2 hkx)
  refine lv_iconst (v := 1) hx hb dX13_knownSigns_25 (by decide) ?_
  refine lv_iadd hx hb dX13_knownSigns_26 ?_
  refine pv_setI 1 (by decide) ?_
  refine lv_istore_n (lv' := [(1, .int 1), (2, .int 0), (0, .ref h0)]) hx hb dX13_knownSigns_27 rfl hl (by decide) rfl (fun ls hl => ?_)
  refine lv_iinc (v := 1) (lv' := [(2, .int 1), (1, .int 1), (0, .ref h0)]) hx hb dX13_knownSigns_28 hl (k := 1) rfl (by decide) (by decide) rfl (fun ls hl => ?_)
  refine lv_goto (tgt := 4) hx hb dX13_knownSigns_31 (by decide) ?_
  refine lv_iload_n hx hb dX13_knownSigns_4 rfl (lv_at hl 0 rfl) ?_
  refine lv_iconst (v := 3) hx hb dX13_knownSigns_5 (by decide) ?_
  refine lv_icmp_ge (tgt := 34) hx hb dX13_knownSigns_6 (by decide) (fun c_3 => absurd c_3 (by decide)) (fun _ => ?_)
  refine lv_iload_n hx hb dX13_knownSigns_9 rfl (lv_at hl 1 rfl) ?_
  refine lv_aload_n hx hb dX13_knownSigns_10 rfl (lv_at hl 2 rfl) ?_
  refine va_get (own := RX13) (D := D) (ci := 1) (v := .ref (q 9)) (C := RX13) (T := TX13) (N := 45) hx hb hts inF13 hown hK hP 0 rfl rfl 16 (by decide) (hg w8_221 rfl) (fun _ h9 => h9) rfl dX13_knownSigns_11 ?_
  refine lv_iload_n hx hb dX13_knownSigns_14 rfl (lv_at hl 0 rfl) ?_
  refine va_cald hx hb hK hP 1 0 rfl rfl (by unfold vp_in; decide) dX13_knownSigns_15 ?_
  refine lv_bipush (v := 63) hx hb dX13_knownSigns_16 (by decide) ?_
  refine lv_icmp_ne (tgt := 25) hx hb dX13_knownSigns_18 (by decide) (fun c_4 => absurd (hk 1 (by decide) (by decide)) c_4) (fun c_4 => ?_)
  refine lv_iconst (v := 0) hx hb dX13_knownSigns_21 (by decide) ?_
  refine lv_goto (tgt := 26) hx hb dX13_knownSigns_22 (by decide) ?_
  refine lv_iadd hx hb dX13_knownSigns_26 ?_
  refine pv_setI 1 (by decide) ?_
  refine lv_istore_n (lv' := [(1, .int 1), (2, .int 1), (0, .ref h0)]) hx hb dX13_knownSigns_27 rfl hl (by decide) rfl (fun ls hl => ?_)
  refine lv_iinc (v := 2) (lv' := [(2, .int 2), (1, .int 1), (0, .ref h0)]) hx hb dX13_knownSigns_28 hl (k := 1) rfl (by decide) (by decide) rfl (fun ls hl => ?_)
  refine lv_goto (tgt := 4) hx hb dX13_knownSigns_31 (by decide) ?_
  refine lv_iload_n hx hb dX13_knownSigns_4 rfl (lv_at hl 0 rfl) ?_
  refine lv_iconst (v := 3) hx hb dX13_knownSigns_5 (by decide) ?_
  refine lv_icmp_ge (tgt := 34) hx hb dX13_knownSigns_6 (by decide) (fun c_5 => absurd c_5 (by decide)) (fun _ => ?_)
  refine lv_iload_n hx hb dX13_knownSigns_9 rfl (lv_at hl 1 rfl) ?_
  refine lv_aload_n hx hb dX13_knownSigns_10 rfl (lv_at hl 2 rfl) ?_
  refine va_get (own := RX13) (D := D) (ci := 1) (v := .ref (q 9)) (C := RX13) (T := TX13) (N := 45) hx hb hts inF13 hown hK hP 0 rfl rfl 16 (by decide) (hg w8_221 rfl) (fun _ h9 => h9) rfl dX13_knownSigns_11 ?_
  refine lv_iload_n hx hb dX13_knownSigns_14 rfl (lv_at hl 0 rfl) ?_
  refine va_cald hx hb hK hP 1 0 rfl rfl (by unfold vp_in; decide) dX13_knownSigns_15 ?_
  refine lv_bipush (v := 63) hx hb dX13_knownSigns_16 (by decide) ?_
  refine lv_icmp_ne (tgt := 25) hx hb dX13_knownSigns_18 (by decide) (fun c_6 => absurd (hk 2 (by decide) (by decide)) c_6) (fun c_6 => ?_)
  refine lv_iconst (v := 0) hx hb dX13_knownSigns_21 (by decide) ?_
  refine lv_goto (tgt := 26) hx hb dX13_knownSigns_22 (by decide) ?_
  refine lv_iadd hx hb dX13_knownSigns_26 ?_
  refine pv_setI 1 (by decide) ?_
  refine lv_istore_n (lv' := [(1, .int 1), (2, .int 2), (0, .ref h0)]) hx hb dX13_knownSigns_27 rfl hl (by decide) rfl (fun ls hl => ?_)
  refine lv_iinc (v := 3) (lv' := [(2, .int 3), (1, .int 1), (0, .ref h0)]) hx hb dX13_knownSigns_28 hl (k := 1) rfl (by decide) (by decide) rfl (fun ls hl => ?_)
  refine lv_goto (tgt := 4) hx hb dX13_knownSigns_31 (by decide) ?_
  refine lv_iload_n hx hb dX13_knownSigns_4 rfl (lv_at hl 0 rfl) ?_
  refine lv_iconst (v := 3) hx hb dX13_knownSigns_5 (by decide) ?_
  refine lv_icmp_ge (tgt := 34) hx hb dX13_knownSigns_6 (by decide) (fun _ => ?_) (fun c_7 => absurd (by decide) c_7)
  refine lv_iload_n hx hb dX13_knownSigns_34 rfl (lv_at hl 1 rfl) ?_
  refine W.widen (k := 0) (n := 0) (Nat.le_of_ble_eq_true rfl) (Nat.le_of_ble_eq_true rfl) ?_
  exact W.iret (v := 1) hx hb hr (fun t ht hW => ⟨⟨1, (), rfl, rfl, trivial⟩, hS.F ht⟩) hS.2.2 dX13_knownSigns_35

set_option maxHeartbeats 4000000 in
set_option maxRecDepth 100000 in
/-- knownSigns, of one -/
theorem c_X13_knownSigns_1 (l : Launch) (hfl : l.stackTraces = false) (D : va_G) (sz : Nat) (h0 : Nat) (q : Nat → Nat) (cC : ClassId) (sg : Nat → Int32) (hk : ∀ j, j < 3 → j ≠ 1 → sg j = 63) (hkx : ¬ sg 1 = 63) : Met l yX13_knownSigns (Cond.code yX13_knownSigns cX13_knownSigns 3 (some .int) :: pv_W) ({ frames := 0, cells := 0, slots := 0, locals := 0 } : Room) (va_Pc [.ref h0] (pv_P D [(cC, .char)] [(h0, .inr (1, pv_m 0 q)), ((q 9), .inl (cC, 3, .inl sg))] (va_A [] sz) sz)) (va_Qi (fun r (_ : Unit) => r = 1) (fun _ _ => True) (va_A [] sz)) 0 0 (va_A [] sz) := by
  refine Met.ofW (cc := cX13_knownSigns) (maxL := 3) (ret := (some .int)) (by decide) rfl ?_
  intro p e s m args below meth c s₁ B hml hv
  obtain ⟨rfl, hsz, hE, hP, hK, hD0⟩ := hv
  have hx := B.exec
  have hb := B.bytes
  have hr := B.returns
  have hts := fun (w : Cond) (h : w ∈ pv_W) => atoms_spec (ws := Cond.code yX13_knownSigns cX13_knownSigns 3 (some .int) :: pv_W) B.pre w (List.mem_cons_of_mem _ h)
  have hg := fun {w : Cond} (h : w ∈ lw_tbl) (g : goodWord w = true) => hts w (pv_in h g)
  have hown : s.vm.findClass RX13 = some m.cls := findClass_of_methodNamed B.named
  have hlocks := B.notSynchronized
  subst hsz
  have hD := hD0
  generalize hAe : va_A [] s.heap.size = A at hE ⊢
  have hA : ∀ q : Nat, s.heap.size ≤ q → A q := fun q h => by rw [← hAe]; exact Or.inr h
  have hS : va_S A s.heap s.heap [] := va_S.rf
  have hP : va_P D pv_cl [(h0, .inr (1, pv_m 0 q)), ((q 9), .inl (cC, 3, .inl sg))] s.heap := hP
  have hl := lv_entry ([.ref h0]) (n := 3) (Nat.le_of_ble_eq_true rfl)
  rw [lg_entry_eq]
  generalize (lg_sl ([.ref h0]) ++ List.replicate (3 - (lg_sl ([.ref h0])).length) Slot.unset).toArray = ls at hl ⊢
  have hl : lv_has ls 3 [(0, .ref h0)] := hl
  refine lv_iconst (v := 0) hx hb dX13_knownSigns_0 (by decide) ?_
  refine lv_istore_n (lv' := [(1, .int 0), (0, .ref h0)]) hx hb dX13_knownSigns_1 rfl hl (by decide) rfl (fun ls hl => ?_)
  refine lv_iconst (v := 0) hx hb dX13_knownSigns_2 (by decide) ?_
  refine lv_istore_n (lv' := [(2, .int 0), (1, .int 0), (0, .ref h0)]) hx hb dX13_knownSigns_3 rfl hl (by decide) rfl (fun ls hl => ?_)
  refine lv_iload_n hx hb dX13_knownSigns_4 rfl (lv_at hl 0 rfl) ?_
  refine lv_iconst (v := 3) hx hb dX13_knownSigns_5 (by decide) ?_
  refine lv_icmp_ge (tgt := 34) hx hb dX13_knownSigns_6 (by decide) (fun c_1 => absurd c_1 (by decide)) (fun _ => ?_)
  refine lv_iload_n hx hb dX13_knownSigns_9 rfl (lv_at hl 1 rfl) ?_
  refine lv_aload_n hx hb dX13_knownSigns_10 rfl (lv_at hl 2 rfl) ?_
  refine va_get (own := RX13) (D := D) (ci := 1) (v := .ref (q 9)) (C := RX13) (T := TX13) (N := 45) hx hb hts inF13 hown hK hP 0 rfl rfl 16 (by decide) (hg w8_221 rfl) (fun _ h9 => h9) rfl dX13_knownSigns_11 ?_
  refine lv_iload_n hx hb dX13_knownSigns_14 rfl (lv_at hl 0 rfl) ?_
  refine va_cald hx hb hK hP 1 0 rfl rfl (by unfold vp_in; decide) dX13_knownSigns_15 ?_
  refine lv_bipush (v := 63) hx hb dX13_knownSigns_16 (by decide) ?_
  refine lv_icmp_ne (tgt := 25) hx hb dX13_knownSigns_18 (by decide) (fun c_2 => absurd (hk 0 (by decide) (by decide)) c_2) (fun c_2 => ?_)
  refine lv_iconst (v := 0) hx hb dX13_knownSigns_21 (by decide) ?_
  refine lv_goto (tgt := 26) hx hb dX13_knownSigns_22 (by decide) ?_
  refine lv_iadd hx hb dX13_knownSigns_26 ?_
  refine pv_setI 0 (by decide) ?_
  refine lv_istore_n (lv' := [(1, .int 0), (2, .int 0), (0, .ref h0)]) hx hb dX13_knownSigns_27 rfl hl (by decide) rfl (fun ls hl => ?_)
  refine lv_iinc (v := 1) (lv' := [(2, .int 1), (1, .int 0), (0, .ref h0)]) hx hb dX13_knownSigns_28 hl (k := 1) rfl (by decide) (by decide) rfl (fun ls hl => ?_)
  refine lv_goto (tgt := 4) hx hb dX13_knownSigns_31 (by decide) ?_
  refine lv_iload_n hx hb dX13_knownSigns_4 rfl (lv_at hl 0 rfl) ?_
  refine lv_iconst (v := 3) hx hb dX13_knownSigns_5 (by decide) ?_
  refine lv_icmp_ge (tgt := 34) hx hb dX13_knownSigns_6 (by decide) (fun c_3 => absurd c_3 (by decide)) (fun _ => ?_)
  refine lv_iload_n hx hb dX13_knownSigns_9 rfl (lv_at hl 1 rfl) ?_
  refine lv_aload_n hx hb dX13_knownSigns_10 rfl (lv_at hl 2 rfl) ?_
  refine va_get (own := RX13) (D := D) (ci := 1) (v := .ref (q 9)) (C := RX13) (T := TX13) (N := 45) hx hb hts inF13 hown hK hP 0 rfl rfl 16 (by decide) (hg w8_221 rfl) (fun _ h9 => h9) rfl dX13_knownSigns_11 ?_
  refine lv_iload_n hx hb dX13_knownSigns_14 rfl (lv_at hl 0 rfl) ?_
  refine va_cald hx hb hK hP 1 0 rfl rfl (by unfold vp_in; decide) dX13_knownSigns_15 ?_
  refine lv_bipush (v := 63) hx hb dX13_knownSigns_16 (by decide) ?_
  refine lv_icmp_ne (tgt := 25) hx hb dX13_knownSigns_18 (by decide) (fun c_4 => ?_) (fun c_4 => absurd c_4 hkx)
  refine lv_iconst (v := 1) hx hb dX13_knownSigns_25 (by decide) ?_
  refine lv_iadd hx hb dX13_knownSigns_26 ?_
  refine pv_setI 1 (by decide) ?_
  refine lv_istore_n (lv' := [(1, .int 1), (2, .int 1), (0, .ref h0)]) hx hb dX13_knownSigns_27 rfl hl (by decide) rfl (fun ls hl => ?_)
  refine lv_iinc (v := 2) (lv' := [(2, .int 2), (1, .int 1), (0, .ref h0)]) hx hb dX13_knownSigns_28 hl (k := 1) rfl (by decide) (by decide) rfl (fun ls hl => ?_)
  refine lv_goto (tgt := 4) hx hb dX13_knownSigns_31 (by decide) ?_
  refine lv_iload_n hx hb dX13_knownSigns_4 rfl (lv_at hl 0 rfl) ?_
  refine lv_iconst (v := 3) hx hb dX13_knownSigns_5 (by decide) ?_
  refine lv_icmp_ge (tgt := 34) hx hb dX13_knownSigns_6 (by decide) (fun c_5 => absurd c_5 (by decide)) (fun _ => ?_)
  refine lv_iload_n hx hb dX13_knownSigns_9 rfl (lv_at hl 1 rfl) ?_
  refine lv_aload_n hx hb dX13_knownSigns_10 rfl (lv_at hl 2 rfl) ?_
  refine va_get (own := RX13) (D := D) (ci := 1) (v := .ref (q 9)) (C := RX13) (T := TX13) (N := 45) hx hb hts inF13 hown hK hP 0 rfl rfl 16 (by decide) (hg w8_221 rfl) (fun _ h9 => h9) rfl dX13_knownSigns_11 ?_
  refine lv_iload_n hx hb dX13_knownSigns_14 rfl (lv_at hl 0 rfl) ?_
  refine va_cald hx hb hK hP 1 0 rfl rfl (by unfold vp_in; decide) dX13_knownSigns_15 ?_
  refine lv_bipush (v := 63) hx hb dX13_knownSigns_16 (by decide) ?_
  refine lv_icmp_ne (tgt := 25) hx hb dX13_knownSigns_18 (by decide) (fun c_6 => absurd (hk 2 (by decide) (by decide)) c_6) (fun c_6 => ?_)
  refine lv_iconst (v := 0) hx hb dX13_knownSigns_21 (by decide) ?_
  refine lv_goto (tgt := 26) hx hb dX13_knownSigns_22 (by decide) ?_
  refine lv_iadd hx hb dX13_knownSigns_26 ?_
  refine pv_setI 1 (by decide) ?_
  refine lv_istore_n (lv' := [(1, .int 1), (2, .int 2), (0, .ref h0)]) hx hb dX13_knownSigns_27 rfl hl (by decide) rfl (fun ls hl => ?_)
  refine lv_iinc (v := 3) (lv' := [(2, .int 3), (1, .int 1), (0, .ref h0)]) hx hb dX13_knownSigns_28 hl (k := 1) rfl (by decide) (by decide) rfl (fun ls hl => ?_)
  refine lv_goto (tgt := 4) hx hb dX13_knownSigns_31 (by decide) ?_
  refine lv_iload_n hx hb dX13_knownSigns_4 rfl (lv_at hl 0 rfl) ?_
  refine lv_iconst (v := 3) hx hb dX13_knownSigns_5 (by decide) ?_
  refine lv_icmp_ge (tgt := 34) hx hb dX13_knownSigns_6 (by decide) (fun _ => ?_) (fun c_7 => absurd (by decide) c_7)
  refine lv_iload_n hx hb dX13_knownSigns_34 rfl (lv_at hl 1 rfl) ?_
  refine W.widen (k := 0) (n := 0) (Nat.le_of_ble_eq_true rfl) (Nat.le_of_ble_eq_true rfl) ?_
  exact W.iret (v := 1) hx hb hr (fun t ht hW => ⟨⟨1, (), rfl, rfl, trivial⟩, hS.F ht⟩) hS.2.2 dX13_knownSigns_35

set_option maxHeartbeats 4000000 in
set_option maxRecDepth 100000 in
/-- knownSigns, of one -/
theorem c_X13_knownSigns_2 (l : Launch) (hfl : l.stackTraces = false) (D : va_G) (sz : Nat) (h0 : Nat) (q : Nat → Nat) (cC : ClassId) (sg : Nat → Int32) (hk : ∀ j, j < 3 → j ≠ 2 → sg j = 63) (hkx : ¬ sg 2 = 63) : Met l yX13_knownSigns (Cond.code yX13_knownSigns cX13_knownSigns 3 (some .int) :: pv_W) ({ frames := 0, cells := 0, slots := 0, locals := 0 } : Room) (va_Pc [.ref h0] (pv_P D [(cC, .char)] [(h0, .inr (1, pv_m 0 q)), ((q 9), .inl (cC, 3, .inl sg))] (va_A [] sz) sz)) (va_Qi (fun r (_ : Unit) => r = 1) (fun _ _ => True) (va_A [] sz)) 0 0 (va_A [] sz) := by
  refine Met.ofW (cc := cX13_knownSigns) (maxL := 3) (ret := (some .int)) (by decide) rfl ?_
  intro p e s m args below meth c s₁ B hml hv
  obtain ⟨rfl, hsz, hE, hP, hK, hD0⟩ := hv
  have hx := B.exec
  have hb := B.bytes
  have hr := B.returns
  have hts := fun (w : Cond) (h : w ∈ pv_W) => atoms_spec (ws := Cond.code yX13_knownSigns cX13_knownSigns 3 (some .int) :: pv_W) B.pre w (List.mem_cons_of_mem _ h)
  have hg := fun {w : Cond} (h : w ∈ lw_tbl) (g : goodWord w = true) => hts w (pv_in h g)
  have hown : s.vm.findClass RX13 = some m.cls := findClass_of_methodNamed B.named
  have hlocks := B.notSynchronized
  subst hsz
  have hD := hD0
  generalize hAe : va_A [] s.heap.size = A at hE ⊢
  have hA : ∀ q : Nat, s.heap.size ≤ q → A q := fun q h => by rw [← hAe]; exact Or.inr h
  have hS : va_S A s.heap s.heap [] := va_S.rf
  have hP : va_P D pv_cl [(h0, .inr (1, pv_m 0 q)), ((q 9), .inl (cC, 3, .inl sg))] s.heap := hP
  have hl := lv_entry ([.ref h0]) (n := 3) (Nat.le_of_ble_eq_true rfl)
  rw [lg_entry_eq]
  generalize (lg_sl ([.ref h0]) ++ List.replicate (3 - (lg_sl ([.ref h0])).length) Slot.unset).toArray = ls at hl ⊢
  have hl : lv_has ls 3 [(0, .ref h0)] := hl
  refine lv_iconst (v := 0) hx hb dX13_knownSigns_0 (by decide) ?_
  refine lv_istore_n (lv' := [(1, .int 0), (0, .ref h0)]) hx hb dX13_knownSigns_1 rfl hl (by decide) rfl (fun ls hl => ?_)
  refine lv_iconst (v := 0) hx hb dX13_knownSigns_2 (by decide) ?_
  refine lv_istore_n (lv' := [(2, .int 0), (1, .int 0), (0, .ref h0)]) hx hb dX13_knownSigns_3 rfl hl (by decide) rfl (fun ls hl => ?_)
  refine lv_iload_n hx hb dX13_knownSigns_4 rfl (lv_at hl 0 rfl) ?_
  refine lv_iconst (v := 3) hx hb dX13_knownSigns_5 (by decide) ?_
  refine lv_icmp_ge (tgt := 34) hx hb dX13_knownSigns_6 (by decide) (fun c_1 => absurd c_1 (by decide)) (fun _ => ?_)
  refine lv_iload_n hx hb dX13_knownSigns_9 rfl (lv_at hl 1 rfl) ?_
  refine lv_aload_n hx hb dX13_knownSigns_10 rfl (lv_at hl 2 rfl) ?_
  refine va_get (own := RX13) (D := D) (ci := 1) (v := .ref (q 9)) (C := RX13) (T := TX13) (N := 45) hx hb hts inF13 hown hK hP 0 rfl rfl 16 (by decide) (hg w8_221 rfl) (fun _ h9 => h9) rfl dX13_knownSigns_11 ?_
  refine lv_iload_n hx hb dX13_knownSigns_14 rfl (lv_at hl 0 rfl) ?_
  refine va_cald hx hb hK hP 1 0 rfl rfl (by unfold vp_in; decide) dX13_knownSigns_15 ?_
  refine lv_bipush (v := 63) hx hb dX13_knownSigns_16 (by decide) ?_
  refine lv_icmp_ne (tgt := 25) hx hb dX13_knownSigns_18 (by decide) (fun c_2 => absurd (hk 0 (by decide) (by decide)) c_2) (fun c_2 => ?_)
  refine lv_iconst (v := 0) hx hb dX13_knownSigns_21 (by decide) ?_
  refine lv_goto (tgt := 26) hx hb dX13_knownSigns_22 (by decide) ?_
  refine lv_iadd hx hb dX13_knownSigns_26 ?_
  refine pv_setI 0 (by decide) ?_
  refine lv_istore_n (lv' := [(1, .int 0), (2, .int 0), (0, .ref h0)]) hx hb dX13_knownSigns_27 rfl hl (by decide) rfl (fun ls hl => ?_)
  refine lv_iinc (v := 1) (lv' := [(2, .int 1), (1, .int 0), (0, .ref h0)]) hx hb dX13_knownSigns_28 hl (k := 1) rfl (by decide) (by decide) rfl (fun ls hl => ?_)
  refine lv_goto (tgt := 4) hx hb dX13_knownSigns_31 (by decide) ?_
  refine lv_iload_n hx hb dX13_knownSigns_4 rfl (lv_at hl 0 rfl) ?_
  refine lv_iconst (v := 3) hx hb dX13_knownSigns_5 (by decide) ?_
  refine lv_icmp_ge (tgt := 34) hx hb dX13_knownSigns_6 (by decide) (fun c_3 => absurd c_3 (by decide)) (fun _ => ?_)
  refine lv_iload_n hx hb dX13_knownSigns_9 rfl (lv_at hl 1 rfl) ?_
  refine lv_aload_n hx hb dX13_knownSigns_10 rfl (lv_at hl 2 rfl) ?_
  refine va_get (own := RX13) (D := D) (ci := 1) (v := .ref (q 9)) (C := RX13) (T := TX13) (N := 45) hx hb hts inF13 hown hK hP 0 rfl rfl 16 (by decide) (hg w8_221 rfl) (fun _ h9 => h9) rfl dX13_knownSigns_11 ?_
  refine lv_iload_n hx hb dX13_knownSigns_14 rfl (lv_at hl 0 rfl) ?_
  refine va_cald hx hb hK hP 1 0 rfl rfl (by unfold vp_in; decide) dX13_knownSigns_15 ?_
  refine lv_bipush (v := 63) hx hb dX13_knownSigns_16 (by decide) ?_
  refine lv_icmp_ne (tgt := 25) hx hb dX13_knownSigns_18 (by decide) (fun c_4 => absurd (hk 1 (by decide) (by decide)) c_4) (fun c_4 => ?_)
  refine lv_iconst (v := 0) hx hb dX13_knownSigns_21 (by decide) ?_
  refine lv_goto (tgt := 26) hx hb dX13_knownSigns_22 (by decide) ?_
  refine lv_iadd hx hb dX13_knownSigns_26 ?_
  refine pv_setI 0 (by decide) ?_
  refine lv_istore_n (lv' := [(1, .int 0), (2, .int 1), (0, .ref h0)]) hx hb dX13_knownSigns_27 rfl hl (by decide) rfl (fun ls hl => ?_)
  refine lv_iinc (v := 2) (lv' := [(2, .int 2), (1, .int 0), (0, .ref h0)]) hx hb dX13_knownSigns_28 hl (k := 1) rfl (by decide) (by decide) rfl (fun ls hl => ?_)
  refine lv_goto (tgt := 4) hx hb dX13_knownSigns_31 (by decide) ?_
  refine lv_iload_n hx hb dX13_knownSigns_4 rfl (lv_at hl 0 rfl) ?_
  refine lv_iconst (v := 3) hx hb dX13_knownSigns_5 (by decide) ?_
  refine lv_icmp_ge (tgt := 34) hx hb dX13_knownSigns_6 (by decide) (fun c_5 => absurd c_5 (by decide)) (fun _ => ?_)
  refine lv_iload_n hx hb dX13_knownSigns_9 rfl (lv_at hl 1 rfl) ?_
  refine lv_aload_n hx hb dX13_knownSigns_10 rfl (lv_at hl 2 rfl) ?_
  refine va_get (own := RX13) (D := D) (ci := 1) (v := .ref (q 9)) (C := RX13) (T := TX13) (N := 45) hx hb hts inF13 hown hK hP 0 rfl rfl 16 (by decide) (hg w8_221 rfl) (fun _ h9 => h9) rfl dX13_knownSigns_11 ?_
  refine lv_iload_n hx hb dX13_knownSigns_14 rfl (lv_at hl 0 rfl) ?_
  refine va_cald hx hb hK hP 1 0 rfl rfl (by unfold vp_in; decide) dX13_knownSigns_15 ?_
  refine lv_bipush (v := 63) hx hb dX13_knownSigns_16 (by decide) ?_
  refine lv_icmp_ne (tgt := 25) hx hb dX13_knownSigns_18 (by decide) (fun c_6 => ?_) (fun c_6 => absurd c_6 hkx)
  refine lv_iconst (v := 1) hx hb dX13_knownSigns_25 (by decide) ?_
  refine lv_iadd hx hb dX13_knownSigns_26 ?_
  refine pv_setI 1 (by decide) ?_
  refine lv_istore_n (lv' := [(1, .int 1), (2, .int 2), (0, .ref h0)]) hx hb dX13_knownSigns_27 rfl hl (by decide) rfl (fun ls hl => ?_)
  refine lv_iinc (v := 3) (lv' := [(2, .int 3), (1, .int 1), (0, .ref h0)]) hx hb dX13_knownSigns_28 hl (k := 1) rfl (by decide) (by decide) rfl (fun ls hl => ?_)
  refine lv_goto (tgt := 4) hx hb dX13_knownSigns_31 (by decide) ?_
  refine lv_iload_n hx hb dX13_knownSigns_4 rfl (lv_at hl 0 rfl) ?_
  refine lv_iconst (v := 3) hx hb dX13_knownSigns_5 (by decide) ?_
  refine lv_icmp_ge (tgt := 34) hx hb dX13_knownSigns_6 (by decide) (fun _ => ?_) (fun c_7 => absurd (by decide) c_7)
  refine lv_iload_n hx hb dX13_knownSigns_34 rfl (lv_at hl 1 rfl) ?_
  refine W.widen (k := 0) (n := 0) (Nat.le_of_ble_eq_true rfl) (Nat.le_of_ble_eq_true rfl) ?_
  exact W.iret (v := 1) hx hb hr (fun t ht hW => ⟨⟨1, (), rfl, rfl, trivial⟩, hS.F ht⟩) hS.2.2 dX13_knownSigns_35

theorem dX13_assume_0 : decode cX13_assume 0 = .ok (.aload_n 0, 1) := by decide +kernel
theorem dX13_assume_1 : decode cX13_assume 1 = .ok (.iconst 0, 1) := by decide +kernel
theorem dX13_assume_2 : decode cX13_assume 2 = .ok (.putfield 122, 3) := by decide +kernel
theorem dX13_assume_5 : decode cX13_assume 5 = .ok (.iload_n 1, 1) := by decide +kernel
theorem dX13_assume_6 : decode cX13_assume 6 = .ok (.iconst 0, 1) := by decide +kernel
theorem dX13_assume_7 : decode cX13_assume 7 = .ok (.iconst 2, 1) := by decide +kernel
theorem dX13_assume_8 : decode cX13_assume 8 = .ok (.invokestatic 128, 3) := by decide +kernel
theorem dX13_assume_11 : decode cX13_assume 11 = .ok (.ifCond .eq 10, 3) := by decide +kernel
theorem dX13_assume_14 : decode cX13_assume 14 = .ok (.iload_n 2, 1) := by decide +kernel
theorem dX13_assume_15 : decode cX13_assume 15 = .ok (.invokestatic 428, 3) := by decide +kernel
theorem w11_67 : (Jvm.Cond.methodLink "PolyforgeModel" (428 : Nat) ({ cls := "PolyforgeModel", name := "isSign", desc := "(C)Z" } : Jvm.MethodName)) ∈ lw_tbl := pv_t11 (pv_mg 67 rfl)
theorem w11_69 : (Jvm.Cond.code ({ cls := "PolyforgeModel", name := "isSign", desc := "(C)Z" } : Jvm.MethodName) prog_14_method_111_code (1 : Nat) (Option.some Jvm.ClassFile.FieldType.boolean)) ∈ lw_tbl := pv_t11 (pv_mg 69 rfl)
theorem w11_68 : (Jvm.Cond.static ({ cls := "PolyforgeModel", name := "isSign", desc := "(C)Z" } : Jvm.MethodName)) ∈ lw_tbl := pv_t11 (pv_mg 68 rfl)
theorem dX13_assume_18 : decode cX13_assume 18 = .ok (.ifCond .ne 9, 3) := by decide +kernel
theorem dX13_assume_27 : decode cX13_assume 27 = .ok (.aload_n 0, 1) := by decide +kernel
theorem dX13_assume_28 : decode cX13_assume 28 = .ok (.getfield 49, 3) := by decide +kernel
theorem dX13_assume_31 : decode cX13_assume 31 = .ok (.iload_n 1, 1) := by decide +kernel
theorem dX13_assume_32 : decode cX13_assume 32 = .ok (.caload, 1) := by decide +kernel
theorem dX13_assume_33 : decode cX13_assume 33 = .ok (.bipush 63, 2) := by decide +kernel
theorem dX13_assume_35 : decode cX13_assume 35 = .ok (.if_icmp .eq 9, 3) := by decide +kernel
theorem dX13_assume_44 : decode cX13_assume 44 = .ok (.aload_n 0, 1) := by decide +kernel
theorem dX13_assume_45 : decode cX13_assume 45 = .ok (.getfield 49, 3) := by decide +kernel
theorem dX13_assume_48 : decode cX13_assume 48 = .ok (.iload_n 1, 1) := by decide +kernel
theorem dX13_assume_49 : decode cX13_assume 49 = .ok (.iload_n 2, 1) := by decide +kernel
theorem dX13_assume_50 : decode cX13_assume 50 = .ok (.castore, 1) := by decide +kernel
theorem dX13_assume_51 : decode cX13_assume 51 = .ok (.aload_n 0, 1) := by decide +kernel
theorem dX13_assume_52 : decode cX13_assume 52 = .ok (.getfield 52, 3) := by decide +kernel
theorem w8_222 : (Jvm.Cond.fieldLink "PolyforgeModel" (52 : Nat) "PolyforgeModel" "signFrame" "[I") ∈ lw_tbl := pv_t8 (pv_mg 222 rfl)
theorem dX13_assume_55 : decode cX13_assume 55 = .ok (.iload_n 1, 1) := by decide +kernel
theorem dX13_assume_56 : decode cX13_assume 56 = .ok (.aload_n 0, 1) := by decide +kernel
theorem dX13_assume_57 : decode cX13_assume 57 = .ok (.getfield 45, 3) := by decide +kernel
theorem dX13_assume_60 : decode cX13_assume 60 = .ok (.iastore, 1) := by decide +kernel
theorem dX13_assume_61 : decode cX13_assume 61 = .ok (.aload_n 0, 1) := by decide +kernel
theorem dX13_assume_62 : decode cX13_assume 62 = .ok (.invokevirtual 435, 3) := by decide +kernel
theorem w11_74 : (Jvm.Cond.methodLink "PolyforgeModel" (435 : Nat) ({ cls := "PolyforgeModel", name := "knownSigns", desc := "()I" } : Jvm.MethodName)) ∈ lw_tbl := pv_t11 (pv_mg 74 rfl)
theorem w11_77 : (Jvm.Cond.code ({ cls := "PolyforgeModel", name := "knownSigns", desc := "()I" } : Jvm.MethodName) prog_14_method_113_code (3 : Nat) (Option.some Jvm.ClassFile.FieldType.int)) ∈ lw_tbl := pv_t11 (pv_mg 77 rfl)
theorem wp8_0 : Cond.selects "PolyforgeModel" ⟨"PolyforgeModel", "knownSigns", "()I"⟩ ⟨"PolyforgeModel", "knownSigns", "()I"⟩ ∈ lw_tbl := pv_mg 112 rfl
theorem w11_76 : (Jvm.Cond.instanceMethod ({ cls := "PolyforgeModel", name := "knownSigns", desc := "()I" } : Jvm.MethodName)) ∈ lw_tbl := pv_t11 (pv_mg 76 rfl)
theorem dX13_assume_65 : decode cX13_assume 65 = .ok (.ireturn, 1) := by decide +kernel
theorem dX13_assume_21 : decode cX13_assume 21 = .ok (.aload_n 0, 1) := by decide +kernel
theorem dX13_assume_22 : decode cX13_assume 22 = .ok (.iconst 1, 1) := by decide +kernel
theorem dX13_assume_23 : decode cX13_assume 23 = .ok (.invokevirtual 185, 3) := by decide +kernel
theorem dX13_assume_26 : decode cX13_assume 26 = .ok (.ireturn, 1) := by decide +kernel
set_option maxHeartbeats 4000000 in
set_option maxRecDepth 100000 in
/-- assume on a fresh object -/
theorem c_X13_assume (l : Launch) (hfl : l.stackTraces = false) (D : va_G) (sz : Nat) (h0 : Nat) (q : Nat → Nat) (cC cI : ClassId) (sg : Nat → Int32) (hsg : ∀ j, j < 3 → sg j = 63) (sf : Nat → Int32) (p0 p1 : Int32) : Met l yX13_assume (Cond.code yX13_assume cX13_assume 3 (some .int) :: pv_W) ({ frames := 1, cells := 0, slots := 0, locals := 22 } : Room) (va_Pc [.ref h0, .int p0, .int p1] (pv_P D [(cC, .char), (cI, .int)] [(h0, .inr (1, pv_m 0 q)), ((q 9), .inl (cC, 3, .inl sg)), ((q 10), .inl (cI, 3, .inl sf))] (va_A [(h0, .inr (1, pv_m 0 q)), ((q 9), .inl (cC, 3, .inl sg)), ((q 10), .inl (cI, 3, .inl sf))] sz) sz)) (va_Qi (fun r (u : Int32) => (u = 0 ∧ r = 1 ∧ (pv_vr p0 ∧ pv_sn p1)) ∨ (u = 1 ∧ ¬ (pv_vr p0 ∧ pv_sn p1))) (fun (u : Int32) t => ∃ fs : List Value, fs[0]? = some (.int u) ∧ va_P D pv_cl [(h0, .inr (1, fs))] t.heap ∧ va_K D pv_cl [] t ∧ va_D (va_A [(h0, .inr (1, pv_m 0 q)), ((q 9), .inl (cC, 3, .inl sg)), ((q 10), .inl (cI, 3, .inl sf))] sz) [(h0, .inr (1, fs))]) (va_A [(h0, .inr (1, pv_m 0 q)), ((q 9), .inl (cC, 3, .inl sg)), ((q 10), .inl (cI, 3, .inl sf))] sz)) 0 0 (va_A [(h0, .inr (1, pv_m 0 q)), ((q 9), .inl (cC, 3, .inl sg)), ((q 10), .inl (cI, 3, .inl sf))] sz) := by
  refine Met.ofW (cc := cX13_assume) (maxL := 3) (ret := (some .int)) (by decide) rfl ?_
  intro p e s m args below meth c s₁ B hml hv
  obtain ⟨rfl, hsz, hE, hP, hK, hD0⟩ := hv
  have hx := B.exec
  have hb := B.bytes
  have hr := B.returns
  have hts := fun (w : Cond) (h : w ∈ pv_W) => atoms_spec (ws := Cond.code yX13_assume cX13_assume 3 (some .int) :: pv_W) B.pre w (List.mem_cons_of_mem _ h)
  have hg := fun {w : Cond} (h : w ∈ lw_tbl) (g : goodWord w = true) => hts w (pv_in h g)
  have hown : s.vm.findClass RX13 = some m.cls := findClass_of_methodNamed B.named
  have hlocks := B.notSynchronized
  subst hsz
  have hD := hD0.self (sz := s.heap.size)
  generalize hAe : va_A [(h0, .inr (1, pv_m 0 q)), ((q 9), .inl (cC, 3, .inl sg)), ((q 10), .inl (cI, 3, .inl sf))] s.heap.size = A at hD hE ⊢
  have hA : ∀ q : Nat, s.heap.size ≤ q → A q := fun q h => by rw [← hAe]; exact Or.inr h
  have hS : va_S A s.heap s.heap [] := va_S.rf
  have hP : va_P D pv_cl [(h0, .inr (1, pv_m 0 q)), ((q 9), .inl (cC, 3, .inl sg)), ((q 10), .inl (cI, 3, .inl sf))] s.heap := hP
  have hl := lv_entry ([.ref h0, .int p0, .int p1]) (n := 3) (Nat.le_of_ble_eq_true rfl)
  rw [lg_entry_eq]
  generalize (lg_sl ([.ref h0, .int p0, .int p1]) ++ List.replicate (3 - (lg_sl ([.ref h0, .int p0, .int p1])).length) Slot.unset).toArray = ls at hl ⊢
  have hl : lv_has ls 3 [(0, .ref h0), (1, .int p0), (2, .int p1)] := hl
  refine lv_aload_n hx hb dX13_assume_0 rfl (lv_at hl 0 rfl) ?_
  refine lv_iconst (v := 0) hx hb dX13_assume_1 (by decide) ?_
  refine va_put (own := RX13) (D := D) (ci := 1) (v := .int 0) (ty := .int) (C := RX13) (T := TX13) (N := 45) hx hb hts inF13 tyX13 tyX13_ok nmX13 hown hK hP hD hS 0 rfl rfl 0 (by decide) (hg w8_205 rfl) (fun _ h9 => h9) rfl (by decide +kernel) rfl rfl (Nat.le_of_ble_eq_true rfl) dX13_assume_2 (fun H locs hP hD hS => ?_)
  have hP : va_P D pv_cl [(h0, .inr (1, pv_m 0 q)), ((q 9), .inl (cC, 3, .inl sg)), ((q 10), .inl (cI, 3, .inl sf))] _ := hP
  have hD : va_D A [(h0, .inr (1, pv_m 0 q)), ((q 9), .inl (cC, 3, .inl sg)), ((q 10), .inl (cI, 3, .inl sf))] := hD
  refine lv_iload_n hx hb dX13_assume_5 rfl (lv_at hl 1 rfl) ?_
  refine lv_iconst (v := 0) hx hb dX13_assume_6 (by decide) ?_
  refine lv_iconst (v := 2) hx hb dX13_assume_7 (by decide) ?_
  have hF := pv_new hA hS.1
  refine va_calli (va_runS (As := [.int p0, .int 0, .int 2]) (rest := []) ⟨hx, hb, hml, hown, hts⟩ (c_X13_in l hfl D _ p0 0 2) (va_cwS 3 hts (pv_gS w9_152 w9_153 w1_10 w9_154) rfl rfl rfl (by decide +kernel) ⟨Nat.le_of_ble_eq_true rfl, Nat.le_of_ble_eq_true rfl⟩) (pv_ps hE hS hF (hP.sub [] rfl) (hK.sub [] rfl) (hD.sub [] (by decide) rfl)) rfl rfl hl.1 rfl (lv_room (Nat.le_of_ble_eq_true rfl)) dX13_assume_8 ⟨Nat.le_of_ble_eq_true rfl, Nat.le_of_ble_eq_true rfl⟩) hS (fun q _ h => hF q h) hF (fun r_0 u t H1 locs1 ht hvm hw hB hz1 hk1 hS => ?_)
  refine W.widen (k := 0) (n := 0) (Nat.le_of_ble_eq_true rfl) (Nat.le_of_ble_eq_true rfl) ?_
  have hP := pv_keep hP rfl hk1
  rcases hw with ⟨rfl, a_2⟩ | ⟨rfl, a_2⟩
  · refine lv_if_eq (tgt := 21) hx hb dX13_assume_11 (by decide) (fun c_3 => absurd c_3 (by decide)) (fun _ => ?_)
    refine lv_iload_n hx hb dX13_assume_14 rfl (lv_at hl 2 rfl) ?_
    have hF := pv_new hA hS.1
    refine va_calli (va_runS (As := [.int p1]) (rest := []) ⟨hx, hb, hml, hown, hts⟩ (c_X13_isSign l hfl D _ p1) (va_cwS 1 hts (pv_gS w11_67 w11_68 w1_10 w11_69) rfl rfl rfl (by decide +kernel) ⟨Nat.le_of_ble_eq_true rfl, Nat.le_of_ble_eq_true rfl⟩) (pv_ps hE hS hF (hP.sub [] rfl) (hK.sub [] rfl) (hD.sub [] (by decide) rfl)) rfl rfl hl.1 rfl (lv_room (Nat.le_of_ble_eq_true rfl)) dX13_assume_15 ⟨Nat.le_of_ble_eq_true rfl, Nat.le_of_ble_eq_true rfl⟩) hS (fun q _ h => hF q h) hF (fun r_3 u t H1 locs1 ht hvm hw hB hz1 hk1 hS => ?_)
    refine W.widen (k := 0) (n := 0) (Nat.le_of_ble_eq_true rfl) (Nat.le_of_ble_eq_true rfl) ?_
    have hP := pv_keep hP rfl hk1
    rcases hw with ⟨rfl, a_5⟩ | ⟨rfl, a_5⟩
    · refine lv_if_ne (tgt := 27) hx hb dX13_assume_18 (by decide) (fun _ => ?_) (fun c_6 => absurd c_6 (by decide))
      refine lv_aload_n hx hb dX13_assume_27 rfl (lv_at hl 0 rfl) ?_
      refine va_get (own := RX13) (D := D) (ci := 1) (v := .ref (q 9)) (C := RX13) (T := TX13) (N := 45) hx hb hts inF13 hown hK hP 0 rfl rfl 16 (by decide) (hg w8_221 rfl) (fun _ h9 => h9) rfl dX13_assume_28 ?_
      refine lv_iload_n hx hb dX13_assume_31 rfl (lv_at hl 1 rfl) ?_
      refine va_cald hx hb hK hP 1 0 rfl rfl (pv_vin (pv_in3.mp a_2)) dX13_assume_32 ?_
      refine pv_setI 63 (hsg _ (pv_vcl (pv_in3.mp a_2))) ?_
      refine lv_bipush (v := 63) hx hb dX13_assume_33 (by decide) ?_
      refine lv_icmp_eq (tgt := 44) hx hb dX13_assume_35 (by decide) (fun _ => ?_) (fun c_7 => absurd (by decide) c_7)
      have hvr := pv_in3.mp a_2
      have hok : pv_vr p0 ∧ pv_sn p1 := ⟨hvr, a_5⟩
      have hsn : ¬ vp_nar .char p1 = 63 := by rcases a_5 with rfl | rfl | rfl <;> decide
      rcases pv_v3 hvr with rfl | rfl | rfl
      · refine lv_aload_n hx hb dX13_assume_44 rfl (lv_at hl 0 rfl) ?_
        refine va_get (own := RX13) (D := D) (ci := 1) (v := .ref (q 9)) (C := RX13) (T := TX13) (N := 45) hx hb hts inF13 hown hK hP 0 rfl rfl 16 (by decide) (hg w8_221 rfl) (fun _ h9 => h9) rfl dX13_assume_45 ?_
        refine lv_iload_n hx hb dX13_assume_48 rfl (lv_at hl 1 rfl) ?_
        refine lv_iload_n hx hb dX13_assume_49 rfl (lv_at hl 2 rfl) ?_
        refine va_cast hx hb hK hP hD hS 1 0 rfl rfl (by unfold vp_in; decide) dX13_assume_50 (fun H locs hP hD hS => ?_)
        have hP : va_P D pv_cl [(h0, .inr (1, pv_m 0 q)), ((q 9), .inl (cC, 3, .inl (upd (sg) (0 : Int32).toNatClampNeg (vp_nar .char p1)))), ((q 10), .inl (cI, 3, .inl sf))] _ := hP
        have hD : va_D A [(h0, .inr (1, pv_m 0 q)), ((q 9), .inl (cC, 3, .inl (upd (sg) (0 : Int32).toNatClampNeg (vp_nar .char p1)))), ((q 10), .inl (cI, 3, .inl sf))] := hD
        refine lv_aload_n hx hb dX13_assume_51 rfl (lv_at hl 0 rfl) ?_
        refine va_get (own := RX13) (D := D) (ci := 1) (v := .ref (q 10)) (C := RX13) (T := TX13) (N := 45) hx hb hts inF13 hown hK hP 0 rfl rfl 17 (by decide) (hg w8_222 rfl) (fun _ h9 => h9) rfl dX13_assume_52 ?_
        refine lv_iload_n hx hb dX13_assume_55 rfl (lv_at hl 1 rfl) ?_
        refine lv_aload_n hx hb dX13_assume_56 rfl (lv_at hl 0 rfl) ?_
        refine va_get (own := RX13) (D := D) (ci := 1) (v := .int 1) (C := RX13) (T := TX13) (N := 45) hx hb hts inF13 hown hK hP 0 rfl rfl 15 (by decide) (hg w8_220 rfl) (fun _ h9 => h9) rfl dX13_assume_57 ?_
        refine va_iast hx hb hK hP hD hS 2 1 rfl rfl (by unfold vp_in; decide) dX13_assume_60 (fun H locs hP hD hS => ?_)
        have hP : va_P D pv_cl [(h0, .inr (1, pv_m 0 q)), ((q 9), .inl (cC, 3, .inl (upd (sg) (0 : Int32).toNatClampNeg (vp_nar .char p1)))), ((q 10), .inl (cI, 3, .inl (upd (sf) (0 : Int32).toNatClampNeg 1)))] _ := hP
        have hD : va_D A [(h0, .inr (1, pv_m 0 q)), ((q 9), .inl (cC, 3, .inl (upd (sg) (0 : Int32).toNatClampNeg (vp_nar .char p1)))), ((q 10), .inl (cI, 3, .inl (upd (sf) (0 : Int32).toNatClampNeg 1)))] := hD
        refine lv_aload_n hx hb dX13_assume_61 rfl (lv_at hl 0 rfl) ?_
        have hF := pv_new hA hS.1
        refine va_calli (va_runV (As := []) (rest := []) ⟨hx, hb, hml, hown, hts⟩ (c_X13_knownSigns_0 l hfl D _ h0 q cC (upd (sg) (0 : Int32).toNatClampNeg (vp_nar .char p1)) (fun j h1 h2 => (pk_un h2).trans (hsg j h1)) (fun h => hsn (pk_us.symm.trans h))) (cwV 0 hts (pv_gV w11_74 w11_76 wp8_0 w1_10 w11_77) rfl rfl rfl (by decide +kernel) ⟨Nat.le_of_ble_eq_true rfl, Nat.le_of_ble_eq_true rfl⟩) (pv_pV hE hS hF (hP.sub [0, 1] rfl) (hK.sub [0] rfl) (hD.sub [0, 1] (by decide) rfl) (va_recv (ci := 1) (q0 := 0) hK hP rfl rfl)) rfl rfl hl.1 rfl (lv_room (Nat.le_of_ble_eq_true rfl)) dX13_assume_62 ⟨Nat.le_of_ble_eq_true rfl, Nat.le_of_ble_eq_true rfl⟩) hS (fun q _ h => hF q h) hF (fun r_7 u t H1 locs1 ht hvm hw hB hz1 hk1 hS => ?_)
        refine W.widen (k := 0) (n := 0) (Nat.le_of_ble_eq_true rfl) (Nat.le_of_ble_eq_true rfl) ?_
        have hP := pv_keep hP rfl hk1
        obtain rfl := hw
        refine W.widen (k := 0) (n := 0) (Nat.le_of_ble_eq_true rfl) (Nat.le_of_ble_eq_true rfl) ?_
        exact W.iret (v := 1) hx hb hr (fun t ht hW => ⟨⟨1, 0, rfl, Or.inl ⟨rfl, rfl, hok⟩, pv_m 0 q, rfl, (by rw [ht]; exact hP.sub [0] rfl), va_K.moved hW.alike (hK.sub [] rfl), hD.sub [0] (by decide) rfl⟩, hS.F ht⟩) hS.2.2 dX13_assume_65
      · refine lv_aload_n hx hb dX13_assume_44 rfl (lv_at hl 0 rfl) ?_
        refine va_get (own := RX13) (D := D) (ci := 1) (v := .ref (q 9)) (C := RX13) (T := TX13) (N := 45) hx hb hts inF13 hown hK hP 0 rfl rfl 16 (by decide) (hg w8_221 rfl) (fun _ h9 => h9) rfl dX13_assume_45 ?_
        refine lv_iload_n hx hb dX13_assume_48 rfl (lv_at hl 1 rfl) ?_
        refine lv_iload_n hx hb dX13_assume_49 rfl (lv_at hl 2 rfl) ?_
        refine va_cast hx hb hK hP hD hS 1 0 rfl rfl (by unfold vp_in; decide) dX13_assume_50 (fun H locs hP hD hS => ?_)
        have hP : va_P D pv_cl [(h0, .inr (1, pv_m 0 q)), ((q 9), .inl (cC, 3, .inl (upd (sg) (1 : Int32).toNatClampNeg (vp_nar .char p1)))), ((q 10), .inl (cI, 3, .inl sf))] _ := hP
        have hD : va_D A [(h0, .inr (1, pv_m 0 q)), ((q 9), .inl (cC, 3, .inl (upd (sg) (1 : Int32).toNatClampNeg (vp_nar .char p1)))), ((q 10), .inl (cI, 3, .inl sf))] := hD
        refine lv_aload_n hx hb dX13_assume_51 rfl (lv_at hl 0 rfl) ?_
        refine va_get (own := RX13) (D := D) (ci := 1) (v := .ref (q 10)) (C := RX13) (T := TX13) (N := 45) hx hb hts inF13 hown hK hP 0 rfl rfl 17 (by decide) (hg w8_222 rfl) (fun _ h9 => h9) rfl dX13_assume_52 ?_
        refine lv_iload_n hx hb dX13_assume_55 rfl (lv_at hl 1 rfl) ?_
        refine lv_aload_n hx hb dX13_assume_56 rfl (lv_at hl 0 rfl) ?_
        refine va_get (own := RX13) (D := D) (ci := 1) (v := .int 1) (C := RX13) (T := TX13) (N := 45) hx hb hts inF13 hown hK hP 0 rfl rfl 15 (by decide) (hg w8_220 rfl) (fun _ h9 => h9) rfl dX13_assume_57 ?_
        refine va_iast hx hb hK hP hD hS 2 1 rfl rfl (by unfold vp_in; decide) dX13_assume_60 (fun H locs hP hD hS => ?_)
        have hP : va_P D pv_cl [(h0, .inr (1, pv_m 0 q)), ((q 9), .inl (cC, 3, .inl (upd (sg) (1 : Int32).toNatClampNeg (vp_nar .char p1)))), ((q 10), .inl (cI, 3, .inl (upd (sf) (1 : Int32).toNatClampNeg 1)))] _ := hP
        have hD : va_D A [(h0, .inr (1, pv_m 0 q)), ((q 9), .inl (cC, 3, .inl (upd (sg) (1 : Int32).toNatClampNeg (vp_nar .char p1)))), ((q 10), .inl (cI, 3, .inl (upd (sf) (1 : Int32).toNatClampNeg 1)))] := hD
        refine lv_aload_n hx hb dX13_assume_61 rfl (lv_at hl 0 rfl) ?_
        have hF := pv_new hA hS.1
        refine va_calli (va_runV (As := []) (rest := []) ⟨hx, hb, hml, hown, hts⟩ (c_X13_knownSigns_1 l hfl D _ h0 q cC (upd (sg) (1 : Int32).toNatClampNeg (vp_nar .char p1)) (fun j h1 h2 => (pk_un h2).trans (hsg j h1)) (fun h => hsn (pk_us.symm.trans h))) (cwV 0 hts (pv_gV w11_74 w11_76 wp8_0 w1_10 w11_77) rfl rfl rfl (by decide +kernel) ⟨Nat.le_of_ble_eq_true rfl, Nat.le_of_ble_eq_true rfl⟩) (pv_pV hE hS hF (hP.sub [0, 1] rfl) (hK.sub [0] rfl) (hD.sub [0, 1] (by decide) rfl) (va_recv (ci := 1) (q0 := 0) hK hP rfl rfl)) rfl rfl hl.1 rfl (lv_room (Nat.le_of_ble_eq_true rfl)) dX13_assume_62 ⟨Nat.le_of_ble_eq_true rfl, Nat.le_of_ble_eq_true rfl⟩) hS (fun q _ h => hF q h) hF (fun r_8 u t H1 locs1 ht hvm hw hB hz1 hk1 hS => ?_)
        refine W.widen (k := 0) (n := 0) (Nat.le_of_ble_eq_true rfl) (Nat.le_of_ble_eq_true rfl) ?_
        have hP := pv_keep hP rfl hk1
        obtain rfl := hw
        refine W.widen (k := 0) (n := 0) (Nat.le_of_ble_eq_true rfl) (Nat.le_of_ble_eq_true rfl) ?_
        exact W.iret (v := 1) hx hb hr (fun t ht hW => ⟨⟨1, 0, rfl, Or.inl ⟨rfl, rfl, hok⟩, pv_m 0 q, rfl, (by rw [ht]; exact hP.sub [0] rfl), va_K.moved hW.alike (hK.sub [] rfl), hD.sub [0] (by decide) rfl⟩, hS.F ht⟩) hS.2.2 dX13_assume_65
      · refine lv_aload_n hx hb dX13_assume_44 rfl (lv_at hl 0 rfl) ?_
        refine va_get (own := RX13) (D := D) (ci := 1) (v := .ref (q 9)) (C := RX13) (T := TX13) (N := 45) hx hb hts inF13 hown hK hP 0 rfl rfl 16 (by decide) (hg w8_221 rfl) (fun _ h9 => h9) rfl dX13_assume_45 ?_
        refine lv_iload_n hx hb dX13_assume_48 rfl (lv_at hl 1 rfl) ?_
        refine lv_iload_n hx hb dX13_assume_49 rfl (lv_at hl 2 rfl) ?_
        refine va_cast hx hb hK hP hD hS 1 0 rfl rfl (by unfold vp_in; decide) dX13_assume_50 (fun H locs hP hD hS => ?_)
        have hP : va_P D pv_cl [(h0, .inr (1, pv_m 0 q)), ((q 9), .inl (cC, 3, .inl (upd (sg) (2 : Int32).toNatClampNeg (vp_nar .char p1)))), ((q 10), .inl (cI, 3, .inl sf))] _ := hP
        have hD : va_D A [(h0, .inr (1, pv_m 0 q)), ((q 9), .inl (cC, 3, .inl (upd (sg) (2 : Int32).toNatClampNeg (vp_nar .char p1)))), ((q 10), .inl (cI, 3, .inl sf))] := hD
        refine lv_aload_n hx hb dX13_assume_51 rfl (lv_at hl 0 rfl) ?_
        refine va_get (own := RX13) (D := D) (ci := 1) (v := .ref (q 10)) (C := RX13) (T := TX13) (N := 45) hx hb hts inF13 hown hK hP 0 rfl rfl 17 (by decide) (hg w8_222 rfl) (fun _ h9 => h9) rfl dX13_assume_52 ?_
        refine lv_iload_n hx hb dX13_assume_55 rfl (lv_at hl 1 rfl) ?_
        refine lv_aload_n hx hb dX13_assume_56 rfl (lv_at hl 0 rfl) ?_
        refine va_get (own := RX13) (D := D) (ci := 1) (v := .int 1) (C := RX13) (T := TX13) (N := 45) hx hb hts inF13 hown hK hP 0 rfl rfl 15 (by decide) (hg w8_220 rfl) (fun _ h9 => h9) rfl dX13_assume_57 ?_
        refine va_iast hx hb hK hP hD hS 2 1 rfl rfl (by unfold vp_in; decide) dX13_assume_60 (fun H locs hP hD hS => ?_)
        have hP : va_P D pv_cl [(h0, .inr (1, pv_m 0 q)), ((q 9), .inl (cC, 3, .inl (upd (sg) (2 : Int32).toNatClampNeg (vp_nar .char p1)))), ((q 10), .inl (cI, 3, .inl (upd (sf) (2 : Int32).toNatClampNeg 1)))] _ := hP
        have hD : va_D A [(h0, .inr (1, pv_m 0 q)), ((q 9), .inl (cC, 3, .inl (upd (sg) (2 : Int32).toNatClampNeg (vp_nar .char p1)))), ((q 10), .inl (cI, 3, .inl (upd (sf) (2 : Int32).toNatClampNeg 1)))] := hD
        refine lv_aload_n hx hb dX13_assume_61 rfl (lv_at hl 0 rfl) ?_
        have hF := pv_new hA hS.1
        refine va_calli (va_runV (As := []) (rest := []) ⟨hx, hb, hml, hown, hts⟩ (c_X13_knownSigns_2 l hfl D _ h0 q cC (upd (sg) (2 : Int32).toNatClampNeg (vp_nar .char p1)) (fun j h1 h2 => (pk_un h2).trans (hsg j h1)) (fun h => hsn (pk_us.symm.trans h))) (cwV 0 hts (pv_gV w11_74 w11_76 wp8_0 w1_10 w11_77) rfl rfl rfl (by decide +kernel) ⟨Nat.le_of_ble_eq_true rfl, Nat.le_of_ble_eq_true rfl⟩) (pv_pV hE hS hF (hP.sub [0, 1] rfl) (hK.sub [0] rfl) (hD.sub [0, 1] (by decide) rfl) (va_recv (ci := 1) (q0 := 0) hK hP rfl rfl)) rfl rfl hl.1 rfl (lv_room (Nat.le_of_ble_eq_true rfl)) dX13_assume_62 ⟨Nat.le_of_ble_eq_true rfl, Nat.le_of_ble_eq_true rfl⟩) hS (fun q _ h => hF q h) hF (fun r_9 u t H1 locs1 ht hvm hw hB hz1 hk1 hS => ?_)
        refine W.widen (k := 0) (n := 0) (Nat.le_of_ble_eq_true rfl) (Nat.le_of_ble_eq_true rfl) ?_
        have hP := pv_keep hP rfl hk1
        obtain rfl := hw
        refine W.widen (k := 0) (n := 0) (Nat.le_of_ble_eq_true rfl) (Nat.le_of_ble_eq_true rfl) ?_
        exact W.iret (v := 1) hx hb hr (fun t ht hW => ⟨⟨1, 0, rfl, Or.inl ⟨rfl, rfl, hok⟩, pv_m 0 q, rfl, (by rw [ht]; exact hP.sub [0] rfl), va_K.moved hW.alike (hK.sub [] rfl), hD.sub [0] (by decide) rfl⟩, hS.F ht⟩) hS.2.2 dX13_assume_65
    · refine lv_if_ne (tgt := 27) hx hb dX13_assume_18 (by decide) (fun c_11 => absurd (by decide) c_11) (fun _ => ?_)
      refine lv_aload_n hx hb dX13_assume_21 rfl (lv_at hl 0 rfl) ?_
      refine lv_iconst (v := 1) hx hb dX13_assume_22 (by decide) ?_
      have hF := va_free (wc := [(h0, .inr (1, pv_m 0 q))]) hD hS hA [0] rfl
      refine va_calli (va_runV (As := [.int 1]) (rest := []) ⟨hx, hb, hml, hown, hts⟩ (c_X13_fails l hfl D _ h0 q 1) (cwV 1 hts (pv_gV w9_113 w9_115 wp5_9 w1_10 w9_116) rfl rfl rfl (by decide +kernel) ⟨Nat.le_of_ble_eq_true rfl, Nat.le_of_ble_eq_true rfl⟩) (pv_pV hE hS hF (hP.sub [0] rfl) (hK.sub [] rfl) (hD.sub [0] (by decide) rfl) (va_recv (ci := 1) (q0 := 0) hK hP rfl rfl)) rfl rfl hl.1 rfl (lv_room (Nat.le_of_ble_eq_true rfl)) dX13_assume_23 ⟨Nat.le_of_ble_eq_true rfl, Nat.le_of_ble_eq_true rfl⟩) hS (fun q _ h => hF q h) hF (fun r_11 u t H1 locs1 ht hvm hw hB hz1 hk1 hS => ?_)
      refine W.widen (k := 0) (n := 0) (Nat.le_of_ble_eq_true rfl) (Nat.le_of_ble_eq_true rfl) ?_
      obtain rfl := hw
      obtain ⟨hP1, hK1, hD1⟩ := hB
      rw [ht] at hP1
      have hK1 := va_K.moved hvm.symm hK1
      obtain ⟨hP, hD⟩ := va_join (wr := [((q 9), .inl (cC, 3, .inl sg)), ((q 10), .inl (cI, 3, .inl sf))]) (w1 := [(h0, .inr (1, pv_m 1 q))]) hP hD [0] [1, 2] rfl rfl (by decide) (by decide) hk1 hF hP1 hD1
      have hP : va_P D pv_cl [((q 9), .inl (cC, 3, .inl sg)), ((q 10), .inl (cI, 3, .inl sf)), (h0, .inr (1, pv_m 1 q))] _ := hP
      have hD : va_D A [((q 9), .inl (cC, 3, .inl sg)), ((q 10), .inl (cI, 3, .inl sf)), (h0, .inr (1, pv_m 1 q))] := hD
      refine W.widen (k := 0) (n := 0) (Nat.le_of_ble_eq_true rfl) (Nat.le_of_ble_eq_true rfl) ?_
      exact W.iret (v := 0) hx hb hr (fun t ht hW => ⟨⟨0, 1, rfl, Or.inr ⟨rfl, fun h => a_5 h.2⟩, pv_m 1 q, rfl, (by rw [ht]; exact hP.sub [2] rfl), va_K.moved hW.alike (hK.sub [] rfl), hD.sub [2] (by decide) rfl⟩, hS.F ht⟩) hS.2.2 dX13_assume_26
  · refine lv_if_eq (tgt := 21) hx hb dX13_assume_11 (by decide) (fun _ => ?_) (fun c_13 => absurd (by decide) c_13)
    refine lv_aload_n hx hb dX13_assume_21 rfl (lv_at hl 0 rfl) ?_
    refine lv_iconst (v := 1) hx hb dX13_assume_22 (by decide) ?_
    have hF := va_free (wc := [(h0, .inr (1, pv_m 0 q))]) hD hS hA [0] rfl
    refine va_calli (va_runV (As := [.int 1]) (rest := []) ⟨hx, hb, hml, hown, hts⟩ (c_X13_fails l hfl D _ h0 q 1) (cwV 1 hts (pv_gV w9_113 w9_115 wp5_9 w1_10 w9_116) rfl rfl rfl (by decide +kernel) ⟨Nat.le_of_ble_eq_true rfl, Nat.le_of_ble_eq_true rfl⟩) (pv_pV hE hS hF (hP.sub [0] rfl) (hK.sub [] rfl) (hD.sub [0] (by decide) rfl) (va_recv (ci := 1) (q0 := 0) hK hP rfl rfl)) rfl rfl hl.1 rfl (lv_room (Nat.le_of_ble_eq_true rfl)) dX13_assume_23 ⟨Nat.le_of_ble_eq_true rfl, Nat.le_of_ble_eq_true rfl⟩) hS (fun q _ h => hF q h) hF (fun r_13 u t H1 locs1 ht hvm hw hB hz1 hk1 hS => ?_)
    refine W.widen (k := 0) (n := 0) (Nat.le_of_ble_eq_true rfl) (Nat.le_of_ble_eq_true rfl) ?_
    obtain rfl := hw
    obtain ⟨hP1, hK1, hD1⟩ := hB
    rw [ht] at hP1
    have hK1 := va_K.moved hvm.symm hK1
    obtain ⟨hP, hD⟩ := va_join (wr := [((q 9), .inl (cC, 3, .inl sg)), ((q 10), .inl (cI, 3, .inl sf))]) (w1 := [(h0, .inr (1, pv_m 1 q))]) hP hD [0] [1, 2] rfl rfl (by decide) (by decide) hk1 hF hP1 hD1
    have hP : va_P D pv_cl [((q 9), .inl (cC, 3, .inl sg)), ((q 10), .inl (cI, 3, .inl sf)), (h0, .inr (1, pv_m 1 q))] _ := hP
    have hD : va_D A [((q 9), .inl (cC, 3, .inl sg)), ((q 10), .inl (cI, 3, .inl sf)), (h0, .inr (1, pv_m 1 q))] := hD
    refine W.widen (k := 0) (n := 0) (Nat.le_of_ble_eq_true rfl) (Nat.le_of_ble_eq_true rfl) ?_
    exact W.iret (v := 0) hx hb hr (fun t ht hW => ⟨⟨0, 1, rfl, Or.inr ⟨rfl, fun h => a_2 (pv_in3.mpr h.1)⟩, pv_m 1 q, rfl, (by rw [ht]; exact hP.sub [2] rfl), va_K.moved hW.alike (hK.sub [] rfl), hD.sub [2] (by decide) rfl⟩, hS.F ht⟩) hS.2.2 dX13_assume_26
end
