section
def lw_okq (q : MethodName × Nat) : Prop := (q.1.cls ≠ "java/lang/invoke/MethodHandle" ∧ q.1.cls ≠ "java/lang/invoke/VarHandle") ∧ Cond.instantiable q.1.cls q.2 ∈ tables_1 ∧ Cond.privateMethod q.1 ∈ tables_1 ∧ Cond.instanceMethod q.1 ∈ tables_1
theorem lw_p0 : lw_okq (⟨"Districtmeter", "flowTo", "(I)I"⟩, 17) := ⟨⟨by decide +kernel, by decide +kernel⟩, List.mem_of_getElem? (i := 11) (by decide +kernel), List.mem_of_getElem? (i := 76) (by decide +kernel), List.mem_of_getElem? (i := 77) (by decide +kernel)⟩
theorem lw_p1 : lw_okq (⟨"Districtmeter", "takenAt", "(II)I"⟩, 17) := ⟨⟨by decide +kernel, by decide +kernel⟩, List.mem_of_getElem? (i := 11) (by decide +kernel), List.mem_of_getElem? (i := 83) (by decide +kernel), List.mem_of_getElem? (i := 84) (by decide +kernel)⟩
theorem lw_p2 : lw_okq (⟨"Districtmeter", "isOpenTo", "(II)Z"⟩, 17) := ⟨⟨by decide +kernel, by decide +kernel⟩, List.mem_of_getElem? (i := 11) (by decide +kernel), List.mem_of_getElem? (i := 87) (by decide +kernel), List.mem_of_getElem? (i := 88) (by decide +kernel)⟩
theorem lw_p3 : lw_okq (⟨"Districtmeter", "leakageAt", "(I)I"⟩, 17) := ⟨⟨by decide +kernel, by decide +kernel⟩, List.mem_of_getElem? (i := 11) (by decide +kernel), List.mem_of_getElem? (i := 91) (by decide +kernel), List.mem_of_getElem? (i := 92) (by decide +kernel)⟩
theorem lw_p4 : lw_okq (⟨"Districtmeter", "amountAt", "(I)I"⟩, 17) := ⟨⟨by decide +kernel, by decide +kernel⟩, List.mem_of_getElem? (i := 11) (by decide +kernel), List.mem_of_getElem? (i := 95) (by decide +kernel), List.mem_of_getElem? (i := 96) (by decide +kernel)⟩
theorem lw_p5 : lw_okq (⟨"Districtmeter", "leakageOf", "(II)I"⟩, 17) := ⟨⟨by decide +kernel, by decide +kernel⟩, List.mem_of_getElem? (i := 11) (by decide +kernel), List.mem_of_getElem? (i := 99) (by decide +kernel), List.mem_of_getElem? (i := 100) (by decide +kernel)⟩
theorem lw_p6 : lw_okq (⟨"Districtmeter", "pressureAt", "(I)I"⟩, 17) := ⟨⟨by decide +kernel, by decide +kernel⟩, List.mem_of_getElem? (i := 11) (by decide +kernel), List.mem_of_getElem? (i := 103) (by decide +kernel), List.mem_of_getElem? (i := 104) (by decide +kernel)⟩
theorem lw_p7 : lw_okq (⟨"java/lang/Throwable", "fillInStackTrace", "(I)Ljava/lang/Throwable;"⟩, 6) := ⟨⟨by decide +kernel, by decide +kernel⟩, List.mem_of_getElem? (i := 163) (by decide +kernel), List.mem_of_getElem? (i := 161) (by decide +kernel), List.mem_of_getElem? (i := 162) (by decide +kernel)⟩
theorem lw_p8 : lw_okq (⟨"Districtmeter", "needNode", "(I)V"⟩, 17) := ⟨⟨by decide +kernel, by decide +kernel⟩, List.mem_of_getElem? (i := 11) (by decide +kernel), List.mem_of_getElem? (i := 193) (by decide +kernel), List.mem_of_getElem? (i := 194) (by decide +kernel)⟩
theorem lw_p9 : lw_okq (⟨"Districtmeter", "needPipe", "(I)V"⟩, 17) := ⟨⟨by decide +kernel, by decide +kernel⟩, List.mem_of_getElem? (i := 11) (by decide +kernel), List.mem_of_getElem? (i := 246) (by decide +kernel), List.mem_of_getElem? (i := 247) (by decide +kernel)⟩
theorem lw_p10 : lw_okq (⟨"Districtmeter", "needArea", "(I)V"⟩, 17) := ⟨⟨by decide +kernel, by decide +kernel⟩, List.mem_of_getElem? (i := 11) (by decide +kernel), List.mem_of_getElem? (i := 301) (by decide +kernel), List.mem_of_getElem? (i := 302) (by decide +kernel)⟩
theorem lw_p11 : lw_okq (⟨"Districtmeter", "nodesOf", "(I)I"⟩, 17) := ⟨⟨by decide +kernel, by decide +kernel⟩, List.mem_of_getElem? (i := 11) (by decide +kernel), List.mem_of_getElem? (i := 307) (by decide +kernel), List.mem_of_getElem? (i := 308) (by decide +kernel)⟩
theorem lw_p12 : lw_okq (⟨"Districtmeter", "outerExports", "(I)I"⟩, 17) := ⟨⟨by decide +kernel, by decide +kernel⟩, List.mem_of_getElem? (i := 11) (by decide +kernel), List.mem_of_getElem? (i := 331) (by decide +kernel), List.mem_of_getElem? (i := 332) (by decide +kernel)⟩
theorem lw_p13 : lw_okq (⟨"Districtmeter", "takenBy", "(II)I"⟩, 17) := ⟨⟨by decide +kernel, by decide +kernel⟩, List.mem_of_getElem? (i := 11) (by decide +kernel), List.mem_of_getElem? (i := 343) (by decide +kernel), List.mem_of_getElem? (i := 344) (by decide +kernel)⟩
theorem lw_p14 : lw_okq (⟨"Districtmeter", "usedBy", "(I)I"⟩, 17) := ⟨⟨by decide +kernel, by decide +kernel⟩, List.mem_of_getElem? (i := 11) (by decide +kernel), List.mem_of_getElem? (i := 354) (by decide +kernel), List.mem_of_getElem? (i := 355) (by decide +kernel)⟩
theorem lw_p15 : lw_okq (⟨"Districtmeter", "pipesToShut", "(I)I"⟩, 17) := ⟨⟨by decide +kernel, by decide +kernel⟩, List.mem_of_getElem? (i := 11) (by decide +kernel), List.mem_of_getElem? (i := 365) (by decide +kernel), List.mem_of_getElem? (i := 366) (by decide +kernel)⟩
def lw_privs_1 : List (MethodName × Nat) := [(⟨"Districtmeter", "flowTo", "(I)I"⟩, 17), (⟨"Districtmeter", "takenAt", "(II)I"⟩, 17), (⟨"Districtmeter", "isOpenTo", "(II)Z"⟩, 17), (⟨"Districtmeter", "leakageAt", "(I)I"⟩, 17), (⟨"Districtmeter", "amountAt", "(I)I"⟩, 17), (⟨"Districtmeter", "leakageOf", "(II)I"⟩, 17), (⟨"Districtmeter", "pressureAt", "(I)I"⟩, 17), (⟨"java/lang/Throwable", "fillInStackTrace", "(I)Ljava/lang/Throwable;"⟩, 6), (⟨"Districtmeter", "needNode", "(I)V"⟩, 17), (⟨"Districtmeter", "needPipe", "(I)V"⟩, 17), (⟨"Districtmeter", "needArea", "(I)V"⟩, 17), (⟨"Districtmeter", "nodesOf", "(I)I"⟩, 17), (⟨"Districtmeter", "outerExports", "(I)I"⟩, 17), (⟨"Districtmeter", "takenBy", "(II)I"⟩, 17), (⟨"Districtmeter", "usedBy", "(I)I"⟩, 17), (⟨"Districtmeter", "pipesToShut", "(I)I"⟩, 17)]
theorem lw_r1 : ∀ q ∈ lw_privs_1, lw_okq q := List.forall_mem_cons.mpr ⟨lw_p0, List.forall_mem_cons.mpr ⟨lw_p1, List.forall_mem_cons.mpr ⟨lw_p2, List.forall_mem_cons.mpr ⟨lw_p3, List.forall_mem_cons.mpr ⟨lw_p4, List.forall_mem_cons.mpr ⟨lw_p5, List.forall_mem_cons.mpr ⟨lw_p6, List.forall_mem_cons.mpr ⟨lw_p7, List.forall_mem_cons.mpr ⟨lw_p8, List.forall_mem_cons.mpr ⟨lw_p9, List.forall_mem_cons.mpr ⟨lw_p10, List.forall_mem_cons.mpr ⟨lw_p11, List.forall_mem_cons.mpr ⟨lw_p12, List.forall_mem_cons.mpr ⟨lw_p13, List.forall_mem_cons.mpr ⟨lw_p14, List.forall_mem_cons.mpr ⟨lw_p15, fun _ h => absurd h List.not_mem_nil⟩⟩⟩⟩⟩⟩⟩⟩⟩⟩⟩⟩⟩⟩⟩⟩
theorem lw_p16 : lw_okq (⟨"Districtmeter", "pipeOfStep", "(II)I"⟩, 17) := ⟨⟨by decide +kernel, by decide +kernel⟩, List.mem_of_getElem? (i := 11) (by decide +kernel), List.mem_of_getElem? (i := 376) (by decide +kernel), List.mem_of_getElem? (i := 377) (by decide +kernel)⟩
theorem lw_p17 : lw_okq (⟨"Districtmeter", "needBurst", "(I)V"⟩, 17) := ⟨⟨by decide +kernel, by decide +kernel⟩, List.mem_of_getElem? (i := 11) (by decide +kernel), List.mem_of_getElem? (i := 405) (by decide +kernel), List.mem_of_getElem? (i := 406) (by decide +kernel)⟩
theorem lw_p18 : lw_okq (⟨"Districtmeter", "costOf", "(I)I"⟩, 17) := ⟨⟨by decide +kernel, by decide +kernel⟩, List.mem_of_getElem? (i := 11) (by decide +kernel), List.mem_of_getElem? (i := 411) (by decide +kernel), List.mem_of_getElem? (i := 412) (by decide +kernel)⟩
theorem lw_p19 : lw_okq (⟨"Districtmeter", "rankBursts", "()I"⟩, 17) := ⟨⟨by decide +kernel, by decide +kernel⟩, List.mem_of_getElem? (i := 11) (by decide +kernel), List.mem_of_getElem? (i := 429) (by decide +kernel), List.mem_of_getElem? (i := 430) (by decide +kernel)⟩
theorem lw_p20 : lw_okq (⟨"Districtmeter", "insertByRank", "(II)V"⟩, 17) := ⟨⟨by decide +kernel, by decide +kernel⟩, List.mem_of_getElem? (i := 11) (by decide +kernel), List.mem_of_getElem? (i := 433) (by decide +kernel), List.mem_of_getElem? (i := 434) (by decide +kernel)⟩
theorem lw_p21 : lw_okq (⟨"Districtmeter", "isAhead", "(II)Z"⟩, 17) := ⟨⟨by decide +kernel, by decide +kernel⟩, List.mem_of_getElem? (i := 11) (by decide +kernel), List.mem_of_getElem? (i := 437) (by decide +kernel), List.mem_of_getElem? (i := 438) (by decide +kernel)⟩
theorem lw_p22 : lw_okq (⟨"DistrictmeterModel", "isNode", "(I)Z"⟩, 17) := ⟨⟨by decide +kernel, by decide +kernel⟩, List.mem_of_getElem? (i := 449) (by decide +kernel), List.mem_of_getElem? (i := 519) (by decide +kernel), List.mem_of_getElem? (i := 520) (by decide +kernel)⟩
theorem lw_p23 : lw_okq (⟨"DistrictmeterModel", "fails", "(I)Z"⟩, 17) := ⟨⟨by decide +kernel, by decide +kernel⟩, List.mem_of_getElem? (i := 449) (by decide +kernel), List.mem_of_getElem? (i := 523) (by decide +kernel), List.mem_of_getElem? (i := 524) (by decide +kernel)⟩
theorem lw_p24 : lw_okq (⟨"DistrictmeterModel", "leaks", "(I)I"⟩, 17) := ⟨⟨by decide +kernel, by decide +kernel⟩, List.mem_of_getElem? (i := 449) (by decide +kernel), List.mem_of_getElem? (i := 531) (by decide +kernel), List.mem_of_getElem? (i := 532) (by decide +kernel)⟩
theorem lw_p25 : lw_okq (⟨"DistrictmeterModel", "pressureAt", "(I)I"⟩, 17) := ⟨⟨by decide +kernel, by decide +kernel⟩, List.mem_of_getElem? (i := 449) (by decide +kernel), List.mem_of_getElem? (i := 535) (by decide +kernel), List.mem_of_getElem? (i := 536) (by decide +kernel)⟩
theorem lw_p26 : lw_okq (⟨"DistrictmeterModel", "isPipe", "(I)Z"⟩, 17) := ⟨⟨by decide +kernel, by decide +kernel⟩, List.mem_of_getElem? (i := 449) (by decide +kernel), List.mem_of_getElem? (i := 543) (by decide +kernel), List.mem_of_getElem? (i := 544) (by decide +kernel)⟩
theorem lw_p27 : lw_okq (⟨"DistrictmeterModel", "supplied", "(I)Z"⟩, 17) := ⟨⟨by decide +kernel, by decide +kernel⟩, List.mem_of_getElem? (i := 449) (by decide +kernel), List.mem_of_getElem? (i := 559) (by decide +kernel), List.mem_of_getElem? (i := 560) (by decide +kernel)⟩
theorem lw_p28 : lw_okq (⟨"DistrictmeterModel", "taken", "(I)I"⟩, 17) := ⟨⟨by decide +kernel, by decide +kernel⟩, List.mem_of_getElem? (i := 449) (by decide +kernel), List.mem_of_getElem? (i := 567) (by decide +kernel), List.mem_of_getElem? (i := 568) (by decide +kernel)⟩
theorem lw_p29 : lw_okq (⟨"DistrictmeterModel", "flowBelow", "(I)I"⟩, 17) := ⟨⟨by decide +kernel, by decide +kernel⟩, List.mem_of_getElem? (i := 449) (by decide +kernel), List.mem_of_getElem? (i := 575) (by decide +kernel), List.mem_of_getElem? (i := 576) (by decide +kernel)⟩
theorem lw_p30 : lw_okq (⟨"DistrictmeterModel", "isBelow", "(II)Z"⟩, 17) := ⟨⟨by decide +kernel, by decide +kernel⟩, List.mem_of_getElem? (i := 449) (by decide +kernel), List.mem_of_getElem? (i := 579) (by decide +kernel), List.mem_of_getElem? (i := 580) (by decide +kernel)⟩
theorem lw_p31 : lw_okq (⟨"DistrictmeterModel", "tells", "(I)I"⟩, 17) := ⟨⟨by decide +kernel, by decide +kernel⟩, List.mem_of_getElem? (i := 449) (by decide +kernel), List.mem_of_getElem? (i := 587) (by decide +kernel), List.mem_of_getElem? (i := 588) (by decide +kernel)⟩
def lw_privs_2 : List (MethodName × Nat) := [(⟨"Districtmeter", "pipeOfStep", "(II)I"⟩, 17), (⟨"Districtmeter", "needBurst", "(I)V"⟩, 17), (⟨"Districtmeter", "costOf", "(I)I"⟩, 17), (⟨"Districtmeter", "rankBursts", "()I"⟩, 17), (⟨"Districtmeter", "insertByRank", "(II)V"⟩, 17), (⟨"Districtmeter", "isAhead", "(II)Z"⟩, 17), (⟨"DistrictmeterModel", "isNode", "(I)Z"⟩, 17), (⟨"DistrictmeterModel", "fails", "(I)Z"⟩, 17), (⟨"DistrictmeterModel", "leaks", "(I)I"⟩, 17), (⟨"DistrictmeterModel", "pressureAt", "(I)I"⟩, 17), (⟨"DistrictmeterModel", "isPipe", "(I)Z"⟩, 17), (⟨"DistrictmeterModel", "supplied", "(I)Z"⟩, 17), (⟨"DistrictmeterModel", "taken", "(I)I"⟩, 17), (⟨"DistrictmeterModel", "flowBelow", "(I)I"⟩, 17), (⟨"DistrictmeterModel", "isBelow", "(II)Z"⟩, 17), (⟨"DistrictmeterModel", "tells", "(I)I"⟩, 17)]
theorem lw_r2 : ∀ q ∈ lw_privs_2, lw_okq q := List.forall_mem_cons.mpr ⟨lw_p16, List.forall_mem_cons.mpr ⟨lw_p17, List.forall_mem_cons.mpr ⟨lw_p18, List.forall_mem_cons.mpr ⟨lw_p19, List.forall_mem_cons.mpr ⟨lw_p20, List.forall_mem_cons.mpr ⟨lw_p21, List.forall_mem_cons.mpr ⟨lw_p22, List.forall_mem_cons.mpr ⟨lw_p23, List.forall_mem_cons.mpr ⟨lw_p24, List.forall_mem_cons.mpr ⟨lw_p25, List.forall_mem_cons.mpr ⟨lw_p26, List.forall_mem_cons.mpr ⟨lw_p27, List.forall_mem_cons.mpr ⟨lw_p28, List.forall_mem_cons.mpr ⟨lw_p29, List.forall_mem_cons.mpr ⟨lw_p30, List.forall_mem_cons.mpr ⟨lw_p31, fun _ h => absurd h List.not_mem_nil⟩⟩⟩⟩⟩⟩⟩⟩⟩⟩⟩⟩⟩⟩⟩⟩
theorem lw_p32 : lw_okq (⟨"DistrictmeterModel", "isArea", "(I)Z"⟩, 17) := ⟨⟨by decide +kernel, by decide +kernel⟩, List.mem_of_getElem? (i := 449) (by decide +kernel), List.mem_of_getElem? (i := 599) (by decide +kernel), List.mem_of_getElem? (i := 600) (by decide +kernel)⟩
theorem lw_p33 : lw_okq (⟨"DistrictmeterModel", "isExport", "(II)Z"⟩, 17) := ⟨⟨by decide +kernel, by decide +kernel⟩, List.mem_of_getElem? (i := 449) (by decide +kernel), List.mem_of_getElem? (i := 603) (by decide +kernel), List.mem_of_getElem? (i := 604) (by decide +kernel)⟩
theorem lw_p34 : lw_okq (⟨"DistrictmeterModel", "many", "(I)I"⟩, 17) := ⟨⟨by decide +kernel, by decide +kernel⟩, List.mem_of_getElem? (i := 449) (by decide +kernel), List.mem_of_getElem? (i := 607) (by decide +kernel), List.mem_of_getElem? (i := 608) (by decide +kernel)⟩
theorem lw_p35 : lw_okq (⟨"DistrictmeterModel", "isWithin", "(II)Z"⟩, 17) := ⟨⟨by decide +kernel, by decide +kernel⟩, List.mem_of_getElem? (i := 449) (by decide +kernel), List.mem_of_getElem? (i := 611) (by decide +kernel), List.mem_of_getElem? (i := 612) (by decide +kernel)⟩
theorem lw_p36 : lw_okq (⟨"DistrictmeterModel", "counts", "(II)Z"⟩, 17) := ⟨⟨by decide +kernel, by decide +kernel⟩, List.mem_of_getElem? (i := 449) (by decide +kernel), List.mem_of_getElem? (i := 623) (by decide +kernel), List.mem_of_getElem? (i := 624) (by decide +kernel)⟩
theorem lw_p37 : lw_okq (⟨"DistrictmeterModel", "takenBy", "(I)I"⟩, 17) := ⟨⟨by decide +kernel, by decide +kernel⟩, List.mem_of_getElem? (i := 449) (by decide +kernel), List.mem_of_getElem? (i := 631) (by decide +kernel), List.mem_of_getElem? (i := 632) (by decide +kernel)⟩
theorem lw_p38 : lw_okq (⟨"DistrictmeterModel", "pipe", "(II)I"⟩, 17) := ⟨⟨by decide +kernel, by decide +kernel⟩, List.mem_of_getElem? (i := 449) (by decide +kernel), List.mem_of_getElem? (i := 643) (by decide +kernel), List.mem_of_getElem? (i := 644) (by decide +kernel)⟩
theorem lw_p39 : lw_okq (⟨"DistrictmeterModel", "isStep", "(II)Z"⟩, 17) := ⟨⟨by decide +kernel, by decide +kernel⟩, List.mem_of_getElem? (i := 449) (by decide +kernel), List.mem_of_getElem? (i := 651) (by decide +kernel), List.mem_of_getElem? (i := 652) (by decide +kernel)⟩
theorem lw_p40 : lw_okq (⟨"DistrictmeterModel", "isBurst", "(I)Z"⟩, 17) := ⟨⟨by decide +kernel, by decide +kernel⟩, List.mem_of_getElem? (i := 449) (by decide +kernel), List.mem_of_getElem? (i := 667) (by decide +kernel), List.mem_of_getElem? (i := 668) (by decide +kernel)⟩
theorem lw_p41 : lw_okq (⟨"DistrictmeterModel", "costs", "(I)I"⟩, 17) := ⟨⟨by decide +kernel, by decide +kernel⟩, List.mem_of_getElem? (i := 449) (by decide +kernel), List.mem_of_getElem? (i := 671) (by decide +kernel), List.mem_of_getElem? (i := 672) (by decide +kernel)⟩
theorem lw_p42 : lw_okq (⟨"DistrictmeterModel", "rank", "(I)I"⟩, 17) := ⟨⟨by decide +kernel, by decide +kernel⟩, List.mem_of_getElem? (i := 449) (by decide +kernel), List.mem_of_getElem? (i := 683) (by decide +kernel), List.mem_of_getElem? (i := 684) (by decide +kernel)⟩
theorem lw_p43 : lw_okq (⟨"DistrictmeterModel", "isAhead", "(II)Z"⟩, 17) := ⟨⟨by decide +kernel, by decide +kernel⟩, List.mem_of_getElem? (i := 449) (by decide +kernel), List.mem_of_getElem? (i := 687) (by decide +kernel), List.mem_of_getElem? (i := 688) (by decide +kernel)⟩
def lw_privs_3 : List (MethodName × Nat) := [(⟨"DistrictmeterModel", "isArea", "(I)Z"⟩, 17), (⟨"DistrictmeterModel", "isExport", "(II)Z"⟩, 17), (⟨"DistrictmeterModel", "many", "(I)I"⟩, 17), (⟨"DistrictmeterModel", "isWithin", "(II)Z"⟩, 17), (⟨"DistrictmeterModel", "counts", "(II)Z"⟩, 17), (⟨"DistrictmeterModel", "takenBy", "(I)I"⟩, 17), (⟨"DistrictmeterModel", "pipe", "(II)I"⟩, 17), (⟨"DistrictmeterModel", "isStep", "(II)Z"⟩, 17), (⟨"DistrictmeterModel", "isBurst", "(I)Z"⟩, 17), (⟨"DistrictmeterModel", "costs", "(I)I"⟩, 17), (⟨"DistrictmeterModel", "rank", "(I)I"⟩, 17), (⟨"DistrictmeterModel", "isAhead", "(II)Z"⟩, 17)]
theorem lw_r3 : ∀ q ∈ lw_privs_3, lw_okq q := List.forall_mem_cons.mpr ⟨lw_p32, List.forall_mem_cons.mpr ⟨lw_p33, List.forall_mem_cons.mpr ⟨lw_p34, List.forall_mem_cons.mpr ⟨lw_p35, List.forall_mem_cons.mpr ⟨lw_p36, List.forall_mem_cons.mpr ⟨lw_p37, List.forall_mem_cons.mpr ⟨lw_p38, List.forall_mem_cons.mpr ⟨lw_p39, List.forall_mem_cons.mpr ⟨lw_p40, List.forall_mem_cons.mpr ⟨lw_p41, List.forall_mem_cons.mpr ⟨lw_p42, List.forall_mem_cons.mpr ⟨lw_p43, fun _ h => absurd h List.not_mem_nil⟩⟩⟩⟩⟩⟩⟩⟩⟩⟩⟩⟩
def lw_privs : List (MethodName × Nat) := lw_privs_1 ++ (lw_privs_2 ++ (lw_privs_3))
def lw_tbl : List Cond := k2_sels lw_privs ++ tables_1
theorem lw_privs_ok : ∀ q ∈ lw_privs, lw_okq q := by
  show ∀ q ∈ lw_privs_1 ++ (lw_privs_2 ++ (lw_privs_3)), lw_okq q
  exact List.forall_mem_append.mpr ⟨lw_r1, List.forall_mem_append.mpr ⟨lw_r2, lw_r3⟩⟩
end
section
theorem goodIn_r {big : List Cond} (ws : List Cond) (ps : List Nat) (hp : ws = ps.filterMap (fun i => big[i]?)) (h : ws.all goodWord = true) : GoodIn big ws := by
  intro w hw
  have h1 := List.all_eq_true.mp h w hw
  rw [hp] at hw
  obtain ⟨i, -, hi⟩ := List.mem_filterMap.mp hw
  have hm : w ∈ big := by first | exact List.mem_of_getElem? hi | exact List.getElem?_mem hi
  exact ⟨hm, good_of_word h1⟩
theorem goodIn_app {big a b : List Cond} (ha : GoodIn big a) (hb : GoodIn big b) : GoodIn big (a ++ b) := fun w h => (List.mem_append.mp h).elim (ha w) (hb w)
theorem goodIn_ca {big a b : List Cond} {c : Cond} (ha : GoodIn big (c :: a)) (hb : GoodIn big b) : GoodIn big (c :: (a ++ b)) := fun w h => (List.mem_cons.mp h).elim (fun e => ha w (List.mem_cons.mpr (Or.inl e))) (fun h => (List.mem_append.mp h).elim (fun h => ha w (List.mem_cons.mpr (Or.inr h))) (hb w))
theorem goodIn_sub {big ws : List Cond} (hm : ∀ w ∈ ws, w ∈ big) (h : ws.all goodWord = true) : GoodIn big ws := fun w hw => ⟨hm w hw, good_of_word (List.all_eq_true.mp h w hw)⟩
section VXA
def vx_T (XC : String → State → State → Prop) (st : State) (q : Addr) (t : State) (mc ms : Nat) (free : Addr → Prop) : Prop :=
  ∃ (E : String) (ce : Cell) (L : List Loc), XC E st t ∧ t.heap[q]? = some ce ∧ ce.vm = .none ∧ st.vm.findClass E = some ce.cls ∧ st.WarmedH t.vm ∧ st.sameButNew ({ t with vm := st.vm } : State) L mc ms ∧ ∀ z ∈ L, free z.base
def vx_Q (Qc : Array Value → State → Outcome → State → Prop) (XC : String → State → State → Prop) (mc ms : Nat) (free : Addr → Prop) : Array Value → State → Outcome → State → Prop := fun a st o t =>
  (Qc a st o t ∧ ∃ L, FrameEnd st o t L mc ms ∧ ∀ q ∈ L, free q.base) ∨ ∃ q, o = .threw q ∧ vx_T XC st q t mc ms free
def vx_Met (l : Launch) (y : MethodName) (ws : List Cond) (rm : Room) (Pc : Array Value → State → Prop) (Qc : Array Value → State → Outcome → State → Prop) (XC : String → State → State → Prop) (mc ms : Nat) (free : Addr → Prop) : Prop :=
  MetFree l y (headSpec ws rm) Pc (fun _ _ _ _ _ => True) (vx_Q Qc XC mc ms free)
def vx_Post (XC : String → State → State → Prop) (mc ms : Nat) (free : Addr → Prop) : Pt → Array Value → Addr → Pt → Prop := fun A a q B =>
  ∃ (g : JFrame) (mk : MethodId) (t : State) (L : List Loc) (E : String) (ce : Cell), B.U.heap = t.heap ∧ B.U.vm = t.vm ∧ XC E (A.U.calling g mk a) t ∧ t.heap[q]? = some ce ∧ ce.vm = .none ∧ A.U.vm.findClass E = some ce.cls ∧ B.locs = A.locs ++ L ∧ (∀ z ∈ L, free z.base) ∧ B.cells = A.cells + mc ∧ B.slots = A.slots + ms
def vx_Back (l : Launch) (R : Room) (p : Program) (e : Env) (below : List Frame) (s : State) (sargs : Array Value) (y : MethodName) (len W9 : Nat)
    (Pre : Pt → Array Value → Prop) (Post : Pt → Array Value → Option Value → Pt → Prop) (PostX : Pt → Array Value → Addr → Pt → Prop) : Prop :=
  ∀ (m : MethodId) (meth : Method) (c : Code) (A : Pt) (g : JFrame) (ig : Instr) (mk : MethodId) (a : Array Value),
    Stand p l e R s m sargs below meth c A.U A.locs A.cells A.slots → g.method = m → g.locals.size = c.maxLocals → decode c.code g.pc = .ok (ig, len) →
    2 * g.monitorRoom + (g.stack.map fun v => v.category).sum ≤ W9 → A.U.methodNamed? y = some mk → Pre A a →
    (∃ (v : Option Value) (B : Pt), Stand p l e R s m sargs below meth c B.U B.locs B.cells B.slots ∧ Post A a v B ∧
      Steps p.tables e below (doInvoke e (A.U.setTop g) [] mk a).1 (B.U.setTop { g with pc := g.pc + len, stack := v.toList ++ g.stack })) ∨
    (∃ (q : Addr) (B : Pt), Stand p l e R s m sargs below meth c B.U B.locs B.cells B.slots ∧ PostX A a q B ∧
      Steps p.tables e below (doInvoke e (A.U.setTop g) [] mk a).1 ((B.U.setTop g).pushFrame (.throwing q)))
section Payer
variable {l : Launch} {R : Room} {p : Program} {e : Env} {below : List Frame} {s : State} {sargs : Array Value} {y : MethodName} {len W9 : Nat}
theorem vx_back {ws : List Cond} {rm : Room} {Pc : Array Value → State → Prop} {Qc : Array Value → State → Outcome → State → Prop} {XC : String → State → State → Prop} {mc ms : Nat} {free : Addr → Prop} {bytes : ByteArray} {maxL : Nat} {ret : Option FieldType}
    (hM : vx_Met l y ws rm Pc Qc XC mc ms free) (hblind : FrameBlind Pc) (hrc : rm.cells = mc) (hrs : rm.slots = ms)
    (hframes : rm.frames + 1 ≤ R.frames) (hlocals : W9 + (maxL + 11) + rm.locals ≤ R.locals)
    (hws : ∀ w ∈ ws, ∀ a' U, s.WarmedH U.vm → w.before a' U = true) (hcode : Cond.code y bytes maxL ret ∈ ws) (hinit : ∀ a' U, s.WarmedH U.vm → (Cond.initialized y.cls).before a' U = true) :
    vx_Back l R p e below s sargs y len W9 (PreOf R mc ms Pc) (PostOf Qc mc ms free) (vx_Post XC mc ms free) := by
  intro m meth c A g ig mk a X hg hsize hdg hW hn hp
  have h1 : (headSpec ws rm).pre.before a A.U = true := atoms_intro fun w hw => hws w hw _ _ X.warmed
  have h2 : (Cond.code y bytes maxL ret).before a A.U = true := hws _ hcode _ _ X.warmed
  have h3 : (Cond.initialized y.cls).before a A.U = true := hinit _ _ X.warmed
  have h4 : A.cells + (headSpec ws rm).room.cells ≤ R.cells := by rw [show (headSpec ws rm).room.cells = mc from hrc]; exact hp.1
  have h5 : A.slots + (headSpec ws rm).room.slots ≤ R.slots := by rw [show (headSpec ws rm).room.slots = ms from hrs]; exact hp.2.1
  have hPc : Pc a (A.U.calling g mk a) := hblind _ _ _ _ hp.2.2
  obtain ⟨U, Ls, c0, s0⟩ := A
  dsimp only [Pt.U, Pt.locs, Pt.cells, Pt.slots] at h1 h2 h3 h4 h5 X hn hPc ⊢
  obtain ⟨methY, cY, hmY, hcY, -, hlY, -, -, -, -⟩ := Cond.code_spec hn h2
  obtain ⟨kY, hkY, -⟩ := className_of_methodNamed hn
  have hinitY : kY.init = .initialized := Cond.initialized_spec (findClass_of_methodNamed hn) hkY h3
  have h : At U g.method c below := by rw [hg]; exact X.here
  have hlocals9 : W9 + (maxL + 11) + (headSpec ws rm).room.locals ≤ R.locals := hlocals
  have happ : (headSpec ws rm).appliesLoose y e.platform (U.calling g mk a) = true :=
    Spec.appliesLoose_calling (g := g) h hdg hn hkY hinitY
      (X.room_calling (g := g) (R' := (headSpec ws rm).room) hsize hmY hcY hframes (by rw [hlY]; omega) h4 h5) h1
  obtain ⟨mid, hmid⟩ := h.above
  have hfr : (U.setTop g).frames = (.java g :: mid) ++ below := by rw [State.frames_setTop' g h.top, hmid]; rfl
  obtain ⟨o, s₂, hsteps, -, hend, hq⟩ := Steps.callFree hM p X.admits X.cas X.clock (acts := []) hfr happ hPc trivial
  have hq' : vx_Q Qc XC mc ms free a (U.calling g mk a) o s₂ := hq
  rw [State.frames_setTop' g h.top] at hend
  obtain ⟨g₀, hg0⟩ := Option.isSome_iff_exists.mp h.top
  obtain ⟨r, hr⟩ := State.topJava?_eq_some.mp hg0
  have hr' : (({ U with heap := s₂.heap, slotsUsed := s₂.slotsUsed } : State).setVm s₂.vm).frames = .java g₀ :: r := hr
  rcases hq' with ⟨hqc, L, hfe, hL⟩ | ⟨q, rfl, E, ce, L, hx, hce, hcv, hcl, hW₂, hsm, hL⟩
  · obtain ⟨⟨v, rfl⟩, hW₂, e2, q2, q3, q4, q5, q6⟩ := id hfe
    have e3 : s₂ = ({ (U.calling g mk a).setFrames s₂.frames with heap := s₂.heap, slotsUsed := s₂.slotsUsed } : State).setVm s₂.vm := by
      have : s₂ = ({ s₂ with vm := (U.calling g mk a).vm } : State).setVm s₂.vm := rfl
      rw [e2] at this
      exact this
    obtain ⟨c₂, i₂, len₂, hc₂, hd₂, hf₂⟩ := hend
    have hW' : U.WarmedH s₂.vm := hW₂
    have hcc : c₂ = c := by
      have h1 : s₂.code? g.method = U.code? g.method := by
        rw [State.code?_eq, State.code?_eq, hW'.alike.method?]
      exact Option.some.inj (hc₂.symm.trans (h1.trans h.code))
    subst hcc
    have hlen : len₂ = len := by rw [hdg] at hd₂; cases hd₂; rfl
    subst hlen
    have hs₂ : s₂ = (({ U with heap := s₂.heap, slotsUsed := s₂.slotsUsed } : State).setVm s₂.vm).setTop { g with pc := g.pc + len₂, stack := v.toList ++ g.stack } := by
      refine e3.trans ?_
      rw [hf₂, State.calling_eq h.top, State.setFrames_setFrames, State.setTop_of_frames _ hr', hr]
      rfl
    have hsame : U.sameButNew ({ U with heap := s₂.heap, slotsUsed := s₂.slotsUsed } : State) L mc ms := by
      refine ⟨?_, q2, q3, q4, q5, q6⟩
      obtain ⟨t, ht, -⟩ := State.frames_cons hr
      show ({ U with heap := s₂.heap, slotsUsed := s₂.slotsUsed } : State) = { U.setFrames U.frames with heap := s₂.heap, slotsUsed := s₂.slotsUsed }
      rw [State.setFrames_self ht]
    subst hg
    refine Or.inl ⟨v, ⟨(({ U with heap := s₂.heap, slotsUsed := s₂.slotsUsed } : State).setVm s₂.vm), Ls ++ L, c0 + mc, s0 + ms⟩,
      ⟨X.admits, X.cas, X.clock, X.frames, X.room, X.hears, X.method, X.code, (X.here.setHeapUsed s₂.heap s₂.slotsUsed).setVm hW'.alike, X.tail, State.WarmedH.trans X.warmed hW', X.limits, X.bytes, X.same.trans (hsame.setVm s.vm)⟩,
      ⟨g, mk, s₂, L, rfl, rfl, hqc, rfl, hL, rfl, rfl⟩, ?_⟩
    show Steps p.tables e below _ ((({ U with heap := s₂.heap, slotsUsed := s₂.slotsUsed } : State).setVm s₂.vm).setTop { g with pc := g.pc + len₂, stack := v.toList ++ g.stack })
    rw [← hs₂]
    exact hsteps
  · obtain ⟨e2, q2, q3, q4, q5, q6⟩ := id hsm
    have e3 : s₂ = ({ (U.calling g mk a).setFrames s₂.frames with heap := s₂.heap, slotsUsed := s₂.slotsUsed } : State).setVm s₂.vm := by
      have : s₂ = ({ s₂ with vm := (U.calling g mk a).vm } : State).setVm s₂.vm := rfl
      rw [e2] at this
      exact this
    have hf₂ : s₂.frames = .throwing q :: .java g :: U.frames.tail := hend
    have hW' : U.WarmedH s₂.vm := hW₂
    have hs₂ : s₂ = ((({ U with heap := s₂.heap, slotsUsed := s₂.slotsUsed } : State).setVm s₂.vm).setTop g).pushFrame (.throwing q) := by
      refine e3.trans ?_
      rw [hf₂, State.calling_eq h.top, State.setFrames_setFrames, State.pushFrame, State.frames_setTop _ hr', State.setTop_of_frames _ hr', State.setFrames_setFrames, hr]
      rfl
    have hsame : U.sameButNew ({ U with heap := s₂.heap, slotsUsed := s₂.slotsUsed } : State) L mc ms := by
      refine ⟨?_, q2, q3, q4, q5, q6⟩
      obtain ⟨t, ht, -⟩ := State.frames_cons hr
      show ({ U with heap := s₂.heap, slotsUsed := s₂.slotsUsed } : State) = { U.setFrames U.frames with heap := s₂.heap, slotsUsed := s₂.slotsUsed }
      rw [State.setFrames_self ht]
    subst hg
    refine Or.inr ⟨q, ⟨(({ U with heap := s₂.heap, slotsUsed := s₂.slotsUsed } : State).setVm s₂.vm), Ls ++ L, c0 + mc, s0 + ms⟩,
      ⟨X.admits, X.cas, X.clock, X.frames, X.room, X.hears, X.method, X.code, (X.here.setHeapUsed s₂.heap s₂.slotsUsed).setVm hW'.alike, X.tail, State.WarmedH.trans X.warmed hW', X.limits, X.bytes, X.same.trans (hsame.setVm s.vm)⟩,
      ⟨g, mk, s₂, L, E, ce, rfl, rfl, hx, hce, hcv, hcl, rfl, hL, rfl, rfl⟩, ?_⟩
    show Steps p.tables e below _ (((({ U with heap := s₂.heap, slotsUsed := s₂.slotsUsed } : State).setVm s₂.vm).setTop g).pushFrame (.throwing q))
    rw [← hs₂]
    exact hsteps
end Payer
section Calls
variable {p : Program} {l : Launch} {e : Env} {R : Room} {s : State} {m : MethodId} {args : Array Value} {below : List Frame} {meth : Method} {c : Code} {T : State} {locs : List Loc} {cells slots : Nat}
theorem vx_callV (X : Stand p l e R s m args below meth c T locs cells slots) (hexec : p.tables.exec = Jvm.exec) {own C : String} {index : Nat} {y : MethodName} {bytes : ByteArray} {maxL : Nat} {ret : Option FieldType}
    (hown : s.vm.findClass own = some m.cls) (hlink : (Cond.methodLink own index y).before args s = true) (hinst : (Cond.instanceMethod y).before args s = true) (hsel : (Cond.selects C y y).before args s = true)
    (hcode : (Cond.code y bytes maxL ret).before args s = true) (hy : y.cls ≠ "java/lang/invoke/MethodHandle" ∧ y.cls ≠ "java/lang/invoke/VarHandle")
    {W9 : Nat} {Pre : Pt → Array Value → Prop} {Post : Pt → Array Value → Option Value → Pt → Prop} {PostX : Pt → Array Value → Addr → Pt → Prop} (hK : vx_Back l R p e below s args y 3 W9 Pre Post PostX)
    {b : Addr} {cellB : Cell} (hcell : T.heap[b]? = some cellB) (hobj : cellB.vm.isStatics = false) (hcls : s.vm.findClass C = some cellB.cls)
    {g : JFrame} (hg : g.method = m) (hsize : g.locals.size = c.maxLocals) {argsL rest : List Value} (hlen : ∀ sig, parseMethodDescriptor y.desc = some sig → argsL.length = sig.parameters.length)
    (hstack : g.stack = argsL.reverse ++ .ref b :: rest) (hW : 2 * g.monitorRoom + (rest.map fun v => v.category).sum ≤ W9) (hdg : decode c.code g.pc = .ok (.invokevirtual index, 3))
    (hpre : ∀ vm₁, s.WarmedH vm₁ → Pre ⟨T.setVm vm₁, locs, cells, slots⟩ (Value.ref b :: argsL).toArray) :
    (∃ (v : Option Value) (vm₁ : Vm) (B : Pt), s.WarmedH vm₁ ∧ Stand p l e R s m args below meth c B.U B.locs B.cells B.slots ∧ Post ⟨T.setVm vm₁, locs, cells, slots⟩ (Value.ref b :: argsL).toArray v B ∧
      ∀ target, Steps p.tables e below (B.U.setTop { g with pc := g.pc + 3, stack := v.toList ++ rest }) target → Steps p.tables e below (T.setTop g) target) ∨
    (∃ (q : Addr) (vm₁ : Vm) (B : Pt), s.WarmedH vm₁ ∧ Stand p l e R s m args below meth c B.U B.locs B.cells B.slots ∧ PostX ⟨T.setVm vm₁, locs, cells, slots⟩ (Value.ref b :: argsL).toArray q B ∧
      Steps p.tables e below (T.setTop g) ((B.U.setTop { g with stack := rest }).pushFrame (.throwing q))) := by
  obtain ⟨mk, methM, hnamed, hmethM, hstM, habM⟩ := Cond.instanceMethod_spec hinst
  obtain ⟨methM', cM, hmethM', -, -, -, -, -, -, hsigM⟩ := Cond.code_spec hnamed hcode
  cases hmethM.symm.trans hmethM'
  obtain ⟨c2, r2, m2, q1, q2, q3, q4, kP, hkP, hkPi⟩ := Cond.selects_spec hsel
  cases hcls.symm.trans q1
  cases (State.methodFound?_of_named hnamed hy).symm.trans q2
  cases hnamed.symm.trans q3
  have hselP : selectMethod e.platform s.vm cellB.cls mk = .method mk := by rw [Launch.admits_selectMethod X.admits]; exact q4
  obtain ⟨vm₁, X₁, hstep₁⟩ := X.invokevirtual hexec hown hlink hnamed hmethM hstM hkP hkPi hy (a := b) (cell := cellB) hcell
    (fun z h => by rw [h] at hobj; cases hobj) hselP hmethM habM hkP hkPi (g := g) hg (argsL := argsL) (rest := rest) (hlen _ hsigM) hstack hdg
  rcases hK m meth c ⟨T.setVm vm₁, locs, cells, slots⟩ { g with stack := rest } (.invokevirtual index) mk (Value.ref b :: argsL).toArray X₁ hg hsize hdg hW (X₁.named hnamed) (hpre vm₁ X₁.warmed) with ⟨v, B, X', hpost, hsteps⟩ | ⟨q, B, X', hpost, hsteps⟩
  · exact Or.inl ⟨v, vm₁, B, X₁.warmed, X', hpost, fun target h => hstep₁ _ fun acts => by rw [doInvoke_state]; exact hsteps.trans h⟩
  · exact Or.inr ⟨q, vm₁, B, X₁.warmed, X', hpost, hstep₁ _ fun acts => by rw [doInvoke_state]; exact hsteps⟩
theorem vx_callS (X : Stand p l e R s m args below meth c T locs cells slots) (hexec : p.tables.exec = Jvm.exec) {own : String} {index : Nat} {y : MethodName} {bytes : ByteArray} {maxL : Nat} {ret : Option FieldType}
    (hown : s.vm.findClass own = some m.cls) (hlink : (Cond.methodLink own index y).before args s = true) (hstat : (Cond.static y).before args s = true) (hinit : (Cond.initialized y.cls).before args s = true)
    (hcode : (Cond.code y bytes maxL ret).before args s = true) (hy : y.cls ≠ "java/lang/invoke/MethodHandle" ∧ y.cls ≠ "java/lang/invoke/VarHandle")
    {W9 : Nat} {Pre : Pt → Array Value → Prop} {Post : Pt → Array Value → Option Value → Pt → Prop} {PostX : Pt → Array Value → Addr → Pt → Prop} (hK : vx_Back l R p e below s args y 3 W9 Pre Post PostX)
    {g : JFrame} (hg : g.method = m) (hsize : g.locals.size = c.maxLocals) {argsL rest : List Value} (hlen : ∀ sig, parseMethodDescriptor y.desc = some sig → argsL.length = sig.parameters.length)
    (hstack : g.stack = argsL.reverse ++ rest) (hW : 2 * g.monitorRoom + (rest.map fun v => v.category).sum ≤ W9) (hdg : decode c.code g.pc = .ok (.invokestatic index, 3))
    (hpre : ∀ vm₁, s.WarmedH vm₁ → Pre ⟨T.setVm vm₁, locs, cells, slots⟩ argsL.toArray) :
    (∃ (v : Option Value) (vm₁ : Vm) (B : Pt), s.WarmedH vm₁ ∧ Stand p l e R s m args below meth c B.U B.locs B.cells B.slots ∧ Post ⟨T.setVm vm₁, locs, cells, slots⟩ argsL.toArray v B ∧
      ∀ target, Steps p.tables e below (B.U.setTop { g with pc := g.pc + 3, stack := v.toList ++ rest }) target → Steps p.tables e below (T.setTop g) target) ∨
    (∃ (q : Addr) (vm₁ : Vm) (B : Pt), s.WarmedH vm₁ ∧ Stand p l e R s m args below meth c B.U B.locs B.cells B.slots ∧ PostX ⟨T.setVm vm₁, locs, cells, slots⟩ argsL.toArray q B ∧
      Steps p.tables e below (T.setTop g) ((B.U.setTop { g with stack := rest }).pushFrame (.throwing q))) := by
  obtain ⟨mk, hnamed⟩ := Cond.code_named hcode
  obtain ⟨methM, cM, hmethM, -, -, -, -, -, -, hsigM⟩ := Cond.code_spec hnamed hcode
  have hstatic : methM.isStatic = true := Cond.static_spec hnamed hmethM hstat
  obtain ⟨kP, hkP, -⟩ := className_of_methodNamed hnamed
  have hinitP : kP.init = .initialized := Cond.initialized_spec (findClass_of_methodNamed hnamed) hkP hinit
  obtain ⟨vm₁, X₁, hstep₁⟩ := X.invokestatic hexec hown hlink hnamed hmethM hstatic hkP hinitP hy (g := g) hg (argsL := argsL) (rest := rest) (hlen _ hsigM) hstack hdg
  rcases hK m meth c ⟨T.setVm vm₁, locs, cells, slots⟩ { g with stack := rest } (.invokestatic index) mk argsL.toArray X₁ hg hsize hdg hW (X₁.named hnamed) (hpre vm₁ X₁.warmed) with ⟨v, B, X', hpost, hsteps⟩ | ⟨q, B, X', hpost, hsteps⟩
  · exact Or.inl ⟨v, vm₁, B, X₁.warmed, X', hpost, fun target h => hstep₁ _ fun acts => by rw [doInvoke_state]; exact hsteps.trans h⟩
  · exact Or.inr ⟨q, vm₁, B, X₁.warmed, X', hpost, hstep₁ _ fun acts => by rw [doInvoke_state]; exact hsteps⟩
end Calls
theorem vx_cls {s : State} {T : State} {vm₁ : Vm} {E : String} {k : ClassId} (hW : s.WarmedH vm₁) (h : (T.setVm vm₁).vm.findClass E = some k) : s.vm.findClass E = some k := by
  have h1 : vm₁.findClass E = some k := h
  rw [hW.alike.findClass] at h1
  exact h1
def vx_W (p : Program) (l : Launch) (e : Env) (R : Room) (s : State) (m : MethodId) (args : Array Value) (below : List Frame) (meth : Method) (c : Code) (H : Heap) (locs : List Loc) (cells slots : Nat) (Q : State → Prop) (g : JFrame) (q : Addr) : Prop :=
  ∀ T : State, T.heap = H → Stand p l e R s m args below meth c T locs cells slots → ∃ t, Steps p.tables e below ((T.setTop g).pushFrame (.throwing q)) t ∧ Q t
def vx_Run (p : Program) (l : Launch) (e : Env) (R : Room) (s : State) (m : MethodId) (args : Array Value) (below : List Frame) (meth : Method) (c : Code) (H : Heap) (locs : List Loc) (cells slots mc ms : Nat) (g : JFrame) (rest : List Value) (Qa : State → Outcome → State → Prop) (XC : String → State → State → Prop) (free : Addr → Prop) : Prop :=
  ∀ T : State, T.heap = H → Stand p l e R s m args below meth c T locs cells slots →
    (∃ (v : Option Value) (st₀ t T' : State) (L : List Loc), st₀.heap = H ∧ Stand p l e R s m args below meth c T' (locs ++ L) (cells + mc) (slots + ms) ∧ (∀ q ∈ L, free q.base) ∧ T'.heap = t.heap ∧ T'.vm = t.vm ∧ Qa st₀ (.returned v) t ∧
      Goes p e below T g T' { g with pc := g.pc + 3, stack := v.toList ++ rest }) ∨
    (∃ (q : Addr) (st₀ t T' : State) (L : List Loc) (E : String) (ce : Cell), st₀.heap = H ∧ Stand p l e R s m args below meth c T' (locs ++ L) (cells + mc) (slots + ms) ∧ (∀ z ∈ L, free z.base) ∧ T'.heap = t.heap ∧ T'.vm = t.vm ∧ XC E st₀ t ∧ t.heap[q]? = some ce ∧ ce.vm = .none ∧ s.vm.findClass E = some ce.cls ∧
      Steps p.tables e below (T.setTop g) ((T'.setTop { g with stack := rest }).pushFrame (.throwing q)))
def vx_X {S : Type} (px : S → Prop) (B : String → S → State → Prop) (A : Nat → Prop) : String → State → State → Prop := fun E st t => ∃ u : S, px u ∧ B E u t ∧ va_F A st t
section Runs
variable {p : Program} {l : Launch} {e : Env} {R : Room} {s : State} {m : MethodId} {args : Array Value} {below : List Frame} {meth : Method} {c : Code} {H : Heap} {locs : List Loc} {cells slots : Nat}
variable {y : MethodName} {bytes cc : ByteArray} {maxL nL mc ms n index : Nat} {ret : Option FieldType} {ws : List Cond} {rm : Room} {Pc : Array Value → State → Prop} {Qc : Array Value → State → Outcome → State → Prop} {XC : String → State → State → Prop} {free : Addr → Prop} {Ts : List Cond} {own C : String} {b : Addr} {As rest : List Value} {g : JFrame}
theorem vx_callBack (cb : CallB R s args own index y bytes maxL ret ws rm mc ms n) (hM : vx_Met l y ws rm Pc Qc XC mc ms free) (hbl : FrameBlind Pc) : vx_Back l R p e below s args y 3 8 (PreOf R mc ms Pc) (PostOf Qc mc ms free) (vx_Post XC mc ms free) := by
  obtain ⟨hrc, hrs, hfr, hlo, hws, hcw, -, hini, -⟩ := cb
  exact vx_back (bytes := bytes) (maxL := maxL) (ret := ret) hM hbl hrc hrs hfr hlo hws hcw (fun a' U hW => word_at hW (Or.inl (by first | rfl | simp [Cond.onTables, Cond.keeps, Cond.steady])) hini)
theorem vx_runV (S : CallFix p m c cc nL s args Ts own) (hM : vx_Met l y ws rm Pc Qc XC mc ms free) (cw : CallW R s args own C index y bytes maxL ret ws rm mc ms n) (hp : PreV s H C b Pc As)
    (hg : g.method = m) (hn : As.length = n) (hsize : g.locals.size = nL) (hstack : g.stack = As.reverse ++ .ref b :: rest) (hW : 2 * g.monitorRoom + (rest.map fun v => v.category).sum ≤ 8) (hdg : decode cc g.pc = .ok (.invokevirtual index, 3)) (hf : cells + mc ≤ R.cells ∧ slots + ms ≤ R.slots) :
    vx_Run p l e R s m args below meth c H locs cells slots mc ms g rest (Qc (Value.ref b :: As).toArray) XC free := by
  have hK : vx_Back l R p e below s args y 3 8 (PreOf R mc ms Pc) (PostOf Qc mc ms free) (vx_Post XC mc ms free) := vx_callBack cw.1 hM hp.1
  obtain ⟨⟨-, -, -, -, -, -, hcode, -, hy, hlen, hl⟩, hin, hse⟩ := cw
  obtain ⟨hx, hb, hml, ho, -⟩ := S
  obtain ⟨-, ⟨cellB, hcB, hoB, hclB⟩, hPc⟩ := hp
  intro T hT X
  rcases vx_callV X hx (C := C) (bytes := bytes) (maxL := maxL) (ret := ret) ho hl hin hse hcode hy hK (by rw [hT]; exact hcB) hoB hclB hg (hsize.trans hml.symm) (argsL := As) (rest := rest) (fun sig h => hn.trans (hlen sig h)) hstack hW (by rw [hb]; exact hdg)
    (fun vm₁ hW₁ => ⟨hf.1, hf.2, hPc (T.setVm vm₁) hT hW₁⟩) with ⟨v, vm₁, ⟨U', l2, c2, s2⟩, hW₁, X', ⟨g', mk, t, L, e1, e2, hq, h1, hL, h2, h3⟩, st⟩ | ⟨q, vm₁, ⟨U', l2, c2, s2⟩, hW₁, X', ⟨g', mk, t, L, E, ce, e1, e2, hq, hce, hcv, hcl, h1, hL, h2, h3⟩, st⟩
  · dsimp only [Pt.U, Pt.locs, Pt.cells, Pt.slots] at X' e1 e2 h1 h2 h3 st
    subst h1; subst h2; subst h3
    exact Or.inl ⟨v, (T.setVm vm₁).calling g' mk (Value.ref b :: As).toArray, t, U', L, hT, X', hL, e1, e2, hq, st⟩
  · dsimp only [Pt.U, Pt.locs, Pt.cells, Pt.slots] at X' e1 e2 h1 h2 h3 st hcl
    subst h1; subst h2; subst h3
    exact Or.inr ⟨q, (T.setVm vm₁).calling g' mk (Value.ref b :: As).toArray, t, U', L, E, ce, hT, X', hL, e1, e2, hq, hce, hcv, vx_cls hW₁ hcl, st⟩
theorem vx_runS (S : CallFix p m c cc nL s args Ts own) (hM : vx_Met l y ws rm Pc Qc XC mc ms free) (cw : CallB R s args own index y bytes maxL ret ws rm mc ms n ∧ (Cond.static y).before args s = true) (hp : PreS s H Pc As)
    (hg : g.method = m) (hn : As.length = n) (hsize : g.locals.size = nL) (hstack : g.stack = As.reverse ++ rest) (hW : 2 * g.monitorRoom + (rest.map fun v => v.category).sum ≤ 8) (hdg : decode cc g.pc = .ok (.invokestatic index, 3)) (hf : cells + mc ≤ R.cells ∧ slots + ms ≤ R.slots) :
    vx_Run p l e R s m args below meth c H locs cells slots mc ms g rest (Qc As.toArray) XC free := by
  have hK : vx_Back l R p e below s args y 3 8 (PreOf R mc ms Pc) (PostOf Qc mc ms free) (vx_Post XC mc ms free) := vx_callBack cw.1 hM hp.1
  obtain ⟨⟨-, -, -, -, -, -, hcode, hini, hy, hlen, hl⟩, hstt⟩ := cw
  obtain ⟨hx, hb, hml, ho, -⟩ := S
  intro T hT X
  rcases vx_callS X hx (bytes := bytes) (maxL := maxL) (ret := ret) ho hl hstt hini hcode hy hK hg (hsize.trans hml.symm) (argsL := As) (rest := rest) (fun sig h => hn.trans (hlen sig h)) hstack hW (by rw [hb]; exact hdg)
    (fun vm₁ hW₁ => ⟨hf.1, hf.2, hp.2 (T.setVm vm₁) hT hW₁⟩) with ⟨v, vm₁, ⟨U', l2, c2, s2⟩, hW₁, X', ⟨g', mk, t, L, e1, e2, hq, h1, hL, h2, h3⟩, st⟩ | ⟨q, vm₁, ⟨U', l2, c2, s2⟩, hW₁, X', ⟨g', mk, t, L, E, ce, e1, e2, hq, hce, hcv, hcl, h1, hL, h2, h3⟩, st⟩
  · dsimp only [Pt.U, Pt.locs, Pt.cells, Pt.slots] at X' e1 e2 h1 h2 h3 st
    subst h1; subst h2; subst h3
    exact Or.inl ⟨v, (T.setVm vm₁).calling g' mk As.toArray, t, U', L, hT, X', hL, e1, e2, hq, st⟩
  · dsimp only [Pt.U, Pt.locs, Pt.cells, Pt.slots] at X' e1 e2 h1 h2 h3 st hcl
    subst h1; subst h2; subst h3
    exact Or.inr ⟨q, (T.setVm vm₁).calling g' mk As.toArray, t, U', L, E, ce, hT, X', hL, e1, e2, hq, hce, hcv, vx_cls hW₁ hcl, st⟩
end Runs
section Rows
variable {p : Program} {l : Launch} {e : Env} {R : Room} {s : State} {m : MethodId} {args : Array Value} {below : List Frame} {meth : Method} {c : Code} {H : Heap} {locs : List Loc} {cells slots : Nat} {Q : State → Prop}
variable {mc ms : Nat} {free : Addr → Prop} {A0 A1 : Nat → Prop} {H0 : Heap} {a : Array Value} {pc : Nat} {ls : Array Slot} {st0 rest : List Value}
theorem vx_keep {st₀ t T' : State} {L : List Loc} (h0 : st₀.heap = H) (e1 : T'.heap = t.heap) (hS : va_S A0 H0 H locs) (hA : ∀ q, q < H.size → A1 q → A0 q) (hf : ∀ q, free q → A0 q) (hL : ∀ q ∈ L, free q.base) (hF : va_F A1 st₀ t) :
    H.size ≤ T'.heap.size ∧ (∀ q : Nat, q < H.size → ¬ A1 q → T'.heap[q]? = H[q]?) ∧ va_S A0 H0 T'.heap (locs ++ L) := by
  obtain ⟨hz, hk⟩ := hF
  rw [h0] at hz hk
  exact ⟨by rw [e1]; exact hz, fun q h1 h2 => by rw [e1]; exact hk q h1 h2,
    ⟨Nat.le_trans hS.1 (by rw [e1]; exact hz), fun q h1 h2 => by rw [e1, hk q (Nat.lt_of_lt_of_le h1 hS.1) (fun z => h2 (hA q (Nat.lt_of_lt_of_le h1 hS.1) z))]; exact hS.2.1 q h1 h2, fun q hq => by
      rcases List.mem_append.mp hq with h | h
      · exact hS.2.2 q h
      · exact hf _ (hL q h)⟩⟩
theorem vx_calli {S SX : Type} {post : Int32 → S → Prop} {px : SX → Prop} {B : S → State → Prop} {BX : String → SX → State → Prop} {AX : Nat → Prop} (hr : vx_Run p l e R s m args below meth c H locs cells slots mc ms (F0 m pc ls st0) rest (va_Qi post B A1 a) (vx_X px BX AX) free) (hS : va_S A0 H0 H locs) (hA : ∀ q, q < H.size → A1 q → A0 q) (hf : ∀ q, free q → A0 q) (hAX : ∀ q, q < H.size → AX q → A0 q)
    (kx : ∀ (E : String) (ce : Cell) (q9 : Addr) (u : SX) (t : State) (H1 : Heap) (locs1 : List Loc), t.heap = H1 → s.vm.Alike t.vm → px u → BX E u t → H.size ≤ H1.size → (∀ q : Nat, q < H.size → ¬ AX q → H1[q]? = H[q]?) → va_S A0 H0 H1 locs1 → H1[q9]? = some ce → ce.vm = .none → s.vm.findClass E = some ce.cls → vx_W p l e R s m args below meth c H1 locs1 (cells + mc) (slots + ms) Q (F0 m pc ls rest) q9)
    (kk : ∀ (r : Int32) (u : S) (t : State) (H1 : Heap) (locs1 : List Loc), t.heap = H1 → s.vm.Alike t.vm → post r u → B u t → H.size ≤ H1.size → (∀ q : Nat, q < H.size → ¬ A1 q → H1[q]? = H[q]?) → va_S A0 H0 H1 locs1 → W p l e R s m args below meth c H1 locs1 (cells + mc) (slots + ms) Q (F0 m (pc + 3) ls (.int r :: rest))) : W p l e R s m args below meth c H locs cells slots Q (F0 m pc ls st0) := by
  intro T hT X
  rcases hr T hT X with ⟨v, st₀, t, T', L, h0, X', hL, e1, e2, ⟨⟨r, u, hv, hp, hb⟩, hF⟩, st⟩ | ⟨q, st₀, t, T', L, E, ce, h0, X', hL, e1, e2, ⟨u, hp, hb, hF⟩, hce, hcv, hcl, st⟩
  · cases hv
    obtain ⟨k1, k2, k3⟩ := vx_keep h0 e1 hS hA hf hL hF
    obtain ⟨t2, a1, b1⟩ := kk r u t T'.heap (locs ++ L) e1.symm (by rw [← e2]; exact X'.warmed.alike) hp hb k1 k2 k3 T' rfl X'
    exact ⟨t2, st t2 a1, b1⟩
  · obtain ⟨k1, k2, k3⟩ := vx_keep h0 e1 hS hAX hf hL hF
    obtain ⟨t2, a1, b1⟩ := kx E ce q u t T'.heap (locs ++ L) e1.symm (by rw [← e2]; exact X'.warmed.alike) hp hb k1 k2 k3 (by rw [e1]; exact hce) hcv hcl T' rfl X'
    exact ⟨t2, st.trans a1, b1⟩
theorem vx_calll {S SX : Type} {post : Int64 → S → Prop} {px : SX → Prop} {B : S → State → Prop} {BX : String → SX → State → Prop} {AX : Nat → Prop} (hr : vx_Run p l e R s m args below meth c H locs cells slots mc ms (F0 m pc ls st0) rest (va_Ql post B A1 a) (vx_X px BX AX) free) (hS : va_S A0 H0 H locs) (hA : ∀ q, q < H.size → A1 q → A0 q) (hf : ∀ q, free q → A0 q) (hAX : ∀ q, q < H.size → AX q → A0 q)
    (kx : ∀ (E : String) (ce : Cell) (q9 : Addr) (u : SX) (t : State) (H1 : Heap) (locs1 : List Loc), t.heap = H1 → s.vm.Alike t.vm → px u → BX E u t → H.size ≤ H1.size → (∀ q : Nat, q < H.size → ¬ AX q → H1[q]? = H[q]?) → va_S A0 H0 H1 locs1 → H1[q9]? = some ce → ce.vm = .none → s.vm.findClass E = some ce.cls → vx_W p l e R s m args below meth c H1 locs1 (cells + mc) (slots + ms) Q (F0 m pc ls rest) q9)
    (kk : ∀ (r : Int64) (u : S) (t : State) (H1 : Heap) (locs1 : List Loc), t.heap = H1 → s.vm.Alike t.vm → post r u → B u t → H.size ≤ H1.size → (∀ q : Nat, q < H.size → ¬ A1 q → H1[q]? = H[q]?) → va_S A0 H0 H1 locs1 → W p l e R s m args below meth c H1 locs1 (cells + mc) (slots + ms) Q (F0 m (pc + 3) ls (.long r :: rest))) : W p l e R s m args below meth c H locs cells slots Q (F0 m pc ls st0) := by
  intro T hT X
  rcases hr T hT X with ⟨v, st₀, t, T', L, h0, X', hL, e1, e2, ⟨⟨r, u, hv, hp, hb⟩, hF⟩, st⟩ | ⟨q, st₀, t, T', L, E, ce, h0, X', hL, e1, e2, ⟨u, hp, hb, hF⟩, hce, hcv, hcl, st⟩
  · cases hv
    obtain ⟨k1, k2, k3⟩ := vx_keep h0 e1 hS hA hf hL hF
    obtain ⟨t2, a1, b1⟩ := kk r u t T'.heap (locs ++ L) e1.symm (by rw [← e2]; exact X'.warmed.alike) hp hb k1 k2 k3 T' rfl X'
    exact ⟨t2, st t2 a1, b1⟩
  · obtain ⟨k1, k2, k3⟩ := vx_keep h0 e1 hS hAX hf hL hF
    obtain ⟨t2, a1, b1⟩ := kx E ce q u t T'.heap (locs ++ L) e1.symm (by rw [← e2]; exact X'.warmed.alike) hp hb k1 k2 k3 (by rw [e1]; exact hce) hcv hcl T' rfl X'
    exact ⟨t2, st.trans a1, b1⟩
theorem vx_callf {S SX : Type} {post : UInt32 → S → Prop} {px : SX → Prop} {B : S → State → Prop} {BX : String → SX → State → Prop} {AX : Nat → Prop} (hr : vx_Run p l e R s m args below meth c H locs cells slots mc ms (F0 m pc ls st0) rest (va_Qf post B A1 a) (vx_X px BX AX) free) (hS : va_S A0 H0 H locs) (hA : ∀ q, q < H.size → A1 q → A0 q) (hf : ∀ q, free q → A0 q) (hAX : ∀ q, q < H.size → AX q → A0 q)
    (kx : ∀ (E : String) (ce : Cell) (q9 : Addr) (u : SX) (t : State) (H1 : Heap) (locs1 : List Loc), t.heap = H1 → s.vm.Alike t.vm → px u → BX E u t → H.size ≤ H1.size → (∀ q : Nat, q < H.size → ¬ AX q → H1[q]? = H[q]?) → va_S A0 H0 H1 locs1 → H1[q9]? = some ce → ce.vm = .none → s.vm.findClass E = some ce.cls → vx_W p l e R s m args below meth c H1 locs1 (cells + mc) (slots + ms) Q (F0 m pc ls rest) q9)
    (kk : ∀ (r : UInt32) (u : S) (t : State) (H1 : Heap) (locs1 : List Loc), t.heap = H1 → s.vm.Alike t.vm → post r u → B u t → H.size ≤ H1.size → (∀ q : Nat, q < H.size → ¬ A1 q → H1[q]? = H[q]?) → va_S A0 H0 H1 locs1 → W p l e R s m args below meth c H1 locs1 (cells + mc) (slots + ms) Q (F0 m (pc + 3) ls (.float r :: rest))) : W p l e R s m args below meth c H locs cells slots Q (F0 m pc ls st0) := by
  intro T hT X
  rcases hr T hT X with ⟨v, st₀, t, T', L, h0, X', hL, e1, e2, ⟨⟨r, u, hv, hp, hb⟩, hF⟩, st⟩ | ⟨q, st₀, t, T', L, E, ce, h0, X', hL, e1, e2, ⟨u, hp, hb, hF⟩, hce, hcv, hcl, st⟩
  · cases hv
    obtain ⟨k1, k2, k3⟩ := vx_keep h0 e1 hS hA hf hL hF
    obtain ⟨t2, a1, b1⟩ := kk r u t T'.heap (locs ++ L) e1.symm (by rw [← e2]; exact X'.warmed.alike) hp hb k1 k2 k3 T' rfl X'
    exact ⟨t2, st t2 a1, b1⟩
  · obtain ⟨k1, k2, k3⟩ := vx_keep h0 e1 hS hAX hf hL hF
    obtain ⟨t2, a1, b1⟩ := kx E ce q u t T'.heap (locs ++ L) e1.symm (by rw [← e2]; exact X'.warmed.alike) hp hb k1 k2 k3 (by rw [e1]; exact hce) hcv hcl T' rfl X'
    exact ⟨t2, st.trans a1, b1⟩
theorem vx_calld {S SX : Type} {post : UInt64 → S → Prop} {px : SX → Prop} {B : S → State → Prop} {BX : String → SX → State → Prop} {AX : Nat → Prop} (hr : vx_Run p l e R s m args below meth c H locs cells slots mc ms (F0 m pc ls st0) rest (va_Qd post B A1 a) (vx_X px BX AX) free) (hS : va_S A0 H0 H locs) (hA : ∀ q, q < H.size → A1 q → A0 q) (hf : ∀ q, free q → A0 q) (hAX : ∀ q, q < H.size → AX q → A0 q)
    (kx : ∀ (E : String) (ce : Cell) (q9 : Addr) (u : SX) (t : State) (H1 : Heap) (locs1 : List Loc), t.heap = H1 → s.vm.Alike t.vm → px u → BX E u t → H.size ≤ H1.size → (∀ q : Nat, q < H.size → ¬ AX q → H1[q]? = H[q]?) → va_S A0 H0 H1 locs1 → H1[q9]? = some ce → ce.vm = .none → s.vm.findClass E = some ce.cls → vx_W p l e R s m args below meth c H1 locs1 (cells + mc) (slots + ms) Q (F0 m pc ls rest) q9)
    (kk : ∀ (r : UInt64) (u : S) (t : State) (H1 : Heap) (locs1 : List Loc), t.heap = H1 → s.vm.Alike t.vm → post r u → B u t → H.size ≤ H1.size → (∀ q : Nat, q < H.size → ¬ A1 q → H1[q]? = H[q]?) → va_S A0 H0 H1 locs1 → W p l e R s m args below meth c H1 locs1 (cells + mc) (slots + ms) Q (F0 m (pc + 3) ls (.double r :: rest))) : W p l e R s m args below meth c H locs cells slots Q (F0 m pc ls st0) := by
  intro T hT X
  rcases hr T hT X with ⟨v, st₀, t, T', L, h0, X', hL, e1, e2, ⟨⟨r, u, hv, hp, hb⟩, hF⟩, st⟩ | ⟨q, st₀, t, T', L, E, ce, h0, X', hL, e1, e2, ⟨u, hp, hb, hF⟩, hce, hcv, hcl, st⟩
  · cases hv
    obtain ⟨k1, k2, k3⟩ := vx_keep h0 e1 hS hA hf hL hF
    obtain ⟨t2, a1, b1⟩ := kk r u t T'.heap (locs ++ L) e1.symm (by rw [← e2]; exact X'.warmed.alike) hp hb k1 k2 k3 T' rfl X'
    exact ⟨t2, st t2 a1, b1⟩
  · obtain ⟨k1, k2, k3⟩ := vx_keep h0 e1 hS hAX hf hL hF
    obtain ⟨t2, a1, b1⟩ := kx E ce q u t T'.heap (locs ++ L) e1.symm (by rw [← e2]; exact X'.warmed.alike) hp hb k1 k2 k3 (by rw [e1]; exact hce) hcv hcl T' rfl X'
    exact ⟨t2, st.trans a1, b1⟩
theorem vx_callv {S SX : Type} {post : S → Prop} {px : SX → Prop} {B : S → State → Prop} {BX : String → SX → State → Prop} {AX : Nat → Prop} (hr : vx_Run p l e R s m args below meth c H locs cells slots mc ms (F0 m pc ls st0) rest (va_Qv post B A1 a) (vx_X px BX AX) free) (hS : va_S A0 H0 H locs) (hA : ∀ q, q < H.size → A1 q → A0 q) (hf : ∀ q, free q → A0 q) (hAX : ∀ q, q < H.size → AX q → A0 q)
    (kx : ∀ (E : String) (ce : Cell) (q9 : Addr) (u : SX) (t : State) (H1 : Heap) (locs1 : List Loc), t.heap = H1 → s.vm.Alike t.vm → px u → BX E u t → H.size ≤ H1.size → (∀ q : Nat, q < H.size → ¬ AX q → H1[q]? = H[q]?) → va_S A0 H0 H1 locs1 → H1[q9]? = some ce → ce.vm = .none → s.vm.findClass E = some ce.cls → vx_W p l e R s m args below meth c H1 locs1 (cells + mc) (slots + ms) Q (F0 m pc ls rest) q9)
    (kk : ∀ (u : S) (t : State) (H1 : Heap) (locs1 : List Loc), t.heap = H1 → s.vm.Alike t.vm → post u → B u t → H.size ≤ H1.size → (∀ q : Nat, q < H.size → ¬ A1 q → H1[q]? = H[q]?) → va_S A0 H0 H1 locs1 → W p l e R s m args below meth c H1 locs1 (cells + mc) (slots + ms) Q (F0 m (pc + 3) ls (rest))) : W p l e R s m args below meth c H locs cells slots Q (F0 m pc ls st0) := by
  intro T hT X
  rcases hr T hT X with ⟨v, st₀, t, T', L, h0, X', hL, e1, e2, ⟨⟨u, hv, hp, hb⟩, hF⟩, st⟩ | ⟨q, st₀, t, T', L, E, ce, h0, X', hL, e1, e2, ⟨u, hp, hb, hF⟩, hce, hcv, hcl, st⟩
  · cases hv
    obtain ⟨k1, k2, k3⟩ := vx_keep h0 e1 hS hA hf hL hF
    obtain ⟨t2, a1, b1⟩ := kk u t T'.heap (locs ++ L) e1.symm (by rw [← e2]; exact X'.warmed.alike) hp hb k1 k2 k3 T' rfl X'
    exact ⟨t2, st t2 a1, b1⟩
  · obtain ⟨k1, k2, k3⟩ := vx_keep h0 e1 hS hAX hf hL hF
    obtain ⟨t2, a1, b1⟩ := kx E ce q u t T'.heap (locs ++ L) e1.symm (by rw [← e2]; exact X'.warmed.alike) hp hb k1 k2 k3 (by rw [e1]; exact hce) hcv hcl T' rfl X'
    exact ⟨t2, st.trans a1, b1⟩
theorem vx_catch {own name : String} {E : String} {ce : Cell} {q : Addr} (hown : s.vm.findClass own = some m.cls) (pre : List ExceptionTableEntry) (x : ExceptionTableEntry) (suf : List ExceptionTableEntry) (hsplit : c.exceptionTable.toList = pre ++ x :: suf)
    (hpass : ∀ z ∈ pre, covers z pc = false ∨ (z.catchType ≠ 0 ∧ ∃ nm : String, (Cond.classLink own z.catchType nm).before args s = true ∧ va_Nc E nm s)) (hx : covers x pc = true) (h0 : x.catchType ≠ 0)
    (hlink : (Cond.classLink own x.catchType name).before args s = true) (hcast : (Cond.castable E name).before args s = true) (hcell : H[q]? = some ce) (hv : ce.vm = .none) (hcl : s.vm.findClass E = some ce.cls)
    (kk : W p l e R s m args below meth c H locs cells slots Q (F0 m x.handlerPc ls [.ref q])) : vx_W p l e R s m args below meth c H locs cells slots Q (F0 m pc ls rest) q := by
  intro T hT X
  have hpl : e.platform.magicAccessors = ({} : Platform).magicAccessors := by rw [X.admits.platform]
  obtain ⟨c3, c4, hc3, hc4, hasg⟩ := Cond.castable_spec hcast
  cases Option.some.inj (hc3.symm.trans hcl)
  obtain ⟨c5, hc5, hcl5⟩ := Cond.classLink_spec hown hlink e.platform hpl
  cases Option.some.inj (hc4.symm.trans hc5)
  obtain ⟨vm', X', st⟩ := X.thenCaughtThrough q (g := F0 m pc ls rest) rfl (Steps.refl _) (by rw [hT]; exact hcell) (by rw [hv]; rfl) (by obtain ⟨k9, h9, -⟩ := Vm.findClass_spec hcl; exact ⟨k9, h9⟩) pre x suf hsplit
    (fun z hz => by
      rcases hpass z hz with h | ⟨hz0, nm, hl1, hn1⟩
      · exact Or.inl h
      · obtain ⟨c6, hc6, hcl6⟩ := Cond.classLink_spec hown hl1 e.platform hpl
        obtain ⟨a8, b8, h1, h2, h3⟩ := hn1
        cases Option.some.inj (h1.symm.trans hcl)
        cases Option.some.inj (h2.symm.trans hc6)
        exact Or.inr ⟨hz0, _, hcl6, h3⟩) hx (Or.inr ⟨h0, c4, hcl5, hasg⟩)
  obtain ⟨t, a1, b1⟩ := kk (T.setVm vm') hT X'
  exact ⟨t, st.trans a1, b1⟩
end Rows
section Ends
variable {p : Program} {l : Launch} {e : Env} {R : Room} {s : State} {m : MethodId} {args : Array Value} {below : List Frame} {meth : Method} {c : Code} {H : Heap} {locs : List Loc} {cells slots : Nat} {Q : State → Prop}
variable {mc ms : Nat} {free : Addr → Prop} {A0 A1 : Nat → Prop} {H0 : Heap} {a : Array Value} {ls : Array Slot} {st0 rest : List Value}
variable {Qc : Array Value → State → Outcome → State → Prop} {XC : String → State → State → Prop}
def vx_MQ (below : List Frame) (Qc : Array Value → State → Outcome → State → Prop) (XC : String → State → State → Prop) (a : Array Value) (s : State) (mc ms : Nat) (free : Addr → Prop) : State → Prop := fun t =>
  ∃ o, t.status = .running ∧ Ended t below o ∧ vx_Q Qc XC mc ms free a s o t
theorem vx_ret {g : JFrame} {mc ms : Nat} (k : W p l e R s m args below meth c H locs cells slots (MQ below Qc args s mc ms free) g) : W p l e R s m args below meth c H locs cells slots (vx_MQ below Qc XC args s mc ms free) g := by
  intro T hT X
  obtain ⟨t, a1, o, b1, b2, b3, b4⟩ := k T hT X
  exact ⟨t, a1, o, b1, b2, Or.inl ⟨b3, b4⟩⟩
theorem vx_widen {g : JFrame} {q : Addr} {k n : Nat} (h1 : cells ≤ k) (h2 : slots ≤ n) (kk : vx_W p l e R s m args below meth c H locs k n Q g q) : vx_W p l e R s m args below meth c H locs cells slots Q g q := fun T hT X => kk T hT (stand_widen X h1 h2)
theorem vx_out {pc : Nat} {E : String} {ce : Cell} {q : Addr} {mc ms : Nat} (hout : ∀ x ∈ c.exceptionTable.toList, covers x pc = false) (hlocks : meth.locks = false) (hcell : H[q]? = some ce) (hv : ce.vm = .none) (hcl : s.vm.findClass E = some ce.cls)
    (hx : ∀ t : State, t.heap = H → s.vm.Alike t.vm → XC E s t) (hf : ∀ z ∈ locs, free z.base) (hc : cells ≤ mc) (hs : slots ≤ ms) :
    vx_W p l e R s m args below meth c H locs cells slots (vx_MQ below Qc XC args s mc ms free) (F0 m pc ls rest) q := by
  intro T hT X
  obtain ⟨st1, hrun, hend, hW, hsm⟩ := X.leaveThrown q (g := F0 m pc ls rest) rfl rfl rfl hout hlocks
  have hcell9 : (T.setFrames (.throwing q :: below)).heap[q]? = some ce := by
    show T.heap[q]? = some ce
    rw [hT]; exact hcell
  exact ⟨_, st1, .threw q, hrun, hend, Or.inr ⟨q, rfl, E, ce, locs, hx _ hT hW.alike, hcell9, hv, hcl, hW, hsm.mono hc hs, hf⟩⟩
theorem vx_frame {U : State} {k n : Nat} (h : s.sameButNew ({ U with vm := s.vm } : State) locs k n) : s.heap.size ≤ U.heap.size ∧ ∀ q : Nat, q < s.heap.size → (∀ z ∈ locs, z.base ≠ q) → U.heap[q]? = s.heap[q]? := by
  obtain ⟨-, h2, -, -, -, h6⟩ := h
  refine ⟨h2, fun q hq hz => ?_⟩
  obtain ⟨c9, e1, e2, e3, e4⟩ := h6 q _ (Array.getElem?_eq_getElem hq)
  have hs : c9.slots = (s.heap[q]).slots := Array.ext_getElem? fun i => e4 i fun hm => hz _ hm rfl
  have h9 : c9 = s.heap[q] := by
    rw [hs] at e2
    exact e2
  have e5 : U.heap[q]? = some c9 := e1
  rw [e5, h9, Array.getElem?_eq_getElem hq]
def vx_no (w : Cond) : Bool := decide (w ≠ .isRef (.static Bundle.tN "UNASSIGNED_STACK" Bundle.steD)) && decide (w ≠ .isRef (.static Bundle.tN "SUPPRESSED_SENTINEL" Bundle.listD)) && decide (w ≠ .laysStatic Bundle.tN "UNASSIGNED_STACK" Bundle.steD) && decide (w ≠ .laysStatic Bundle.tN "SUPPRESSED_SENTINEL" Bundle.listD)
def vx_at0 (own : String) (ic : Nat) (X : String) (names : List String) : List Cond := (Bundle.ownAtoms0 own ic X names).filter vx_no
def vx_atS (own : String) (ic : Nat) (X : String) (names : List String) : List Cond := (Bundle.ownAtoms own ic X names).filter vx_no
def vx_ot (w : Cond) : Bool := w.onTables || goodWord w
theorem vx_ot_at {args a' : Array Value} {s U : State} {w : Cond} (hW : s.WarmedH U.vm) (hvm : s.vm = U.vm) (hg : vx_ot w = true) (h : w.before args s = true) : w.before a' U = true := by
  simp only [vx_ot, Bool.or_eq_true] at hg
  rcases hg with hg | hg
  · exact va_tabs hg hvm h
  · exact word_at hW (good_of_word hg) h
theorem vx_hat {args : Array Value} {s : State} {L B : List Cond} (h1 : ∀ w ∈ L.filter goodWord, w.before args s = true) (h2 : ∀ w ∈ L.filter (fun w => !goodWord w), w ∈ B) (h3 : ∀ w ∈ B, w.before args s = true) : ∀ w ∈ L, w.before args s = true := by
  intro w hw
  by_cases g : goodWord w = true
  · exact h1 w (List.mem_filter.mpr ⟨hw, g⟩)
  · refine h3 w (h2 w (List.mem_filter.mpr ⟨hw, ?_⟩))
    show (!goodWord w) = true
    cases hgw : goodWord w
    · rfl
    · exact absurd hgw g
theorem vx_c {args : Array Value} {s : State} {w : Cond} {B : List Cond} (h : w.before args s = true) (t : ∀ w ∈ B, w.before args s = true) : ∀ w' ∈ w :: B, w'.before args s = true := fun w' h' => (List.mem_cons.mp h').elim (fun e => by rw [e]; exact h) (t w')
theorem vx_n {args : Array Value} {s : State} : ∀ w ∈ ([] : List Cond), w.before args s = true := fun _ h => nomatch h
theorem vx_own {args : Array Value} {s : State} {L : List Cond} (h1 : ∀ w ∈ L.filter vx_no, w.before args s = true)
    (hU : (Cond.isRef (.static Bundle.tN "UNASSIGNED_STACK" Bundle.steD)).before args s = true) (hN : (Cond.isRef (.static Bundle.tN "SUPPRESSED_SENTINEL" Bundle.listD)).before args s = true)
    (lU : (Cond.laysStatic Bundle.tN "UNASSIGNED_STACK" Bundle.steD).before args s = true) (lN : (Cond.laysStatic Bundle.tN "SUPPRESSED_SENTINEL" Bundle.listD).before args s = true) : ∀ w ∈ L, w.before args s = true := by
  intro w hw
  by_cases e1 : w = .isRef (.static Bundle.tN "UNASSIGNED_STACK" Bundle.steD)
  · rw [e1]; exact hU
  · by_cases e2 : w = .isRef (.static Bundle.tN "SUPPRESSED_SENTINEL" Bundle.listD)
    · rw [e2]; exact hN
    · by_cases e3 : w = .laysStatic Bundle.tN "UNASSIGNED_STACK" Bundle.steD
      · rw [e3]; exact lU
      · by_cases e4 : w = .laysStatic Bundle.tN "SUPPRESSED_SENTINEL" Bundle.listD
        · rw [e4]; exact lN
        · exact h1 w (List.mem_filter.mpr ⟨hw, by unfold vx_no; rw [decide_eq_true e1, decide_eq_true e2, decide_eq_true e3, decide_eq_true e4]; rfl⟩)
def vx_L (C n d : String) (A : Nat → Prop) (U : State) (H : Heap) : Prop := ∃ (c : ClassId) (k : Class) (i : Nat) (f : Field) (a : Nat) (cell : Cell), U.vm.findClass C = some c ∧ U.fieldFound? C n d = some (c, k, i, f) ∧ f.isStatic = true ∧ k.statics = some a ∧ H[a]? = some cell ∧ cell.vm.isStatics = true ∧ cell.cls = c ∧ f.slot < cell.slots.size ∧ k.staticTypes[f.slot]? = some f.type ∧ ¬ A a
theorem vx_L.moved {C n d : String} {A : Nat → Prop} {u U : State} {H : Heap} (hvm : u.vm.Alike U.vm) (h : vx_L C n d A u H) : vx_L C n d A U H := by
  obtain ⟨c, k, i, f, a, cell, h1, h2, h3, h4, h5, h6, h7, h8, h9, h10⟩ := h
  obtain ⟨k', hi', he⟩ := State.fieldFound?_setVm hvm h2
  exact ⟨c, k', i, f, a, cell, by rw [hvm.findClass]; exact h1, hi', h3, by rw [he]; exact h4, h5, h6, h7, h8, by rw [he]; exact h9, h10⟩
theorem vx_L.kept {C n d : String} {A : Nat → Prop} {U : State} {H H1 : Heap} (h : vx_L C n d A U H) (hq : ∀ a : Nat, a < H.size → ¬ A a → H1[a]? = H[a]?) : vx_L C n d A U H1 := by
  obtain ⟨c, k, i, f, a, cell, h1, h2, h3, h4, h5, h6, h7, h8, h9, h10⟩ := h
  exact ⟨c, k, i, f, a, cell, h1, h2, h3, h4, by rw [hq a (Array.getElem?_eq_some_iff.mp h5).1 h10]; exact h5, h6, h7, h8, h9, h10⟩
theorem vx_L.narrow {C n d : String} {A B : Nat → Prop} {U : State} {H : Heap} (h : vx_L C n d A U H) (hAB : ∀ q, B q → A q) : vx_L C n d B U H := by
  obtain ⟨c, k, i, f, a, cell, h1, h2, h3, h4, h5, h6, h7, h8, h9, h10⟩ := h
  exact ⟨c, k, i, f, a, cell, h1, h2, h3, h4, h5, h6, h7, h8, h9, fun z => h10 (hAB _ z)⟩
theorem vx_L.word {C n d : String} {A : Nat → Prop} {s : State} {args : Array Value} (h : vx_L C n d A s s.heap) : (Cond.laysStatic C n d).before args s = true := by
  obtain ⟨c, k, i, f, a, cell, h1, h2, h3, h4, h5, h6, h7, h8, h9, -⟩ := h
  show (Cond.laysStatic C n d).holds args s none s [] = true
  exact Cond.laysStatic_of h1 h2 h3 h4 h5 h6 h7 h8 h9
def vx_Zq (C n d : String) (A : Nat → Prop) (U : State) (H : Heap) : Prop := va_Zq C n d A U H ∧ vx_L C n d A U H
theorem vx_Zq.moved {C n d : String} {A : Nat → Prop} {u U : State} {H : Heap} (hvm : u.vm.Alike U.vm) (h : vx_Zq C n d A u H) : vx_Zq C n d A U H := ⟨va_Zq.moved hvm h.1, vx_L.moved hvm h.2⟩
theorem vx_Zq.kept {C n d : String} {A : Nat → Prop} {U : State} {H H1 : Heap} (h : vx_Zq C n d A U H) (hq : ∀ a : Nat, a < H.size → ¬ A a → H1[a]? = H[a]?) : vx_Zq C n d A U H1 := ⟨va_Zq.kept h.1 hq, vx_L.kept h.2 hq⟩
theorem vx_Zq.narrow {C n d : String} {A B : Nat → Prop} {U : State} {H : Heap} (h : vx_Zq C n d A U H) (hAB : ∀ q, B q → A q) : vx_Zq C n d B U H := ⟨va_Zq.narrow h.1 hAB, vx_L.narrow h.2 hAB⟩
theorem vx_Zqof {args : Array Value} {s : State} {C n d : String} {A : Nat → Prop} (hl : (Cond.laysStatic C n d).before args s = true) (hini : (Cond.initialized C).before args s = true) (h : (Cond.isRef (.static C n d)).before args s = true) (hA : ∀ a : Nat, a < s.heap.size → ¬ A a) : vx_Zq C n d A s s.heap := by
  refine ⟨va_Zqof hl hini h hA, ?_⟩
  obtain ⟨c, k, i, f, a, cell, h1, h2, h3, h4, h5, h6, h7, h8, h9⟩ := Cond.laysStatic_spec hl
  exact ⟨c, k, i, f, a, cell, h1, h2, h3, h4, h5, h6, h7, h8, h9, hA a (Array.getElem?_eq_some_iff.mp h5).1⟩
theorem vx_isRef {C n d : String} {v : Value} {A : Nat → Prop} {s : State} {args : Array Value} (h : va_Z C n d v A s s.heap) (hv : v.isRef = true) : (Cond.isRef (.static C n d)).before args s = true := by
  obtain ⟨cf, kf, fi, f, a, cell, h1, h2, h3, h4, h5, h6, h7, -⟩ := h
  have he : (Term.static C n d).eval args s none [] s = some v := by
    simp [Term.eval, State.fieldNamed?, h1, h2, h4, h5, h6, h7]
  simp only [Cond.before, Cond.holds, Cond.value, he]
  cases v <;> simp_all [Value.isRef]
theorem vx_isRefq {C n d : String} {A : Nat → Prop} {s : State} {args : Array Value} (h : va_Zq C n d A s s.heap) : (Cond.isRef (.static C n d)).before args s = true := by
  rcases h with h | ⟨t, h⟩
  · exact vx_isRef h rfl
  · exact vx_isRef h rfl
theorem vx_rebase {T : State} (X : Stand p l e R s m args below meth c T locs cells slots) {R' : Room} (hf : R'.frames ≤ R.frames) (hl : R'.locals ≤ R.locals) (hc : cells + R'.cells ≤ R.cells) (hs : slots + R'.slots ≤ R.slots) :
    Stand p l e R' ((T.setVm s.vm).setFrames (.invoking m args :: below)) m args below meth c T [] 0 0 := by
  have htop : (T.setVm s.vm).topJava?.isSome := X.here.top
  have hF : ((T.setVm s.vm).setFrames (.invoking m args :: below)).frames = .invoking m args :: below := State.frames_setFrames _ (State.cur_lt_of_top htop)
  obtain ⟨g₀, hg0⟩ := Option.isSome_iff_exists.mp htop
  obtain ⟨r, hr⟩ := State.topJava?_eq_some.mp hg0
  have hl9 : e.platform.stackLimits (T.setVm s.vm).me = e.platform.stackLimits s.me := X.limits
  have hb9 : (T.setVm s.vm).me.stackBytes = s.me.stackBytes := X.bytes
  refine ⟨X.admits, X.cas, X.clock, hF, ?_, X.hears, X.method, X.code, X.here, X.tail, X.warmed, ?_, ?_, ?_⟩
  · have h := X.room
    have hU : ((T.setVm s.vm).setFrames (.invoking m args :: below)).localsInUse = s.localsInUse := by
      rw [State.localsInUse_invoking hF (meth := meth) (c := c) X.method X.code, State.localsInUse_invoking X.frames X.method X.code]
    simp only [State.hasRoom, Bool.and_eq_true, decide_eq_true_eq] at h ⊢
    obtain ⟨⟨⟨⟨h1, h2, h3, h4, h5, h6⟩, h7⟩, h8⟩, h9⟩ := h
    rw [X.frames, List.length_cons] at h2 h3
    have q1 := X.heapSize
    have q2 := X.used
    simp only [hF, hU, List.length_cons, State.stackLimits_setFrames, State.stackBytes_setFrames, hl9, hb9]
    refine ⟨⟨⟨⟨by omega, by omega, by omega, by omega, by omega, h6⟩, ?_⟩, ?_⟩, X.book⟩
    · show T.heap.size + R'.cells ≤ e.platform.maxCells
      omega
    · show T.slotsUsed + R'.slots ≤ e.platform.maxSlots
      omega
  · rw [State.stackLimits_setFrames]; rfl
  · rw [State.stackBytes_setFrames]; rfl
  · refine ⟨?_, Nat.le_refl _, Nat.le_refl _, ?_, ?_, fun a c9 h9 => ⟨c9, h9, rfl, rfl, fun _ _ => rfl⟩⟩
    · obtain ⟨t, ht, -⟩ := State.frames_cons hr
      show T.setVm s.vm = { ((T.setVm s.vm).setFrames (.invoking m args :: below)).setFrames (T.setVm s.vm).frames with heap := T.heap, slotsUsed := T.slotsUsed }
      rw [State.setFrames_setFrames, State.setFrames_self ht]
      rfl
    · show T.slotsUsed = T.slotsUsed + ((T.heap.toList.drop T.heap.size).map (·.slots.size)).sum
      rw [List.drop_eq_nil_of_le (Nat.le_of_eq Array.length_toList)]
      rfl
    · show ((T.heap.toList.drop T.heap.size).map (·.slots.size)).sum ≤ 0
      rw [List.drop_eq_nil_of_le (Nat.le_of_eq Array.length_toList)]
      exact Nat.le_refl _
theorem vx_throw0 {cc : ByteArray} {pc : Nat} (hexec : p.tables.exec = Jvm.exec) (hb : c.code = cc) (hl : l.stackTraces = false) {own cls : String} {names : List String} {ik ic mc ms : Nat} {A : Nat → Prop}
    (hown : s.vm.findClass own = some m.cls) (hcls : Bundle.fit cls = true) (hnames : ∀ n ∈ names, Bundle.fit n = true)
    (hk : (Cond.classLink own ik cls).before args s = true) (hini : (Cond.initialized cls).before args s = true) (hat : ∀ w ∈ vx_at0 own ic cls names, w.before args s = true)
    (hgood : ∀ w ∈ Cond.classLink own ik cls :: Cond.initialized cls :: vx_at0 own ic cls names, vx_ot w = true)
    (hU : vx_Zq Bundle.tN "UNASSIGNED_STACK" Bundle.steD A s s.heap) (hN : vx_Zq Bundle.tN "SUPPRESSED_SENTINEL" Bundle.listD A s s.heap) (hS : va_S A s.heap H locs) (hsize : ls.size = c.maxLocals)
    (d0 : decode cc pc = .ok (.new ik, 3)) (d3 : decode cc (pc + 3) = .ok (.dup, 1)) (d4 : decode cc (pc + 4) = .ok (.invokespecial ic, 3)) (d7 : decode cc (pc + 7) = .ok (.athrow, 1))
    (hout : ∀ x ∈ c.exceptionTable.toList, covers x (pc + 7) = false)
    (hRframes : names.length + 3 < R.frames) (hRlocals : (rest.map fun v => v.category).sum + (13 * (names.length + 1) + 42) ≤ R.locals) (hRcells : cells + 1 ≤ R.cells) (hRslots : slots + 6 ≤ R.slots) (hlocks : meth.locks = false)
    (hx : ∀ t : State, s.vm.Alike t.vm → H.size ≤ t.heap.size → (∀ q : Nat, q < H.size → t.heap[q]? = H[q]?) → XC cls s t)
    (hf : ∀ z ∈ locs, free z.base) (hc : cells + 1 ≤ mc) (hs : slots + 6 ≤ ms) :
    W p l e R s m args below meth c H locs cells slots (vx_MQ below Qc XC args s mc ms free) (F0 m pc ls rest) := by
  intro T hT X
  have htr : e.platform.stackTraces = false := (show e.platform.stackTraces = l.stackTraces by rw [X.admits.platform]).trans hl
  have Y := vx_rebase X (R' := { frames := R.frames, locals := R.locals, cells := 1, slots := 6 }) (Nat.le_refl _) (Nat.le_refl _) hRcells hRslots
  obtain ⟨s', hA⟩ : ∃ z, z = (T.setVm s.vm).setFrames (.invoking m args :: below) := ⟨_, rfl⟩
  rw [← hA] at Y
  have hvm : s'.vm = s.vm := by rw [hA]; rfl
  have hhp : s'.heap = H := by rw [hA]; exact hT
  have hW0 : s.WarmedH s'.vm := by rw [hvm]; exact State.WarmedH.refl s
  have hat' : ∀ w ∈ vx_at0 own ic cls names, w.before args s' = true := fun w hw => vx_ot_at hW0 hvm.symm (hgood w (List.mem_cons_of_mem _ (List.mem_cons_of_mem _ hw))) (hat w hw)
  have hk' : (Cond.classLink own ik cls).before args s' = true := vx_ot_at hW0 hvm.symm (hgood _ List.mem_cons_self) hk
  have hini' : (Cond.initialized cls).before args s' = true := vx_ot_at hW0 hvm.symm (hgood _ (List.mem_cons_of_mem _ List.mem_cons_self)) hini
  have hU' : vx_Zq Bundle.tN "UNASSIGNED_STACK" Bundle.steD A s' s'.heap := by rw [hhp]; exact vx_Zq.moved hW0.alike (hU.kept hS.2.1)
  have hN' : vx_Zq Bundle.tN "SUPPRESSED_SENTINEL" Bundle.listD A s' s'.heap := by rw [hhp]; exact vx_Zq.moved hW0.alike (hN.kept hS.2.1)
  have h : ∀ w ∈ Bundle.ownAtoms0 own ic cls names, w.before args s' = true := vx_own hat' (vx_isRefq hU'.1) (vx_isRefq hN'.1) hU'.2.word hN'.2.word
  have hown' : s'.vm.findClass own = some m.cls := by rw [hvm]; exact hown
  have hins : (Cond.instantiable cls 6).before args s' = true := h _ (by simp [Bundle.ownAtoms0])
  obtain ⟨vm₁, cX, kX, hfX, hkX, -, -, X₁, st1⟩ := Y.newCold hexec (own := own) (C := cls) (index := ik) (n := 6) hown' hk' hins hini'
    (g := F0 m pc ls rest) rfl (by rw [hb]; exact d0) (Nat.le_refl _) (Nat.le_refl _)
  generalize hT1 : (T.setVm vm₁).pushCell { cls := cX, slots := kX.instanceTypes.map defaultValue, vm := .none } = T1 at X₁ st1
  have hcat : (Value.ref T.heap.size).category = 1 := rfl
  have hcellA : T1.heap[T.heap.size]? = some (freshCell cX kX) := by rw [← hT1]; exact State.heap_pushCell_size _ _
  have d3' : decode c.code (pc + 3) = .ok (.dup, 1) := by rw [hb]; exact d3
  obtain ⟨U, hsteps, hrun, hend, hW, hsame, ce, hce, hO⟩ := X₁.ctorThrow0 hexec htr (own := own) (cls := cls) (names := names) (ic := ic) hown' hcls hnames h (fun x hx => nomatch hx) hfX hkX hcellA (by rw [hhp, hT]; exact Nat.le_refl _)
    (g := { method := m, pc := pc + 4, locals := ls, stack := .ref T.heap.size :: .ref T.heap.size :: rest, locked := none }) rfl hsize rfl rfl (rest := rest) rfl
    (by rw [hb]; exact d4) (by rw [hb]; exact d7) hout hRframes (by simp only [List.map_cons, List.sum_cons, hcat]; omega) hlocks
  obtain ⟨f1, f2⟩ := vx_frame hsame
  rw [hhp] at f1 f2
  have hWs : s.WarmedH U.vm := State.WarmedH.trans hW0 hW
  have hcl : s.vm.findClass cls = some ce.cls := by
    have h9 := hO.cls
    rw [hvm] at h9
    exact h9
  have hall : s.sameButNew ({ U with vm := s.vm } : State) locs mc ms := by
    subst hA
    obtain ⟨e1, e2⟩ := hsame
    rw [State.setFrames_setFrames] at e1
    have h2 : (T.setVm s.vm).sameButNew ({ U with vm := s.vm } : State) [] (0 + 1) (0 + 6) := ⟨e1, e2⟩
    have h3 := X.same.trans h2
    rw [List.append_nil] at h3
    exact h3.mono hc hs
  refine ⟨U, ?_, .threw T.heap.size, hrun, hend, Or.inr ⟨T.heap.size, rfl, cls, ce, locs, hx U hWs.alike f1 (fun q hq => f2 q hq (fun z hz => nomatch hz)), hce, hO.vm, hcl, hWs, hall, hf⟩⟩
  refine st1 _ ?_
  show Steps p.tables e below (T1.setTop { method := m, pc := pc + 3, locals := ls, stack := .ref T.heap.size :: rest, locked := none }) _
  jvm_step X₁.here [X₁.here.top, hexec, d3', Value.category]
  exact hsteps
theorem vx_throwS {cc : ByteArray} {pc : Nat} (hexec : p.tables.exec = Jvm.exec) (hb : c.code = cc) (hl : l.stackTraces = false) {own cls text : String} {names : List String} {ik is ic mc ms sa : Nat} {A : Nat → Prop}
    (hown : s.vm.findClass own = some m.cls) (hcls : Bundle.fit cls = true) (hnames : ∀ n ∈ names, Bundle.fit n = true)
    (hk : (Cond.classLink own ik cls).before args s = true) (hini : (Cond.initialized cls).before args s = true) (hstr : vk_R own is text sa s) (hat : ∀ w ∈ vx_atS own ic cls names, w.before args s = true)
    (hgood : ∀ w ∈ Cond.classLink own ik cls :: Cond.initialized cls :: vx_atS own ic cls names, vx_ot w = true)
    (hU : vx_Zq Bundle.tN "UNASSIGNED_STACK" Bundle.steD A s s.heap) (hN : vx_Zq Bundle.tN "SUPPRESSED_SENTINEL" Bundle.listD A s s.heap) (hS : va_S A s.heap H locs) (hsize : ls.size = c.maxLocals)
    (d0 : decode cc pc = .ok (.new ik, 3)) (d3 : decode cc (pc + 3) = .ok (.dup, 1)) (d4 : decode cc (pc + 4) = .ok (.ldc is, 2)) (d6 : decode cc (pc + 6) = .ok (.invokespecial ic, 3)) (d9 : decode cc (pc + 9) = .ok (.athrow, 1))
    (hout : ∀ x ∈ c.exceptionTable.toList, covers x (pc + 9) = false)
    (hRframes : names.length + 3 < R.frames) (hRlocals : (rest.map fun v => v.category).sum + (13 * (names.length + 1) + 43) ≤ R.locals) (hRcells : cells + 1 ≤ R.cells) (hRslots : slots + 6 ≤ R.slots) (hlocks : meth.locks = false)
    (hx : ∀ t : State, s.vm.Alike t.vm → H.size ≤ t.heap.size → (∀ q : Nat, q < H.size → t.heap[q]? = H[q]?) → XC cls s t)
    (hf : ∀ z ∈ locs, free z.base) (hc : cells + 1 ≤ mc) (hs : slots + 6 ≤ ms) :
    W p l e R s m args below meth c H locs cells slots (vx_MQ below Qc XC args s mc ms free) (F0 m pc ls rest) := by
  intro T hT X
  have htr : e.platform.stackTraces = false := (show e.platform.stackTraces = l.stackTraces by rw [X.admits.platform]).trans hl
  have Y := vx_rebase X (R' := { frames := R.frames, locals := R.locals, cells := 1, slots := 6 }) (Nat.le_refl _) (Nat.le_refl _) hRcells hRslots
  obtain ⟨s', hA⟩ : ∃ z, z = (T.setVm s.vm).setFrames (.invoking m args :: below) := ⟨_, rfl⟩
  rw [← hA] at Y
  have hvm : s'.vm = s.vm := by rw [hA]; rfl
  have hhp : s'.heap = H := by rw [hA]; exact hT
  have hW0 : s.WarmedH s'.vm := by rw [hvm]; exact State.WarmedH.refl s
  have hat' : ∀ w ∈ vx_atS own ic cls names, w.before args s' = true := fun w hw => vx_ot_at hW0 hvm.symm (hgood w (List.mem_cons_of_mem _ (List.mem_cons_of_mem _ hw))) (hat w hw)
  have hk' : (Cond.classLink own ik cls).before args s' = true := vx_ot_at hW0 hvm.symm (hgood _ List.mem_cons_self) hk
  have hini' : (Cond.initialized cls).before args s' = true := vx_ot_at hW0 hvm.symm (hgood _ (List.mem_cons_of_mem _ List.mem_cons_self)) hini
  have hU' : vx_Zq Bundle.tN "UNASSIGNED_STACK" Bundle.steD A s' s'.heap := by rw [hhp]; exact vx_Zq.moved hW0.alike (hU.kept hS.2.1)
  have hN' : vx_Zq Bundle.tN "SUPPRESSED_SENTINEL" Bundle.listD A s' s'.heap := by rw [hhp]; exact vx_Zq.moved hW0.alike (hN.kept hS.2.1)
  have h : ∀ w ∈ Bundle.ownAtoms own ic cls names, w.before args s' = true := vx_own hat' (vx_isRefq hU'.1) (vx_isRefq hN'.1) hU'.2.word hN'.2.word
  have hown' : s'.vm.findClass own = some m.cls := by rw [hvm]; exact hown
  have hins : (Cond.instantiable cls 6).before args s' = true := h _ (by simp [Bundle.ownAtoms])
  obtain ⟨vm₁, cX, kX, hfX, hkX, -, -, X₁, st1⟩ := Y.newCold hexec (own := own) (C := cls) (index := ik) (n := 6) hown' hk' hins hini'
    (g := F0 m pc ls rest) rfl (by rw [hb]; exact d0) (Nat.le_refl _) (Nat.le_refl _)
  generalize hT1 : (T.setVm vm₁).pushCell { cls := cX, slots := kX.instanceTypes.map defaultValue, vm := .none } = T1 at X₁ st1
  have hcat : (Value.ref T.heap.size).category = 1 := rfl
  have hcellA : T1.heap[T.heap.size]? = some (freshCell cX kX) := by rw [← hT1]; exact State.heap_pushCell_size _ _
  have d3' : decode c.code (pc + 3) = .ok (.dup, 1) := by rw [hb]; exact d3
  have d4' : decode c.code (pc + 4) = .ok (.ldc is, 2) := by rw [hb]; exact d4
  have hstr' : vk_R own is text sa s' := vk_R.warm hW0 hstr
  obtain ⟨U, hsteps, hrun, hend, hW, hsame, ce, hce, hO⟩ := X₁.ctorThrowS hexec htr (own := own) (cls := cls) (names := names) (ic := ic) hown' hcls hnames h (fun x hx => nomatch hx) hfX hkX hcellA (by rw [hhp, hT]; exact Nat.le_refl _) (msg := .ref sa) rfl
    (g := { method := m, pc := pc + 6, locals := ls, stack := .ref sa :: .ref T.heap.size :: .ref T.heap.size :: rest, locked := none }) rfl hsize rfl rfl (rest := rest) rfl
    (by rw [hb]; exact d6) (by rw [hb]; exact d9) hout hRframes (by simp only [List.map_cons, List.sum_cons, hcat]; omega) hlocks
  obtain ⟨f1, f2⟩ := vx_frame hsame
  rw [hhp] at f1 f2
  have hWs : s.WarmedH U.vm := State.WarmedH.trans hW0 hW
  have hcl : s.vm.findClass cls = some ce.cls := by
    have h9 := hO.cls
    rw [hvm] at h9
    exact h9
  have hall : s.sameButNew ({ U with vm := s.vm } : State) locs mc ms := by
    subst hA
    obtain ⟨e1, e2⟩ := hsame
    rw [State.setFrames_setFrames] at e1
    have h2 : (T.setVm s.vm).sameButNew ({ U with vm := s.vm } : State) [] (0 + 1) (0 + 6) := ⟨e1, e2⟩
    have h3 := X.same.trans h2
    rw [List.append_nil] at h3
    exact h3.mono hc hs
  refine ⟨U, ?_, .threw T.heap.size, hrun, hend, Or.inr ⟨T.heap.size, rfl, cls, ce, locs, hx U hWs.alike f1 (fun q hq => f2 q hq (fun z hz => nomatch hz)), hce, hO.vm, hcl, hWs, hall, hf⟩⟩
  refine st1 _ ?_
  show Steps p.tables e below (T1.setTop { method := m, pc := pc + 3, locals := ls, stack := .ref T.heap.size :: rest, locked := none }) _
  jvm_step X₁.here [X₁.here.top, hexec, d3', Value.category]
  exact X₁.ldcString hexec (own := own) (text := text) (index := is) (a := sa) hown' hstr'.1 hstr'.2
    (g := { method := m, pc := pc + 4, locals := ls, stack := .ref T.heap.size :: .ref T.heap.size :: rest, locked := none }) rfl d4' _ hsteps
theorem vx_throwSW {cc : ByteArray} {pc : Nat} (hexec : p.tables.exec = Jvm.exec) (hb : c.code = cc) (hl : l.stackTraces = false) {own cls text : String} {names : List String} {ik is ic mc ms sa : Nat} {A : Nat → Prop}
    (hown : s.vm.findClass own = some m.cls) (hcls : Bundle.fit cls = true) (hnames : ∀ n ∈ names, Bundle.fit n = true)
    (hk : (Cond.classLink own ik cls).before args s = true) (hini : (Cond.initialized cls).before args s = true) (hstr : vk_R own is text sa s) (hat : ∀ w ∈ vx_atS own ic cls names, w.before args s = true)
    (hgood : ∀ w ∈ Cond.classLink own ik cls :: Cond.initialized cls :: vx_atS own ic cls names, vx_ot w = true)
    (hU : vx_Zq Bundle.tN "UNASSIGNED_STACK" Bundle.steD A s s.heap) (hN : vx_Zq Bundle.tN "SUPPRESSED_SENTINEL" Bundle.listD A s s.heap) (hS : va_S A s.heap H locs) (hsize : ls.size = c.maxLocals)
    (d0 : decode cc pc = .ok (.new ik, 3)) (d3 : decode cc (pc + 3) = .ok (.dup, 1)) (d4 : decode cc (pc + 4) = .ok (.ldc_w is, 3)) (d7 : decode cc (pc + 7) = .ok (.invokespecial ic, 3)) (d10 : decode cc (pc + 10) = .ok (.athrow, 1))
    (hout : ∀ x ∈ c.exceptionTable.toList, covers x (pc + 10) = false)
    (hRframes : names.length + 3 < R.frames) (hRlocals : (rest.map fun v => v.category).sum + (13 * (names.length + 1) + 43) ≤ R.locals) (hRcells : cells + 1 ≤ R.cells) (hRslots : slots + 6 ≤ R.slots) (hlocks : meth.locks = false)
    (hx : ∀ t : State, s.vm.Alike t.vm → H.size ≤ t.heap.size → (∀ q : Nat, q < H.size → t.heap[q]? = H[q]?) → XC cls s t)
    (hf : ∀ z ∈ locs, free z.base) (hc : cells + 1 ≤ mc) (hs : slots + 6 ≤ ms) :
    W p l e R s m args below meth c H locs cells slots (vx_MQ below Qc XC args s mc ms free) (F0 m pc ls rest) := by
  intro T hT X
  have htr : e.platform.stackTraces = false := (show e.platform.stackTraces = l.stackTraces by rw [X.admits.platform]).trans hl
  have Y := vx_rebase X (R' := { frames := R.frames, locals := R.locals, cells := 1, slots := 6 }) (Nat.le_refl _) (Nat.le_refl _) hRcells hRslots
  obtain ⟨s', hA⟩ : ∃ z, z = (T.setVm s.vm).setFrames (.invoking m args :: below) := ⟨_, rfl⟩
  rw [← hA] at Y
  have hvm : s'.vm = s.vm := by rw [hA]; rfl
  have hhp : s'.heap = H := by rw [hA]; exact hT
  have hW0 : s.WarmedH s'.vm := by rw [hvm]; exact State.WarmedH.refl s
  have hat' : ∀ w ∈ vx_atS own ic cls names, w.before args s' = true := fun w hw => vx_ot_at hW0 hvm.symm (hgood w (List.mem_cons_of_mem _ (List.mem_cons_of_mem _ hw))) (hat w hw)
  have hk' : (Cond.classLink own ik cls).before args s' = true := vx_ot_at hW0 hvm.symm (hgood _ List.mem_cons_self) hk
  have hini' : (Cond.initialized cls).before args s' = true := vx_ot_at hW0 hvm.symm (hgood _ (List.mem_cons_of_mem _ List.mem_cons_self)) hini
  have hU' : vx_Zq Bundle.tN "UNASSIGNED_STACK" Bundle.steD A s' s'.heap := by rw [hhp]; exact vx_Zq.moved hW0.alike (hU.kept hS.2.1)
  have hN' : vx_Zq Bundle.tN "SUPPRESSED_SENTINEL" Bundle.listD A s' s'.heap := by rw [hhp]; exact vx_Zq.moved hW0.alike (hN.kept hS.2.1)
  have h : ∀ w ∈ Bundle.ownAtoms own ic cls names, w.before args s' = true := vx_own hat' (vx_isRefq hU'.1) (vx_isRefq hN'.1) hU'.2.word hN'.2.word
  have hown' : s'.vm.findClass own = some m.cls := by rw [hvm]; exact hown
  have hins : (Cond.instantiable cls 6).before args s' = true := h _ (by simp [Bundle.ownAtoms])
  obtain ⟨vm₁, cX, kX, hfX, hkX, -, -, X₁, st1⟩ := Y.newCold hexec (own := own) (C := cls) (index := ik) (n := 6) hown' hk' hins hini'
    (g := F0 m pc ls rest) rfl (by rw [hb]; exact d0) (Nat.le_refl _) (Nat.le_refl _)
  generalize hT1 : (T.setVm vm₁).pushCell { cls := cX, slots := kX.instanceTypes.map defaultValue, vm := .none } = T1 at X₁ st1
  have hcat : (Value.ref T.heap.size).category = 1 := rfl
  have hcellA : T1.heap[T.heap.size]? = some (freshCell cX kX) := by rw [← hT1]; exact State.heap_pushCell_size _ _
  have d3' : decode c.code (pc + 3) = .ok (.dup, 1) := by rw [hb]; exact d3
  have d4' : decode c.code (pc + 4) = .ok (.ldc_w is, 3) := by rw [hb]; exact d4
  have hstr' : vk_R own is text sa s' := vk_R.warm hW0 hstr
  obtain ⟨U, hsteps, hrun, hend, hW, hsame, ce, hce, hO⟩ := X₁.ctorThrowS hexec htr (own := own) (cls := cls) (names := names) (ic := ic) hown' hcls hnames h (fun x hx => nomatch hx) hfX hkX hcellA (by rw [hhp, hT]; exact Nat.le_refl _) (msg := .ref sa) rfl
    (g := { method := m, pc := pc + 7, locals := ls, stack := .ref sa :: .ref T.heap.size :: .ref T.heap.size :: rest, locked := none }) rfl hsize rfl rfl (rest := rest) rfl
    (by rw [hb]; exact d7) (by rw [hb]; exact d10) hout hRframes (by simp only [List.map_cons, List.sum_cons, hcat]; omega) hlocks
  obtain ⟨f1, f2⟩ := vx_frame hsame
  rw [hhp] at f1 f2
  have hWs : s.WarmedH U.vm := State.WarmedH.trans hW0 hW
  have hcl : s.vm.findClass cls = some ce.cls := by
    have h9 := hO.cls
    rw [hvm] at h9
    exact h9
  have hall : s.sameButNew ({ U with vm := s.vm } : State) locs mc ms := by
    subst hA
    obtain ⟨e1, e2⟩ := hsame
    rw [State.setFrames_setFrames] at e1
    have h2 : (T.setVm s.vm).sameButNew ({ U with vm := s.vm } : State) [] (0 + 1) (0 + 6) := ⟨e1, e2⟩
    have h3 := X.same.trans h2
    rw [List.append_nil] at h3
    exact h3.mono hc hs
  refine ⟨U, ?_, .threw T.heap.size, hrun, hend, Or.inr ⟨T.heap.size, rfl, cls, ce, locs, hx U hWs.alike f1 (fun q hq => f2 q hq (fun z hz => nomatch hz)), hce, hO.vm, hcl, hWs, hall, hf⟩⟩
  refine st1 _ ?_
  show Steps p.tables e below (T1.setTop { method := m, pc := pc + 3, locals := ls, stack := .ref T.heap.size :: rest, locked := none }) _
  jvm_step X₁.here [X₁.here.top, hexec, d3', Value.category]
  exact X₁.ldcStringW hexec (own := own) (text := text) (index := is) (a := sa) hown' hstr'.1 hstr'.2
    (g := { method := m, pc := pc + 4, locals := ls, stack := .ref T.heap.size :: .ref T.heap.size :: rest, locked := none }) rfl d4' _ hsteps
end Ends
section Bodies
variable {l : Launch}
theorem vx_ofW {y : MethodName} {ws ws' : List Cond} {rm : Room} {Pc : Array Value → State → Prop} {Qc : Array Value → State → Outcome → State → Prop} {XC : String → State → State → Prop} {mc ms : Nat} {free : Addr → Prop} {cc : ByteArray} {maxL : Nat} {ret : Option FieldType}
    (hy : plainName y.cls = true) (hw : ws = Cond.code y cc maxL ret :: ws')
    (body : ∀ p e s m args below meth c s₁, BodyLoose p l y (headSpec ws rm) cc maxL ret e s m args below meth c s₁ → c.maxLocals = maxL → (∀ x ∈ c.exceptionTable.toList, False) → Pc args s →
      W p l e (headSpec ws rm).room s m args below meth c s.heap [] 0 0 (vx_MQ below Qc XC args s mc ms free) (entryFrame m args maxL)) : vx_Met l y ws rm Pc Qc XC mc ms free := by
  refine MetFree.of_bodyS (code := cc) (maxLocals := maxL) (ret := ret) hy ?_ ?_
  · intro args s m h hn
    obtain ⟨meth, c, h1, h2, h3, h4, h5, h6, -, -⟩ := Cond.code_spec hn (atoms_spec (ws := ws) h _ (by rw [hw]; exact List.mem_cons_self))
    exact ⟨meth, c, h1, h2, h3, h4, h5, h6⟩
  · intro p e s m args below meth c s₁ B hml hP _
    have hh0 : s₁.heap = s.heap := by rw [B.state]; rfl
    have ht : ∀ x ∈ c.exceptionTable.toList, False := by
      obtain ⟨meth9, c9, h1, h2, -, -, -, -, h7, -⟩ := Cond.code_spec B.named (atoms_spec (ws := ws) B.pre _ (by rw [hw]; exact List.mem_cons_self))
      cases Option.some.inj (h1.symm.trans B.method)
      cases Option.some.inj (h2.symm.trans (Stand.of_body B).code)
      intro x hx
      rw [Array.isEmpty_iff.mp h7] at hx
      cases hx
    obtain ⟨t, a1, o, b1, b2, b3⟩ := body p e s m args below meth c s₁ B hml ht hP s₁ hh0 (Stand.of_body B)
    exact ⟨t, o, a1, b1, b2, b3⟩
theorem vx_table {p : Program} {x y : MethodName} {S : Spec} {cc bytes : ByteArray} {maxL maxL' : Nat} {ret ret' : Option FieldType} {e : Env} {s s₁ : State} {m : MethodId} {args : Array Value} {below : List Frame} {meth : Method} {c : Code} {hh : List (Nat × Nat × Nat × Nat)}
    (B : BodyLoose p l y S cc maxL ret e s m args below meth c s₁) (h : (Cond.codeWith y bytes maxL' ret' hh).before args s = true) : c.exceptionTable.toList = tableOf hh := by
  obtain ⟨m9, meth9, c9, hn9, h1, h2, -, -, h6, -⟩ := Cond.codeWith_spec h
  cases Option.some.inj (hn9.symm.trans B.named)
  cases Option.some.inj (h1.symm.trans B.method)
  cases Option.some.inj (h2.symm.trans (Stand.of_body B).code)
  rw [← h6, table_eq]
end Bodies
end VXA
section VXS
variable {p : Program} {l : Launch} {e : Env} {R : Room} {s : State} {m : MethodId} {args : Array Value} {below : List Frame} {meth : Method} {c : Code} {T : State} {H : Heap} {locs : List Loc} {cells slots : Nat}
abbrev vx_CSW (R : Room) (s : State) (args : Array Value) (own : String) (index : Nat) (y : MethodName) (bytes : ByteArray) (maxL : Nat) (ret : Option FieldType) (hh : List (Nat × Nat × Nat × Nat)) (ws : List Cond) (rm : Room) (mc ms n : Nat) : Prop :=
  (rm.cells = mc ∧ rm.slots = ms ∧ rm.frames + 1 ≤ R.frames ∧ 8 + (maxL + 11) + rm.locals ≤ R.locals ∧ (∀ w ∈ ws, ∀ (a' : Array Value) (U : State), s.WarmedH U.vm → w.before a' U = true) ∧ Cond.codeWith y bytes maxL ret hh ∈ ws) ∧
  (Cond.codeWith y bytes maxL ret hh).before args s = true ∧ (Cond.initialized y.cls).before args s = true ∧ (y.cls ≠ "java/lang/invoke/MethodHandle" ∧ y.cls ≠ "java/lang/invoke/VarHandle") ∧
  (∀ sig, parseMethodDescriptor y.desc = some sig → n = sig.parameters.length) ∧ (Cond.methodLink own index y).before args s = true ∧ (Cond.static y).before args s = true
theorem vx_cwSW {own : String} {index maxL mc ms : Nat} {y : MethodName} {bytes : ByteArray} {ret : Option FieldType} {hh : List (Nat × Nat × Nat × Nat)} {Ts ws ws' : List Cond} {rm : Room} (n : Nat) (ht : ∀ w ∈ Ts, w.before args s = true) (hT : GoodIn Ts (va_wsS own index y ws)) (hw : ws = Cond.codeWith y bytes maxL ret hh :: ws') (hrc : rm.cells = mc) (hrs : rm.slots = ms)
    (hd : y.cls ≠ "java/lang/invoke/MethodHandle" ∧ y.cls ≠ "java/lang/invoke/VarHandle" ∧ (parseMethodDescriptor y.desc).map (fun d => d.parameters.length) = some n) (hR : rm.frames + 1 ≤ R.frames ∧ 8 + (maxL + 11) + rm.locals ≤ R.locals) :
    vx_CSW R s args own index y bytes maxL ret hh ws rm mc ms n := by
  have ok : ∀ w ∈ va_wsS own index y ws, w.before args s = true := fun w h => ht w (hT w h).1
  have hG : GoodIn Ts ws := fun w h => hT w (by unfold va_wsS; exact List.mem_append_right _ h)
  have hc : Cond.codeWith y bytes maxL ret hh ∈ ws := by rw [hw]; exact List.mem_cons_self
  refine ⟨⟨hrc, hrs, hR.1, hR.2, pay_in ht hG, hc⟩, ht _ (hG _ hc).1, ok _ (by simp [va_wsS]), ⟨hd.1, hd.2.1⟩, fun sig h => ?_, ok _ (by simp [va_wsS]), ok _ (by simp [va_wsS])⟩
  have h2 := hd.2.2
  rw [h] at h2
  exact (Option.some.inj h2).symm
theorem vx_callSW (X : Stand p l e R s m args below meth c T locs cells slots) (hexec : p.tables.exec = Jvm.exec) {own : String} {index : Nat} {y : MethodName} {bytes : ByteArray} {maxL : Nat} {ret : Option FieldType} {hh : List (Nat × Nat × Nat × Nat)}
    (hown : s.vm.findClass own = some m.cls) (hlink : (Cond.methodLink own index y).before args s = true) (hstat : (Cond.static y).before args s = true) (hinit : (Cond.initialized y.cls).before args s = true)
    (hcode : (Cond.codeWith y bytes maxL ret hh).before args s = true) (hy : y.cls ≠ "java/lang/invoke/MethodHandle" ∧ y.cls ≠ "java/lang/invoke/VarHandle")
    {W9 : Nat} {Pre : Pt → Array Value → Prop} {Post : Pt → Array Value → Option Value → Pt → Prop} (hK : Back l R p e below s args y 3 W9 Pre Post)
    {g : JFrame} (hg : g.method = m) (hsize : g.locals.size = c.maxLocals) {argsL rest : List Value} (hlen : ∀ sig, parseMethodDescriptor y.desc = some sig → argsL.length = sig.parameters.length)
    (hstack : g.stack = argsL.reverse ++ rest) (hW : 2 * g.monitorRoom + (rest.map fun v => v.category).sum ≤ W9) (hdg : decode c.code g.pc = .ok (.invokestatic index, 3))
    (hpre : ∀ vm₁, s.WarmedH vm₁ → Pre ⟨T.setVm vm₁, locs, cells, slots⟩ argsL.toArray) :
    ∃ (v : Option Value) (vm₁ : Vm) (B : Pt), s.WarmedH vm₁ ∧ Stand p l e R s m args below meth c B.U B.locs B.cells B.slots ∧ Post ⟨T.setVm vm₁, locs, cells, slots⟩ argsL.toArray v B ∧
      ∀ target, Steps p.tables e below (B.U.setTop { g with pc := g.pc + 3, stack := v.toList ++ rest }) target → Steps p.tables e below (T.setTop g) target := by
  obtain ⟨mk, methM, cM, hnamed, hmethM, -, -, -, -, -, -, hsigM⟩ := Cond.codeWith_spec hcode
  have hstatic : methM.isStatic = true := Cond.static_spec hnamed hmethM hstat
  obtain ⟨kP, hkP, -⟩ := className_of_methodNamed hnamed
  have hinitP : kP.init = .initialized := Cond.initialized_spec (findClass_of_methodNamed hnamed) hkP hinit
  obtain ⟨vm₁, X₁, hstep₁⟩ := X.invokestatic hexec hown hlink hnamed hmethM hstatic hkP hinitP hy (g := g) hg (argsL := argsL) (rest := rest) (hlen _ hsigM) hstack hdg
  obtain ⟨v, B, X', hpost, hsteps⟩ := hK m meth c ⟨T.setVm vm₁, locs, cells, slots⟩ { g with stack := rest } (.invokestatic index) mk argsL.toArray X₁ hg hsize hdg hW (X₁.named hnamed) (hpre vm₁ X₁.warmed)
  exact ⟨v, vm₁, B, X₁.warmed, X', hpost, fun target h => hstep₁ _ fun acts => by rw [doInvoke_state]; exact hsteps.trans h⟩
theorem vx_runSW {y : MethodName} {bytes cc : ByteArray} {maxL nL mc ms n index : Nat} {ret : Option FieldType} {hh : List (Nat × Nat × Nat × Nat)} {ws : List Cond} {rm : Room} {Pc : Array Value → State → Prop} {Qc : Array Value → State → Outcome → State → Prop} {free : Addr → Prop} {Ts : List Cond} {own : String} {As rest : List Value} {g : JFrame}
    (S : CallFix p m c cc nL s args Ts own) (hM : Met l y ws rm Pc Qc mc ms free) (cw : vx_CSW R s args own index y bytes maxL ret hh ws rm mc ms n) (hp : PreS s H Pc As)
    (hg : g.method = m) (hn : As.length = n) (hsize : g.locals.size = nL) (hstack : g.stack = As.reverse ++ rest) (hW : 2 * g.monitorRoom + (rest.map fun v => v.category).sum ≤ 8) (hdg : decode cc g.pc = .ok (.invokestatic index, 3)) (hf : cells + mc ≤ R.cells ∧ slots + ms ≤ R.slots) :
    va_Run p l e R s m args below meth c H locs cells slots mc ms g rest (Qc As.toArray) (free) := by
  obtain ⟨⟨hrc, hrs, hfr, hlo, hws, hcw⟩, hcode, hini, hy, hlen, hl, hstt⟩ := cw
  have hK : Back l R p e below s args y 3 8 (PreOf R mc ms Pc) (PostOf Qc mc ms free) := va_backW (hh := hh) (bytes := bytes) (maxL := maxL) (ret := ret) hM hp.1 hrc hrs hfr hlo hws hcw (fun a' U hW => word_at hW (Or.inl (by first | rfl | simp [Cond.onTables, Cond.keeps, Cond.steady])) hini)
  obtain ⟨hx, hb, hml, ho, -⟩ := S
  intro T hT X
  obtain ⟨v, vm₁, ⟨U', l2, c2, s2⟩, hW₁, X', ⟨g', mk, t, L, e1, e2, hq, h1, hL, h2, h3⟩, st⟩ := vx_callSW X hx (hh := hh) (bytes := bytes) (maxL := maxL) (ret := ret) ho hl hstt hini hcode hy hK hg (hsize.trans hml.symm) (argsL := As) (rest := rest) (fun sig h => hn.trans (hlen sig h)) hstack hW (by rw [hb]; exact hdg)
    (fun vm₁ hW₁ => ⟨hf.1, hf.2, hp.2 (T.setVm vm₁) hT hW₁⟩)
  dsimp only [Pt.U, Pt.locs, Pt.cells, Pt.slots] at X' e1 e2 h1 h2 h3 st
  subst h1; subst h2; subst h3
  exact ⟨v, (T.setVm vm₁).calling g' mk As.toArray, t, U', L, hT, X', hL, e1, e2, hq, st⟩
theorem vx_outP {p : Program} {l : Launch} {e : Env} {R : Room} {s : State} {m : MethodId} {args : Array Value} {below : List Frame} {meth : Method} {c : Code} {H : Heap} {locs : List Loc} {cells slots : Nat} {free : Addr → Prop} {ls : Array Slot} {rest : List Value} {Qc : Array Value → State → Outcome → State → Prop} {XC : String → State → State → Prop}
    {pc : Nat} {own E : String} {ce : Cell} {q : Addr} {mc ms : Nat} (hown : s.vm.findClass own = some m.cls) (hlocks : meth.locks = false)
    (hpass : ∀ z ∈ c.exceptionTable.toList, covers z pc = false ∨ (z.catchType ≠ 0 ∧ ∃ nm : String, (Cond.classLink own z.catchType nm).before args s = true ∧ va_Nc E nm s)) (hcell : H[q]? = some ce) (hv : ce.vm = .none) (hcl : s.vm.findClass E = some ce.cls)
    (hx : ∀ t : State, t.heap = H → s.vm.Alike t.vm → XC E s t) (hf : ∀ z ∈ locs, free z.base) (hc : cells ≤ mc) (hs : slots ≤ ms) :
    vx_W p l e R s m args below meth c H locs cells slots (vx_MQ below Qc XC args s mc ms free) (F0 m pc ls rest) q := by
  intro T hT X
  have hpl : e.platform.magicAccessors = ({} : Platform).magicAccessors := by rw [X.admits.platform]
  obtain ⟨vm', hW', X', st⟩ := X.outThrough hlocks q (g := F0 m pc ls rest) rfl rfl rfl (cell := ce) (by rw [hT]; exact hcell) (by rw [hv]; rfl)
    (by obtain ⟨k9, h9, -⟩ := Vm.findClass_spec hcl; exact ⟨k9, h9⟩) (fun z hz => by
      rcases hpass z hz with h | ⟨hz0, nm, hl1, hn1⟩
      · exact Or.inl h
      · obtain ⟨c6, hc6, hcl6⟩ := Cond.classLink_spec hown hl1 e.platform hpl
        obtain ⟨a8, b8, h1, h2, h3⟩ := hn1
        cases Option.some.inj (h1.symm.trans hcl)
        cases Option.some.inj (h2.symm.trans hc6)
        exact Or.inr ⟨hz0, _, hcl6, h3⟩)
  obtain ⟨g₀, hfr⟩ := X'.frames_eq
  have hcell9 : ((T.setVm vm').setFrames (.throwing q :: below)).heap[q]? = some ce := by
    show T.heap[q]? = some ce
    rw [hT]; exact hcell
  have hend : Ended ((T.setVm vm').setFrames (.throwing q :: below)) below (.threw q) := State.frames_setFrames _ (State.cur_lt_of_frames hfr)
  refine ⟨(T.setVm vm').setFrames (.throwing q :: below), ?_, .threw q, X'.here.running, hend, Or.inr ⟨q, rfl, E, ce, locs, hx _ hT (X'.ends _).1.alike, hcell9, hv, hcl, (X'.ends _).1, (X'.ends _).2.mono hc hs, hf⟩⟩
  rw [X.pushThrowing_eq]
  exact st
theorem vx_lt {D : va_G} {cl : List vw_C} {ws : va_W} {H1 : Heap} (h : va_P D cl ws H1) {k : Nat} {q : Nat × va_E} (hk : ws[k]? = some q) : q.1 < H1.size := (h k q hk).lt
end VXS
section VXH
section
variable {l : Launch} {R : Room} {p : Program} {e : Env} {below : List Frame} {s : State} {sargs : Array Value} {y : MethodName} {len W9 : Nat}
theorem vx_backW {ws : List Cond} {rm : Room} {Pc : Array Value → State → Prop} {Qc : Array Value → State → Outcome → State → Prop} {XC : String → State → State → Prop} {mc ms : Nat} {free : Addr → Prop} {bytes : ByteArray} {maxL : Nat} {ret : Option FieldType} {hh : List (Nat × Nat × Nat × Nat)}
    (hM : vx_Met l y ws rm Pc Qc XC mc ms free) (hblind : FrameBlind Pc) (hrc : rm.cells = mc) (hrs : rm.slots = ms)
    (hframes : rm.frames + 1 ≤ R.frames) (hlocals : W9 + (maxL + 11) + rm.locals ≤ R.locals)
    (hws : ∀ w ∈ ws, ∀ a' U, s.WarmedH U.vm → w.before a' U = true) (hcode : Cond.codeWith y bytes maxL ret hh ∈ ws) (hinit : ∀ a' U, s.WarmedH U.vm → (Cond.initialized y.cls).before a' U = true) :
    vx_Back l R p e below s sargs y len W9 (PreOf R mc ms Pc) (PostOf Qc mc ms free) (vx_Post XC mc ms free) := by
  intro m meth c A g ig mk a X hg hsize hdg hW hn hp
  have h1 : (headSpec ws rm).pre.before a A.U = true := atoms_intro fun w hw => hws w hw _ _ X.warmed
  have h2 : (Cond.codeWith y bytes maxL ret hh).before a A.U = true := hws _ hcode _ _ X.warmed
  have h3 : (Cond.initialized y.cls).before a A.U = true := hinit _ _ X.warmed
  have h4 : A.cells + (headSpec ws rm).room.cells ≤ R.cells := by rw [show (headSpec ws rm).room.cells = mc from hrc]; exact hp.1
  have h5 : A.slots + (headSpec ws rm).room.slots ≤ R.slots := by rw [show (headSpec ws rm).room.slots = ms from hrs]; exact hp.2.1
  have hPc : Pc a (A.U.calling g mk a) := hblind _ _ _ _ hp.2.2
  obtain ⟨U, Ls, c0, s0⟩ := A
  dsimp only [Pt.U, Pt.locs, Pt.cells, Pt.slots] at h1 h2 h3 h4 h5 X hn hPc ⊢
  obtain ⟨m9, methY, cY, hn9, hmY, hcY, -, hlY, -⟩ := Cond.codeWith_spec h2
  cases Option.some.inj (hn9.symm.trans hn)
  obtain ⟨kY, hkY, -⟩ := className_of_methodNamed hn
  have hinitY : kY.init = .initialized := Cond.initialized_spec (findClass_of_methodNamed hn) hkY h3
  have h : At U g.method c below := by rw [hg]; exact X.here
  have hlocals9 : W9 + (maxL + 11) + (headSpec ws rm).room.locals ≤ R.locals := hlocals
  have happ : (headSpec ws rm).appliesLoose y e.platform (U.calling g mk a) = true :=
    Spec.appliesLoose_calling (g := g) h hdg hn hkY hinitY
      (X.room_calling (g := g) (R' := (headSpec ws rm).room) hsize hmY hcY hframes (by rw [hlY]; omega) h4 h5) h1
  obtain ⟨mid, hmid⟩ := h.above
  have hfr : (U.setTop g).frames = (.java g :: mid) ++ below := by rw [State.frames_setTop' g h.top, hmid]; rfl
  obtain ⟨o, s₂, hsteps, -, hend, hq⟩ := Steps.callFree hM p X.admits X.cas X.clock (acts := []) hfr happ hPc trivial
  have hq' : vx_Q Qc XC mc ms free a (U.calling g mk a) o s₂ := hq
  rw [State.frames_setTop' g h.top] at hend
  obtain ⟨g₀, hg0⟩ := Option.isSome_iff_exists.mp h.top
  obtain ⟨r, hr⟩ := State.topJava?_eq_some.mp hg0
  have hr' : (({ U with heap := s₂.heap, slotsUsed := s₂.slotsUsed } : State).setVm s₂.vm).frames = .java g₀ :: r := hr
  rcases hq' with ⟨hqc, L, hfe, hL⟩ | ⟨q, rfl, E, ce, L, hx, hce, hcv, hcl, hW₂, hsm, hL⟩
  · obtain ⟨⟨v, rfl⟩, hW₂, e2, q2, q3, q4, q5, q6⟩ := id hfe
    have e3 : s₂ = ({ (U.calling g mk a).setFrames s₂.frames with heap := s₂.heap, slotsUsed := s₂.slotsUsed } : State).setVm s₂.vm := by
      have : s₂ = ({ s₂ with vm := (U.calling g mk a).vm } : State).setVm s₂.vm := rfl
      rw [e2] at this
      exact this
    obtain ⟨c₂, i₂, len₂, hc₂, hd₂, hf₂⟩ := hend
    have hW' : U.WarmedH s₂.vm := hW₂
    have hcc : c₂ = c := by
      have h1 : s₂.code? g.method = U.code? g.method := by
        rw [State.code?_eq, State.code?_eq, hW'.alike.method?]
      exact Option.some.inj (hc₂.symm.trans (h1.trans h.code))
    subst hcc
    have hlen : len₂ = len := by rw [hdg] at hd₂; cases hd₂; rfl
    subst hlen
    have hs₂ : s₂ = (({ U with heap := s₂.heap, slotsUsed := s₂.slotsUsed } : State).setVm s₂.vm).setTop { g with pc := g.pc + len₂, stack := v.toList ++ g.stack } := by
      refine e3.trans ?_
      rw [hf₂, State.calling_eq h.top, State.setFrames_setFrames, State.setTop_of_frames _ hr', hr]
      rfl
    have hsame : U.sameButNew ({ U with heap := s₂.heap, slotsUsed := s₂.slotsUsed } : State) L mc ms := by
      refine ⟨?_, q2, q3, q4, q5, q6⟩
      obtain ⟨t, ht, -⟩ := State.frames_cons hr
      show ({ U with heap := s₂.heap, slotsUsed := s₂.slotsUsed } : State) = { U.setFrames U.frames with heap := s₂.heap, slotsUsed := s₂.slotsUsed }
      rw [State.setFrames_self ht]
    subst hg
    refine Or.inl ⟨v, ⟨(({ U with heap := s₂.heap, slotsUsed := s₂.slotsUsed } : State).setVm s₂.vm), Ls ++ L, c0 + mc, s0 + ms⟩,
      ⟨X.admits, X.cas, X.clock, X.frames, X.room, X.hears, X.method, X.code, (X.here.setHeapUsed s₂.heap s₂.slotsUsed).setVm hW'.alike, X.tail, State.WarmedH.trans X.warmed hW', X.limits, X.bytes, X.same.trans (hsame.setVm s.vm)⟩,
      ⟨g, mk, s₂, L, rfl, rfl, hqc, rfl, hL, rfl, rfl⟩, ?_⟩
    show Steps p.tables e below _ ((({ U with heap := s₂.heap, slotsUsed := s₂.slotsUsed } : State).setVm s₂.vm).setTop { g with pc := g.pc + len₂, stack := v.toList ++ g.stack })
    rw [← hs₂]
    exact hsteps
  · obtain ⟨e2, q2, q3, q4, q5, q6⟩ := id hsm
    have e3 : s₂ = ({ (U.calling g mk a).setFrames s₂.frames with heap := s₂.heap, slotsUsed := s₂.slotsUsed } : State).setVm s₂.vm := by
      have : s₂ = ({ s₂ with vm := (U.calling g mk a).vm } : State).setVm s₂.vm := rfl
      rw [e2] at this
      exact this
    have hf₂ : s₂.frames = .throwing q :: .java g :: U.frames.tail := hend
    have hW' : U.WarmedH s₂.vm := hW₂
    have hs₂ : s₂ = ((({ U with heap := s₂.heap, slotsUsed := s₂.slotsUsed } : State).setVm s₂.vm).setTop g).pushFrame (.throwing q) := by
      refine e3.trans ?_
      rw [hf₂, State.calling_eq h.top, State.setFrames_setFrames, State.pushFrame, State.frames_setTop _ hr', State.setTop_of_frames _ hr', State.setFrames_setFrames, hr]
      rfl
    have hsame : U.sameButNew ({ U with heap := s₂.heap, slotsUsed := s₂.slotsUsed } : State) L mc ms := by
      refine ⟨?_, q2, q3, q4, q5, q6⟩
      obtain ⟨t, ht, -⟩ := State.frames_cons hr
      show ({ U with heap := s₂.heap, slotsUsed := s₂.slotsUsed } : State) = { U.setFrames U.frames with heap := s₂.heap, slotsUsed := s₂.slotsUsed }
      rw [State.setFrames_self ht]
    subst hg
    refine Or.inr ⟨q, ⟨(({ U with heap := s₂.heap, slotsUsed := s₂.slotsUsed } : State).setVm s₂.vm), Ls ++ L, c0 + mc, s0 + ms⟩,
      ⟨X.admits, X.cas, X.clock, X.frames, X.room, X.hears, X.method, X.code, (X.here.setHeapUsed s₂.heap s₂.slotsUsed).setVm hW'.alike, X.tail, State.WarmedH.trans X.warmed hW', X.limits, X.bytes, X.same.trans (hsame.setVm s.vm)⟩,
      ⟨g, mk, s₂, L, E, ce, rfl, rfl, hx, hce, hcv, hcl, rfl, hL, rfl, rfl⟩, ?_⟩
    show Steps p.tables e below _ (((({ U with heap := s₂.heap, slotsUsed := s₂.slotsUsed } : State).setVm s₂.vm).setTop g).pushFrame (.throwing q))
    rw [← hs₂]
    exact hsteps
end
variable {p : Program} {l : Launch} {e : Env} {R : Room} {s : State} {m : MethodId} {args : Array Value} {below : List Frame} {meth : Method} {c : Code} {T : State} {H : Heap} {locs : List Loc} {cells slots : Nat}
theorem vx_callVX (X : Stand p l e R s m args below meth c T locs cells slots) (hexec : p.tables.exec = Jvm.exec) {own C : String} {index : Nat} {y : MethodName} {bytes : ByteArray} {maxL : Nat} {ret : Option FieldType} {hh : List (Nat × Nat × Nat × Nat)}
    (hown : s.vm.findClass own = some m.cls) (hlink : (Cond.methodLink own index y).before args s = true) (hinst : (Cond.instanceMethod y).before args s = true) (hsel : (Cond.selects C y y).before args s = true)
    (hcode : (Cond.codeWith y bytes maxL ret hh).before args s = true) (hy : y.cls ≠ "java/lang/invoke/MethodHandle" ∧ y.cls ≠ "java/lang/invoke/VarHandle")
    {W9 : Nat} {Pre : Pt → Array Value → Prop} {Post : Pt → Array Value → Option Value → Pt → Prop} {PostX : Pt → Array Value → Addr → Pt → Prop} (hK : vx_Back l R p e below s args y 3 W9 Pre Post PostX)
    {b : Addr} {cellB : Cell} (hcell : T.heap[b]? = some cellB) (hobj : cellB.vm.isStatics = false) (hcls : s.vm.findClass C = some cellB.cls)
    {g : JFrame} (hg : g.method = m) (hsize : g.locals.size = c.maxLocals) {argsL rest : List Value} (hlen : ∀ sig, parseMethodDescriptor y.desc = some sig → argsL.length = sig.parameters.length)
    (hstack : g.stack = argsL.reverse ++ .ref b :: rest) (hW : 2 * g.monitorRoom + (rest.map fun v => v.category).sum ≤ W9) (hdg : decode c.code g.pc = .ok (.invokevirtual index, 3))
    (hpre : ∀ vm₁, s.WarmedH vm₁ → Pre ⟨T.setVm vm₁, locs, cells, slots⟩ (Value.ref b :: argsL).toArray) :
    (∃ (v : Option Value) (vm₁ : Vm) (B : Pt), s.WarmedH vm₁ ∧ Stand p l e R s m args below meth c B.U B.locs B.cells B.slots ∧ Post ⟨T.setVm vm₁, locs, cells, slots⟩ (Value.ref b :: argsL).toArray v B ∧
      ∀ target, Steps p.tables e below (B.U.setTop { g with pc := g.pc + 3, stack := v.toList ++ rest }) target → Steps p.tables e below (T.setTop g) target) ∨
    (∃ (q : Addr) (vm₁ : Vm) (B : Pt), s.WarmedH vm₁ ∧ Stand p l e R s m args below meth c B.U B.locs B.cells B.slots ∧ PostX ⟨T.setVm vm₁, locs, cells, slots⟩ (Value.ref b :: argsL).toArray q B ∧
      Steps p.tables e below (T.setTop g) ((B.U.setTop { g with stack := rest }).pushFrame (.throwing q))) := by
  obtain ⟨mk, methM, hnamed, hmethM, hstM, habM⟩ := Cond.instanceMethod_spec hinst
  obtain ⟨m8, methM', cM, hn8, hmethM', -, -, -, -, -, -, hsigM⟩ := Cond.codeWith_spec hcode
  cases Option.some.inj (hn8.symm.trans hnamed)
  cases hmethM.symm.trans hmethM'
  obtain ⟨c2, r2, m2, q1, q2, q3, q4, kP, hkP, hkPi⟩ := Cond.selects_spec hsel
  cases hcls.symm.trans q1
  cases (State.methodFound?_of_named hnamed hy).symm.trans q2
  cases hnamed.symm.trans q3
  have hselP : selectMethod e.platform s.vm cellB.cls mk = .method mk := by rw [Launch.admits_selectMethod X.admits]; exact q4
  obtain ⟨vm₁, X₁, hstep₁⟩ := X.invokevirtual hexec hown hlink hnamed hmethM hstM hkP hkPi hy (a := b) (cell := cellB) hcell
    (fun z h => by rw [h] at hobj; cases hobj) hselP hmethM habM hkP hkPi (g := g) hg (argsL := argsL) (rest := rest) (hlen _ hsigM) hstack hdg
  rcases hK m meth c ⟨T.setVm vm₁, locs, cells, slots⟩ { g with stack := rest } (.invokevirtual index) mk (Value.ref b :: argsL).toArray X₁ hg hsize hdg hW (X₁.named hnamed) (hpre vm₁ X₁.warmed) with ⟨v, B, X', hpost, hsteps⟩ | ⟨q, B, X', hpost, hsteps⟩
  · exact Or.inl ⟨v, vm₁, B, X₁.warmed, X', hpost, fun target h => hstep₁ _ fun acts => by rw [doInvoke_state]; exact hsteps.trans h⟩
  · exact Or.inr ⟨q, vm₁, B, X₁.warmed, X', hpost, hstep₁ _ fun acts => by rw [doInvoke_state]; exact hsteps⟩
theorem vx_callSX (X : Stand p l e R s m args below meth c T locs cells slots) (hexec : p.tables.exec = Jvm.exec) {own : String} {index : Nat} {y : MethodName} {bytes : ByteArray} {maxL : Nat} {ret : Option FieldType} {hh : List (Nat × Nat × Nat × Nat)}
    (hown : s.vm.findClass own = some m.cls) (hlink : (Cond.methodLink own index y).before args s = true) (hstat : (Cond.static y).before args s = true) (hinit : (Cond.initialized y.cls).before args s = true)
    (hcode : (Cond.codeWith y bytes maxL ret hh).before args s = true) (hy : y.cls ≠ "java/lang/invoke/MethodHandle" ∧ y.cls ≠ "java/lang/invoke/VarHandle")
    {W9 : Nat} {Pre : Pt → Array Value → Prop} {Post : Pt → Array Value → Option Value → Pt → Prop} {PostX : Pt → Array Value → Addr → Pt → Prop} (hK : vx_Back l R p e below s args y 3 W9 Pre Post PostX)
    {g : JFrame} (hg : g.method = m) (hsize : g.locals.size = c.maxLocals) {argsL rest : List Value} (hlen : ∀ sig, parseMethodDescriptor y.desc = some sig → argsL.length = sig.parameters.length)
    (hstack : g.stack = argsL.reverse ++ rest) (hW : 2 * g.monitorRoom + (rest.map fun v => v.category).sum ≤ W9) (hdg : decode c.code g.pc = .ok (.invokestatic index, 3))
    (hpre : ∀ vm₁, s.WarmedH vm₁ → Pre ⟨T.setVm vm₁, locs, cells, slots⟩ argsL.toArray) :
    (∃ (v : Option Value) (vm₁ : Vm) (B : Pt), s.WarmedH vm₁ ∧ Stand p l e R s m args below meth c B.U B.locs B.cells B.slots ∧ Post ⟨T.setVm vm₁, locs, cells, slots⟩ argsL.toArray v B ∧
      ∀ target, Steps p.tables e below (B.U.setTop { g with pc := g.pc + 3, stack := v.toList ++ rest }) target → Steps p.tables e below (T.setTop g) target) ∨
    (∃ (q : Addr) (vm₁ : Vm) (B : Pt), s.WarmedH vm₁ ∧ Stand p l e R s m args below meth c B.U B.locs B.cells B.slots ∧ PostX ⟨T.setVm vm₁, locs, cells, slots⟩ argsL.toArray q B ∧
      Steps p.tables e below (T.setTop g) ((B.U.setTop { g with stack := rest }).pushFrame (.throwing q))) := by
  obtain ⟨mk, methM, cM, hnamed, hmethM, -, -, -, -, -, -, hsigM⟩ := Cond.codeWith_spec hcode
  have hstatic : methM.isStatic = true := Cond.static_spec hnamed hmethM hstat
  obtain ⟨kP, hkP, -⟩ := className_of_methodNamed hnamed
  have hinitP : kP.init = .initialized := Cond.initialized_spec (findClass_of_methodNamed hnamed) hkP hinit
  obtain ⟨vm₁, X₁, hstep₁⟩ := X.invokestatic hexec hown hlink hnamed hmethM hstatic hkP hinitP hy (g := g) hg (argsL := argsL) (rest := rest) (hlen _ hsigM) hstack hdg
  rcases hK m meth c ⟨T.setVm vm₁, locs, cells, slots⟩ { g with stack := rest } (.invokestatic index) mk argsL.toArray X₁ hg hsize hdg hW (X₁.named hnamed) (hpre vm₁ X₁.warmed) with ⟨v, B, X', hpost, hsteps⟩ | ⟨q, B, X', hpost, hsteps⟩
  · exact Or.inl ⟨v, vm₁, B, X₁.warmed, X', hpost, fun target h => hstep₁ _ fun acts => by rw [doInvoke_state]; exact hsteps.trans h⟩
  · exact Or.inr ⟨q, vm₁, B, X₁.warmed, X', hpost, hstep₁ _ fun acts => by rw [doInvoke_state]; exact hsteps⟩
theorem vx_callVW (X : Stand p l e R s m args below meth c T locs cells slots) (hexec : p.tables.exec = Jvm.exec) {own C : String} {index : Nat} {y : MethodName} {bytes : ByteArray} {maxL : Nat} {ret : Option FieldType} {hh : List (Nat × Nat × Nat × Nat)}
    (hown : s.vm.findClass own = some m.cls) (hlink : (Cond.methodLink own index y).before args s = true) (hinst : (Cond.instanceMethod y).before args s = true) (hsel : (Cond.selects C y y).before args s = true)
    (hcode : (Cond.codeWith y bytes maxL ret hh).before args s = true) (hy : y.cls ≠ "java/lang/invoke/MethodHandle" ∧ y.cls ≠ "java/lang/invoke/VarHandle")
    {W9 : Nat} {Pre : Pt → Array Value → Prop} {Post : Pt → Array Value → Option Value → Pt → Prop} (hK : Back l R p e below s args y 3 W9 Pre Post)
    {b : Addr} {cellB : Cell} (hcell : T.heap[b]? = some cellB) (hobj : cellB.vm.isStatics = false) (hcls : s.vm.findClass C = some cellB.cls)
    {g : JFrame} (hg : g.method = m) (hsize : g.locals.size = c.maxLocals) {argsL rest : List Value} (hlen : ∀ sig, parseMethodDescriptor y.desc = some sig → argsL.length = sig.parameters.length)
    (hstack : g.stack = argsL.reverse ++ .ref b :: rest) (hW : 2 * g.monitorRoom + (rest.map fun v => v.category).sum ≤ W9) (hdg : decode c.code g.pc = .ok (.invokevirtual index, 3))
    (hpre : ∀ vm₁, s.WarmedH vm₁ → Pre ⟨T.setVm vm₁, locs, cells, slots⟩ (Value.ref b :: argsL).toArray) :
    ∃ (v : Option Value) (vm₁ : Vm) (B : Pt), s.WarmedH vm₁ ∧ Stand p l e R s m args below meth c B.U B.locs B.cells B.slots ∧ Post ⟨T.setVm vm₁, locs, cells, slots⟩ (Value.ref b :: argsL).toArray v B ∧
      ∀ target, Steps p.tables e below (B.U.setTop { g with pc := g.pc + 3, stack := v.toList ++ rest }) target → Steps p.tables e below (T.setTop g) target := by
  obtain ⟨mk, methM, hnamed, hmethM, hstM, habM⟩ := Cond.instanceMethod_spec hinst
  obtain ⟨m8, methM', cM, hn8, hmethM', -, -, -, -, -, -, hsigM⟩ := Cond.codeWith_spec hcode
  cases Option.some.inj (hn8.symm.trans hnamed)
  cases hmethM.symm.trans hmethM'
  obtain ⟨c2, r2, m2, q1, q2, q3, q4, kP, hkP, hkPi⟩ := Cond.selects_spec hsel
  cases hcls.symm.trans q1
  cases (State.methodFound?_of_named hnamed hy).symm.trans q2
  cases hnamed.symm.trans q3
  have hselP : selectMethod e.platform s.vm cellB.cls mk = .method mk := by rw [Launch.admits_selectMethod X.admits]; exact q4
  obtain ⟨vm₁, X₁, hstep₁⟩ := X.invokevirtual hexec hown hlink hnamed hmethM hstM hkP hkPi hy (a := b) (cell := cellB) hcell
    (fun z h => by rw [h] at hobj; cases hobj) hselP hmethM habM hkP hkPi (g := g) hg (argsL := argsL) (rest := rest) (hlen _ hsigM) hstack hdg
  obtain ⟨v, B, X', hpost, hsteps⟩ := hK m meth c ⟨T.setVm vm₁, locs, cells, slots⟩ { g with stack := rest } (.invokevirtual index) mk (Value.ref b :: argsL).toArray X₁ hg hsize hdg hW (X₁.named hnamed) (hpre vm₁ X₁.warmed)
  exact ⟨v, vm₁, B, X₁.warmed, X', hpost, fun target h => hstep₁ _ fun acts => by rw [doInvoke_state]; exact hsteps.trans h⟩
abbrev vx_CVW (R : Room) (s : State) (args : Array Value) (own C : String) (index : Nat) (y : MethodName) (bytes : ByteArray) (maxL : Nat) (ret : Option FieldType) (hh : List (Nat × Nat × Nat × Nat)) (ws : List Cond) (rm : Room) (mc ms n : Nat) : Prop :=
  (rm.cells = mc ∧ rm.slots = ms ∧ rm.frames + 1 ≤ R.frames ∧ 8 + (maxL + 11) + rm.locals ≤ R.locals ∧ (∀ w ∈ ws, ∀ (a' : Array Value) (U : State), s.WarmedH U.vm → w.before a' U = true) ∧ Cond.codeWith y bytes maxL ret hh ∈ ws) ∧
  (Cond.codeWith y bytes maxL ret hh).before args s = true ∧ (Cond.initialized y.cls).before args s = true ∧ (y.cls ≠ "java/lang/invoke/MethodHandle" ∧ y.cls ≠ "java/lang/invoke/VarHandle") ∧
  (∀ sig, parseMethodDescriptor y.desc = some sig → n = sig.parameters.length) ∧ (Cond.methodLink own index y).before args s = true ∧ (Cond.instanceMethod y).before args s = true ∧ (Cond.selects C y y).before args s = true
theorem vx_cwVW {own C : String} {index maxL mc ms : Nat} {y : MethodName} {bytes : ByteArray} {ret : Option FieldType} {hh : List (Nat × Nat × Nat × Nat)} {Ts ws ws' : List Cond} {rm : Room} (n : Nat) (ht : ∀ w ∈ Ts, w.before args s = true) (hT : GoodIn Ts (wsV own index C y ws)) (hw : ws = Cond.codeWith y bytes maxL ret hh :: ws') (hrc : rm.cells = mc) (hrs : rm.slots = ms)
    (hd : y.cls = C ∧ y.cls ≠ "java/lang/invoke/MethodHandle" ∧ y.cls ≠ "java/lang/invoke/VarHandle" ∧ (parseMethodDescriptor y.desc).map (fun d => d.parameters.length) = some n) (hR : rm.frames + 1 ≤ R.frames ∧ 8 + (maxL + 11) + rm.locals ≤ R.locals) :
    vx_CVW R s args own C index y bytes maxL ret hh ws rm mc ms n := by
  obtain ⟨hC, hd⟩ := hd
  subst hC
  have ok : ∀ w ∈ wsV own index y.cls y ws, w.before args s = true := fun w h => ht w (hT w h).1
  have hG : GoodIn Ts ws := fun w h => hT w (by unfold wsV; exact List.mem_append_right _ h)
  have hc : Cond.codeWith y bytes maxL ret hh ∈ ws := by rw [hw]; exact List.mem_cons_self
  refine ⟨⟨hrc, hrs, hR.1, hR.2, pay_in ht hG, hc⟩, ht _ (hG _ hc).1, ok _ (by simp [wsV]), ⟨hd.1, hd.2.1⟩, fun sig h => ?_, ok _ (by simp [wsV]), ok _ (by simp [wsV]), ok _ (by simp [wsV])⟩
  have h2 := hd.2.2
  rw [h] at h2
  exact (Option.some.inj h2).symm
theorem vx_runVW {y : MethodName} {bytes cc : ByteArray} {maxL nL mc ms n index : Nat} {ret : Option FieldType} {hh : List (Nat × Nat × Nat × Nat)} {ws : List Cond} {rm : Room} {Pc : Array Value → State → Prop} {Qc : Array Value → State → Outcome → State → Prop} {free : Addr → Prop} {Ts : List Cond} {own C : String} {b : Addr} {As rest : List Value} {g : JFrame}
    (S : CallFix p m c cc nL s args Ts own) (hM : Met l y ws rm Pc Qc mc ms free) (cw : vx_CVW R s args own C index y bytes maxL ret hh ws rm mc ms n) (hp : PreV s H C b Pc As)
    (hg : g.method = m) (hn : As.length = n) (hsize : g.locals.size = nL) (hstack : g.stack = As.reverse ++ .ref b :: rest) (hW : 2 * g.monitorRoom + (rest.map fun v => v.category).sum ≤ 8) (hdg : decode cc g.pc = .ok (.invokevirtual index, 3)) (hf : cells + mc ≤ R.cells ∧ slots + ms ≤ R.slots) :
    va_Run p l e R s m args below meth c H locs cells slots mc ms g rest (Qc (Value.ref b :: As).toArray) free := by
  obtain ⟨⟨hrc, hrs, hfr, hlo, hws, hcw⟩, hcode, hini, hy, hlen, hl, hin, hse⟩ := cw
  have hK : Back l R p e below s args y 3 8 (PreOf R mc ms Pc) (PostOf Qc mc ms free) := va_backW (hh := hh) (bytes := bytes) (maxL := maxL) (ret := ret) hM hp.1 hrc hrs hfr hlo hws hcw (fun a' U hW => word_at hW (Or.inl (by first | rfl | simp [Cond.onTables, Cond.keeps, Cond.steady])) hini)
  obtain ⟨hx, hb, hml, ho, -⟩ := S
  obtain ⟨-, ⟨cellB, hcB, hoB, hclB⟩, hPc⟩ := hp
  intro T hT X
  obtain ⟨v, vm₁, ⟨U', l2, c2, s2⟩, hW₁, X', ⟨g', mk, t, L, e1, e2, hq, h1, hL, h2, h3⟩, st⟩ := vx_callVW X hx (C := C) (hh := hh) (bytes := bytes) (maxL := maxL) (ret := ret) ho hl hin hse hcode hy hK (by rw [hT]; exact hcB) hoB hclB hg (hsize.trans hml.symm) (argsL := As) (rest := rest) (fun sig h => hn.trans (hlen sig h)) hstack hW (by rw [hb]; exact hdg)
    (fun vm₁ hW₁ => ⟨hf.1, hf.2, hPc (T.setVm vm₁) hT hW₁⟩)
  dsimp only [Pt.U, Pt.locs, Pt.cells, Pt.slots] at X' e1 e2 h1 h2 h3 st
  subst h1; subst h2; subst h3
  exact ⟨v, (T.setVm vm₁).calling g' mk (Value.ref b :: As).toArray, t, U', L, hT, X', hL, e1, e2, hq, st⟩
section
variable {y : MethodName} {bytes cc : ByteArray} {maxL nL mc ms n index : Nat} {ret : Option FieldType} {ws : List Cond} {rm : Room} {Pc : Array Value → State → Prop} {Qc : Array Value → State → Outcome → State → Prop} {XC : String → State → State → Prop} {free : Addr → Prop} {Ts : List Cond} {own C : String} {b : Addr} {As rest : List Value} {g : JFrame}
theorem vx_runVX {hh : List (Nat × Nat × Nat × Nat)} (S : CallFix p m c cc nL s args Ts own) (hM : vx_Met l y ws rm Pc Qc XC mc ms free) (cw : vx_CVW R s args own C index y bytes maxL ret hh ws rm mc ms n) (hp : PreV s H C b Pc As)
    (hg : g.method = m) (hn : As.length = n) (hsize : g.locals.size = nL) (hstack : g.stack = As.reverse ++ .ref b :: rest) (hW : 2 * g.monitorRoom + (rest.map fun v => v.category).sum ≤ 8) (hdg : decode cc g.pc = .ok (.invokevirtual index, 3)) (hf : cells + mc ≤ R.cells ∧ slots + ms ≤ R.slots) :
    vx_Run p l e R s m args below meth c H locs cells slots mc ms g rest (Qc (Value.ref b :: As).toArray) XC free := by
  obtain ⟨⟨hrc, hrs, hfr, hlo, hws, hcw⟩, hcode, hini, hy, hlen, hl, hin, hse⟩ := cw
  have hK : vx_Back l R p e below s args y 3 8 (PreOf R mc ms Pc) (PostOf Qc mc ms free) (vx_Post XC mc ms free) := vx_backW (hh := hh) (bytes := bytes) (maxL := maxL) (ret := ret) hM hp.1 hrc hrs hfr hlo hws hcw (fun a' U hW => word_at hW (Or.inl (by first | rfl | simp [Cond.onTables, Cond.keeps, Cond.steady])) hini)
  obtain ⟨hx, hb, hml, ho, -⟩ := S
  obtain ⟨-, ⟨cellB, hcB, hoB, hclB⟩, hPc⟩ := hp
  intro T hT X
  rcases vx_callVX X hx (C := C) (hh := hh) (bytes := bytes) (maxL := maxL) (ret := ret) ho hl hin hse hcode hy hK (by rw [hT]; exact hcB) hoB hclB hg (hsize.trans hml.symm) (argsL := As) (rest := rest) (fun sig h => hn.trans (hlen sig h)) hstack hW (by rw [hb]; exact hdg)
    (fun vm₁ hW₁ => ⟨hf.1, hf.2, hPc (T.setVm vm₁) hT hW₁⟩) with ⟨v, vm₁, ⟨U', l2, c2, s2⟩, hW₁, X', ⟨g', mk, t, L, e1, e2, hq, h1, hL, h2, h3⟩, st⟩ | ⟨q, vm₁, ⟨U', l2, c2, s2⟩, hW₁, X', ⟨g', mk, t, L, E, ce, e1, e2, hq, hce, hcv, hcl, h1, hL, h2, h3⟩, st⟩
  · dsimp only [Pt.U, Pt.locs, Pt.cells, Pt.slots] at X' e1 e2 h1 h2 h3 st
    subst h1; subst h2; subst h3
    exact Or.inl ⟨v, (T.setVm vm₁).calling g' mk (Value.ref b :: As).toArray, t, U', L, hT, X', hL, e1, e2, hq, st⟩
  · dsimp only [Pt.U, Pt.locs, Pt.cells, Pt.slots] at X' e1 e2 h1 h2 h3 st hcl
    subst h1; subst h2; subst h3
    exact Or.inr ⟨q, (T.setVm vm₁).calling g' mk (Value.ref b :: As).toArray, t, U', L, E, ce, hT, X', hL, e1, e2, hq, hce, hcv, vx_cls hW₁ hcl, st⟩
theorem vx_runSX {hh : List (Nat × Nat × Nat × Nat)} (S : CallFix p m c cc nL s args Ts own) (hM : vx_Met l y ws rm Pc Qc XC mc ms free) (cw : vx_CSW R s args own index y bytes maxL ret hh ws rm mc ms n) (hp : PreS s H Pc As)
    (hg : g.method = m) (hn : As.length = n) (hsize : g.locals.size = nL) (hstack : g.stack = As.reverse ++ rest) (hW : 2 * g.monitorRoom + (rest.map fun v => v.category).sum ≤ 8) (hdg : decode cc g.pc = .ok (.invokestatic index, 3)) (hf : cells + mc ≤ R.cells ∧ slots + ms ≤ R.slots) :
    vx_Run p l e R s m args below meth c H locs cells slots mc ms g rest (Qc As.toArray) XC free := by
  obtain ⟨⟨hrc, hrs, hfr, hlo, hws, hcw⟩, hcode, hini, hy, hlen, hl, hstt⟩ := cw
  have hK : vx_Back l R p e below s args y 3 8 (PreOf R mc ms Pc) (PostOf Qc mc ms free) (vx_Post XC mc ms free) := vx_backW (hh := hh) (bytes := bytes) (maxL := maxL) (ret := ret) hM hp.1 hrc hrs hfr hlo hws hcw (fun a' U hW => word_at hW (Or.inl (by first | rfl | simp [Cond.onTables, Cond.keeps, Cond.steady])) hini)
  obtain ⟨hx, hb, hml, ho, -⟩ := S
  intro T hT X
  rcases vx_callSX X hx (hh := hh) (bytes := bytes) (maxL := maxL) (ret := ret) ho hl hstt hini hcode hy hK hg (hsize.trans hml.symm) (argsL := As) (rest := rest) (fun sig h => hn.trans (hlen sig h)) hstack hW (by rw [hb]; exact hdg)
    (fun vm₁ hW₁ => ⟨hf.1, hf.2, hp.2 (T.setVm vm₁) hT hW₁⟩) with ⟨v, vm₁, ⟨U', l2, c2, s2⟩, hW₁, X', ⟨g', mk, t, L, e1, e2, hq, h1, hL, h2, h3⟩, st⟩ | ⟨q, vm₁, ⟨U', l2, c2, s2⟩, hW₁, X', ⟨g', mk, t, L, E, ce, e1, e2, hq, hce, hcv, hcl, h1, hL, h2, h3⟩, st⟩
  · dsimp only [Pt.U, Pt.locs, Pt.cells, Pt.slots] at X' e1 e2 h1 h2 h3 st
    subst h1; subst h2; subst h3
    exact Or.inl ⟨v, (T.setVm vm₁).calling g' mk As.toArray, t, U', L, hT, X', hL, e1, e2, hq, st⟩
  · dsimp only [Pt.U, Pt.locs, Pt.cells, Pt.slots] at X' e1 e2 h1 h2 h3 st hcl
    subst h1; subst h2; subst h3
    exact Or.inr ⟨q, (T.setVm vm₁).calling g' mk As.toArray, t, U', L, E, ce, hT, X', hL, e1, e2, hq, hce, hcv, vx_cls hW₁ hcl, st⟩
end
end VXH
theorem vx_ofWH {l : Launch} {y : MethodName} {ws ws' : List Cond} {rm : Room} {Pc : Array Value → State → Prop} {Qc : Array Value → State → Outcome → State → Prop} {XC : String → State → State → Prop} {mc ms : Nat} {free : Addr → Prop} {cc : ByteArray} {maxL : Nat} {ret : Option FieldType} {hh : List (Nat × Nat × Nat × Nat)}
    (hy : plainName y.cls = true) (hw : ws = Cond.codeWith y cc maxL ret hh :: ws')
    (body : ∀ p e s m args below meth c s₁, BodyLoose p l y (headSpec ws rm) cc maxL ret e s m args below meth c s₁ → c.maxLocals = maxL → Pc args s →
      W p l e (headSpec ws rm).room s m args below meth c s.heap [] 0 0 (vx_MQ below Qc XC args s mc ms free) (entryFrame m args maxL)) : vx_Met l y ws rm Pc Qc XC mc ms free := by
  refine MetFree.of_bodyS (code := cc) (maxLocals := maxL) (ret := ret) hy ?_ ?_
  · intro args s m h hn
    obtain ⟨m9, meth, c, hn9, h1, h2, h3, h4, -, h5, h6, -⟩ := Cond.codeWith_spec (atoms_spec (ws := ws) h _ (by rw [hw]; exact List.mem_cons_self))
    cases hn.symm.trans hn9
    exact ⟨meth, c, h1, h2, h3, h4, h5, h6⟩
  · intro p e s m args below meth c s₁ B hml hP _
    have hh0 : s₁.heap = s.heap := by rw [B.state]; rfl
    obtain ⟨t, a1, o, b1, b2, b3⟩ := body p e s m args below meth c s₁ B hml hP s₁ hh0 (Stand.of_body B)
    exact ⟨t, o, a1, b1, b2, b3⟩
end
section
def RX0 : String := "Districtmeter"
def TX0 : u_T := fun k => match k with
  | 0 => ("Districtmeter", "nodeCount", "I", false)
  | 1 => ("Districtmeter", "ways", "[I", true)
  | 2 => ("Districtmeter", "uses", "[I", true)
  | 3 => ("Districtmeter", "backgrounds", "[I", true)
  | 4 => ("Districtmeter", "pressures", "[I", true)
  | 5 => ("Districtmeter", "meteredPipes", "I", false)
  | 6 => ("Districtmeter", "shutPipes", "I", false)
  | 7 => ("Districtmeter", "areaCount", "I", false)
  | 8 => ("Districtmeter", "inlets", "[I", true)
  | 9 => ("Districtmeter", "exports", "[I", true)
  | 10 => ("Districtmeter", "burstCount", "I", false)
  | 11 => ("Districtmeter", "burstNodes", "[I", true)
  | 12 => ("Districtmeter", "burstAmounts", "[I", true)
  | 13 => ("Districtmeter", "burstHours", "[I", true)
  | 14 => ("Districtmeter", "repairedBursts", "I", false)
  | 15 => ("Districtmeter", "rankedCosts", "[I", true)
  | _ => ("Districtmeter", "rankedBursts", "[I", true)
def tyX0 : Nat → FieldType := fun k => match k with
  | 0 => .int
  | 1 => .array .int
  | 2 => .array .int
  | 3 => .array .int
  | 4 => .array .int
  | 5 => .int
  | 6 => .int
  | 7 => .int
  | 8 => .array .int
  | 9 => .array .int
  | 10 => .int
  | 11 => .array .int
  | 12 => .array .int
  | 13 => .array .int
  | 14 => .int
  | 15 => .array .int
  | _ => .array .int
abbrev wsX00 : List Cond := u_ws RX0 TX0 17
theorem nmX0 : ∀ a, a < 17 → ∀ b, b < 17 → a ≠ b → (TX0 a).2.1 ≠ (TX0 b).2.1 := by decide +kernel
theorem tyX0_ok : ∀ k, k < 17 → parseFieldDescriptor (TX0 k).2.2.1 = some (tyX0 k) := by decide +kernel
abbrev cX0_init : ByteArray := prog_1_method_1_code
def yX0_init : MethodName := ⟨RX0, "<init>", "()V"⟩
abbrev cX0_addNode : ByteArray := prog_1_method_2_code
def yX0_addNode : MethodName := ⟨RX0, "addNode", "(II)I"⟩
abbrev cX0_setBackground : ByteArray := prog_1_method_3_code
def yX0_setBackground : MethodName := ⟨RX0, "setBackground", "(II)I"⟩
abbrev cX0_setPressure : ByteArray := prog_1_method_4_code
def yX0_setPressure : MethodName := ⟨RX0, "setPressure", "(II)I"⟩
abbrev cX0_addMeter : ByteArray := prog_1_method_5_code
def yX0_addMeter : MethodName := ⟨RX0, "addMeter", "(I)Z"⟩
abbrev cX0_toggleValve : ByteArray := prog_1_method_6_code
def yX0_toggleValve : MethodName := ⟨RX0, "toggleValve", "(I)Z"⟩
abbrev cX0_isSupplied : ByteArray := prog_1_method_7_code
def yX0_isSupplied : MethodName := ⟨RX0, "isSupplied", "(I)Z"⟩
abbrev cX0_takes : ByteArray := prog_1_method_8_code
def yX0_takes : MethodName := ⟨RX0, "takes", "(I)I"⟩
abbrev cX0_flow : ByteArray := prog_1_method_9_code
def yX0_flow : MethodName := ⟨RX0, "flow", "(I)I"⟩
abbrev cX0_allFlow : ByteArray := prog_1_method_10_code
def yX0_allFlow : MethodName := ⟨RX0, "allFlow", "()I"⟩
abbrev cX0_addArea : ByteArray := prog_1_method_11_code
def yX0_addArea : MethodName := ⟨RX0, "addArea", "(I)I"⟩
abbrev cX0_addExport : ByteArray := prog_1_method_12_code
def yX0_addExport : MethodName := ⟨RX0, "addExport", "(II)I"⟩
abbrev cX0_nodes : ByteArray := prog_1_method_13_code
def yX0_nodes : MethodName := ⟨RX0, "nodes", "(I)I"⟩
abbrev cX0_areaFlow : ByteArray := prog_1_method_14_code
def yX0_areaFlow : MethodName := ⟨RX0, "areaFlow", "(I)I"⟩
abbrev cX0_areaTakes : ByteArray := prog_1_method_15_code
def yX0_areaTakes : MethodName := ⟨RX0, "areaTakes", "(I)I"⟩
abbrev cX0_loss : ByteArray := prog_1_method_16_code
def yX0_loss : MethodName := ⟨RX0, "loss", "(I)I"⟩
abbrev cX0_steps : ByteArray := prog_1_method_17_code
def yX0_steps : MethodName := ⟨RX0, "steps", "(I)I"⟩
abbrev cX0_stepPipe : ByteArray := prog_1_method_18_code
def yX0_stepPipe : MethodName := ⟨RX0, "stepPipe", "(II)I"⟩
abbrev cX0_drop : ByteArray := prog_1_method_19_code
def yX0_drop : MethodName := ⟨RX0, "drop", "(II)I"⟩
abbrev cX0_burst : ByteArray := prog_1_method_20_code
def yX0_burst : MethodName := ⟨RX0, "burst", "(III)I"⟩
abbrev cX0_repair : ByteArray := prog_1_method_21_code
def yX0_repair : MethodName := ⟨RX0, "repair", "(I)I"⟩
abbrev cX0_cost : ByteArray := prog_1_method_22_code
def yX0_cost : MethodName := ⟨RX0, "cost", "(I)I"⟩
abbrev cX0_ranked : ByteArray := prog_1_method_23_code
def yX0_ranked : MethodName := ⟨RX0, "ranked", "(I)I"⟩
abbrev cX0_plan : ByteArray := prog_1_method_24_code
def yX0_plan : MethodName := ⟨RX0, "plan", "(I)I"⟩
abbrev cX0_needRange : ByteArray := prog_1_method_25_code
def yX0_needRange : MethodName := ⟨RX0, "needRange", "(III)V"⟩
abbrev cX0_needRoom : ByteArray := prog_1_method_26_code
def yX0_needRoom : MethodName := ⟨RX0, "needRoom", "(II)V"⟩
abbrev cX0_needNode : ByteArray := prog_1_method_27_code
def yX0_needNode : MethodName := ⟨RX0, "needNode", "(I)V"⟩
abbrev cX0_needPipe : ByteArray := prog_1_method_28_code
def yX0_needPipe : MethodName := ⟨RX0, "needPipe", "(I)V"⟩
abbrev cX0_needArea : ByteArray := prog_1_method_29_code
def yX0_needArea : MethodName := ⟨RX0, "needArea", "(I)V"⟩
abbrev cX0_needBurst : ByteArray := prog_1_method_30_code
def yX0_needBurst : MethodName := ⟨RX0, "needBurst", "(I)V"⟩
abbrev cX0_has : ByteArray := prog_1_method_31_code
def yX0_has : MethodName := ⟨RX0, "has", "(II)Z"⟩
abbrev cX0_pipesAbove : ByteArray := prog_1_method_32_code
def yX0_pipesAbove : MethodName := ⟨RX0, "pipesAbove", "(II)I"⟩
abbrev cX0_isOpenTo : ByteArray := prog_1_method_33_code
def yX0_isOpenTo : MethodName := ⟨RX0, "isOpenTo", "(II)Z"⟩
abbrev cX0_pressureAt : ByteArray := prog_1_method_34_code
def yX0_pressureAt : MethodName := ⟨RX0, "pressureAt", "(I)I"⟩
abbrev cX0_factorFor : ByteArray := prog_1_method_35_code
def yX0_factorFor : MethodName := ⟨RX0, "factorFor", "(I)I"⟩
abbrev cX0_leakageOf : ByteArray := prog_1_method_36_code
def yX0_leakageOf : MethodName := ⟨RX0, "leakageOf", "(II)I"⟩
abbrev cX0_amountAt : ByteArray := prog_1_method_37_code
def yX0_amountAt : MethodName := ⟨RX0, "amountAt", "(I)I"⟩
abbrev cX0_leakageAt : ByteArray := prog_1_method_38_code
def yX0_leakageAt : MethodName := ⟨RX0, "leakageAt", "(I)I"⟩
abbrev cX0_takenAt : ByteArray := prog_1_method_39_code
def yX0_takenAt : MethodName := ⟨RX0, "takenAt", "(II)I"⟩
abbrev cX0_takenBy : ByteArray := prog_1_method_40_code
def yX0_takenBy : MethodName := ⟨RX0, "takenBy", "(II)I"⟩
abbrev cX0_usedBy : ByteArray := prog_1_method_41_code
def yX0_usedBy : MethodName := ⟨RX0, "usedBy", "(I)I"⟩
abbrev cX0_flowTo : ByteArray := prog_1_method_42_code
def yX0_flowTo : MethodName := ⟨RX0, "flowTo", "(I)I"⟩
abbrev cX0_nodesOf : ByteArray := prog_1_method_43_code
def yX0_nodesOf : MethodName := ⟨RX0, "nodesOf", "(I)I"⟩
abbrev cX0_outerExports : ByteArray := prog_1_method_44_code
def yX0_outerExports : MethodName := ⟨RX0, "outerExports", "(I)I"⟩
abbrev cX0_pipesToShut : ByteArray := prog_1_method_45_code
def yX0_pipesToShut : MethodName := ⟨RX0, "pipesToShut", "(I)I"⟩
abbrev cX0_pipeOfStep : ByteArray := prog_1_method_46_code
def yX0_pipeOfStep : MethodName := ⟨RX0, "pipeOfStep", "(II)I"⟩
abbrev cX0_costOf : ByteArray := prog_1_method_47_code
def yX0_costOf : MethodName := ⟨RX0, "costOf", "(I)I"⟩
abbrev cX0_rankBursts : ByteArray := prog_1_method_48_code
def yX0_rankBursts : MethodName := ⟨RX0, "rankBursts", "()I"⟩
abbrev cX0_insertByRank : ByteArray := prog_1_method_49_code
def yX0_insertByRank : MethodName := ⟨RX0, "insertByRank", "(II)V"⟩
abbrev cX0_isAhead : ByteArray := prog_1_method_50_code
def yX0_isAhead : MethodName := ⟨RX0, "isAhead", "(II)Z"⟩
def RX1 : String := "DistrictmeterModel"
def TX1 : u_T := fun k => match k with
  | 0 => ("DistrictmeterModel", "nodes", "I", false)
  | 1 => ("DistrictmeterModel", "on", "[I", true)
  | 2 => ("DistrictmeterModel", "use", "[I", true)
  | 3 => ("DistrictmeterModel", "background", "[I", true)
  | 4 => ("DistrictmeterModel", "pressure", "[I", true)
  | 5 => ("DistrictmeterModel", "hasMeter", "[Z", true)
  | 6 => ("DistrictmeterModel", "isShut", "[Z", true)
  | 7 => ("DistrictmeterModel", "factor", "[I", true)
  | 8 => ("DistrictmeterModel", "areas", "I", false)
  | 9 => ("DistrictmeterModel", "inlet", "[I", true)
  | 10 => ("DistrictmeterModel", "exports", "[I", true)
  | 11 => ("DistrictmeterModel", "bursts", "I", false)
  | 12 => ("DistrictmeterModel", "where", "[I", true)
  | 13 => ("DistrictmeterModel", "amount", "[I", true)
  | 14 => ("DistrictmeterModel", "hours", "[I", true)
  | 15 => ("DistrictmeterModel", "isRepaired", "[Z", true)
  | _ => ("DistrictmeterModel", "thrown", "I", false)
def tyX1 : Nat → FieldType := fun k => match k with
  | 0 => .int
  | 1 => .array .int
  | 2 => .array .int
  | 3 => .array .int
  | 4 => .array .int
  | 5 => .array .boolean
  | 6 => .array .boolean
  | 7 => .array .int
  | 8 => .int
  | 9 => .array .int
  | 10 => .array .int
  | 11 => .int
  | 12 => .array .int
  | 13 => .array .int
  | 14 => .array .int
  | 15 => .array .boolean
  | _ => .int
abbrev wsX10 : List Cond := u_ws RX1 TX1 17
theorem nmX1 : ∀ a, a < 17 → ∀ b, b < 17 → a ≠ b → (TX1 a).2.1 ≠ (TX1 b).2.1 := by decide +kernel
theorem tyX1_ok : ∀ k, k < 17 → parseFieldDescriptor (TX1 k).2.2.1 = some (tyX1 k) := by decide +kernel
abbrev cX1_init : ByteArray := prog_3_method_1_code
def yX1_init : MethodName := ⟨RX1, "<init>", "()V"⟩
abbrev cX1_thrown : ByteArray := prog_3_method_2_code
def yX1_thrown : MethodName := ⟨RX1, "thrown", "()I"⟩
abbrev cX1_fails : ByteArray := prog_3_method_3_code
def yX1_fails : MethodName := ⟨RX1, "fails", "(I)Z"⟩
abbrev cX1_tells : ByteArray := prog_3_method_4_code
def yX1_tells : MethodName := ⟨RX1, "tells", "(I)I"⟩
abbrev cX1_isIn : ByteArray := prog_3_method_5_code
def yX1_isIn : MethodName := ⟨RX1, "isIn", "(III)Z"⟩
abbrev cX1_isNode : ByteArray := prog_3_method_6_code
def yX1_isNode : MethodName := ⟨RX1, "isNode", "(I)Z"⟩
abbrev cX1_isPipe : ByteArray := prog_3_method_7_code
def yX1_isPipe : MethodName := ⟨RX1, "isPipe", "(I)Z"⟩
abbrev cX1_isBelow : ByteArray := prog_3_method_8_code
def yX1_isBelow : MethodName := ⟨RX1, "isBelow", "(II)Z"⟩
abbrev cX1_supplied : ByteArray := prog_3_method_9_code
def yX1_supplied : MethodName := ⟨RX1, "supplied", "(I)Z"⟩
abbrev cX1_pressureAt : ByteArray := prog_3_method_10_code
def yX1_pressureAt : MethodName := ⟨RX1, "pressureAt", "(I)I"⟩
abbrev cX1_leaks : ByteArray := prog_3_method_11_code
def yX1_leaks : MethodName := ⟨RX1, "leaks", "(I)I"⟩
abbrev cX1_taken : ByteArray := prog_3_method_12_code
def yX1_taken : MethodName := ⟨RX1, "taken", "(I)I"⟩
abbrev cX1_flowBelow : ByteArray := prog_3_method_13_code
def yX1_flowBelow : MethodName := ⟨RX1, "flowBelow", "(I)I"⟩
abbrev cX1_addNode : ByteArray := prog_3_method_14_code
def yX1_addNode : MethodName := ⟨RX1, "addNode", "(II)I"⟩
abbrev cX1_setBackground : ByteArray := prog_3_method_15_code
def yX1_setBackground : MethodName := ⟨RX1, "setBackground", "(II)I"⟩
abbrev cX1_setPressure : ByteArray := prog_3_method_16_code
def yX1_setPressure : MethodName := ⟨RX1, "setPressure", "(II)I"⟩
abbrev cX1_addMeter : ByteArray := prog_3_method_17_code
def yX1_addMeter : MethodName := ⟨RX1, "addMeter", "(I)Z"⟩
abbrev cX1_toggleValve : ByteArray := prog_3_method_18_code
def yX1_toggleValve : MethodName := ⟨RX1, "toggleValve", "(I)Z"⟩
abbrev cX1_isSupplied : ByteArray := prog_3_method_19_code
def yX1_isSupplied : MethodName := ⟨RX1, "isSupplied", "(I)Z"⟩
abbrev cX1_takes : ByteArray := prog_3_method_20_code
def yX1_takes : MethodName := ⟨RX1, "takes", "(I)I"⟩
abbrev cX1_flow : ByteArray := prog_3_method_21_code
def yX1_flow : MethodName := ⟨RX1, "flow", "(I)I"⟩
abbrev cX1_allFlow : ByteArray := prog_3_method_22_code
def yX1_allFlow : MethodName := ⟨RX1, "allFlow", "()I"⟩
abbrev cX1_isArea : ByteArray := prog_3_method_23_code
def yX1_isArea : MethodName := ⟨RX1, "isArea", "(I)Z"⟩
abbrev cX1_isExport : ByteArray := prog_3_method_24_code
def yX1_isExport : MethodName := ⟨RX1, "isExport", "(II)Z"⟩
abbrev cX1_isWithin : ByteArray := prog_3_method_25_code
def yX1_isWithin : MethodName := ⟨RX1, "isWithin", "(II)Z"⟩
abbrev cX1_many : ByteArray := prog_3_method_26_code
def yX1_many : MethodName := ⟨RX1, "many", "(I)I"⟩
abbrev cX1_addArea : ByteArray := prog_3_method_27_code
def yX1_addArea : MethodName := ⟨RX1, "addArea", "(I)I"⟩
abbrev cX1_addExport : ByteArray := prog_3_method_28_code
def yX1_addExport : MethodName := ⟨RX1, "addExport", "(II)I"⟩
abbrev cX1_nodes : ByteArray := prog_3_method_29_code
def yX1_nodes : MethodName := ⟨RX1, "nodes", "(I)I"⟩
abbrev cX1_counts : ByteArray := prog_3_method_30_code
def yX1_counts : MethodName := ⟨RX1, "counts", "(II)Z"⟩
abbrev cX1_areaFlow : ByteArray := prog_3_method_31_code
def yX1_areaFlow : MethodName := ⟨RX1, "areaFlow", "(I)I"⟩
abbrev cX1_takenBy : ByteArray := prog_3_method_32_code
def yX1_takenBy : MethodName := ⟨RX1, "takenBy", "(I)I"⟩
abbrev cX1_areaTakes : ByteArray := prog_3_method_33_code
def yX1_areaTakes : MethodName := ⟨RX1, "areaTakes", "(I)I"⟩
abbrev cX1_loss : ByteArray := prog_3_method_34_code
def yX1_loss : MethodName := ⟨RX1, "loss", "(I)I"⟩
abbrev cX1_pipe : ByteArray := prog_3_method_35_code
def yX1_pipe : MethodName := ⟨RX1, "pipe", "(II)I"⟩
abbrev cX1_steps : ByteArray := prog_3_method_36_code
def yX1_steps : MethodName := ⟨RX1, "steps", "(I)I"⟩
abbrev cX1_isStep : ByteArray := prog_3_method_37_code
def yX1_isStep : MethodName := ⟨RX1, "isStep", "(II)Z"⟩
abbrev cX1_stepPipe : ByteArray := prog_3_method_38_code
def yX1_stepPipe : MethodName := ⟨RX1, "stepPipe", "(II)I"⟩
abbrev cX1_drop : ByteArray := prog_3_method_39_code
def yX1_drop : MethodName := ⟨RX1, "drop", "(II)I"⟩
abbrev cX1_burst : ByteArray := prog_3_method_40_code
def yX1_burst : MethodName := ⟨RX1, "burst", "(III)I"⟩
abbrev cX1_isBurst : ByteArray := prog_3_method_41_code
def yX1_isBurst : MethodName := ⟨RX1, "isBurst", "(I)Z"⟩
abbrev cX1_costs : ByteArray := prog_3_method_42_code
def yX1_costs : MethodName := ⟨RX1, "costs", "(I)I"⟩
abbrev cX1_repair : ByteArray := prog_3_method_43_code
def yX1_repair : MethodName := ⟨RX1, "repair", "(I)I"⟩
abbrev cX1_cost : ByteArray := prog_3_method_44_code
def yX1_cost : MethodName := ⟨RX1, "cost", "(I)I"⟩
abbrev cX1_isAhead : ByteArray := prog_3_method_45_code
def yX1_isAhead : MethodName := ⟨RX1, "isAhead", "(II)Z"⟩
abbrev cX1_rank : ByteArray := prog_3_method_46_code
def yX1_rank : MethodName := ⟨RX1, "rank", "(I)I"⟩
abbrev cX1_ranked : ByteArray := prog_3_method_47_code
def yX1_ranked : MethodName := ⟨RX1, "ranked", "(I)I"⟩
abbrev cX1_plan : ByteArray := prog_3_method_48_code
def yX1_plan : MethodName := ⟨RX1, "plan", "(I)I"⟩
def RJ6 : String := "java/lang/Integer"
def TJ6 : u_T := fun k => match k with
  | _ => ("", "", "", false)
def tyJ6 : Nat → FieldType := fun k => match k with
  | _ => .int
abbrev wsJ60 : List Cond := u_ws RJ6 TJ6 0
theorem nmJ6 : ∀ a, a < 0 → ∀ b, b < 0 → a ≠ b → (TJ6 a).2.1 ≠ (TJ6 b).2.1 := by decide +kernel
theorem tyJ6_ok : ∀ k, k < 0 → parseFieldDescriptor (TJ6 k).2.2.1 = some (tyJ6 k) := by decide +kernel
abbrev cJ6_bitCount_0f7a4 : ByteArray := prog_8_method_49_code
def yJ6_bitCount_0f7a4 : MethodName := ⟨RJ6, "bitCount", "(I)I"⟩
def RJ0 : String := "java/lang/String"
def TJ0 : u_T := fun k => match k with
  | _ => ("", "", "", false)
def tyJ0 : Nat → FieldType := fun k => match k with
  | _ => .int
abbrev wsJ00 : List Cond := u_ws RJ0 TJ0 0
theorem nmJ0 : ∀ a, a < 0 → ∀ b, b < 0 → a ≠ b → (TJ0 a).2.1 ≠ (TJ0 b).2.1 := by decide +kernel
theorem tyJ0_ok : ∀ k, k < 0 → parseFieldDescriptor (TJ0 k).2.2.1 = some (tyJ0 k) := by decide +kernel
def RL : String := "DistrictmeterLaw"
abbrev cL_addNode : ByteArray := method_3_code
def yL_addNode : MethodName := ⟨RL, "addNode", "(LDistrictmeter;II[J)I"⟩
abbrev cL_setBackground : ByteArray := method_4_code
def yL_setBackground : MethodName := ⟨RL, "setBackground", "(LDistrictmeter;II[J)I"⟩
abbrev cL_setPressure : ByteArray := method_5_code
def yL_setPressure : MethodName := ⟨RL, "setPressure", "(LDistrictmeter;II[J)I"⟩
abbrev cL_addMeter : ByteArray := method_6_code
def yL_addMeter : MethodName := ⟨RL, "addMeter", "(LDistrictmeter;I[J)I"⟩
abbrev cL_toggleValve : ByteArray := method_7_code
def yL_toggleValve : MethodName := ⟨RL, "toggleValve", "(LDistrictmeter;I[J)I"⟩
abbrev cL_isSupplied : ByteArray := method_8_code
def yL_isSupplied : MethodName := ⟨RL, "isSupplied", "(LDistrictmeter;I[J)I"⟩
abbrev cL_takes : ByteArray := method_9_code
def yL_takes : MethodName := ⟨RL, "takes", "(LDistrictmeter;I[J)I"⟩
abbrev cL_flow : ByteArray := method_10_code
def yL_flow : MethodName := ⟨RL, "flow", "(LDistrictmeter;I[J)I"⟩
abbrev cL_addArea : ByteArray := method_11_code
def yL_addArea : MethodName := ⟨RL, "addArea", "(LDistrictmeter;I[J)I"⟩
abbrev cL_addExport : ByteArray := method_12_code
def yL_addExport : MethodName := ⟨RL, "addExport", "(LDistrictmeter;II[J)I"⟩
abbrev cL_nodes : ByteArray := method_13_code
def yL_nodes : MethodName := ⟨RL, "nodes", "(LDistrictmeter;I[J)I"⟩
abbrev cL_areaFlow : ByteArray := method_14_code
def yL_areaFlow : MethodName := ⟨RL, "areaFlow", "(LDistrictmeter;I[J)I"⟩
abbrev cL_areaTakes : ByteArray := method_15_code
def yL_areaTakes : MethodName := ⟨RL, "areaTakes", "(LDistrictmeter;I[J)I"⟩
abbrev cL_loss : ByteArray := method_16_code
def yL_loss : MethodName := ⟨RL, "loss", "(LDistrictmeter;I[J)I"⟩
abbrev cL_steps : ByteArray := method_17_code
def yL_steps : MethodName := ⟨RL, "steps", "(LDistrictmeter;I[J)I"⟩
abbrev cL_stepPipe : ByteArray := method_18_code
def yL_stepPipe : MethodName := ⟨RL, "stepPipe", "(LDistrictmeter;II[J)I"⟩
abbrev cL_drop : ByteArray := method_19_code
def yL_drop : MethodName := ⟨RL, "drop", "(LDistrictmeter;II[J)I"⟩
abbrev cL_burst : ByteArray := method_20_code
def yL_burst : MethodName := ⟨RL, "burst", "(LDistrictmeter;III[J)I"⟩
abbrev cL_repair : ByteArray := method_21_code
def yL_repair : MethodName := ⟨RL, "repair", "(LDistrictmeter;I[J)I"⟩
abbrev cL_cost : ByteArray := method_22_code
def yL_cost : MethodName := ⟨RL, "cost", "(LDistrictmeter;I[J)I"⟩
abbrev cL_ranked : ByteArray := method_23_code
def yL_ranked : MethodName := ⟨RL, "ranked", "(LDistrictmeter;I[J)I"⟩
abbrev cL_plan : ByteArray := method_24_code
def yL_plan : MethodName := ⟨RL, "plan", "(LDistrictmeter;I[J)I"⟩
abbrev cL_law : ByteArray := code
def yL_law : MethodName := ⟨RL, "law", "([I)Z"⟩
abbrev vwCl : List vw_C := [(RX0, TX0, 17), (RX1, TX1, 17)]
end
section
abbrev PE : Type := Nat × Instr × Nat × Nat
def TT : List Cond := lw_tbl.filter goodWord
def mYs : List MethodName := [yX0_init, yX0_addNode, yX0_setBackground, yX0_setPressure, yX0_addMeter, yX0_toggleValve, yX0_isSupplied, yX0_takes, yX0_flow, yX0_allFlow, yX0_addArea, yX0_addExport, yX0_nodes, yX0_areaFlow, yX0_areaTakes, yX0_loss, yX0_steps, yX0_stepPipe, yX0_drop, yX0_burst, yX0_repair, yX0_cost, yX0_ranked, yX0_plan, yX0_needRange, yX0_needRoom, yX0_needNode, yX0_needPipe, yX0_needArea, yX0_needBurst, yX0_has, yX0_pipesAbove, yX0_isOpenTo, yX0_pressureAt, yX0_factorFor, yX0_leakageOf, yX0_amountAt, yX0_leakageAt, yX0_takenAt, yX0_takenBy, yX0_usedBy, yX0_flowTo, yX0_nodesOf, yX0_outerExports, yX0_pipesToShut, yX0_pipeOfStep, yX0_costOf, yX0_rankBursts, yX0_insertByRank, yX0_isAhead, yX1_init, yX1_thrown, yX1_fails, yX1_tells, yX1_isIn, yX1_isNode, yX1_isPipe, yX1_isBelow, yX1_supplied, yX1_pressureAt, yX1_leaks, yX1_taken, yX1_flowBelow, yX1_addNode, yX1_setBackground, yX1_setPressure, yX1_addMeter, yX1_toggleValve, yX1_isSupplied, yX1_takes, yX1_flow, yX1_allFlow, yX1_isArea, yX1_isExport, yX1_isWithin, yX1_many, yX1_addArea, yX1_addExport, yX1_nodes, yX1_counts, yX1_areaFlow, yX1_takenBy, yX1_areaTakes, yX1_loss, yX1_pipe, yX1_steps, yX1_isStep, yX1_stepPipe, yX1_drop, yX1_burst, yX1_isBurst, yX1_costs, yX1_repair, yX1_cost, yX1_isAhead, yX1_rank, yX1_ranked, yX1_plan, yL_addNode, yL_setBackground, yL_setPressure, yL_addMeter, yL_toggleValve, yL_isSupplied, yL_takes, yL_flow, yL_addArea, yL_addExport, yL_nodes, yL_areaFlow, yL_areaTakes, yL_loss, yL_steps, yL_stepPipe, yL_drop, yL_burst, yL_repair, yL_cost, yL_ranked, yL_plan, yL_law, yJ6_bitCount_0f7a4]
def mBs : List ByteArray := [cX0_init, cX0_addNode, cX0_setBackground, cX0_setPressure, cX0_addMeter, cX0_toggleValve, cX0_isSupplied, cX0_takes, cX0_flow, cX0_allFlow, cX0_addArea, cX0_addExport, cX0_nodes, cX0_areaFlow, cX0_areaTakes, cX0_loss, cX0_steps, cX0_stepPipe, cX0_drop, cX0_burst, cX0_repair, cX0_cost, cX0_ranked, cX0_plan, cX0_needRange, cX0_needRoom, cX0_needNode, cX0_needPipe, cX0_needArea, cX0_needBurst, cX0_has, cX0_pipesAbove, cX0_isOpenTo, cX0_pressureAt, cX0_factorFor, cX0_leakageOf, cX0_amountAt, cX0_leakageAt, cX0_takenAt, cX0_takenBy, cX0_usedBy, cX0_flowTo, cX0_nodesOf, cX0_outerExports, cX0_pipesToShut, cX0_pipeOfStep, cX0_costOf, cX0_rankBursts, cX0_insertByRank, cX0_isAhead, cX1_init, cX1_thrown, cX1_fails, cX1_tells, cX1_isIn, cX1_isNode, cX1_isPipe, cX1_isBelow, cX1_supplied, cX1_pressureAt, cX1_leaks, cX1_taken, cX1_flowBelow, cX1_addNode, cX1_setBackground, cX1_setPressure, cX1_addMeter, cX1_toggleValve, cX1_isSupplied, cX1_takes, cX1_flow, cX1_allFlow, cX1_isArea, cX1_isExport, cX1_isWithin, cX1_many, cX1_addArea, cX1_addExport, cX1_nodes, cX1_counts, cX1_areaFlow, cX1_takenBy, cX1_areaTakes, cX1_loss, cX1_pipe, cX1_steps, cX1_isStep, cX1_stepPipe, cX1_drop, cX1_burst, cX1_isBurst, cX1_costs, cX1_repair, cX1_cost, cX1_isAhead, cX1_rank, cX1_ranked, cX1_plan, cL_addNode, cL_setBackground, cL_setPressure, cL_addMeter, cL_toggleValve, cL_isSupplied, cL_takes, cL_flow, cL_addArea, cL_addExport, cL_nodes, cL_areaFlow, cL_areaTakes, cL_loss, cL_steps, cL_stepPipe, cL_drop, cL_burst, cL_repair, cL_cost, cL_ranked, cL_plan, cL_law, cJ6_bitCount_0f7a4]
def mLs : List Nat := [1, 4, 3, 3, 3, 2, 2, 2, 2, 1, 3, 4, 2, 7, 2, 3, 2, 3, 7, 5, 3, 2, 3, 7, 3, 2, 2, 2, 2, 2, 2, 2, 3, 4, 3, 3, 4, 2, 3, 5, 4, 4, 4, 4, 2, 6, 4, 3, 4, 3, 1, 1, 2, 2, 3, 2, 2, 4, 4, 3, 6, 2, 4, 3, 3, 3, 3, 2, 2, 2, 2, 1, 2, 3, 5, 4, 2, 5, 4, 3, 6, 4, 2, 4, 5, 3, 3, 3, 8, 5, 2, 4, 3, 2, 5, 5, 3, 6, 5, 5, 5, 4, 4, 4, 4, 4, 4, 5, 4, 4, 4, 4, 4, 5, 5, 6, 4, 4, 4, 4, 7, 1]
def mRs : List (Option FieldType) := [none, (some .int), (some .int), (some .int), (some .boolean), (some .boolean), (some .boolean), (some .int), (some .int), (some .int), (some .int), (some .int), (some .int), (some .int), (some .int), (some .int), (some .int), (some .int), (some .int), (some .int), (some .int), (some .int), (some .int), (some .int), none, none, none, none, none, none, (some .boolean), (some .int), (some .boolean), (some .int), (some .int), (some .int), (some .int), (some .int), (some .int), (some .int), (some .int), (some .int), (some .int), (some .int), (some .int), (some .int), (some .int), (some .int), none, (some .boolean), none, (some .int), (some .boolean), (some .int), (some .boolean), (some .boolean), (some .boolean), (some .boolean), (some .boolean), (some .int), (some .int), (some .int), (some .int), (some .int), (some .int), (some .int), (some .boolean), (some .boolean), (some .boolean), (some .int), (some .int), (some .int), (some .boolean), (some .boolean), (some .boolean), (some .int), (some .int), (some .int), (some .int), (some .boolean), (some .int), (some .int), (some .int), (some .int), (some .int), (some .int), (some .boolean), (some .int), (some .int), (some .int), (some .boolean), (some .int), (some .int), (some .int), (some .boolean), (some .int), (some .int), (some .int), (some .int), (some .int), (some .int), (some .int), (some .int), (some .int), (some .int), (some .int), (some .int), (some .int), (some .int), (some .int), (some .int), (some .int), (some .int), (some .int), (some .int), (some .int), (some .int), (some .int), (some .int), (some .int), (some .boolean), (some .int)]
def mHs : List (List (Nat × Nat × Nat × Nat)) := [[], [], [], [], [], [], [], [], [], [], [], [], [], [], [], [], [], [], [], [], [], [], [], [], [], [], [], [], [], [], [], [], [], [], [], [], [], [], [], [], [], [], [], [], [], [], [], [], [], [], [], [], [], [], [], [], [], [], [], [], [], [], [], [], [], [], [], [], [], [], [], [], [], [], [], [], [], [], [], [], [], [], [], [], [], [], [], [], [], [], [], [], [], [], [], [], [], [], [(0, 10, 13, 13), (0, 10, 17, 15), (0, 10, 21, 17)], [(0, 10, 13, 13), (0, 10, 17, 15)], [(0, 10, 13, 13), (0, 10, 17, 15)], [(0, 16, 19, 15)], [(0, 16, 19, 15)], [(0, 16, 19, 15)], [(0, 9, 12, 15)], [(0, 9, 12, 15), (0, 9, 15, 17)], [(0, 9, 12, 15), (0, 9, 15, 17)], [(0, 10, 13, 15), (0, 10, 17, 17)], [(0, 9, 12, 15)], [(0, 9, 12, 15), (0, 9, 15, 17)], [(0, 9, 12, 15)], [(0, 9, 12, 15)], [(0, 9, 12, 15)], [(0, 10, 13, 15)], [(0, 10, 13, 15)], [(0, 12, 15, 13), (0, 12, 19, 15), (0, 12, 23, 17)], [(0, 9, 12, 15), (0, 9, 15, 17)], [(0, 9, 12, 15)], [(0, 9, 12, 15)], [(0, 9, 12, 13)], [], []]
def mOs : List Nat := [0, 0, 0, 0, 0, 0, 0, 0, 0, 0, 0, 0, 0, 0, 0, 0, 0, 0, 0, 0, 0, 0, 0, 0, 0, 0, 0, 0, 0, 0, 0, 0, 0, 0, 0, 0, 0, 0, 0, 0, 0, 0, 0, 0, 0, 0, 0, 0, 0, 0, 1, 1, 1, 1, 1, 1, 1, 1, 1, 1, 1, 1, 1, 1, 1, 1, 1, 1, 1, 1, 1, 1, 1, 1, 1, 1, 1, 1, 1, 1, 1, 1, 1, 1, 1, 1, 1, 1, 1, 1, 1, 1, 1, 1, 1, 1, 1, 1, 2, 2, 2, 2, 2, 2, 2, 2, 2, 2, 2, 2, 2, 2, 2, 2, 2, 2, 2, 2, 2, 2, 2, 3]
def mNs : List Nat := [0, 2, 2, 2, 1, 1, 1, 1, 1, 0, 1, 2, 1, 1, 1, 1, 1, 2, 2, 3, 1, 1, 1, 1, 3, 2, 1, 1, 1, 1, 2, 2, 2, 1, 1, 2, 1, 1, 2, 2, 1, 1, 1, 1, 1, 2, 1, 0, 2, 2, 0, 0, 1, 1, 3, 1, 1, 2, 1, 1, 1, 1, 1, 2, 2, 2, 1, 1, 1, 1, 1, 0, 1, 2, 2, 1, 1, 2, 1, 2, 1, 1, 1, 1, 2, 1, 2, 2, 2, 3, 1, 1, 1, 1, 2, 1, 1, 1, 4, 4, 4, 3, 3, 3, 3, 3, 3, 4, 3, 3, 3, 3, 3, 4, 4, 5, 3, 3, 3, 3, 1, 1]
def mSs : List Bool := [false, false, false, false, false, false, false, false, false, false, false, false, false, false, false, false, false, false, false, false, false, false, false, false, true, true, false, false, false, false, true, true, false, false, true, false, false, false, false, false, false, false, false, false, false, false, false, false, false, false, false, false, false, false, true, false, false, false, false, false, false, false, false, false, false, false, false, false, false, false, false, false, false, false, false, false, false, false, false, false, false, false, false, false, false, false, false, false, false, false, false, false, false, false, false, false, false, false, true, true, true, true, true, true, true, true, true, true, true, true, true, true, true, true, true, true, true, true, true, true, false, true]
def mFs : List Nat := [1, 7, 7, 7, 7, 7, 7, 7, 7, 6, 7, 7, 7, 7, 7, 7, 7, 7, 7, 7, 7, 7, 6, 7, 6, 6, 6, 6, 6, 6, 0, 0, 0, 1, 0, 2, 1, 3, 4, 5, 1, 5, 1, 0, 2, 6, 3, 4, 1, 0, 1, 0, 0, 0, 0, 1, 1, 0, 0, 0, 1, 2, 3, 2, 2, 2, 2, 2, 2, 3, 4, 4, 1, 0, 1, 2, 2, 3, 2, 2, 4, 3, 4, 2, 2, 3, 3, 4, 4, 2, 1, 3, 4, 4, 4, 5, 6, 6, 8, 8, 8, 8, 8, 8, 8, 8, 8, 8, 8, 8, 8, 8, 8, 8, 8, 8, 8, 8, 7, 8, 11, 0]
def mLos : List Nat := [20, 112, 112, 112, 111, 111, 111, 111, 132, 132, 111, 111, 111, 132, 133, 133, 111, 115, 133, 112, 111, 111, 111, 112, 90, 90, 90, 90, 90, 90, 0, 0, 0, 21, 0, 44, 21, 66, 87, 109, 22, 109, 21, 0, 44, 90, 66, 89, 22, 0, 20, 0, 0, 0, 0, 22, 22, 0, 0, 0, 22, 47, 68, 43, 47, 43, 43, 43, 43, 68, 91, 91, 22, 0, 23, 47, 43, 70, 47, 47, 91, 68, 91, 47, 47, 71, 71, 93, 93, 43, 22, 68, 91, 91, 91, 115, 139, 139, 135, 134, 134, 133, 132, 132, 132, 153, 133, 134, 132, 158, 154, 155, 132, 137, 159, 136, 133, 132, 133, 138, 400, 0]
def pg0 : List PE := [(0, .aload_n 0, 1, 0), (1, .invokespecial 1, 4, 0), (4, .aload_n 0, 5, 0), (5, .bipush 16, 7, 0), (7, .newarray .int, 9, 0), (9, .putfield 9, 12, 1), (12, .aload_n 0, 13, 0), (13, .bipush 16, 15, 0), (15, .newarray .int, 17, 0), (17, .putfield 13, 20, 2), (20, .aload_n 0, 21, 0), (21, .bipush 16, 23, 0), (23, .newarray .int, 25, 0), (25, .putfield 16, 28, 3), (28, .aload_n 0, 29, 0), (29, .bipush 16, 31, 0), (31, .newarray .int, 33, 0), (33, .putfield 19, 36, 4), (36, .aload_n 0, 37, 0), (37, .bipush 8, 39, 0), (39, .newarray .int, 41, 0), (41, .putfield 22, 44, 8), (44, .aload_n 0, 45, 0), (45, .bipush 8, 47, 0), (47, .newarray .int, 49, 0), (49, .putfield 25, 52, 9), (52, .aload_n 0, 53, 0), (53, .bipush 20, 55, 0), (55, .newarray .int, 57, 0), (57, .putfield 28, 60, 11), (60, .aload_n 0, 61, 0), (61, .bipush 20, 63, 0), (63, .newarray .int, 65, 0), (65, .putfield 31, 68, 12), (68, .aload_n 0, 69, 0), (69, .bipush 20, 71, 0), (71, .newarray .int, 73, 0), (73, .putfield 34, 76, 13), (76, .aload_n 0, 77, 0), (77, .bipush 20, 79, 0), (79, .newarray .int, 81, 0), (81, .putfield 37, 84, 15), (84, .aload_n 0, 85, 0), (85, .bipush 20, 87, 0), (87, .newarray .int, 89, 0), (89, .putfield 40, 92, 16), (92, .aload_n 0, 93, 0), (93, .iconst 1, 94, 0), (94, .putfield 43, 97, 0), (97, .aload_n 0, 98, 0), (98, .getfield 9, 101, 1), (101, .iconst 0, 102, 0), (102, .iconst 1, 103, 0), (103, .iastore, 104, 0), (104, .return_, 105, 0)]
def pg1 : List PE := [(0, .iload_n 2, 1, 0), (1, .iconst 0, 2, 0), (2, .sipush 10000, 5, 0), (5, .invokestatic 47, 8, 24), (8, .aload_n 0, 9, 0), (9, .iload_n 1, 10, 0), (10, .invokevirtual 51, 13, 26), (13, .aload_n 0, 14, 0), (14, .getfield 43, 17, 0), (17, .bipush 16, 19, 0), (19, .invokestatic 55, 22, 25), (22, .aload_n 0, 23, 0), (23, .getfield 43, 26, 0), (26, .istore_n 3, 27, 0), (27, .aload_n 0, 28, 0), (28, .getfield 9, 31, 1), (31, .iload_n 3, 32, 0), (32, .aload_n 0, 33, 0), (33, .getfield 9, 36, 1), (36, .iload_n 1, 37, 0), (37, .iaload, 38, 0), (38, .iconst 1, 39, 0), (39, .iload_n 3, 40, 0), (40, .ishl, 41, 0), (41, .ior, 42, 0), (42, .iastore, 43, 0), (43, .aload_n 0, 44, 0), (44, .getfield 13, 47, 2), (47, .iload_n 3, 48, 0), (48, .iload_n 2, 49, 0), (49, .iastore, 50, 0), (50, .aload_n 0, 51, 0), (51, .getfield 19, 54, 4), (54, .iload_n 3, 55, 0), (55, .iconst (-1), 56, 0), (56, .iastore, 57, 0), (57, .aload_n 0, 58, 0), (58, .iload_n 3, 59, 0), (59, .iconst 1, 60, 0), (60, .iadd, 61, 0), (61, .putfield 43, 64, 0), (64, .iload_n 3, 65, 0), (65, .ireturn, 66, 0)]
def pg2 : List PE := [(0, .iload_n 2, 1, 0), (1, .iconst 0, 2, 0), (2, .sipush 10000, 5, 0), (5, .invokestatic 47, 8, 24), (8, .aload_n 0, 9, 0), (9, .iload_n 1, 10, 0), (10, .invokevirtual 51, 13, 26), (13, .aload_n 0, 14, 0), (14, .getfield 16, 17, 3), (17, .iload_n 1, 18, 0), (18, .iload_n 2, 19, 0), (19, .iastore, 20, 0), (20, .aload_n 0, 21, 0), (21, .iload_n 1, 22, 0), (22, .invokevirtual 59, 25, 37), (25, .ireturn, 26, 0)]
def pg3 : List PE := [(0, .iload_n 2, 1, 0), (1, .iconst (-1), 2, 0), (2, .bipush 100, 4, 0), (4, .invokestatic 47, 7, 24), (7, .aload_n 0, 8, 0), (8, .iload_n 1, 9, 0), (9, .invokevirtual 63, 12, 27), (12, .aload_n 0, 13, 0), (13, .getfield 19, 16, 4), (16, .iload_n 1, 17, 0), (17, .iload_n 2, 18, 0), (18, .iastore, 19, 0), (19, .aload_n 0, 20, 0), (20, .iload_n 1, 21, 0), (21, .invokevirtual 66, 24, 33), (24, .ireturn, 25, 0)]
def pg4 : List PE := [(0, .aload_n 0, 1, 0), (1, .iload_n 1, 2, 0), (2, .invokevirtual 63, 5, 27), (5, .aload_n 0, 6, 0), (6, .getfield 69, 9, 5), (9, .iload_n 1, 10, 0), (10, .invokestatic 72, 13, 30), (13, .ifCond .ne 7, 16, 20), (16, .iconst 1, 17, 0), (17, .goto 4, 20, 21), (20, .iconst 0, 21, 0), (21, .istore_n 2, 22, 0), (22, .aload_n 0, 23, 0), (23, .dup, 24, 0), (24, .getfield 69, 27, 5), (27, .iconst 1, 28, 0), (28, .iload_n 1, 29, 0), (29, .ishl, 30, 0), (30, .ior, 31, 0), (31, .putfield 69, 34, 5), (34, .iload_n 2, 35, 0), (35, .ireturn, 36, 0)]
def pg5 : List PE := [(0, .aload_n 0, 1, 0), (1, .iload_n 1, 2, 0), (2, .invokevirtual 63, 5, 27), (5, .aload_n 0, 6, 0), (6, .dup, 7, 0), (7, .getfield 76, 10, 6), (10, .iconst 1, 11, 0), (11, .iload_n 1, 12, 0), (12, .ishl, 13, 0), (13, .ixor, 14, 0), (14, .putfield 76, 17, 6), (17, .aload_n 0, 18, 0), (18, .getfield 76, 21, 6), (21, .iload_n 1, 22, 0), (22, .invokestatic 72, 25, 30), (25, .ifCond .ne 7, 28, 32), (28, .iconst 1, 29, 0), (29, .goto 4, 32, 33), (32, .iconst 0, 33, 0), (33, .ireturn, 34, 0)]
def pg6 : List PE := [(0, .aload_n 0, 1, 0), (1, .iload_n 1, 2, 0), (2, .invokevirtual 51, 5, 26), (5, .aload_n 0, 6, 0), (6, .iload_n 1, 7, 0), (7, .aload_n 0, 8, 0), (8, .getfield 76, 11, 6), (11, .invokevirtual 79, 14, 32), (14, .ireturn, 15, 0)]
def pg7 : List PE := [(0, .aload_n 0, 1, 0), (1, .iload_n 1, 2, 0), (2, .invokevirtual 51, 5, 26), (5, .aload_n 0, 6, 0), (6, .iload_n 1, 7, 0), (7, .aload_n 0, 8, 0), (8, .getfield 76, 11, 6), (11, .invokevirtual 82, 14, 38), (14, .ireturn, 15, 0)]
def pg8 : List PE := [(0, .aload_n 0, 1, 0), (1, .iload_n 1, 2, 0), (2, .invokevirtual 63, 5, 27), (5, .aload_n 0, 6, 0), (6, .getfield 69, 9, 5), (9, .iload_n 1, 10, 0), (10, .invokestatic 72, 13, 30), (13, .ifCond .ne 13, 16, 26), (16, .new 86, 19, 2), (19, .dup, 20, 0), (20, .ldc 88, 22, 0), (22, .invokespecial 90, 25, 0), (25, .athrow, 26, 0), (26, .aload_n 0, 27, 0), (27, .iload_n 1, 28, 0), (28, .invokevirtual 93, 31, 41), (31, .ireturn, 32, 0)]
def pg9 : List PE := [(0, .aload_n 0, 1, 0), (1, .iconst 0, 2, 0), (2, .invokevirtual 93, 5, 41), (5, .ireturn, 6, 0)]
def pg10 : List PE := [(0, .aload_n 0, 1, 0), (1, .iload_n 1, 2, 0), (2, .invokevirtual 51, 5, 26), (5, .aload_n 0, 6, 0), (6, .getfield 96, 9, 7), (9, .bipush 8, 11, 0), (11, .invokestatic 55, 14, 25), (14, .aload_n 0, 15, 0), (15, .getfield 96, 18, 7), (18, .istore_n 2, 19, 0), (19, .aload_n 0, 20, 0), (20, .getfield 22, 23, 8), (23, .iload_n 2, 24, 0), (24, .iload_n 1, 25, 0), (25, .iastore, 26, 0), (26, .aload_n 0, 27, 0), (27, .iload_n 2, 28, 0), (28, .iconst 1, 29, 0), (29, .iadd, 30, 0), (30, .putfield 96, 33, 7), (33, .iload_n 2, 34, 0), (34, .ireturn, 35, 0)]
def pg11 : List PE := [(0, .aload_n 0, 1, 0), (1, .iload_n 1, 2, 0), (2, .invokevirtual 99, 5, 28), (5, .aload_n 0, 6, 0), (6, .iload_n 2, 7, 0), (7, .invokevirtual 51, 10, 26), (10, .aload_n 0, 11, 0), (11, .getfield 22, 14, 8), (14, .iload_n 1, 15, 0), (15, .iaload, 16, 0), (16, .istore_n 3, 17, 0), (17, .iload_n 2, 18, 0), (18, .iload_n 3, 19, 0), (19, .if_icmp .eq 29, 22, 48), (22, .aload_n 0, 23, 0), (23, .getfield 9, 26, 1), (26, .iload_n 2, 27, 0), (27, .iaload, 28, 0), (28, .iload_n 3, 29, 0), (29, .invokestatic 72, 32, 30), (32, .ifCond .eq 16, 35, 48), (35, .aload_n 0, 36, 0), (36, .getfield 25, 39, 9), (39, .iload_n 1, 40, 0), (40, .iaload, 41, 0), (41, .iload_n 2, 42, 0), (42, .invokestatic 72, 45, 30), (45, .ifCond .eq 13, 48, 58), (48, .new 86, 51, 2), (51, .dup, 52, 0), (52, .ldc 102, 54, 0), (54, .invokespecial 90, 57, 0), (57, .athrow, 58, 0), (58, .aload_n 0, 59, 0), (59, .getfield 25, 62, 9), (62, .iload_n 1, 63, 0), (63, .dup2, 64, 0), (64, .iaload, 65, 0), (65, .iconst 1, 66, 0), (66, .iload_n 2, 67, 0), (67, .ishl, 68, 0), (68, .ior, 69, 0), (69, .iastore, 70, 0), (70, .aload_n 0, 71, 0), (71, .iload_n 1, 72, 0), (72, .invokevirtual 104, 75, 42), (75, .invokestatic 107, 78, 121), (78, .ireturn, 79, 0)]
def pg12 : List PE := [(0, .aload_n 0, 1, 0), (1, .iload_n 1, 2, 0), (2, .invokevirtual 99, 5, 28), (5, .aload_n 0, 6, 0), (6, .iload_n 1, 7, 0), (7, .invokevirtual 104, 10, 42), (10, .ireturn, 11, 0)]
def pg13 : List PE := [(0, .aload_n 0, 1, 0), (1, .iload_n 1, 2, 0), (2, .invokevirtual 99, 5, 28), (5, .aload_n 0, 6, 0), (6, .getfield 22, 9, 8), (9, .iload_n 1, 10, 0), (10, .iaload, 11, 0), (11, .istore_n 2, 12, 0), (12, .aload_n 0, 13, 0), (13, .iload_n 1, 14, 0), (14, .invokevirtual 112, 17, 43), (17, .istore_n 3, 18, 0), (18, .iload_n 3, 19, 0), (19, .iconst 1, 20, 0), (20, .iload_n 2, 21, 0), (21, .ishl, 22, 0), (22, .ior, 23, 0), (23, .bipush (-2), 25, 0), (25, .iand, 26, 0), (26, .istore 4, 28, 0), (28, .iload 4, 30, 0), (30, .aload_n 0, 31, 0), (31, .getfield 69, 34, 5), (34, .iconst (-1), 35, 0), (35, .ixor, 36, 0), (36, .iand, 37, 0), (37, .ifCond .eq 13, 40, 50), (40, .new 86, 43, 2), (43, .dup, 44, 0), (44, .ldc 115, 46, 0), (46, .invokespecial 90, 49, 0), (49, .athrow, 50, 0), (50, .aload_n 0, 51, 0), (51, .iload_n 2, 52, 0), (52, .invokevirtual 93, 55, 41), (55, .istore 5, 57, 0), (57, .iconst 0, 58, 0), (58, .istore 6, 60, 0), (60, .iload 6, 62, 0), (62, .aload_n 0, 63, 0), (63, .getfield 43, 66, 0), (66, .if_icmp .ge 29, 69, 95), (69, .iload_n 3, 70, 0), (70, .iload 6, 72, 0), (72, .invokestatic 72, 75, 30), (75, .ifCond .eq 14, 78, 89), (78, .iload 5, 80, 0), (80, .aload_n 0, 81, 0), (81, .iload 6, 83, 0), (83, .invokevirtual 93, 86, 41), (86, .isub, 87, 0), (87, .istore 5, 89, 0), (89, .iinc 6 1, 92, 0), (92, .goto (-32), 95, 60), (95, .iload 5, 97, 0), (97, .ireturn, 98, 0)]
def pg14 : List PE := [(0, .aload_n 0, 1, 0), (1, .iload_n 1, 2, 0), (2, .invokevirtual 99, 5, 28), (5, .aload_n 0, 6, 0), (6, .aload_n 0, 7, 0), (7, .iload_n 1, 8, 0), (8, .invokevirtual 104, 11, 42), (11, .aload_n 0, 12, 0), (12, .getfield 76, 15, 6), (15, .invokevirtual 117, 18, 39), (18, .ireturn, 19, 0)]
def pg15 : List PE := [(0, .aload_n 0, 1, 0), (1, .iload_n 1, 2, 0), (2, .invokevirtual 99, 5, 28), (5, .aload_n 0, 6, 0), (6, .iload_n 1, 7, 0), (7, .invokevirtual 104, 10, 42), (10, .istore_n 2, 11, 0), (11, .aload_n 0, 12, 0), (12, .iload_n 2, 13, 0), (13, .aload_n 0, 14, 0), (14, .getfield 76, 17, 6), (17, .invokevirtual 117, 20, 39), (20, .aload_n 0, 21, 0), (21, .iload_n 2, 22, 0), (22, .invokevirtual 120, 25, 40), (25, .isub, 26, 0), (26, .ireturn, 27, 0)]
def pg16 : List PE := [(0, .aload_n 0, 1, 0), (1, .iload_n 1, 2, 0), (2, .invokevirtual 99, 5, 28), (5, .aload_n 0, 6, 0), (6, .iload_n 1, 7, 0), (7, .invokevirtual 123, 10, 44), (10, .invokestatic 107, 13, 121), (13, .ireturn, 14, 0)]
def pg17 : List PE := [(0, .aload_n 0, 1, 0), (1, .iload_n 1, 2, 0), (2, .invokevirtual 99, 5, 28), (5, .aload_n 0, 6, 0), (6, .iload_n 1, 7, 0), (7, .iload_n 2, 8, 0), (8, .invokevirtual 126, 11, 45), (11, .ireturn, 12, 0)]
def pg18 : List PE := [(0, .aload_n 0, 1, 0), (1, .iload_n 1, 2, 0), (2, .invokevirtual 99, 5, 28), (5, .aload_n 0, 6, 0), (6, .iload_n 1, 7, 0), (7, .iload_n 2, 8, 0), (8, .invokevirtual 126, 11, 45), (11, .istore_n 3, 12, 0), (12, .aload_n 0, 13, 0), (13, .getfield 76, 16, 6), (16, .aload_n 0, 17, 0), (17, .iload_n 1, 18, 0), (18, .invokevirtual 123, 21, 44), (21, .iload_n 3, 22, 0), (22, .invokestatic 129, 25, 31), (25, .ior, 26, 0), (26, .istore 4, 28, 0), (28, .iload 4, 30, 0), (30, .iconst 1, 31, 0), (31, .iload_n 3, 32, 0), (32, .ishl, 33, 0), (33, .ior, 34, 0), (34, .istore 5, 36, 0), (36, .aload_n 0, 37, 0), (37, .iload_n 1, 38, 0), (38, .invokevirtual 104, 41, 42), (41, .istore 6, 43, 0), (43, .aload_n 0, 44, 0), (44, .iload 6, 46, 0), (46, .iload 4, 48, 0), (48, .invokevirtual 117, 51, 39), (51, .aload_n 0, 52, 0), (52, .iload 6, 54, 0), (54, .iload 5, 56, 0), (56, .invokevirtual 117, 59, 39), (59, .isub, 60, 0), (60, .ireturn, 61, 0)]
def pg19 : List PE := [(0, .iload_n 2, 1, 0), (1, .iconst 1, 2, 0), (2, .sipush 10000, 5, 0), (5, .invokestatic 47, 8, 24), (8, .iload_n 3, 9, 0), (9, .iconst 1, 10, 0), (10, .bipush 100, 12, 0), (12, .invokestatic 47, 15, 24), (15, .aload_n 0, 16, 0), (16, .iload_n 1, 17, 0), (17, .invokevirtual 51, 20, 26), (20, .aload_n 0, 21, 0), (21, .getfield 132, 24, 10), (24, .bipush 20, 26, 0), (26, .invokestatic 55, 29, 25), (29, .aload_n 0, 30, 0), (30, .getfield 132, 33, 10), (33, .istore 4, 35, 0), (35, .aload_n 0, 36, 0), (36, .getfield 28, 39, 11), (39, .iload 4, 41, 0), (41, .iload_n 1, 42, 0), (42, .iastore, 43, 0), (43, .aload_n 0, 44, 0), (44, .getfield 31, 47, 12), (47, .iload 4, 49, 0), (49, .iload_n 2, 50, 0), (50, .iastore, 51, 0), (51, .aload_n 0, 52, 0), (52, .getfield 34, 55, 13), (55, .iload 4, 57, 0), (57, .iload_n 3, 58, 0), (58, .iastore, 59, 0), (59, .aload_n 0, 60, 0), (60, .iload 4, 62, 0), (62, .iconst 1, 63, 0), (63, .iadd, 64, 0), (64, .putfield 132, 67, 10), (67, .iload 4, 69, 0), (69, .ireturn, 70, 0)]
def pg20 : List PE := [(0, .aload_n 0, 1, 0), (1, .iload_n 1, 2, 0), (2, .invokevirtual 135, 5, 29), (5, .aload_n 0, 6, 0), (6, .getfield 138, 9, 14), (9, .iload_n 1, 10, 0), (10, .invokestatic 72, 13, 30), (13, .ifCond .eq 13, 16, 26), (16, .new 86, 19, 2), (19, .dup, 20, 0), (20, .ldc 141, 22, 0), (22, .invokespecial 90, 25, 0), (25, .athrow, 26, 0), (26, .aload_n 0, 27, 0), (27, .iload_n 1, 28, 0), (28, .invokevirtual 143, 31, 46), (31, .istore_n 2, 32, 0), (32, .aload_n 0, 33, 0), (33, .dup, 34, 0), (34, .getfield 138, 37, 14), (37, .iconst 1, 38, 0), (38, .iload_n 1, 39, 0), (39, .ishl, 40, 0), (40, .ior, 41, 0), (41, .putfield 138, 44, 14), (44, .iload_n 2, 45, 0), (45, .ireturn, 46, 0)]
def pg21 : List PE := [(0, .aload_n 0, 1, 0), (1, .iload_n 1, 2, 0), (2, .invokevirtual 135, 5, 29), (5, .aload_n 0, 6, 0), (6, .iload_n 1, 7, 0), (7, .invokevirtual 143, 10, 46), (10, .ireturn, 11, 0)]
def pg22 : List PE := [(0, .aload_n 0, 1, 0), (1, .invokevirtual 146, 4, 47), (4, .istore_n 2, 5, 0), (5, .iload_n 1, 6, 0), (6, .ifCond .lt 8, 9, 14), (9, .iload_n 1, 10, 0), (10, .iload_n 2, 11, 0), (11, .if_icmp .lt 13, 14, 24), (14, .new 150, 17, 1), (17, .dup, 18, 0), (18, .ldc 152, 20, 0), (20, .invokespecial 154, 23, 0), (23, .athrow, 24, 0), (24, .aload_n 0, 25, 0), (25, .getfield 40, 28, 16), (28, .iload_n 1, 29, 0), (29, .iaload, 30, 0), (30, .ireturn, 31, 0)]
def pg23 : List PE := [(0, .iload_n 1, 1, 0), (1, .iconst 0, 2, 0), (2, .sipush 1000, 5, 0), (5, .invokestatic 47, 8, 24), (8, .aload_n 0, 9, 0), (9, .invokevirtual 146, 12, 47), (12, .istore_n 2, 13, 0), (13, .iload_n 1, 14, 0), (14, .istore_n 3, 15, 0), (15, .iconst 0, 16, 0), (16, .istore 4, 18, 0), (18, .iconst 0, 19, 0), (19, .istore 5, 21, 0), (21, .iload 5, 23, 0), (23, .iload_n 2, 24, 0), (24, .if_icmp .ge 48, 27, 72), (27, .aload_n 0, 28, 0), (28, .getfield 40, 31, 16), (31, .iload 5, 33, 0), (33, .iaload, 34, 0), (34, .istore 6, 36, 0), (36, .aload_n 0, 37, 0), (37, .getfield 34, 40, 13), (40, .iload 6, 42, 0), (42, .iaload, 43, 0), (43, .iload_n 3, 44, 0), (44, .if_icmp .gt 22, 47, 66), (47, .iload_n 3, 48, 0), (48, .aload_n 0, 49, 0), (49, .getfield 34, 52, 13), (52, .iload 6, 54, 0), (54, .iaload, 55, 0), (55, .isub, 56, 0), (56, .istore_n 3, 57, 0), (57, .iload 4, 59, 0), (59, .iconst 1, 60, 0), (60, .iload 6, 62, 0), (62, .ishl, 63, 0), (63, .ior, 64, 0), (64, .istore 4, 66, 0), (66, .iinc 5 1, 69, 0), (69, .goto (-48), 72, 21), (72, .iload 4, 74, 0), (74, .ireturn, 75, 0)]
def pg24 : List PE := [(0, .iload_n 0, 1, 0), (1, .iload_n 1, 2, 0), (2, .if_icmp .lt 8, 5, 10), (5, .iload_n 0, 6, 0), (6, .iload_n 2, 7, 0), (7, .if_icmp .le 13, 10, 20), (10, .new 155, 13, 0), (13, .dup, 14, 0), (14, .ldc 157, 16, 0), (16, .invokespecial 159, 19, 0), (19, .athrow, 20, 0), (20, .return_, 21, 0)]
def pg25 : List PE := [(0, .iload_n 0, 1, 0), (1, .iload_n 1, 2, 0), (2, .if_icmp .lt 13, 5, 15), (5, .new 86, 8, 2), (8, .dup, 9, 0), (9, .ldc 160, 11, 0), (11, .invokespecial 90, 14, 0), (14, .athrow, 15, 0), (15, .return_, 16, 0)]
def pg26 : List PE := [(0, .iload_n 1, 1, 0), (1, .ifCond .lt 11, 4, 12), (4, .iload_n 1, 5, 0), (5, .aload_n 0, 6, 0), (6, .getfield 43, 9, 0), (9, .if_icmp .lt 13, 12, 22), (12, .new 150, 15, 1), (15, .dup, 16, 0), (16, .ldc 162, 18, 0), (18, .invokespecial 154, 21, 0), (21, .athrow, 22, 0), (22, .return_, 23, 0)]
def pg27 : List PE := [(0, .iload_n 1, 1, 0), (1, .ifCond .le 11, 4, 12), (4, .iload_n 1, 5, 0), (5, .aload_n 0, 6, 0), (6, .getfield 43, 9, 0), (9, .if_icmp .lt 13, 12, 22), (12, .new 150, 15, 1), (15, .dup, 16, 0), (16, .ldc 164, 18, 0), (18, .invokespecial 154, 21, 0), (21, .athrow, 22, 0), (22, .return_, 23, 0)]
def pg28 : List PE := [(0, .iload_n 1, 1, 0), (1, .ifCond .lt 11, 4, 12), (4, .iload_n 1, 5, 0), (5, .aload_n 0, 6, 0), (6, .getfield 96, 9, 7), (9, .if_icmp .lt 13, 12, 22), (12, .new 150, 15, 1), (15, .dup, 16, 0), (16, .ldc 166, 18, 0), (18, .invokespecial 154, 21, 0), (21, .athrow, 22, 0), (22, .return_, 23, 0)]
def pg29 : List PE := [(0, .iload_n 1, 1, 0), (1, .ifCond .lt 11, 4, 12), (4, .iload_n 1, 5, 0), (5, .aload_n 0, 6, 0), (6, .getfield 132, 9, 10), (9, .if_icmp .lt 13, 12, 22), (12, .new 150, 15, 1), (15, .dup, 16, 0), (16, .ldc 168, 18, 0), (18, .invokespecial 154, 21, 0), (21, .athrow, 22, 0), (22, .return_, 23, 0)]
def pg30 : List PE := [(0, .iload_n 0, 1, 0), (1, .iconst 1, 2, 0), (2, .iload_n 1, 3, 0), (3, .ishl, 4, 0), (4, .iand, 5, 0), (5, .ifCond .eq 7, 8, 12), (8, .iconst 1, 9, 0), (9, .goto 4, 12, 13), (12, .iconst 0, 13, 0), (13, .ireturn, 14, 0)]
def pg31 : List PE := [(0, .iload_n 0, 1, 0), (1, .iconst (-1), 2, 0), (2, .iload_n 1, 3, 0), (3, .iconst 1, 4, 0), (4, .iadd, 5, 0), (5, .ishl, 6, 0), (6, .iand, 7, 0), (7, .ireturn, 8, 0)]
def pg32 : List PE := [(0, .aload_n 0, 1, 0), (1, .getfield 9, 4, 1), (4, .iload_n 1, 5, 0), (5, .iaload, 6, 0), (6, .iload_n 2, 7, 0), (7, .iand, 8, 0), (8, .ifCond .ne 7, 11, 15), (11, .iconst 1, 12, 0), (12, .goto 4, 15, 16), (15, .iconst 0, 16, 0), (16, .ireturn, 17, 0)]
def pg33 : List PE := [(0, .bipush 50, 2, 0), (2, .istore_n 2, 3, 0), (3, .iconst 1, 4, 0), (4, .istore_n 3, 5, 0), (5, .iload_n 3, 6, 0), (6, .iload_n 1, 7, 0), (7, .if_icmp .gt 39, 10, 46), (10, .aload_n 0, 11, 0), (11, .getfield 9, 14, 1), (14, .iload_n 1, 15, 0), (15, .iaload, 16, 0), (16, .iload_n 3, 17, 0), (17, .invokestatic 72, 20, 30), (20, .ifCond .eq 20, 23, 40), (23, .aload_n 0, 24, 0), (24, .getfield 19, 27, 4), (27, .iload_n 3, 28, 0), (28, .iaload, 29, 0), (29, .iconst (-1), 30, 0), (30, .if_icmp .eq 10, 33, 40), (33, .aload_n 0, 34, 0), (34, .getfield 19, 37, 4), (37, .iload_n 3, 38, 0), (38, .iaload, 39, 0), (39, .istore_n 2, 40, 0), (40, .iinc 3 1, 43, 0), (43, .goto (-38), 46, 5), (46, .iload_n 2, 47, 0), (47, .ireturn, 48, 0)]
def pg34 : List PE := [(0, .iload_n 0, 1, 0), (1, .bipush 10, 3, 0), (3, .idiv, 4, 0), (4, .istore_n 1, 5, 0), (5, .iload_n 1, 6, 0), (6, .ifCond .lt 13, 9, 19), (9, .iload_n 1, 10, 0), (10, .getstatic 170, 13, 0), (13, .arraylength, 14, 0), (14, .iconst 1, 15, 0), (15, .isub, 16, 0), (16, .if_icmp .lt 14, 19, 30), (19, .getstatic 170, 22, 0), (22, .getstatic 170, 25, 0), (25, .arraylength, 26, 0), (26, .iconst 1, 27, 0), (27, .isub, 28, 0), (28, .iaload, 29, 0), (29, .ireturn, 30, 0), (30, .getstatic 170, 33, 0), (33, .iload_n 1, 34, 0), (34, .iconst 1, 35, 0), (35, .iadd, 36, 0), (36, .iaload, 37, 0), (37, .getstatic 170, 40, 0), (40, .iload_n 1, 41, 0), (41, .iaload, 42, 0), (42, .isub, 43, 0), (43, .istore_n 2, 44, 0), (44, .getstatic 170, 47, 0), (47, .iload_n 1, 48, 0), (48, .iaload, 49, 0), (49, .iload_n 2, 50, 0), (50, .iload_n 0, 51, 0), (51, .iload_n 1, 52, 0), (52, .bipush 10, 54, 0), (54, .imul, 55, 0), (55, .isub, 56, 0), (56, .imul, 57, 0), (57, .bipush 10, 59, 0), (59, .idiv, 60, 0), (60, .iadd, 61, 0), (61, .ireturn, 62, 0)]
def pg35 : List PE := [(0, .iload_n 1, 1, 0), (1, .aload_n 0, 2, 0), (2, .iload_n 2, 3, 0), (3, .invokevirtual 66, 6, 33), (6, .invokestatic 173, 9, 34), (9, .imul, 10, 0), (10, .sipush 1000, 13, 0), (13, .idiv, 14, 0), (14, .ireturn, 15, 0)]
def pg36 : List PE := [(0, .aload_n 0, 1, 0), (1, .getfield 16, 4, 3), (4, .iload_n 1, 5, 0), (5, .iaload, 6, 0), (6, .istore_n 2, 7, 0), (7, .iconst 0, 8, 0), (8, .istore_n 3, 9, 0), (9, .iload_n 3, 10, 0), (10, .aload_n 0, 11, 0), (11, .getfield 132, 14, 10), (14, .if_icmp .ge 39, 17, 53), (17, .aload_n 0, 18, 0), (18, .getfield 28, 21, 11), (21, .iload_n 3, 22, 0), (22, .iaload, 23, 0), (23, .iload_n 1, 24, 0), (24, .if_icmp .ne 23, 27, 47), (27, .aload_n 0, 28, 0), (28, .getfield 138, 31, 14), (31, .iload_n 3, 32, 0), (32, .invokestatic 72, 35, 30), (35, .ifCond .ne 12, 38, 47), (38, .iload_n 2, 39, 0), (39, .aload_n 0, 40, 0), (40, .getfield 31, 43, 12), (43, .iload_n 3, 44, 0), (44, .iaload, 45, 0), (45, .iadd, 46, 0), (46, .istore_n 2, 47, 0), (47, .iinc 3 1, 50, 0), (50, .goto (-41), 53, 9), (53, .iload_n 2, 54, 0), (54, .ireturn, 55, 0)]
def pg37 : List PE := [(0, .aload_n 0, 1, 0), (1, .aload_n 0, 2, 0), (2, .iload_n 1, 3, 0), (3, .invokevirtual 176, 6, 36), (6, .iload_n 1, 7, 0), (7, .invokevirtual 179, 10, 35), (10, .ireturn, 11, 0)]
def pg38 : List PE := [(0, .aload_n 0, 1, 0), (1, .iload_n 1, 2, 0), (2, .iload_n 2, 3, 0), (3, .invokevirtual 79, 6, 32), (6, .ifCond .eq 18, 9, 24), (9, .aload_n 0, 10, 0), (10, .getfield 13, 13, 2), (13, .iload_n 1, 14, 0), (14, .iaload, 15, 0), (15, .aload_n 0, 16, 0), (16, .iload_n 1, 17, 0), (17, .invokevirtual 59, 20, 37), (20, .iadd, 21, 0), (21, .goto 4, 24, 25), (24, .iconst 0, 25, 0), (25, .ireturn, 26, 0)]
def pg39 : List PE := [(0, .iconst 0, 1, 0), (1, .istore_n 3, 2, 0), (2, .iconst 0, 3, 0), (3, .istore 4, 5, 0), (5, .iload 4, 7, 0), (7, .aload_n 0, 8, 0), (8, .getfield 43, 11, 0), (11, .if_icmp .ge 28, 14, 39), (14, .iload_n 1, 15, 0), (15, .iload 4, 17, 0), (17, .invokestatic 72, 20, 30), (20, .ifCond .eq 13, 23, 33), (23, .iload_n 3, 24, 0), (24, .aload_n 0, 25, 0), (25, .iload 4, 27, 0), (27, .iload_n 2, 28, 0), (28, .invokevirtual 82, 31, 38), (31, .iadd, 32, 0), (32, .istore_n 3, 33, 0), (33, .iinc 4 1, 36, 0), (36, .goto (-31), 39, 5), (39, .iload_n 3, 40, 0), (40, .ireturn, 41, 0)]
def pg40 : List PE := [(0, .iconst 0, 1, 0), (1, .istore_n 2, 2, 0), (2, .iconst 0, 3, 0), (3, .istore_n 3, 4, 0), (4, .iload_n 3, 5, 0), (5, .aload_n 0, 6, 0), (6, .getfield 43, 9, 0), (9, .if_icmp .ge 38, 12, 47), (12, .iload_n 1, 13, 0), (13, .iload_n 3, 14, 0), (14, .invokestatic 72, 17, 30), (17, .ifCond .eq 24, 20, 41), (20, .aload_n 0, 21, 0), (21, .iload_n 3, 22, 0), (22, .aload_n 0, 23, 0), (23, .getfield 76, 26, 6), (26, .invokevirtual 79, 29, 32), (29, .ifCond .eq 12, 32, 41), (32, .iload_n 2, 33, 0), (33, .aload_n 0, 34, 0), (34, .getfield 13, 37, 2), (37, .iload_n 3, 38, 0), (38, .iaload, 39, 0), (39, .iadd, 40, 0), (40, .istore_n 2, 41, 0), (41, .iinc 3 1, 44, 0), (44, .goto (-40), 47, 4), (47, .iload_n 2, 48, 0), (48, .ireturn, 49, 0)]
def pg41 : List PE := [(0, .iconst 0, 1, 0), (1, .istore_n 2, 2, 0), (2, .iconst 0, 3, 0), (3, .istore_n 3, 4, 0), (4, .iload_n 3, 5, 0), (5, .aload_n 0, 6, 0), (6, .getfield 43, 9, 0), (9, .if_icmp .ge 34, 12, 43), (12, .aload_n 0, 13, 0), (13, .getfield 9, 16, 1), (16, .iload_n 3, 17, 0), (17, .iaload, 18, 0), (18, .iload_n 1, 19, 0), (19, .invokestatic 72, 22, 30), (22, .ifCond .eq 15, 25, 37), (25, .iload_n 2, 26, 0), (26, .aload_n 0, 27, 0), (27, .iload_n 3, 28, 0), (28, .aload_n 0, 29, 0), (29, .getfield 76, 32, 6), (32, .invokevirtual 82, 35, 38), (35, .iadd, 36, 0), (36, .istore_n 2, 37, 0), (37, .iinc 3 1, 40, 0), (40, .goto (-36), 43, 4), (43, .iload_n 2, 44, 0), (44, .ireturn, 45, 0)]
def pg42 : List PE := [(0, .iconst 0, 1, 0), (1, .istore_n 2, 2, 0), (2, .iconst 0, 3, 0), (3, .istore_n 3, 4, 0), (4, .iload_n 3, 5, 0), (5, .aload_n 0, 6, 0), (6, .getfield 43, 9, 0), (9, .if_icmp .ge 49, 12, 58), (12, .aload_n 0, 13, 0), (13, .getfield 9, 16, 1), (16, .iload_n 3, 17, 0), (17, .iaload, 18, 0), (18, .aload_n 0, 19, 0), (19, .getfield 22, 22, 8), (22, .iload_n 1, 23, 0), (23, .iaload, 24, 0), (24, .invokestatic 72, 27, 30), (27, .ifCond .eq 25, 30, 52), (30, .aload_n 0, 31, 0), (31, .getfield 9, 34, 1), (34, .iload_n 3, 35, 0), (35, .iaload, 36, 0), (36, .aload_n 0, 37, 0), (37, .getfield 25, 40, 9), (40, .iload_n 1, 41, 0), (41, .iaload, 42, 0), (42, .iand, 43, 0), (43, .ifCond .ne 9, 46, 52), (46, .iload_n 2, 47, 0), (47, .iconst 1, 48, 0), (48, .iload_n 3, 49, 0), (49, .ishl, 50, 0), (50, .ior, 51, 0), (51, .istore_n 2, 52, 0), (52, .iinc 3 1, 55, 0), (55, .goto (-51), 58, 4), (58, .iload_n 2, 59, 0), (59, .ireturn, 60, 0)]
def pg43 : List PE := [(0, .iconst 0, 1, 0), (1, .istore_n 2, 2, 0), (2, .iconst 0, 3, 0), (3, .istore_n 3, 4, 0), (4, .iload_n 3, 5, 0), (5, .aload_n 0, 6, 0), (6, .getfield 43, 9, 0), (9, .if_icmp .ge 34, 12, 43), (12, .aload_n 0, 13, 0), (13, .getfield 9, 16, 1), (16, .iload_n 3, 17, 0), (17, .iaload, 18, 0), (18, .aload_n 0, 19, 0), (19, .getfield 25, 22, 9), (22, .iload_n 1, 23, 0), (23, .iaload, 24, 0), (24, .iand, 25, 0), (25, .iconst 1, 26, 0), (26, .iload_n 3, 27, 0), (27, .ishl, 28, 0), (28, .if_icmp .ne 9, 31, 37), (31, .iload_n 2, 32, 0), (32, .iconst 1, 33, 0), (33, .iload_n 3, 34, 0), (34, .ishl, 35, 0), (35, .ior, 36, 0), (36, .istore_n 2, 37, 0), (37, .iinc 3 1, 40, 0), (40, .goto (-36), 43, 4), (43, .iload_n 2, 44, 0), (44, .ireturn, 45, 0)]
def pg44 : List PE := [(0, .aload_n 0, 1, 0), (1, .iload_n 1, 2, 0), (2, .invokevirtual 104, 5, 42), (5, .iconst 1, 6, 0), (6, .aload_n 0, 7, 0), (7, .getfield 22, 10, 8), (10, .iload_n 1, 11, 0), (11, .iaload, 12, 0), (12, .ishl, 13, 0), (13, .iconst (-1), 14, 0), (14, .ixor, 15, 0), (15, .iand, 16, 0), (16, .aload_n 0, 17, 0), (17, .getfield 76, 20, 6), (20, .iconst (-1), 21, 0), (21, .ixor, 22, 0), (22, .iand, 23, 0), (23, .ireturn, 24, 0)]
def pg45 : List PE := [(0, .aload_n 0, 1, 0), (1, .iload_n 1, 2, 0), (2, .invokevirtual 123, 5, 44), (5, .istore_n 3, 6, 0), (6, .iconst 0, 7, 0), (7, .istore 4, 9, 0), (9, .aload_n 0, 10, 0), (10, .getfield 43, 13, 0), (13, .iconst 1, 14, 0), (14, .isub, 15, 0), (15, .istore 5, 17, 0), (17, .iload 5, 19, 0), (19, .ifCond .le 30, 22, 49), (22, .iload_n 3, 23, 0), (23, .iload 5, 25, 0), (25, .invokestatic 72, 28, 30), (28, .ifCond .eq 15, 31, 43), (31, .iload 4, 33, 0), (33, .iload_n 2, 34, 0), (34, .if_icmp .ne 6, 37, 40), (37, .iload 5, 39, 0), (39, .ireturn, 40, 0), (40, .iinc 4 1, 43, 0), (43, .iinc 5 (-1), 46, 0), (46, .goto (-29), 49, 17), (49, .new 150, 52, 1), (52, .dup, 53, 0), (53, .ldc 182, 55, 0), (55, .invokespecial 154, 58, 0), (58, .athrow, 59, 0)]
def pg46 : List PE := [(0, .aload_n 0, 1, 0), (1, .getfield 28, 4, 11), (4, .iload_n 1, 5, 0), (5, .iaload, 6, 0), (6, .istore_n 2, 7, 0), (7, .aload_n 0, 8, 0), (8, .getfield 138, 11, 14), (11, .iload_n 1, 12, 0), (12, .invokestatic 72, 15, 30), (15, .ifCond .ne 15, 18, 30), (18, .aload_n 0, 19, 0), (19, .iload_n 2, 20, 0), (20, .aload_n 0, 21, 0), (21, .getfield 76, 24, 6), (24, .invokevirtual 79, 27, 32), (27, .ifCond .ne 5, 30, 32), (30, .iconst 0, 31, 0), (31, .ireturn, 32, 0), (32, .aload_n 0, 33, 0), (33, .iload_n 2, 34, 0), (34, .invokevirtual 176, 37, 36), (37, .istore_n 3, 38, 0), (38, .aload_n 0, 39, 0), (39, .iload_n 3, 40, 0), (40, .iload_n 2, 41, 0), (41, .invokevirtual 179, 44, 35), (44, .aload_n 0, 45, 0), (45, .iload_n 3, 46, 0), (46, .aload_n 0, 47, 0), (47, .getfield 31, 50, 12), (50, .iload_n 1, 51, 0), (51, .iaload, 52, 0), (52, .isub, 53, 0), (53, .iload_n 2, 54, 0), (54, .invokevirtual 179, 57, 35), (57, .isub, 58, 0), (58, .ireturn, 59, 0)]
def pg47 : List PE := [(0, .iconst 0, 1, 0), (1, .istore_n 1, 2, 0), (2, .iconst 0, 3, 0), (3, .istore_n 2, 4, 0), (4, .iload_n 2, 5, 0), (5, .aload_n 0, 6, 0), (6, .getfield 132, 9, 10), (9, .if_icmp .ge 40, 12, 49), (12, .aload_n 0, 13, 0), (13, .getfield 138, 16, 14), (16, .iload_n 2, 17, 0), (17, .invokestatic 72, 20, 30), (20, .ifCond .ne 23, 23, 43), (23, .aload_n 0, 24, 0), (24, .getfield 37, 27, 15), (27, .iload_n 2, 28, 0), (28, .aload_n 0, 29, 0), (29, .iload_n 2, 30, 0), (30, .invokevirtual 143, 33, 46), (33, .iastore, 34, 0), (34, .aload_n 0, 35, 0), (35, .iload_n 2, 36, 0), (36, .iload_n 1, 37, 0), (37, .invokevirtual 184, 40, 48), (40, .iinc 1 1, 43, 0), (43, .iinc 2 1, 46, 0), (46, .goto (-42), 49, 4), (49, .iload_n 1, 50, 0), (50, .ireturn, 51, 0)]
def pg48 : List PE := [(0, .iload_n 2, 1, 0), (1, .istore_n 3, 2, 0), (2, .iload_n 3, 3, 0), (3, .ifCond .le 39, 6, 42), (6, .aload_n 0, 7, 0), (7, .iload_n 1, 8, 0), (8, .aload_n 0, 9, 0), (9, .getfield 40, 12, 16), (12, .iload_n 3, 13, 0), (13, .iconst 1, 14, 0), (14, .isub, 15, 0), (15, .iaload, 16, 0), (16, .invokevirtual 187, 19, 49), (19, .ifCond .eq 23, 22, 42), (22, .aload_n 0, 23, 0), (23, .getfield 40, 26, 16), (26, .iload_n 3, 27, 0), (27, .aload_n 0, 28, 0), (28, .getfield 40, 31, 16), (31, .iload_n 3, 32, 0), (32, .iconst 1, 33, 0), (33, .isub, 34, 0), (34, .iaload, 35, 0), (35, .iastore, 36, 0), (36, .iinc 3 (-1), 39, 0), (39, .goto (-37), 42, 2), (42, .aload_n 0, 43, 0), (43, .getfield 40, 46, 16), (46, .iload_n 3, 47, 0), (47, .iload_n 1, 48, 0), (48, .iastore, 49, 0), (49, .return_, 50, 0)]
def pg49 : List PE := [(0, .aload_n 0, 1, 0), (1, .getfield 37, 4, 15), (4, .iload_n 1, 5, 0), (5, .iaload, 6, 0), (6, .aload_n 0, 7, 0), (7, .getfield 34, 10, 13), (10, .iload_n 2, 11, 0), (11, .iaload, 12, 0), (12, .imul, 13, 0), (13, .aload_n 0, 14, 0), (14, .getfield 37, 17, 15), (17, .iload_n 2, 18, 0), (18, .iaload, 19, 0), (19, .aload_n 0, 20, 0), (20, .getfield 34, 23, 13), (23, .iload_n 1, 24, 0), (24, .iaload, 25, 0), (25, .imul, 26, 0), (26, .if_icmp .le 7, 29, 33), (29, .iconst 1, 30, 0), (30, .goto 4, 33, 34), (33, .iconst 0, 34, 0), (34, .ireturn, 35, 0)]
def pg50 : List PE := [(0, .aload_n 0, 1, 0), (1, .invokespecial 1, 4, 0), (4, .aload_n 0, 5, 0), (5, .iconst 1, 6, 0), (6, .putfield 7, 9, 0), (9, .aload_n 0, 10, 0), (10, .bipush 16, 12, 0), (12, .newarray .int, 14, 0), (14, .putfield 13, 17, 1), (17, .aload_n 0, 18, 0), (18, .bipush 16, 20, 0), (20, .newarray .int, 22, 0), (22, .putfield 17, 25, 2), (25, .aload_n 0, 26, 0), (26, .bipush 16, 28, 0), (28, .newarray .int, 30, 0), (30, .putfield 20, 33, 3), (33, .aload_n 0, 34, 0), (34, .bipush 16, 36, 0), (36, .newarray .int, 38, 0), (38, .putfield 23, 41, 4), (41, .aload_n 0, 42, 0), (42, .bipush 16, 44, 0), (44, .newarray .boolean, 46, 0), (46, .putfield 26, 49, 5), (49, .aload_n 0, 50, 0), (50, .bipush 16, 52, 0), (52, .newarray .boolean, 54, 0), (54, .putfield 30, 57, 6), (57, .aload_n 0, 58, 0), (58, .bipush 11, 60, 0), (60, .newarray .int, 62, 0), (62, .putfield 33, 65, 7), (65, .aload_n 0, 66, 0), (66, .bipush 8, 68, 0), (68, .newarray .int, 70, 0), (70, .putfield 36, 73, 9), (73, .aload_n 0, 74, 0), (74, .bipush 8, 76, 0), (76, .newarray .int, 78, 0), (78, .putfield 39, 81, 10), (81, .aload_n 0, 82, 0), (82, .bipush 20, 84, 0), (84, .newarray .int, 86, 0), (86, .putfield 42, 89, 12), (89, .aload_n 0, 90, 0), (90, .bipush 20, 92, 0), (92, .newarray .int, 94, 0), (94, .putfield 45, 97, 13), (97, .aload_n 0, 98, 0), (98, .bipush 20, 100, 0), (100, .newarray .int, 102, 0), (102, .putfield 48, 105, 14), (105, .aload_n 0, 106, 0), (106, .bipush 20, 108, 0), (108, .newarray .boolean, 110, 0), (110, .putfield 51, 113, 15), (113, .aload_n 0, 114, 0), (114, .getfield 13, 117, 1), (117, .iconst 0, 118, 0), (118, .iconst (-1), 119, 0), (119, .iastore, 120, 0), (120, .aload_n 0, 121, 0), (121, .getfield 23, 124, 4), (124, .iconst 0, 125, 0), (125, .iconst (-1), 126, 0), (126, .iastore, 127, 0), (127, .aload_n 0, 128, 0), (128, .getfield 33, 131, 7), (131, .iconst 1, 132, 0), (132, .bipush 120, 134, 0), (134, .iastore, 135, 0), (135, .aload_n 0, 136, 0), (136, .getfield 33, 139, 7), (139, .iconst 2, 140, 0), (140, .sipush 280, 143, 0), (143, .iastore, 144, 0), (144, .aload_n 0, 145, 0), (145, .getfield 33, 148, 7), (148, .iconst 3, 149, 0), (149, .sipush 490, 152, 0), (152, .iastore, 153, 0), (153, .aload_n 0, 154, 0), (154, .getfield 33, 157, 7), (157, .iconst 4, 158, 0), (158, .sipush 730, 161, 0), (161, .iastore, 162, 0), (162, .aload_n 0, 163, 0), (163, .getfield 33, 166, 7), (166, .iconst 5, 167, 0), (167, .sipush 1000, 170, 0), (170, .iastore, 171, 0), (171, .aload_n 0, 172, 0), (172, .getfield 33, 175, 7), (175, .bipush 6, 177, 0), (177, .sipush 1290, 180, 0), (180, .iastore, 181, 0), (181, .aload_n 0, 182, 0), (182, .getfield 33, 185, 7), (185, .bipush 7, 187, 0), (187, .sipush 1600, 190, 0), (190, .iastore, 191, 0), (191, .aload_n 0, 192, 0), (192, .getfield 33, 195, 7), (195, .bipush 8, 197, 0), (197, .sipush 1930, 200, 0), (200, .iastore, 201, 0), (201, .aload_n 0, 202, 0), (202, .getfield 33, 205, 7), (205, .bipush 9, 207, 0), (207, .sipush 2280, 210, 0), (210, .iastore, 211, 0), (211, .aload_n 0, 212, 0), (212, .getfield 33, 215, 7), (215, .bipush 10, 217, 0), (217, .sipush 2650, 220, 0), (220, .iastore, 221, 0), (221, .return_, 222, 0)]
def pg51 : List PE := [(0, .aload_n 0, 1, 0), (1, .getfield 54, 4, 16), (4, .ireturn, 5, 0)]
def pg52 : List PE := [(0, .aload_n 0, 1, 0), (1, .iload_n 1, 2, 0), (2, .putfield 54, 5, 16), (5, .iload_n 1, 6, 0), (6, .ifCond .le 7, 9, 13), (9, .iconst 1, 10, 0), (10, .goto 4, 13, 14), (13, .iconst 0, 14, 0), (14, .ireturn, 15, 0)]
def pg53 : List PE := [(0, .aload_n 0, 1, 0), (1, .iconst 0, 2, 0), (2, .putfield 54, 5, 16), (5, .iload_n 1, 6, 0), (6, .ireturn, 7, 0)]
def pg54 : List PE := [(0, .iload_n 0, 1, 0), (1, .iload_n 1, 2, 0), (2, .if_icmp .lt 12, 5, 14), (5, .iload_n 0, 6, 0), (6, .iload_n 2, 7, 0), (7, .if_icmp .gt 7, 10, 14), (10, .iconst 1, 11, 0), (11, .goto 4, 14, 15), (14, .iconst 0, 15, 0), (15, .ireturn, 16, 0)]
def pg55 : List PE := [(0, .iload_n 1, 1, 0), (1, .iconst 0, 2, 0), (2, .aload_n 0, 3, 0), (3, .getfield 7, 6, 0), (6, .iconst 1, 7, 0), (7, .isub, 8, 0), (8, .invokestatic 57, 11, 54), (11, .ireturn, 12, 0)]
def pg56 : List PE := [(0, .iload_n 1, 1, 0), (1, .iconst 1, 2, 0), (2, .aload_n 0, 3, 0), (3, .getfield 7, 6, 0), (6, .iconst 1, 7, 0), (7, .isub, 8, 0), (8, .invokestatic 57, 11, 54), (11, .ireturn, 12, 0)]
def pg57 : List PE := [(0, .iload_n 1, 1, 0), (1, .istore_n 3, 2, 0), (2, .iload_n 3, 3, 0), (3, .iload_n 2, 4, 0), (4, .if_icmp .le 13, 7, 17), (7, .aload_n 0, 8, 0), (8, .getfield 13, 11, 1), (11, .iload_n 3, 12, 0), (12, .iaload, 13, 0), (13, .istore_n 3, 14, 0), (14, .goto (-12), 17, 2), (17, .iload_n 3, 18, 0), (18, .iload_n 2, 19, 0), (19, .if_icmp .ne 7, 22, 26), (22, .iconst 1, 23, 0), (23, .goto 4, 26, 27), (26, .iconst 0, 27, 0), (27, .ireturn, 28, 0)]
def pg58 : List PE := [(0, .iconst 1, 1, 0), (1, .istore_n 2, 2, 0), (2, .iload_n 1, 3, 0), (3, .istore_n 3, 4, 0), (4, .iload_n 3, 5, 0), (5, .ifCond .le 32, 8, 37), (8, .iload_n 2, 9, 0), (9, .ifCond .eq 16, 12, 25), (12, .aload_n 0, 13, 0), (13, .getfield 30, 16, 6), (16, .iload_n 3, 17, 0), (17, .baload, 18, 0), (18, .ifCond .ne 7, 21, 25), (21, .iconst 1, 22, 0), (22, .goto 4, 25, 26), (25, .iconst 0, 26, 0), (26, .istore_n 2, 27, 0), (27, .aload_n 0, 28, 0), (28, .getfield 13, 31, 1), (31, .iload_n 3, 32, 0), (32, .iaload, 33, 0), (33, .istore_n 3, 34, 0), (34, .goto (-30), 37, 4), (37, .iload_n 2, 38, 0), (38, .ireturn, 39, 0)]
def pg59 : List PE := [(0, .iload_n 1, 1, 0), (1, .istore_n 2, 2, 0), (2, .iload_n 2, 3, 0), (3, .ifCond .le 23, 6, 26), (6, .aload_n 0, 7, 0), (7, .getfield 23, 10, 4), (10, .iload_n 2, 11, 0), (11, .iaload, 12, 0), (12, .iconst (-1), 13, 0), (13, .if_icmp .ne 13, 16, 26), (16, .aload_n 0, 17, 0), (17, .getfield 13, 20, 1), (20, .iload_n 2, 21, 0), (21, .iaload, 22, 0), (22, .istore_n 2, 23, 0), (23, .goto (-21), 26, 2), (26, .iload_n 2, 27, 0), (27, .ifCond .le 12, 30, 39), (30, .aload_n 0, 31, 0), (31, .getfield 23, 34, 4), (34, .iload_n 2, 35, 0), (35, .iaload, 36, 0), (36, .goto 5, 39, 41), (39, .bipush 50, 41, 0), (41, .ireturn, 42, 0)]
def pg60 : List PE := [(0, .aload_n 0, 1, 0), (1, .getfield 20, 4, 3), (4, .iload_n 1, 5, 0), (5, .iaload, 6, 0), (6, .istore_n 2, 7, 0), (7, .iconst 0, 8, 0), (8, .istore_n 3, 9, 0), (9, .iload_n 3, 10, 0), (10, .aload_n 0, 11, 0), (11, .getfield 61, 14, 11), (14, .if_icmp .ge 41, 17, 55), (17, .iload_n 2, 18, 0), (18, .aload_n 0, 19, 0), (19, .getfield 42, 22, 12), (22, .iload_n 3, 23, 0), (23, .iaload, 24, 0), (24, .iload_n 1, 25, 0), (25, .if_icmp .ne 21, 28, 46), (28, .aload_n 0, 29, 0), (29, .getfield 51, 32, 15), (32, .iload_n 3, 33, 0), (33, .baload, 34, 0), (34, .ifCond .ne 12, 37, 46), (37, .aload_n 0, 38, 0), (38, .getfield 45, 41, 13), (41, .iload_n 3, 42, 0), (42, .iaload, 43, 0), (43, .goto 4, 46, 47), (46, .iconst 0, 47, 0), (47, .iadd, 48, 0), (48, .istore_n 2, 49, 0), (49, .iinc 3 1, 52, 0), (52, .goto (-43), 55, 9), (55, .aload_n 0, 56, 0), (56, .iload_n 1, 57, 0), (57, .invokevirtual 64, 60, 59), (60, .istore_n 3, 61, 0), (61, .iload_n 3, 62, 0), (62, .bipush 10, 64, 0), (64, .idiv, 65, 0), (65, .istore 4, 67, 0), (67, .aload_n 0, 68, 0), (68, .getfield 33, 71, 7), (71, .iload 4, 73, 0), (73, .iaload, 74, 0), (74, .iload 4, 76, 0), (76, .bipush 10, 78, 0), (78, .if_icmp .ne 7, 81, 85), (81, .iconst 0, 82, 0), (82, .goto 28, 85, 110), (85, .aload_n 0, 86, 0), (86, .getfield 33, 89, 7), (89, .iload 4, 91, 0), (91, .iconst 1, 92, 0), (92, .iadd, 93, 0), (93, .iaload, 94, 0), (94, .aload_n 0, 95, 0), (95, .getfield 33, 98, 7), (98, .iload 4, 100, 0), (100, .iaload, 101, 0), (101, .isub, 102, 0), (102, .iload_n 3, 103, 0), (103, .bipush 10, 105, 0), (105, .irem, 106, 0), (106, .imul, 107, 0), (107, .bipush 10, 109, 0), (109, .idiv, 110, 0), (110, .iadd, 111, 0), (111, .istore 5, 113, 0), (113, .iload_n 2, 114, 0), (114, .iload 5, 116, 0), (116, .imul, 117, 0), (117, .sipush 1000, 120, 0), (120, .idiv, 121, 0), (121, .ireturn, 122, 0)]
def pg61 : List PE := [(0, .aload_n 0, 1, 0), (1, .iload_n 1, 2, 0), (2, .invokevirtual 68, 5, 58), (5, .ifCond .eq 18, 8, 23), (8, .aload_n 0, 9, 0), (9, .getfield 17, 12, 2), (12, .iload_n 1, 13, 0), (13, .iaload, 14, 0), (14, .aload_n 0, 15, 0), (15, .iload_n 1, 16, 0), (16, .invokevirtual 72, 19, 60), (19, .iadd, 20, 0), (20, .goto 4, 23, 24), (23, .iconst 0, 24, 0), (24, .ireturn, 25, 0)]
def pg62 : List PE := [(0, .iconst 0, 1, 0), (1, .istore_n 2, 2, 0), (2, .iload_n 1, 3, 0), (3, .istore_n 3, 4, 0), (4, .iload_n 3, 5, 0), (5, .aload_n 0, 6, 0), (6, .getfield 7, 9, 0), (9, .if_icmp .ge 30, 12, 39), (12, .iload_n 2, 13, 0), (13, .aload_n 0, 14, 0), (14, .iload_n 3, 15, 0), (15, .iload_n 1, 16, 0), (16, .invokevirtual 75, 19, 57), (19, .ifCond .eq 11, 22, 30), (22, .aload_n 0, 23, 0), (23, .iload_n 3, 24, 0), (24, .invokevirtual 79, 27, 61), (27, .goto 4, 30, 31), (30, .iconst 0, 31, 0), (31, .iadd, 32, 0), (32, .istore_n 2, 33, 0), (33, .iinc 3 1, 36, 0), (36, .goto (-32), 39, 4), (39, .iload_n 2, 40, 0), (40, .ireturn, 41, 0)]
def pg63 : List PE := [(0, .aload_n 0, 1, 0), (1, .iload_n 2, 2, 0), (2, .iconst 0, 3, 0), (3, .sipush 10000, 6, 0), (6, .invokestatic 57, 9, 54), (9, .ifCond .ne 7, 12, 16), (12, .iconst 1, 13, 0), (13, .goto 29, 16, 42), (16, .aload_n 0, 17, 0), (17, .iload_n 1, 18, 0), (18, .invokevirtual 82, 21, 55), (21, .ifCond .ne 7, 24, 28), (24, .iconst 2, 25, 0), (25, .goto 17, 28, 42), (28, .aload_n 0, 29, 0), (29, .getfield 7, 32, 0), (32, .bipush 16, 34, 0), (34, .if_icmp .ne 7, 37, 41), (37, .iconst 3, 38, 0), (38, .goto 4, 41, 42), (41, .iconst 0, 42, 0), (42, .invokevirtual 85, 45, 52), (45, .ifCond .eq 5, 48, 50), (48, .iconst 0, 49, 0), (49, .ireturn, 50, 0), (50, .aload_n 0, 51, 0), (51, .getfield 13, 54, 1), (54, .aload_n 0, 55, 0), (55, .getfield 7, 58, 0), (58, .iload_n 1, 59, 0), (59, .iastore, 60, 0), (60, .aload_n 0, 61, 0), (61, .getfield 17, 64, 2), (64, .aload_n 0, 65, 0), (65, .getfield 7, 68, 0), (68, .iload_n 2, 69, 0), (69, .iastore, 70, 0), (70, .aload_n 0, 71, 0), (71, .getfield 23, 74, 4), (74, .aload_n 0, 75, 0), (75, .getfield 7, 78, 0), (78, .iconst (-1), 79, 0), (79, .iastore, 80, 0), (80, .aload_n 0, 81, 0), (81, .dup, 82, 0), (82, .getfield 7, 85, 0), (85, .iconst 1, 86, 0), (86, .iadd, 87, 0), (87, .putfield 7, 90, 0), (90, .aload_n 0, 91, 0), (91, .getfield 7, 94, 0), (94, .iconst 1, 95, 0), (95, .isub, 96, 0), (96, .ireturn, 97, 0)]
def pg64 : List PE := [(0, .aload_n 0, 1, 0), (1, .iload_n 2, 2, 0), (2, .iconst 0, 3, 0), (3, .sipush 10000, 6, 0), (6, .invokestatic 57, 9, 54), (9, .ifCond .ne 7, 12, 16), (12, .iconst 1, 13, 0), (13, .goto 16, 16, 29), (16, .aload_n 0, 17, 0), (17, .iload_n 1, 18, 0), (18, .invokevirtual 82, 21, 55), (21, .ifCond .eq 7, 24, 28), (24, .iconst 0, 25, 0), (25, .goto 4, 28, 29), (28, .iconst 2, 29, 0), (29, .invokevirtual 85, 32, 52), (32, .ifCond .eq 5, 35, 37), (35, .iconst 0, 36, 0), (36, .ireturn, 37, 0), (37, .aload_n 0, 38, 0), (38, .getfield 20, 41, 3), (41, .iload_n 1, 42, 0), (42, .iload_n 2, 43, 0), (43, .iastore, 44, 0), (44, .aload_n 0, 45, 0), (45, .iload_n 1, 46, 0), (46, .invokevirtual 72, 49, 60), (49, .ireturn, 50, 0)]
def pg65 : List PE := [(0, .aload_n 0, 1, 0), (1, .iload_n 2, 2, 0), (2, .iconst (-1), 3, 0), (3, .bipush 100, 5, 0), (5, .invokestatic 57, 8, 54), (8, .ifCond .ne 7, 11, 15), (11, .iconst 1, 12, 0), (12, .goto 16, 15, 28), (15, .aload_n 0, 16, 0), (16, .iload_n 1, 17, 0), (17, .invokevirtual 88, 20, 56), (20, .ifCond .eq 7, 23, 27), (23, .iconst 0, 24, 0), (24, .goto 4, 27, 28), (27, .iconst 2, 28, 0), (28, .invokevirtual 85, 31, 52), (31, .ifCond .eq 5, 34, 36), (34, .iconst 0, 35, 0), (35, .ireturn, 36, 0), (36, .aload_n 0, 37, 0), (37, .getfield 23, 40, 4), (40, .iload_n 1, 41, 0), (41, .iload_n 2, 42, 0), (42, .iastore, 43, 0), (43, .aload_n 0, 44, 0), (44, .iload_n 1, 45, 0), (45, .invokevirtual 64, 48, 59), (48, .ireturn, 49, 0)]
def pg66 : List PE := [(0, .aload_n 0, 1, 0), (1, .aload_n 0, 2, 0), (2, .iload_n 1, 3, 0), (3, .invokevirtual 88, 6, 56), (6, .ifCond .eq 7, 9, 13), (9, .iconst 0, 10, 0), (10, .goto 4, 13, 14), (13, .iconst 1, 14, 0), (14, .invokevirtual 85, 17, 52), (17, .ifCond .eq 5, 20, 22), (20, .iconst 0, 21, 0), (21, .ireturn, 22, 0), (22, .aload_n 0, 23, 0), (23, .getfield 26, 26, 5), (26, .iload_n 1, 27, 0), (27, .baload, 28, 0), (28, .istore_n 2, 29, 0), (29, .aload_n 0, 30, 0), (30, .getfield 26, 33, 5), (33, .iload_n 1, 34, 0), (34, .iconst 1, 35, 0), (35, .bastore, 36, 0), (36, .iload_n 2, 37, 0), (37, .ifCond .ne 7, 40, 44), (40, .iconst 1, 41, 0), (41, .goto 4, 44, 45), (44, .iconst 0, 45, 0), (45, .ireturn, 46, 0)]
def pg67 : List PE := [(0, .aload_n 0, 1, 0), (1, .aload_n 0, 2, 0), (2, .iload_n 1, 3, 0), (3, .invokevirtual 88, 6, 56), (6, .ifCond .eq 7, 9, 13), (9, .iconst 0, 10, 0), (10, .goto 4, 13, 14), (13, .iconst 1, 14, 0), (14, .invokevirtual 85, 17, 52), (17, .ifCond .eq 5, 20, 22), (20, .iconst 0, 21, 0), (21, .ireturn, 22, 0), (22, .aload_n 0, 23, 0), (23, .getfield 30, 26, 6), (26, .iload_n 1, 27, 0), (27, .aload_n 0, 28, 0), (28, .getfield 30, 31, 6), (31, .iload_n 1, 32, 0), (32, .baload, 33, 0), (33, .ifCond .ne 7, 36, 40), (36, .iconst 1, 37, 0), (37, .goto 4, 40, 41), (40, .iconst 0, 41, 0), (41, .bastore, 42, 0), (42, .aload_n 0, 43, 0), (43, .getfield 30, 46, 6), (46, .iload_n 1, 47, 0), (47, .baload, 48, 0), (48, .ifCond .ne 7, 51, 55), (51, .iconst 1, 52, 0), (52, .goto 4, 55, 56), (55, .iconst 0, 56, 0), (56, .ireturn, 57, 0)]
def pg68 : List PE := [(0, .aload_n 0, 1, 0), (1, .aload_n 0, 2, 0), (2, .iload_n 1, 3, 0), (3, .invokevirtual 82, 6, 55), (6, .ifCond .eq 7, 9, 13), (9, .iconst 0, 10, 0), (10, .goto 4, 13, 14), (13, .iconst 1, 14, 0), (14, .invokevirtual 85, 17, 52), (17, .ifCond .ne 15, 20, 32), (20, .aload_n 0, 21, 0), (21, .iload_n 1, 22, 0), (22, .invokevirtual 68, 25, 58), (25, .ifCond .eq 7, 28, 32), (28, .iconst 1, 29, 0), (29, .goto 4, 32, 33), (32, .iconst 0, 33, 0), (33, .ireturn, 34, 0)]
def pg69 : List PE := [(0, .aload_n 0, 1, 0), (1, .aload_n 0, 2, 0), (2, .iload_n 1, 3, 0), (3, .invokevirtual 82, 6, 55), (6, .ifCond .eq 7, 9, 13), (9, .iconst 0, 10, 0), (10, .goto 4, 13, 14), (13, .iconst 1, 14, 0), (14, .invokevirtual 85, 17, 52), (17, .ifCond .eq 7, 20, 24), (20, .iconst 0, 21, 0), (21, .goto 8, 24, 29), (24, .aload_n 0, 25, 0), (25, .iload_n 1, 26, 0), (26, .invokevirtual 79, 29, 61), (29, .ireturn, 30, 0)]
def pg70 : List PE := [(0, .aload_n 0, 1, 0), (1, .aload_n 0, 2, 0), (2, .iload_n 1, 3, 0), (3, .invokevirtual 88, 6, 56), (6, .ifCond .ne 7, 9, 13), (9, .iconst 1, 10, 0), (10, .goto 17, 13, 27), (13, .aload_n 0, 14, 0), (14, .getfield 26, 17, 5), (17, .iload_n 1, 18, 0), (18, .baload, 19, 0), (19, .ifCond .eq 7, 22, 26), (22, .iconst 0, 23, 0), (23, .goto 4, 26, 27), (26, .iconst 2, 27, 0), (27, .invokevirtual 85, 30, 52), (30, .ifCond .eq 7, 33, 37), (33, .iconst 0, 34, 0), (34, .goto 8, 37, 42), (37, .aload_n 0, 38, 0), (38, .iload_n 1, 39, 0), (39, .invokevirtual 91, 42, 62), (42, .ireturn, 43, 0)]
def pg71 : List PE := [(0, .aload_n 0, 1, 0), (1, .aload_n 0, 2, 0), (2, .iconst 0, 3, 0), (3, .invokevirtual 91, 6, 62), (6, .invokevirtual 94, 9, 53), (9, .ireturn, 10, 0)]
def pg72 : List PE := [(0, .iload_n 1, 1, 0), (1, .iconst 0, 2, 0), (2, .aload_n 0, 3, 0), (3, .getfield 97, 6, 8), (6, .iconst 1, 7, 0), (7, .isub, 8, 0), (8, .invokestatic 57, 11, 54), (11, .ireturn, 12, 0)]
def pg73 : List PE := [(0, .aload_n 0, 1, 0), (1, .getfield 39, 4, 10), (4, .iload_n 1, 5, 0), (5, .iaload, 6, 0), (6, .iload_n 2, 7, 0), (7, .ishr, 8, 0), (8, .iconst 1, 9, 0), (9, .iand, 10, 0), (10, .iconst 1, 11, 0), (11, .if_icmp .ne 7, 14, 18), (14, .iconst 1, 15, 0), (15, .goto 4, 18, 19), (18, .iconst 0, 19, 0), (19, .ireturn, 20, 0)]
def pg74 : List PE := [(0, .aload_n 0, 1, 0), (1, .iload_n 2, 2, 0), (2, .aload_n 0, 3, 0), (3, .getfield 36, 6, 9), (6, .iload_n 1, 7, 0), (7, .iaload, 8, 0), (8, .invokevirtual 75, 11, 57), (11, .istore_n 3, 12, 0), (12, .iload_n 2, 13, 0), (13, .istore 4, 15, 0), (15, .iload 4, 17, 0), (17, .aload_n 0, 18, 0), (18, .getfield 36, 21, 9), (21, .iload_n 1, 22, 0), (22, .iaload, 23, 0), (23, .if_icmp .le 35, 26, 58), (26, .iload_n 3, 27, 0), (27, .ifCond .eq 17, 30, 44), (30, .aload_n 0, 31, 0), (31, .iload_n 1, 32, 0), (32, .iload 4, 34, 0), (34, .invokevirtual 100, 37, 73), (37, .ifCond .ne 7, 40, 44), (40, .iconst 1, 41, 0), (41, .goto 4, 44, 45), (44, .iconst 0, 45, 0), (45, .istore_n 3, 46, 0), (46, .aload_n 0, 47, 0), (47, .getfield 13, 50, 1), (50, .iload 4, 52, 0), (52, .iaload, 53, 0), (53, .istore 4, 55, 0), (55, .goto (-40), 58, 15), (58, .iload_n 3, 59, 0), (59, .ireturn, 60, 0)]
def pg75 : List PE := [(0, .iconst 0, 1, 0), (1, .istore_n 2, 2, 0), (2, .iconst 0, 3, 0), (3, .istore_n 3, 4, 0), (4, .iload_n 3, 5, 0), (5, .aload_n 0, 6, 0), (6, .getfield 7, 9, 0), (9, .if_icmp .ge 26, 12, 35), (12, .iload_n 2, 13, 0), (13, .aload_n 0, 14, 0), (14, .iload_n 1, 15, 0), (15, .iload_n 3, 16, 0), (16, .invokevirtual 103, 19, 74), (19, .ifCond .eq 7, 22, 26), (22, .iconst 1, 23, 0), (23, .goto 4, 26, 27), (26, .iconst 0, 27, 0), (27, .iadd, 28, 0), (28, .istore_n 2, 29, 0), (29, .iinc 3 1, 32, 0), (32, .goto (-28), 35, 4), (35, .iload_n 2, 36, 0), (36, .ireturn, 37, 0)]
def pg76 : List PE := [(0, .aload_n 0, 1, 0), (1, .aload_n 0, 2, 0), (2, .iload_n 1, 3, 0), (3, .invokevirtual 82, 6, 55), (6, .ifCond .ne 7, 9, 13), (9, .iconst 1, 10, 0), (10, .goto 17, 13, 27), (13, .aload_n 0, 14, 0), (14, .getfield 97, 17, 8), (17, .bipush 8, 19, 0), (19, .if_icmp .ne 7, 22, 26), (22, .iconst 2, 23, 0), (23, .goto 4, 26, 27), (26, .iconst 0, 27, 0), (27, .invokevirtual 85, 30, 52), (30, .ifCond .eq 5, 33, 35), (33, .iconst 0, 34, 0), (34, .ireturn, 35, 0), (35, .aload_n 0, 36, 0), (36, .getfield 36, 39, 9), (39, .aload_n 0, 40, 0), (40, .getfield 97, 43, 8), (43, .iload_n 1, 44, 0), (44, .iastore, 45, 0), (45, .aload_n 0, 46, 0), (46, .dup, 47, 0), (47, .getfield 97, 50, 8), (50, .iconst 1, 51, 0), (51, .iadd, 52, 0), (52, .putfield 97, 55, 8), (55, .aload_n 0, 56, 0), (56, .getfield 97, 59, 8), (59, .iconst 1, 60, 0), (60, .isub, 61, 0), (61, .ireturn, 62, 0)]
def pg77 : List PE := [(0, .aload_n 0, 1, 0), (1, .iload_n 1, 2, 0), (2, .invokevirtual 106, 5, 72), (5, .ifCond .eq 15, 8, 20), (8, .aload_n 0, 9, 0), (9, .iload_n 2, 10, 0), (10, .invokevirtual 82, 13, 55), (13, .ifCond .eq 7, 16, 20), (16, .iconst 1, 17, 0), (17, .goto 4, 20, 21), (20, .iconst 0, 21, 0), (21, .istore_n 3, 22, 0), (22, .iload_n 3, 23, 0), (23, .ifCond .eq 40, 26, 63), (26, .iload_n 2, 27, 0), (27, .aload_n 0, 28, 0), (28, .getfield 36, 31, 9), (31, .iload_n 1, 32, 0), (32, .iaload, 33, 0), (33, .if_icmp .eq 30, 36, 63), (36, .aload_n 0, 37, 0), (37, .iload_n 2, 38, 0), (38, .aload_n 0, 39, 0), (39, .getfield 36, 42, 9), (42, .iload_n 1, 43, 0), (43, .iaload, 44, 0), (44, .invokevirtual 75, 47, 57), (47, .ifCond .eq 16, 50, 63), (50, .aload_n 0, 51, 0), (51, .iload_n 1, 52, 0), (52, .iload_n 2, 53, 0), (53, .invokevirtual 100, 56, 73), (56, .ifCond .ne 7, 59, 63), (59, .iconst 1, 60, 0), (60, .goto 4, 63, 64), (63, .iconst 0, 64, 0), (64, .istore 4, 66, 0), (66, .aload_n 0, 67, 0), (67, .iload_n 3, 68, 0), (68, .ifCond .ne 7, 71, 75), (71, .iconst 1, 72, 0), (72, .goto 13, 75, 85), (75, .iload 4, 77, 0), (77, .ifCond .eq 7, 80, 84), (80, .iconst 0, 81, 0), (81, .goto 4, 84, 85), (84, .iconst 2, 85, 0), (85, .invokevirtual 85, 88, 52), (88, .ifCond .eq 5, 91, 93), (91, .iconst 0, 92, 0), (92, .ireturn, 93, 0), (93, .aload_n 0, 94, 0), (94, .getfield 39, 97, 10), (97, .iload_n 1, 98, 0), (98, .dup2, 99, 0), (99, .iaload, 100, 0), (100, .iconst 1, 101, 0), (101, .iload_n 2, 102, 0), (102, .ishl, 103, 0), (103, .ior, 104, 0), (104, .iastore, 105, 0), (105, .aload_n 0, 106, 0), (106, .iload_n 1, 107, 0), (107, .invokevirtual 109, 110, 75), (110, .ireturn, 111, 0)]
def pg78 : List PE := [(0, .aload_n 0, 1, 0), (1, .aload_n 0, 2, 0), (2, .iload_n 1, 3, 0), (3, .invokevirtual 106, 6, 72), (6, .ifCond .eq 7, 9, 13), (9, .iconst 0, 10, 0), (10, .goto 4, 13, 14), (13, .iconst 1, 14, 0), (14, .invokevirtual 85, 17, 52), (17, .ifCond .eq 5, 20, 22), (20, .iconst 0, 21, 0), (21, .ireturn, 22, 0), (22, .iconst 0, 23, 0), (23, .istore_n 2, 24, 0), (24, .iconst 0, 25, 0), (25, .istore_n 3, 26, 0), (26, .iload_n 3, 27, 0), (27, .aload_n 0, 28, 0), (28, .getfield 7, 31, 0), (31, .if_icmp .ge 28, 34, 59), (34, .iload_n 2, 35, 0), (35, .aload_n 0, 36, 0), (36, .iload_n 1, 37, 0), (37, .iload_n 3, 38, 0), (38, .invokevirtual 103, 41, 74), (41, .ifCond .eq 9, 44, 50), (44, .iconst 1, 45, 0), (45, .iload_n 3, 46, 0), (46, .ishl, 47, 0), (47, .goto 4, 50, 51), (50, .iconst 0, 51, 0), (51, .ior, 52, 0), (52, .istore_n 2, 53, 0), (53, .iinc 3 1, 56, 0), (56, .goto (-30), 59, 26), (59, .iload_n 2, 60, 0), (60, .ireturn, 61, 0)]
def pg79 : List PE := [(0, .aload_n 0, 1, 0), (1, .iload_n 1, 2, 0), (2, .iload_n 2, 3, 0), (3, .invokevirtual 100, 6, 73), (6, .ifCond .eq 21, 9, 27), (9, .aload_n 0, 10, 0), (10, .iload_n 1, 11, 0), (11, .aload_n 0, 12, 0), (12, .getfield 13, 15, 1), (15, .iload_n 2, 16, 0), (16, .iaload, 17, 0), (17, .invokevirtual 103, 20, 74), (20, .ifCond .eq 7, 23, 27), (23, .iconst 1, 24, 0), (24, .goto 4, 27, 28), (27, .iconst 0, 28, 0), (28, .ireturn, 29, 0)]
def pg80 : List PE := [(0, .aload_n 0, 1, 0), (1, .iload_n 1, 2, 0), (2, .invokevirtual 106, 5, 72), (5, .istore_n 2, 6, 0), (6, .iload_n 2, 7, 0), (7, .ifCond .eq 30, 10, 37), (10, .aload_n 0, 11, 0), (11, .getfield 36, 14, 9), (14, .iload_n 1, 15, 0), (15, .iaload, 16, 0), (16, .ifCond .eq 17, 19, 33), (19, .aload_n 0, 20, 0), (20, .getfield 26, 23, 5), (23, .aload_n 0, 24, 0), (24, .getfield 36, 27, 9), (27, .iload_n 1, 28, 0), (28, .iaload, 29, 0), (29, .baload, 30, 0), (30, .ifCond .eq 7, 33, 37), (33, .iconst 1, 34, 0), (34, .goto 4, 37, 38), (37, .iconst 0, 38, 0), (38, .istore_n 3, 39, 0), (39, .iconst 1, 40, 0), (40, .istore 4, 42, 0), (42, .iload 4, 44, 0), (44, .aload_n 0, 45, 0), (45, .getfield 7, 48, 0), (48, .if_icmp .ge 39, 51, 87), (51, .iload_n 3, 52, 0), (52, .ifCond .eq 35, 55, 87), (55, .aload_n 0, 56, 0), (56, .iload_n 1, 57, 0), (57, .iload 4, 59, 0), (59, .invokevirtual 112, 62, 79), (62, .ifCond .eq 13, 65, 75), (65, .aload_n 0, 66, 0), (66, .getfield 26, 69, 5), (69, .iload 4, 71, 0), (71, .baload, 72, 0), (72, .ifCond .eq 7, 75, 79), (75, .iconst 1, 76, 0), (76, .goto 4, 79, 80), (79, .iconst 0, 80, 0), (80, .istore_n 3, 81, 0), (81, .iinc 4 1, 84, 0), (84, .goto (-42), 87, 42), (87, .aload_n 0, 88, 0), (88, .iload_n 2, 89, 0), (89, .ifCond .ne 7, 92, 96), (92, .iconst 1, 93, 0), (93, .goto 12, 96, 105), (96, .iload_n 3, 97, 0), (97, .ifCond .eq 7, 100, 104), (100, .iconst 0, 101, 0), (101, .goto 4, 104, 105), (104, .iconst 2, 105, 0), (105, .invokevirtual 85, 108, 52), (108, .ifCond .eq 5, 111, 113), (111, .iconst 0, 112, 0), (112, .ireturn, 113, 0), (113, .aload_n 0, 114, 0), (114, .aload_n 0, 115, 0), (115, .getfield 36, 118, 9), (118, .iload_n 1, 119, 0), (119, .iaload, 120, 0), (120, .invokevirtual 91, 123, 62), (123, .istore 4, 125, 0), (125, .iconst 1, 126, 0), (126, .istore 5, 128, 0), (128, .iload 5, 130, 0), (130, .aload_n 0, 131, 0), (131, .getfield 7, 134, 0), (134, .if_icmp .ge 34, 137, 168), (137, .iload 4, 139, 0), (139, .aload_n 0, 140, 0), (140, .iload_n 1, 141, 0), (141, .iload 5, 143, 0), (143, .invokevirtual 112, 146, 79), (146, .ifCond .eq 12, 149, 158), (149, .aload_n 0, 150, 0), (150, .iload 5, 152, 0), (152, .invokevirtual 91, 155, 62), (155, .goto 4, 158, 159), (158, .iconst 0, 159, 0), (159, .isub, 160, 0), (160, .istore 4, 162, 0), (162, .iinc 5 1, 165, 0), (165, .goto (-37), 168, 128), (168, .iload 4, 170, 0), (170, .ireturn, 171, 0)]
def pg81 : List PE := [(0, .iconst 0, 1, 0), (1, .istore_n 2, 2, 0), (2, .iconst 0, 3, 0), (3, .istore_n 3, 4, 0), (4, .iload_n 3, 5, 0), (5, .aload_n 0, 6, 0), (6, .getfield 7, 9, 0), (9, .if_icmp .ge 30, 12, 39), (12, .iload_n 2, 13, 0), (13, .aload_n 0, 14, 0), (14, .iload_n 1, 15, 0), (15, .iload_n 3, 16, 0), (16, .invokevirtual 103, 19, 74), (19, .ifCond .eq 11, 22, 30), (22, .aload_n 0, 23, 0), (23, .iload_n 3, 24, 0), (24, .invokevirtual 79, 27, 61), (27, .goto 4, 30, 31), (30, .iconst 0, 31, 0), (31, .iadd, 32, 0), (32, .istore_n 2, 33, 0), (33, .iinc 3 1, 36, 0), (36, .goto (-32), 39, 4), (39, .iload_n 2, 40, 0), (40, .ireturn, 41, 0)]
def pg82 : List PE := [(0, .aload_n 0, 1, 0), (1, .aload_n 0, 2, 0), (2, .iload_n 1, 3, 0), (3, .invokevirtual 106, 6, 72), (6, .ifCond .eq 7, 9, 13), (9, .iconst 0, 10, 0), (10, .goto 4, 13, 14), (13, .iconst 1, 14, 0), (14, .invokevirtual 85, 17, 52), (17, .ifCond .eq 7, 20, 24), (20, .iconst 0, 21, 0), (21, .goto 8, 24, 29), (24, .aload_n 0, 25, 0), (25, .iload_n 1, 26, 0), (26, .invokevirtual 115, 29, 81), (29, .ireturn, 30, 0)]
def pg83 : List PE := [(0, .aload_n 0, 1, 0), (1, .aload_n 0, 2, 0), (2, .iload_n 1, 3, 0), (3, .invokevirtual 106, 6, 72), (6, .ifCond .eq 7, 9, 13), (9, .iconst 0, 10, 0), (10, .goto 4, 13, 14), (13, .iconst 1, 14, 0), (14, .invokevirtual 85, 17, 52), (17, .ifCond .eq 5, 20, 22), (20, .iconst 0, 21, 0), (21, .ireturn, 22, 0), (22, .iconst 0, 23, 0), (23, .istore_n 2, 24, 0), (24, .iconst 0, 25, 0), (25, .istore_n 3, 26, 0), (26, .iload_n 3, 27, 0), (27, .aload_n 0, 28, 0), (28, .getfield 7, 31, 0), (31, .if_icmp .ge 38, 34, 69), (34, .iload_n 2, 35, 0), (35, .aload_n 0, 36, 0), (36, .iload_n 1, 37, 0), (37, .iload_n 3, 38, 0), (38, .invokevirtual 103, 41, 74), (41, .ifCond .eq 19, 44, 60), (44, .aload_n 0, 45, 0), (45, .iload_n 3, 46, 0), (46, .invokevirtual 68, 49, 58), (49, .ifCond .eq 11, 52, 60), (52, .aload_n 0, 53, 0), (53, .iload_n 3, 54, 0), (54, .invokevirtual 72, 57, 60), (57, .goto 4, 60, 61), (60, .iconst 0, 61, 0), (61, .iadd, 62, 0), (62, .istore_n 2, 63, 0), (63, .iinc 3 1, 66, 0), (66, .goto (-40), 69, 26), (69, .iload_n 2, 70, 0), (70, .ireturn, 71, 0)]
def pg84 : List PE := [(0, .iload_n 2, 1, 0), (1, .istore_n 3, 2, 0), (2, .aload_n 0, 3, 0), (3, .getfield 7, 6, 0), (6, .iconst 1, 7, 0), (7, .isub, 8, 0), (8, .istore 4, 10, 0), (10, .iload 4, 12, 0), (12, .ifCond .le 50, 15, 62), (15, .iload 4, 17, 0), (17, .aload_n 0, 18, 0), (18, .getfield 36, 21, 9), (21, .iload_n 1, 22, 0), (22, .iaload, 23, 0), (23, .if_icmp .eq 33, 26, 56), (26, .aload_n 0, 27, 0), (27, .iload_n 1, 28, 0), (28, .iload 4, 30, 0), (30, .invokevirtual 103, 33, 74), (33, .ifCond .eq 23, 36, 56), (36, .aload_n 0, 37, 0), (37, .getfield 30, 40, 6), (40, .iload 4, 42, 0), (42, .baload, 43, 0), (43, .ifCond .ne 13, 46, 56), (46, .iload_n 3, 47, 0), (47, .ifCond .ne 6, 50, 53), (50, .iload 4, 52, 0), (52, .ireturn, 53, 0), (53, .iinc 3 (-1), 56, 0), (56, .iinc 4 (-1), 59, 0), (59, .goto (-49), 62, 10), (62, .iconst (-1), 63, 0), (63, .ireturn, 64, 0)]
def pg85 : List PE := [(0, .aload_n 0, 1, 0), (1, .aload_n 0, 2, 0), (2, .iload_n 1, 3, 0), (3, .invokevirtual 106, 6, 72), (6, .ifCond .eq 7, 9, 13), (9, .iconst 0, 10, 0), (10, .goto 4, 13, 14), (13, .iconst 1, 14, 0), (14, .invokevirtual 85, 17, 52), (17, .ifCond .eq 5, 20, 22), (20, .iconst 0, 21, 0), (21, .ireturn, 22, 0), (22, .iconst 0, 23, 0), (23, .istore_n 2, 24, 0), (24, .aload_n 0, 25, 0), (25, .iload_n 1, 26, 0), (26, .iload_n 2, 27, 0), (27, .invokevirtual 118, 30, 84), (30, .iconst (-1), 31, 0), (31, .if_icmp .eq 9, 34, 40), (34, .iinc 2 1, 37, 0), (37, .goto (-13), 40, 24), (40, .iload_n 2, 41, 0), (41, .ireturn, 42, 0)]
def pg86 : List PE := [(0, .aload_n 0, 1, 0), (1, .iload_n 1, 2, 0), (2, .invokevirtual 106, 5, 72), (5, .ifCond .eq 21, 8, 26), (8, .iload_n 2, 9, 0), (9, .ifCond .lt 17, 12, 26), (12, .aload_n 0, 13, 0), (13, .iload_n 1, 14, 0), (14, .iload_n 2, 15, 0), (15, .invokevirtual 118, 18, 84), (18, .iconst (-1), 19, 0), (19, .if_icmp .eq 7, 22, 26), (22, .iconst 1, 23, 0), (23, .goto 4, 26, 27), (26, .iconst 0, 27, 0), (27, .ireturn, 28, 0)]
def pg87 : List PE := [(0, .aload_n 0, 1, 0), (1, .aload_n 0, 2, 0), (2, .iload_n 1, 3, 0), (3, .iload_n 2, 4, 0), (4, .invokevirtual 122, 7, 86), (7, .ifCond .eq 7, 10, 14), (10, .iconst 0, 11, 0), (11, .goto 4, 14, 15), (14, .iconst 1, 15, 0), (15, .invokevirtual 85, 18, 52), (18, .ifCond .eq 7, 21, 25), (21, .iconst 0, 22, 0), (22, .goto 9, 25, 31), (25, .aload_n 0, 26, 0), (26, .iload_n 1, 27, 0), (27, .iload_n 2, 28, 0), (28, .invokevirtual 118, 31, 84), (31, .ireturn, 32, 0)]
def pg88 : List PE := [(0, .aload_n 0, 1, 0), (1, .aload_n 0, 2, 0), (2, .iload_n 1, 3, 0), (3, .iload_n 2, 4, 0), (4, .invokevirtual 122, 7, 86), (7, .ifCond .eq 7, 10, 14), (10, .iconst 0, 11, 0), (11, .goto 4, 14, 15), (14, .iconst 1, 15, 0), (15, .invokevirtual 85, 18, 52), (18, .ifCond .eq 5, 21, 23), (21, .iconst 0, 22, 0), (22, .ireturn, 23, 0), (23, .iconst 0, 24, 0), (24, .istore_n 3, 25, 0), (25, .iconst 0, 26, 0), (26, .istore 4, 28, 0), (28, .iload 4, 30, 0), (30, .iload_n 2, 31, 0), (31, .if_icmp .ge 32, 34, 63), (34, .aload_n 0, 35, 0), (35, .iload_n 1, 36, 0), (36, .iconst 0, 37, 0), (37, .invokevirtual 118, 40, 84), (40, .istore 5, 42, 0), (42, .aload_n 0, 43, 0), (43, .getfield 30, 46, 6), (46, .iload 5, 48, 0), (48, .iconst 1, 49, 0), (49, .bastore, 50, 0), (50, .iload_n 3, 51, 0), (51, .iconst 1, 52, 0), (52, .iload 5, 54, 0), (54, .ishl, 55, 0), (55, .ior, 56, 0), (56, .istore_n 3, 57, 0), (57, .iinc 4 1, 60, 0), (60, .goto (-32), 63, 28), (63, .aload_n 0, 64, 0), (64, .iload_n 1, 65, 0), (65, .invokevirtual 115, 68, 81), (68, .istore 4, 70, 0), (70, .aload_n 0, 71, 0), (71, .iload_n 1, 72, 0), (72, .iconst 0, 73, 0), (73, .invokevirtual 118, 76, 84), (76, .istore 5, 78, 0), (78, .aload_n 0, 79, 0), (79, .getfield 30, 82, 6), (82, .iload 5, 84, 0), (84, .iconst 1, 85, 0), (85, .bastore, 86, 0), (86, .iload_n 3, 87, 0), (87, .iconst 1, 88, 0), (88, .iload 5, 90, 0), (90, .ishl, 91, 0), (91, .ior, 92, 0), (92, .istore_n 3, 93, 0), (93, .aload_n 0, 94, 0), (94, .iload_n 1, 95, 0), (95, .invokevirtual 115, 98, 81), (98, .istore 6, 100, 0), (100, .iconst 0, 101, 0), (101, .istore 7, 103, 0), (103, .iload 7, 105, 0), (105, .aload_n 0, 106, 0), (106, .getfield 7, 109, 0), (109, .if_icmp .ge 40, 112, 149), (112, .aload_n 0, 113, 0), (113, .getfield 30, 116, 6), (116, .iload 7, 118, 0), (118, .aload_n 0, 119, 0), (119, .getfield 30, 122, 6), (122, .iload 7, 124, 0), (124, .baload, 125, 0), (125, .ifCond .eq 16, 128, 141), (128, .iload_n 3, 129, 0), (129, .iload 7, 131, 0), (131, .ishr, 132, 0), (132, .iconst 1, 133, 0), (133, .iand, 134, 0), (134, .ifCond .ne 7, 137, 141), (137, .iconst 1, 138, 0), (138, .goto 4, 141, 142), (141, .iconst 0, 142, 0), (142, .bastore, 143, 0), (143, .iinc 7 1, 146, 0), (146, .goto (-43), 149, 103), (149, .iload 4, 151, 0), (151, .iload 6, 153, 0), (153, .isub, 154, 0), (154, .ireturn, 155, 0)]
def pg89 : List PE := [(0, .iload_n 2, 1, 0), (1, .iconst 1, 2, 0), (2, .sipush 10000, 5, 0), (5, .invokestatic 57, 8, 54), (8, .ifCond .eq 17, 11, 25), (11, .iload_n 3, 12, 0), (12, .iconst 1, 13, 0), (13, .bipush 100, 15, 0), (15, .invokestatic 57, 18, 54), (18, .ifCond .eq 7, 21, 25), (21, .iconst 1, 22, 0), (22, .goto 4, 25, 26), (25, .iconst 0, 26, 0), (26, .istore 4, 28, 0), (28, .aload_n 0, 29, 0), (29, .iload 4, 31, 0), (31, .ifCond .ne 7, 34, 38), (34, .iconst 1, 35, 0), (35, .goto 29, 38, 64), (38, .aload_n 0, 39, 0), (39, .iload_n 1, 40, 0), (40, .invokevirtual 82, 43, 55), (43, .ifCond .ne 7, 46, 50), (46, .iconst 2, 47, 0), (47, .goto 17, 50, 64), (50, .aload_n 0, 51, 0), (51, .getfield 61, 54, 11), (54, .bipush 20, 56, 0), (56, .if_icmp .ne 7, 59, 63), (59, .iconst 3, 60, 0), (60, .goto 4, 63, 64), (63, .iconst 0, 64, 0), (64, .invokevirtual 85, 67, 52), (67, .ifCond .eq 5, 70, 72), (70, .iconst 0, 71, 0), (71, .ireturn, 72, 0), (72, .aload_n 0, 73, 0), (73, .getfield 42, 76, 12), (76, .aload_n 0, 77, 0), (77, .getfield 61, 80, 11), (80, .iload_n 1, 81, 0), (81, .iastore, 82, 0), (82, .aload_n 0, 83, 0), (83, .getfield 45, 86, 13), (86, .aload_n 0, 87, 0), (87, .getfield 61, 90, 11), (90, .iload_n 2, 91, 0), (91, .iastore, 92, 0), (92, .aload_n 0, 93, 0), (93, .getfield 48, 96, 14), (96, .aload_n 0, 97, 0), (97, .getfield 61, 100, 11), (100, .iload_n 3, 101, 0), (101, .iastore, 102, 0), (102, .aload_n 0, 103, 0), (103, .dup, 104, 0), (104, .getfield 61, 107, 11), (107, .iconst 1, 108, 0), (108, .iadd, 109, 0), (109, .putfield 61, 112, 11), (112, .aload_n 0, 113, 0), (113, .getfield 61, 116, 11), (116, .iconst 1, 117, 0), (117, .isub, 118, 0), (118, .ireturn, 119, 0)]
def pg90 : List PE := [(0, .iload_n 1, 1, 0), (1, .iconst 0, 2, 0), (2, .aload_n 0, 3, 0), (3, .getfield 61, 6, 11), (6, .iconst 1, 7, 0), (7, .isub, 8, 0), (8, .invokestatic 57, 11, 54), (11, .ireturn, 12, 0)]
def pg91 : List PE := [(0, .aload_n 0, 1, 0), (1, .getfield 51, 4, 15), (4, .iload_n 1, 5, 0), (5, .baload, 6, 0), (6, .ifCond .eq 5, 9, 11), (9, .iconst 0, 10, 0), (10, .ireturn, 11, 0), (11, .aload_n 0, 12, 0), (12, .aload_n 0, 13, 0), (13, .getfield 42, 16, 12), (16, .iload_n 1, 17, 0), (17, .iaload, 18, 0), (18, .invokevirtual 79, 21, 61), (21, .istore_n 2, 22, 0), (22, .aload_n 0, 23, 0), (23, .getfield 51, 26, 15), (26, .iload_n 1, 27, 0), (27, .iconst 1, 28, 0), (28, .bastore, 29, 0), (29, .aload_n 0, 30, 0), (30, .aload_n 0, 31, 0), (31, .getfield 42, 34, 12), (34, .iload_n 1, 35, 0), (35, .iaload, 36, 0), (36, .invokevirtual 79, 39, 61), (39, .istore_n 3, 40, 0), (40, .aload_n 0, 41, 0), (41, .getfield 51, 44, 15), (44, .iload_n 1, 45, 0), (45, .iconst 0, 46, 0), (46, .bastore, 47, 0), (47, .iload_n 2, 48, 0), (48, .iload_n 3, 49, 0), (49, .isub, 50, 0), (50, .ireturn, 51, 0)]
def pg92 : List PE := [(0, .aload_n 0, 1, 0), (1, .aload_n 0, 2, 0), (2, .iload_n 1, 3, 0), (3, .invokevirtual 125, 6, 90), (6, .ifCond .ne 7, 9, 13), (9, .iconst 1, 10, 0), (10, .goto 17, 13, 27), (13, .aload_n 0, 14, 0), (14, .getfield 51, 17, 15), (17, .iload_n 1, 18, 0), (18, .baload, 19, 0), (19, .ifCond .eq 7, 22, 26), (22, .iconst 2, 23, 0), (23, .goto 4, 26, 27), (26, .iconst 0, 27, 0), (27, .invokevirtual 85, 30, 52), (30, .ifCond .eq 5, 33, 35), (33, .iconst 0, 34, 0), (34, .ireturn, 35, 0), (35, .aload_n 0, 36, 0), (36, .iload_n 1, 37, 0), (37, .invokevirtual 128, 40, 91), (40, .istore_n 2, 41, 0), (41, .aload_n 0, 42, 0), (42, .getfield 51, 45, 15), (45, .iload_n 1, 46, 0), (46, .iconst 1, 47, 0), (47, .bastore, 48, 0), (48, .iload_n 2, 49, 0), (49, .ireturn, 50, 0)]
def pg93 : List PE := [(0, .aload_n 0, 1, 0), (1, .aload_n 0, 2, 0), (2, .iload_n 1, 3, 0), (3, .invokevirtual 125, 6, 90), (6, .ifCond .eq 7, 9, 13), (9, .iconst 0, 10, 0), (10, .goto 4, 13, 14), (13, .iconst 1, 14, 0), (14, .invokevirtual 85, 17, 52), (17, .ifCond .eq 7, 20, 24), (20, .iconst 0, 21, 0), (21, .goto 8, 24, 29), (24, .aload_n 0, 25, 0), (25, .iload_n 1, 26, 0), (26, .invokevirtual 128, 29, 91), (29, .ireturn, 30, 0)]
def pg94 : List PE := [(0, .aload_n 0, 1, 0), (1, .iload_n 1, 2, 0), (2, .invokevirtual 128, 5, 91), (5, .aload_n 0, 6, 0), (6, .getfield 48, 9, 14), (9, .iload_n 2, 10, 0), (10, .iaload, 11, 0), (11, .imul, 12, 0), (12, .istore_n 3, 13, 0), (13, .aload_n 0, 14, 0), (14, .iload_n 2, 15, 0), (15, .invokevirtual 128, 18, 91), (18, .aload_n 0, 19, 0), (19, .getfield 48, 22, 14), (22, .iload_n 1, 23, 0), (23, .iaload, 24, 0), (24, .imul, 25, 0), (25, .istore 4, 27, 0), (27, .iload_n 3, 28, 0), (28, .iload 4, 30, 0), (30, .if_icmp .gt 14, 33, 44), (33, .iload_n 3, 34, 0), (34, .iload 4, 36, 0), (36, .if_icmp .ne 12, 39, 48), (39, .iload_n 1, 40, 0), (40, .iload_n 2, 41, 0), (41, .if_icmp .ge 7, 44, 48), (44, .iconst 1, 45, 0), (45, .goto 4, 48, 49), (48, .iconst 0, 49, 0), (49, .ireturn, 50, 0)]
def pg95 : List PE := [(0, .iconst 0, 1, 0), (1, .istore_n 2, 2, 0), (2, .iload_n 2, 3, 0), (3, .aload_n 0, 4, 0), (4, .getfield 61, 7, 11), (7, .if_icmp .ge 79, 10, 86), (10, .iconst 0, 11, 0), (11, .istore_n 3, 12, 0), (12, .iconst 0, 13, 0), (13, .istore 4, 15, 0), (15, .iload 4, 17, 0), (17, .aload_n 0, 18, 0), (18, .getfield 61, 21, 11), (21, .if_icmp .ge 43, 24, 64), (24, .iload_n 3, 25, 0), (25, .aload_n 0, 26, 0), (26, .getfield 51, 29, 15), (29, .iload 4, 31, 0), (31, .baload, 32, 0), (32, .ifCond .ne 23, 35, 55), (35, .iload 4, 37, 0), (37, .iload_n 2, 38, 0), (38, .if_icmp .eq 17, 41, 55), (41, .aload_n 0, 42, 0), (42, .iload 4, 44, 0), (44, .iload_n 2, 45, 0), (45, .invokevirtual 131, 48, 94), (48, .ifCond .eq 7, 51, 55), (51, .iconst 1, 52, 0), (52, .goto 4, 55, 56), (55, .iconst 0, 56, 0), (56, .iadd, 57, 0), (57, .istore_n 3, 58, 0), (58, .iinc 4 1, 61, 0), (61, .goto (-46), 64, 15), (64, .aload_n 0, 65, 0), (65, .getfield 51, 68, 15), (68, .iload_n 2, 69, 0), (69, .baload, 70, 0), (70, .ifCond .ne 10, 73, 80), (73, .iload_n 3, 74, 0), (74, .iload_n 1, 75, 0), (75, .if_icmp .ne 5, 78, 80), (78, .iload_n 2, 79, 0), (79, .ireturn, 80, 0), (80, .iinc 2 1, 83, 0), (83, .goto (-81), 86, 2), (86, .iconst (-1), 87, 0), (87, .ireturn, 88, 0)]
def pg96 : List PE := [(0, .iload_n 1, 1, 0), (1, .ifCond .ge 7, 4, 8), (4, .iconst (-1), 5, 0), (5, .goto 8, 8, 13), (8, .aload_n 0, 9, 0), (9, .iload_n 1, 10, 0), (10, .invokevirtual 134, 13, 95), (13, .istore_n 2, 14, 0), (14, .aload_n 0, 15, 0), (15, .iload_n 2, 16, 0), (16, .iconst (-1), 17, 0), (17, .if_icmp .ne 7, 20, 24), (20, .iconst 1, 21, 0), (21, .goto 4, 24, 25), (24, .iconst 0, 25, 0), (25, .invokevirtual 85, 28, 52), (28, .ifCond .eq 7, 31, 35), (31, .iconst 0, 32, 0), (32, .goto 4, 35, 36), (35, .iload_n 2, 36, 0), (36, .ireturn, 37, 0)]
def pg97 : List PE := [(0, .aload_n 0, 1, 0), (1, .iload_n 1, 2, 0), (2, .iconst 0, 3, 0), (3, .sipush 1000, 6, 0), (6, .invokestatic 57, 9, 54), (9, .ifCond .eq 7, 12, 16), (12, .iconst 0, 13, 0), (13, .goto 4, 16, 17), (16, .iconst 1, 17, 0), (17, .invokevirtual 85, 20, 52), (20, .ifCond .eq 5, 23, 25), (23, .iconst 0, 24, 0), (24, .ireturn, 25, 0), (25, .iload_n 1, 26, 0), (26, .istore_n 2, 27, 0), (27, .iconst 0, 28, 0), (28, .istore_n 3, 29, 0), (29, .iconst 0, 30, 0), (30, .istore 4, 32, 0), (32, .aload_n 0, 33, 0), (33, .iconst 0, 34, 0), (34, .invokevirtual 134, 37, 95), (37, .istore 5, 39, 0), (39, .iload 5, 41, 0), (41, .iconst (-1), 42, 0), (42, .if_icmp .eq 45, 45, 87), (45, .aload_n 0, 46, 0), (46, .getfield 48, 49, 14), (49, .iload 5, 51, 0), (51, .iaload, 52, 0), (52, .iload_n 2, 53, 0), (53, .if_icmp .gt 20, 56, 73), (56, .iload_n 2, 57, 0), (57, .aload_n 0, 58, 0), (58, .getfield 48, 61, 14), (61, .iload 5, 63, 0), (63, .iaload, 64, 0), (64, .isub, 65, 0), (65, .istore_n 2, 66, 0), (66, .iload_n 3, 67, 0), (67, .iconst 1, 68, 0), (68, .iload 5, 70, 0), (70, .ishl, 71, 0), (71, .ior, 72, 0), (72, .istore_n 3, 73, 0), (73, .iinc 4 1, 76, 0), (76, .aload_n 0, 77, 0), (77, .iload 4, 79, 0), (79, .invokevirtual 134, 82, 95), (82, .istore 5, 84, 0), (84, .goto (-45), 87, 39), (87, .iload_n 3, 88, 0), (88, .ireturn, 89, 0)]
def pg98 : List PE := [(0, .aload_n 3, 1, 0), (1, .iconst 0, 2, 0), (2, .aload_n 0, 3, 0), (3, .iload_n 1, 4, 0), (4, .iload_n 2, 5, 0), (5, .invokevirtual 7, 8, 1), (8, .i2l, 9, 0), (9, .lastore, 10, 0), (10, .goto 15, 13, 25), (13, .astore 4, 15, 0), (15, .iconst 1, 16, 0), (16, .ireturn, 17, 0), (17, .astore 4, 19, 0), (19, .iconst 2, 20, 0), (20, .ireturn, 21, 0), (21, .astore 4, 23, 0), (23, .iconst 3, 24, 0), (24, .ireturn, 25, 0), (25, .iconst 0, 26, 0), (26, .ireturn, 27, 0)]
def pg99 : List PE := [(0, .aload_n 3, 1, 0), (1, .iconst 0, 2, 0), (2, .aload_n 0, 3, 0), (3, .iload_n 1, 4, 0), (4, .iload_n 2, 5, 0), (5, .invokevirtual 19, 8, 2), (8, .i2l, 9, 0), (9, .lastore, 10, 0), (10, .goto 11, 13, 21), (13, .astore 4, 15, 0), (15, .iconst 1, 16, 0), (16, .ireturn, 17, 0), (17, .astore 4, 19, 0), (19, .iconst 2, 20, 0), (20, .ireturn, 21, 0), (21, .iconst 0, 22, 0), (22, .ireturn, 23, 0)]
def pg100 : List PE := [(0, .aload_n 3, 1, 0), (1, .iconst 0, 2, 0), (2, .aload_n 0, 3, 0), (3, .iload_n 1, 4, 0), (4, .iload_n 2, 5, 0), (5, .invokevirtual 22, 8, 3), (8, .i2l, 9, 0), (9, .lastore, 10, 0), (10, .goto 11, 13, 21), (13, .astore 4, 15, 0), (15, .iconst 1, 16, 0), (16, .ireturn, 17, 0), (17, .astore 4, 19, 0), (19, .iconst 2, 20, 0), (20, .ireturn, 21, 0), (21, .iconst 0, 22, 0), (22, .ireturn, 23, 0)]
def pg101 : List PE := [(0, .aload_n 2, 1, 0), (1, .iconst 0, 2, 0), (2, .aload_n 0, 3, 0), (3, .iload_n 1, 4, 0), (4, .invokevirtual 25, 7, 4), (7, .ifCond .eq 7, 10, 14), (10, .lconst 1, 11, 0), (11, .goto 4, 14, 15), (14, .lconst 0, 15, 0), (15, .lastore, 16, 0), (16, .goto 6, 19, 22), (19, .astore_n 3, 20, 0), (20, .iconst 1, 21, 0), (21, .ireturn, 22, 0), (22, .iconst 0, 23, 0), (23, .ireturn, 24, 0)]
def pg102 : List PE := [(0, .aload_n 2, 1, 0), (1, .iconst 0, 2, 0), (2, .aload_n 0, 3, 0), (3, .iload_n 1, 4, 0), (4, .invokevirtual 29, 7, 5), (7, .ifCond .eq 7, 10, 14), (10, .lconst 1, 11, 0), (11, .goto 4, 14, 15), (14, .lconst 0, 15, 0), (15, .lastore, 16, 0), (16, .goto 6, 19, 22), (19, .astore_n 3, 20, 0), (20, .iconst 1, 21, 0), (21, .ireturn, 22, 0), (22, .iconst 0, 23, 0), (23, .ireturn, 24, 0)]
def pg103 : List PE := [(0, .aload_n 2, 1, 0), (1, .iconst 0, 2, 0), (2, .aload_n 0, 3, 0), (3, .iload_n 1, 4, 0), (4, .invokevirtual 32, 7, 6), (7, .ifCond .eq 7, 10, 14), (10, .lconst 1, 11, 0), (11, .goto 4, 14, 15), (14, .lconst 0, 15, 0), (15, .lastore, 16, 0), (16, .goto 6, 19, 22), (19, .astore_n 3, 20, 0), (20, .iconst 1, 21, 0), (21, .ireturn, 22, 0), (22, .iconst 0, 23, 0), (23, .ireturn, 24, 0)]
def pg104 : List PE := [(0, .aload_n 2, 1, 0), (1, .iconst 0, 2, 0), (2, .aload_n 0, 3, 0), (3, .iload_n 1, 4, 0), (4, .invokevirtual 35, 7, 7), (7, .i2l, 8, 0), (8, .lastore, 9, 0), (9, .goto 6, 12, 15), (12, .astore_n 3, 13, 0), (13, .iconst 1, 14, 0), (14, .ireturn, 15, 0), (15, .iconst 0, 16, 0), (16, .ireturn, 17, 0)]
def pg105 : List PE := [(0, .aload_n 2, 1, 0), (1, .iconst 0, 2, 0), (2, .aload_n 0, 3, 0), (3, .iload_n 1, 4, 0), (4, .invokevirtual 39, 7, 8), (7, .i2l, 8, 0), (8, .lastore, 9, 0), (9, .goto 9, 12, 18), (12, .astore_n 3, 13, 0), (13, .iconst 1, 14, 0), (14, .ireturn, 15, 0), (15, .astore_n 3, 16, 0), (16, .iconst 2, 17, 0), (17, .ireturn, 18, 0), (18, .iconst 0, 19, 0), (19, .ireturn, 20, 0)]
def pg106 : List PE := [(0, .aload_n 2, 1, 0), (1, .iconst 0, 2, 0), (2, .aload_n 0, 3, 0), (3, .iload_n 1, 4, 0), (4, .invokevirtual 42, 7, 10), (7, .i2l, 8, 0), (8, .lastore, 9, 0), (9, .goto 9, 12, 18), (12, .astore_n 3, 13, 0), (13, .iconst 1, 14, 0), (14, .ireturn, 15, 0), (15, .astore_n 3, 16, 0), (16, .iconst 2, 17, 0), (17, .ireturn, 18, 0), (18, .iconst 0, 19, 0), (19, .ireturn, 20, 0)]
def pg107 : List PE := [(0, .aload_n 3, 1, 0), (1, .iconst 0, 2, 0), (2, .aload_n 0, 3, 0), (3, .iload_n 1, 4, 0), (4, .iload_n 2, 5, 0), (5, .invokevirtual 45, 8, 11), (8, .i2l, 9, 0), (9, .lastore, 10, 0), (10, .goto 11, 13, 21), (13, .astore 4, 15, 0), (15, .iconst 1, 16, 0), (16, .ireturn, 17, 0), (17, .astore 4, 19, 0), (19, .iconst 2, 20, 0), (20, .ireturn, 21, 0), (21, .iconst 0, 22, 0), (22, .ireturn, 23, 0)]
def pg108 : List PE := [(0, .aload_n 2, 1, 0), (1, .iconst 0, 2, 0), (2, .aload_n 0, 3, 0), (3, .iload_n 1, 4, 0), (4, .invokevirtual 48, 7, 12), (7, .i2l, 8, 0), (8, .lastore, 9, 0), (9, .goto 6, 12, 15), (12, .astore_n 3, 13, 0), (13, .iconst 1, 14, 0), (14, .ireturn, 15, 0), (15, .iconst 0, 16, 0), (16, .ireturn, 17, 0)]
def pg109 : List PE := [(0, .aload_n 2, 1, 0), (1, .iconst 0, 2, 0), (2, .aload_n 0, 3, 0), (3, .iload_n 1, 4, 0), (4, .invokevirtual 51, 7, 13), (7, .i2l, 8, 0), (8, .lastore, 9, 0), (9, .goto 9, 12, 18), (12, .astore_n 3, 13, 0), (13, .iconst 1, 14, 0), (14, .ireturn, 15, 0), (15, .astore_n 3, 16, 0), (16, .iconst 2, 17, 0), (17, .ireturn, 18, 0), (18, .iconst 0, 19, 0), (19, .ireturn, 20, 0)]
def pg110 : List PE := [(0, .aload_n 2, 1, 0), (1, .iconst 0, 2, 0), (2, .aload_n 0, 3, 0), (3, .iload_n 1, 4, 0), (4, .invokevirtual 54, 7, 14), (7, .i2l, 8, 0), (8, .lastore, 9, 0), (9, .goto 6, 12, 15), (12, .astore_n 3, 13, 0), (13, .iconst 1, 14, 0), (14, .ireturn, 15, 0), (15, .iconst 0, 16, 0), (16, .ireturn, 17, 0)]
def pg111 : List PE := [(0, .aload_n 2, 1, 0), (1, .iconst 0, 2, 0), (2, .aload_n 0, 3, 0), (3, .iload_n 1, 4, 0), (4, .invokevirtual 57, 7, 15), (7, .i2l, 8, 0), (8, .lastore, 9, 0), (9, .goto 6, 12, 15), (12, .astore_n 3, 13, 0), (13, .iconst 1, 14, 0), (14, .ireturn, 15, 0), (15, .iconst 0, 16, 0), (16, .ireturn, 17, 0)]
def pg112 : List PE := [(0, .aload_n 2, 1, 0), (1, .iconst 0, 2, 0), (2, .aload_n 0, 3, 0), (3, .iload_n 1, 4, 0), (4, .invokevirtual 60, 7, 16), (7, .i2l, 8, 0), (8, .lastore, 9, 0), (9, .goto 6, 12, 15), (12, .astore_n 3, 13, 0), (13, .iconst 1, 14, 0), (14, .ireturn, 15, 0), (15, .iconst 0, 16, 0), (16, .ireturn, 17, 0)]
def pg113 : List PE := [(0, .aload_n 3, 1, 0), (1, .iconst 0, 2, 0), (2, .aload_n 0, 3, 0), (3, .iload_n 1, 4, 0), (4, .iload_n 2, 5, 0), (5, .invokevirtual 63, 8, 17), (8, .i2l, 9, 0), (9, .lastore, 10, 0), (10, .goto 7, 13, 17), (13, .astore 4, 15, 0), (15, .iconst 1, 16, 0), (16, .ireturn, 17, 0), (17, .iconst 0, 18, 0), (18, .ireturn, 19, 0)]
def pg114 : List PE := [(0, .aload_n 3, 1, 0), (1, .iconst 0, 2, 0), (2, .aload_n 0, 3, 0), (3, .iload_n 1, 4, 0), (4, .iload_n 2, 5, 0), (5, .invokevirtual 66, 8, 18), (8, .i2l, 9, 0), (9, .lastore, 10, 0), (10, .goto 7, 13, 17), (13, .astore 4, 15, 0), (15, .iconst 1, 16, 0), (16, .ireturn, 17, 0), (17, .iconst 0, 18, 0), (18, .ireturn, 19, 0)]
def pg115 : List PE := [(0, .aload 4, 2, 0), (2, .iconst 0, 3, 0), (3, .aload_n 0, 4, 0), (4, .iload_n 1, 5, 0), (5, .iload_n 2, 6, 0), (6, .iload_n 3, 7, 0), (7, .invokevirtual 69, 10, 19), (10, .i2l, 11, 0), (11, .lastore, 12, 0), (12, .goto 15, 15, 27), (15, .astore 5, 17, 0), (17, .iconst 1, 18, 0), (18, .ireturn, 19, 0), (19, .astore 5, 21, 0), (21, .iconst 2, 22, 0), (22, .ireturn, 23, 0), (23, .astore 5, 25, 0), (25, .iconst 3, 26, 0), (26, .ireturn, 27, 0), (27, .iconst 0, 28, 0), (28, .ireturn, 29, 0)]
def pg116 : List PE := [(0, .aload_n 2, 1, 0), (1, .iconst 0, 2, 0), (2, .aload_n 0, 3, 0), (3, .iload_n 1, 4, 0), (4, .invokevirtual 73, 7, 20), (7, .i2l, 8, 0), (8, .lastore, 9, 0), (9, .goto 9, 12, 18), (12, .astore_n 3, 13, 0), (13, .iconst 1, 14, 0), (14, .ireturn, 15, 0), (15, .astore_n 3, 16, 0), (16, .iconst 2, 17, 0), (17, .ireturn, 18, 0), (18, .iconst 0, 19, 0), (19, .ireturn, 20, 0)]
def pg117 : List PE := [(0, .aload_n 2, 1, 0), (1, .iconst 0, 2, 0), (2, .aload_n 0, 3, 0), (3, .iload_n 1, 4, 0), (4, .invokevirtual 76, 7, 21), (7, .i2l, 8, 0), (8, .lastore, 9, 0), (9, .goto 6, 12, 15), (12, .astore_n 3, 13, 0), (13, .iconst 1, 14, 0), (14, .ireturn, 15, 0), (15, .iconst 0, 16, 0), (16, .ireturn, 17, 0)]
def pg118 : List PE := [(0, .aload_n 2, 1, 0), (1, .iconst 0, 2, 0), (2, .aload_n 0, 3, 0), (3, .iload_n 1, 4, 0), (4, .invokevirtual 79, 7, 22), (7, .i2l, 8, 0), (8, .lastore, 9, 0), (9, .goto 6, 12, 15), (12, .astore_n 3, 13, 0), (13, .iconst 1, 14, 0), (14, .ireturn, 15, 0), (15, .iconst 0, 16, 0), (16, .ireturn, 17, 0)]
def pg119 : List PE := [(0, .aload_n 2, 1, 0), (1, .iconst 0, 2, 0), (2, .aload_n 0, 3, 0), (3, .iload_n 1, 4, 0), (4, .invokevirtual 82, 7, 23), (7, .i2l, 8, 0), (8, .lastore, 9, 0), (9, .goto 6, 12, 15), (12, .astore_n 3, 13, 0), (13, .iconst 1, 14, 0), (14, .ireturn, 15, 0), (15, .iconst 0, 16, 0), (16, .ireturn, 17, 0)]
def pg120 : List PE := [(0, .new 8, 3, 0), (3, .dup, 4, 0), (4, .invokespecial 85, 7, 0), (7, .astore_n 1, 8, 0), (8, .new 86, 11, 0), (11, .dup, 12, 0), (12, .invokespecial 88, 15, 0), (15, .astore_n 2, 16, 0), (16, .iconst 1, 17, 0), (17, .newarray .long, 19, 0), (19, .astore_n 3, 20, 0), (20, .iconst 0, 21, 0), (21, .istore 4, 23, 0), (23, .iload 4, 25, 0), (25, .aload_n 0, 26, 0), (26, .arraylength, 27, 0), (27, .iconst 4, 28, 0), (28, .isub, 29, 0), (29, .if_icmp .gt 1483, 32, 1512), (32, .aload_n 0, 33, 0), (33, .iload 4, 35, 0), (35, .iaload, 36, 0), (36, .bipush 31, 38, 0), (38, .iand, 39, 0), (39, .tableswitch 1467 0 22 #[105, 173, 241, 309, 372, 435, 498, 554, 610, 623, 679, 747, 803, 859, 915, 971, 1027, 1095, 1163, 1243, 1299, 1355, 1411], 144, 0), (144, .aload_n 1, 145, 0), (145, .aload_n 0, 146, 0), (146, .iload 4, 148, 0), (148, .iconst 1, 149, 0), (149, .iadd, 150, 0), (150, .iaload, 151, 0), (151, .aload_n 0, 152, 0), (152, .iload 4, 154, 0), (154, .iconst 2, 155, 0), (155, .iadd, 156, 0), (156, .iaload, 157, 0), (157, .aload_n 3, 158, 0), (158, .invokestatic 89, 161, 98), (161, .istore 5, 163, 0), (163, .aload_n 2, 164, 0), (164, .aload_n 0, 165, 0), (165, .iload 4, 167, 0), (167, .iconst 1, 168, 0), (168, .iadd, 169, 0), (169, .iaload, 170, 0), (170, .aload_n 0, 171, 0), (171, .iload 4, 173, 0), (173, .iconst 2, 174, 0), (174, .iadd, 175, 0), (175, .iaload, 176, 0), (176, .invokevirtual 94, 179, 63), (179, .istore 6, 181, 0), (181, .aload_n 2, 182, 0), (182, .invokevirtual 95, 185, 51), (185, .iload 5, 187, 0), (187, .if_icmp .eq 5, 190, 192), (190, .iconst 0, 191, 0), (191, .ireturn, 192, 0), (192, .iload 5, 194, 0), (194, .ifCond .ne 15, 197, 209), (197, .aload_n 3, 198, 0), (198, .iconst 0, 199, 0), (199, .laload, 200, 0), (200, .iload 6, 202, 0), (202, .i2l, 203, 0), (203, .lcmp, 204, 0), (204, .ifCond .eq 5, 207, 209), (207, .iconst 0, 208, 0), (208, .ireturn, 209, 0), (209, .goto 1297, 212, 1506), (212, .aload_n 1, 213, 0), (213, .aload_n 0, 214, 0), (214, .iload 4, 216, 0), (216, .iconst 1, 217, 0), (217, .iadd, 218, 0), (218, .iaload, 219, 0), (219, .aload_n 0, 220, 0), (220, .iload 4, 222, 0), (222, .iconst 2, 223, 0), (223, .iadd, 224, 0), (224, .iaload, 225, 0), (225, .aload_n 3, 226, 0), (226, .invokestatic 99, 229, 99), (229, .istore 5, 231, 0), (231, .aload_n 2, 232, 0), (232, .aload_n 0, 233, 0), (233, .iload 4, 235, 0), (235, .iconst 1, 236, 0), (236, .iadd, 237, 0), (237, .iaload, 238, 0), (238, .aload_n 0, 239, 0), (239, .iload 4, 241, 0), (241, .iconst 2, 242, 0), (242, .iadd, 243, 0), (243, .iaload, 244, 0), (244, .invokevirtual 101, 247, 64), (247, .istore 6, 249, 0), (249, .aload_n 2, 250, 0), (250, .invokevirtual 95, 253, 51), (253, .iload 5, 255, 0), (255, .if_icmp .eq 5, 258, 260), (258, .iconst 0, 259, 0), (259, .ireturn, 260, 0), (260, .iload 5, 262, 0), (262, .ifCond .ne 15, 265, 277), (265, .aload_n 3, 266, 0), (266, .iconst 0, 267, 0), (267, .laload, 268, 0), (268, .iload 6, 270, 0), (270, .i2l, 271, 0), (271, .lcmp, 272, 0), (272, .ifCond .eq 5, 275, 277), (275, .iconst 0, 276, 0), (276, .ireturn, 277, 0), (277, .goto 1229, 280, 1506), (280, .aload_n 1, 281, 0), (281, .aload_n 0, 282, 0), (282, .iload 4, 284, 0), (284, .iconst 1, 285, 0), (285, .iadd, 286, 0), (286, .iaload, 287, 0), (287, .aload_n 0, 288, 0), (288, .iload 4, 290, 0), (290, .iconst 2, 291, 0), (291, .iadd, 292, 0), (292, .iaload, 293, 0), (293, .aload_n 3, 294, 0), (294, .invokestatic 102, 297, 100), (297, .istore 5, 299, 0), (299, .aload_n 2, 300, 0), (300, .aload_n 0, 301, 0), (301, .iload 4, 303, 0), (303, .iconst 1, 304, 0), (304, .iadd, 305, 0), (305, .iaload, 306, 0), (306, .aload_n 0, 307, 0), (307, .iload 4, 309, 0), (309, .iconst 2, 310, 0), (310, .iadd, 311, 0), (311, .iaload, 312, 0), (312, .invokevirtual 104, 315, 65), (315, .istore 6, 317, 0), (317, .aload_n 2, 318, 0), (318, .invokevirtual 95, 321, 51), (321, .iload 5, 323, 0), (323, .if_icmp .eq 5, 326, 328), (326, .iconst 0, 327, 0), (327, .ireturn, 328, 0), (328, .iload 5, 330, 0), (330, .ifCond .ne 15, 333, 345), (333, .aload_n 3, 334, 0), (334, .iconst 0, 335, 0), (335, .laload, 336, 0), (336, .iload 6, 338, 0), (338, .i2l, 339, 0), (339, .lcmp, 340, 0), (340, .ifCond .eq 5, 343, 345), (343, .iconst 0, 344, 0), (344, .ireturn, 345, 0), (345, .goto 1161, 348, 1506), (348, .aload_n 1, 349, 0), (349, .aload_n 0, 350, 0), (350, .iload 4, 352, 0), (352, .iconst 1, 353, 0), (353, .iadd, 354, 0), (354, .iaload, 355, 0), (355, .aload_n 3, 356, 0), (356, .invokestatic 105, 359, 101), (359, .istore 5, 361, 0), (361, .aload_n 2, 362, 0), (362, .aload_n 0, 363, 0), (363, .iload 4, 365, 0), (365, .iconst 1, 366, 0), (366, .iadd, 367, 0), (367, .iaload, 368, 0), (368, .invokevirtual 108, 371, 66), (371, .istore 6, 373, 0), (373, .aload_n 2, 374, 0), (374, .invokevirtual 95, 377, 51), (377, .iload 5, 379, 0), (379, .if_icmp .eq 5, 382, 384), (382, .iconst 0, 383, 0), (383, .ireturn, 384, 0), (384, .iload 5, 386, 0), (386, .ifCond .ne 22, 389, 408), (389, .aload_n 3, 390, 0), (390, .iconst 0, 391, 0), (391, .laload, 392, 0), (392, .iload 6, 394, 0), (394, .ifCond .eq 7, 397, 401), (397, .lconst 1, 398, 0), (398, .goto 4, 401, 402), (401, .lconst 0, 402, 0), (402, .lcmp, 403, 0), (403, .ifCond .eq 5, 406, 408), (406, .iconst 0, 407, 0), (407, .ireturn, 408, 0), (408, .goto 1098, 411, 1506), (411, .aload_n 1, 412, 0), (412, .aload_n 0, 413, 0), (413, .iload 4, 415, 0), (415, .iconst 1, 416, 0), (416, .iadd, 417, 0), (417, .iaload, 418, 0), (418, .aload_n 3, 419, 0), (419, .invokestatic 109, 422, 102), (422, .istore 5, 424, 0), (424, .aload_n 2, 425, 0), (425, .aload_n 0, 426, 0), (426, .iload 4, 428, 0), (428, .iconst 1, 429, 0), (429, .iadd, 430, 0), (430, .iaload, 431, 0), (431, .invokevirtual 111, 434, 67), (434, .istore 6, 436, 0), (436, .aload_n 2, 437, 0), (437, .invokevirtual 95, 440, 51), (440, .iload 5, 442, 0), (442, .if_icmp .eq 5, 445, 447), (445, .iconst 0, 446, 0), (446, .ireturn, 447, 0), (447, .iload 5, 449, 0), (449, .ifCond .ne 22, 452, 471), (452, .aload_n 3, 453, 0), (453, .iconst 0, 454, 0), (454, .laload, 455, 0), (455, .iload 6, 457, 0), (457, .ifCond .eq 7, 460, 464), (460, .lconst 1, 461, 0), (461, .goto 4, 464, 465), (464, .lconst 0, 465, 0), (465, .lcmp, 466, 0), (466, .ifCond .eq 5, 469, 471), (469, .iconst 0, 470, 0), (470, .ireturn, 471, 0), (471, .goto 1035, 474, 1506), (474, .aload_n 1, 475, 0), (475, .aload_n 0, 476, 0), (476, .iload 4, 478, 0), (478, .iconst 1, 479, 0), (479, .iadd, 480, 0), (480, .iaload, 481, 0), (481, .aload_n 3, 482, 0), (482, .invokestatic 112, 485, 103), (485, .istore 5, 487, 0), (487, .aload_n 2, 488, 0), (488, .aload_n 0, 489, 0), (489, .iload 4, 491, 0), (491, .iconst 1, 492, 0), (492, .iadd, 493, 0), (493, .iaload, 494, 0), (494, .invokevirtual 114, 497, 68), (497, .istore 6, 499, 0), (499, .aload_n 2, 500, 0), (500, .invokevirtual 95, 503, 51), (503, .iload 5, 505, 0), (505, .if_icmp .eq 5, 508, 510), (508, .iconst 0, 509, 0), (509, .ireturn, 510, 0), (510, .iload 5, 512, 0), (512, .ifCond .ne 22, 515, 534), (515, .aload_n 3, 516, 0), (516, .iconst 0, 517, 0), (517, .laload, 518, 0), (518, .iload 6, 520, 0), (520, .ifCond .eq 7, 523, 527), (523, .lconst 1, 524, 0), (524, .goto 4, 527, 528), (527, .lconst 0, 528, 0), (528, .lcmp, 529, 0), (529, .ifCond .eq 5, 532, 534), (532, .iconst 0, 533, 0), (533, .ireturn, 534, 0), (534, .goto 972, 537, 1506), (537, .aload_n 1, 538, 0), (538, .aload_n 0, 539, 0), (539, .iload 4, 541, 0), (541, .iconst 1, 542, 0), (542, .iadd, 543, 0), (543, .iaload, 544, 0), (544, .aload_n 3, 545, 0), (545, .invokestatic 115, 548, 104), (548, .istore 5, 550, 0), (550, .aload_n 2, 551, 0), (551, .aload_n 0, 552, 0), (552, .iload 4, 554, 0), (554, .iconst 1, 555, 0), (555, .iadd, 556, 0), (556, .iaload, 557, 0), (557, .invokevirtual 117, 560, 69), (560, .istore 6, 562, 0), (562, .aload_n 2, 563, 0), (563, .invokevirtual 95, 566, 51), (566, .iload 5, 568, 0), (568, .if_icmp .eq 5, 571, 573), (571, .iconst 0, 572, 0), (572, .ireturn, 573, 0), (573, .iload 5, 575, 0), (575, .ifCond .ne 15, 578, 590), (578, .aload_n 3, 579, 0), (579, .iconst 0, 580, 0), (580, .laload, 581, 0), (581, .iload 6, 583, 0), (583, .i2l, 584, 0), (584, .lcmp, 585, 0), (585, .ifCond .eq 5, 588, 590), (588, .iconst 0, 589, 0), (589, .ireturn, 590, 0), (590, .goto 916, 593, 1506), (593, .aload_n 1, 594, 0), (594, .aload_n 0, 595, 0), (595, .iload 4, 597, 0), (597, .iconst 1, 598, 0), (598, .iadd, 599, 0), (599, .iaload, 600, 0), (600, .aload_n 3, 601, 0), (601, .invokestatic 118, 604, 105), (604, .istore 5, 606, 0), (606, .aload_n 2, 607, 0), (607, .aload_n 0, 608, 0), (608, .iload 4, 610, 0), (610, .iconst 1, 611, 0), (611, .iadd, 612, 0), (612, .iaload, 613, 0), (613, .invokevirtual 120, 616, 70), (616, .istore 6, 618, 0), (618, .aload_n 2, 619, 0), (619, .invokevirtual 95, 622, 51), (622, .iload 5, 624, 0), (624, .if_icmp .eq 5, 627, 629), (627, .iconst 0, 628, 0), (628, .ireturn, 629, 0), (629, .iload 5, 631, 0), (631, .ifCond .ne 15, 634, 646), (634, .aload_n 3, 635, 0), (635, .iconst 0, 636, 0), (636, .laload, 637, 0), (637, .iload 6, 639, 0), (639, .i2l, 640, 0), (640, .lcmp, 641, 0), (641, .ifCond .eq 5, 644, 646), (644, .iconst 0, 645, 0), (645, .ireturn, 646, 0), (646, .goto 860, 649, 1506), (649, .aload_n 1, 650, 0), (650, .invokevirtual 121, 653, 9), (653, .aload_n 2, 654, 0), (654, .invokevirtual 124, 657, 71), (657, .if_icmp .eq 849, 660, 1506), (660, .iconst 0, 661, 0), (661, .ireturn, 662, 0), (662, .aload_n 1, 663, 0), (663, .aload_n 0, 664, 0), (664, .iload 4, 666, 0), (666, .iconst 1, 667, 0), (667, .iadd, 668, 0), (668, .iaload, 669, 0), (669, .aload_n 3, 670, 0), (670, .invokestatic 125, 673, 106), (673, .istore 5, 675, 0), (675, .aload_n 2, 676, 0), (676, .aload_n 0, 677, 0), (677, .iload 4, 679, 0), (679, .iconst 1, 680, 0), (680, .iadd, 681, 0), (681, .iaload, 682, 0), (682, .invokevirtual 127, 685, 76), (685, .istore 6, 687, 0), (687, .aload_n 2, 688, 0), (688, .invokevirtual 95, 691, 51), (691, .iload 5, 693, 0), (693, .if_icmp .eq 5, 696, 698), (696, .iconst 0, 697, 0), (697, .ireturn, 698, 0), (698, .iload 5, 700, 0), (700, .ifCond .ne 15, 703, 715), (703, .aload_n 3, 704, 0), (704, .iconst 0, 705, 0), (705, .laload, 706, 0), (706, .iload 6, 708, 0), (708, .i2l, 709, 0), (709, .lcmp, 710, 0), (710, .ifCond .eq 5, 713, 715), (713, .iconst 0, 714, 0), (714, .ireturn, 715, 0), (715, .goto 791, 718, 1506), (718, .aload_n 1, 719, 0), (719, .aload_n 0, 720, 0), (720, .iload 4, 722, 0), (722, .iconst 1, 723, 0), (723, .iadd, 724, 0), (724, .iaload, 725, 0), (725, .aload_n 0, 726, 0), (726, .iload 4, 728, 0), (728, .iconst 2, 729, 0), (729, .iadd, 730, 0), (730, .iaload, 731, 0), (731, .aload_n 3, 732, 0), (732, .invokestatic 128, 735, 107), (735, .istore 5, 737, 0), (737, .aload_n 2, 738, 0), (738, .aload_n 0, 739, 0), (739, .iload 4, 741, 0), (741, .iconst 1, 742, 0), (742, .iadd, 743, 0), (743, .iaload, 744, 0), (744, .aload_n 0, 745, 0), (745, .iload 4, 747, 0), (747, .iconst 2, 748, 0), (748, .iadd, 749, 0), (749, .iaload, 750, 0), (750, .invokevirtual 130, 753, 77), (753, .istore 6, 755, 0), (755, .aload_n 2, 756, 0), (756, .invokevirtual 95, 759, 51), (759, .iload 5, 761, 0), (761, .if_icmp .eq 5, 764, 766), (764, .iconst 0, 765, 0), (765, .ireturn, 766, 0), (766, .iload 5, 768, 0), (768, .ifCond .ne 15, 771, 783), (771, .aload_n 3, 772, 0), (772, .iconst 0, 773, 0), (773, .laload, 774, 0), (774, .iload 6, 776, 0), (776, .i2l, 777, 0), (777, .lcmp, 778, 0), (778, .ifCond .eq 5, 781, 783), (781, .iconst 0, 782, 0), (782, .ireturn, 783, 0), (783, .goto 723, 786, 1506), (786, .aload_n 1, 787, 0), (787, .aload_n 0, 788, 0), (788, .iload 4, 790, 0), (790, .iconst 1, 791, 0), (791, .iadd, 792, 0), (792, .iaload, 793, 0), (793, .aload_n 3, 794, 0), (794, .invokestatic 131, 797, 108), (797, .istore 5, 799, 0), (799, .aload_n 2, 800, 0), (800, .aload_n 0, 801, 0), (801, .iload 4, 803, 0), (803, .iconst 1, 804, 0), (804, .iadd, 805, 0), (805, .iaload, 806, 0), (806, .invokevirtual 133, 809, 78), (809, .istore 6, 811, 0), (811, .aload_n 2, 812, 0), (812, .invokevirtual 95, 815, 51), (815, .iload 5, 817, 0), (817, .if_icmp .eq 5, 820, 822), (820, .iconst 0, 821, 0), (821, .ireturn, 822, 0), (822, .iload 5, 824, 0), (824, .ifCond .ne 15, 827, 839), (827, .aload_n 3, 828, 0), (828, .iconst 0, 829, 0), (829, .laload, 830, 0), (830, .iload 6, 832, 0), (832, .i2l, 833, 0), (833, .lcmp, 834, 0), (834, .ifCond .eq 5, 837, 839), (837, .iconst 0, 838, 0), (838, .ireturn, 839, 0), (839, .goto 667, 842, 1506), (842, .aload_n 1, 843, 0), (843, .aload_n 0, 844, 0), (844, .iload 4, 846, 0), (846, .iconst 1, 847, 0), (847, .iadd, 848, 0), (848, .iaload, 849, 0), (849, .aload_n 3, 850, 0), (850, .invokestatic 134, 853, 109), (853, .istore 5, 855, 0), (855, .aload_n 2, 856, 0), (856, .aload_n 0, 857, 0), (857, .iload 4, 859, 0), (859, .iconst 1, 860, 0), (860, .iadd, 861, 0), (861, .iaload, 862, 0), (862, .invokevirtual 136, 865, 80), (865, .istore 6, 867, 0), (867, .aload_n 2, 868, 0), (868, .invokevirtual 95, 871, 51), (871, .iload 5, 873, 0), (873, .if_icmp .eq 5, 876, 878), (876, .iconst 0, 877, 0), (877, .ireturn, 878, 0), (878, .iload 5, 880, 0), (880, .ifCond .ne 15, 883, 895), (883, .aload_n 3, 884, 0), (884, .iconst 0, 885, 0), (885, .laload, 886, 0), (886, .iload 6, 888, 0), (888, .i2l, 889, 0), (889, .lcmp, 890, 0), (890, .ifCond .eq 5, 893, 895), (893, .iconst 0, 894, 0), (894, .ireturn, 895, 0), (895, .goto 611, 898, 1506), (898, .aload_n 1, 899, 0), (899, .aload_n 0, 900, 0), (900, .iload 4, 902, 0), (902, .iconst 1, 903, 0), (903, .iadd, 904, 0), (904, .iaload, 905, 0), (905, .aload_n 3, 906, 0), (906, .invokestatic 137, 909, 110), (909, .istore 5, 911, 0), (911, .aload_n 2, 912, 0), (912, .aload_n 0, 913, 0), (913, .iload 4, 915, 0), (915, .iconst 1, 916, 0), (916, .iadd, 917, 0), (917, .iaload, 918, 0), (918, .invokevirtual 139, 921, 82), (921, .istore 6, 923, 0), (923, .aload_n 2, 924, 0), (924, .invokevirtual 95, 927, 51), (927, .iload 5, 929, 0), (929, .if_icmp .eq 5, 932, 934), (932, .iconst 0, 933, 0), (933, .ireturn, 934, 0), (934, .iload 5, 936, 0), (936, .ifCond .ne 15, 939, 951), (939, .aload_n 3, 940, 0), (940, .iconst 0, 941, 0), (941, .laload, 942, 0), (942, .iload 6, 944, 0), (944, .i2l, 945, 0), (945, .lcmp, 946, 0), (946, .ifCond .eq 5, 949, 951), (949, .iconst 0, 950, 0), (950, .ireturn, 951, 0), (951, .goto 555, 954, 1506), (954, .aload_n 1, 955, 0), (955, .aload_n 0, 956, 0), (956, .iload 4, 958, 0), (958, .iconst 1, 959, 0), (959, .iadd, 960, 0), (960, .iaload, 961, 0), (961, .aload_n 3, 962, 0), (962, .invokestatic 140, 965, 111), (965, .istore 5, 967, 0), (967, .aload_n 2, 968, 0), (968, .aload_n 0, 969, 0), (969, .iload 4, 971, 0), (971, .iconst 1, 972, 0), (972, .iadd, 973, 0), (973, .iaload, 974, 0), (974, .invokevirtual 142, 977, 83), (977, .istore 6, 979, 0), (979, .aload_n 2, 980, 0), (980, .invokevirtual 95, 983, 51), (983, .iload 5, 985, 0), (985, .if_icmp .eq 5, 988, 990), (988, .iconst 0, 989, 0), (989, .ireturn, 990, 0), (990, .iload 5, 992, 0), (992, .ifCond .ne 15, 995, 1007), (995, .aload_n 3, 996, 0), (996, .iconst 0, 997, 0), (997, .laload, 998, 0), (998, .iload 6, 1000, 0), (1000, .i2l, 1001, 0), (1001, .lcmp, 1002, 0), (1002, .ifCond .eq 5, 1005, 1007), (1005, .iconst 0, 1006, 0), (1006, .ireturn, 1007, 0), (1007, .goto 499, 1010, 1506), (1010, .aload_n 1, 1011, 0), (1011, .aload_n 0, 1012, 0), (1012, .iload 4, 1014, 0), (1014, .iconst 1, 1015, 0), (1015, .iadd, 1016, 0), (1016, .iaload, 1017, 0), (1017, .aload_n 3, 1018, 0), (1018, .invokestatic 143, 1021, 112), (1021, .istore 5, 1023, 0), (1023, .aload_n 2, 1024, 0), (1024, .aload_n 0, 1025, 0), (1025, .iload 4, 1027, 0), (1027, .iconst 1, 1028, 0), (1028, .iadd, 1029, 0), (1029, .iaload, 1030, 0), (1030, .invokevirtual 145, 1033, 85), (1033, .istore 6, 1035, 0), (1035, .aload_n 2, 1036, 0), (1036, .invokevirtual 95, 1039, 51), (1039, .iload 5, 1041, 0), (1041, .if_icmp .eq 5, 1044, 1046), (1044, .iconst 0, 1045, 0), (1045, .ireturn, 1046, 0), (1046, .iload 5, 1048, 0), (1048, .ifCond .ne 15, 1051, 1063), (1051, .aload_n 3, 1052, 0), (1052, .iconst 0, 1053, 0), (1053, .laload, 1054, 0), (1054, .iload 6, 1056, 0), (1056, .i2l, 1057, 0), (1057, .lcmp, 1058, 0), (1058, .ifCond .eq 5, 1061, 1063), (1061, .iconst 0, 1062, 0), (1062, .ireturn, 1063, 0), (1063, .goto 443, 1066, 1506), (1066, .aload_n 1, 1067, 0), (1067, .aload_n 0, 1068, 0), (1068, .iload 4, 1070, 0), (1070, .iconst 1, 1071, 0), (1071, .iadd, 1072, 0), (1072, .iaload, 1073, 0), (1073, .aload_n 0, 1074, 0), (1074, .iload 4, 1076, 0), (1076, .iconst 2, 1077, 0), (1077, .iadd, 1078, 0), (1078, .iaload, 1079, 0), (1079, .aload_n 3, 1080, 0), (1080, .invokestatic 146, 1083, 113), (1083, .istore 5, 1085, 0), (1085, .aload_n 2, 1086, 0), (1086, .aload_n 0, 1087, 0), (1087, .iload 4, 1089, 0), (1089, .iconst 1, 1090, 0), (1090, .iadd, 1091, 0), (1091, .iaload, 1092, 0), (1092, .aload_n 0, 1093, 0), (1093, .iload 4, 1095, 0), (1095, .iconst 2, 1096, 0), (1096, .iadd, 1097, 0), (1097, .iaload, 1098, 0), (1098, .invokevirtual 148, 1101, 87), (1101, .istore 6, 1103, 0), (1103, .aload_n 2, 1104, 0), (1104, .invokevirtual 95, 1107, 51), (1107, .iload 5, 1109, 0), (1109, .if_icmp .eq 5, 1112, 1114), (1112, .iconst 0, 1113, 0), (1113, .ireturn, 1114, 0), (1114, .iload 5, 1116, 0), (1116, .ifCond .ne 15, 1119, 1131), (1119, .aload_n 3, 1120, 0), (1120, .iconst 0, 1121, 0), (1121, .laload, 1122, 0), (1122, .iload 6, 1124, 0), (1124, .i2l, 1125, 0), (1125, .lcmp, 1126, 0), (1126, .ifCond .eq 5, 1129, 1131), (1129, .iconst 0, 1130, 0), (1130, .ireturn, 1131, 0), (1131, .goto 375, 1134, 1506), (1134, .aload_n 1, 1135, 0), (1135, .aload_n 0, 1136, 0), (1136, .iload 4, 1138, 0), (1138, .iconst 1, 1139, 0), (1139, .iadd, 1140, 0), (1140, .iaload, 1141, 0), (1141, .aload_n 0, 1142, 0), (1142, .iload 4, 1144, 0), (1144, .iconst 2, 1145, 0), (1145, .iadd, 1146, 0), (1146, .iaload, 1147, 0), (1147, .aload_n 3, 1148, 0), (1148, .invokestatic 149, 1151, 114), (1151, .istore 5, 1153, 0), (1153, .aload_n 2, 1154, 0), (1154, .aload_n 0, 1155, 0), (1155, .iload 4, 1157, 0), (1157, .iconst 1, 1158, 0), (1158, .iadd, 1159, 0), (1159, .iaload, 1160, 0), (1160, .aload_n 0, 1161, 0), (1161, .iload 4, 1163, 0), (1163, .iconst 2, 1164, 0), (1164, .iadd, 1165, 0), (1165, .iaload, 1166, 0), (1166, .invokevirtual 151, 1169, 88), (1169, .istore 6, 1171, 0), (1171, .aload_n 2, 1172, 0), (1172, .invokevirtual 95, 1175, 51), (1175, .iload 5, 1177, 0), (1177, .if_icmp .eq 5, 1180, 1182), (1180, .iconst 0, 1181, 0), (1181, .ireturn, 1182, 0), (1182, .iload 5, 1184, 0), (1184, .ifCond .ne 15, 1187, 1199), (1187, .aload_n 3, 1188, 0), (1188, .iconst 0, 1189, 0), (1189, .laload, 1190, 0), (1190, .iload 6, 1192, 0), (1192, .i2l, 1193, 0), (1193, .lcmp, 1194, 0), (1194, .ifCond .eq 5, 1197, 1199), (1197, .iconst 0, 1198, 0), (1198, .ireturn, 1199, 0), (1199, .goto 307, 1202, 1506), (1202, .aload_n 1, 1203, 0), (1203, .aload_n 0, 1204, 0), (1204, .iload 4, 1206, 0), (1206, .iconst 1, 1207, 0), (1207, .iadd, 1208, 0), (1208, .iaload, 1209, 0), (1209, .aload_n 0, 1210, 0), (1210, .iload 4, 1212, 0), (1212, .iconst 2, 1213, 0), (1213, .iadd, 1214, 0), (1214, .iaload, 1215, 0), (1215, .aload_n 0, 1216, 0), (1216, .iload 4, 1218, 0), (1218, .iconst 3, 1219, 0), (1219, .iadd, 1220, 0), (1220, .iaload, 1221, 0), (1221, .aload_n 3, 1222, 0), (1222, .invokestatic 152, 1225, 115), (1225, .istore 5, 1227, 0), (1227, .aload_n 2, 1228, 0), (1228, .aload_n 0, 1229, 0), (1229, .iload 4, 1231, 0), (1231, .iconst 1, 1232, 0), (1232, .iadd, 1233, 0), (1233, .iaload, 1234, 0), (1234, .aload_n 0, 1235, 0), (1235, .iload 4, 1237, 0), (1237, .iconst 2, 1238, 0), (1238, .iadd, 1239, 0), (1239, .iaload, 1240, 0), (1240, .aload_n 0, 1241, 0), (1241, .iload 4, 1243, 0), (1243, .iconst 3, 1244, 0), (1244, .iadd, 1245, 0), (1245, .iaload, 1246, 0), (1246, .invokevirtual 155, 1249, 89), (1249, .istore 6, 1251, 0), (1251, .aload_n 2, 1252, 0), (1252, .invokevirtual 95, 1255, 51), (1255, .iload 5, 1257, 0), (1257, .if_icmp .eq 5, 1260, 1262), (1260, .iconst 0, 1261, 0), (1261, .ireturn, 1262, 0), (1262, .iload 5, 1264, 0), (1264, .ifCond .ne 15, 1267, 1279), (1267, .aload_n 3, 1268, 0), (1268, .iconst 0, 1269, 0), (1269, .laload, 1270, 0), (1270, .iload 6, 1272, 0), (1272, .i2l, 1273, 0), (1273, .lcmp, 1274, 0), (1274, .ifCond .eq 5, 1277, 1279), (1277, .iconst 0, 1278, 0), (1278, .ireturn, 1279, 0), (1279, .goto 227, 1282, 1506), (1282, .aload_n 1, 1283, 0), (1283, .aload_n 0, 1284, 0), (1284, .iload 4, 1286, 0), (1286, .iconst 1, 1287, 0), (1287, .iadd, 1288, 0), (1288, .iaload, 1289, 0), (1289, .aload_n 3, 1290, 0), (1290, .invokestatic 156, 1293, 116), (1293, .istore 5, 1295, 0), (1295, .aload_n 2, 1296, 0), (1296, .aload_n 0, 1297, 0), (1297, .iload 4, 1299, 0), (1299, .iconst 1, 1300, 0), (1300, .iadd, 1301, 0), (1301, .iaload, 1302, 0), (1302, .invokevirtual 158, 1305, 92), (1305, .istore 6, 1307, 0), (1307, .aload_n 2, 1308, 0), (1308, .invokevirtual 95, 1311, 51), (1311, .iload 5, 1313, 0), (1313, .if_icmp .eq 5, 1316, 1318), (1316, .iconst 0, 1317, 0), (1317, .ireturn, 1318, 0), (1318, .iload 5, 1320, 0), (1320, .ifCond .ne 15, 1323, 1335), (1323, .aload_n 3, 1324, 0), (1324, .iconst 0, 1325, 0), (1325, .laload, 1326, 0), (1326, .iload 6, 1328, 0), (1328, .i2l, 1329, 0), (1329, .lcmp, 1330, 0), (1330, .ifCond .eq 5, 1333, 1335), (1333, .iconst 0, 1334, 0), (1334, .ireturn, 1335, 0), (1335, .goto 171, 1338, 1506), (1338, .aload_n 1, 1339, 0), (1339, .aload_n 0, 1340, 0), (1340, .iload 4, 1342, 0), (1342, .iconst 1, 1343, 0), (1343, .iadd, 1344, 0), (1344, .iaload, 1345, 0), (1345, .aload_n 3, 1346, 0), (1346, .invokestatic 159, 1349, 117), (1349, .istore 5, 1351, 0), (1351, .aload_n 2, 1352, 0), (1352, .aload_n 0, 1353, 0), (1353, .iload 4, 1355, 0), (1355, .iconst 1, 1356, 0), (1356, .iadd, 1357, 0), (1357, .iaload, 1358, 0), (1358, .invokevirtual 161, 1361, 93), (1361, .istore 6, 1363, 0), (1363, .aload_n 2, 1364, 0), (1364, .invokevirtual 95, 1367, 51), (1367, .iload 5, 1369, 0), (1369, .if_icmp .eq 5, 1372, 1374), (1372, .iconst 0, 1373, 0), (1373, .ireturn, 1374, 0), (1374, .iload 5, 1376, 0), (1376, .ifCond .ne 15, 1379, 1391), (1379, .aload_n 3, 1380, 0), (1380, .iconst 0, 1381, 0), (1381, .laload, 1382, 0), (1382, .iload 6, 1384, 0), (1384, .i2l, 1385, 0), (1385, .lcmp, 1386, 0), (1386, .ifCond .eq 5, 1389, 1391), (1389, .iconst 0, 1390, 0), (1390, .ireturn, 1391, 0), (1391, .goto 115, 1394, 1506), (1394, .aload_n 1, 1395, 0), (1395, .aload_n 0, 1396, 0), (1396, .iload 4, 1398, 0), (1398, .iconst 1, 1399, 0), (1399, .iadd, 1400, 0), (1400, .iaload, 1401, 0), (1401, .aload_n 3, 1402, 0), (1402, .invokestatic 162, 1405, 118), (1405, .istore 5, 1407, 0), (1407, .aload_n 2, 1408, 0), (1408, .aload_n 0, 1409, 0), (1409, .iload 4, 1411, 0), (1411, .iconst 1, 1412, 0), (1412, .iadd, 1413, 0), (1413, .iaload, 1414, 0), (1414, .invokevirtual 164, 1417, 96), (1417, .istore 6, 1419, 0), (1419, .aload_n 2, 1420, 0), (1420, .invokevirtual 95, 1423, 51), (1423, .iload 5, 1425, 0), (1425, .if_icmp .eq 5, 1428, 1430), (1428, .iconst 0, 1429, 0), (1429, .ireturn, 1430, 0), (1430, .iload 5, 1432, 0), (1432, .ifCond .ne 15, 1435, 1447), (1435, .aload_n 3, 1436, 0), (1436, .iconst 0, 1437, 0), (1437, .laload, 1438, 0), (1438, .iload 6, 1440, 0), (1440, .i2l, 1441, 0), (1441, .lcmp, 1442, 0), (1442, .ifCond .eq 5, 1445, 1447), (1445, .iconst 0, 1446, 0), (1446, .ireturn, 1447, 0), (1447, .goto 59, 1450, 1506), (1450, .aload_n 1, 1451, 0), (1451, .aload_n 0, 1452, 0), (1452, .iload 4, 1454, 0), (1454, .iconst 1, 1455, 0), (1455, .iadd, 1456, 0), (1456, .iaload, 1457, 0), (1457, .aload_n 3, 1458, 0), (1458, .invokestatic 165, 1461, 119), (1461, .istore 5, 1463, 0), (1463, .aload_n 2, 1464, 0), (1464, .aload_n 0, 1465, 0), (1465, .iload 4, 1467, 0), (1467, .iconst 1, 1468, 0), (1468, .iadd, 1469, 0), (1469, .iaload, 1470, 0), (1470, .invokevirtual 167, 1473, 97), (1473, .istore 6, 1475, 0), (1475, .aload_n 2, 1476, 0), (1476, .invokevirtual 95, 1479, 51), (1479, .iload 5, 1481, 0), (1481, .if_icmp .eq 5, 1484, 1486), (1484, .iconst 0, 1485, 0), (1485, .ireturn, 1486, 0), (1486, .iload 5, 1488, 0), (1488, .ifCond .ne 15, 1491, 1503), (1491, .aload_n 3, 1492, 0), (1492, .iconst 0, 1493, 0), (1493, .laload, 1494, 0), (1494, .iload 6, 1496, 0), (1496, .i2l, 1497, 0), (1497, .lcmp, 1498, 0), (1498, .ifCond .eq 5, 1501, 1503), (1501, .iconst 0, 1502, 0), (1502, .ireturn, 1503, 0), (1503, .goto 3, 1506, 1506), (1506, .iinc 4 4, 1509, 0), (1509, .goto (-1486), 1512, 23), (1512, .iconst 1, 1513, 0), (1513, .ireturn, 1514, 0)]
def pg121 : List PE := [(0, .iload_n 0, 1, 0), (1, .iload_n 0, 2, 0), (2, .iconst 1, 3, 0), (3, .iushr, 4, 0), (4, .ldc_w 265, 7, 1431655765), (7, .iand, 8, 0), (8, .isub, 9, 0), (9, .istore_n 0, 10, 0), (10, .iload_n 0, 11, 0), (11, .ldc_w 266, 14, 858993459), (14, .iand, 15, 0), (15, .iload_n 0, 16, 0), (16, .iconst 2, 17, 0), (17, .iushr, 18, 0), (18, .ldc_w 266, 21, 858993459), (21, .iand, 22, 0), (22, .iadd, 23, 0), (23, .istore_n 0, 24, 0), (24, .iload_n 0, 25, 0), (25, .iload_n 0, 26, 0), (26, .iconst 4, 27, 0), (27, .iushr, 28, 0), (28, .iadd, 29, 0), (29, .ldc_w 267, 32, 252645135), (32, .iand, 33, 0), (33, .istore_n 0, 34, 0), (34, .iload_n 0, 35, 0), (35, .iload_n 0, 36, 0), (36, .bipush 8, 38, 0), (38, .iushr, 39, 0), (39, .iadd, 40, 0), (40, .istore_n 0, 41, 0), (41, .iload_n 0, 42, 0), (42, .iload_n 0, 43, 0), (43, .bipush 16, 45, 0), (45, .iushr, 46, 0), (46, .iadd, 47, 0), (47, .istore_n 0, 48, 0), (48, .iload_n 0, 49, 0), (49, .bipush 63, 51, 0), (51, .iand, 52, 0), (52, .ireturn, 53, 0)]
def pgs : List (List PE) := [pg0, pg1, pg2, pg3, pg4, pg5, pg6, pg7, pg8, pg9, pg10, pg11, pg12, pg13, pg14, pg15, pg16, pg17, pg18, pg19, pg20, pg21, pg22, pg23, pg24, pg25, pg26, pg27, pg28, pg29, pg30, pg31, pg32, pg33, pg34, pg35, pg36, pg37, pg38, pg39, pg40, pg41, pg42, pg43, pg44, pg45, pg46, pg47, pg48, pg49, pg50, pg51, pg52, pg53, pg54, pg55, pg56, pg57, pg58, pg59, pg60, pg61, pg62, pg63, pg64, pg65, pg66, pg67, pg68, pg69, pg70, pg71, pg72, pg73, pg74, pg75, pg76, pg77, pg78, pg79, pg80, pg81, pg82, pg83, pg84, pg85, pg86, pg87, pg88, pg89, pg90, pg91, pg92, pg93, pg94, pg95, pg96, pg97, pg98, pg99, pg100, pg101, pg102, pg103, pg104, pg105, pg106, pg107, pg108, pg109, pg110, pg111, pg112, pg113, pg114, pg115, pg116, pg117, pg118, pg119, pg120, pg121]
def whs : List (List (Nat × Nat × Nat × Nat)) := [[], [], [], [], [], [], [], [], [], [], [], [], [], [], [], [], [], [], [], [], [], [], [], [], [], [], [], [], [], [], [], [], [], [], [], [], [], [], [], [], [], [], [], [], [], [], [], [], [], [], [], [], [], [], [], [], [], [], [], [], [], [], [], [], [], [], [], [], [], [], [], [], [], [], [], [], [], [], [], [], [], [], [], [], [], [], [], [], [], [], [], [], [], [], [], [], [], [], [(0, 13, 4, 15), (1, 17, 4, 19), (2, 21, 4, 23)], [(0, 13, 4, 15), (1, 17, 4, 19)], [(0, 13, 4, 15), (1, 17, 4, 19)], [(1, 19, 3, 20)], [(1, 19, 3, 20)], [(1, 19, 3, 20)], [(1, 12, 3, 13)], [(1, 12, 3, 13), (2, 15, 3, 16)], [(1, 12, 3, 13), (2, 15, 3, 16)], [(1, 13, 4, 15), (2, 17, 4, 19)], [(1, 12, 3, 13)], [(1, 12, 3, 13), (2, 15, 3, 16)], [(1, 12, 3, 13)], [(1, 12, 3, 13)], [(1, 12, 3, 13)], [(1, 13, 4, 15)], [(1, 13, 4, 15)], [(0, 15, 5, 17), (1, 19, 5, 21), (2, 23, 5, 25)], [(1, 12, 3, 13), (2, 15, 3, 16)], [(1, 12, 3, 13)], [(1, 12, 3, 13)], [(0, 12, 3, 13)], [], []]
def wts : List Nat := [0, 0, 0, 0, 0, 0, 0, 0, 0, 0, 0, 0, 0, 0, 0, 0, 0, 0, 0, 0, 0, 0, 0, 0, 0, 0, 0, 0, 0, 0, 0, 0, 0, 0, 0, 0, 0, 0, 0, 0, 0, 0, 0, 0, 0, 0, 0, 0, 0, 0, 0, 0, 0, 0, 0, 0, 0, 0, 0, 0, 0, 0, 0, 0, 0, 0, 0, 0, 0, 0, 0, 0, 0, 0, 0, 0, 0, 0, 0, 0, 0, 0, 0, 0, 0, 0, 0, 0, 0, 0, 0, 0, 0, 0, 0, 0, 0, 0, 10, 10, 10, 16, 16, 16, 9, 9, 9, 10, 9, 9, 9, 9, 9, 10, 10, 12, 9, 9, 9, 9, 0, 0]
def FLs : List (Nat × Nat × Nat) := [(0, 9, 1), (0, 13, 2), (0, 16, 3), (0, 19, 4), (0, 22, 8), (0, 25, 9), (0, 28, 11), (0, 31, 12), (0, 34, 13), (0, 37, 15), (0, 40, 16), (0, 43, 0), (0, 69, 5), (0, 76, 6), (0, 96, 7), (0, 132, 10), (0, 138, 14), (1, 7, 0), (1, 13, 1), (1, 17, 2), (1, 20, 3), (1, 23, 4), (1, 26, 5), (1, 30, 6), (1, 33, 7), (1, 36, 9), (1, 39, 10), (1, 42, 12), (1, 45, 13), (1, 48, 14), (1, 51, 15), (1, 54, 16), (1, 61, 11), (1, 97, 8)]
def MLs : List (Nat × Nat × Nat) := [(0, 47, 24), (0, 51, 26), (0, 55, 25), (0, 59, 37), (0, 63, 27), (0, 66, 33), (0, 72, 30), (0, 79, 32), (0, 82, 38), (0, 93, 41), (0, 99, 28), (0, 104, 42), (0, 107, 121), (0, 112, 43), (0, 117, 39), (0, 120, 40), (0, 123, 44), (0, 126, 45), (0, 129, 31), (0, 135, 29), (0, 143, 46), (0, 146, 47), (0, 173, 34), (0, 176, 36), (0, 179, 35), (0, 184, 48), (0, 187, 49), (1, 57, 54), (1, 64, 59), (1, 68, 58), (1, 72, 60), (1, 75, 57), (1, 79, 61), (1, 82, 55), (1, 85, 52), (1, 88, 56), (1, 91, 62), (1, 94, 53), (1, 100, 73), (1, 103, 74), (1, 106, 72), (1, 109, 75), (1, 112, 79), (1, 115, 81), (1, 118, 84), (1, 122, 86), (1, 125, 90), (1, 128, 91), (1, 131, 94), (1, 134, 95), (2, 7, 1), (2, 19, 2), (2, 22, 3), (2, 25, 4), (2, 29, 5), (2, 32, 6), (2, 35, 7), (2, 39, 8), (2, 42, 10), (2, 45, 11), (2, 48, 12), (2, 51, 13), (2, 54, 14), (2, 57, 15), (2, 60, 16), (2, 63, 17), (2, 66, 18), (2, 69, 19), (2, 73, 20), (2, 76, 21), (2, 79, 22), (2, 82, 23), (2, 89, 98), (2, 94, 63), (2, 95, 51), (2, 99, 99), (2, 101, 64), (2, 102, 100), (2, 104, 65), (2, 105, 101), (2, 108, 66), (2, 109, 102), (2, 111, 67), (2, 112, 103), (2, 114, 68), (2, 115, 104), (2, 117, 69), (2, 118, 105), (2, 120, 70), (2, 121, 9), (2, 124, 71), (2, 125, 106), (2, 127, 76), (2, 128, 107), (2, 130, 77), (2, 131, 108), (2, 133, 78), (2, 134, 109), (2, 136, 80), (2, 137, 110), (2, 139, 82), (2, 140, 111), (2, 142, 83), (2, 143, 112), (2, 145, 85), (2, 146, 113), (2, 148, 87), (2, 149, 114), (2, 151, 88), (2, 152, 115), (2, 155, 89), (2, 156, 116), (2, 158, 92), (2, 159, 117), (2, 161, 93), (2, 162, 118), (2, 164, 96), (2, 165, 119), (2, 167, 97)]
def sx (j : Nat) : String := match lw_tbl[j]? with
  | some (.stringRef _ _ t) => t
  | _ => ""
def SLs : List (Nat × Nat × Nat × Nat × String) := [(86, 88, 90, 2, "the pipe has no meter"), (86, 102, 90, 2, sx 349), (86, 115, 90, 2, "a pipe of the area has no meter"), (86, 141, 90, 2, "the burst is repaired"), (86, 160, 90, 2, "no room for one more"), (150, 152, 154, 1, "no such place"), (150, 162, 154, 1, "no such node"), (150, 164, 154, 1, "no such pipe"), (150, 166, 154, 1, "no such area"), (150, 168, 154, 1, "no such burst"), (150, 182, 154, 1, "no such step"), (155, 157, 159, 0, "out of range")]
def KWs : List (Nat × Nat) := [(265, 1431655765), (266, 858993459), (267, 252645135)]
end
section
def mY (i : Nat) : MethodName := mYs.getD i yL_law
def mB (i : Nat) : ByteArray := mBs.getD i cL_law
def mL (i : Nat) : Nat := mLs.getD i 7
def mR (i : Nat) : Option FieldType := mRs.getD i none
def mH (i : Nat) : List (Nat × Nat × Nat × Nat) := mHs.getD i []
def mO (i : Nat) : Nat := mOs.getD i 9
def mN (i : Nat) : Nat := mNs.getD i 9
def mF (i : Nat) : Nat := mFs.getD i 0
def mLo (i : Nat) : Nat := mLos.getD i 0
def pg (i : Nat) : List PE := pgs.getD i []
def mtAll : List Nat := (List.range 49).map (· + 1) ++ ((List.range 47).map (· + 51) ++ ((List.range 22).map (· + 98) ++ [121]))
def lkp : List PE → Nat → Option (Instr × Nat × Nat)
  | [], _ => none
  | q :: l, i => match Nat.beq q.1 i with
    | true => some q.2
    | false => lkp l i
def ln : Instr → Nat
  | .bipush _ => 2
  | .sipush _ => 3
  | .ldc _ => 2
  | .ldc_w _ => 3
  | .iload _ => 2
  | .aload _ => 2
  | .istore _ => 2
  | .astore _ => 2
  | .iinc _ _ => 3
  | .goto _ => 3
  | .ifCond _ _ => 3
  | .if_icmp _ _ => 3
  | .getfield _ => 3
  | .putfield _ => 3
  | .getstatic _ => 3
  | .invokevirtual _ => 3
  | .invokestatic _ => 3
  | .invokespecial _ => 3
  | .new _ => 3
  | .newarray _ => 2
  | .tableswitch _ _ _ _ => 105
  | _ => 1
def mS (i : Nat) : Bool := mSs.getD i false
def wh (i : Nat) : List (Nat × Nat × Nat × Nat) := whs.getD i []
def wt (i : Nat) : Nat := wts.getD i 0
def oN (o : Nat) : String := match o with
  | 0 => RX0
  | 1 => RX1
  | 2 => RL
  | _ => RJ6
def oT (o : Nat) : u_T := match o with
  | 0 => TX0
  | _ => TX1
def wC (i : Nat) : Cond := match mH i with
  | [] => .code (mY i) (mB i) (mL i) (mR i)
  | _ => .codeWith (mY i) (mB i) (mL i) (mR i) (mH i)
def exN (e : Nat) : String := match e with
  | 0 => "java/lang/IllegalArgumentException"
  | 1 => "java/lang/IndexOutOfBoundsException"
  | _ => "java/lang/IllegalStateException"
def exU : List String := ["java/lang/RuntimeException", "java/lang/Exception"]
def ci : Int → Int32
  | .ofNat n => nI n
  | .negSucc 0 => -1
  | .negSucc (n + 1) => Int32.ofInt (.negSucc (n + 1))
def room2 (i j : Nat) : Bool := decide (mF j + 1 ≤ mF i) && decide (8 + (mL j + 11) + mLo j ≤ mLo i)
def okN (cc : ByteArray) (pc ik e : Nat) : Bool := match decode cc (pc + 4), decode cc (pc + 6) with
  | .ok (.ldc is, n1), .ok (.invokespecial ic, n2) => decide (n1 = 2) && decide (n2 = 3) && decide (decode cc (pc + 3) = .ok (.dup, 1)) && decide (decode cc (pc + 9) = .ok (.athrow, 1)) && SLs.any (fun s => decide (s.1 = ik) && decide (s.2.1 = is) && decide (s.2.2.1 = ic) && decide (s.2.2.2.1 = e))
  | _, _ => false
def okA (i : Nat) (q : PE) : Bool := match q.2.1 with
  | .goto off => decide ((q.1 : Int) + off = (q.2.2.2 : Int))
  | .ifCond _ off => decide ((q.1 : Int) + off = (q.2.2.2 : Int))
  | .if_icmp _ off => decide ((q.1 : Int) + off = (q.2.2.2 : Int))
  | .getfield idx => decide ((mO i, idx, q.2.2.2) ∈ FLs)
  | .putfield idx => decide ((mO i, idx, q.2.2.2) ∈ FLs) && (decide (i = 0) || decide (i = 50) || decide ((oT (mO i) q.2.2.2).2.2.2 = false))
  | .invokevirtual idx => decide ((mO i, idx, q.2.2.2) ∈ MLs) && decide (mS q.2.2.2 = false) && decide (mH q.2.2.2 = []) && room2 i q.2.2.2 && decide (q.2.2.2 ∈ mtAll) && (decide (mH i = []) || decide (q.1 < wt i))
  | .invokestatic idx => decide ((mO i, idx, q.2.2.2) ∈ MLs) && decide (mS q.2.2.2 = true) && room2 i q.2.2.2 && decide (q.2.2.2 ∈ mtAll) && decide (mH i = [])
  | .ldc_w idx => decide ((idx, q.2.2.2) ∈ KWs) && decide (mO i = 3)
  | .getstatic idx => decide (idx = 170) && decide (mO i = 0)
  | .bipush n => decide ((Int8.ofInt n).toInt32 = ci n)
  | .sipush n => decide ((Int16.ofInt n).toInt32 = ci n)
  | .iconst n => decide (Int32.ofInt n = ci n)
  | .iinc j n => decide (Int32.ofInt n = ci n) && decide (j < mL i)
  | .istore j => decide (j < mL i)
  | .istore_n j => decide (j.val < mL i)
  | .astore j => decide (j < mL i)
  | .astore_n j => decide (j.val < mL i)
  | .new ik => !decide (mO i = 0) || (okN (mB i) q.1 ik q.2.2.2 && decide (6 ≤ mF i) && decide (90 ≤ mLo i) && decide (mH i = []))
  | _ => true
def okE (i : Nat) (q : PE) : Bool := decide (decode (mB i) q.1 = .ok (q.2.1, ln q.2.1)) && decide (q.2.2.1 = q.1 + ln q.2.1) && okA i q
def okM (i : Nat) : Bool := (pg i).all (okE i)
def ctx (e : Nat) : Nat := match e with
  | 0 => 13
  | 1 => 15
  | _ => 17
def okW (i : Nat) : Bool := decide (mH i = (wh i).map (fun q => (0, wt i, q.2.1, ctx q.1))) && (wh i).all (fun q => decide (q.1 < 3) && decide (q.2.2.1 < mL i) && (decide (decode (mB i) q.2.1 = .ok (.astore q.2.2.1, 2)) && decide (q.2.2.2 = q.2.1 + 2) || (decide (decode (mB i) q.2.1 = .ok (.astore_n 3, 1)) && decide (q.2.2.1 = 3) && decide (q.2.2.2 = q.2.1 + 1)))) && va_nd ((wh i).map (·.1))
set_option maxRecDepth 100000 in
theorem okW_a : (List.range 122).all okW = true := by decide +kernel
set_option maxRecDepth 100000 in
theorem okM_a : (List.range 50).all okM = true := by decide +kernel
set_option maxRecDepth 100000 in
theorem okM_b : ((List.range 50).map (· + 50)).all okM = true := by decide +kernel
set_option maxRecDepth 100000 in
theorem okM_c : ((List.range 20).map (· + 100)).all okM = true := by decide +kernel
set_option maxRecDepth 100000 in
theorem okM_d : okM 121 = true := by decide +kernel
def okLk (k : Nat) : Bool := (((pg 120).drop (50 * k)).take 50).all (okE 120)
set_option maxRecDepth 100000 in
theorem okL_0 : okLk 0 = true := by decide +kernel
set_option maxRecDepth 100000 in
theorem okL_1 : okLk 1 = true := by decide +kernel
set_option maxRecDepth 100000 in
theorem okL_2 : okLk 2 = true := by decide +kernel
set_option maxRecDepth 100000 in
theorem okL_3 : okLk 3 = true := by decide +kernel
set_option maxRecDepth 100000 in
theorem okL_4 : okLk 4 = true := by decide +kernel
set_option maxRecDepth 100000 in
theorem okL_5 : okLk 5 = true := by decide +kernel
set_option maxRecDepth 100000 in
theorem okL_6 : okLk 6 = true := by decide +kernel
set_option maxRecDepth 100000 in
theorem okL_7 : okLk 7 = true := by decide +kernel
set_option maxRecDepth 100000 in
theorem okL_8 : okLk 8 = true := by decide +kernel
set_option maxRecDepth 100000 in
theorem okL_9 : okLk 9 = true := by decide +kernel
set_option maxRecDepth 100000 in
theorem okL_10 : okLk 10 = true := by decide +kernel
set_option maxRecDepth 100000 in
theorem okL_11 : okLk 11 = true := by decide +kernel
set_option maxRecDepth 100000 in
theorem okL_12 : okLk 12 = true := by decide +kernel
set_option maxRecDepth 100000 in
theorem okL_13 : okLk 13 = true := by decide +kernel
set_option maxRecDepth 100000 in
theorem okL_14 : okLk 14 = true := by decide +kernel
set_option maxRecDepth 100000 in
theorem okL_15 : okLk 15 = true := by decide +kernel
set_option maxRecDepth 100000 in
theorem okL_16 : okLk 16 = true := by decide +kernel
set_option maxRecDepth 100000 in
theorem okL_17 : okLk 17 = true := by decide +kernel
end
section
theorem inTT {w : Cond} (h : w ∈ lw_tbl) (g : goodWord w = true) : w ∈ TT := List.mem_filter.mpr ⟨h, g⟩
theorem TT_in {w : Cond} (h : w ∈ TT) : w ∈ lw_tbl := (List.mem_filter.mp h).1
theorem TT_good {w : Cond} (h : w ∈ TT) : goodWord w = true := (List.mem_filter.mp h).2
theorem at_tbl {α : Type} {l : List α} {g : α → Cond} {ps : List Nat} (h : l.map (fun q => some (g q)) = ps.map (fun j => lw_tbl[j]?)) {q : α} (hq : q ∈ l) : g q ∈ lw_tbl := by
  have h1 : some (g q) ∈ l.map (fun q => some (g q)) := List.mem_map.mpr ⟨q, hq, rfl⟩
  rw [h] at h1
  obtain ⟨j, -, hj⟩ := List.mem_map.mp h1
  exact List.mem_of_getElem? hj
def flW (q : Nat × Nat × Nat) : Cond := Cond.fieldLink (oN q.1) q.2.1 (oN q.1) (oT q.1 q.2.2).2.1 (oT q.1 q.2.2).2.2.1
def mlW (q : Nat × Nat × Nat) : Cond := Cond.methodLink (oN q.1) q.2.1 (mY q.2.2)
def iniW (i : Nat) : Cond := Cond.initialized (mY i).cls
def staW (i : Nat) : Cond := Cond.static (mY i)
def insW (i : Nat) : Cond := Cond.instanceMethod (mY i)
def selW (i : Nat) : Cond := Cond.selects (mY i).cls (mY i) (mY i)
def kwW (q : Nat × Nat) : Cond := Cond.constant RJ6 q.1 (nI q.2)
def mtI : List Nat := [1, 2, 3, 4, 5, 6, 7, 8, 9, 10, 11, 12, 13, 14, 15, 16, 17, 18, 19, 20, 21, 22, 23, 26, 27, 28, 29, 32, 33, 35, 36, 37, 38, 39, 40, 41, 42, 43, 44, 45, 46, 47, 48, 49, 51, 52, 53, 55, 56, 57, 58, 59, 60, 61, 62, 63, 64, 65, 66, 67, 68, 69, 70, 71, 72, 73, 74, 75, 76, 77, 78, 79, 80, 81, 82, 83, 84, 85, 86, 87, 88, 89, 90, 91, 92, 93, 94, 95, 96, 97]
def mtS : List Nat := [24, 25, 30, 31, 34, 54, 98, 99, 100, 101, 102, 103, 104, 105, 106, 107, 108, 109, 110, 111, 112, 113, 114, 115, 116, 117, 118, 119, 121]
set_option maxRecDepth 100000 in
theorem p_fl : (FLs).map (fun q => some (flW q)) = ([63, 64, 65, 66, 70, 71, 73, 74, 75, 77, 78, 62, 67, 68, 69, 72, 76, 498, 499, 500, 501, 502, 503, 504, 505, 507, 508, 510, 511, 512, 513, 514, 509, 506] : List Nat).map (fun j => lw_tbl[j]?) := by decide +kernel
set_option maxRecDepth 100000 in
theorem p_ml : (MLs).map (fun q => some (mlW q)) = ([165, 236, 256, 134, 289, 146, 123, 130, 126, 119, 344, 350, 354, 374, 386, 397, 408, 419, 431, 448, 454, 472, 150, 138, 142, 476, 480, 559, 578, 602, 574, 622, 610, 562, 566, 586, 618, 630, 646, 654, 642, 650, 666, 674, 686, 694, 710, 714, 730, 726, 161, 278, 285, 297, 304, 311, 318, 325, 333, 340, 363, 370, 382, 393, 404, 415, 427, 437, 444, 461, 468, 488, 155, 555, 551, 275, 570, 282, 582, 294, 590, 301, 594, 308, 598, 315, 606, 322, 614, 115, 626, 330, 634, 337, 638, 360, 658, 367, 662, 379, 670, 390, 678, 401, 682, 412, 690, 424, 698, 434, 702, 441, 706, 458, 718, 465, 722, 485, 734] : List Nat).map (fun j => lw_tbl[j]?) := by decide +kernel
set_option maxRecDepth 100000 in
theorem p_kw : (KWs).map (fun q => some (kwW q)) = ([357, 358, 359] : List Nat).map (fun j => lw_tbl[j]?) := by decide +kernel
set_option maxRecDepth 100000 in
theorem p_code : (mtAll).map (fun q => some (wC q)) = ([164, 281, 288, 300, 307, 314, 321, 328, 118, 336, 343, 366, 373, 385, 396, 407, 418, 430, 440, 447, 464, 471, 491, 167, 258, 239, 292, 347, 451, 125, 433, 133, 149, 152, 145, 141, 137, 129, 389, 400, 122, 353, 377, 411, 422, 457, 475, 479, 483, 554, 569, 633, 561, 565, 589, 625, 605, 581, 577, 613, 621, 558, 573, 585, 593, 597, 601, 609, 617, 629, 645, 649, 657, 653, 637, 641, 661, 669, 665, 677, 673, 681, 689, 685, 697, 693, 701, 705, 713, 717, 709, 721, 733, 729, 725, 737, 157, 277, 284, 296, 303, 310, 317, 324, 332, 339, 362, 369, 381, 392, 403, 414, 426, 436, 443, 460, 467, 487, 356] : List Nat).map (fun j => lw_tbl[j]?) := by decide +kernel
set_option maxRecDepth 100000 in
theorem p_ini : (mtAll).map (fun q => some (iniW q)) = ([45, 45, 45, 45, 45, 45, 45, 45, 45, 45, 45, 45, 45, 45, 45, 45, 45, 45, 45, 45, 45, 45, 45, 45, 45, 45, 45, 45, 45, 45, 45, 45, 45, 45, 45, 45, 45, 45, 45, 45, 45, 45, 45, 45, 45, 45, 45, 45, 45, 46, 46, 46, 46, 46, 46, 46, 46, 46, 46, 46, 46, 46, 46, 46, 46, 46, 46, 46, 46, 46, 46, 46, 46, 46, 46, 46, 46, 46, 46, 46, 46, 46, 46, 46, 46, 46, 46, 46, 46, 46, 46, 46, 46, 46, 46, 46, 44, 44, 44, 44, 44, 44, 44, 44, 44, 44, 44, 44, 44, 44, 44, 44, 44, 44, 44, 44, 44, 44, 53] : List Nat).map (fun j => lw_tbl[j]?) := by decide +kernel
set_option maxRecDepth 100000 in
theorem p_sta : (mtS).map (fun q => some (staW q)) = ([166, 257, 124, 432, 151, 560, 156, 276, 283, 295, 302, 309, 316, 323, 331, 338, 361, 368, 380, 391, 402, 413, 425, 435, 442, 459, 466, 486, 355] : List Nat).map (fun j => lw_tbl[j]?) := by decide +kernel
set_option maxRecDepth 100000 in
theorem p_ins : (mtI).map (fun q => some (insW q)) = ([162, 279, 286, 298, 305, 312, 319, 326, 116, 334, 341, 364, 371, 383, 394, 405, 416, 428, 438, 445, 462, 469, 489, 238, 291, 346, 450, 132, 148, 144, 140, 136, 128, 388, 399, 121, 352, 376, 410, 421, 456, 474, 478, 482, 552, 568, 632, 564, 588, 624, 604, 580, 576, 612, 620, 556, 571, 583, 591, 595, 599, 607, 615, 627, 644, 648, 656, 652, 635, 639, 659, 668, 663, 676, 671, 679, 688, 683, 696, 691, 699, 703, 712, 716, 707, 719, 732, 728, 723, 735] : List Nat).map (fun j => lw_tbl[j]?) := by decide +kernel
set_option maxRecDepth 100000 in
theorem p_sel : (mtI).map (fun q => some (selW q)) = ([163, 280, 287, 299, 306, 313, 320, 327, 117, 335, 342, 365, 372, 384, 395, 406, 417, 429, 439, 446, 463, 470, 490, 8, 9, 10, 17, 2, 6, 5, 4, 3, 1, 13, 14, 0, 11, 12, 15, 16, 18, 19, 20, 21, 553, 23, 31, 22, 26, 30, 27, 25, 24, 28, 29, 557, 572, 584, 592, 596, 600, 608, 616, 628, 32, 33, 35, 34, 636, 640, 660, 36, 664, 37, 672, 680, 38, 684, 39, 692, 700, 704, 40, 41, 708, 720, 43, 42, 724, 736] : List Nat).map (fun j => lw_tbl[j]?) := by decide +kernel
set_option maxRecDepth 100000 in
theorem g_all : (FLs.map flW ++ (MLs.map mlW ++ (KWs.map kwW ++ (mtAll.map wC ++ (mtAll.map iniW ++ (mtS.map staW ++ (mtI.map insW ++ mtI.map selW))))))).all goodWord = true := by decide +kernel
def mtOk (i : Nat) : Bool := plainName (mY i).cls && decide (mO i < 4) && decide ((mY i).cls = oN (mO i)) && decide ((mY i).cls ≠ "java/lang/invoke/MethodHandle") && decide ((mY i).cls ≠ "java/lang/invoke/VarHandle") && decide ((parseMethodDescriptor (mY i).desc).map (fun d => d.parameters.length) = some (mN i)) && (match mS i with
  | true => decide (i ∈ mtS)
  | false => decide (i ∈ mtI))
set_option maxRecDepth 100000 in
theorem mtOk_a : mtAll.all mtOk = true := by decide +kernel
def slA (q : Nat × Nat) : List Cond := vx_atS RX0 q.1 (exN q.2) exU
def bwN : List MethodName := [Bundle.initS "java/lang/RuntimeException", Bundle.initS "java/lang/Exception", Bundle.initS "java/lang/Throwable"]
set_option maxRecDepth 100000 in
theorem p_at90 : ((slA (90, 2)).filter goodWord).map some = ([47, 190, 199, 203, 206, 208, 191, 192, 60, 61, 193, 198, 204, 224, 180, 225, 182, 226, 184, 194, 196, 186, 220, 221, 223, 186, 270, 271, 272, 214, 214, 215, 216, 217, 217, 218, 219, 220, 269, 260, 262, 201, 263, 264, 265, 266, 189, 188, 267] : List Nat).map (fun j => lw_tbl[j]?) := by decide +kernel
set_option maxRecDepth 100000 in
theorem b_at90 : (slA (90, 2)).all (fun w => goodWord w || decide (w ∈ (Cond.castable (exN 2) (exN 2) :: bwN.map Cond.declares))) = true := by decide +kernel
set_option maxRecDepth 100000 in
theorem v_at90 : (Cond.classLink RX0 86 (exN 2) :: Cond.initialized (exN 2) :: slA (90, 2)).all vx_ot = true := by decide +kernel
set_option maxRecDepth 100000 in
theorem p_at154 : ((slA (154, 1)).filter goodWord).map some = ([47, 190, 199, 203, 206, 208, 191, 192, 60, 61, 193, 198, 204, 224, 180, 225, 182, 226, 184, 194, 196, 186, 220, 221, 223, 186, 251, 252, 253, 214, 214, 215, 216, 217, 217, 218, 219, 220, 250, 241, 243, 202, 244, 245, 246, 247, 189, 188, 248] : List Nat).map (fun j => lw_tbl[j]?) := by decide +kernel
set_option maxRecDepth 100000 in
theorem b_at154 : (slA (154, 1)).all (fun w => goodWord w || decide (w ∈ (Cond.castable (exN 1) (exN 1) :: bwN.map Cond.declares))) = true := by decide +kernel
set_option maxRecDepth 100000 in
theorem v_at154 : (Cond.classLink RX0 150 (exN 1) :: Cond.initialized (exN 1) :: slA (154, 1)).all vx_ot = true := by decide +kernel
set_option maxRecDepth 100000 in
theorem p_at159 : ((slA (159, 0)).filter goodWord).map some = ([47, 190, 199, 203, 206, 208, 191, 192, 60, 61, 193, 198, 204, 224, 180, 225, 182, 226, 184, 194, 196, 186, 220, 221, 223, 186, 211, 212, 213, 214, 214, 215, 216, 217, 217, 218, 219, 220, 210, 169, 177, 178, 179, 181, 183, 185, 189, 188, 187] : List Nat).map (fun j => lw_tbl[j]?) := by decide +kernel
set_option maxRecDepth 100000 in
theorem b_at159 : (slA (159, 0)).all (fun w => goodWord w || decide (w ∈ (Cond.castable (exN 0) (exN 0) :: bwN.map Cond.declares))) = true := by decide +kernel
set_option maxRecDepth 100000 in
theorem v_at159 : (Cond.classLink RX0 155 (exN 0) :: Cond.initialized (exN 0) :: slA (159, 0)).all vx_ot = true := by decide +kernel
def xcW (q : Nat × Nat) : Cond := Cond.classLink RX0 q.1 (exN q.2)
def xiW (e : Nat) : Cond := Cond.initialized (exN e)
def lcW (q : Nat × Nat) : Cond := Cond.classLink RL q.1 (exN q.2)
set_option maxRecDepth 100000 in
theorem p_xc : (([(86, 2), (150, 1), (155, 0)] : List (Nat × Nat))).map (fun q => some (xcW q)) = ([259, 240, 168] : List Nat).map (fun j => lw_tbl[j]?) := by decide +kernel
set_option maxRecDepth 100000 in
theorem p_xi : (([0, 1, 2] : List Nat)).map (fun q => some (xiW q)) = ([50, 51, 52] : List Nat).map (fun j => lw_tbl[j]?) := by decide +kernel
set_option maxRecDepth 100000 in
theorem p_lc : (([(13, 0), (15, 1), (17, 2)] : List (Nat × Nat))).map (fun q => some (lcW q)) = ([158, 159, 160] : List Nat).map (fun j => lw_tbl[j]?) := by decide +kernel
def lay0 : List Cond := u_ws RX0 TX0 17
def lay1 : List Cond := u_ws RX1 TX1 17
set_option maxRecDepth 100000 in
theorem p_lay0 : lay0.map some = ([79, 81, 83, 85, 87, 89, 91, 93, 95, 97, 99, 101, 103, 105, 107, 109, 111] : List Nat).map (fun j => lw_tbl[j]?) := by decide +kernel
set_option maxRecDepth 100000 in
theorem p_lay1 : lay1.map some = ([515, 517, 519, 521, 523, 525, 527, 529, 531, 533, 535, 537, 539, 541, 543, 545, 547] : List Nat).map (fun j => lw_tbl[j]?) := by decide +kernel
set_option maxRecDepth 100000 in
theorem g_lay : (lay0 ++ lay1).all goodWord = true := by decide +kernel
set_option maxRecDepth 100000 in
theorem g_all2 : (([(86, 2), (150, 1), (155, 0)] : List (Nat × Nat)).map xcW ++ (([0, 1, 2] : List Nat).map xiW ++ ([(13, 0), (15, 1), (17, 2)] : List (Nat × Nat)).map lcW)).all goodWord = true := by decide +kernel
set_option maxRecDepth 100000 in
theorem p_f0 : lw_tbl[153]? = some (Cond.fieldLink RX0 170 RX0 "FACTORS" "[I") := by decide +kernel
theorem g_f0 : goodWord (Cond.fieldLink RX0 170 RX0 "FACTORS" "[I") = true := by decide +kernel
end
section
abbrev PS : Type := (Nat → Nat → Int32) × (Nat → Nat → Int32) × (Nat → Int64)
abbrev PL : Type := List (Nat × Value)
abbrev PR : Type := Option Int32 ⊕ Nat
abbrev KT : Type := Nat → Nat → PL → List Value → PS → Prop
def shX : List (Option Nat) := [none, some 1, some 2, some 3, some 4, none, none, none, some 5, some 6, none, some 7, some 8, some 9, none, some 10, some 11]
def shM : List (Option Nat) := [none, some 13, some 14, some 15, some 16, some 17, some 18, some 19, none, some 20, some 21, none, some 22, some 23, some 24, some 25, none]
def shO (o : Nat) : List (Option Nat) := match o with
  | 0 => shX
  | _ => shM
def plO (o : Nat) : Nat := match o with
  | 0 => 0
  | _ => 12
def ari : List (Option (Nat × Nat)) := [none, some (0, 16), some (0, 16), some (0, 16), some (0, 16), some (0, 8), some (0, 8), some (0, 20), some (0, 20), some (0, 20), some (0, 20), some (0, 20), none, some (0, 16), some (0, 16), some (0, 16), some (0, 16), some (1, 16), some (1, 16), some (0, 11), some (0, 8), some (0, 8), some (0, 20), some (0, 20), some (0, 20), some (1, 20), some (2, 1)]
def objv (ad : Nat → Nat) (F : Nat → Int32) (sh : List (Option Nat)) : List Value := sh.mapIdx (fun k o => match o with
  | some j => Value.ref (ad j)
  | none => .int (F k))
def ent (ad : Nat → Nat) (cA : Nat → ClassId) (S : PS) (i : Nat) : va_E := match ari.getD i none with
  | some (t, n) => .inl (cA t, n, if t = 2 then .inr (.inl S.2.2) else .inl (S.2.1 i))
  | none => if i = 0 then .inr (0, objv ad (S.1 0) shX) else .inr (1, objv ad (S.1 12) shM)
def wld (ad : Nat → Nat) (cA : Nat → ClassId) (S : PS) : va_W := (List.range 27).map (fun i => (ad i, ent ad cA S i))
def rv (ad : Nat → Nat) (b t : Nat) : Value → Value
  | .ref i => .ref (ad i)
  | .retAddr 0 => .ref b
  | .retAddr (_ + 1) => .ref t
  | v => v
def fcv : Nat → Int32 := fun j => ([0, 120, 280, 490, 730, 1000, 1290, 1600, 1930, 2280, 2650] : List Int32).getD j 0
def Ar (N0 : Nat) : Nat → Prop := fun q => N0 ≤ q
def Ad (ad : Nat → Nat) (N0 b : Nat) : Prop := (∀ i j : Nat, i < 27 → j < 27 → ad i = ad j → i = j) ∧ (∀ i : Nat, i < 27 → N0 ≤ ad i) ∧ b < N0
def Ev (D : va_G) (cA : Nat → ClassId) (N0 b L : Nat) (xs : Nat → Int32) (t : Nat) (U : State) (H : Heap) : Prop :=
  va_K D vwCl [(cA 0, .int), (cA 1, .boolean), (cA 2, .long)] U ∧
  va_Z RX0 "FACTORS" "[I" (.ref t) (Ar N0) U H ∧ va_T .int t 11 (fun j => .int (fcv j)) (Ar N0) U H ∧
  vx_Zq Bundle.tN "UNASSIGNED_STACK" Bundle.steD (Ar N0) U H ∧ vx_Zq Bundle.tN "SUPPRESSED_SENTINEL" Bundle.listD (Ar N0) U H ∧
  va_X b L xs U H ∧ b < H.size ∧ (∀ q ∈ SLs, ∃ sa, vk_R RX0 q.2.1 q.2.2.2.2 sa U) ∧
  (∀ x ∈ bwN, va_Nw (.declares x) U) ∧ (∀ e : Nat, e < 3 → va_Nw (.castable (exN e) (exN e)) U) ∧ (∀ e f : Nat, e < 3 → f < 3 → e ≠ f → va_Nc (exN e) (exN f) U)
theorem Ev.go {D : va_G} {cA : Nat → ClassId} {N0 b L : Nat} {xs : Nat → Int32} {t : Nat} {s U : State} {H H1 : Heap} (h : Ev D cA N0 b L xs t s H) (hb : b < N0) (hW : s.WarmedH U.vm) (hz : H.size ≤ H1.size) (hq : ∀ a : Nat, a < H.size → ¬ Ar N0 a → H1[a]? = H[a]?) : Ev D cA N0 b L xs t U H1 := by
  obtain ⟨h1, h2, h3, h4, h5, h6, h7, h8, h9, h10, h11⟩ := h
  have hA := hW.alike
  have hbA : ¬ Ar N0 b := Nat.not_le.mpr hb
  refine ⟨va_K.moved hA h1, va_Z.moved hA (va_Z.kept h2 hq), va_T.moved hA (va_T.kept h3 hq), vx_Zq.moved hA (vx_Zq.kept h4 hq), vx_Zq.moved hA (vx_Zq.kept h5 hq), ?_, Nat.lt_of_lt_of_le h7 hz, fun q hq => ?_, fun x hx => va_Nw.warmD hW (h9 x hx), fun e he => va_Nw.warmC hW (h10 e he), fun e f he hf hef => va_Nc.moved hA (h11 e f he hf hef)⟩
  · exact va_X.moved hA (va_X.kept h6 (hq b h7 hbA))
  · obtain ⟨sa, hs⟩ := h8 q hq
    exact ⟨sa, vk_R.warm hW hs⟩
def rm (i k : Nat) : Room := { frames := mF i, cells := k, slots := 6 * k, locals := mLo i }
def wsM (i : Nat) : List Cond := wC i :: TT
def Run (k i : Nat) (as : List Value) (S : PS) (r : PR) (S' : PS) : Prop :=
  ∀ (l : Launch) (D : va_G) (cA : Nat → ClassId) (ad : Nat → Nat) (N0 b L : Nat) (xs : Nat → Int32) (t : Nat), l.stackTraces = false → Ad ad N0 b →
    vx_Met l (mY i) (wsM i) (rm i k) (fun a U => a = (as.map (rv ad b t)).toArray ∧ va_P D vwCl (wld ad cA S) U.heap ∧ N0 ≤ U.heap.size ∧ Ev D cA N0 b L xs t U U.heap)
      (fun _ st o u => (∃ v : Option Int32, r = .inl v ∧ o = .returned (v.map Value.int)) ∧ va_P D vwCl (wld ad cA S') u.heap ∧ va_F (Ar N0) st u)
      (fun E st u => (∃ e : Nat, r = .inr e ∧ e < 3 ∧ E = exN e) ∧ va_P D vwCl (wld ad cA S') u.heap ∧ va_F (Ar N0) st u) k (6 * k) (Ar N0)
def lkL : PL → Nat → Option Value
  | [], _ => none
  | q :: l, i => match Nat.beq q.1 i with
    | true => some q.2
    | false => lkL l i
def kpb (i : Nat) (q : Nat × Value) : Bool := !(q.1 == i) && !(q.1 + 1 == i && q.2.category == 2)
def delL : PL → Nat → (PL → Prop) → Prop
  | [], _, k => k []
  | q :: l, i, k => match kpb i q with
    | true => delL l i (fun t => k (q :: t))
    | false => delL l i k
def popn : Nat → List Value → List Value → (List Value → List Value → Prop) → Prop
  | 0, acc, st, k => k acc st
  | _ + 1, _, [], _ => False
  | n + 1, acc, v :: st, k => popn n (v :: acc) st k
def catS (st : List Value) : Nat := (st.map fun v => v.category).sum
def lkW : List (Nat × Nat × Nat × Nat) → Nat → Option (Nat × Nat × Nat)
  | [], _ => none
  | q :: l, i => match Nat.beq q.1 i with
    | true => some q.2
    | false => lkW l i
def nrw (ty : Option FieldType) (v : Int32) : Prop := match ty with
  | some y => narrow y (.int v) = .int v
  | none => False
def callK (i : Nat) (P : Nat → PR → PS → Prop) (K : KT) (k nx : Nat) (ls : PL) (rest : List Value) (r : PR) (S' : PS) : Prop := match r with
  | .inl none => K k nx ls rest S'
  | .inl (some v) => K k nx ls (.int v :: rest) S'
  | .inr e => match lkW (wh i) e with
    | none => wh i = [] ∧ P k (.inr e) S'
    | some (_, x, nx') => delL ls x (fun ls' => K k nx' ls' [] S')
def jmp (c : ClassFile.Cond) (x y : Int32) (A B : Prop) : Prop := match c with
  | .eq => (x = y → A) ∧ (¬ x = y → B)
  | .ne => (¬ x = y → A) ∧ (x = y → B)
  | .lt => (x < y → A) ∧ (¬ x < y → B)
  | .ge => (y ≤ x → A) ∧ (¬ y ≤ x → B)
  | .gt => (y < x → A) ∧ (¬ y < x → B)
  | .le => (x ≤ y → A) ∧ (¬ x ≤ y → B)
def ciK : Int → (Int32 → Prop) → Prop
  | .ofNat n, k => k (nI n)
  | .negSucc 0, k => k (-1)
  | .negSucc (n + 1), k => k (Int32.ofInt (.negSucc (n + 1)))
def stp (i L : Nat) (xs : Nat → Int32) (Km : Nat) (P : Nat → PR → PS → Prop) (K : KT) (k : Nat) (ins : Instr) (nx ax : Nat) (ls : PL) (st : List Value) (S : PS) : Prop := match ins with
  | .iconst n => ciK n (fun z => K k nx ls (.int z :: st) S)
  | .bipush n => ciK n (fun z => K k nx ls (.int z :: st) S)
  | .sipush n => ciK n (fun z => K k nx ls (.int z :: st) S)
  | .lconst n => K k nx ls (.long (Int64.ofNat n.val) :: st) S
  | .ldc_w _ => K k nx ls (.int (nI ax) :: st) S
  | .iload_n j => match lkL ls j.val with
    | some (.int x) => K k nx ls (.int x :: st) S
    | _ => False
  | .iload j => match lkL ls j with
    | some (.int x) => K k nx ls (.int x :: st) S
    | _ => False
  | .aload_n j => match lkL ls j.val with
    | some (.ref x) => K k nx ls (.ref x :: st) S
    | some (.retAddr x) => K k nx ls (.retAddr x :: st) S
    | _ => False
  | .aload j => match lkL ls j with
    | some (.ref x) => K k nx ls (.ref x :: st) S
    | some (.retAddr x) => K k nx ls (.retAddr x :: st) S
    | _ => False
  | .istore_n j => match st with
    | .int x :: r => delL ls j.val (fun l => K k nx ((j.val, .int x) :: l) r S)
    | _ => False
  | .istore j => match st with
    | .int x :: r => delL ls j (fun l => K k nx ((j, .int x) :: l) r S)
    | _ => False
  | .iinc j n => match lkL ls j with
    | some (.int x) => ciK n (fun z => delL ls j (fun l => K k nx ((j, .int (x + z)) :: l) st S))
    | _ => False
  | .iadd => match st with
    | .int y :: .int x :: r => K k nx ls (.int (x + y) :: r) S
    | _ => False
  | .isub => match st with
    | .int y :: .int x :: r => K k nx ls (.int (x - y) :: r) S
    | _ => False
  | .imul => match st with
    | .int y :: .int x :: r => K k nx ls (.int (x * y) :: r) S
    | _ => False
  | .iand => match st with
    | .int y :: .int x :: r => K k nx ls (.int (x &&& y) :: r) S
    | _ => False
  | .ior => match st with
    | .int y :: .int x :: r => K k nx ls (.int (x ||| y) :: r) S
    | _ => False
  | .ixor => match st with
    | .int y :: .int x :: r => K k nx ls (.int (x ^^^ y) :: r) S
    | _ => False
  | .idiv => match st with
    | .int y :: .int x :: r => (¬ y = 0) ∧ K k nx ls (.int (x / y) :: r) S
    | _ => False
  | .irem => match st with
    | .int y :: .int x :: r => (¬ y = 0) ∧ K k nx ls (.int (x - x / y * y) :: r) S
    | _ => False
  | .ishl => match st with
    | .int y :: .int x :: r => K k nx ls (.int (x <<< (y &&& 31)) :: r) S
    | _ => False
  | .ishr => match st with
    | .int y :: .int x :: r => K k nx ls (.int (x >>> (y &&& 31)) :: r) S
    | _ => False
  | .iushr => match st with
    | .int y :: .int x :: r => K k nx ls (.int (x.toUInt32 >>> (y.toUInt32 &&& Int32.toUInt32 31)).toInt32 :: r) S
    | _ => False
  | .i2l => match st with
    | .int x :: r => K k nx ls (.long x.toInt64 :: r) S
    | _ => False
  | .lcmp => match st with
    | .long y :: .long x :: r => K k nx ls (.int (lg_cmp x y) :: r) S
    | _ => False
  | .dup => match st with
    | v :: r => match Nat.beq v.category 1 with
      | true => K k nx ls (v :: v :: r) S
      | false => False
    | _ => False
  | .dup2 => match st with
    | v :: w :: r => match Nat.beq v.category 1, Nat.beq w.category 1 with
      | true, true => K k nx ls (v :: w :: v :: w :: r) S
      | _, _ => False
    | _ => False
  | .goto _ => K k ax ls st S
  | .ifCond c _ => match st with
    | .int x :: r => jmp c x 0 (K k ax ls r S) (K k nx ls r S)
    | _ => False
  | .if_icmp c _ => match st with
    | .int y :: .int x :: r => jmp c x y (K k ax ls r S) (K k nx ls r S)
    | _ => False
  | .getfield _ => match st with
    | .ref a :: r => match Nat.beq a (plO (mO i)), (shO (mO i)).getD ax none with
      | true, some j => K k nx ls (.ref j :: r) S
      | true, none => K k nx ls (.int (S.1 a ax) :: r) S
      | false, _ => False
    | _ => False
  | .putfield _ => match st with
    | .int v :: .ref a :: r => match Nat.beq a (plO (mO i)), (shO (mO i)).getD ax none with
      | true, none => K k nx ls r (va_up S.1 a (upd (S.1 a) ax v), S.2.1, S.2.2)
      | _, _ => False
    | _ => False
  | .getstatic _ => K k nx ls (.retAddr 1 :: st) S
  | .iaload => match st with
    | .int j :: .ref a :: r => match ari.getD a none with
      | some (0, n) => vp_in j n ∧ K k nx ls (.int (S.2.1 a j.toNatClampNeg) :: r) S
      | _ => False
    | .int j :: .retAddr 0 :: r => vp_in j L ∧ K k nx ls (.int (xs j.toNatClampNeg) :: r) S
    | .int j :: .retAddr 1 :: r => vp_in j 11 ∧ K k nx ls (.int (fcv j.toNatClampNeg) :: r) S
    | _ => False
  | .baload => match st with
    | .int j :: .ref a :: r => match ari.getD a none with
      | some (1, n) => vp_in j n ∧ K k nx ls (.int (S.2.1 a j.toNatClampNeg) :: r) S
      | _ => False
    | _ => False
  | .laload => match st with
    | .int j :: .ref a :: r => match ari.getD a none with
      | some (2, n) => vp_in j n ∧ K k nx ls (.long (S.2.2 j.toNatClampNeg) :: r) S
      | _ => False
    | _ => False
  | .iastore => match st with
    | .int x :: .int j :: .ref a :: r => match ari.getD a none with
      | some (0, n) => vp_in j n ∧ K k nx ls r (S.1, va_up S.2.1 a (upd (S.2.1 a) j.toNatClampNeg x), S.2.2)
      | _ => False
    | _ => False
  | .bastore => match st with
    | .int x :: .int j :: .ref a :: r => match ari.getD a none with
      | some (1, n) => vp_in j n ∧ K k nx ls r (S.1, va_up S.2.1 a (upd (S.2.1 a) j.toNatClampNeg (vp_nar .boolean x)), S.2.2)
      | _ => False
    | _ => False
  | .lastore => match st with
    | .long x :: .int j :: .ref a :: r => match ari.getD a none with
      | some (2, n) => vp_in j n ∧ K k nx ls r (S.1, S.2.1, vp_updL S.2.2 j.toNatClampNeg x)
      | _ => False
    | _ => False
  | .arraylength => match st with
    | .ref a :: r => match ari.getD a none with
      | some (_, n) => K k nx ls (.int (Int32.ofNat n) :: r) S
      | _ => False
    | .retAddr 0 :: r => K k nx ls (.int (Int32.ofNat L) :: r) S
    | .retAddr 1 :: r => K k nx ls (.int (Int32.ofNat 11) :: r) S
    | _ => False
  | .tableswitch dflt lo hi offs => match st with
    | .int x :: r => (∀ (j : Nat) (off : Int) (tg : Nat), ¬ x.toInt < lo → ¬ hi < x.toInt → (x.toInt - lo).toNat = j → offs[j]? = some off → ((nx : Int) - 105) + off = (tg : Int) → K k tg ls r S) ∧ (∀ tg : Nat, x.toInt < lo ∨ hi < x.toInt → ((nx : Int) - 105) + dflt = (tg : Int) → K k tg ls r S) ∧ (∀ j : Nat, j ≤ (hi - lo).toNat → offs[j]?.isSome = true ∧ ∃ tg : Nat, ((nx : Int) - 105) + (offs[j]?).getD 0 = (tg : Int)) ∧ (∃ tg : Nat, ((nx : Int) - 105) + dflt = (tg : Int))
    | _ => False
  | .invokevirtual _ => popn (mN ax + 1) [] st (fun as rest => match as, Nat.ble (catS rest) 8 with
    | .ref a :: _, true => a = plO (mO ax) ∧ ∃ (k' : Nat) (r : PR) (S' : PS), Run k' ax as S r S' ∧ k + k' ≤ Km ∧ callK i P K (k + k') nx ls rest r S'
    | _, _ => False)
  | .invokestatic _ => popn (mN ax) [] st (fun as rest => match Nat.ble (catS rest) 8 with
    | true => ∃ (k' : Nat) (r : PR) (S' : PS), Run k' ax as S r S' ∧ k + k' ≤ Km ∧ callK i P K (k + k') nx ls rest r S'
    | false => False)
  | .new _ => mO i = 0 ∧ Nat.ble (catS st) 8 = true ∧ k + 1 ≤ Km ∧ P (k + 1) (.inr ax) S
  | .ireturn => match st with
    | [.int v] => nrw (mR i) v ∧ P k (.inl (some v)) S
    | _ => False
  | .return_ => match st with
    | [] => mR i = none ∧ P k (.inl none) S
    | _ => False
  | _ => False
end
section
theorem rv_cat (ad : Nat → Nat) (b t : Nat) (v : Value) : (rv ad b t v).category = v.category := by
  cases v with
  | retAddr n => cases n <;> rfl
  | _ => rfl
theorem lkL_mem : ∀ {ls : PL} {j : Nat} {v : Value}, lkL ls j = some v → (j, v) ∈ ls
  | q :: l, j, v, h => by
    unfold lkL at h
    cases hb : Nat.beq q.1 j with
    | true =>
      rw [hb] at h
      have e1 : q.1 = j := Nat.eq_of_beq_eq_true hb
      have e2 : q.2 = v := Option.some.inj h
      rw [← e1, ← e2]
      exact List.mem_cons_self
    | false =>
      rw [hb] at h
      exact List.mem_cons_of_mem _ (lkL_mem h)
theorem delL_eq : ∀ {ls : PL} {j : Nat} {k : PL → Prop}, delL ls j k → k (ls.filter (kpb j))
  | [], _, _, h => h
  | q :: l, j, k, h => by
    unfold delL at h
    cases hb : kpb j q with
    | true =>
      rw [hb] at h
      have h2 := delL_eq h
      rw [List.filter_cons, hb]
      exact h2
    | false =>
      rw [hb] at h
      have h2 := delL_eq h
      rw [List.filter_cons, hb]
      exact h2
theorem popn_eq : ∀ {n : Nat} {acc st : List Value} {k : List Value → List Value → Prop}, popn n acc st k → ∃ as rest, as.length = n ∧ st = as.reverse ++ rest ∧ k (as ++ acc) rest
  | 0, acc, st, k, h => ⟨[], st, rfl, rfl, h⟩
  | n + 1, acc, [], k, h => False.elim h
  | n + 1, acc, v :: st, k, h => by
    obtain ⟨as, rest, h1, h2, h3⟩ := popn_eq (n := n) (acc := v :: acc) (st := st) (k := k) h
    refine ⟨as ++ [v], rest, by simp [h1], by simp [h2], ?_⟩
    rw [List.append_assoc]
    exact h3
section LSX
variable {ad : Nat → Nat} {b t : Nat}
abbrev lsr (ad : Nat → Nat) (b t : Nat) (ls : PL) : List (Nat × Value) := ls.map (fun q => (q.1, rv ad b t q.2))
theorem lsr_at {Lx : Array Slot} {nL : Nat} {ls : PL} {j : Nat} {v : Value} (hl : lv_has Lx nL (lsr ad b t ls)) (h : lkL ls j = some v) : Lx[j]? = some (.val (rv ad b t v)) :=
  hl.2.2 (j, rv ad b t v) (List.mem_map.mpr ⟨(j, v), lkL_mem h, rfl⟩)
theorem lsr_ix {nL : Nat} {Lx : Array Slot} {ls : PL} {j : Nat} {v : Value} (_ : lv_has Lx nL (lsr ad b t ls)) (h : lkL ls j = some v) : ∃ k : Nat, (lsr ad b t ls)[k]? = some (j, rv ad b t v) :=
  List.getElem?_of_mem (List.mem_map.mpr ⟨(j, v), lkL_mem h, rfl⟩)
theorem lsr_del (ls : PL) (j : Nat) : (lsr ad b t ls).filter (fun q => !(q.1 == j) && !(q.1 + 1 == j && q.2.category == 2)) = lsr ad b t (ls.filter (kpb j)) := by
  unfold lsr
  rw [List.filter_map]
  congr 1
  apply List.filter_congr
  intro q _
  simp only [Function.comp, kpb, rv_cat]
theorem lsr_sub {Lx : Array Slot} {nL : Nat} {ls ls' : PL} (hl : lv_has Lx nL (lsr ad b t ls)) (h : ∀ q ∈ ls', q ∈ ls) : lv_has Lx nL (lsr ad b t ls') := by
  refine ⟨hl.1, hl.2.1, fun q hq => ?_⟩
  obtain ⟨q0, h0, rfl⟩ := List.mem_map.mp hq
  exact hl.2.2 _ (List.mem_map.mpr ⟨q0, h q0 h0, rfl⟩)
end LSX
section WLD
variable {ad : Nat → Nat} {cA : Nat → ClassId} {S S' : PS}
theorem wld_at {a : Nat} (h : a < 27) : (wld ad cA S)[a]? = some (ad a, ent ad cA S a) := by
  unfold wld
  rw [List.getElem?_map, List.getElem?_range h]
  rfl
theorem wld_lt {k : Nat} {q : Nat × va_E} (h : (wld ad cA S)[k]? = some q) : k < 27 ∧ q = (ad k, ent ad cA S k) := by
  have hk : k < 27 := by
    have := (List.getElem?_eq_some_iff.mp h).1
    simpa [wld] using this
  rw [wld_at hk] at h
  exact ⟨hk, (Option.some.inj h).symm⟩
theorem wld_D {N0 b : Nat} (h : Ad ad N0 b) : va_D (Ar N0) (wld ad cA S) := by
  refine ⟨fun i j p q hi hj e => ?_, fun k q hk => ?_⟩
  · obtain ⟨h1, rfl⟩ := wld_lt hi
    obtain ⟨h2, rfl⟩ := wld_lt hj
    exact h.1 i j h1 h2 e
  · obtain ⟨h1, rfl⟩ := wld_lt hk
    exact h.2.1 k h1
theorem wld_set {a : Nat} {e : va_E} (h : a < 27) (h1 : ∀ j : Nat, j < 27 → j ≠ a → ent ad cA S' j = ent ad cA S j) (h2 : ent ad cA S' a = e) : (wld ad cA S).set a (ad a, e) = wld ad cA S' := by
  apply List.ext_getElem?
  intro k
  by_cases hk : k < 27
  · by_cases hka : k = a
    · subst hka
      rw [List.getElem?_set_self (by simp [wld]; exact hk), wld_at hk, h2]
    · rw [List.getElem?_set_ne (fun z => hka z.symm), wld_at hk, wld_at hk, h1 k hk hka]
  · rw [List.getElem?_eq_none (by simp [wld]; omega), List.getElem?_eq_none (by simp [wld]; omega)]
theorem ari_lt {a : Nat} {x : Nat × Nat} (h : ari.getD a none = some x) : a < 27 := by
  rcases Nat.lt_or_ge a 27 with h1 | h1
  · exact h1
  · rw [List.getD_eq_getElem?_getD, List.getElem?_eq_none (by simpa [ari] using h1)] at h
    cases h
theorem ent_arr {a t n : Nat} (h : ari.getD a none = some (t, n)) (ht : t ≠ 2) : ent ad cA S a = .inl (cA t, n, .inl (S.2.1 a)) := by
  unfold ent
  rw [h]
  simp only [if_neg ht]
theorem ent_lng {a n : Nat} (h : ari.getD a none = some (2, n)) : ent ad cA S a = .inl (cA 2, n, .inr (.inl S.2.2)) := by
  unfold ent
  rw [h]
  simp only [if_pos]
theorem ent_obj {o : Nat} (h : o < 2) : ent ad cA S (plO o) = .inr (o, objv ad (S.1 (plO o)) (shO o)) := by
  rcases (show o = 0 ∨ o = 1 by omega) with rfl | rfl <;> rfl
theorem set_arr {a t n : Nat} (h : ari.getD a none = some (t, n)) (ht : t ≠ 2) (f : Nat → Int32) : (wld ad cA S).set a (ad a, .inl (cA t, n, .inl f)) = wld ad cA (S.1, va_up S.2.1 a f, S.2.2) := by
  refine wld_set (ari_lt h) (fun j _ hja => ?_) ?_
  · unfold ent
    split
    · rename_i t' n' _
      split
      · rfl
      · show _ = Sum.inl (cA t', n', Sum.inl (S.2.1 j))
        simp only [va_up, if_neg hja]
    · rfl
  · rw [ent_arr h ht]
    simp only [va_up, if_pos]
theorem set_lng {a n : Nat} (h : ari.getD a none = some (2, n)) (f : Nat → Int64) : (wld ad cA S).set a (ad a, .inl (cA 2, n, .inr (.inl f))) = wld ad cA (S.1, S.2.1, f) := by
  refine wld_set (ari_lt h) (fun j hj hja => ?_) ?_
  · unfold ent
    split
    · rename_i t' n' h9
      split
      · rename_i ht
        subst ht
        exfalso
        have key : ∀ x : Nat, x < 27 → (match ari.getD x none with | some (2, _) => decide (x = 26) | _ => true) = true := by decide
        have k1 := key j hj
        have k2 := key a (ari_lt h)
        rw [h9] at k1
        rw [h] at k2
        simp only [decide_eq_true_eq] at k1 k2
        exact hja (k1.trans k2.symm)
      · rfl
    · rfl
  · rw [ent_lng h]
theorem objv_at {F : Nat → Int32} {o k : Nat} (ho : o < 2) (hk : k < 17) : (objv ad F (shO o))[k]? = some (match (shO o).getD k none with
  | some j => Value.ref (ad j)
  | none => .int (F k)) := by
  have hl : k < (shO o).length := by
    rcases (show o = 0 ∨ o = 1 by omega) with rfl | rfl <;> exact hk
  unfold objv
  rw [List.getElem?_mapIdx, List.getD_eq_getElem?_getD, List.getElem?_eq_getElem hl]
  rfl
theorem objv_len {F : Nat → Int32} {o : Nat} (ho : o < 2) : (objv ad F (shO o)).length = 17 := by
  rcases (show o = 0 ∨ o = 1 by omega) with rfl | rfl <;> rfl
theorem set_fld {o k : Nat} (ho : o < 2) (hk : k < 17) (hs : (shO o).getD k none = none) (v : Int32) : (wld ad cA S).set (plO o) (ad (plO o), .inr (o, (objv ad (S.1 (plO o)) (shO o)).set k (.int v))) = wld ad cA (va_up S.1 (plO o) (upd (S.1 (plO o)) k v), S.2.1, S.2.2) := by
  have hp : plO o < 27 := by rcases (show o = 0 ∨ o = 1 by omega) with rfl | rfl <;> decide
  have hobj : (objv ad (S.1 (plO o)) (shO o)).set k (.int v) = objv ad (upd (S.1 (plO o)) k v) (shO o) := by
    apply List.ext_getElem?
    intro j
    by_cases hj : j < 17
    · by_cases hjk : j = k
      · subst hjk
        rw [List.getElem?_set_self (by rw [objv_len ho]; exact hj), objv_at ho hj, hs]
        simp only [upd, if_pos]
      · rw [List.getElem?_set_ne (fun z => hjk z.symm), objv_at ho hj, objv_at ho hj]
        simp only [upd, if_neg hjk]
    · rw [List.getElem?_eq_none (by rw [List.length_set, objv_len ho]; omega), List.getElem?_eq_none (by rw [objv_len ho]; omega)]
  refine wld_set hp (fun j hlt hj => ?_) ?_
  · unfold ent
    split
    · rfl
    · rcases (show o = 0 ∨ o = 1 by omega) with rfl | rfl
      · have hj0 : ¬ j = 0 := hj
        have h12 : ¬ (12 : Nat) = plO 0 := by decide
        simp only [if_neg hj0, va_up, if_neg h12]
      · have hj1 : ¬ (0 : Nat) = plO 1 := by decide
        by_cases h0 : j = 0
        · simp only [if_pos h0, va_up, if_neg hj1]
        · simp only [if_neg h0]
          exfalso
          have key : ∀ x : Nat, x < 27 → ari.getD x none = none → x = 0 ∨ x = 12 := by decide
          rename_i h9
          rcases key j hlt h9 with z | z
          · exact h0 z
          · exact hj z
  · rw [ent_obj ho]
    simp only [va_up, if_pos]
    rw [hobj]
end WLD
end
section
theorem lk_in {l : List PE} {pc : Nat} {q : Instr × Nat × Nat} (h : lkp l pc = some q) : (pc, q) ∈ l := by
  induction l with
  | nil => cases h
  | cons x l ih =>
    unfold lkp at h
    cases hb : Nat.beq x.1 pc with
    | true =>
      rw [hb] at h
      have e1 : x.1 = pc := Nat.eq_of_beq_eq_true hb
      have e2 : x.2 = q := Option.some.inj h
      rw [← e1, ← e2]
      exact List.mem_cons_self
    | false =>
      rw [hb] at h
      exact List.mem_cons_of_mem _ (ih h)
theorem chunk {α : Type} {l : List α} {q : α} (h : q ∈ l) : ∃ k : Nat, 50 * k < l.length ∧ q ∈ (l.drop (50 * k)).take 50 := by
  obtain ⟨n, hn⟩ := List.getElem?_of_mem h
  have hl := (List.getElem?_eq_some_iff.mp hn).1
  refine ⟨n / 50, by omega, List.mem_of_getElem? (i := n - 50 * (n / 50)) ?_⟩
  rw [List.getElem?_take_of_lt (by omega), List.getElem?_drop, show 50 * (n / 50) + (n - 50 * (n / 50)) = n by omega]
  exact hn
theorem len_120 : (pg 120).length < 900 := by decide +kernel
theorem okM_120 : okM 120 = true := by
  refine List.all_eq_true.mpr fun q hq => ?_
  obtain ⟨k, hk, hq2⟩ := chunk hq
  have hl := len_120
  have h : okLk k = true := by
    rcases (show k = 0 ∨ k = 1 ∨ k = 2 ∨ k = 3 ∨ k = 4 ∨ k = 5 ∨ k = 6 ∨ k = 7 ∨ k = 8 ∨ k = 9 ∨ k = 10 ∨ k = 11 ∨ k = 12 ∨ k = 13 ∨ k = 14 ∨ k = 15 ∨ k = 16 ∨ k = 17 by omega) with rfl | rfl | rfl | rfl | rfl | rfl | rfl | rfl | rfl | rfl | rfl | rfl | rfl | rfl | rfl | rfl | rfl | rfl
    · exact okL_0
    · exact okL_1
    · exact okL_2
    · exact okL_3
    · exact okL_4
    · exact okL_5
    · exact okL_6
    · exact okL_7
    · exact okL_8
    · exact okL_9
    · exact okL_10
    · exact okL_11
    · exact okL_12
    · exact okL_13
    · exact okL_14
    · exact okL_15
    · exact okL_16
    · exact okL_17
  exact List.all_eq_true.mp h q hq2
theorem okM_all {i : Nat} (hi : i < 122) : okM i = true := by
  have ha := List.all_eq_true.mp okM_a
  have hb := List.all_eq_true.mp okM_b
  have hc := List.all_eq_true.mp okM_c
  rcases Nat.lt_or_ge i 50 with h | h
  · exact ha i (List.mem_range.mpr h)
  · rcases Nat.lt_or_ge i 100 with h2 | h2
    · exact hb i (List.mem_map.mpr ⟨i - 50, List.mem_range.mpr (by omega), by omega⟩)
    · rcases Nat.lt_or_ge i 120 with h3 | h3
      · exact hc i (List.mem_map.mpr ⟨i - 100, List.mem_range.mpr (by omega), by omega⟩)
      · rcases (show i = 120 ∨ i = 121 by omega) with rfl | rfl
        · exact okM_120
        · exact okM_d
theorem row_ok {i pc nx ax : Nat} {ins : Instr} (hi : i < 122) (h : lkp (pg i) pc = some (ins, nx, ax)) : decode (mB i) pc = .ok (ins, ln ins) ∧ nx = pc + ln ins ∧ okA i (pc, ins, nx, ax) = true := by
  have h1 := List.all_eq_true.mp (okM_all hi) _ (lk_in h)
  simp only [okE, Bool.and_eq_true, decide_eq_true_eq] at h1
  exact ⟨h1.1.1, h1.1.2, h1.2⟩
theorem gd {w : Cond} (h : w ∈ (FLs.map flW ++ (MLs.map mlW ++ (KWs.map kwW ++ (mtAll.map wC ++ (mtAll.map iniW ++ (mtS.map staW ++ (mtI.map insW ++ mtI.map selW)))))))) : goodWord w = true := List.all_eq_true.mp g_all w h
theorem in_fl {q : Nat × Nat × Nat} (h : q ∈ FLs) : flW q ∈ TT := inTT (at_tbl p_fl h) (gd (List.mem_append_left _ (List.mem_map.mpr ⟨q, h, rfl⟩)))
theorem in_ml {q : Nat × Nat × Nat} (h : q ∈ MLs) : mlW q ∈ TT := inTT (at_tbl p_ml h) (gd (List.mem_append_right _ (List.mem_append_left _ (List.mem_map.mpr ⟨q, h, rfl⟩))))
theorem in_kw {q : Nat × Nat} (h : q ∈ KWs) : kwW q ∈ TT := inTT (at_tbl p_kw h) (gd (List.mem_append_right _ (List.mem_append_right _ (List.mem_append_left _ (List.mem_map.mpr ⟨q, h, rfl⟩)))))
theorem in_code {i : Nat} (h : i ∈ mtAll) : wC i ∈ TT := inTT (at_tbl p_code h) (gd (List.mem_append_right _ (List.mem_append_right _ (List.mem_append_right _ (List.mem_append_left _ (List.mem_map.mpr ⟨i, h, rfl⟩))))))
theorem in_ini {i : Nat} (h : i ∈ mtAll) : iniW i ∈ TT := inTT (at_tbl p_ini h) (gd (List.mem_append_right _ (List.mem_append_right _ (List.mem_append_right _ (List.mem_append_right _ (List.mem_append_left _ (List.mem_map.mpr ⟨i, h, rfl⟩)))))))
theorem in_sta {i : Nat} (h : i ∈ mtS) : staW i ∈ TT := inTT (at_tbl p_sta h) (gd (List.mem_append_right _ (List.mem_append_right _ (List.mem_append_right _ (List.mem_append_right _ (List.mem_append_right _ (List.mem_append_left _ (List.mem_map.mpr ⟨i, h, rfl⟩))))))))
theorem in_ins {i : Nat} (h : i ∈ mtI) : insW i ∈ TT := inTT (at_tbl p_ins h) (gd (List.mem_append_right _ (List.mem_append_right _ (List.mem_append_right _ (List.mem_append_right _ (List.mem_append_right _ (List.mem_append_right _ (List.mem_append_left _ (List.mem_map.mpr ⟨i, h, rfl⟩)))))))))
theorem in_sel {i : Nat} (h : i ∈ mtI) : selW i ∈ TT := inTT (at_tbl p_sel h) (gd (List.mem_append_right _ (List.mem_append_right _ (List.mem_append_right _ (List.mem_append_right _ (List.mem_append_right _ (List.mem_append_right _ (List.mem_append_right _ (List.mem_map.mpr ⟨i, h, rfl⟩)))))))))
theorem tbl_of {ws : List Cond} {ps : List Nat} (h : ws.map some = ps.map (fun j => lw_tbl[j]?)) {w : Cond} (hw : w ∈ ws) : w ∈ lw_tbl := by
  have h1 : some w ∈ ws.map some := List.mem_map.mpr ⟨w, hw, rfl⟩
  rw [h] at h1
  obtain ⟨j, -, hj⟩ := List.mem_map.mp h1
  exact List.mem_of_getElem? hj
theorem in_lay {o : Nat} (ho : o < 2) : ∀ w ∈ u_ws (oN o) (oT o) 17, w ∈ TT := by
  intro w hw
  rcases (show o = 0 ∨ o = 1 by omega) with rfl | rfl
  · exact inTT (tbl_of p_lay0 hw) (List.all_eq_true.mp g_lay w (List.mem_append_left _ hw))
  · exact inTT (tbl_of p_lay1 hw) (List.all_eq_true.mp g_lay w (List.mem_append_right _ hw))
theorem in_f0 : Cond.fieldLink RX0 170 RX0 "FACTORS" "[I" ∈ TT := inTT (List.mem_of_getElem? p_f0) g_f0
def fOk (o k : Nat) : Bool := decide ((oT o k).1 = oN o) && (match (shO o).getD k none with
  | none => decide ((oT o k).2.2.1 = "I")
  | some _ => true)
theorem fOk_a : (List.range 2).all (fun o => (List.range 17).all (fOk o)) = true := by decide +kernel
theorem fOk_all {o k : Nat} (ho : o < 2) (hk : k < 17) : fOk o k = true := List.all_eq_true.mp (List.all_eq_true.mp fOk_a o (List.mem_range.mpr ho)) k (List.mem_range.mpr hk)
theorem fl_lt : FLs.all (fun q => decide (q.1 < 2) && decide (q.2.2 < 17)) = true := by decide +kernel
theorem cl_at {o : Nat} (ho : o < 2) : vwCl[o]? = some (oN o, oT o, 17) := by
  rcases (show o = 0 ∨ o = 1 by omega) with rfl | rfl <;> rfl
theorem ty_all {o : Nat} (ho : o < 2) : ∃ ty : Nat → FieldType, ∀ k, k < 17 → parseFieldDescriptor (oT o k).2.2.1 = some (ty k) := by
  rcases (show o = 0 ∨ o = 1 by omega) with rfl | rfl
  · exact ⟨_, tyX0_ok⟩
  · exact ⟨_, tyX1_ok⟩
theorem nm_all {o : Nat} (ho : o < 2) : ∀ a, a < 17 → ∀ b, b < 17 → a ≠ b → (oT o a).2.1 ≠ (oT o b).2.1 := by
  rcases (show o = 0 ∨ o = 1 by omega) with rfl | rfl
  · exact nmX0
  · exact nmX1
theorem mt_ok {i : Nat} (h : i ∈ mtAll) : mtOk i = true := List.all_eq_true.mp mtOk_a i h
section STEP
variable {p : Program} {l : Launch} {e : Env} {R : Room} {s : State} {m : MethodId} {args : Array Value} {below : List Frame} {meth : Method} {c : Code} {Q : State → Prop}
variable {i : Nat} {D : va_G} {cA : Nat → ClassId} {ad : Nat → Nat} {N0 b L : Nat} {xs : Nat → Int32} {t c0 s0 Km : Nat} {P : Nat → PR → PS → Prop}
def Cx (i : Nat) (D : va_G) (cA : Nat → ClassId) (ad : Nat → Nat) (N0 b L : Nat) (xs : Nat → Int32) (t c0 s0 Km : Nat) (p : Program) (l : Launch) (R : Room) (s : State) (m : MethodId) (args : Array Value) (c : Code) : Prop :=
  p.tables.exec = Jvm.exec ∧ c.code = mB i ∧ c.maxLocals = mL i ∧ s.vm.findClass (oN (mO i)) = some m.cls ∧ (∀ w ∈ TT, w.before args s = true) ∧ Ev D cA N0 b L xs t s s.heap ∧ Ad ad N0 b ∧ N0 ≤ s.heap.size ∧ l.stackTraces = false ∧ c.exceptionTable.toList = tableOf (mH i) ∧ R.frames = mF i ∧ R.locals = mLo i ∧ c0 + Km ≤ R.cells ∧ s0 + 6 * Km ≤ R.slots
def Go (D : va_G) (cA : Nat → ClassId) (ad : Nat → Nat) (N0 b t c0 s0 Km i : Nat) (p : Program) (l : Launch) (e : Env) (R : Room) (s : State) (m : MethodId) (args : Array Value) (below : List Frame) (meth : Method) (c : Code) (Q : State → Prop) : KT := fun k pc ls st S =>
  k ≤ Km → ∀ (H : Heap) (locs : List Loc) (Lx : Array Slot), va_P D vwCl (wld ad cA S) H → va_S (Ar N0) s.heap H locs → lv_has Lx (mL i) (lsr ad b t ls) → W p l e R s m args below meth c H locs (c0 + k) (s0 + 6 * k) Q (F0 m pc Lx (st.map (rv ad b t)))
def En (D : va_G) (cA : Nat → ClassId) (ad : Nat → Nat) (N0 c0 s0 Km i : Nat) (P : Nat → PR → PS → Prop) (p : Program) (l : Launch) (e : Env) (R : Room) (s : State) (m : MethodId) (args : Array Value) (below : List Frame) (meth : Method) (c : Code) (Q : State → Prop) : Prop :=
  (∀ (k : Nat) (v : Int32) (S : PS) (pc : Nat) (H : Heap) (locs : List Loc) (Lx : Array Slot), P k (.inl (some v)) S → k ≤ Km → nrw (mR i) v → decode (mB i) pc = .ok (.ireturn, 1) → va_P D vwCl (wld ad cA S) H → va_S (Ar N0) s.heap H locs → W p l e R s m args below meth c H locs (c0 + k) (s0 + 6 * k) Q (F0 m pc Lx [.int v])) ∧
  (∀ (k : Nat) (S : PS) (pc : Nat) (H : Heap) (locs : List Loc) (Lx : Array Slot), P k (.inl none) S → k ≤ Km → mR i = none → decode (mB i) pc = .ok (.return_, 1) → va_P D vwCl (wld ad cA S) H → va_S (Ar N0) s.heap H locs → W p l e R s m args below meth c H locs (c0 + k) (s0 + 6 * k) Q (F0 m pc Lx [])) ∧
  (∀ (k ex : Nat) (S : PS) (pc ik : Nat) (H : Heap) (locs : List Loc) (Lx : Array Slot) (rest : List Value), P (k + 1) (.inr ex) S → k + 1 ≤ Km → mO i = 0 → catS rest ≤ 8 → Lx.size = mL i → decode (mB i) pc = .ok (.new ik, 3) → okN (mB i) pc ik ex = true → 6 ≤ mF i → 90 ≤ mLo i → mH i = [] → va_P D vwCl (wld ad cA S) H → va_S (Ar N0) s.heap H locs → W p l e R s m args below meth c H locs (c0 + k) (s0 + 6 * k) Q (F0 m pc Lx rest)) ∧
  (∀ (k ex : Nat) (S : PS) (pc : Nat) (H : Heap) (locs : List Loc) (Lx : Array Slot) (rest : List Value) (q : Addr) (ce : Cell), P k (.inr ex) S → k ≤ Km → ex < 3 → mH i = [] → va_P D vwCl (wld ad cA S) H → va_S (Ar N0) s.heap H locs → H[q]? = some ce → ce.vm = .none → s.vm.findClass (exN ex) = some ce.cls → vx_W p l e R s m args below meth c H locs (c0 + k) (s0 + 6 * k) Q (F0 m pc Lx rest) q)
abbrev GO (D : va_G) (cA : Nat → ClassId) (ad : Nat → Nat) (N0 b t c0 s0 Km i : Nat) (p : Program) (l : Launch) (e : Env) (R : Room) (s : State) (m : MethodId) (args : Array Value) (below : List Frame) (meth : Method) (c : Code) (Q : State → Prop) : KT := Go D cA ad N0 b t c0 s0 Km i p l e R s m args below meth c Q
theorem go_weak {k pc : Nat} {ls ls' : PL} {st : List Value} {S : PS} (h : ∀ q ∈ ls', q ∈ ls) (g : Go D cA ad N0 b t c0 s0 Km i p l e R s m args below meth c Q k pc ls' st S) : Go D cA ad N0 b t c0 s0 Km i p l e R s m args below meth c Q k pc ls st S :=
  fun hk H locs Lx hP hS hl => g hk H locs Lx hP hS (lsr_sub hl h)
theorem go_jmp {cc : ByteArray} {k pc ax nx : Nat} {off : Int} {cnd : ClassFile.Cond} {ls : PL} {st : List Value} {S : PS} {x y : Int32} {H : Heap} {locs : List Loc} {Lx : Array Slot} {c1 s1 : Nat} (hx : p.tables.exec = Jvm.exec) (hb : c.code = cc) (ht : (pc : Int) + off = (ax : Int)) (hd : decode cc pc = .ok (.if_icmp cnd off, 3)) {A B : Prop}
    (ka : A → W p l e R s m args below meth c H locs c1 s1 Q (F0 m ax Lx st)) (kb : B → W p l e R s m args below meth c H locs c1 s1 Q (F0 m (pc + 3) Lx st)) (h : jmp cnd x y A B) : W p l e R s m args below meth c H locs c1 s1 Q (F0 m pc Lx (.int y :: .int x :: st)) := by
  cases cnd with
  | eq => exact lv_icmp_eq hx hb hd ht (fun z => ka (h.1 z)) (fun z => kb (h.2 z))
  | ne => exact lv_icmp_ne hx hb hd ht (fun z => ka (h.1 z)) (fun z => kb (h.2 z))
  | lt => exact lv_icmp_lt hx hb hd ht (fun z => ka (h.1 z)) (fun z => kb (h.2 z))
  | ge => exact lv_icmp_ge hx hb hd ht (fun z => ka (h.1 z)) (fun z => kb (h.2 z))
  | gt => exact lv_icmp_gt hx hb hd ht (fun z => ka (h.1 z)) (fun z => kb (h.2 z))
  | le => exact lv_icmp_le hx hb hd ht (fun z => ka (h.1 z)) (fun z => kb (h.2 z))
theorem go_jmp0 {cc : ByteArray} {k pc ax nx : Nat} {off : Int} {cnd : ClassFile.Cond} {ls : PL} {st : List Value} {S : PS} {x : Int32} {H : Heap} {locs : List Loc} {Lx : Array Slot} {c1 s1 : Nat} (hx : p.tables.exec = Jvm.exec) (hb : c.code = cc) (ht : (pc : Int) + off = (ax : Int)) (hd : decode cc pc = .ok (.ifCond cnd off, 3)) {A B : Prop}
    (ka : A → W p l e R s m args below meth c H locs c1 s1 Q (F0 m ax Lx st)) (kb : B → W p l e R s m args below meth c H locs c1 s1 Q (F0 m (pc + 3) Lx st)) (h : jmp cnd x 0 A B) : W p l e R s m args below meth c H locs c1 s1 Q (F0 m pc Lx (.int x :: st)) := by
  cases cnd with
  | eq => exact lv_if_eq hx hb hd ht (fun z => ka (h.1 z)) (fun z => kb (h.2 z))
  | ne => exact lv_if_ne hx hb hd ht (fun z => ka (h.1 z)) (fun z => kb (h.2 z))
  | lt => exact lv_if_lt hx hb hd ht (fun z => ka (h.1 z)) (fun z => kb (h.2 z))
  | ge => exact lv_if_ge hx hb hd ht (fun z => ka (h.1 z)) (fun z => kb (h.2 z))
  | gt => exact lv_if_gt hx hb hd ht (fun z => ka (h.1 z)) (fun z => kb (h.2 z))
  | le => exact lv_if_le hx hb hd ht (fun z => ka (h.1 z)) (fun z => kb (h.2 z))
end STEP
section CALL
variable {p : Program} {l : Launch} {e : Env} {R : Room} {s : State} {m : MethodId} {args : Array Value} {below : List Frame} {meth : Method} {c : Code} {Q : State → Prop}
variable {i : Nat} {D : va_G} {cA : Nat → ClassId} {ad : Nat → Nat} {N0 b L : Nat} {xs : Nat → Int32} {t c0 s0 Km : Nat} {P : Nat → PR → PS → Prop}
theorem good_TT {ws : List Cond} (h : ∀ w ∈ ws, w ∈ TT) : GoodIn TT ws := fun w hw => ⟨h w hw, good_of_word (TT_good (h w hw))⟩
theorem wsM_in {j : Nat} (h : j ∈ mtAll) : ∀ w ∈ wsM j, w ∈ TT := fun w hw => (List.mem_cons.mp hw).elim (fun z => by rw [z]; exact in_code h) (fun z => z)
theorem wC_nil {j : Nat} (h : mH j = []) : wC j = .code (mY j) (mB j) (mL j) (mR j) := by
  unfold wC
  rw [h]
theorem wC_cons {j : Nat} (h : ¬ mH j = []) : wC j = .codeWith (mY j) (mB j) (mL j) (mR j) (mH j) := by
  unfold wC
  split
  · rename_i h9
    exact absurd h9 h
  · rfl
theorem lkW_split : ∀ {w : List (Nat × Nat × Nat × Nat)} {e : Nat} {q : Nat × Nat × Nat}, lkW w e = some q → ∃ pre suf, w = pre ++ (e, q) :: suf ∧ ∀ z ∈ pre, z.1 ≠ e
  | z :: w, e, q, h => by
    unfold lkW at h
    cases hb : Nat.beq z.1 e with
    | true =>
      rw [hb] at h
      have e1 : z.1 = e := Nat.eq_of_beq_eq_true hb
      have e2 : z.2 = q := Option.some.inj h
      exact ⟨[], w, by rw [← e1, ← e2]; rfl, fun _ h => nomatch h⟩
    | false =>
      rw [hb] at h
      obtain ⟨pre, suf, h1, h2⟩ := lkW_split h
      refine ⟨z :: pre, suf, by rw [h1]; rfl, fun y hy => ?_⟩
      rcases List.mem_cons.mp hy with rfl | hy
      · intro hz
        rw [hz] at hb
        simp at hb
      · exact h2 y hy
theorem in_lc {e : Nat} (he : e < 3) : Cond.classLink RL (ctx e) (exN e) ∈ TT := by
  have key : ∀ q ∈ ([(13, 0), (15, 1), (17, 2)] : List (Nat × Nat)), lcW q ∈ TT := fun q hq => inTT (at_tbl p_lc hq) (List.all_eq_true.mp g_all2 _ (List.mem_append_right _ (List.mem_append_right _ (List.mem_map.mpr ⟨q, hq, rfl⟩))))
  rcases (show e = 0 ∨ e = 1 ∨ e = 2 by omega) with rfl | rfl | rfl
  · exact key (13, 0) (by decide)
  · exact key (15, 1) (by decide)
  · exact key (17, 2) (by decide)
theorem okW_all {j : Nat} (h : j < 122) : okW j = true := List.all_eq_true.mp okW_a j (List.mem_range.mpr h)
theorem go_back {k k' pc nx ax : Nat} {ls : PL} {rest : List Value} {S' : PS} {r : PR} {ins : Instr} {idx : Nat} {mc : Nat} {Lx : Array Slot} {H : Heap} {locs : List Loc} {st0 : List Value} {a : Array Value}
    (hi : i < 122) (C : Cx i D cA ad N0 b L xs t c0 s0 Km p l R s m args c) (hE : En D cA ad N0 c0 s0 Km i P p l e R s m args below meth c Q)
    (hx3 : nx = pc + 3) (hown : mH i = [] ∨ (mO i = 2 ∧ pc < wt i)) (hk : k + k' ≤ Km) (hS : va_S (Ar N0) s.heap H locs) (hl : lv_has Lx (mL i) (lsr ad b t ls))
    (hr : vx_Run p l e R s m args below meth c H locs (c0 + k) (s0 + 6 * k) k' (6 * k') (F0 m pc Lx st0) (rest.map (rv ad b t)) (fun st o u => (∃ v : Option Int32, r = .inl v ∧ o = .returned (v.map Value.int)) ∧ va_P D vwCl (wld ad cA S') u.heap ∧ va_F (Ar N0) st u)
      (fun E st u => (∃ e : Nat, r = .inr e ∧ e < 3 ∧ E = exN e) ∧ va_P D vwCl (wld ad cA S') u.heap ∧ va_F (Ar N0) st u) (Ar N0))
    (h : callK i P (Go D cA ad N0 b t c0 s0 Km i p l e R s m args below meth c Q) (k + k') nx ls rest r S') :
    W p l e R s m args below meth c H locs (c0 + k) (s0 + 6 * k) Q (F0 m pc Lx st0) := by
  have e6 : c0 + k + k' = c0 + (k + k') := by omega
  have e7 : s0 + 6 * k + 6 * k' = s0 + 6 * (k + k') := by omega
  intro T hT X
  rcases hr T hT X with ⟨v, st₀, u, T', Lo, h0, X', hL, e1, e2, ⟨⟨v', hr1, hr2⟩, hP', hF⟩, st⟩ | ⟨q, st₀, u, T', Lo, E, ce, h0, X', hL, e1, e2, ⟨⟨ex, hr1, hr3, hr2⟩, hP', hF⟩, hce, hcv, hcl, st⟩
  · obtain ⟨-, -, k3⟩ := vx_keep (A0 := Ar N0) (A1 := Ar N0) (H0 := s.heap) (free := Ar N0) h0 e1 hS (fun _ _ z => z) (fun _ z => z) hL hF
    rw [e6, e7] at X'
    rw [← e1] at hP'
    subst hr1
    have hv : v = v'.map Value.int := Outcome.returned.inj hr2
    cases v' with
    | none =>
      have g : Go D cA ad N0 b t c0 s0 Km i p l e R s m args below meth c Q (k + k') nx ls rest S' := h
      subst hv
      obtain ⟨t2, a1, b1⟩ := g hk T'.heap (locs ++ Lo) Lx hP' k3 hl T' rfl X'
      rw [hx3] at a1
      exact ⟨t2, st t2 a1, b1⟩
    | some z =>
      have g : Go D cA ad N0 b t c0 s0 Km i p l e R s m args below meth c Q (k + k') nx ls (.int z :: rest) S' := h
      subst hv
      obtain ⟨t2, a1, b1⟩ := g hk T'.heap (locs ++ Lo) Lx hP' k3 hl T' rfl X'
      rw [hx3] at a1
      exact ⟨t2, st t2 a1, b1⟩
  · obtain ⟨-, -, k3⟩ := vx_keep (A0 := Ar N0) (A1 := Ar N0) (H0 := s.heap) (free := Ar N0) h0 e1 hS (fun _ _ z => z) (fun _ z => z) hL hF
    rw [e6, e7] at X'
    rw [← e1] at hP' hce
    subst hr1
    subst hr2
    have key : vx_W p l e R s m args below meth c T'.heap (locs ++ Lo) (c0 + (k + k')) (s0 + 6 * (k + k')) Q (F0 m pc Lx (rest.map (rv ad b t))) q := by
      obtain ⟨hx, hb, hml, hfc, hts, hEv, hAd, hN0, htr, htab, -, -, -, -⟩ := C
      unfold callK at h
      cases hw : lkW (wh i) ex with
      | none =>
        simp only [hw] at h
        have hmh : mH i = [] := by
          have h9 := okW_all hi
          simp only [okW, Bool.and_eq_true, decide_eq_true_eq] at h9
          rw [h9.1.1, h.1]
          rfl
        exact hE.2.2.2 (k + k') ex S' pc T'.heap (locs ++ Lo) Lx _ q ce h.2 hk hr3 hmh hP' k3 hce hcv hcl
      | some y =>
        obtain ⟨hp, x, nx'⟩ := y
        simp only [hw] at h
        have g := delL_eq h
        obtain ⟨pre, suf, hsp, hne⟩ := lkW_split hw
        have h9 := okW_all hi
        simp only [okW, Bool.and_eq_true, decide_eq_true_eq, List.all_eq_true, Bool.or_eq_true] at h9
        obtain ⟨⟨hmH, hall⟩, -⟩ := h9
        have hne0 : ¬ mH i = [] := by rw [hmH, hsp]; simp
        have hown2 := hown.resolve_left hne0
        have hfc2 : s.vm.findClass RL = some m.cls := by
          have h8 := hfc
          rw [hown2.1] at h8
          exact h8
        have hrow := hall (ex, hp, x, nx') (by rw [hsp]; exact List.mem_append_right _ List.mem_cons_self)
        have hg : (tableOf (mH i)) = (tableOf (pre.map (fun q => (0, wt i, q.2.1, ctx q.1)))) ++ (⟨0, wt i, hp, ctx ex⟩ : ExceptionTableEntry) :: tableOf (suf.map (fun q => (0, wt i, q.2.1, ctx q.1))) := by
          rw [hmH, hsp]
          simp [tableOf]
        have hcast := hEv.2.2.2.2.2.2.2.2.2.1 ex hr3
        refine vx_catch (own := RL) (name := exN ex) (E := exN ex) (ce := ce) hfc2 _ ⟨0, wt i, hp, ctx ex⟩ _ (htab.trans hg) ?_ ?_ ?_ (hts _ (in_lc hr3)) (va_Nw.use rfl hcast) hce hcv hcl ?_
        · intro z hz
          obtain ⟨z0, hz0, rfl⟩ := List.mem_map.mp hz
          obtain ⟨z1, hz1, rfl⟩ := List.mem_map.mp hz0
          have hz3 : z1.1 < 3 := (hall z1 (by rw [hsp]; exact List.mem_append_left _ hz1)).1.1
          refine Or.inr ⟨?_, exN z1.1, hts _ (in_lc hz3), hEv.2.2.2.2.2.2.2.2.2.2 ex z1.1 hr3 hz3 (fun h => hne z1 hz1 h.symm)⟩
          show ctx z1.1 ≠ 0
          rcases (show z1.1 = 0 ∨ z1.1 = 1 ∨ z1.1 = 2 by omega) with h | h | h <;> rw [h] <;> decide
        · simp [covers, hown2.2]
        · show ctx ex ≠ 0
          rcases (show ex = 0 ∨ ex = 1 ∨ ex = 2 by omega) with h | h | h <;> rw [h] <;> decide
        · obtain ⟨⟨-, hxl⟩, hdd⟩ := hrow
          have fin : ∀ (ls' : Array Slot), lv_has ls' (mL i) ((x, Value.ref q) :: (lsr ad b t ls).filter (fun q => !(q.1 == x) && !(q.1 + 1 == x && q.2.category == 2))) → lv_has ls' (mL i) (lsr ad b t (ls.filter (kpb x))) := by
            intro ls' hh
            rw [lsr_del] at hh
            exact ⟨hh.1, hh.2.1, fun q hq => hh.2.2 q (List.mem_cons_of_mem _ hq)⟩
          rcases hdd with ⟨hd, hn⟩ | ⟨⟨hd, h3⟩, hn⟩
          · refine lv_astore (i := x) hx hb hd hl hxl rfl (fun ls' hh => ?_)
            have g2 := g hk T'.heap (locs ++ Lo) ls' hP' k3 (fin ls' hh)
            have hn9 : nx' = hp + 2 := hn
            rw [hn9] at g2
            exact g2
          · subst h3
            refine lv_astore_n (i := 3) hx hb hd rfl hl hxl rfl (fun ls' hh => ?_)
            have g2 := g hk T'.heap (locs ++ Lo) ls' hP' k3 (fin ls' hh)
            have hn9 : nx' = hp + 1 := hn
            rw [hn9] at g2
            exact g2
    obtain ⟨t2, a1, b1⟩ := key T' rfl X'
    exact ⟨t2, st.trans a1, b1⟩
end CALL
end
section
section SND
variable {p : Program} {l : Launch} {e : Env} {R : Room} {s : State} {m : MethodId} {args : Array Value} {below : List Frame} {meth : Method} {c : Code} {Q : State → Prop}
variable {i : Nat} {D : va_G} {cA : Nat → ClassId} {ad : Nat → Nat} {N0 b L : Nat} {xs : Nat → Int32} {t c0 s0 Km : Nat} {P : Nat → PR → PS → Prop}
theorem ciK_eq {n : Int} {k : Int32 → Prop} (h : ciK n k) : k (ci n) := by
  cases n with
  | ofNat n => exact h
  | negSucc n =>
    cases n with
    | zero => exact h
    | succ n => exact h
theorem Ad.at {a : Nat} (h : Ad ad N0 b) (ha : a < 27) : N0 ≤ ad a := h.2.1 a ha
set_option maxHeartbeats 4000000 in
set_option maxRecDepth 100000 in
theorem go_step {k pc nx ax : Nat} {ins : Instr} {ls : PL} {st : List Value} {S : PS} (hi : i < 122) (hi0 : i ≠ 0) (hi50 : i ≠ 50) (C : Cx i D cA ad N0 b L xs t c0 s0 Km p l R s m args c) (hE : En D cA ad N0 c0 s0 Km i P p l e R s m args below meth c Q)
    (hlk : lkp (pg i) pc = some (ins, nx, ax)) (h : stp i L xs Km P (Go D cA ad N0 b t c0 s0 Km i p l e R s m args below meth c Q) k ins nx ax ls st S) :
    Go D cA ad N0 b t c0 s0 Km i p l e R s m args below meth c Q k pc ls st S := by
  intro hk H locs Lx hP hS hl
  obtain ⟨hd, hnx, hA⟩ := row_ok hi hlk
  obtain ⟨hx, hb, hml, hfc, hts, hEv, hAd, hN0, htr, htab, hRf, hRl, hRc, hRs⟩ := id C
  have hD : va_D (Ar N0) (wld ad cA S) := wld_D hAd
  have hK := hEv.1
  have hbA : ¬ Ar N0 b := Nat.not_le.mpr hAd.2.2
  cases ins with
  | iconst n =>
    simp only [okA, decide_eq_true_eq] at hA
    exact lv_iconst hx hb hd hA (by have g := (ciK_eq h) hk H locs Lx hP hS hl; rw [hnx] at g; exact g)
  | bipush n =>
    simp only [okA, decide_eq_true_eq] at hA
    exact lv_bipush hx hb hd hA (by have g := (ciK_eq h) hk H locs Lx hP hS hl; rw [hnx] at g; exact g)
  | sipush n =>
    simp only [okA, decide_eq_true_eq] at hA
    exact lv_sipush hx hb hd hA (by have g := (ciK_eq h) hk H locs Lx hP hS hl; rw [hnx] at g; exact g)
  | lconst n => exact lv_lconst hx hb hd rfl (by have g := h hk H locs Lx hP hS hl; rw [hnx] at g; exact g)
  | ldc_w idx =>
    simp only [okA, Bool.and_eq_true, decide_eq_true_eq] at hA
    have ho : s.vm.findClass RJ6 = some m.cls := by rw [hA.2] at hfc; exact hfc
    exact lv_ldcw hx hb ho (hts _ (in_kw hA.1)) hd (by have g := h hk H locs Lx hP hS hl; rw [hnx] at g; exact g)
  | iload_n j =>
    simp only [stp] at h
    split at h
    · rename_i x hj
      exact lv_iload_n hx hb hd rfl (lsr_at hl hj) (by have g := h hk H locs Lx hP hS hl; rw [hnx] at g; exact g)
    · exact h.elim
  | iload j =>
    simp only [stp] at h
    split at h
    · rename_i x hj
      exact lv_iload hx hb hd (lsr_at hl hj) (by have g := h hk H locs Lx hP hS hl; rw [hnx] at g; exact g)
    · exact h.elim
  | aload_n j =>
    simp only [stp] at h
    split at h
    · rename_i x hj
      exact lv_aload_n hx hb hd rfl (lsr_at hl hj) (by have g := h hk H locs Lx hP hS hl; rw [hnx] at g; exact g)
    · rename_i x hj
      cases x with
      | zero => exact lv_aload_n hx hb hd rfl (lsr_at hl hj) (by have g := h hk H locs Lx hP hS hl; rw [hnx] at g; exact g)
      | succ x => exact lv_aload_n hx hb hd rfl (lsr_at hl hj) (by have g := h hk H locs Lx hP hS hl; rw [hnx] at g; exact g)
    · exact h.elim
  | aload j =>
    simp only [stp] at h
    split at h
    · rename_i x hj
      exact lv_aload hx hb hd (lsr_at hl hj) (by have g := h hk H locs Lx hP hS hl; rw [hnx] at g; exact g)
    · rename_i x hj
      cases x with
      | zero => exact lv_aload hx hb hd (lsr_at hl hj) (by have g := h hk H locs Lx hP hS hl; rw [hnx] at g; exact g)
      | succ x => exact lv_aload hx hb hd (lsr_at hl hj) (by have g := h hk H locs Lx hP hS hl; rw [hnx] at g; exact g)
    · exact h.elim
  | istore_n j =>
    simp only [okA, decide_eq_true_eq] at hA
    simp only [stp] at h
    split at h
    · rename_i x r
      have g0 := delL_eq h
      refine lv_istore_n hx hb hd rfl hl hA rfl (fun Lx' hh => ?_)
      rw [lsr_del] at hh
      have g := g0 hk H locs Lx' hP hS hh
      rw [hnx] at g
      exact g
    · exact h.elim
  | istore j =>
    simp only [okA, decide_eq_true_eq] at hA
    simp only [stp] at h
    split at h
    · rename_i x r
      have g0 := delL_eq h
      refine lv_istore hx hb hd hl hA rfl (fun Lx' hh => ?_)
      rw [lsr_del] at hh
      have g := g0 hk H locs Lx' hP hS hh
      rw [hnx] at g
      exact g
    · exact h.elim
  | iinc j n =>
    simp only [okA, Bool.and_eq_true, decide_eq_true_eq] at hA
    simp only [stp] at h
    split at h
    · rename_i x hj
      have g0 := delL_eq (ciK_eq h)
      obtain ⟨kk, hkk⟩ := lsr_ix hl hj
      refine lv_iinc (v := x + ci n) hx hb hd hl hkk (by rw [hA.1]) hA.2 rfl (fun Lx' hh => ?_)
      rw [lsr_del] at hh
      have g := g0 hk H locs Lx' hP hS hh
      rw [hnx] at g
      exact g
    · exact h.elim
  | iadd =>
    simp only [stp] at h
    split at h
    · exact lv_iadd hx hb hd (by have g := h hk H locs Lx hP hS hl; rw [hnx] at g; exact g)
    · exact h.elim
  | isub =>
    simp only [stp] at h
    split at h
    · exact lv_isub hx hb hd (by have g := h hk H locs Lx hP hS hl; rw [hnx] at g; exact g)
    · exact h.elim
  | imul =>
    simp only [stp] at h
    split at h
    · exact lv_imul hx hb hd (by have g := h hk H locs Lx hP hS hl; rw [hnx] at g; exact g)
    · exact h.elim
  | iand =>
    simp only [stp] at h
    split at h
    · exact lv_iand hx hb hd (by have g := h hk H locs Lx hP hS hl; rw [hnx] at g; exact g)
    · exact h.elim
  | ior =>
    simp only [stp] at h
    split at h
    · exact lv_ior hx hb hd (by have g := h hk H locs Lx hP hS hl; rw [hnx] at g; exact g)
    · exact h.elim
  | ixor =>
    simp only [stp] at h
    split at h
    · exact lv_ixor hx hb hd (by have g := h hk H locs Lx hP hS hl; rw [hnx] at g; exact g)
    · exact h.elim
  | idiv =>
    simp only [stp] at h
    split at h
    · exact lv_idiv hx hb hd h.1 (by have g := h.2 hk H locs Lx hP hS hl; rw [hnx] at g; exact g)
    · exact h.elim
  | irem =>
    simp only [stp] at h
    split at h
    · exact lv_irem hx hb hd h.1 (by have g := h.2 hk H locs Lx hP hS hl; rw [hnx] at g; exact g)
    · exact h.elim
  | ishl =>
    simp only [stp] at h
    split at h
    · exact lv_ishl hx hb hd (by have g := h hk H locs Lx hP hS hl; rw [hnx] at g; exact g)
    · exact h.elim
  | ishr =>
    simp only [stp] at h
    split at h
    · exact lv_ishr hx hb hd (by have g := h hk H locs Lx hP hS hl; rw [hnx] at g; exact g)
    · exact h.elim
  | iushr =>
    simp only [stp] at h
    split at h
    · exact lv_iushr hx hb hd rfl (by have g := h hk H locs Lx hP hS hl; rw [hnx] at g; exact g)
    · exact h.elim
  | i2l =>
    simp only [stp] at h
    split at h
    · exact lv_i2l hx hb hd rfl (by have g := h hk H locs Lx hP hS hl; rw [hnx] at g; exact g)
    · exact h.elim
  | lcmp =>
    simp only [stp] at h
    split at h
    · exact W.lcmp hx hb hd (by have g := h hk H locs Lx hP hS hl; rw [hnx] at g; exact g)
    · exact h.elim
  | dup =>
    simp only [stp] at h
    split at h
    · rename_i v r
      split at h
      · rename_i hv
        have hv1 : v.category = 1 := Nat.eq_of_beq_eq_true hv
        exact lv_dup hx hb hd (by rw [rv_cat]; exact hv1) (by have g := h hk H locs Lx hP hS hl; rw [hnx] at g; exact g)
      · exact h.elim
    · exact h.elim
  | dup2 =>
    simp only [stp] at h
    split at h
    · rename_i v w r
      split at h
      · rename_i hv hw
        have hv1 : v.category = 1 := Nat.eq_of_beq_eq_true hv
        have hw1 : w.category = 1 := Nat.eq_of_beq_eq_true hw
        exact lv_dup2_11 hx hb hd (by rw [rv_cat]; exact hv1) (by rw [rv_cat]; exact hw1) (by have g := h hk H locs Lx hP hS hl; rw [hnx] at g; exact g)
      · exact h.elim
    · exact h.elim
  | goto off =>
    simp only [okA, decide_eq_true_eq] at hA
    exact lv_goto hx hb hd hA (h hk H locs Lx hP hS hl)
  | ifCond cnd off =>
    simp only [okA, decide_eq_true_eq] at hA
    simp only [stp] at h
    split at h
    · exact go_jmp0 (k := k) (nx := nx) (ls := ls) (S := S) hx hb hA hd (fun g => g hk H locs Lx hP hS hl) (fun g => by have g := g hk H locs Lx hP hS hl; rw [hnx] at g; exact g) h
    · exact h.elim
  | if_icmp cnd off =>
    simp only [okA, decide_eq_true_eq] at hA
    simp only [stp] at h
    split at h
    · exact go_jmp (k := k) (nx := nx) (ls := ls) (S := S) hx hb hA hd (fun g => g hk H locs Lx hP hS hl) (fun g => by have g := g hk H locs Lx hP hS hl; rw [hnx] at g; exact g) h
    · exact h.elim
  | getfield idx =>
    simp only [okA, decide_eq_true_eq] at hA
    have hlt := List.all_eq_true.mp fl_lt _ hA
    simp only [Bool.and_eq_true, decide_eq_true_eq] at hlt
    obtain ⟨ho, hk17⟩ := hlt
    have hp : plO (mO i) < 27 := by
      rcases (show mO i = 0 ∨ mO i = 1 by omega) with z | z <;> rw [z] <;> decide
    have hf := fOk_all ho hk17
    simp only [fOk, Bool.and_eq_true, decide_eq_true_eq] at hf
    simp only [stp] at h
    split at h
    · rename_i a r
      split at h
      · rename_i j ha hj
        have ha1 : a = plO (mO i) := Nat.eq_of_beq_eq_true ha
        subst ha1
        have hv := objv_at (ad := ad) (F := S.1 (plO (mO i))) ho hk17
        rw [hj] at hv
        refine va_get (T := oT (mO i)) (C := oN (mO i)) (N := 17) (ref := oN (mO i)) hx hb hts (in_lay ho) hfc hK hP (plO (mO i)) ((wld_at hp).trans (by rw [ent_obj ho])) (cl_at ho) ax hk17 (hts _ (in_fl hA)) (fun y hy => by rw [hf.1] at hy; exact hy) hv hd ?_
        have g := h hk H locs Lx hP hS hl
        rw [hnx] at g
        exact g
      · rename_i ha hj
        have ha1 : a = plO (mO i) := Nat.eq_of_beq_eq_true ha
        subst ha1
        have hv := objv_at (ad := ad) (F := S.1 (plO (mO i))) ho hk17
        rw [hj] at hv
        refine va_get (T := oT (mO i)) (C := oN (mO i)) (N := 17) (ref := oN (mO i)) hx hb hts (in_lay ho) hfc hK hP (plO (mO i)) ((wld_at hp).trans (by rw [ent_obj ho])) (cl_at ho) ax hk17 (hts _ (in_fl hA)) (fun y hy => by rw [hf.1] at hy; exact hy) hv hd ?_
        have g := h hk H locs Lx hP hS hl
        rw [hnx] at g
        exact g
      · exact h.elim
    · exact h.elim
  | putfield idx =>
    simp only [okA, Bool.and_eq_true, Bool.or_eq_true, decide_eq_true_eq] at hA
    have hlt := List.all_eq_true.mp fl_lt _ hA.1
    simp only [Bool.and_eq_true, decide_eq_true_eq] at hlt
    obtain ⟨ho, hk17⟩ := hlt
    have hfin : (oT (mO i) ax).2.2.2 = false := by
      rcases hA.2 with (z | z) | z
      · exact absurd z hi0
      · exact absurd z hi50
      · exact z
    have hp : plO (mO i) < 27 := by
      rcases (show mO i = 0 ∨ mO i = 1 by omega) with z | z <;> rw [z] <;> decide
    have hf := fOk_all ho hk17
    simp only [fOk, Bool.and_eq_true, decide_eq_true_eq] at hf
    simp only [stp] at h
    split at h
    · rename_i v a r
      split at h
      · rename_i ha hj
        have ha1 : a = plO (mO i) := Nat.eq_of_beq_eq_true ha
        subst ha1
        have hI : (oT (mO i) ax).2.2.1 = "I" := by
          have h2 := hf.2
          rw [hj] at h2
          simpa using h2
        obtain ⟨ty, hty⟩ := ty_all ho
        refine va_put (T := oT (mO i)) (C := oN (mO i)) (N := 17) (ref := oN (mO i)) (ty := .int) (v := .int v) hx hb hts (in_lay ho) ty hty (nm_all ho) hfc hK hP hD hS (plO (mO i)) ((wld_at hp).trans (by rw [ent_obj ho])) (cl_at ho) ax hk17 (hts _ (in_fl hA.1)) (fun y hy => by rw [hf.1] at hy; exact hy) hfin (by rw [hI]; decide +kernel) rfl rfl (by rw [objv_len ho]; exact hk17) hd (fun H1 locs1 hP1 _ hS1 => ?_)
        rw [set_fld ho hk17 hj] at hP1
        have g := h hk H1 locs1 Lx hP1 hS1 hl
        rw [hnx] at g
        exact g
      · exact h.elim
    · exact h.elim
  | getstatic idx =>
    simp only [okA, Bool.and_eq_true, decide_eq_true_eq] at hA
    have ho : s.vm.findClass RX0 = some m.cls := by rw [hA.2] at hfc; exact hfc
    have h0 := hA.1
    subst h0
    exact va_gets hx hb hEv.2.1 hS ho (hts _ in_f0) (fun y hy => hy) hd (by have g := h hk H locs Lx hP hS hl; rw [hnx] at g; exact g)
  | iaload =>
    simp only [stp] at h
    split at h
    · rename_i j a r
      split at h
      · rename_i n ha
        exact va_iald hx hb hK hP a 0 ((wld_at (ari_lt ha)).trans (by rw [ent_arr ha (by decide)])) rfl h.1 hd (by have g := h.2 hk H locs Lx hP hS hl; rw [hnx] at g; exact g)
      · exact h.elim
    · exact va_sld hx hb hEv.2.2.2.2.2.1 hEv.2.2.2.2.2.2.1 hbA hS h.1 hd (by have g := h.2 hk H locs Lx hP hS hl; rw [hnx] at g; exact g)
    · exact va_ti hx hb hEv.2.2.1 hS h.1 rfl hd (by have g := h.2 hk H locs Lx hP hS hl; rw [hnx] at g; exact g)
    · exact h.elim
  | baload =>
    simp only [stp] at h
    split at h
    · rename_i j a r
      split at h
      · rename_i n ha
        exact va_zald hx hb hK hP a 1 ((wld_at (ari_lt ha)).trans (by rw [ent_arr ha (by decide)])) rfl h.1 hd (by have g := h.2 hk H locs Lx hP hS hl; rw [hnx] at g; exact g)
      · exact h.elim
    · exact h.elim
  | laload =>
    simp only [stp] at h
    split at h
    · rename_i j a r
      split at h
      · rename_i n ha
        exact va_lald hx hb hK hP a 2 ((wld_at (ari_lt ha)).trans (by rw [ent_lng ha])) rfl h.1 hd (by have g := h.2 hk H locs Lx hP hS hl; rw [hnx] at g; exact g)
      · exact h.elim
    · exact h.elim
  | iastore =>
    simp only [stp] at h
    split at h
    · rename_i x j a r
      split at h
      · rename_i n ha
        refine va_iast hx hb hK hP hD hS a 0 ((wld_at (ari_lt ha)).trans (by rw [ent_arr ha (by decide)])) rfl h.1 hd (fun H1 locs1 hP1 _ hS1 => ?_)
        rw [set_arr ha (by decide)] at hP1
        have g := h.2 hk H1 locs1 Lx hP1 hS1 hl
        rw [hnx] at g
        exact g
      · exact h.elim
    · exact h.elim
  | bastore =>
    simp only [stp] at h
    split at h
    · rename_i x j a r
      split at h
      · rename_i n ha
        refine va_zast hx hb hK hP hD hS a 1 ((wld_at (ari_lt ha)).trans (by rw [ent_arr ha (by decide)])) rfl h.1 hd (fun H1 locs1 hP1 _ hS1 => ?_)
        rw [set_arr ha (by decide)] at hP1
        have g := h.2 hk H1 locs1 Lx hP1 hS1 hl
        rw [hnx] at g
        exact g
      · exact h.elim
    · exact h.elim
  | lastore =>
    simp only [stp] at h
    split at h
    · rename_i x j a r
      split at h
      · rename_i n ha
        refine va_last hx hb hK hP hD hS a 2 ((wld_at (ari_lt ha)).trans (by rw [ent_lng ha])) rfl h.1 hd (fun H1 locs1 hP1 _ hS1 => ?_)
        rw [set_lng ha] at hP1
        have g := h.2 hk H1 locs1 Lx hP1 hS1 hl
        rw [hnx] at g
        exact g
      · exact h.elim
    · exact h.elim
  | arraylength =>
    simp only [stp] at h
    split at h
    · rename_i a r
      split at h
      · rename_i t0 n ha
        by_cases ht : t0 = 2
        · subst ht
          exact va_alen hx hb hK hP a 2 ((wld_at (ari_lt ha)).trans (by rw [ent_lng ha])) rfl rfl hd (by have g := h hk H locs Lx hP hS hl; rw [hnx] at g; exact g)
        · have hq : ∃ ty, ([(cA 0, FieldType.int), (cA 1, FieldType.boolean), (cA 2, FieldType.long)] : List (ClassId × FieldType))[t0]? = some (cA t0, ty) := by
            have key : ∀ x : Nat, x < 27 → (match ari.getD x none with | some (y, _) => decide (y < 3) | none => true) = true := by decide
            have k1 := key a (ari_lt ha)
            rw [ha] at k1
            simp only [decide_eq_true_eq] at k1
            rcases (show t0 = 0 ∨ t0 = 1 by omega) with rfl | rfl
            · exact ⟨_, rfl⟩
            · exact ⟨_, rfl⟩
          obtain ⟨ty, hty⟩ := hq
          exact va_alen hx hb hK hP a t0 ((wld_at (ari_lt ha)).trans (by rw [ent_arr ha ht])) hty rfl hd (by have g := h hk H locs Lx hP hS hl; rw [hnx] at g; exact g)
      · exact h.elim
    · exact va_slen hx hb hEv.2.2.2.2.2.1 hEv.2.2.2.2.2.2.1 hbA hS hd (by have g := h hk H locs Lx hP hS hl; rw [hnx] at g; exact g)
    · exact va_tlen hx hb hEv.2.2.1 hS rfl hd (by have g := h hk H locs Lx hP hS hl; rw [hnx] at g; exact g)
    · exact h.elim
  | tableswitch dflt lo hi offs =>
    simp only [stp] at h
    split at h
    · rename_i x r
      obtain ⟨h1, h2, h3, tg0, h4⟩ := h
      have hpc : (nx : Int) - 105 = (pc : Int) := by rw [hnx]; show ((pc + 105 : Nat) : Int) - 105 = (pc : Int); omega
      rw [hpc] at h1 h2 h3 h4
      by_cases hlo : x.toInt < lo
      · exact lv_tableOut hx hb hd (Or.inl hlo) h4 (h2 tg0 (Or.inl hlo) h4 hk H locs Lx hP hS hl)
      · by_cases hhi : hi < x.toInt
        · exact lv_tableOut hx hb hd (Or.inr hhi) h4 (h2 tg0 (Or.inr hhi) h4 hk H locs Lx hP hS hl)
        · obtain ⟨h5, tg, h6⟩ := h3 (x.toInt - lo).toNat (by omega)
          obtain ⟨off, ho⟩ := Option.isSome_iff_exists.mp h5
          rw [ho] at h6
          exact lv_tableIn hx hb hd hlo hhi ho h6 (h1 _ off tg hlo hhi rfl ho h6 hk H locs Lx hP hS hl)
    · exact h.elim
  | invokevirtual idx =>
    simp only [okA, Bool.and_eq_true, Bool.or_eq_true, decide_eq_true_eq, room2] at hA
    obtain ⟨⟨⟨⟨⟨hml2, hst⟩, hmh⟩, hrm⟩, hall⟩, hown⟩ := hA
    have hmt := mt_ok hall
    simp only [mtOk, hst, Bool.and_eq_true, decide_eq_true_eq] at hmt
    obtain ⟨⟨⟨⟨⟨⟨hpl, ho4⟩, hcls⟩, hn1⟩, hn2⟩, hdesc⟩, hmI⟩ := hmt
    obtain ⟨as, rest, hlen, hst2, h3⟩ := popn_eq h
    simp only [List.append_nil] at h3
    split at h3
    · rename_i a As hcb
      obtain ⟨ha, k', r, S', hrun, hkk, hcall⟩ := h3
      have ho2 : mO ax < 2 := by
        have key : mtI.all (fun j => decide (mO j < 2)) = true := by decide +kernel
        exact of_decide_eq_true (List.all_eq_true.mp key ax hmI)
      have hp : plO (mO ax) < 27 := by
        rcases (show mO ax = 0 ∨ mO ax = 1 by omega) with z | z <;> rw [z] <;> decide
      subst ha
      have hown9 : mH i = [] ∨ (mO i = 2 ∧ pc < wt i) := by
        rcases hown with z | z
        · exact Or.inl z
        · by_cases hz : mH i = []
          · exact Or.inl hz
          · refine Or.inr ⟨?_, z⟩
            have key : (List.range 122).all (fun j => decide (mH j = []) || decide (mO j = 2)) = true := by decide +kernel
            have k1 := List.all_eq_true.mp key i (List.mem_range.mpr hi)
            simp only [Bool.or_eq_true, decide_eq_true_eq] at k1
            exact k1.resolve_left hz
      refine go_back (ins := .invokevirtual idx) (idx := idx) (mc := 0) (ax := ax) (k' := k') (r := r) (S' := S') (nx := nx) (ls := ls) (rest := rest) (a := #[]) hi C hE (hnx.trans rfl) hown9 hkk hS hl ?_ hcall
      have hG : GoodIn TT (wsV (oN (mO i)) idx (mY ax).cls (mY ax) (wsM ax)) := by
        refine good_TT fun w hw => ?_
        unfold wsV at hw
        rcases List.mem_append.mp hw with hw | hw
        · simp only [List.mem_cons, List.not_mem_nil, or_false] at hw
          rcases hw with rfl | rfl | rfl | rfl
          · exact in_ml hml2
          · exact in_ins hmI
          · exact in_sel hmI
          · exact in_ini hall
        · exact wsM_in hall w hw
      have hcw := cwV (R := R) (s := s) (args := args) (ws := wsM ax) (ws' := TT) (rm := rm ax k') (mc := k') (ms := 6 * k') (bytes := mB ax) (maxL := mL ax) (ret := mR ax) (mN ax) hts hG (by unfold wsM; rw [wC_nil hmh]) rfl rfl ⟨rfl, hn1, hn2, hdesc⟩ (by
        refine ⟨?_, ?_⟩
        · show mF ax + 1 ≤ R.frames
          rw [hRf]; exact hrm.1
        · show 8 + (mL ax + 11) + mLo ax ≤ R.locals
          rw [hRl]; exact hrm.2)
      have hstk : (st.map (rv ad b t)) = (As.map (rv ad b t)).reverse ++ .ref (ad (plO (mO ax))) :: rest.map (rv ad b t) := by
        rw [hst2, List.map_append, ← List.map_reverse]
        simp [rv]
      refine vx_runV (g := F0 m pc Lx (st.map (rv ad b t))) (As := As.map (rv ad b t)) (rest := rest.map (rv ad b t)) (H := H) (locs := locs) (cells := c0 + k) (slots := s0 + 6 * k) (meth := meth) ⟨hx, hb, hml, hfc, hts⟩ (hrun l D cA ad N0 b L xs t htr hAd) hcw ⟨?_, ?_, ?_⟩ rfl ?_ hl.1 hstk (lv_room ?_) hd ⟨by omega, by omega⟩
      · intro a0 U g mk hq
        exact ⟨hq.1, hq.2.1, hq.2.2.1, hq.2.2.2.go hAd.2.2 (State.WarmedH.refl U) (Nat.le_refl _) (fun _ _ _ => rfl)⟩
      · have hr2 := va_recv hK hP (cl_at ho2) ((wld_at hp).trans (by rw [ent_obj ho2]))
        rw [hcls]
        exact hr2
      · intro U hU hW
        refine ⟨?_, by rw [hU]; exact hP, by rw [hU]; exact Nat.le_trans hN0 hS.1, by rw [hU]; exact hEv.go hAd.2.2 hW hS.1 hS.2.1⟩
        simp [rv]
      · rw [List.length_map]
        have := hlen
        simp at this
        exact this
      · have : ((rest.map (rv ad b t)).map fun v => v.category).sum = catS rest := by
          unfold catS
          rw [List.map_map]
          congr 1
          apply List.map_congr_left
          intro v _
          exact rv_cat ad b t v
        rw [this]
        exact Nat.le_of_ble_eq_true hcb
    · exact h3.elim
  | invokestatic idx =>
    simp only [okA, Bool.and_eq_true, Bool.or_eq_true, decide_eq_true_eq, room2] at hA
    obtain ⟨⟨⟨⟨hml2, hst⟩, hrm⟩, hall⟩, hown⟩ := hA
    have hmt := mt_ok hall
    simp only [mtOk, hst, Bool.and_eq_true, decide_eq_true_eq] at hmt
    obtain ⟨⟨⟨⟨⟨⟨hpl, ho4⟩, hcls⟩, hn1⟩, hn2⟩, hdesc⟩, hmS⟩ := hmt
    obtain ⟨as, rest, hlen, hst2, h3⟩ := popn_eq h
    simp only [List.append_nil] at h3
    split at h3
    · rename_i hcb
      obtain ⟨k', r, S', hrun, hkk, hcall⟩ := h3
      refine go_back (ins := .invokestatic idx) (idx := idx) (mc := 0) (ax := ax) (k' := k') (r := r) (S' := S') (nx := nx) (ls := ls) (rest := rest) (a := #[]) hi C hE (hnx.trans rfl) (Or.inl hown) hkk hS hl ?_ hcall
      have hG : GoodIn TT (va_wsS (oN (mO i)) idx (mY ax) (wsM ax)) := by
        refine good_TT fun w hw => ?_
        unfold va_wsS at hw
        rcases List.mem_append.mp hw with hw | hw
        · simp only [List.mem_cons, List.not_mem_nil, or_false] at hw
          rcases hw with rfl | rfl | rfl
          · exact in_ml hml2
          · exact in_sta hmS
          · exact in_ini hall
        · exact wsM_in hall w hw
      have hR9 : (rm ax k').frames + 1 ≤ R.frames ∧ 8 + (mL ax + 11) + (rm ax k').locals ≤ R.locals := by
        refine ⟨?_, ?_⟩
        · show mF ax + 1 ≤ R.frames
          rw [hRf]; exact hrm.1
        · show 8 + (mL ax + 11) + mLo ax ≤ R.locals
          rw [hRl]; exact hrm.2
      have hstk : (st.map (rv ad b t)) = (as.map (rv ad b t)).reverse ++ rest.map (rv ad b t) := by
        rw [hst2, List.map_append, ← List.map_reverse]
      have hpS : PreS s H (fun a U => a = (as.map (rv ad b t)).toArray ∧ va_P D vwCl (wld ad cA S) U.heap ∧ N0 ≤ U.heap.size ∧ Ev D cA N0 b L xs t U U.heap) (as.map (rv ad b t)) := by
        refine ⟨?_, ?_⟩
        · intro a0 U g mk hq
          exact ⟨hq.1, hq.2.1, hq.2.2.1, hq.2.2.2.go hAd.2.2 (State.WarmedH.refl U) (Nat.le_refl _) (fun _ _ _ => rfl)⟩
        · intro U hU hW
          exact ⟨rfl, by rw [hU]; exact hP, by rw [hU]; exact Nat.le_trans hN0 hS.1, by rw [hU]; exact hEv.go hAd.2.2 hW hS.1 hS.2.1⟩
      have hcat : ((rest.map (rv ad b t)).map fun v => v.category).sum ≤ 8 := by
        have : ((rest.map (rv ad b t)).map fun v => v.category).sum = catS rest := by
          unfold catS
          rw [List.map_map]
          congr 1
          apply List.map_congr_left
          intro v _
          exact rv_cat ad b t v
        rw [this]
        exact Nat.le_of_ble_eq_true hcb
      have hlen2 : (as.map (rv ad b t)).length = mN ax := by rw [List.length_map]; exact hlen
      by_cases hmh : mH ax = []
      · exact vx_runS (g := F0 m pc Lx (st.map (rv ad b t))) (As := as.map (rv ad b t)) (rest := rest.map (rv ad b t)) (H := H) (locs := locs) (cells := c0 + k) (slots := s0 + 6 * k) (meth := meth) ⟨hx, hb, hml, hfc, hts⟩ (hrun l D cA ad N0 b L xs t htr hAd) (va_cwS (R := R) (s := s) (args := args) (ws := wsM ax) (ws' := TT) (rm := rm ax k') (mc := k') (ms := 6 * k') (bytes := mB ax) (maxL := mL ax) (ret := mR ax) (mN ax) hts hG (by unfold wsM; rw [wC_nil hmh]) rfl rfl ⟨hn1, hn2, hdesc⟩ hR9) hpS rfl hlen2 hl.1 hstk (lv_room hcat) hd ⟨by omega, by omega⟩
      · exact vx_runSX (hh := mH ax) (g := F0 m pc Lx (st.map (rv ad b t))) (As := as.map (rv ad b t)) (rest := rest.map (rv ad b t)) (H := H) (locs := locs) (cells := c0 + k) (slots := s0 + 6 * k) (meth := meth) ⟨hx, hb, hml, hfc, hts⟩ (hrun l D cA ad N0 b L xs t htr hAd) (vx_cwSW (R := R) (s := s) (args := args) (ws := wsM ax) (ws' := TT) (rm := rm ax k') (mc := k') (ms := 6 * k') (bytes := mB ax) (maxL := mL ax) (ret := mR ax) (mN ax) hts hG (by unfold wsM; rw [wC_cons hmh]) rfl rfl ⟨hn1, hn2, hdesc⟩ hR9) hpS rfl hlen2 hl.1 hstk (lv_room hcat) hd ⟨by omega, by omega⟩
    · exact h3.elim
  | new ik =>
    simp only [stp] at h
    obtain ⟨ho, hcs, hk1, hPP⟩ := h
    simp only [okA, ho, Bool.or_eq_true, Bool.and_eq_true, decide_eq_true_eq, Bool.not_eq_true', decide_eq_false_iff_not, not_true, false_or, decide_true, Bool.not_true, Bool.false_eq_true] at hA
    obtain ⟨⟨⟨hN, hf6⟩, hl9⟩, hmh⟩ := hA
    have hcs2 : catS (st.map (rv ad b t)) ≤ 8 := by
      have : catS (st.map (rv ad b t)) = catS st := by
        unfold catS
        rw [List.map_map]
        congr 1
        apply List.map_congr_left
        intro v _
        exact rv_cat ad b t v
      rw [this]
      exact Nat.le_of_ble_eq_true hcs
    exact hE.2.2.1 k ax S pc ik H locs Lx _ hPP hk1 ho hcs2 hl.1 hd hN hf6 hl9 hmh hP hS
  | ireturn =>
    simp only [stp] at h
    split at h
    · exact hE.1 k _ S pc H locs Lx h.2 hk h.1 hd hP hS
    · exact h.elim
  | return_ =>
    simp only [stp] at h
    split at h
    · exact hE.2.1 k S pc H locs Lx h.2 hk h.1 hd hP hS
    · exact h.elim
  | _ => exact False.elim h
end SND
end
section
theorem args_map (ad : Nat → Nat) (b t : Nat) : ∀ (j : Nat) (vs : List Value), lv_args j (vs.map (rv ad b t)) = lsr ad b t (lv_args j vs)
  | _, [] => rfl
  | j, v :: vs => by
    have ih := args_map ad b t (if v.category = 2 then j + 2 else j + 1) vs
    simp only [List.map_cons, lv_args, rv_cat] at ih ⊢
    rw [ih]
theorem sl_len : ∀ (vs : List Value), (lg_sl vs).length = (vs.map fun v => v.category).sum
  | [] => rfl
  | v :: vs => by
    have ih := sl_len vs
    unfold lg_sl at ih ⊢
    rw [List.flatMap_cons, List.length_append, List.map_cons, List.sum_cons, ih]
    rcases lv_cat v with h | h <;> simp [h]
theorem sl_at {q : Nat × Nat × Nat × Nat × String} (h : q ∈ SLs) : q.2.2.2.1 < 3 ∧ (∀ w ∈ slA (q.2.2.1, q.2.2.2.1), goodWord w = true → w ∈ TT) ∧ (slA (q.2.2.1, q.2.2.2.1)).all (fun w => goodWord w || decide (w ∈ (Cond.castable (exN q.2.2.2.1) (exN q.2.2.2.1) :: bwN.map Cond.declares))) = true ∧ (Cond.classLink RX0 q.1 (exN q.2.2.2.1) :: Cond.initialized (exN q.2.2.2.1) :: slA (q.2.2.1, q.2.2.2.1)).all vx_ot = true ∧ Cond.classLink RX0 q.1 (exN q.2.2.2.1) ∈ TT ∧ Cond.initialized (exN q.2.2.2.1) ∈ TT := by
  have hg : ∀ {ic e : Nat} {ps : List Nat}, ((slA (ic, e)).filter goodWord).map some = ps.map (fun j => lw_tbl[j]?) → ∀ w ∈ slA (ic, e), goodWord w = true → w ∈ TT := fun hp w hw hgw => inTT (tbl_of hp (List.mem_filter.mpr ⟨hw, hgw⟩)) hgw
  have hxc : ∀ {q : Nat × Nat}, q ∈ ([(86, 2), (150, 1), (155, 0)] : List (Nat × Nat)) → xcW q ∈ TT := fun {q} hq => by
    have hq2 : q ∈ ([(86, 2), (150, 1), (155, 0)] : List (Nat × Nat)) := hq
    exact inTT (at_tbl p_xc hq2) (List.all_eq_true.mp g_all2 _ (List.mem_append_left _ (List.mem_map.mpr ⟨q, hq2, rfl⟩)))
  have hxi : ∀ {e : Nat}, e < 3 → xiW e ∈ TT := fun {e} he => by
    have hq2 : e ∈ ([0, 1, 2] : List Nat) := by
      rcases (show e = 0 ∨ e = 1 ∨ e = 2 by omega) with rfl | rfl | rfl <;> decide
    exact inTT (at_tbl p_xi hq2) (List.all_eq_true.mp g_all2 _ (List.mem_append_right _ (List.mem_append_left _ (List.mem_map.mpr ⟨e, hq2, rfl⟩))))
  have key : SLs.all (fun q => (decide (q.2.2.1 = 90) && decide (q.2.2.2.1 = 2) && decide (q.1 = 86)) || (decide (q.2.2.1 = 154) && decide (q.2.2.2.1 = 1) && decide (q.1 = 150)) || (decide (q.2.2.1 = 159) && decide (q.2.2.2.1 = 0) && decide (q.1 = 155))) = true := by decide +kernel
  have k1 := List.all_eq_true.mp key q h
  simp only [Bool.or_eq_true, Bool.and_eq_true, decide_eq_true_eq] at k1
  obtain ⟨a1, a2, a3, a4, a5⟩ := q
  simp only at k1 ⊢
  rcases k1 with (⟨⟨rfl, rfl⟩, rfl⟩ | ⟨⟨rfl, rfl⟩, rfl⟩) | ⟨⟨rfl, rfl⟩, rfl⟩
  · exact ⟨by decide, hg p_at90, b_at90, v_at90, hxc (q := (86, 2)) (by decide), hxi (e := 2) (by decide)⟩
  · exact ⟨by decide, hg p_at154, b_at154, v_at154, hxc (q := (150, 1)) (by decide), hxi (e := 1) (by decide)⟩
  · exact ⟨by decide, hg p_at159, b_at159, v_at159, hxc (q := (155, 0)) (by decide), hxi (e := 0) (by decide)⟩
section RUN
variable {p : Program} {l : Launch} {e : Env} {s : State} {m : MethodId} {args : Array Value} {below : List Frame} {meth : Method} {c : Code}
variable {i : Nat} {D : va_G} {cA : Nat → ClassId} {ad : Nat → Nat} {N0 b L : Nat} {xs : Nat → Int32} {t K : Nat}
theorem wld_kept {S : PS} {H H1 : Heap} (h : va_P D vwCl (wld ad cA S) H) (hq : ∀ q : Nat, q < H.size → H1[q]? = H[q]?) : va_P D vwCl (wld ad cA S) H1 := va_P.kept h (fun k q hk => hq q.1 (h k q hk).lt)
set_option maxHeartbeats 4000000 in
set_option maxRecDepth 100000 in
theorem en_run {r : PR} {S' : PS} (C : Cx i D cA ad N0 b L xs t 0 0 K p l (rm i K) s m args c) (hrt : meth.sig.returnType = mR i) (hlk : meth.locks = false) :
    En D cA ad N0 0 0 K i (fun _ r' S'' => r' = r ∧ S'' = S') p l e (rm i K) s m args below meth c
      (vx_MQ below (fun _ st o u => (∃ v : Option Int32, r = .inl v ∧ o = .returned (v.map Value.int)) ∧ va_P D vwCl (wld ad cA S') u.heap ∧ va_F (Ar N0) st u)
        (fun E st u => (∃ e : Nat, r = .inr e ∧ e < 3 ∧ E = exN e) ∧ va_P D vwCl (wld ad cA S') u.heap ∧ va_F (Ar N0) st u) args s K (6 * K) (Ar N0)) := by
  obtain ⟨hx, hb, hml, hfc, hts, hEv, hAd, hN0, htr, htab, -, -, -, -⟩ := C
  refine ⟨?_, ?_, ?_, ?_⟩
  · intro k v S pc H locs Lx hPP hk hn hd hP hS
    obtain ⟨rfl, rfl⟩ := hPP
    cases hty : mR i with
    | none => rw [hty] at hn; exact hn.elim
    | some ty =>
      rw [hty] at hn
      refine W.widen (k := K) (n := 6 * K) (by omega) (by omega) (vx_ret (W.zret (ty := ty) hx hb (hrt.trans hty) hn ?_ hS.2.2 hd hlk))
      intro u hu _
      exact ⟨⟨some v, rfl, rfl⟩, by rw [hu]; exact hP, va_S.F hS hu⟩
  · intro k S pc H locs Lx hPP hk hn hd hP hS
    obtain ⟨rfl, rfl⟩ := hPP
    refine W.widen (k := K) (n := 6 * K) (by omega) (by omega) (vx_ret (W.vret hx hb (hrt.trans hn) ?_ hS.2.2 hd hlk))
    intro u hu _
    exact ⟨⟨none, rfl, rfl⟩, by rw [hu]; exact hP, va_S.F hS hu⟩
  · intro k ex S pc ik H locs Lx rest hPP hk ho hcs hsz hd hN hf6 hl9 hmh hP hS
    obtain ⟨rfl, rfl⟩ := hPP
    unfold okN at hN
    split at hN
    · rename_i is n1 ic n2 h4 h6
      simp only [Bool.and_eq_true, decide_eq_true_eq, List.any_eq_true] at hN
      obtain ⟨⟨⟨⟨hn1, hn2⟩, hd3⟩, hd9⟩, q, hq, ⟨⟨hq1, hq2⟩, hq3⟩, hq4⟩ := hN
      subst hn1
      subst hn2
      obtain ⟨a1, a2, a3, a4, tx⟩ := q
      simp only at hq1 hq2 hq3 hq4
      subst hq1
      subst hq2
      subst hq3
      subst hq4
      obtain ⟨he3, hg1, hg2, hg3, hcl1, hcl2⟩ := sl_at hq
      simp only at he3 hg1 hg2 hg3 hcl1 hcl2
      obtain ⟨sa, hsa⟩ := hEv.2.2.2.2.2.2.2.1 _ hq
      have hat : ∀ w ∈ vx_atS RX0 a3 (exN a4) exU, w.before args s = true := by
        intro w hw
        by_cases hgw : goodWord w = true
        · exact hts _ (hg1 w hw hgw)
        · have h1 := List.all_eq_true.mp hg2 w hw
          simp only [Bool.or_eq_true, decide_eq_true_eq] at h1
          rcases List.mem_cons.mp (h1.resolve_left hgw) with rfl | h2
          · exact va_Nw.use rfl (hEv.2.2.2.2.2.2.2.2.2.1 a4 he3)
          · obtain ⟨x, hx1, rfl⟩ := List.mem_map.mp h2
            exact va_Nw.use rfl (hEv.2.2.2.2.2.2.2.2.1 x hx1)
      have ho2 : s.vm.findClass RX0 = some m.cls := by rw [ho] at hfc; exact hfc
      have hfit : Bundle.fit (exN a4) = true := by
        rcases (show a4 = 0 ∨ a4 = 1 ∨ a4 = 2 by omega) with rfl | rfl | rfl <;> decide +kernel
      have hnms : ∀ n ∈ exU, Bundle.fit n = true := by
        have : exU.all Bundle.fit = true := by decide +kernel
        exact fun n hn => List.all_eq_true.mp this n hn
      refine vx_throwS (cls := exN a4) (names := exU) (ik := a1) (is := a2) (ic := a3) (text := tx) (sa := sa) (A := Ar N0) hx hb htr ho2 hfit hnms (hts _ hcl1) (hts _ hcl2) hsa hat (fun w hw => List.all_eq_true.mp hg3 w hw) hEv.2.2.2.1 hEv.2.2.2.2.1 hS (by rw [hsz, hml]) hd hd3 h4 h6 hd9 ?_ ?_ ?_ ?_ ?_ hlk ?_ hS.2.2 ?_ ?_
      · intro x hx9
        rw [htab, hmh] at hx9
        cases hx9
      · show 2 + 3 < mF i
        omega
      · show (rest.map fun v => v.category).sum + (13 * (2 + 1) + 43) ≤ mLo i
        have : catS rest ≤ 8 := hcs
        unfold catS at this
        omega
      · show 0 + k + 1 ≤ K
        omega
      · show 0 + 6 * k + 6 ≤ 6 * K
        omega
      · intro u _ hz hq9
        refine ⟨⟨a4, rfl, he3, rfl⟩, wld_kept hP hq9, Nat.le_trans hS.1 hz, fun q9 h1 h2 => ?_⟩
        rw [hq9 q9 (Nat.lt_of_lt_of_le h1 hS.1)]
        exact hS.2.1 q9 h1 h2
      · omega
      · omega
    · cases hN
  · intro k ex S pc H locs Lx rest q ce hPP hk he3 hmh hP hS hce hcv hcl
    obtain ⟨rfl, rfl⟩ := hPP
    refine vx_out ?_ hlk hce hcv hcl ?_ hS.2.2 (by omega) (by omega)
    · intro x hx9
      rw [htab, hmh] at hx9
      cases hx9
    · intro u hu _
      exact ⟨⟨ex, rfl, he3, rfl⟩, by rw [hu]; exact hP, va_S.F hS hu⟩
end RUN
def Cl (i L : Nat) (xs : Nat → Int32) (K : Nat) (P : Nat → PR → PS → Prop) (G : KT) : Prop :=
  (∀ (k pc : Nat) (q : Instr × Nat × Nat) (ls : PL) (st : List Value) (S : PS), lkp (pg i) pc = some q → stp i L xs K P G k q.1 q.2.1 q.2.2 ls st S → G k pc ls st S) ∧
  (∀ (k pc : Nat) (ls ls' : PL) (st : List Value) (S : PS), (∀ q ∈ ls', q ∈ ls) → G k pc ls' st S → G k pc ls st S)
set_option maxHeartbeats 4000000 in
set_option maxRecDepth 100000 in
theorem run_of {K i : Nat} {as : List Value} {S S' : PS} {r : PR} (hi : i ∈ mtAll) (hc : Nat.ble (catS as) (mL i) = true)
    (h : ∀ (L : Nat) (xs : Nat → Int32) (G : KT), Cl i L xs K (fun _ r' S'' => r' = r ∧ S'' = S') G → G 0 0 (lv_args 0 as) [] S) : Run K i as S r S' := by
  intro l D cA ad N0 b L xs t htr hAd
  have hmt := mt_ok hi
  simp only [mtOk, Bool.and_eq_true, decide_eq_true_eq] at hmt
  obtain ⟨⟨⟨⟨⟨⟨hpl, ho4⟩, hcls⟩, hn1⟩, hn2⟩, hdesc⟩, -⟩ := hmt
  have hi122 : i < 122 ∧ i ≠ 0 ∧ i ≠ 50 := by
    have key : mtAll.all (fun j => decide (j < 122) && decide (j ≠ 0) && decide (j ≠ 50)) = true := by decide +kernel
    have k1 := List.all_eq_true.mp key i hi
    simp only [Bool.and_eq_true, decide_eq_true_eq] at k1
    exact ⟨k1.1.1, k1.1.2, k1.2⟩
  have body : ∀ (p : Program) (e : Env) (s : State) (m : MethodId) (args : Array Value) (below : List Frame) (meth : Method) (c : Code), p.tables.exec = Jvm.exec → c.code = mB i → c.maxLocals = mL i → s.vm.findClass (mY i).cls = some m.cls → (∀ w ∈ wsM i, w.before args s = true) → meth.sig.returnType = mR i → meth.locks = false → c.exceptionTable.toList = tableOf (mH i) →
      (args = (as.map (rv ad b t)).toArray ∧ va_P D vwCl (wld ad cA S) s.heap ∧ N0 ≤ s.heap.size ∧ Ev D cA N0 b L xs t s s.heap) →
      W p l e (rm i K) s m args below meth c s.heap [] 0 0 (vx_MQ below (fun _ st o u => (∃ v : Option Int32, r = .inl v ∧ o = .returned (v.map Value.int)) ∧ va_P D vwCl (wld ad cA S') u.heap ∧ va_F (Ar N0) st u)
        (fun E st u => (∃ e : Nat, r = .inr e ∧ e < 3 ∧ E = exN e) ∧ va_P D vwCl (wld ad cA S') u.heap ∧ va_F (Ar N0) st u) args s K (6 * K) (Ar N0)) (entryFrame m args (mL i)) := by
    intro p e s m args below meth c hx hb hml hfc hts hrt hlk htab hPc
    obtain ⟨rfl, hP, hN0, hEv⟩ := hPc
    have C : Cx i D cA ad N0 b L xs t 0 0 K p l (rm i K) s m (as.map (rv ad b t)).toArray c := ⟨hx, hb, hml, by rw [← hcls]; exact hfc, fun w hw => hts w (List.mem_cons_of_mem _ hw), hEv, hAd, hN0, htr, htab, rfl, rfl, by show 0 + K ≤ K; omega, by show 0 + 6 * K ≤ 6 * K; omega⟩
    have hE := en_run (e := e) (below := below) (r := r) (S' := S') C hrt hlk
    have g := h L xs _ ⟨fun k pc q ls st S hq hs => go_step hi122.1 hi122.2.1 hi122.2.2 C hE hq hs, fun k pc ls ls' st S hs g => go_weak hs g⟩
    rw [lg_entry_eq]
    have hle : (lg_sl (as.map (rv ad b t))).length ≤ mL i := by
      rw [sl_len, List.map_map]
      have : (as.map ((fun v : Value => v.category) ∘ rv ad b t)) = as.map (fun v => v.category) := List.map_congr_left (fun v _ => rv_cat ad b t v)
      rw [this]
      exact Nat.le_of_ble_eq_true hc
    have hl := lv_entry (as.map (rv ad b t)) hle
    rw [args_map] at hl
    exact g (Nat.zero_le _) s.heap [] _ hP va_S.rf hl
  by_cases hmh : mH i = []
  · refine vx_ofW (cc := mB i) (maxL := mL i) (ret := mR i) (ws' := TT) hpl (by unfold wsM; rw [wC_nil hmh]) ?_
    intro p e s m args below meth c s₁ B hml ht hPc
    refine body p e s m args below meth c B.exec B.bytes hml (findClass_of_methodNamed B.named) (atoms_spec (ws := wsM i) B.pre) B.returns B.notSynchronized ?_ hPc
    rw [hmh]
    cases hq : c.exceptionTable.toList with
    | nil => rfl
    | cons x y => exact absurd (ht x (by rw [hq]; exact List.mem_cons_self)) id
  · refine vx_ofWH (cc := mB i) (maxL := mL i) (ret := mR i) (hh := mH i) (ws' := TT) hpl (by unfold wsM; rw [wC_cons hmh]) ?_
    intro p e s m args below meth c s₁ B hml hPc
    have hts := atoms_spec (ws := wsM i) B.pre
    refine body p e s m args below meth c B.exec B.bytes hml (findClass_of_methodNamed B.named) hts B.returns B.notSynchronized ?_ hPc
    exact vx_table (x := mY i) B (hts _ (by unfold wsM; rw [wC_cons hmh]; exact List.mem_cons_self))
end
section
def bi (p : Prop) [Decidable p] : Int32 := if p then nI 1 else nI 0
theorem bi_t {p : Prop} [Decidable p] (h : p) : bi p = nI 1 := if_pos h
theorem bi_f {p : Prop} [Decidable p] (h : ¬ p) : bi p = nI 0 := if_neg h
theorem bi_0 {p : Prop} [Decidable p] : bi p = 0 ↔ ¬ p := by
  unfold bi
  split
  · rename_i h
    exact ⟨fun z => absurd z (by decide), fun z => absurd h z⟩
  · rename_i h
    exact ⟨fun _ => h, fun _ => rfl⟩
theorem bi_n {p : Prop} [Decidable p] : ¬ bi p = 0 ↔ p := by
  rw [bi_0]
  exact Decidable.not_not
theorem bi_nrw {p : Prop} [Decidable p] : narrow .boolean (.int (bi p)) = .int (bi p) := by
  unfold bi
  split <;> rfl
theorem cx {i : Nat} {P : Nat → PR → PS → Prop} {K : KT} {k k' Km nx ax : Nat} {as rest : List Value} {ls : PL} {S S' : PS} {r : PR} (h : Run k' ax as S r S') (hk : Nat.ble (k + k') Km = true) (g : callK i P K (k + k') nx ls rest r S') : ∃ (k' : Nat) (r : PR) (S' : PS), Run k' ax as S r S' ∧ k + k' ≤ Km ∧ callK i P K (k + k') nx ls rest r S' := ⟨k', r, S', h, Nat.le_of_ble_eq_true hk, g⟩
def allIn : PL → PL → Prop
  | [], _ => True
  | q :: l, ls => match lkL ls q.1, q.2 with
    | some (.int x), .int y => x = y ∧ allIn l ls
    | some (.ref x), .ref y => x = y ∧ allIn l ls
    | some (.retAddr x), .retAddr y => x = y ∧ allIn l ls
    | _, _ => False
theorem allIn_mem : ∀ {l ls : PL}, allIn l ls → ∀ q ∈ l, q ∈ ls
  | x :: l, ls, h, q, hq => by
    have key : lkL ls x.1 = some x.2 ∧ allIn l ls := by
      unfold allIn at h
      split at h
      · rename_i h1 h2
        exact ⟨by rw [h1, h2, h.1], h.2⟩
      · rename_i h1 h2
        exact ⟨by rw [h1, h2, h.1], h.2⟩
      · rename_i h1 h2
        exact ⟨by rw [h1, h2, h.1], h.2⟩
      · exact h.elim
    rcases List.mem_cons.mp hq with rfl | hq
    · exact lkL_mem key.1
    · exact allIn_mem key.2 q hq
theorem wk {i L : Nat} {xs : Nat → Int32} {K : Nat} {P : Nat → PR → PS → Prop} {G : KT} (hG : Cl i L xs K P G) {k pc : Nat} {ls ls' : PL} {st : List Value} {S : PS} (h : allIn ls' ls) (g : G k pc ls' st S) : G k pc ls st S := hG.2 _ _ _ _ _ _ (allIn_mem h) g
def hsI (x n : Int32) : Prop := ¬ x &&& (nI 1 <<< (n &&& 31)) = 0
def hsI_dec (x n : Int32) : Decidable (hsI x n) := inferInstanceAs (Decidable (¬ x &&& (nI 1 <<< (n &&& 31)) = 0))
abbrev hsb (x n : Int32) : Int32 := bi (¬ x &&& (nI 1 <<< (n &&& 31)) = 0)
theorem r_has (S : PS) (x n : Int32) : Run 0 30 [.int x, .int n] S (.inl (some (hsb x n))) S := by
  refine run_of (by decide +kernel) rfl (fun L xs G hG => ?_)
  repeat (refine hG.1 _ _ _ _ _ _ rfl ?_)
  refine And.intro (fun h => ?_) (fun h => ?_)
  · repeat (refine hG.1 _ _ _ _ _ _ rfl ?_)
    refine And.intro rfl (And.intro ?_ rfl)
    rw [hsb, bi_f (fun z => z h)]
  · repeat (refine hG.1 _ _ _ _ _ _ rfl ?_)
    refine And.intro rfl (And.intro ?_ rfl)
    rw [hsb, bi_t h]
theorem r_needRange (S : PS) (x lo hi : Int32) (h1 : ¬ x < lo) (h2 : x ≤ hi) : Run 0 24 [.int x, .int lo, .int hi] S (.inl none) S := by
  refine run_of (by decide +kernel) rfl (fun L xs G hG => ?_)
  repeat (refine hG.1 _ _ _ _ _ _ rfl ?_)
  refine And.intro (fun h => ?_) (fun h => ?_)
  · exact absurd h h1
  · repeat (refine hG.1 _ _ _ _ _ _ rfl ?_)
    refine And.intro (fun h => ?_) (fun h => ?_)
    · repeat (refine hG.1 _ _ _ _ _ _ rfl ?_)
      refine And.intro rfl (And.intro ?_ rfl)
      rfl
    · exact absurd h2 h
theorem r_needRange_x (S : PS) (x lo hi : Int32) (h1 : x < lo ∨ ¬ x ≤ hi) : Run 1 24 [.int x, .int lo, .int hi] S (.inr 0) S := by
  refine run_of (by decide +kernel) rfl (fun L xs G hG => ?_)
  repeat (refine hG.1 _ _ _ _ _ _ rfl ?_)
  refine And.intro (fun h => ?_) (fun h => ?_)
  · repeat (refine hG.1 _ _ _ _ _ _ rfl ?_)
    exact And.intro rfl (And.intro rfl (And.intro (Nat.le_refl _) (And.intro rfl rfl)))
  · repeat (refine hG.1 _ _ _ _ _ _ rfl ?_)
    refine And.intro (fun h => ?_) (fun h => ?_)
    · rcases h1 with z | z
      · contradiction
      · exact absurd h z
    · repeat (refine hG.1 _ _ _ _ _ _ rfl ?_)
      exact And.intro rfl (And.intro rfl (And.intro (Nat.le_refl _) (And.intro rfl rfl)))
theorem r_needRoom (S : PS) (x hi : Int32) (h1 : x < hi) : Run 0 25 [.int x, .int hi] S (.inl none) S := by
  refine run_of (by decide +kernel) rfl (fun L xs G hG => ?_)
  repeat (refine hG.1 _ _ _ _ _ _ rfl ?_)
  refine And.intro (fun h => ?_) (fun h => ?_)
  · repeat (refine hG.1 _ _ _ _ _ _ rfl ?_)
    refine And.intro rfl (And.intro ?_ rfl)
    rfl
  · exact absurd h1 h
theorem r_needRoom_x (S : PS) (x hi : Int32) (h1 : ¬ x < hi) : Run 1 25 [.int x, .int hi] S (.inr 2) S := by
  refine run_of (by decide +kernel) rfl (fun L xs G hG => ?_)
  repeat (refine hG.1 _ _ _ _ _ _ rfl ?_)
  refine And.intro (fun h => ?_) (fun h => ?_)
  · exact absurd h h1
  · repeat (refine hG.1 _ _ _ _ _ _ rfl ?_)
    exact And.intro rfl (And.intro rfl (And.intro (Nat.le_refl _) (And.intro rfl rfl)))
theorem r_needNode (S : PS) (x : Int32) (h1 : ¬ x < 0) (h2 : x < S.1 0 0) : Run 0 26 [.ref 0, .int x] S (.inl none) S := by
  refine run_of (by decide +kernel) rfl (fun L xs G hG => ?_)
  repeat (refine hG.1 _ _ _ _ _ _ rfl ?_)
  refine And.intro (fun h => ?_) (fun h => ?_)
  · exact absurd h h1
  · repeat (refine hG.1 _ _ _ _ _ _ rfl ?_)
    refine And.intro (fun h => ?_) (fun h => ?_)
    · repeat (refine hG.1 _ _ _ _ _ _ rfl ?_)
      refine And.intro rfl (And.intro ?_ rfl)
      rfl
    · exact absurd h2 h
theorem r_needNode_x (S : PS) (x : Int32) (h1 : x < 0 ∨ ¬ x < S.1 0 0) : Run 1 26 [.ref 0, .int x] S (.inr 1) S := by
  refine run_of (by decide +kernel) rfl (fun L xs G hG => ?_)
  repeat (refine hG.1 _ _ _ _ _ _ rfl ?_)
  refine And.intro (fun h => ?_) (fun h => ?_)
  · repeat (refine hG.1 _ _ _ _ _ _ rfl ?_)
    exact And.intro rfl (And.intro rfl (And.intro (Nat.le_refl _) (And.intro rfl rfl)))
  · repeat (refine hG.1 _ _ _ _ _ _ rfl ?_)
    refine And.intro (fun h => ?_) (fun h => ?_)
    · rcases h1 with z | z
      · contradiction
      · exact absurd h z
    · repeat (refine hG.1 _ _ _ _ _ _ rfl ?_)
      exact And.intro rfl (And.intro rfl (And.intro (Nat.le_refl _) (And.intro rfl rfl)))
theorem r_needPipe (S : PS) (x : Int32) (h1 : ¬ x ≤ 0) (h2 : x < S.1 0 0) : Run 0 27 [.ref 0, .int x] S (.inl none) S := by
  refine run_of (by decide +kernel) rfl (fun L xs G hG => ?_)
  repeat (refine hG.1 _ _ _ _ _ _ rfl ?_)
  refine And.intro (fun h => ?_) (fun h => ?_)
  · exact absurd h h1
  · repeat (refine hG.1 _ _ _ _ _ _ rfl ?_)
    refine And.intro (fun h => ?_) (fun h => ?_)
    · repeat (refine hG.1 _ _ _ _ _ _ rfl ?_)
      refine And.intro rfl (And.intro ?_ rfl)
      rfl
    · exact absurd h2 h
theorem r_needPipe_x (S : PS) (x : Int32) (h1 : x ≤ 0 ∨ ¬ x < S.1 0 0) : Run 1 27 [.ref 0, .int x] S (.inr 1) S := by
  refine run_of (by decide +kernel) rfl (fun L xs G hG => ?_)
  repeat (refine hG.1 _ _ _ _ _ _ rfl ?_)
  refine And.intro (fun h => ?_) (fun h => ?_)
  · repeat (refine hG.1 _ _ _ _ _ _ rfl ?_)
    exact And.intro rfl (And.intro rfl (And.intro (Nat.le_refl _) (And.intro rfl rfl)))
  · repeat (refine hG.1 _ _ _ _ _ _ rfl ?_)
    refine And.intro (fun h => ?_) (fun h => ?_)
    · rcases h1 with z | z
      · contradiction
      · exact absurd h z
    · repeat (refine hG.1 _ _ _ _ _ _ rfl ?_)
      exact And.intro rfl (And.intro rfl (And.intro (Nat.le_refl _) (And.intro rfl rfl)))
theorem r_needArea (S : PS) (x : Int32) (h1 : ¬ x < 0) (h2 : x < S.1 0 7) : Run 0 28 [.ref 0, .int x] S (.inl none) S := by
  refine run_of (by decide +kernel) rfl (fun L xs G hG => ?_)
  repeat (refine hG.1 _ _ _ _ _ _ rfl ?_)
  refine And.intro (fun h => ?_) (fun h => ?_)
  · exact absurd h h1
  · repeat (refine hG.1 _ _ _ _ _ _ rfl ?_)
    refine And.intro (fun h => ?_) (fun h => ?_)
    · repeat (refine hG.1 _ _ _ _ _ _ rfl ?_)
      refine And.intro rfl (And.intro ?_ rfl)
      rfl
    · exact absurd h2 h
theorem r_needArea_x (S : PS) (x : Int32) (h1 : x < 0 ∨ ¬ x < S.1 0 7) : Run 1 28 [.ref 0, .int x] S (.inr 1) S := by
  refine run_of (by decide +kernel) rfl (fun L xs G hG => ?_)
  repeat (refine hG.1 _ _ _ _ _ _ rfl ?_)
  refine And.intro (fun h => ?_) (fun h => ?_)
  · repeat (refine hG.1 _ _ _ _ _ _ rfl ?_)
    exact And.intro rfl (And.intro rfl (And.intro (Nat.le_refl _) (And.intro rfl rfl)))
  · repeat (refine hG.1 _ _ _ _ _ _ rfl ?_)
    refine And.intro (fun h => ?_) (fun h => ?_)
    · rcases h1 with z | z
      · contradiction
      · exact absurd h z
    · repeat (refine hG.1 _ _ _ _ _ _ rfl ?_)
      exact And.intro rfl (And.intro rfl (And.intro (Nat.le_refl _) (And.intro rfl rfl)))
theorem r_needBurst (S : PS) (x : Int32) (h1 : ¬ x < 0) (h2 : x < S.1 0 10) : Run 0 29 [.ref 0, .int x] S (.inl none) S := by
  refine run_of (by decide +kernel) rfl (fun L xs G hG => ?_)
  repeat (refine hG.1 _ _ _ _ _ _ rfl ?_)
  refine And.intro (fun h => ?_) (fun h => ?_)
  · exact absurd h h1
  · repeat (refine hG.1 _ _ _ _ _ _ rfl ?_)
    refine And.intro (fun h => ?_) (fun h => ?_)
    · repeat (refine hG.1 _ _ _ _ _ _ rfl ?_)
      refine And.intro rfl (And.intro ?_ rfl)
      rfl
    · exact absurd h2 h
theorem r_needBurst_x (S : PS) (x : Int32) (h1 : x < 0 ∨ ¬ x < S.1 0 10) : Run 1 29 [.ref 0, .int x] S (.inr 1) S := by
  refine run_of (by decide +kernel) rfl (fun L xs G hG => ?_)
  repeat (refine hG.1 _ _ _ _ _ _ rfl ?_)
  refine And.intro (fun h => ?_) (fun h => ?_)
  · repeat (refine hG.1 _ _ _ _ _ _ rfl ?_)
    exact And.intro rfl (And.intro rfl (And.intro (Nat.le_refl _) (And.intro rfl rfl)))
  · repeat (refine hG.1 _ _ _ _ _ _ rfl ?_)
    refine And.intro (fun h => ?_) (fun h => ?_)
    · rcases h1 with z | z
      · contradiction
      · exact absurd h z
    · repeat (refine hG.1 _ _ _ _ _ _ rfl ?_)
      exact And.intro rfl (And.intro rfl (And.intro (Nat.le_refl _) (And.intro rfl rfl)))
theorem r_pipesAbove (S : PS) (x n : Int32) : Run 0 31 [.int x, .int n] S (.inl (some (x &&& (-1 : Int32) <<< ((n + nI 1) &&& 31)))) S := by
  refine run_of (by decide +kernel) rfl (fun L xs G hG => ?_)
  repeat (refine hG.1 _ _ _ _ _ _ rfl ?_)
  refine And.intro rfl (And.intro ?_ rfl)
  rfl
theorem r_isOpenTo (S : PS) (x sh : Int32) (h : vp_in x 16) : Run 0 32 [.ref 0, .int x, .int sh] S (.inl (some (bi (S.2.1 1 x.toNatClampNeg &&& sh = 0)))) S := by
  refine run_of (by decide +kernel) rfl (fun L xs G hG => ?_)
  repeat (refine hG.1 _ _ _ _ _ _ rfl ?_)
  refine And.intro (h) ?_
  repeat (refine hG.1 _ _ _ _ _ _ rfl ?_)
  refine And.intro (fun h => ?_) (fun h => ?_)
  · repeat (refine hG.1 _ _ _ _ _ _ rfl ?_)
    refine And.intro rfl (And.intro ?_ rfl)
    rw [bi_f h]
  · repeat (refine hG.1 _ _ _ _ _ _ rfl ?_)
    refine And.intro rfl (And.intro ?_ rfl)
    rw [bi_t h]
end
section
theorem loop_up {n : Nat} {I : Nat → Prop} (hs : ∀ k, k < n → I (k + 1) → I k) (he : I n) : ∀ k, k ≤ n → I k := by
  have h : ∀ d k, k + d = n → I k := by
    intro d
    induction d with
    | zero => intro k hk; have : k = n := by omega
              subst this; exact he
    | succ d ih => intro k hk; exact hs k (by omega) (ih (k + 1) (by omega))
  intro k hk
  exact h (n - k) k (by omega)
abbrev hs (x : Int32) (k : Nat) : Prop := ¬ x &&& (nI 1 <<< (nI k &&& 31)) = 0
def prL (w : Int32) (pr : Nat → Int32) : Nat → Int32
  | 0 => nI 50
  | k + 1 => if hs w (k + 1) ∧ ¬ pr (k + 1) = -1 then pr (k + 1) else prL w pr k
abbrev prs (A : Nat → Nat → Int32) (j : Nat) : Int32 := prL (A 1 j) (A 4) j
theorem r_pressureAt (S : PS) (j : Nat) (hj : j < 16) : Run 0 33 [.ref 0, .int (nI j)] S (.inl (some (prs S.2.1 j))) S := by
  refine run_of (by decide +kernel) rfl (fun L xs G hG => ?_)
  have main : ∀ k, k ≤ j → G 0 5 [(3, .int (nI (k + 1))), (2, .int (prL (S.2.1 1 j) (S.2.1 4) k)), (0, .ref 0), (1, .int (nI j))] [] S := by
    refine loop_up (fun k hk ih => ?_) ?_
    · repeat (refine hG.1 _ _ _ _ _ _ rfl ?_)
      refine And.intro (fun h => ?_) (fun h => ?_)
      · exact absurd h (nI_nlt (by omega) (by omega))
      · repeat (refine hG.1 _ _ _ _ _ _ rfl ?_)
        refine And.intro (vp_in_nI (hj) (by decide)) ?_; rw [nI_clamp (Nat.lt_trans (hj) (by decide))]
        repeat (refine hG.1 _ _ _ _ _ _ rfl ?_)
        refine cx (r_has S _ _) rfl ?_
        repeat (refine hG.1 _ _ _ _ _ _ rfl ?_)
        refine And.intro (fun h1 => ?_) (fun h1 => ?_)
        · rw [bi_0] at h1
          have e : prL (S.2.1 1 j) (S.2.1 4) (k + 1) = prL (S.2.1 1 j) (S.2.1 4) k := by
            rw [prL, if_neg (fun z => h1 z.1)]
          rw [e] at ih
          repeat (first | (refine wk hG ?_ (ih); (repeat (refine And.intro (by first | with_reducible rfl | with_reducible exact nI_add _ _ | with_reducible exact pk_m1 _ | rfl) ?_)); exact trivial) | refine hG.1 _ _ _ _ _ _ rfl ?_)
        · rw [bi_n] at h1
          repeat (refine hG.1 _ _ _ _ _ _ rfl ?_)
          refine And.intro (vp_in_nI ((show k + 1 < 16 by omega)) (by decide)) ?_; rw [nI_clamp (Nat.lt_trans ((show k + 1 < 16 by omega)) (by decide))]
          repeat (refine hG.1 _ _ _ _ _ _ rfl ?_)
          refine And.intro (fun h2 => ?_) (fun h2 => ?_)
          · have e : prL (S.2.1 1 j) (S.2.1 4) (k + 1) = prL (S.2.1 1 j) (S.2.1 4) k := by
              rw [prL, if_neg (fun z => z.2 h2)]
            rw [e] at ih
            repeat (first | (refine wk hG ?_ (ih); (repeat (refine And.intro (by first | with_reducible rfl | with_reducible exact nI_add _ _ | with_reducible exact pk_m1 _ | rfl) ?_)); exact trivial) | refine hG.1 _ _ _ _ _ _ rfl ?_)
          · repeat (refine hG.1 _ _ _ _ _ _ rfl ?_)
            refine And.intro (vp_in_nI ((show k + 1 < 16 by omega)) (by decide)) ?_; rw [nI_clamp (Nat.lt_trans ((show k + 1 < 16 by omega)) (by decide))]
            have e : prL (S.2.1 1 j) (S.2.1 4) (k + 1) = S.2.1 4 (k + 1) := by
              rw [prL, if_pos ⟨h1, h2⟩]
            rw [e] at ih
            repeat (first | (refine wk hG ?_ (ih); (repeat (refine And.intro (by first | with_reducible rfl | with_reducible exact nI_add _ _ | with_reducible exact pk_m1 _ | rfl) ?_)); exact trivial) | refine hG.1 _ _ _ _ _ _ rfl ?_)
    · repeat (refine hG.1 _ _ _ _ _ _ rfl ?_)
      refine And.intro (fun h => ?_) (fun h => ?_)
      · repeat (refine hG.1 _ _ _ _ _ _ rfl ?_)
        refine And.intro rfl (And.intro ?_ rfl)
        rfl
      · exact absurd (nI_lt (by omega) (by omega)) h
  have h0 := main 0 (Nat.zero_le _); simp only [prL] at h0; repeat (first | (refine wk hG ?_ (h0); (repeat (refine And.intro (by first | with_reducible rfl | with_reducible exact nI_add _ _ | with_reducible exact pk_m1 _ | rfl) ?_)); exact trivial) | refine hG.1 _ _ _ _ _ _ rfl ?_)
def facV (v : Nat) : Int32 := if v / 10 < 10 then fcv (v / 10) + (fcv (v / 10 + 1) - fcv (v / 10)) * (nI v - nI (v / 10) * nI 10) / nI 10 else fcv 10
abbrev fac (p : Int32) : Int32 := facV p.toNatClampNeg
theorem r_factorFor (S : PS) (v : Nat) (hv : v ≤ 100) : Run 0 34 [.int (nI v)] S (.inl (some (facV v))) S := by
  refine run_of (by decide +kernel) rfl (fun L xs G hG => ?_)
  have hd : nI v / nI 10 = nI (v / 10) := pk_div (by omega) (by omega) (by omega)
  have h10 : (Int32.ofNat 11 - nI 1 : Int32) = nI 10 := by decide
  repeat (refine hG.1 _ _ _ _ _ _ rfl ?_)
  refine And.intro ((by decide : ¬ nI 10 = 0)) ?_
  rw [hd]
  repeat (refine hG.1 _ _ _ _ _ _ rfl ?_)
  refine And.intro (fun h => ?_) (fun h => ?_)
  · exact absurd h (nI_pos (by omega))
  · repeat (refine hG.1 _ _ _ _ _ _ rfl ?_)
    rw [h10]
    refine And.intro (fun h1 => ?_) (fun h1 => ?_)
    · have h2 : v / 10 < 10 := (nI_ltI (by omega) (by omega)).mp h1
      repeat (refine hG.1 _ _ _ _ _ _ rfl ?_)
      rw [nI_add]
      refine And.intro (vp_in_nI ((show v / 10 + 1 < 11 by omega)) (by decide)) ?_; rw [nI_clamp (Nat.lt_trans ((show v / 10 + 1 < 11 by omega)) (by decide))]
      repeat (refine hG.1 _ _ _ _ _ _ rfl ?_)
      refine And.intro (vp_in_nI ((show v / 10 < 11 by omega)) (by decide)) ?_; rw [nI_clamp (Nat.lt_trans ((show v / 10 < 11 by omega)) (by decide))]
      repeat (refine hG.1 _ _ _ _ _ _ rfl ?_)
      refine And.intro (vp_in_nI ((show v / 10 < 11 by omega)) (by decide)) ?_; rw [nI_clamp (Nat.lt_trans ((show v / 10 < 11 by omega)) (by decide))]
      repeat (refine hG.1 _ _ _ _ _ _ rfl ?_)
      refine And.intro ((by decide : ¬ nI 10 = 0)) ?_
      repeat (refine hG.1 _ _ _ _ _ _ rfl ?_)
      refine And.intro rfl (And.intro ?_ rfl)
      rw [facV, if_pos h2]
    · have h2 : ¬ v / 10 < 10 := fun z => h1 ((nI_ltI (by omega) (by omega)).mpr z)
      repeat (refine hG.1 _ _ _ _ _ _ rfl ?_)
      rw [h10]
      refine And.intro (vp_in_nI ((show 10 < 11 by omega)) (by decide)) ?_; rw [nI_clamp (Nat.lt_trans ((show 10 < 11 by omega)) (by decide))]
      repeat (refine hG.1 _ _ _ _ _ _ rfl ?_)
      refine And.intro rfl (And.intro ?_ rfl)
      rw [facV, if_neg h2]
def PrOk (pr : Nat → Int32) : Prop := ∀ k, k < 16 → pr k = -1 ∨ ∃ v : Nat, v ≤ 100 ∧ pr k = nI v
theorem prL_ok {w : Int32} {pr : Nat → Int32} (h : PrOk pr) : ∀ k, k < 16 → ∃ v : Nat, v ≤ 100 ∧ prL w pr k = nI v
  | 0, _ => ⟨50, by omega, rfl⟩
  | k + 1, hk => by
    rw [prL]
    split
    · rename_i z
      rcases h (k + 1) hk with y | y
      · exact absurd y z.2
      · exact y
    · exact prL_ok h k (by omega)
theorem r_leakageOf (S : PS) (x : Int32) (j : Nat) (hj : j < 16) (hp : PrOk (S.2.1 4)) : Run 0 35 [.ref 0, .int x, .int (nI j)] S (.inl (some (x * fac (prs S.2.1 j) / nI 1000))) S := by
  obtain ⟨v, hv, e⟩ := prL_ok (w := S.2.1 1 j) hp j hj
  refine run_of (by decide +kernel) rfl (fun L xs G hG => ?_)
  repeat (refine hG.1 _ _ _ _ _ _ rfl ?_)
  refine And.intro rfl (cx (r_pressureAt S j hj) rfl ?_)
  repeat (refine hG.1 _ _ _ _ _ _ rfl ?_)
  rw [prs, e]
  refine cx (r_factorFor S v hv) rfl ?_
  repeat (refine hG.1 _ _ _ _ _ _ rfl ?_)
  refine And.intro ((by decide : ¬ nI 1000 = 0)) ?_
  repeat (refine hG.1 _ _ _ _ _ _ rfl ?_)
  refine And.intro rfl (And.intro ?_ rfl)
  simp only [fac, prs, e]
  rw [nI_clamp (by omega)]
def amtL (A : Nat → Nat → Int32) (rp : Int32) (j : Nat) : Nat → Int32
  | 0 => A 3 j
  | k + 1 => if A 7 k = nI j ∧ ¬ hs rp k then amtL A rp j k + A 8 k else amtL A rp j k
theorem r_amountAt (S : PS) (j nb : Nat) (hj : j < 16) (hnb : nb ≤ 20) (hb : S.1 0 10 = nI nb) : Run 0 36 [.ref 0, .int (nI j)] S (.inl (some (amtL S.2.1 (S.1 0 14) j nb))) S := by
  refine run_of (by decide +kernel) rfl (fun L xs G hG => ?_)
  have main : ∀ k, k ≤ nb → G 0 9 [(3, .int (nI k)), (2, .int (amtL S.2.1 (S.1 0 14) j k)), (0, .ref 0), (1, .int (nI j))] [] S := by
    refine loop_up (fun k hk ih => ?_) ?_
    · repeat (refine hG.1 _ _ _ _ _ _ rfl ?_)
      rw [hb]
      refine And.intro (fun h => ?_) (fun h => ?_)
      · exact absurd h (nI_ge (by omega) (by omega))
      · repeat (refine hG.1 _ _ _ _ _ _ rfl ?_)
        refine And.intro (vp_in_nI ((show k < 20 by omega)) (by decide)) ?_; rw [nI_clamp (Nat.lt_trans ((show k < 20 by omega)) (by decide))]
        repeat (refine hG.1 _ _ _ _ _ _ rfl ?_)
        refine And.intro (fun h1 => ?_) (fun h1 => ?_)
        · have e : amtL S.2.1 (S.1 0 14) j (k + 1) = amtL S.2.1 (S.1 0 14) j k := by
            rw [amtL, if_neg (fun z => h1 z.1)]
          rw [e] at ih
          repeat (first | (refine wk hG ?_ (ih); (repeat (refine And.intro (by first | with_reducible rfl | with_reducible exact nI_add _ _ | with_reducible exact pk_m1 _ | rfl) ?_)); exact trivial) | refine hG.1 _ _ _ _ _ _ rfl ?_)
        · repeat (refine hG.1 _ _ _ _ _ _ rfl ?_)
          refine cx (r_has S _ _) rfl ?_
          repeat (refine hG.1 _ _ _ _ _ _ rfl ?_)
          refine And.intro (fun h2 => ?_) (fun h2 => ?_)
          · rw [bi_n] at h2
            have e : amtL S.2.1 (S.1 0 14) j (k + 1) = amtL S.2.1 (S.1 0 14) j k := by
              rw [amtL, if_neg (fun z => z.2 h2)]
            rw [e] at ih
            repeat (first | (refine wk hG ?_ (ih); (repeat (refine And.intro (by first | with_reducible rfl | with_reducible exact nI_add _ _ | with_reducible exact pk_m1 _ | rfl) ?_)); exact trivial) | refine hG.1 _ _ _ _ _ _ rfl ?_)
          · rw [bi_0] at h2
            repeat (refine hG.1 _ _ _ _ _ _ rfl ?_)
            refine And.intro (vp_in_nI ((show k < 20 by omega)) (by decide)) ?_; rw [nI_clamp (Nat.lt_trans ((show k < 20 by omega)) (by decide))]
            have e : amtL S.2.1 (S.1 0 14) j (k + 1) = amtL S.2.1 (S.1 0 14) j k + S.2.1 8 k := by
              rw [amtL, if_pos ⟨h1, h2⟩]
            rw [e] at ih
            repeat (first | (refine wk hG ?_ (ih); (repeat (refine And.intro (by first | with_reducible rfl | with_reducible exact nI_add _ _ | with_reducible exact pk_m1 _ | rfl) ?_)); exact trivial) | refine hG.1 _ _ _ _ _ _ rfl ?_)
    · repeat (refine hG.1 _ _ _ _ _ _ rfl ?_)
      rw [hb]
      refine And.intro (fun h => ?_) (fun h => ?_)
      · repeat (refine hG.1 _ _ _ _ _ _ rfl ?_)
        refine And.intro rfl (And.intro ?_ rfl)
        rfl
      · exact absurd (nI_le (Nat.le_refl _) (by omega)) h
  repeat (refine hG.1 _ _ _ _ _ _ rfl ?_)
  refine And.intro (vp_in_nI (hj) (by decide)) ?_; rw [nI_clamp (Nat.lt_trans (hj) (by decide))]
  have h0 := main 0 (Nat.zero_le _); simp only [amtL] at h0; repeat (first | (refine wk hG ?_ (h0); (repeat (refine And.intro (by first | with_reducible rfl | with_reducible exact nI_add _ _ | with_reducible exact pk_m1 _ | rfl) ?_)); exact trivial) | refine hG.1 _ _ _ _ _ _ rfl ?_)
def lkgX (A : Nat → Nat → Int32) (nb : Nat) (rp : Int32) (j : Nat) : Int32 := amtL A rp j nb * fac (prs A j) / nI 1000
def tknX (A : Nat → Nat → Int32) (nb : Nat) (rp sh : Int32) (j : Nat) : Int32 := if A 1 j &&& sh = 0 then A 2 j + lkgX A nb rp j else nI 0
def Xn (S : PS) (n nb : Nat) : Prop := S.1 0 0 = nI n ∧ n ≤ 16 ∧ S.1 0 10 = nI nb ∧ nb ≤ 20 ∧ PrOk (S.2.1 4)
theorem r_leakageAt (S : PS) (j n nb : Nat) (hj : j < 16) (hX : Xn S n nb) : Run 0 37 [.ref 0, .int (nI j)] S (.inl (some (lkgX S.2.1 nb (S.1 0 14) j))) S := by
  refine run_of (by decide +kernel) rfl (fun L xs G hG => ?_)
  repeat (refine hG.1 _ _ _ _ _ _ rfl ?_)
  refine And.intro rfl (cx (r_amountAt S j nb hj hX.2.2.2.1 hX.2.2.1) rfl ?_)
  repeat (refine hG.1 _ _ _ _ _ _ rfl ?_)
  refine And.intro rfl (cx (r_leakageOf S _ j hj hX.2.2.2.2) rfl ?_)
  repeat (refine hG.1 _ _ _ _ _ _ rfl ?_)
  refine And.intro rfl (And.intro ?_ rfl)
  rfl
theorem r_takenAt (S : PS) (j n nb : Nat) (sh : Int32) (hj : j < 16) (hX : Xn S n nb) : Run 0 38 [.ref 0, .int (nI j), .int sh] S (.inl (some (tknX S.2.1 nb (S.1 0 14) sh j))) S := by
  refine run_of (by decide +kernel) rfl (fun L xs G hG => ?_)
  repeat (refine hG.1 _ _ _ _ _ _ rfl ?_)
  refine And.intro rfl (cx (r_isOpenTo S _ _ (vp_in_nI hj (by decide))) rfl ?_)
  rw [nI_clamp (by omega)]
  repeat (refine hG.1 _ _ _ _ _ _ rfl ?_)
  refine And.intro (fun h => ?_) (fun h => ?_)
  · rw [bi_0] at h
    repeat (refine hG.1 _ _ _ _ _ _ rfl ?_)
    refine And.intro rfl (And.intro ?_ rfl)
    rw [tknX, if_neg h]
  · rw [bi_n] at h
    repeat (refine hG.1 _ _ _ _ _ _ rfl ?_)
    refine And.intro (vp_in_nI (hj) (by decide)) ?_; rw [nI_clamp (Nat.lt_trans (hj) (by decide))]
    repeat (refine hG.1 _ _ _ _ _ _ rfl ?_)
    refine And.intro rfl (cx (r_leakageAt S j n nb hj hX) rfl ?_)
    repeat (refine hG.1 _ _ _ _ _ _ rfl ?_)
    refine And.intro rfl (And.intro ?_ rfl)
    rw [tknX, if_pos h]
def smL (c : Nat → Bool) (f : Nat → Int32) : Nat → Int32
  | 0 => nI 0
  | k + 1 => if c k = true then smL c f k + f k else smL c f k
theorem smL_t {c : Nat → Bool} {f : Nat → Int32} {k : Nat} (h : c k = true) : smL c f (k + 1) = smL c f k + f k := by rw [smL, if_pos h]
theorem smL_f {c : Nat → Bool} {f : Nat → Int32} {k : Nat} (h : ¬ c k = true) : smL c f (k + 1) = smL c f k := by rw [smL, if_neg h]
theorem r_takenBy (S : PS) (n nb : Nat) (set sh : Int32) (hX : Xn S n nb) : Run 0 39 [.ref 0, .int set, .int sh] S (.inl (some (smL (fun k => decide (hs set k)) (tknX S.2.1 nb (S.1 0 14) sh) n))) S := by
  refine run_of (by decide +kernel) rfl (fun L xs G hG => ?_)
  have main : ∀ k, k ≤ n → G 0 5 [(4, .int (nI k)), (3, .int (smL (fun k => decide (hs set k)) (tknX S.2.1 nb (S.1 0 14) sh) k)), (0, .ref 0), (1, .int set), (2, .int sh)] [] S := by
    have hn := hX.2.1
    refine loop_up (fun k hk ih => ?_) ?_
    · repeat (refine hG.1 _ _ _ _ _ _ rfl ?_)
      rw [hX.1]
      refine And.intro (fun h => ?_) (fun h => ?_)
      · exact absurd h (nI_ge (by omega) (by omega))
      · repeat (refine hG.1 _ _ _ _ _ _ rfl ?_)
        refine cx (r_has S _ _) rfl ?_
        repeat (refine hG.1 _ _ _ _ _ _ rfl ?_)
        refine And.intro (fun h1 => ?_) (fun h1 => ?_)
        · rw [bi_0] at h1
          rw [smL_f (by simpa using h1)] at ih
          repeat (first | (refine wk hG ?_ (ih); (repeat (refine And.intro (by first | with_reducible rfl | with_reducible exact nI_add _ _ | with_reducible exact pk_m1 _ | rfl) ?_)); exact trivial) | refine hG.1 _ _ _ _ _ _ rfl ?_)
        · rw [bi_n] at h1
          rw [smL_t (by simpa using h1)] at ih
          repeat (refine hG.1 _ _ _ _ _ _ rfl ?_)
          refine And.intro rfl (cx (r_takenAt S k n nb _ (by omega) hX) rfl ?_)
          repeat (first | (refine wk hG ?_ (ih); (repeat (refine And.intro (by first | with_reducible rfl | with_reducible exact nI_add _ _ | with_reducible exact pk_m1 _ | rfl) ?_)); exact trivial) | refine hG.1 _ _ _ _ _ _ rfl ?_)
    · repeat (refine hG.1 _ _ _ _ _ _ rfl ?_)
      rw [hX.1]
      refine And.intro (fun h => ?_) (fun h => ?_)
      · repeat (refine hG.1 _ _ _ _ _ _ rfl ?_)
        refine And.intro rfl (And.intro ?_ rfl)
        rfl
      · exact absurd (nI_le (Nat.le_refl _) (by omega)) h
  have h0 := main 0 (Nat.zero_le _); simp only [smL] at h0; repeat (first | (refine wk hG ?_ (h0); (repeat (refine And.intro (by first | with_reducible rfl | with_reducible exact nI_add _ _ | with_reducible exact pk_m1 _ | rfl) ?_)); exact trivial) | refine hG.1 _ _ _ _ _ _ rfl ?_)
theorem r_flowTo (S : PS) (n nb : Nat) (top : Int32) (hX : Xn S n nb) : Run 0 41 [.ref 0, .int top] S (.inl (some (smL (fun k => decide (¬ S.2.1 1 k &&& (nI 1 <<< (top &&& 31)) = 0)) (tknX S.2.1 nb (S.1 0 14) (S.1 0 6)) n))) S := by
  refine run_of (by decide +kernel) rfl (fun L xs G hG => ?_)
  have main : ∀ k, k ≤ n → G 0 4 [(3, .int (nI k)), (2, .int (smL (fun k => decide (¬ S.2.1 1 k &&& (nI 1 <<< (top &&& 31)) = 0)) (tknX S.2.1 nb (S.1 0 14) (S.1 0 6)) k)), (0, .ref 0), (1, .int top)] [] S := by
    have hn := hX.2.1
    refine loop_up (fun k hk ih => ?_) ?_
    · repeat (refine hG.1 _ _ _ _ _ _ rfl ?_)
      rw [hX.1]
      refine And.intro (fun h => ?_) (fun h => ?_)
      · exact absurd h (nI_ge (by omega) (by omega))
      · repeat (refine hG.1 _ _ _ _ _ _ rfl ?_)
        refine And.intro (vp_in_nI ((show k < 16 by omega)) (by decide)) ?_; rw [nI_clamp (Nat.lt_trans ((show k < 16 by omega)) (by decide))]
        repeat (refine hG.1 _ _ _ _ _ _ rfl ?_)
        refine cx (r_has S _ _) rfl ?_
        repeat (refine hG.1 _ _ _ _ _ _ rfl ?_)
        refine And.intro (fun h1 => ?_) (fun h1 => ?_)
        · rw [bi_0] at h1
          rw [smL_f (by simpa using h1)] at ih
          repeat (first | (refine wk hG ?_ (ih); (repeat (refine And.intro (by first | with_reducible rfl | with_reducible exact nI_add _ _ | with_reducible exact pk_m1 _ | rfl) ?_)); exact trivial) | refine hG.1 _ _ _ _ _ _ rfl ?_)
        · rw [bi_n] at h1
          rw [smL_t (by simpa using h1)] at ih
          repeat (refine hG.1 _ _ _ _ _ _ rfl ?_)
          refine And.intro rfl (cx (r_takenAt S k n nb _ (by omega) hX) rfl ?_)
          repeat (first | (refine wk hG ?_ (ih); (repeat (refine And.intro (by first | with_reducible rfl | with_reducible exact nI_add _ _ | with_reducible exact pk_m1 _ | rfl) ?_)); exact trivial) | refine hG.1 _ _ _ _ _ _ rfl ?_)
    · repeat (refine hG.1 _ _ _ _ _ _ rfl ?_)
      rw [hX.1]
      refine And.intro (fun h => ?_) (fun h => ?_)
      · repeat (refine hG.1 _ _ _ _ _ _ rfl ?_)
        refine And.intro rfl (And.intro ?_ rfl)
        rfl
      · exact absurd (nI_le (Nat.le_refl _) (by omega)) h
  have h0 := main 0 (Nat.zero_le _); simp only [smL] at h0; repeat (first | (refine wk hG ?_ (h0); (repeat (refine And.intro (by first | with_reducible rfl | with_reducible exact nI_add _ _ | with_reducible exact pk_m1 _ | rfl) ?_)); exact trivial) | refine hG.1 _ _ _ _ _ _ rfl ?_)
end
section
abbrev bt (x : Int32) (k : Nat) : Bool := x.toBitVec.getLsbD k
abbrev one (k : Nat) : Int32 := nI 1 <<< (nI k &&& 31)
theorem one_bv : ∀ k : Nat, k < 32 → (one k).toBitVec = BitVec.twoPow 32 k := by decide +kernel
theorem bt_one {j k : Nat} (hj : j < 32) : bt (one j) k = (decide (k < 32) && decide (j = k)) := by
  unfold bt
  rw [one_bv j hj, BitVec.getLsbD_twoPow]
  by_cases h : j = k
  · subst h; simp [hj]
  · simp [h]
theorem bt_and (x y : Int32) (k : Nat) : bt (x &&& y) k = (bt x k && bt y k) := by
  simp [bt, Int32.toBitVec_and]
theorem bt_or (x y : Int32) (k : Nat) : bt (x ||| y) k = (bt x k || bt y k) := by
  simp [bt, Int32.toBitVec_or]
theorem bt_xor (x y : Int32) (k : Nat) : bt (x ^^^ y) k = (bt x k ^^ bt y k) := by
  simp [bt, Int32.toBitVec_xor]
theorem bt_m1 {k : Nat} (hk : k < 32) : bt (-1) k = true := by
  have key : ∀ k : Nat, k < 32 → bt (-1) k = true := by decide +kernel
  exact key k hk
theorem bt_0 (k : Nat) : bt (nI 0) k = false := by
  have : (nI 0).toBitVec = 0#32 := by decide
  simp [bt, this]
theorem bt_not (x : Int32) {k : Nat} (hk : k < 32) : bt (x ^^^ -1) k = !bt x k := by
  rw [bt_xor, bt_m1 hk]
  simp
theorem bt_ext {x y : Int32} (h : ∀ k, k < 32 → bt x k = bt y k) : x = y := by
  apply Int32.toBitVec_inj.mp
  apply BitVec.eq_of_getLsbD_eq
  intro i hi
  exact h i hi
theorem bt_ge (x : Int32) {k : Nat} (hk : 32 ≤ k) : bt x k = false := BitVec.getLsbD_of_ge _ _ hk
theorem and_0 {x y : Int32} : x &&& y = 0 ↔ ∀ k, k < 32 → ¬ (bt x k = true ∧ bt y k = true) := by
  constructor
  · intro h k hk hz
    have h1 := bt_and x y k
    rw [h, hz.1, hz.2] at h1
    have h2 := bt_0 k
    rw [nI_0] at h2
    rw [h2] at h1
    cases h1
  · intro h
    apply bt_ext
    intro k hk
    rw [bt_and]
    have h2 := bt_0 k
    rw [nI_0] at h2
    rw [h2]
    have h3 := h k hk
    cases h4 : bt x k <;> cases h5 : bt y k <;> simp_all
theorem hs_bt {x : Int32} {k : Nat} (hk : k < 32) : hs x k ↔ bt x k = true := by
  have h : hs x k ↔ ¬ x &&& one k = 0 := Iff.rfl
  rw [h, and_0]
  constructor
  · intro h1
    cases hb : bt x k with
    | true => rfl
    | false =>
      exfalso
      apply h1
      intro j hj hz
      rw [bt_one hk] at hz
      simp only [Bool.and_eq_true, decide_eq_true_eq] at hz
      rw [← hz.2.2, hb] at hz
      cases hz.1
  · intro h1 h2
    exact h2 k hk ⟨h1, by rw [bt_one hk]; simp [hk]⟩
theorem hs_and {x y : Int32} {k : Nat} (hk : k < 32) : hs (x &&& y) k ↔ hs x k ∧ hs y k := by
  rw [hs_bt hk, hs_bt hk, hs_bt hk, bt_and, Bool.and_eq_true]
theorem hs_or {x y : Int32} {k : Nat} (hk : k < 32) : hs (x ||| y) k ↔ hs x k ∨ hs y k := by
  rw [hs_bt hk, hs_bt hk, hs_bt hk, bt_or, Bool.or_eq_true]
theorem hs_not {x : Int32} {k : Nat} (hk : k < 32) : hs (x ^^^ -1) k ↔ ¬ hs x k := by
  rw [hs_bt hk, hs_bt hk, bt_not _ hk]
  simp
theorem hs_one {j k : Nat} (hj : j < 32) (hk : k < 32) : hs (one j) k ↔ j = k := by
  rw [hs_bt hk, bt_one hj]
  simp [hk]
theorem hs_xone {x : Int32} {j k : Nat} (hj : j < 32) (hk : k < 32) : hs (x ^^^ one j) k ↔ (if j = k then ¬ hs x k else hs x k) := by
  rw [hs_bt hk, hs_bt hk, bt_xor, bt_one hj]
  split
  · rename_i h; subst h; simp [hk]
  · rename_i h; simp [h]
theorem hs_0 {k : Nat} (hk : k < 32) : ¬ hs (nI 0) k := by
  rw [hs_bt hk, bt_0]
  simp
theorem ands_0 {x y : Int32} : x &&& y = 0 ↔ ∀ k, k < 32 → ¬ (hs x k ∧ hs y k) := by
  rw [and_0]
  constructor
  · intro h k hk
    rw [hs_bt hk, hs_bt hk]
    exact h k hk
  · intro h k hk
    have := h k hk
    rw [hs_bt hk, hs_bt hk] at this
    exact this
theorem hs_ext {x y : Int32} (h : ∀ k, k < 32 → (hs x k ↔ hs y k)) : x = y := by
  apply bt_ext
  intro k hk
  have h1 := h k hk
  rw [hs_bt hk, hs_bt hk] at h1
  cases h2 : bt x k <;> cases h3 : bt y k <;> simp_all
def stL (c : Nat → Bool) : Nat → Int32
  | 0 => nI 0
  | k + 1 => if c k = true then stL c k ||| one k else stL c k
theorem stL_t {c : Nat → Bool} {k : Nat} (h : c k = true) : stL c (k + 1) = stL c k ||| one k := by rw [stL, if_pos h]
theorem stL_f {c : Nat → Bool} {k : Nat} (h : ¬ c k = true) : stL c (k + 1) = stL c k := by rw [stL, if_neg h]
theorem hs_stL {c : Nat → Bool} {j : Nat} (hj : j < 32) : ∀ k, k ≤ 32 → (hs (stL c k) j ↔ j < k ∧ c j = true)
  | 0, _ => ⟨fun z => absurd z (hs_0 hj), fun z => absurd z.1 (Nat.not_lt_zero _)⟩
  | k + 1, hk => by
    have ih := hs_stL (c := c) hj k (by omega)
    by_cases hc : c k = true
    · rw [stL_t hc, hs_or hj, ih, hs_one (by omega) hj]
      constructor
      · rintro (⟨z, y⟩ | z)
        · exact ⟨by omega, y⟩
        · subst z; exact ⟨by omega, hc⟩
      · rintro ⟨z, y⟩
        rcases Nat.lt_or_ge j k with w | w
        · exact Or.inl ⟨w, y⟩
        · exact Or.inr (by omega)
    · rw [stL_f hc, ih]
      constructor
      · rintro ⟨z, y⟩; exact ⟨by omega, y⟩
      · rintro ⟨z, y⟩
        rcases Nat.lt_or_ge j k with w | w
        · exact ⟨w, y⟩
        · have : j = k := by omega
          subst this
          exact absurd y hc
theorem stL_congr {c d : Nat → Bool} : ∀ {k : Nat}, (∀ j, j < k → c j = d j) → stL c k = stL d k
  | 0, _ => rfl
  | k + 1, h => by rw [stL, stL, stL_congr (k := k) (fun j hj => h j (by omega)), h k (by omega)]
theorem smL_congr {c d : Nat → Bool} {f g : Nat → Int32} : ∀ {k : Nat}, (∀ j, j < k → c j = d j ∧ (c j = true → f j = g j)) → smL c f k = smL d g k
  | 0, _ => rfl
  | k + 1, h => by
    have ih := smL_congr (c := c) (d := d) (f := f) (g := g) (k := k) (fun j hj => h j (by omega))
    have hk := h k (by omega)
    by_cases hc : c k = true
    · rw [smL_t hc, smL_t (by rw [← hk.1]; exact hc), ih, hk.2 hc]
    · rw [smL_f hc, smL_f (by rw [← hk.1]; exact hc), ih]
end
section
abbrev hsv (x v : Int32) : Prop := ¬ x &&& (nI 1 <<< (v &&& 31)) = 0
theorem r_usedBy (S : PS) (n nb : Nat) (set : Int32) (hX : Xn S n nb) : Run 0 40 [.ref 0, .int set] S (.inl (some (smL (fun k => decide (hs set k) && decide (S.2.1 1 k &&& S.1 0 6 = 0)) (S.2.1 2) n))) S := by
  refine run_of (by decide +kernel) rfl (fun L xs G hG => ?_)
  have main : ∀ k, k ≤ n → G 0 4 [(3, .int (nI k)), (2, .int (smL (fun k => decide (hs set k) && decide (S.2.1 1 k &&& S.1 0 6 = 0)) (S.2.1 2) k)), (0, .ref 0), (1, .int set)] [] S := by
    have hn := hX.2.1
    refine loop_up (fun k hk ih => ?_) ?_
    · repeat (refine hG.1 _ _ _ _ _ _ rfl ?_)
      rw [hX.1]
      refine And.intro (fun h => ?_) (fun h => ?_)
      · exact absurd h (nI_ge (by omega) (by omega))
      · repeat (refine hG.1 _ _ _ _ _ _ rfl ?_)
        refine cx (r_has S _ _) rfl ?_
        repeat (refine hG.1 _ _ _ _ _ _ rfl ?_)
        refine And.intro (fun h1 => ?_) (fun h1 => ?_)
        · rw [bi_0] at h1
          rw [smL_f (fun z => by simp only [Bool.and_eq_true, decide_eq_true_eq] at z; exact h1 z.1)] at ih
          repeat (first | (refine wk hG ?_ (ih); (repeat (refine And.intro (by first | with_reducible rfl | with_reducible exact nI_add _ _ | with_reducible exact pk_m1 _ | rfl) ?_)); exact trivial) | refine hG.1 _ _ _ _ _ _ rfl ?_)
        · rw [bi_n] at h1
          repeat (refine hG.1 _ _ _ _ _ _ rfl ?_)
          refine And.intro rfl (cx (r_isOpenTo S _ _ (vp_in_nI (show k < 16 by omega) (by decide))) rfl ?_)
          rw [nI_clamp (show k < 2 ^ 31 by omega)]
          repeat (refine hG.1 _ _ _ _ _ _ rfl ?_)
          refine And.intro (fun h2 => ?_) (fun h2 => ?_)
          · rw [bi_0] at h2
            rw [smL_f (fun z => by simp only [Bool.and_eq_true, decide_eq_true_eq] at z; exact h2 z.2)] at ih
            repeat (first | (refine wk hG ?_ (ih); (repeat (refine And.intro (by first | with_reducible rfl | with_reducible exact nI_add _ _ | with_reducible exact pk_m1 _ | rfl) ?_)); exact trivial) | refine hG.1 _ _ _ _ _ _ rfl ?_)
          · rw [bi_n] at h2
            rw [smL_t (by simp only [Bool.and_eq_true, decide_eq_true_eq]; exact ⟨h1, h2⟩)] at ih
            repeat (refine hG.1 _ _ _ _ _ _ rfl ?_)
            refine And.intro (vp_in_nI ((show k < 16 by omega)) (by decide)) ?_; rw [nI_clamp (Nat.lt_trans ((show k < 16 by omega)) (by decide))]
            repeat (first | (refine wk hG ?_ (ih); (repeat (refine And.intro (by first | with_reducible rfl | with_reducible exact nI_add _ _ | with_reducible exact pk_m1 _ | rfl) ?_)); exact trivial) | refine hG.1 _ _ _ _ _ _ rfl ?_)
    · repeat (refine hG.1 _ _ _ _ _ _ rfl ?_)
      rw [hX.1]
      refine And.intro (fun h => ?_) (fun h => ?_)
      · repeat (refine hG.1 _ _ _ _ _ _ rfl ?_)
        refine And.intro rfl (And.intro ?_ rfl)
        rfl
      · exact absurd (nI_le (Nat.le_refl _) (by omega)) h
  have h0 := main 0 (Nat.zero_le _); simp only [smL] at h0; repeat (first | (refine wk hG ?_ (h0); (repeat (refine And.intro (by first | with_reducible rfl | with_reducible exact nI_add _ _ | with_reducible exact pk_m1 _ | rfl) ?_)); exact trivial) | refine hG.1 _ _ _ _ _ _ rfl ?_)
abbrev inA (A : Nat → Nat → Int32) (a k : Nat) : Bool := decide (hsv (A 1 k) (A 5 a)) && decide (A 1 k &&& A 6 a = 0)
theorem r_nodesOf (S : PS) (n nb a : Nat) (ha : a < 8) (hX : Xn S n nb) : Run 0 42 [.ref 0, .int (nI a)] S (.inl (some (stL (inA S.2.1 a) n))) S := by
  refine run_of (by decide +kernel) rfl (fun L xs G hG => ?_)
  have main : ∀ k, k ≤ n → G 0 4 [(3, .int (nI k)), (2, .int (stL (inA S.2.1 a) k)), (0, .ref 0), (1, .int (nI a))] [] S := by
    have hn := hX.2.1
    refine loop_up (fun k hk ih => ?_) ?_
    · repeat (refine hG.1 _ _ _ _ _ _ rfl ?_)
      rw [hX.1]
      refine And.intro (fun h => ?_) (fun h => ?_)
      · exact absurd h (nI_ge (by omega) (by omega))
      · repeat (refine hG.1 _ _ _ _ _ _ rfl ?_)
        refine And.intro (vp_in_nI ((show k < 16 by omega)) (by decide)) ?_; rw [nI_clamp (Nat.lt_trans ((show k < 16 by omega)) (by decide))]
        repeat (refine hG.1 _ _ _ _ _ _ rfl ?_)
        refine And.intro (vp_in_nI (ha) (by decide)) ?_; rw [nI_clamp (Nat.lt_trans (ha) (by decide))]
        repeat (refine hG.1 _ _ _ _ _ _ rfl ?_)
        refine cx (r_has S _ _) rfl ?_
        repeat (refine hG.1 _ _ _ _ _ _ rfl ?_)
        refine And.intro (fun h1 => ?_) (fun h1 => ?_)
        · rw [bi_0] at h1
          rw [stL_f (fun z => by simp only [Bool.and_eq_true, decide_eq_true_eq] at z; exact h1 z.1)] at ih
          repeat (first | (refine wk hG ?_ (ih); (repeat (refine And.intro (by first | with_reducible rfl | with_reducible exact nI_add _ _ | with_reducible exact pk_m1 _ | rfl) ?_)); exact trivial) | refine hG.1 _ _ _ _ _ _ rfl ?_)
        · rw [bi_n] at h1
          repeat (refine hG.1 _ _ _ _ _ _ rfl ?_)
          refine And.intro (vp_in_nI ((show k < 16 by omega)) (by decide)) ?_; rw [nI_clamp (Nat.lt_trans ((show k < 16 by omega)) (by decide))]
          repeat (refine hG.1 _ _ _ _ _ _ rfl ?_)
          refine And.intro (vp_in_nI (ha) (by decide)) ?_; rw [nI_clamp (Nat.lt_trans (ha) (by decide))]
          repeat (refine hG.1 _ _ _ _ _ _ rfl ?_)
          refine And.intro (fun h2 => ?_) (fun h2 => ?_)
          · rw [stL_f (fun z => by simp only [Bool.and_eq_true, decide_eq_true_eq] at z; exact h2 z.2)] at ih
            repeat (first | (refine wk hG ?_ (ih); (repeat (refine And.intro (by first | with_reducible rfl | with_reducible exact nI_add _ _ | with_reducible exact pk_m1 _ | rfl) ?_)); exact trivial) | refine hG.1 _ _ _ _ _ _ rfl ?_)
          · rw [stL_t (by simp only [Bool.and_eq_true, decide_eq_true_eq]; exact ⟨h1, h2⟩)] at ih
            repeat (first | (refine wk hG ?_ (ih); (repeat (refine And.intro (by first | with_reducible rfl | with_reducible exact nI_add _ _ | with_reducible exact pk_m1 _ | rfl) ?_)); exact trivial) | refine hG.1 _ _ _ _ _ _ rfl ?_)
    · repeat (refine hG.1 _ _ _ _ _ _ rfl ?_)
      rw [hX.1]
      refine And.intro (fun h => ?_) (fun h => ?_)
      · repeat (refine hG.1 _ _ _ _ _ _ rfl ?_)
        refine And.intro rfl (And.intro ?_ rfl)
        rfl
      · exact absurd (nI_le (Nat.le_refl _) (by omega)) h
  have h0 := main 0 (Nat.zero_le _); simp only [stL] at h0; repeat (first | (refine wk hG ?_ (h0); (repeat (refine And.intro (by first | with_reducible rfl | with_reducible exact nI_add _ _ | with_reducible exact pk_m1 _ | rfl) ?_)); exact trivial) | refine hG.1 _ _ _ _ _ _ rfl ?_)
theorem r_outerExports (S : PS) (n nb a : Nat) (ha : a < 8) (hX : Xn S n nb) : Run 0 43 [.ref 0, .int (nI a)] S (.inl (some (stL (fun k => decide (S.2.1 1 k &&& S.2.1 6 a = one k)) n))) S := by
  refine run_of (by decide +kernel) rfl (fun L xs G hG => ?_)
  have main : ∀ k, k ≤ n → G 0 4 [(3, .int (nI k)), (2, .int (stL (fun k => decide (S.2.1 1 k &&& S.2.1 6 a = one k)) k)), (0, .ref 0), (1, .int (nI a))] [] S := by
    have hn := hX.2.1
    refine loop_up (fun k hk ih => ?_) ?_
    · repeat (refine hG.1 _ _ _ _ _ _ rfl ?_)
      rw [hX.1]
      refine And.intro (fun h => ?_) (fun h => ?_)
      · exact absurd h (nI_ge (by omega) (by omega))
      · repeat (refine hG.1 _ _ _ _ _ _ rfl ?_)
        refine And.intro (vp_in_nI ((show k < 16 by omega)) (by decide)) ?_; rw [nI_clamp (Nat.lt_trans ((show k < 16 by omega)) (by decide))]
        repeat (refine hG.1 _ _ _ _ _ _ rfl ?_)
        refine And.intro (vp_in_nI (ha) (by decide)) ?_; rw [nI_clamp (Nat.lt_trans (ha) (by decide))]
        repeat (refine hG.1 _ _ _ _ _ _ rfl ?_)
        refine And.intro (fun h1 => ?_) (fun h1 => ?_)
        · rw [stL_f (fun z => by simp only [decide_eq_true_eq] at z; exact h1 z)] at ih
          repeat (first | (refine wk hG ?_ (ih); (repeat (refine And.intro (by first | with_reducible rfl | with_reducible exact nI_add _ _ | with_reducible exact pk_m1 _ | rfl) ?_)); exact trivial) | refine hG.1 _ _ _ _ _ _ rfl ?_)
        · rw [stL_t (by simp only [decide_eq_true_eq]; exact h1)] at ih
          repeat (first | (refine wk hG ?_ (ih); (repeat (refine And.intro (by first | with_reducible rfl | with_reducible exact nI_add _ _ | with_reducible exact pk_m1 _ | rfl) ?_)); exact trivial) | refine hG.1 _ _ _ _ _ _ rfl ?_)
    · repeat (refine hG.1 _ _ _ _ _ _ rfl ?_)
      rw [hX.1]
      refine And.intro (fun h => ?_) (fun h => ?_)
      · repeat (refine hG.1 _ _ _ _ _ _ rfl ?_)
        refine And.intro rfl (And.intro ?_ rfl)
        rfl
      · exact absurd (nI_le (Nat.le_refl _) (by omega)) h
  have h0 := main 0 (Nat.zero_le _); simp only [stL] at h0; repeat (first | (refine wk hG ?_ (h0); (repeat (refine And.intro (by first | with_reducible rfl | with_reducible exact nI_add _ _ | with_reducible exact pk_m1 _ | rfl) ?_)); exact trivial) | refine hG.1 _ _ _ _ _ _ rfl ?_)
abbrev ptsX (A : Nat → Nat → Int32) (sh : Int32) (n a : Nat) : Int32 := (stL (inA A a) n &&& ((nI 1 <<< (A 5 a &&& 31)) ^^^ (-1))) &&& (sh ^^^ (-1))
theorem r_pipesToShut (S : PS) (n nb a : Nat) (ha : a < 8) (hX : Xn S n nb) : Run 0 44 [.ref 0, .int (nI a)] S (.inl (some (ptsX S.2.1 (S.1 0 6) n a))) S := by
  refine run_of (by decide +kernel) rfl (fun L xs G hG => ?_)
  repeat (refine hG.1 _ _ _ _ _ _ rfl ?_)
  refine And.intro rfl (cx (r_nodesOf S n nb a ha hX) rfl ?_)
  repeat (refine hG.1 _ _ _ _ _ _ rfl ?_)
  refine And.intro (vp_in_nI (ha) (by decide)) ?_; rw [nI_clamp (Nat.lt_trans (ha) (by decide))]
  repeat (refine hG.1 _ _ _ _ _ _ rfl ?_)
  refine And.intro rfl (And.intro ?_ rfl)
  rfl
def pst (c : Nat → Bool) (step : Int32) : Nat → Nat → Option Nat
  | 0, _ => none
  | k + 1, p => if c (k + 1) = true then (if nI p = step then some (k + 1) else pst c step k (p + 1)) else pst c step k p
theorem loop_dn {n : Nat} {I : Nat → Prop} (hs : ∀ k, k < n → I k → I (k + 1)) (he : I 0) : ∀ k, k ≤ n → I k
  | 0, _ => he
  | k + 1, h => hs k h (loop_dn hs he k (by omega))
theorem pipeOfStep_G (S : PS) (n nb a : Nat) (step : Int32) (ha : a < 8) (hX : Xn S n nb) (h1n : 1 ≤ n) {L : Nat} {xs : Nat → Int32} {K : Nat} {P : Nat → PR → PS → Prop} {G : KT} (hG : Cl 45 L xs K P G) (c : Nat → Bool) (hc : ∀ k, c k = decide (hs (ptsX S.2.1 (S.1 0 6) n a) k))
    (hs : ∀ k, pst c step (n - 1) 0 = some k → P 0 (.inl (some (nI k))) S) (hn : pst c step (n - 1) 0 = none → 1 ≤ K ∧ P 1 (.inr 1) S) : G 0 0 (lv_args 0 [.ref 0, .int (nI a), .int step]) [] S := by
  have hn16 := hX.2.1
  have main : ∀ k, k ≤ n - 1 → ∀ p, p + k ≤ 16 → pst c step k p = pst c step (n - 1) 0 → G 0 17 [(5, .int (nI k)), (4, .int (nI p)), (3, .int (ptsX S.2.1 (S.1 0 6) n a)), (0, .ref 0), (1, .int (nI a)), (2, .int step)] [] S := by
    refine loop_dn (fun k hk ih => ?_) ?_
    · intro p hp he
      repeat (refine hG.1 _ _ _ _ _ _ rfl ?_)
      refine And.intro (fun h => ?_) (fun h => ?_)
      · exact absurd h (nI_nle (by omega) (by omega))
      · repeat (refine hG.1 _ _ _ _ _ _ rfl ?_)
        refine cx (r_has S _ _) rfl ?_
        repeat (refine hG.1 _ _ _ _ _ _ rfl ?_)
        refine And.intro (fun h1 => ?_) (fun h1 => ?_)
        · rw [bi_0] at h1
          have e : pst c step (k + 1) p = pst c step k p := by
            rw [pst, if_neg (by rw [hc]; simpa using h1)]
          have g := ih p (by omega) (e.symm.trans he)
          repeat (first | (refine wk hG ?_ (g); (repeat (refine And.intro (by first | with_reducible rfl | with_reducible exact nI_add _ _ | with_reducible exact pk_m1 _ | rfl) ?_)); exact trivial) | refine hG.1 _ _ _ _ _ _ rfl ?_)
        · rw [bi_n] at h1
          have hct : c (k + 1) = true := by rw [hc]; simpa using h1
          repeat (refine hG.1 _ _ _ _ _ _ rfl ?_)
          refine And.intro (fun h2 => ?_) (fun h2 => ?_)
          · have e : pst c step (k + 1) p = pst c step k (p + 1) := by
              rw [pst, if_pos hct, if_neg h2]
            have g := ih (p + 1) (by omega) (e.symm.trans he)
            repeat (first | (refine wk hG ?_ (g); (repeat (refine And.intro (by first | with_reducible rfl | with_reducible exact nI_add _ _ | with_reducible exact pk_m1 _ | rfl) ?_)); exact trivial) | refine hG.1 _ _ _ _ _ _ rfl ?_)
          · have e : pst c step (k + 1) p = some (k + 1) := by
              rw [pst, if_pos hct, if_pos h2]
            repeat (refine hG.1 _ _ _ _ _ _ rfl ?_)
            exact And.intro rfl (hs _ (he.symm.trans e))
    · intro p hp he
      repeat (refine hG.1 _ _ _ _ _ _ rfl ?_)
      refine And.intro (fun h => ?_) (fun h => ?_)
      · repeat (refine hG.1 _ _ _ _ _ _ rfl ?_)
        have h9 := hn (he.symm.trans rfl)
        exact And.intro rfl (And.intro rfl (And.intro (by omega) h9.2))
      · exact absurd (Int32.le_refl 0) h
  repeat (refine hG.1 _ _ _ _ _ _ rfl ?_)
  refine And.intro rfl (cx (r_pipesToShut S n nb a ha hX) rfl ?_)
  have g := main (n - 1) (Nat.le_refl _) 0 (by omega) rfl
  have e : S.1 0 0 - nI 1 = nI (n - 1) := by
    rw [hX.1]
    exact pk_sub h1n
  rw [← e] at g
  repeat (first | (refine wk hG ?_ (g); (repeat (refine And.intro (by first | with_reducible rfl | with_reducible exact nI_add _ _ | with_reducible exact pk_m1 _ | rfl) ?_)); exact trivial) | refine hG.1 _ _ _ _ _ _ rfl ?_)
theorem r_pipeOfStep (S : PS) (n nb a k : Nat) (step : Int32) (ha : a < 8) (hX : Xn S n nb) (h1n : 1 ≤ n) (h : pst (fun k => decide (hs (ptsX S.2.1 (S.1 0 6) n a) k)) step (n - 1) 0 = some k) : Run 0 45 [.ref 0, .int (nI a), .int step] S (.inl (some (nI k))) S := by
  refine run_of (by decide +kernel) rfl (fun L xs G hG => ?_)
  exact pipeOfStep_G S n nb a step ha hX h1n hG _ (fun _ => rfl) (fun k' h' => by rw [h] at h'; cases h'; exact ⟨rfl, rfl⟩) (fun h' => by rw [h] at h'; cases h')
theorem r_pipeOfStep_x (S : PS) (n nb a : Nat) (step : Int32) (ha : a < 8) (hX : Xn S n nb) (h1n : 1 ≤ n) (h : pst (fun k => decide (hs (ptsX S.2.1 (S.1 0 6) n a) k)) step (n - 1) 0 = none) : Run 1 45 [.ref 0, .int (nI a), .int step] S (.inr 1) S := by
  refine run_of (by decide +kernel) rfl (fun L xs G hG => ?_)
  exact pipeOfStep_G S n nb a step ha hX h1n hG _ (fun _ => rfl) (fun k' h' => by rw [h] at h'; cases h') (fun _ => ⟨Nat.le_refl _, rfl, rfl⟩)
def csX (A : Nat → Nat → Int32) (nb : Nat) (rp sh : Int32) (b : Nat) : Int32 :=
  if hs rp b ∨ ¬ A 1 (A 7 b).toNatClampNeg &&& sh = 0 then nI 0 else amtL A rp (A 7 b).toNatClampNeg nb * fac (prs A (A 7 b).toNatClampNeg) / nI 1000 - (amtL A rp (A 7 b).toNatClampNeg nb - A 8 b) * fac (prs A (A 7 b).toNatClampNeg) / nI 1000
theorem r_costOf (S : PS) (n nb b q : Nat) (hb : b < 20) (hq : q < 16) (hbq : S.2.1 7 b = nI q) (hX : Xn S n nb) : Run 0 46 [.ref 0, .int (nI b)] S (.inl (some (csX S.2.1 nb (S.1 0 14) (S.1 0 6) b))) S := by
  have hq2 : (S.2.1 7 b).toNatClampNeg = q := by rw [hbq]; exact nI_clamp (by omega)
  refine run_of (by decide +kernel) rfl (fun L xs G hG => ?_)
  repeat (refine hG.1 _ _ _ _ _ _ rfl ?_)
  refine And.intro (vp_in_nI (hb) (by decide)) ?_; rw [nI_clamp (Nat.lt_trans (hb) (by decide))]
  repeat (refine hG.1 _ _ _ _ _ _ rfl ?_)
  refine cx (r_has S _ _) rfl ?_
  repeat (refine hG.1 _ _ _ _ _ _ rfl ?_)
  refine And.intro (fun h1 => ?_) (fun h1 => ?_)
  · rw [bi_n] at h1
    repeat (refine hG.1 _ _ _ _ _ _ rfl ?_)
    refine And.intro rfl (And.intro ?_ rfl)
    rw [csX, if_pos (Or.inl h1)]
  · rw [bi_0] at h1
    repeat (refine hG.1 _ _ _ _ _ _ rfl ?_)
    refine And.intro rfl (cx (r_isOpenTo S _ _ (by rw [hbq]; exact vp_in_nI hq (by decide))) rfl ?_)
    repeat (refine hG.1 _ _ _ _ _ _ rfl ?_)
    refine And.intro (fun h2 => ?_) (fun h2 => ?_)
    · rw [bi_n, hq2] at h2
      repeat (refine hG.1 _ _ _ _ _ _ rfl ?_)
      rw [hbq]
      refine And.intro rfl (cx (r_amountAt S q nb hq hX.2.2.2.1 hX.2.2.1) rfl ?_)
      repeat (refine hG.1 _ _ _ _ _ _ rfl ?_)
      refine And.intro rfl (cx (r_leakageOf S _ q hq hX.2.2.2.2) rfl ?_)
      repeat (refine hG.1 _ _ _ _ _ _ rfl ?_)
      refine And.intro (vp_in_nI (hb) (by decide)) ?_; rw [nI_clamp (Nat.lt_trans (hb) (by decide))]
      repeat (refine hG.1 _ _ _ _ _ _ rfl ?_)
      refine And.intro rfl (cx (r_leakageOf S _ q hq hX.2.2.2.2) rfl ?_)
      repeat (refine hG.1 _ _ _ _ _ _ rfl ?_)
      refine And.intro rfl (And.intro ?_ rfl)
      rw [csX, hq2, if_neg]
      rintro (z | z)
      · exact h1 z
      · exact z h2
    · rw [bi_0, hq2] at h2
      repeat (refine hG.1 _ _ _ _ _ _ rfl ?_)
      refine And.intro rfl (And.intro ?_ rfl)
      rw [csX, hq2, if_pos (Or.inr h2)]
theorem r_isAhead (S : PS) (b o : Nat) (hb : b < 20) (ho : o < 20) : Run 0 49 [.ref 0, .int (nI b), .int (nI o)] S (.inl (some (bi (¬ S.2.1 10 b * S.2.1 9 o ≤ S.2.1 10 o * S.2.1 9 b)))) S := by
  refine run_of (by decide +kernel) rfl (fun L xs G hG => ?_)
  repeat (refine hG.1 _ _ _ _ _ _ rfl ?_)
  refine And.intro (vp_in_nI (hb) (by decide)) ?_; rw [nI_clamp (Nat.lt_trans (hb) (by decide))]
  repeat (refine hG.1 _ _ _ _ _ _ rfl ?_)
  refine And.intro (vp_in_nI (ho) (by decide)) ?_; rw [nI_clamp (Nat.lt_trans (ho) (by decide))]
  repeat (refine hG.1 _ _ _ _ _ _ rfl ?_)
  refine And.intro (vp_in_nI (ho) (by decide)) ?_; rw [nI_clamp (Nat.lt_trans (ho) (by decide))]
  repeat (refine hG.1 _ _ _ _ _ _ rfl ?_)
  refine And.intro (vp_in_nI (hb) (by decide)) ?_; rw [nI_clamp (Nat.lt_trans (hb) (by decide))]
  repeat (refine hG.1 _ _ _ _ _ _ rfl ?_)
  refine And.intro (fun h => ?_) (fun h => ?_)
  · repeat (refine hG.1 _ _ _ _ _ _ rfl ?_)
    refine And.intro rfl (And.intro ?_ rfl)
    rw [bi_f (fun z => z h)]
  · repeat (refine hG.1 _ _ _ _ _ _ rfl ?_)
    refine And.intro rfl (And.intro ?_ rfl)
    rw [bi_t h]
end
section
theorem va_up_up {α : Type} (f : Nat → α) (k : Nat) (u v : α) : va_up (va_up f k u) k v = va_up f k v := by
  funext j
  unfold va_up
  split <;> rfl
theorem va_up_id {α : Type} (f : Nat → α) (k : Nat) : va_up f k (f k) = f := by
  funext j
  unfold va_up
  split
  · rename_i h; rw [h]
  · rfl
theorem va_up_cm {α : Type} (f : Nat → α) {j k : Nat} (h : j ≠ k) (u v : α) : va_up (va_up f j u) k v = va_up (va_up f k v) j u := by
  funext i
  unfold va_up
  split
  · rename_i h1
    split
    · rename_i h2; exact absurd (h2.symm.trans h1) h
    · rfl
  · rfl
def insF (ah : Int32 → Bool) (v : Int32) : Nat → (Nat → Int32) → (Nat → Int32)
  | 0, f => upd f 0 v
  | p + 1, f => if ah (f p) = true then insF ah v p (upd f (p + 1) (f p)) else upd f (p + 1) v
abbrev st11 (S : PS) (f : Nat → Int32) : PS := (S.1, va_up S.2.1 11 f, S.2.2)
theorem st11_up (S : PS) (f g : Nat → Int32) : st11 (st11 S f) g = st11 S g := by
  unfold st11
  rw [va_up_up]
theorem upd_lt {f : Nat → Int32} {p k : Nat} {x : Int32} (h : k ≠ p) : upd f p x k = f k := by
  unfold upd
  rw [if_neg h]
abbrev ahX (fc h : Nat → Int32) (b : Nat) (v : Int32) : Bool := decide (¬ fc b * h v.toNatClampNeg ≤ fc v.toNatClampNeg * h b)
theorem r_insertByRank (S : PS) (b m : Nat) (hb : b < 20) (hm : m < 20) (hf : ∀ p, p < m → ∃ o : Nat, o < 20 ∧ S.2.1 11 p = nI o) : Run 0 48 [.ref 0, .int (nI b), .int (nI m)] S (.inl none) (st11 S (insF (ahX (S.2.1 10) (S.2.1 9) b) (nI b) m (S.2.1 11))) := by
  refine run_of (by decide +kernel) rfl (fun L xs G hG => ?_)
  have main : ∀ p, p ≤ m → ∀ f : Nat → Int32, (∀ k, k < p → ∃ o : Nat, o < 20 ∧ f k = nI o) → insF (ahX (S.2.1 10) (S.2.1 9) b) (nI b) p f = insF (ahX (S.2.1 10) (S.2.1 9) b) (nI b) m (S.2.1 11) →
      G 0 2 [(3, .int (nI p)), (0, .ref 0), (1, .int (nI b))] [] (st11 S f) := by
    refine loop_dn (fun p hp ih => ?_) ?_
    · intro f hfo he
      obtain ⟨o, ho, hfp⟩ := hfo p (by omega)
      repeat (refine hG.1 _ _ _ _ _ _ rfl ?_)
      refine And.intro (fun h => ?_) (fun h => ?_)
      · exact absurd h (nI_nle (by omega) (by omega))
      · repeat (refine hG.1 _ _ _ _ _ _ rfl ?_)
        rw [show nI (p + 1) - nI 1 = nI p from pk_sub (by omega)]
        refine And.intro (vp_in_nI ((show p < 20 by omega)) (by decide)) ?_; rw [nI_clamp (Nat.lt_trans ((show p < 20 by omega)) (by decide))]
        rw [show (st11 S f).2.1 11 p = nI o from hfp]
        repeat (refine hG.1 _ _ _ _ _ _ rfl ?_)
        refine And.intro rfl (cx (r_isAhead (st11 S f) b o hb ho) rfl ?_)
        repeat (refine hG.1 _ _ _ _ _ _ rfl ?_)
        refine And.intro (fun h1 => ?_) (fun h1 => ?_)
        · rw [bi_0] at h1
          have e : insF (ahX (S.2.1 10) (S.2.1 9) b) (nI b) (p + 1) f = upd f (p + 1) (nI b) := by
            rw [insF, if_neg]
            intro z
            simp only [ahX, decide_eq_true_eq, hfp] at z
            rw [nI_clamp (show o < 2 ^ 31 by omega)] at z
            exact h1 z
          repeat (refine hG.1 _ _ _ _ _ _ rfl ?_)
          refine And.intro (vp_in_nI ((show p + 1 < 20 by omega)) (by decide)) ?_; rw [nI_clamp (Nat.lt_trans ((show p + 1 < 20 by omega)) (by decide))]
          repeat (refine hG.1 _ _ _ _ _ _ rfl ?_)
          refine And.intro rfl (And.intro rfl ?_)
          rw [← he, e]
          exact st11_up S f _
        · rw [bi_n] at h1
          have e : insF (ahX (S.2.1 10) (S.2.1 9) b) (nI b) (p + 1) f = insF (ahX (S.2.1 10) (S.2.1 9) b) (nI b) p (upd f (p + 1) (f p)) := by
            rw [insF, if_pos]
            simp only [ahX, decide_eq_true_eq, hfp]
            rw [nI_clamp (show o < 2 ^ 31 by omega)]
            exact h1
          repeat (refine hG.1 _ _ _ _ _ _ rfl ?_)
          rw [show nI (p + 1) - nI 1 = nI p from pk_sub (by omega)]
          refine And.intro (vp_in_nI ((show p < 20 by omega)) (by decide)) ?_; rw [nI_clamp (Nat.lt_trans ((show p < 20 by omega)) (by decide))]
          repeat (refine hG.1 _ _ _ _ _ _ rfl ?_)
          refine And.intro (vp_in_nI ((show p + 1 < 20 by omega)) (by decide)) ?_; rw [nI_clamp (Nat.lt_trans ((show p + 1 < 20 by omega)) (by decide))]
          have g := ih (upd f (p + 1) (f p)) (fun k hk => by rw [upd_lt (by omega)]; exact hfo k (by omega)) (e.symm.trans he)
          rw [← st11_up S f] at g
          repeat (first | (refine wk hG ?_ (g); (repeat (refine And.intro (by first | with_reducible rfl | with_reducible exact nI_add _ _ | with_reducible exact pk_m1 _ | rfl) ?_)); exact trivial) | refine hG.1 _ _ _ _ _ _ rfl ?_)
    · intro f _ he
      repeat (refine hG.1 _ _ _ _ _ _ rfl ?_)
      refine And.intro (fun h => ?_) (fun h => ?_)
      · repeat (refine hG.1 _ _ _ _ _ _ rfl ?_)
        refine And.intro (vp_in_nI ((show 0 < 20 by omega)) (by decide)) ?_; rw [nI_clamp (Nat.lt_trans ((show 0 < 20 by omega)) (by decide))]
        repeat (refine hG.1 _ _ _ _ _ _ rfl ?_)
        refine And.intro rfl (And.intro rfl ?_)
        rw [← he]
        exact st11_up S f _
      · exact absurd (Int32.le_refl 0) h
  have g := main m (Nat.le_refl _) (S.2.1 11) hf rfl
  have e : st11 S (S.2.1 11) = S := by
    unfold st11
    rw [va_up_id]
  rw [e] at g
  repeat (first | (refine wk hG ?_ (g); (repeat (refine And.intro (by first | with_reducible rfl | with_reducible exact nI_add _ _ | with_reducible exact pk_m1 _ | rfl) ?_)); exact trivial) | refine hG.1 _ _ _ _ _ _ rfl ?_)
theorem insF_out {ah : Int32 → Bool} {v : Int32} : ∀ {m p : Nat} {f : Nat → Int32}, m < p → insF ah v m f p = f p
  | 0, p, f, h => by rw [insF, upd_lt (by omega)]
  | m + 1, p, f, h => by
    rw [insF]
    split
    · rw [insF_out (by omega), upd_lt (by omega)]
    · rw [upd_lt (by omega)]
theorem upd_same {f : Nat → Int32} {p : Nat} {x : Int32} : upd f p x p = x := by
  unfold upd
  rw [if_pos rfl]
theorem insF_mem {ah : Int32 → Bool} {v : Int32} : ∀ {m p : Nat} {f : Nat → Int32}, p ≤ m → insF ah v m f p = v ∨ ∃ k, k < m ∧ insF ah v m f p = f k
  | 0, p, f, h => by
    have : p = 0 := by omega
    subst this
    exact Or.inl upd_same
  | m + 1, p, f, h => by
    rw [insF]
    split
    · rcases Nat.lt_or_ge m p with hp | hp
      · have : p = m + 1 := by omega
        subst this
        rw [insF_out (by omega), upd_same]
        exact Or.inr ⟨m, by omega, rfl⟩
      · rcases insF_mem (ah := ah) (v := v) (f := upd f (m + 1) (f m)) hp with h1 | ⟨k, hk, h1⟩
        · exact Or.inl h1
        · exact Or.inr ⟨k, by omega, by rw [h1, upd_lt (by omega)]⟩
    · by_cases hp : p = m + 1
      · subst hp
        exact Or.inl upd_same
      · exact Or.inr ⟨p, by omega, upd_lt hp⟩
def rkS (cs h : Nat → Int32) (rp : Int32) (f10 f11 : Nat → Int32) : Nat → (Nat → Int32) × (Nat → Int32) × Nat
  | 0 => (f10, f11, 0)
  | b + 1 => if hs rp b then rkS cs h rp f10 f11 b else (upd (rkS cs h rp f10 f11 b).1 b (cs b), insF (ahX (upd (rkS cs h rp f10 f11 b).1 b (cs b)) h b) (nI b) (rkS cs h rp f10 f11 b).2.2 (rkS cs h rp f10 f11 b).2.1, (rkS cs h rp f10 f11 b).2.2 + 1)
theorem rkS_p {cs h : Nat → Int32} {rp : Int32} {f10 f11 : Nat → Int32} {b : Nat} (hb : hs rp b) : rkS cs h rp f10 f11 (b + 1) = rkS cs h rp f10 f11 b := by rw [rkS, if_pos hb]
theorem rkS_n {cs h : Nat → Int32} {rp : Int32} {f10 f11 : Nat → Int32} {b : Nat} (hb : ¬ hs rp b) : rkS cs h rp f10 f11 (b + 1) = (upd (rkS cs h rp f10 f11 b).1 b (cs b), insF (ahX (upd (rkS cs h rp f10 f11 b).1 b (cs b)) h b) (nI b) (rkS cs h rp f10 f11 b).2.2 (rkS cs h rp f10 f11 b).2.1, (rkS cs h rp f10 f11 b).2.2 + 1) := by rw [rkS, if_neg hb]
theorem rkS_in {cs h : Nat → Int32} {rp : Int32} {f10 f11 : Nat → Int32} : ∀ b, (rkS cs h rp f10 f11 b).2.2 ≤ b ∧ ∀ p, p < (rkS cs h rp f10 f11 b).2.2 → ∃ o, o < b ∧ (rkS cs h rp f10 f11 b).2.1 p = nI o
  | 0 => ⟨Nat.le_refl _, fun p hp => absurd hp (Nat.not_lt_zero _)⟩
  | b + 1 => by
    obtain ⟨h1, h2⟩ := rkS_in (cs := cs) (h := h) (rp := rp) (f10 := f10) (f11 := f11) b
    by_cases hb : hs rp b
    · rw [rkS_p hb]
      refine ⟨by omega, fun p hp => ?_⟩
      obtain ⟨o, ho, e⟩ := h2 p hp
      exact ⟨o, by omega, e⟩
    · rw [rkS_n hb]
      refine ⟨by show _ + 1 ≤ b + 1; omega, fun p hp => ?_⟩
      have hp2 : p < (rkS cs h rp f10 f11 b).2.2 + 1 := hp
      rcases insF_mem (ah := ahX (upd (rkS cs h rp f10 f11 b).1 b (cs b)) h b) (v := nI b) (f := (rkS cs h rp f10 f11 b).2.1) (show p ≤ (rkS cs h rp f10 f11 b).2.2 by omega) with h3 | ⟨k, hk, h3⟩
      · exact ⟨b, by omega, h3⟩
      · obtain ⟨o, ho, e⟩ := h2 k hk
        exact ⟨o, by omega, h3.trans e⟩
theorem amtL_congr {A A' : Nat → Nat → Int32} {rp : Int32} {j : Nat} (h3 : A' 3 = A 3) (h7 : A' 7 = A 7) (h8 : A' 8 = A 8) : ∀ k, amtL A' rp j k = amtL A rp j k
  | 0 => by rw [amtL, amtL, h3]
  | k + 1 => by rw [amtL, amtL, amtL_congr h3 h7 h8 k, h7, h8]
theorem csX_congr {A A' : Nat → Nat → Int32} {nb : Nat} {rp sh : Int32} {b : Nat} (h1 : A' 1 = A 1) (h3 : A' 3 = A 3) (h4 : A' 4 = A 4) (h7 : A' 7 = A 7) (h8 : A' 8 = A 8) : csX A' nb rp sh b = csX A nb rp sh b := by
  simp only [csX, prs, amtL_congr h3 h7 h8, h1, h4, h7, h8]
abbrev st2 (S : PS) (fc fb : Nat → Int32) : PS := (S.1, va_up (va_up S.2.1 10 fc) 11 fb, S.2.2)
theorem st2_10 (S : PS) (fc fb g : Nat → Int32) : ((st2 S fc fb).1, va_up (st2 S fc fb).2.1 10 g, (st2 S fc fb).2.2) = st2 S g fb := by
  unfold st2
  simp only
  rw [va_up_cm (va_up S.2.1 10 fc) (j := 11) (k := 10) (by decide), va_up_up]
theorem st2_11 (S : PS) (fc fb g : Nat → Int32) : st11 (st2 S fc fb) g = st2 S fc g := by
  unfold st11 st2
  simp only
  rw [va_up_up]
theorem st2_id (S : PS) : st2 S (S.2.1 10) (S.2.1 11) = S := by
  unfold st2
  rw [va_up_id, va_up_id]
def BnOk (A : Nat → Nat → Int32) (nb : Nat) : Prop := ∀ b, b < nb → ∃ q : Nat, q < 16 ∧ A 7 b = nI q
abbrev rkR (S : PS) (nb : Nat) : (Nat → Int32) × (Nat → Int32) × Nat := rkS (csX S.2.1 nb (S.1 0 14) (S.1 0 6)) (S.2.1 9) (S.1 0 14) (S.2.1 10) (S.2.1 11) nb
theorem r_rankBursts (S : PS) (n nb : Nat) (hX : Xn S n nb) (hB : BnOk S.2.1 nb) : Run 0 47 [.ref 0] S (.inl (some (nI (rkR S nb).2.2))) (st2 S (rkR S nb).1 (rkR S nb).2.1) := by
  have hnb := hX.2.2.2.1
  obtain ⟨R, hR⟩ : ∃ R, R = rkS (csX S.2.1 nb (S.1 0 14) (S.1 0 6)) (S.2.1 9) (S.1 0 14) (S.2.1 10) (S.2.1 11) := ⟨_, rfl⟩
  have e0 : rkR S nb = R nb := by rw [hR]
  rw [e0]
  refine run_of (by decide +kernel) rfl (fun L xs G hG => ?_)
  have main : ∀ b, b ≤ nb → G 0 4 [(2, .int (nI b)), (1, .int (nI (R b).2.2)), (0, .ref 0)] [] (st2 S (R b).1 (R b).2.1) := by
    refine loop_up (fun b hb ih => ?_) ?_
    · have hin := rkS_in (cs := csX S.2.1 nb (S.1 0 14) (S.1 0 6)) (h := S.2.1 9) (rp := S.1 0 14) (f10 := S.2.1 10) (f11 := S.2.1 11) b
      rw [← hR] at hin
      repeat (refine hG.1 _ _ _ _ _ _ rfl ?_)
      rw [show (st2 S (R b).1 (R b).2.1).1 0 10 = nI nb from hX.2.2.1]
      refine And.intro (fun h => ?_) (fun h => ?_)
      · exact absurd h (nI_ge (by omega) (by omega))
      · repeat (refine hG.1 _ _ _ _ _ _ rfl ?_)
        refine cx (r_has _ _ _) rfl ?_
        repeat (refine hG.1 _ _ _ _ _ _ rfl ?_)
        refine And.intro (fun h1 => ?_) (fun h1 => ?_)
        · rw [bi_n] at h1
          have e : R (b + 1) = R b := by rw [hR]; exact rkS_p h1
          rw [e] at ih
          repeat (first | (refine wk hG ?_ (ih); (repeat (refine And.intro (by first | with_reducible rfl | with_reducible exact nI_add _ _ | with_reducible exact pk_m1 _ | rfl) ?_)); exact trivial) | refine hG.1 _ _ _ _ _ _ rfl ?_)
        · rw [bi_0] at h1
          have e : R (b + 1) = (upd (R b).1 b (csX S.2.1 nb (S.1 0 14) (S.1 0 6) b), insF (ahX (upd (R b).1 b (csX S.2.1 nb (S.1 0 14) (S.1 0 6) b)) (S.2.1 9) b) (nI b) (R b).2.2 (R b).2.1, (R b).2.2 + 1) := by rw [hR]; exact rkS_n h1
          rw [e] at ih
          obtain ⟨q, hq, hbq⟩ := hB b hb
          repeat (refine hG.1 _ _ _ _ _ _ rfl ?_)
          refine And.intro rfl (cx (r_costOf (st2 S (R b).1 (R b).2.1) n nb b q (by omega) hq hbq hX) rfl ?_)
          repeat (refine hG.1 _ _ _ _ _ _ rfl ?_)
          refine And.intro (vp_in_nI ((show b < 20 by omega)) (by decide)) ?_; rw [nI_clamp (Nat.lt_trans ((show b < 20 by omega)) (by decide))]
          rw [st2_10, show csX (st2 S (R b).1 (R b).2.1).2.1 nb ((st2 S (R b).1 (R b).2.1).1 0 14) ((st2 S (R b).1 (R b).2.1).1 0 6) b = csX S.2.1 nb (S.1 0 14) (S.1 0 6) b from csX_congr rfl rfl rfl rfl rfl]
          repeat (refine hG.1 _ _ _ _ _ _ rfl ?_)
          refine And.intro rfl (cx (r_insertByRank (st2 S (upd (R b).1 b (csX S.2.1 nb (S.1 0 14) (S.1 0 6) b)) (R b).2.1) b (R b).2.2 (by omega) (by omega) (fun p hp => by obtain ⟨o, ho, e⟩ := hin.2 p hp; exact ⟨o, by omega, e⟩)) rfl ?_)
          rw [st2_11]
          repeat (first | (refine wk hG ?_ (ih); (repeat (refine And.intro (by first | with_reducible rfl | with_reducible exact nI_add _ _ | with_reducible exact pk_m1 _ | rfl) ?_)); exact trivial) | refine hG.1 _ _ _ _ _ _ rfl ?_)
    · repeat (refine hG.1 _ _ _ _ _ _ rfl ?_)
      rw [show (st2 S (R nb).1 (R nb).2.1).1 0 10 = nI nb from hX.2.2.1]
      refine And.intro (fun h => ?_) (fun h => ?_)
      · repeat (refine hG.1 _ _ _ _ _ _ rfl ?_)
        exact And.intro rfl (And.intro rfl rfl)
      · exact absurd (nI_le (Nat.le_refl _) (by omega)) h
  have g := main 0 (Nat.zero_le _)
  have e2 : R 0 = (S.2.1 10, S.2.1 11, 0) := by rw [hR, rkS]
  rw [e2] at g
  simp only [st2_id] at g
  repeat (first | (refine wk hG ?_ (g); (repeat (refine And.intro (by first | with_reducible rfl | with_reducible exact nI_add _ _ | with_reducible exact pk_m1 _ | rfl) ?_)); exact trivial) | refine hG.1 _ _ _ _ _ _ rfl ?_)
end
section
abbrev okR (x lo hi : Int32) : Prop := ¬ x < lo ∧ x ≤ hi
abbrev noR (x lo hi : Int32) : Prop := x < lo ∨ ¬ x ≤ hi
abbrev noN (x c : Int32) : Prop := x < 0 ∨ ¬ x < c
theorem nI_okn {j n : Nat} (h : j < n) (hn : n ≤ 100) : ¬ nI j < 0 ∧ nI j < nI n := ⟨nI_pos (by omega), nI_lt h (by omega)⟩
theorem nI_okp {j n : Nat} (h0 : 0 < j) (h : j < n) (hn : n ≤ 100) : ¬ nI j ≤ 0 ∧ nI j < nI n := ⟨nI_nle h0 (by omega), nI_lt h (by omega)⟩
theorem x_addNode_0 (S : PS) (on use : Int32) (h : noR use (nI 0) (nI 10000)) : Run 1 1 [.ref 0, .int on, .int use] S (.inr 0) S := by
  refine run_of (by decide +kernel) rfl (fun L xs G hG => ?_)
  repeat (refine hG.1 _ _ _ _ _ _ rfl ?_)
  refine cx (r_needRange_x S _ _ _ h) rfl ?_
  exact And.intro rfl (And.intro rfl rfl)
theorem x_addNode_1 (S : PS) (on use : Int32) (h : okR use (nI 0) (nI 10000)) (h1 : noN on (S.1 0 0)) : Run 1 1 [.ref 0, .int on, .int use] S (.inr 1) S := by
  refine run_of (by decide +kernel) rfl (fun L xs G hG => ?_)
  repeat (refine hG.1 _ _ _ _ _ _ rfl ?_)
  refine cx (r_needRange S _ _ _ h.1 h.2) rfl ?_
  repeat (refine hG.1 _ _ _ _ _ _ rfl ?_)
  refine And.intro rfl (cx (r_needNode_x S _ h1) rfl ?_)
  exact And.intro rfl (And.intro rfl rfl)
theorem x_addNode_2 (S : PS) (j : Nat) (use : Int32) (h : okR use (nI 0) (nI 10000)) (hn : S.1 0 0 = nI 16) (hj : j < 16) : Run 1 1 [.ref 0, .int (nI j), .int use] S (.inr 2) S := by
  have hk := nI_okn hj (by omega)
  refine run_of (by decide +kernel) rfl (fun L xs G hG => ?_)
  repeat (refine hG.1 _ _ _ _ _ _ rfl ?_)
  refine cx (r_needRange S _ _ _ h.1 h.2) rfl ?_
  repeat (refine hG.1 _ _ _ _ _ _ rfl ?_)
  refine And.intro rfl (cx (r_needNode S _ hk.1 (by rw [hn]; exact hk.2)) rfl ?_)
  repeat (refine hG.1 _ _ _ _ _ _ rfl ?_)
  rw [hn]
  refine cx (r_needRoom_x S _ _ (by decide)) rfl ?_
  exact And.intro rfl (And.intro rfl rfl)
abbrev sAddNode (S : PS) (n j : Nat) (use : Int32) : PS := (va_up S.1 0 (upd (S.1 0) 0 (nI (n + 1))), va_up (va_up (va_up S.2.1 1 (upd (S.2.1 1) n (S.2.1 1 j ||| one n))) 2 (upd (S.2.1 2) n use)) 4 (upd (S.2.1 4) n (-1)), S.2.2)
theorem x_addNode (S : PS) (j n : Nat) (use : Int32) (h : okR use (nI 0) (nI 10000)) (hn : S.1 0 0 = nI n) (hj : j < n) (hn16 : n < 16) : Run 0 1 [.ref 0, .int (nI j), .int use] S (.inl (some (nI n))) (sAddNode S n j use) := by
  have hk := nI_okn hj (by omega)
  refine run_of (by decide +kernel) rfl (fun L xs G hG => ?_)
  repeat (refine hG.1 _ _ _ _ _ _ rfl ?_)
  refine cx (r_needRange S _ _ _ h.1 h.2) rfl ?_
  repeat (refine hG.1 _ _ _ _ _ _ rfl ?_)
  refine And.intro rfl (cx (r_needNode S _ hk.1 (by rw [hn]; exact hk.2)) rfl ?_)
  repeat (refine hG.1 _ _ _ _ _ _ rfl ?_)
  rw [hn]
  refine cx (r_needRoom S _ _ (nI_lt hn16 (by decide))) rfl ?_
  repeat (refine hG.1 _ _ _ _ _ _ rfl ?_)
  refine And.intro (vp_in_nI ((show j < 16 by omega)) (by decide)) ?_; rw [nI_clamp (Nat.lt_trans ((show j < 16 by omega)) (by decide))]
  rw [hn]
  repeat (refine hG.1 _ _ _ _ _ _ rfl ?_)
  refine And.intro (vp_in_nI (hn16) (by decide)) ?_; rw [nI_clamp (Nat.lt_trans (hn16) (by decide))]
  repeat (refine hG.1 _ _ _ _ _ _ rfl ?_)
  refine And.intro (vp_in_nI (hn16) (by decide)) ?_; rw [nI_clamp (Nat.lt_trans (hn16) (by decide))]
  repeat (refine hG.1 _ _ _ _ _ _ rfl ?_)
  refine And.intro (vp_in_nI (hn16) (by decide)) ?_; rw [nI_clamp (Nat.lt_trans (hn16) (by decide))]
  repeat (refine hG.1 _ _ _ _ _ _ rfl ?_)
  rw [nI_add]
  repeat (refine hG.1 _ _ _ _ _ _ rfl ?_)
  exact And.intro rfl (And.intro rfl rfl)
theorem x_setBackground_0 (S : PS) (x amt : Int32) (h : noR amt (nI 0) (nI 10000)) : Run 1 2 [.ref 0, .int x, .int amt] S (.inr 0) S := by
  refine run_of (by decide +kernel) rfl (fun L xs G hG => ?_)
  repeat (refine hG.1 _ _ _ _ _ _ rfl ?_)
  refine cx (r_needRange_x S _ _ _ h) rfl ?_
  exact And.intro rfl (And.intro rfl rfl)
theorem x_setBackground_1 (S : PS) (x amt : Int32) (h : okR amt (nI 0) (nI 10000)) (h1 : noN x (S.1 0 0)) : Run 1 2 [.ref 0, .int x, .int amt] S (.inr 1) S := by
  refine run_of (by decide +kernel) rfl (fun L xs G hG => ?_)
  repeat (refine hG.1 _ _ _ _ _ _ rfl ?_)
  refine cx (r_needRange S _ _ _ h.1 h.2) rfl ?_
  repeat (refine hG.1 _ _ _ _ _ _ rfl ?_)
  refine And.intro rfl (cx (r_needNode_x S _ h1) rfl ?_)
  exact And.intro rfl (And.intro rfl rfl)
abbrev sSetB (S : PS) (j : Nat) (amt : Int32) : PS := (S.1, va_up S.2.1 3 (upd (S.2.1 3) j amt), S.2.2)
theorem x_setBackground (S : PS) (j n nb : Nat) (amt : Int32) (h : okR amt (nI 0) (nI 10000)) (hX : Xn S n nb) (hj : j < n) : Run 0 2 [.ref 0, .int (nI j), .int amt] S (.inl (some (lkgX (sSetB S j amt).2.1 nb (S.1 0 14) j))) (sSetB S j amt) := by
  have hk := nI_okn hj (by have := hX.2.1; omega)
  have hn := hX.2.1
  refine run_of (by decide +kernel) rfl (fun L xs G hG => ?_)
  repeat (refine hG.1 _ _ _ _ _ _ rfl ?_)
  refine cx (r_needRange S _ _ _ h.1 h.2) rfl ?_
  repeat (refine hG.1 _ _ _ _ _ _ rfl ?_)
  refine And.intro rfl (cx (r_needNode S _ hk.1 (by rw [hX.1]; exact hk.2)) rfl ?_)
  repeat (refine hG.1 _ _ _ _ _ _ rfl ?_)
  refine And.intro (vp_in_nI ((show j < 16 by omega)) (by decide)) ?_; rw [nI_clamp (Nat.lt_trans ((show j < 16 by omega)) (by decide))]
  repeat (refine hG.1 _ _ _ _ _ _ rfl ?_)
  refine And.intro rfl (cx (r_leakageAt (sSetB S j amt) j n nb (by omega) hX) rfl ?_)
  repeat (refine hG.1 _ _ _ _ _ _ rfl ?_)
  exact And.intro rfl (And.intro rfl rfl)
theorem x_setPressure_0 (S : PS) (x v : Int32) (h : noR v (-1) (nI 100)) : Run 1 3 [.ref 0, .int x, .int v] S (.inr 0) S := by
  refine run_of (by decide +kernel) rfl (fun L xs G hG => ?_)
  repeat (refine hG.1 _ _ _ _ _ _ rfl ?_)
  refine cx (r_needRange_x S _ _ _ h) rfl ?_
  exact And.intro rfl (And.intro rfl rfl)
theorem x_setPressure_1 (S : PS) (x v : Int32) (h : okR v (-1) (nI 100)) (h1 : x ≤ 0 ∨ ¬ x < S.1 0 0) : Run 1 3 [.ref 0, .int x, .int v] S (.inr 1) S := by
  refine run_of (by decide +kernel) rfl (fun L xs G hG => ?_)
  repeat (refine hG.1 _ _ _ _ _ _ rfl ?_)
  refine cx (r_needRange S _ _ _ h.1 h.2) rfl ?_
  repeat (refine hG.1 _ _ _ _ _ _ rfl ?_)
  refine And.intro rfl (cx (r_needPipe_x S _ h1) rfl ?_)
  exact And.intro rfl (And.intro rfl rfl)
abbrev sSetP (S : PS) (j : Nat) (v : Int32) : PS := (S.1, va_up S.2.1 4 (upd (S.2.1 4) j v), S.2.2)
theorem x_setPressure (S : PS) (j n : Nat) (v : Int32) (h : okR v (-1) (nI 100)) (hn : S.1 0 0 = nI n) (hn16 : n ≤ 16) (h0 : 0 < j) (hj : j < n) : Run 0 3 [.ref 0, .int (nI j), .int v] S (.inl (some (prs (sSetP S j v).2.1 j))) (sSetP S j v) := by
  have hk := nI_okp h0 hj (by omega)
  refine run_of (by decide +kernel) rfl (fun L xs G hG => ?_)
  repeat (refine hG.1 _ _ _ _ _ _ rfl ?_)
  refine cx (r_needRange S _ _ _ h.1 h.2) rfl ?_
  repeat (refine hG.1 _ _ _ _ _ _ rfl ?_)
  refine And.intro rfl (cx (r_needPipe S _ hk.1 (by rw [hn]; exact hk.2)) rfl ?_)
  repeat (refine hG.1 _ _ _ _ _ _ rfl ?_)
  refine And.intro (vp_in_nI ((show j < 16 by omega)) (by decide)) ?_; rw [nI_clamp (Nat.lt_trans ((show j < 16 by omega)) (by decide))]
  repeat (refine hG.1 _ _ _ _ _ _ rfl ?_)
  refine And.intro rfl (cx (r_pressureAt (sSetP S j v) j (by omega)) rfl ?_)
  repeat (refine hG.1 _ _ _ _ _ _ rfl ?_)
  exact And.intro rfl (And.intro rfl rfl)
theorem x_addMeter_0 (S : PS) (x : Int32) (h1 : x ≤ 0 ∨ ¬ x < S.1 0 0) : Run 1 4 [.ref 0, .int x] S (.inr 1) S := by
  refine run_of (by decide +kernel) rfl (fun L xs G hG => ?_)
  repeat (refine hG.1 _ _ _ _ _ _ rfl ?_)
  refine And.intro rfl (cx (r_needPipe_x S _ h1) rfl ?_)
  exact And.intro rfl (And.intro rfl rfl)
abbrev sMeter (S : PS) (j : Nat) : PS := (va_up S.1 0 (upd (S.1 0) 5 (S.1 0 5 ||| one j)), S.2.1, S.2.2)
theorem x_addMeter (S : PS) (j n : Nat) (hn : S.1 0 0 = nI n) (hn16 : n ≤ 16) (h0 : 0 < j) (hj : j < n) : Run 0 4 [.ref 0, .int (nI j)] S (.inl (some (bi (¬ hs (S.1 0 5) j)))) (sMeter S j) := by
  have hk := nI_okp h0 hj (by omega)
  refine run_of (by decide +kernel) rfl (fun L xs G hG => ?_)
  repeat (refine hG.1 _ _ _ _ _ _ rfl ?_)
  refine And.intro rfl (cx (r_needPipe S _ hk.1 (by rw [hn]; exact hk.2)) rfl ?_)
  repeat (refine hG.1 _ _ _ _ _ _ rfl ?_)
  refine cx (r_has S _ _) rfl ?_
  repeat (refine hG.1 _ _ _ _ _ _ rfl ?_)
  refine And.intro (fun h1 => ?_) (fun h1 => ?_)
  · rw [bi_n] at h1
    repeat (refine hG.1 _ _ _ _ _ _ rfl ?_)
    exact And.intro rfl (And.intro (by rw [bi_f (fun z => z h1)]) rfl)
  · rw [bi_0] at h1
    repeat (refine hG.1 _ _ _ _ _ _ rfl ?_)
    exact And.intro rfl (And.intro (by rw [bi_t h1]) rfl)
theorem x_toggleValve_0 (S : PS) (x : Int32) (h1 : x ≤ 0 ∨ ¬ x < S.1 0 0) : Run 1 5 [.ref 0, .int x] S (.inr 1) S := by
  refine run_of (by decide +kernel) rfl (fun L xs G hG => ?_)
  repeat (refine hG.1 _ _ _ _ _ _ rfl ?_)
  refine And.intro rfl (cx (r_needPipe_x S _ h1) rfl ?_)
  exact And.intro rfl (And.intro rfl rfl)
abbrev sValve (S : PS) (j : Nat) : PS := (va_up S.1 0 (upd (S.1 0) 6 (S.1 0 6 ^^^ one j)), S.2.1, S.2.2)
theorem x_toggleValve (S : PS) (j n : Nat) (hn : S.1 0 0 = nI n) (hn16 : n ≤ 16) (h0 : 0 < j) (hj : j < n) : Run 0 5 [.ref 0, .int (nI j)] S (.inl (some (bi (¬ hs (S.1 0 6 ^^^ one j) j)))) (sValve S j) := by
  have hk := nI_okp h0 hj (by omega)
  refine run_of (by decide +kernel) rfl (fun L xs G hG => ?_)
  repeat (refine hG.1 _ _ _ _ _ _ rfl ?_)
  refine And.intro rfl (cx (r_needPipe S _ hk.1 (by rw [hn]; exact hk.2)) rfl ?_)
  repeat (refine hG.1 _ _ _ _ _ _ rfl ?_)
  refine cx (r_has (sValve S j) _ _) rfl ?_
  repeat (refine hG.1 _ _ _ _ _ _ rfl ?_)
  refine And.intro (fun h1 => ?_) (fun h1 => ?_)
  · rw [bi_n] at h1
    repeat (refine hG.1 _ _ _ _ _ _ rfl ?_)
    exact And.intro rfl (And.intro (by rw [bi_f (p := ¬ hs (S.1 0 6 ^^^ one j) j) (fun z => z h1)]) rfl)
  · rw [bi_0] at h1
    repeat (refine hG.1 _ _ _ _ _ _ rfl ?_)
    exact And.intro rfl (And.intro (by rw [bi_t (p := ¬ hs (S.1 0 6 ^^^ one j) j) h1]) rfl)
theorem x_isSupplied_0 (S : PS) (x : Int32) (h1 : noN x (S.1 0 0)) : Run 1 6 [.ref 0, .int x] S (.inr 1) S := by
  refine run_of (by decide +kernel) rfl (fun L xs G hG => ?_)
  repeat (refine hG.1 _ _ _ _ _ _ rfl ?_)
  refine And.intro rfl (cx (r_needNode_x S _ h1) rfl ?_)
  exact And.intro rfl (And.intro rfl rfl)
theorem x_isSupplied (S : PS) (j n : Nat) (hn : S.1 0 0 = nI n) (hn16 : n ≤ 16) (hj : j < n) : Run 0 6 [.ref 0, .int (nI j)] S (.inl (some (bi (S.2.1 1 j &&& S.1 0 6 = 0)))) S := by
  have hk := nI_okn hj (by omega)
  refine run_of (by decide +kernel) rfl (fun L xs G hG => ?_)
  repeat (refine hG.1 _ _ _ _ _ _ rfl ?_)
  refine And.intro rfl (cx (r_needNode S _ hk.1 (by rw [hn]; exact hk.2)) rfl ?_)
  repeat (refine hG.1 _ _ _ _ _ _ rfl ?_)
  refine And.intro rfl (cx (r_isOpenTo S _ _ (vp_in_nI (show j < 16 by omega) (by decide))) rfl ?_)
  rw [nI_clamp (show j < 2 ^ 31 by omega)]
  repeat (refine hG.1 _ _ _ _ _ _ rfl ?_)
  exact And.intro bi_nrw (And.intro rfl rfl)
theorem x_takes_0 (S : PS) (x : Int32) (h1 : noN x (S.1 0 0)) : Run 1 7 [.ref 0, .int x] S (.inr 1) S := by
  refine run_of (by decide +kernel) rfl (fun L xs G hG => ?_)
  repeat (refine hG.1 _ _ _ _ _ _ rfl ?_)
  refine And.intro rfl (cx (r_needNode_x S _ h1) rfl ?_)
  exact And.intro rfl (And.intro rfl rfl)
theorem x_takes (S : PS) (j n nb : Nat) (hX : Xn S n nb) (hj : j < n) : Run 0 7 [.ref 0, .int (nI j)] S (.inl (some (tknX S.2.1 nb (S.1 0 14) (S.1 0 6) j))) S := by
  have hn := hX.2.1
  have hk := nI_okn hj (by omega)
  refine run_of (by decide +kernel) rfl (fun L xs G hG => ?_)
  repeat (refine hG.1 _ _ _ _ _ _ rfl ?_)
  refine And.intro rfl (cx (r_needNode S _ hk.1 (by rw [hX.1]; exact hk.2)) rfl ?_)
  repeat (refine hG.1 _ _ _ _ _ _ rfl ?_)
  refine And.intro rfl (cx (r_takenAt S j n nb _ (by omega) hX) rfl ?_)
  repeat (refine hG.1 _ _ _ _ _ _ rfl ?_)
  exact And.intro rfl (And.intro rfl rfl)
theorem x_flow_0 (S : PS) (x : Int32) (h1 : x ≤ 0 ∨ ¬ x < S.1 0 0) : Run 1 8 [.ref 0, .int x] S (.inr 1) S := by
  refine run_of (by decide +kernel) rfl (fun L xs G hG => ?_)
  repeat (refine hG.1 _ _ _ _ _ _ rfl ?_)
  refine And.intro rfl (cx (r_needPipe_x S _ h1) rfl ?_)
  exact And.intro rfl (And.intro rfl rfl)
theorem x_flow_1 (S : PS) (j n : Nat) (hn : S.1 0 0 = nI n) (hn16 : n ≤ 16) (h0 : 0 < j) (hj : j < n) (hm : ¬ hs (S.1 0 5) j) : Run 1 8 [.ref 0, .int (nI j)] S (.inr 2) S := by
  have hk := nI_okp h0 hj (by omega)
  refine run_of (by decide +kernel) rfl (fun L xs G hG => ?_)
  repeat (refine hG.1 _ _ _ _ _ _ rfl ?_)
  refine And.intro rfl (cx (r_needPipe S _ hk.1 (by rw [hn]; exact hk.2)) rfl ?_)
  repeat (refine hG.1 _ _ _ _ _ _ rfl ?_)
  refine cx (r_has S _ _) rfl ?_
  repeat (refine hG.1 _ _ _ _ _ _ rfl ?_)
  refine And.intro (fun h1 => ?_) (fun h1 => ?_)
  · rw [bi_n] at h1
    exact absurd h1 hm
  · repeat (refine hG.1 _ _ _ _ _ _ rfl ?_)
    exact And.intro rfl (And.intro rfl (And.intro (Nat.le_refl _) (And.intro rfl rfl)))
abbrev flX (A : Nat → Nat → Int32) (n nb : Nat) (rp sh top : Int32) : Int32 := smL (fun k => decide (hsv (A 1 k) top)) (tknX A nb rp sh) n
theorem x_flow (S : PS) (j n nb : Nat) (hX : Xn S n nb) (h0 : 0 < j) (hj : j < n) (hm : hs (S.1 0 5) j) : Run 0 8 [.ref 0, .int (nI j)] S (.inl (some (flX S.2.1 n nb (S.1 0 14) (S.1 0 6) (nI j)))) S := by
  have hn := hX.2.1
  have hk := nI_okp h0 hj (by omega)
  refine run_of (by decide +kernel) rfl (fun L xs G hG => ?_)
  repeat (refine hG.1 _ _ _ _ _ _ rfl ?_)
  refine And.intro rfl (cx (r_needPipe S _ hk.1 (by rw [hX.1]; exact hk.2)) rfl ?_)
  repeat (refine hG.1 _ _ _ _ _ _ rfl ?_)
  refine cx (r_has S _ _) rfl ?_
  repeat (refine hG.1 _ _ _ _ _ _ rfl ?_)
  refine And.intro (fun h1 => ?_) (fun h1 => ?_)
  · repeat (refine hG.1 _ _ _ _ _ _ rfl ?_)
    refine And.intro rfl (cx (r_flowTo S n nb _ hX) rfl ?_)
    repeat (refine hG.1 _ _ _ _ _ _ rfl ?_)
    exact And.intro rfl (And.intro rfl rfl)
  · rw [bi_0] at h1
    exact absurd hm h1
theorem x_allFlow (S : PS) (n nb : Nat) (hX : Xn S n nb) : Run 0 9 [.ref 0] S (.inl (some (flX S.2.1 n nb (S.1 0 14) (S.1 0 6) (nI 0)))) S := by
  refine run_of (by decide +kernel) rfl (fun L xs G hG => ?_)
  repeat (refine hG.1 _ _ _ _ _ _ rfl ?_)
  refine And.intro rfl (cx (r_flowTo S n nb _ hX) rfl ?_)
  repeat (refine hG.1 _ _ _ _ _ _ rfl ?_)
  exact And.intro rfl (And.intro rfl rfl)
theorem x_addArea_0 (S : PS) (x : Int32) (h1 : noN x (S.1 0 0)) : Run 1 10 [.ref 0, .int x] S (.inr 1) S := by
  refine run_of (by decide +kernel) rfl (fun L xs G hG => ?_)
  repeat (refine hG.1 _ _ _ _ _ _ rfl ?_)
  refine And.intro rfl (cx (r_needNode_x S _ h1) rfl ?_)
  exact And.intro rfl (And.intro rfl rfl)
theorem x_addArea_1 (S : PS) (j n : Nat) (hn : S.1 0 0 = nI n) (hn16 : n ≤ 16) (hj : j < n) (ha : S.1 0 7 = nI 8) : Run 1 10 [.ref 0, .int (nI j)] S (.inr 2) S := by
  have hk := nI_okn hj (by omega)
  refine run_of (by decide +kernel) rfl (fun L xs G hG => ?_)
  repeat (refine hG.1 _ _ _ _ _ _ rfl ?_)
  refine And.intro rfl (cx (r_needNode S _ hk.1 (by rw [hn]; exact hk.2)) rfl ?_)
  repeat (refine hG.1 _ _ _ _ _ _ rfl ?_)
  rw [ha]
  refine cx (r_needRoom_x S _ _ (by decide)) rfl ?_
  exact And.intro rfl (And.intro rfl rfl)
abbrev sArea (S : PS) (na j : Nat) : PS := (va_up S.1 0 (upd (S.1 0) 7 (nI (na + 1))), va_up S.2.1 5 (upd (S.2.1 5) na (nI j)), S.2.2)
theorem x_addArea (S : PS) (j n na : Nat) (hn : S.1 0 0 = nI n) (hn16 : n ≤ 16) (hj : j < n) (ha : S.1 0 7 = nI na) (hna : na < 8) : Run 0 10 [.ref 0, .int (nI j)] S (.inl (some (nI na))) (sArea S na j) := by
  have hk := nI_okn hj (by omega)
  refine run_of (by decide +kernel) rfl (fun L xs G hG => ?_)
  repeat (refine hG.1 _ _ _ _ _ _ rfl ?_)
  refine And.intro rfl (cx (r_needNode S _ hk.1 (by rw [hn]; exact hk.2)) rfl ?_)
  repeat (refine hG.1 _ _ _ _ _ _ rfl ?_)
  rw [ha]
  refine cx (r_needRoom S _ _ (nI_lt hna (by decide))) rfl ?_
  repeat (refine hG.1 _ _ _ _ _ _ rfl ?_)
  rw [ha]
  refine And.intro (vp_in_nI (hna) (by decide)) ?_; rw [nI_clamp (Nat.lt_trans (hna) (by decide))]
  repeat (refine hG.1 _ _ _ _ _ _ rfl ?_)
  rw [nI_add]
  repeat (refine hG.1 _ _ _ _ _ _ rfl ?_)
  exact And.intro rfl (And.intro rfl rfl)
end
section
abbrev ush (x y : Int32) : Int32 := (x.toUInt32 >>> (y.toUInt32 &&& Int32.toUInt32 31)).toInt32
abbrev bc1 (x : Int32) : Int32 := x - (ush x (nI 1) &&& nI 1431655765)
abbrev bc2 (x : Int32) : Int32 := (x &&& nI 858993459) + (ush x (nI 2) &&& nI 858993459)
abbrev bc3 (x : Int32) : Int32 := (x + ush x (nI 4)) &&& nI 252645135
abbrev bc4 (x : Int32) : Int32 := x + ush x (nI 8)
abbrev bc5 (x : Int32) : Int32 := x + ush x (nI 16)
def bcI (x : Int32) : Int32 := bc5 (bc4 (bc3 (bc2 (bc1 x)))) &&& nI 63
theorem r_bitCount (S : PS) (x : Int32) : Run 0 121 [.int x] S (.inl (some (bcI x))) S := by
  refine run_of (by decide +kernel) rfl (fun L xs G hG => ?_)
  repeat (refine hG.1 _ _ _ _ _ _ rfl ?_)
  exact And.intro rfl (And.intro rfl rfl)
theorem nI_and (a b : Nat) : nI a &&& nI b = nI (a &&& b) := by
  apply Int32.toBitVec_inj.mp
  rw [Int32.toBitVec_and]
  show BitVec.ofNat 32 a &&& BitVec.ofNat 32 b = BitVec.ofNat 32 (a &&& b)
  rw [BitVec.ofNat_and]
abbrev nb1 (m : Nat) : Nat := m - (m / 2 &&& 1431655765)
abbrev nb2 (m : Nat) : Nat := (m &&& 858993459) + (m / 4 &&& 858993459)
abbrev nb3 (m : Nat) : Nat := (m + m / 16) &&& 252645135
abbrev nb4 (m : Nat) : Nat := m + m / 256
abbrev nb5 (m : Nat) : Nat := m + m / 65536
theorem and_le_div (m c : Nat) : (m / 2 &&& c) ≤ m := Nat.le_trans Nat.and_le_left (Nat.div_le_self _ _)
theorem bc1_n {m : Nat} (h : m < 2 ^ 32) : bc1 (nI m) = nI (nb1 m) := by
  unfold bc1 nb1 ush
  rw [pk_ushrN h (nI 1) 1 (by decide), nI_and, pk_sub (and_le_div m _)]
theorem bc2_n {m : Nat} (h : m < 2 ^ 32) : bc2 (nI m) = nI (nb2 m) := by
  unfold bc2 nb2 ush
  rw [pk_ushrN h (nI 2) 2 (by decide), nI_and, nI_and, nI_add]
theorem bc3_n {m : Nat} (h : m < 2 ^ 32) : bc3 (nI m) = nI (nb3 m) := by
  unfold bc3 nb3 ush
  rw [pk_ushrN h (nI 4) 4 (by decide), nI_add, nI_and]
theorem bc4_n {m : Nat} (h : m < 2 ^ 32) : bc4 (nI m) = nI (nb4 m) := by
  unfold bc4 nb4 ush
  rw [pk_ushrN h (nI 8) 8 (by decide), nI_add]
theorem bc5_n {m : Nat} (h : m < 2 ^ 32) : bc5 (nI m) = nI (nb5 m) := by
  unfold bc5 nb5 ush
  rw [pk_ushrN h (nI 16) 16 (by decide), nI_add]
def nbc (m : Nat) : Nat := nb5 (nb4 (nb3 (nb2 (nb1 m)))) &&& 63
theorem bcI_n {m : Nat} (h : m < 65536) : bcI (nI m) = nI (nbc m) := by
  have h1 : nb1 m < 2 ^ 16 := by unfold nb1; omega
  have h2 : nb2 (nb1 m) < 2 ^ 17 := by
    unfold nb2
    have a := Nat.and_le_left (n := nb1 m) (m := 858993459)
    have b := Nat.and_le_left (n := nb1 m / 4) (m := 858993459)
    omega
  have h3 : nb3 (nb2 (nb1 m)) < 2 ^ 18 := by
    unfold nb3
    have a := Nat.and_le_left (n := nb2 (nb1 m) + nb2 (nb1 m) / 16) (m := 252645135)
    omega
  have h4 : nb4 (nb3 (nb2 (nb1 m))) < 2 ^ 19 := by
    unfold nb4
    omega
  unfold bcI nbc
  rw [bc1_n (by omega), bc2_n (by omega), bc3_n (by omega), bc4_n (by omega), bc5_n (by omega), nI_and]
def cnt (c : Nat → Bool) : Nat → Nat
  | 0 => 0
  | k + 1 => if c k = true then cnt c k + 1 else cnt c k
theorem cnt_t {c : Nat → Bool} {k : Nat} (h : c k = true) : cnt c (k + 1) = cnt c k + 1 := by rw [cnt, if_pos h]
theorem cnt_f {c : Nat → Bool} {k : Nat} (h : ¬ c k = true) : cnt c (k + 1) = cnt c k := by rw [cnt, if_neg h]
theorem cnt_congr {c d : Nat → Bool} : ∀ {k : Nat}, (∀ j, j < k → c j = d j) → cnt c k = cnt d k
  | 0, _ => rfl
  | k + 1, h => by rw [cnt, cnt, cnt_congr (k := k) (fun j hj => h j (by omega)), h k (by omega)]
theorem cnt_le {c : Nat → Bool} : ∀ k, cnt c k ≤ k
  | 0 => Nat.le_refl _
  | k + 1 => by
    have := cnt_le (c := c) k
    rw [cnt]
    split <;> omega
theorem cnt_ext {c : Nat → Bool} {n : Nat} : ∀ {m : Nat}, n ≤ m → (∀ j, n ≤ j → j < m → c j = false) → cnt c m = cnt c n
  | 0, h, _ => by have : n = 0 := by omega
                  subst this; rfl
  | m + 1, h, hc => by
    rcases Nat.lt_or_ge n (m + 1) with h1 | h1
    · rw [cnt_f (by rw [hc m (by omega) (by omega)]; decide), cnt_ext (by omega) (fun j h1 h2 => hc j h1 (by omega))]
    · have : n = m + 1 := by omega
      rw [this]
def popN (m : Nat) : Nat → Nat
  | 0 => 0
  | k + 1 => popN m k + m / 2 ^ k % 2
theorem pop_cnt (m : Nat) : ∀ k, popN m k = cnt (fun j => m.testBit j) k
  | 0 => rfl
  | k + 1 => by
    rw [popN, pop_cnt m k, cnt, ← Nat.toNat_testBit]
    cases h : m.testBit k <;> simp
def frc (m : Nat) (k : Nat → Bool) : Bool := match m with
  | 0 => k 0
  | n + 1 => k (n + 1)
theorem frc_eq (m : Nat) (k : Nat → Bool) : frc m k = k m := by cases m <;> rfl
def chk (m c : Nat) : Bool := frc (Nat.sub m (Nat.land (Nat.div m 2) 1431655765)) fun x => frc (Nat.add (Nat.land x 858993459) (Nat.land (Nat.div x 4) 858993459)) fun x => frc (Nat.land (Nat.add x (Nat.div x 16)) 252645135) fun x => frc (Nat.add x (Nat.div x 256)) fun x => frc (Nat.add x (Nat.div x 65536)) fun x => Nat.beq (Nat.land x 63) c
def allB : Nat → Nat → Nat → Bool
  | 0, m, c => chk m c
  | k + 1, m, c => frc (Nat.mul 2 m) fun x => match allB k x c with
    | true => frc (Nat.succ x) fun y => frc (Nat.succ c) fun d => allB k y d
    | false => false
theorem popN_add (k j : Nat) : ∀ i, i ≤ k → popN (2 ^ k + j) i = popN j i
  | 0, _ => rfl
  | i + 1, h => by
    rw [popN, popN, popN_add k j i (by omega), ← Nat.toNat_testBit, ← Nat.toNat_testBit, Nat.testBit_two_pow_add_gt (by omega)]
theorem allB_eq : ∀ (k m c : Nat), allB k m c = true → ∀ j, j < 2 ^ k → chk (2 ^ k * m + j) (c + popN j k) = true
  | 0, m, c, h, j, hj => by
    have : j = 0 := by omega
    subst this
    rw [show 2 ^ 0 * m + 0 = m by omega]
    exact h
  | k + 1, m, c, h, j, hj => by
    rw [allB, frc_eq] at h
    split at h
    · rename_i h1
      rw [frc_eq, frc_eq] at h
      rcases Nat.lt_or_ge j (2 ^ k) with h2 | h2
      · have h3 := allB_eq k (2 * m) c h1 j h2
        rw [show 2 ^ (k + 1) * m + j = 2 ^ k * (2 * m) + j by rw [Nat.pow_succ, Nat.mul_assoc], popN, Nat.div_eq_of_lt h2]
        exact h3
      · have hp : 2 ^ (k + 1) = 2 ^ k * 2 := Nat.pow_succ 2 k
        have h3 := allB_eq k (2 * m + 1) (c + 1) h (j - 2 ^ k) (by omega)
        have e : 2 ^ k + (j - 2 ^ k) = j := by omega
        have h4 : popN j (k + 1) = popN (j - 2 ^ k) k + 1 := by
          have h5 := popN_add k (j - 2 ^ k) k (Nat.le_refl _)
          rw [e] at h5
          have h6 : j / 2 ^ k = 1 := by
            apply Nat.div_eq_of_lt_le <;> omega
          rw [popN, h5, h6]
        rw [h4, show 2 ^ (k + 1) * m + j = 2 ^ k * (2 * m + 1) + (j - 2 ^ k) by rw [hp, Nat.mul_assoc, Nat.mul_add]; omega, show c + (popN (j - 2 ^ k) k + 1) = c + 1 + popN (j - 2 ^ k) k by omega]
        exact h3
    · cases h
set_option maxRecDepth 100000 in
theorem aB : allB 16 0 0 = true := by decide +kernel
theorem nbc_pop {m : Nat} (h : m < 65536) : nbc m = popN m 16 := by
  have h0 := allB_eq 16 0 0 aB m h
  rw [show 2 ^ 16 * 0 + m = m by omega, Nat.zero_add] at h0
  unfold chk at h0
  simp only [frc_eq] at h0
  exact Nat.eq_of_beq_eq_true h0
theorem bc_cnt {x : Int32} (h : ∀ k, 16 ≤ k → k < 32 → ¬ hs x k) : bcI x = nI (cnt (fun k => decide (hs x k)) 16) := by
  have e : nI x.toBitVec.toNat = x := by
    apply Int32.toBitVec_inj.mp
    show BitVec.ofNat 32 x.toBitVec.toNat = x.toBitVec
    rw [BitVec.ofNat_toNat]
    simp
  have hlt : x.toBitVec.toNat < 65536 := by
    have : x.toBitVec.toNat < 2 ^ 16 := by
      apply Nat.lt_pow_two_of_testBit
      intro i hi
      rcases Nat.lt_or_ge i 32 with h1 | h1
      · have h2 := h i hi h1
        rw [hs_bt h1] at h2
        have h3 : bt x i = x.toBitVec.toNat.testBit i := rfl
        rw [← h3]
        simpa using h2
      · have h2 := bt_ge x h1
        have h3 : bt x i = x.toBitVec.toNat.testBit i := rfl
        rw [← h3]
        simpa using h2
    omega
  rw [← e, bcI_n hlt, nbc_pop hlt, pop_cnt, e]
  congr 1
  apply cnt_congr
  intro j hj
  have h2 := hs_bt (x := x) (show j < 32 by omega)
  have h3 : bt x j = x.toBitVec.toNat.testBit j := rfl
  rw [← h3]
  cases h4 : bt x j
  · rw [h4] at h2
    simpa using h2
  · rw [h4] at h2
    simpa using h2
end
section
theorem x_addExport_0 (S : PS) (x y : Int32) (h1 : noN x (S.1 0 7)) : Run 1 11 [.ref 0, .int x, .int y] S (.inr 1) S := by
  refine run_of (by decide +kernel) rfl (fun L xs G hG => ?_)
  repeat (refine hG.1 _ _ _ _ _ _ rfl ?_)
  refine And.intro rfl (cx (r_needArea_x S _ h1) rfl ?_)
  exact And.intro rfl (And.intro rfl rfl)
theorem x_addExport_1 (S : PS) (a na : Nat) (y : Int32) (ha : a < na) (hna : na ≤ 8) (h7 : S.1 0 7 = nI na) (h1 : noN y (S.1 0 0)) : Run 1 11 [.ref 0, .int (nI a), .int y] S (.inr 1) S := by
  have hk := nI_okn ha (by omega)
  refine run_of (by decide +kernel) rfl (fun L xs G hG => ?_)
  repeat (refine hG.1 _ _ _ _ _ _ rfl ?_)
  refine And.intro rfl (cx (r_needArea S _ hk.1 (by rw [h7]; exact hk.2)) rfl ?_)
  repeat (refine hG.1 _ _ _ _ _ _ rfl ?_)
  refine And.intro rfl (cx (r_needNode_x S _ h1) rfl ?_)
  exact And.intro rfl (And.intro rfl rfl)
abbrev canX (A : Nat → Nat → Int32) (a j : Nat) : Prop := ¬ nI j = A 5 a ∧ hsv (A 1 j) (A 5 a) ∧ ¬ hs (A 6 a) j
theorem x_addExport_2 (S : PS) (a na j n : Nat) (ha : a < na) (hna : na ≤ 8) (h7 : S.1 0 7 = nI na) (hn : S.1 0 0 = nI n) (hn16 : n ≤ 16) (hj : j < n) (hc : ¬ canX S.2.1 a j) : Run 1 11 [.ref 0, .int (nI a), .int (nI j)] S (.inr 2) S := by
  have hk := nI_okn ha (by omega)
  have hk2 := nI_okn hj (by omega)
  refine run_of (by decide +kernel) rfl (fun L xs G hG => ?_)
  repeat (refine hG.1 _ _ _ _ _ _ rfl ?_)
  refine And.intro rfl (cx (r_needArea S _ hk.1 (by rw [h7]; exact hk.2)) rfl ?_)
  repeat (refine hG.1 _ _ _ _ _ _ rfl ?_)
  refine And.intro rfl (cx (r_needNode S _ hk2.1 (by rw [hn]; exact hk2.2)) rfl ?_)
  repeat (refine hG.1 _ _ _ _ _ _ rfl ?_)
  refine And.intro (vp_in_nI ((show a < 8 by omega)) (by decide)) ?_; rw [nI_clamp (Nat.lt_trans ((show a < 8 by omega)) (by decide))]
  repeat (refine hG.1 _ _ _ _ _ _ rfl ?_)
  refine And.intro (fun h1 => ?_) (fun h1 => ?_)
  · repeat (refine hG.1 _ _ _ _ _ _ rfl ?_)
    exact And.intro rfl (And.intro rfl (And.intro (Nat.le_refl _) (And.intro rfl rfl)))
  · repeat (refine hG.1 _ _ _ _ _ _ rfl ?_)
    refine And.intro (vp_in_nI ((show j < 16 by omega)) (by decide)) ?_; rw [nI_clamp (Nat.lt_trans ((show j < 16 by omega)) (by decide))]
    repeat (refine hG.1 _ _ _ _ _ _ rfl ?_)
    refine cx (r_has S _ _) rfl ?_
    repeat (refine hG.1 _ _ _ _ _ _ rfl ?_)
    refine And.intro (fun h2 => ?_) (fun h2 => ?_)
    · repeat (refine hG.1 _ _ _ _ _ _ rfl ?_)
      exact And.intro rfl (And.intro rfl (And.intro (Nat.le_refl _) (And.intro rfl rfl)))
    · rw [bi_n] at h2
      repeat (refine hG.1 _ _ _ _ _ _ rfl ?_)
      refine And.intro (vp_in_nI ((show a < 8 by omega)) (by decide)) ?_; rw [nI_clamp (Nat.lt_trans ((show a < 8 by omega)) (by decide))]
      repeat (refine hG.1 _ _ _ _ _ _ rfl ?_)
      refine cx (r_has S _ _) rfl ?_
      repeat (refine hG.1 _ _ _ _ _ _ rfl ?_)
      refine And.intro (fun h3 => ?_) (fun h3 => ?_)
      · rw [bi_0] at h3
        exact absurd ⟨h1, h2, h3⟩ hc
      · repeat (refine hG.1 _ _ _ _ _ _ rfl ?_)
        exact And.intro rfl (And.intro rfl (And.intro (Nat.le_refl _) (And.intro rfl rfl)))
abbrev sExp (S : PS) (a j : Nat) : PS := (S.1, va_up S.2.1 6 (upd (S.2.1 6) a (S.2.1 6 a ||| one j)), S.2.2)
theorem x_addExport (S : PS) (a na j n nb : Nat) (ha : a < na) (hna : na ≤ 8) (h7 : S.1 0 7 = nI na) (hX : Xn S n nb) (hj : j < n) (hc : canX S.2.1 a j) : Run 0 11 [.ref 0, .int (nI a), .int (nI j)] S (.inl (some (bcI (stL (inA (sExp S a j).2.1 a) n)))) (sExp S a j) := by
  have hn16 := hX.2.1
  have hk := nI_okn ha (by omega)
  have hk2 := nI_okn hj (by omega)
  refine run_of (by decide +kernel) rfl (fun L xs G hG => ?_)
  repeat (refine hG.1 _ _ _ _ _ _ rfl ?_)
  refine And.intro rfl (cx (r_needArea S _ hk.1 (by rw [h7]; exact hk.2)) rfl ?_)
  repeat (refine hG.1 _ _ _ _ _ _ rfl ?_)
  refine And.intro rfl (cx (r_needNode S _ hk2.1 (by rw [hX.1]; exact hk2.2)) rfl ?_)
  repeat (refine hG.1 _ _ _ _ _ _ rfl ?_)
  refine And.intro (vp_in_nI ((show a < 8 by omega)) (by decide)) ?_; rw [nI_clamp (Nat.lt_trans ((show a < 8 by omega)) (by decide))]
  repeat (refine hG.1 _ _ _ _ _ _ rfl ?_)
  refine And.intro (fun h1 => ?_) (fun h1 => ?_)
  · exact absurd h1 hc.1
  · repeat (refine hG.1 _ _ _ _ _ _ rfl ?_)
    refine And.intro (vp_in_nI ((show j < 16 by omega)) (by decide)) ?_; rw [nI_clamp (Nat.lt_trans ((show j < 16 by omega)) (by decide))]
    repeat (refine hG.1 _ _ _ _ _ _ rfl ?_)
    refine cx (r_has S _ _) rfl ?_
    repeat (refine hG.1 _ _ _ _ _ _ rfl ?_)
    refine And.intro (fun h2 => ?_) (fun h2 => ?_)
    · rw [bi_0] at h2
      exact absurd hc.2.1 h2
    · repeat (refine hG.1 _ _ _ _ _ _ rfl ?_)
      refine And.intro (vp_in_nI ((show a < 8 by omega)) (by decide)) ?_; rw [nI_clamp (Nat.lt_trans ((show a < 8 by omega)) (by decide))]
      repeat (refine hG.1 _ _ _ _ _ _ rfl ?_)
      refine cx (r_has S _ _) rfl ?_
      repeat (refine hG.1 _ _ _ _ _ _ rfl ?_)
      refine And.intro (fun h3 => ?_) (fun h3 => ?_)
      · repeat (refine hG.1 _ _ _ _ _ _ rfl ?_)
        refine And.intro (vp_in_nI ((show a < 8 by omega)) (by decide)) ?_; rw [nI_clamp (Nat.lt_trans ((show a < 8 by omega)) (by decide))]
        repeat (refine hG.1 _ _ _ _ _ _ rfl ?_)
        refine And.intro (vp_in_nI ((show a < 8 by omega)) (by decide)) ?_; rw [nI_clamp (Nat.lt_trans ((show a < 8 by omega)) (by decide))]
        repeat (refine hG.1 _ _ _ _ _ _ rfl ?_)
        refine And.intro rfl (cx (r_nodesOf (sExp S a j) n nb a (by omega) hX) rfl ?_)
        repeat (refine hG.1 _ _ _ _ _ _ rfl ?_)
        refine cx (r_bitCount (sExp S a j) _) rfl ?_
        repeat (refine hG.1 _ _ _ _ _ _ rfl ?_)
        exact And.intro rfl (And.intro rfl rfl)
      · rw [bi_n] at h3
        exact absurd h3 hc.2.2
theorem x_nodes_0 (S : PS) (x : Int32) (h1 : noN x (S.1 0 7)) : Run 1 12 [.ref 0, .int x] S (.inr 1) S := by
  refine run_of (by decide +kernel) rfl (fun L xs G hG => ?_)
  repeat (refine hG.1 _ _ _ _ _ _ rfl ?_)
  refine And.intro rfl (cx (r_needArea_x S _ h1) rfl ?_)
  exact And.intro rfl (And.intro rfl rfl)
theorem x_nodes (S : PS) (a na n nb : Nat) (ha : a < na) (hna : na ≤ 8) (h7 : S.1 0 7 = nI na) (hX : Xn S n nb) : Run 0 12 [.ref 0, .int (nI a)] S (.inl (some (stL (inA S.2.1 a) n))) S := by
  have hk := nI_okn ha (by omega)
  refine run_of (by decide +kernel) rfl (fun L xs G hG => ?_)
  repeat (refine hG.1 _ _ _ _ _ _ rfl ?_)
  refine And.intro rfl (cx (r_needArea S _ hk.1 (by rw [h7]; exact hk.2)) rfl ?_)
  repeat (refine hG.1 _ _ _ _ _ _ rfl ?_)
  refine And.intro rfl (cx (r_nodesOf S n nb a (by omega) hX) rfl ?_)
  repeat (refine hG.1 _ _ _ _ _ _ rfl ?_)
  exact And.intro rfl (And.intro rfl rfl)
theorem x_areaFlow_0 (S : PS) (x : Int32) (h1 : noN x (S.1 0 7)) : Run 1 13 [.ref 0, .int x] S (.inr 1) S := by
  refine run_of (by decide +kernel) rfl (fun L xs G hG => ?_)
  repeat (refine hG.1 _ _ _ _ _ _ rfl ?_)
  refine And.intro rfl (cx (r_needArea_x S _ h1) rfl ?_)
  exact And.intro rfl (And.intro rfl rfl)
abbrev outX (A : Nat → Nat → Int32) (n a : Nat) : Int32 := stL (fun k => decide (A 1 k &&& A 6 a = one k)) n
abbrev misX (A : Nat → Nat → Int32) (mt : Int32) (n a : Nat) : Int32 := ((outX A n a ||| (nI 1 <<< (A 5 a &&& 31))) &&& Int32.ofInt (.negSucc 1)) &&& (mt ^^^ (-1))
def sbL (c : Nat → Bool) (f : Nat → Int32) (z : Int32) : Nat → Int32
  | 0 => z
  | k + 1 => if c k = true then sbL c f z k - f k else sbL c f z k
theorem sbL_t {c : Nat → Bool} {f : Nat → Int32} {z : Int32} {k : Nat} (h : c k = true) : sbL c f z (k + 1) = sbL c f z k - f k := by rw [sbL, if_pos h]
theorem sbL_f {c : Nat → Bool} {f : Nat → Int32} {z : Int32} {k : Nat} (h : ¬ c k = true) : sbL c f z (k + 1) = sbL c f z k := by rw [sbL, if_neg h]
theorem x_areaFlow_1 (S : PS) (a na n nb : Nat) (ha : a < na) (hna : na ≤ 8) (h7 : S.1 0 7 = nI na) (hX : Xn S n nb) (hm : ¬ misX S.2.1 (S.1 0 5) n a = 0) : Run 1 13 [.ref 0, .int (nI a)] S (.inr 2) S := by
  have hk := nI_okn ha (by omega)
  refine run_of (by decide +kernel) rfl (fun L xs G hG => ?_)
  repeat (refine hG.1 _ _ _ _ _ _ rfl ?_)
  refine And.intro rfl (cx (r_needArea S _ hk.1 (by rw [h7]; exact hk.2)) rfl ?_)
  repeat (refine hG.1 _ _ _ _ _ _ rfl ?_)
  refine And.intro (vp_in_nI ((show a < 8 by omega)) (by decide)) ?_; rw [nI_clamp (Nat.lt_trans ((show a < 8 by omega)) (by decide))]
  repeat (refine hG.1 _ _ _ _ _ _ rfl ?_)
  refine And.intro rfl (cx (r_outerExports S n nb a (by omega) hX) rfl ?_)
  repeat (refine hG.1 _ _ _ _ _ _ rfl ?_)
  refine And.intro (fun h1 => ?_) (fun h1 => ?_)
  · exact absurd h1 hm
  · repeat (refine hG.1 _ _ _ _ _ _ rfl ?_)
    exact And.intro rfl (And.intro rfl (And.intro (Nat.le_refl _) (And.intro rfl rfl)))
abbrev afX (A : Nat → Nat → Int32) (n nb : Nat) (rp sh : Int32) (a : Nat) : Int32 := sbL (fun k => decide (hs (outX A n a) k)) (fun k => flX A n nb rp sh (nI k)) (flX A n nb rp sh (A 5 a)) n
theorem x_areaFlow (S : PS) (a na n nb : Nat) (ha : a < na) (hna : na ≤ 8) (h7 : S.1 0 7 = nI na) (hX : Xn S n nb) (hm : misX S.2.1 (S.1 0 5) n a = 0) : Run 0 13 [.ref 0, .int (nI a)] S (.inl (some (afX S.2.1 n nb (S.1 0 14) (S.1 0 6) a))) S := by
  have hk := nI_okn ha (by omega)
  have hn := hX.2.1
  refine run_of (by decide +kernel) rfl (fun L xs G hG => ?_)
  have main : ∀ k, k ≤ n → G 0 60 [(6, .int (nI k)), (5, .int (sbL (fun k => decide (hs (outX S.2.1 n a) k)) (fun k => flX S.2.1 n nb (S.1 0 14) (S.1 0 6) (nI k)) (flX S.2.1 n nb (S.1 0 14) (S.1 0 6) (S.2.1 5 a)) k)), (3, .int (outX S.2.1 n a)), (0, .ref 0)] [] S := by
    refine loop_up (fun k hk ih => ?_) ?_
    · repeat (refine hG.1 _ _ _ _ _ _ rfl ?_)
      rw [hX.1]
      refine And.intro (fun h => ?_) (fun h => ?_)
      · exact absurd h (nI_ge (by omega) (by omega))
      · repeat (refine hG.1 _ _ _ _ _ _ rfl ?_)
        refine cx (r_has S _ _) rfl ?_
        repeat (refine hG.1 _ _ _ _ _ _ rfl ?_)
        refine And.intro (fun h1 => ?_) (fun h1 => ?_)
        · rw [bi_0] at h1
          rw [sbL_f (by simpa using h1)] at ih
          repeat (first | (refine wk hG ?_ (ih); (repeat (refine And.intro (by first | with_reducible rfl | with_reducible exact nI_add _ _ | with_reducible exact pk_m1 _ | rfl) ?_)); exact trivial) | refine hG.1 _ _ _ _ _ _ rfl ?_)
        · rw [bi_n] at h1
          rw [sbL_t (by simpa using h1)] at ih
          repeat (refine hG.1 _ _ _ _ _ _ rfl ?_)
          refine And.intro rfl (cx (r_flowTo S n nb _ hX) rfl ?_)
          repeat (first | (refine wk hG ?_ (ih); (repeat (refine And.intro (by first | with_reducible rfl | with_reducible exact nI_add _ _ | with_reducible exact pk_m1 _ | rfl) ?_)); exact trivial) | refine hG.1 _ _ _ _ _ _ rfl ?_)
    · repeat (refine hG.1 _ _ _ _ _ _ rfl ?_)
      rw [hX.1]
      refine And.intro (fun h => ?_) (fun h => ?_)
      · repeat (refine hG.1 _ _ _ _ _ _ rfl ?_)
        exact And.intro rfl (And.intro rfl rfl)
      · exact absurd (nI_le (Nat.le_refl _) (by omega)) h
  repeat (refine hG.1 _ _ _ _ _ _ rfl ?_)
  refine And.intro rfl (cx (r_needArea S _ hk.1 (by rw [h7]; exact hk.2)) rfl ?_)
  repeat (refine hG.1 _ _ _ _ _ _ rfl ?_)
  refine And.intro (vp_in_nI ((show a < 8 by omega)) (by decide)) ?_; rw [nI_clamp (Nat.lt_trans ((show a < 8 by omega)) (by decide))]
  repeat (refine hG.1 _ _ _ _ _ _ rfl ?_)
  refine And.intro rfl (cx (r_outerExports S n nb a (by omega) hX) rfl ?_)
  repeat (refine hG.1 _ _ _ _ _ _ rfl ?_)
  refine And.intro (fun h1 => ?_) (fun h1 => ?_)
  · repeat (refine hG.1 _ _ _ _ _ _ rfl ?_)
    refine And.intro rfl (cx (r_flowTo S n nb _ hX) rfl ?_)
    have h0 := main 0 (Nat.zero_le _); simp only [sbL] at h0; repeat (first | (refine wk hG ?_ (h0); (repeat (refine And.intro (by first | with_reducible rfl | with_reducible exact nI_add _ _ | with_reducible exact pk_m1 _ | rfl) ?_)); exact trivial) | refine hG.1 _ _ _ _ _ _ rfl ?_)
  · exact absurd hm h1
theorem x_areaTakes_0 (S : PS) (x : Int32) (h1 : noN x (S.1 0 7)) : Run 1 14 [.ref 0, .int x] S (.inr 1) S := by
  refine run_of (by decide +kernel) rfl (fun L xs G hG => ?_)
  repeat (refine hG.1 _ _ _ _ _ _ rfl ?_)
  refine And.intro rfl (cx (r_needArea_x S _ h1) rfl ?_)
  exact And.intro rfl (And.intro rfl rfl)
abbrev tbX (A : Nat → Nat → Int32) (n nb : Nat) (rp sh set : Int32) : Int32 := smL (fun k => decide (hs set k)) (tknX A nb rp sh) n
theorem x_areaTakes (S : PS) (a na n nb : Nat) (ha : a < na) (hna : na ≤ 8) (h7 : S.1 0 7 = nI na) (hX : Xn S n nb) : Run 0 14 [.ref 0, .int (nI a)] S (.inl (some (tbX S.2.1 n nb (S.1 0 14) (S.1 0 6) (stL (inA S.2.1 a) n)))) S := by
  have hk := nI_okn ha (by omega)
  refine run_of (by decide +kernel) rfl (fun L xs G hG => ?_)
  repeat (refine hG.1 _ _ _ _ _ _ rfl ?_)
  refine And.intro rfl (cx (r_needArea S _ hk.1 (by rw [h7]; exact hk.2)) rfl ?_)
  repeat (refine hG.1 _ _ _ _ _ _ rfl ?_)
  refine And.intro rfl (cx (r_nodesOf S n nb a (by omega) hX) rfl ?_)
  repeat (refine hG.1 _ _ _ _ _ _ rfl ?_)
  refine And.intro rfl (cx (r_takenBy S n nb _ _ hX) rfl ?_)
  repeat (refine hG.1 _ _ _ _ _ _ rfl ?_)
  exact And.intro rfl (And.intro rfl rfl)
theorem x_loss_0 (S : PS) (x : Int32) (h1 : noN x (S.1 0 7)) : Run 1 15 [.ref 0, .int x] S (.inr 1) S := by
  refine run_of (by decide +kernel) rfl (fun L xs G hG => ?_)
  repeat (refine hG.1 _ _ _ _ _ _ rfl ?_)
  refine And.intro rfl (cx (r_needArea_x S _ h1) rfl ?_)
  exact And.intro rfl (And.intro rfl rfl)
theorem x_loss (S : PS) (a na n nb : Nat) (ha : a < na) (hna : na ≤ 8) (h7 : S.1 0 7 = nI na) (hX : Xn S n nb) : Run 0 15 [.ref 0, .int (nI a)] S (.inl (some (tbX S.2.1 n nb (S.1 0 14) (S.1 0 6) (stL (inA S.2.1 a) n) - smL (fun k => decide (hs (stL (inA S.2.1 a) n) k) && decide (S.2.1 1 k &&& S.1 0 6 = 0)) (S.2.1 2) n))) S := by
  have hk := nI_okn ha (by omega)
  refine run_of (by decide +kernel) rfl (fun L xs G hG => ?_)
  repeat (refine hG.1 _ _ _ _ _ _ rfl ?_)
  refine And.intro rfl (cx (r_needArea S _ hk.1 (by rw [h7]; exact hk.2)) rfl ?_)
  repeat (refine hG.1 _ _ _ _ _ _ rfl ?_)
  refine And.intro rfl (cx (r_nodesOf S n nb a (by omega) hX) rfl ?_)
  repeat (refine hG.1 _ _ _ _ _ _ rfl ?_)
  refine And.intro rfl (cx (r_takenBy S n nb _ _ hX) rfl ?_)
  repeat (refine hG.1 _ _ _ _ _ _ rfl ?_)
  refine And.intro rfl (cx (r_usedBy S n nb _ hX) rfl ?_)
  repeat (refine hG.1 _ _ _ _ _ _ rfl ?_)
  exact And.intro rfl (And.intro rfl rfl)
theorem x_steps_0 (S : PS) (x : Int32) (h1 : noN x (S.1 0 7)) : Run 1 16 [.ref 0, .int x] S (.inr 1) S := by
  refine run_of (by decide +kernel) rfl (fun L xs G hG => ?_)
  repeat (refine hG.1 _ _ _ _ _ _ rfl ?_)
  refine And.intro rfl (cx (r_needArea_x S _ h1) rfl ?_)
  exact And.intro rfl (And.intro rfl rfl)
theorem x_steps (S : PS) (a na n nb : Nat) (ha : a < na) (hna : na ≤ 8) (h7 : S.1 0 7 = nI na) (hX : Xn S n nb) : Run 0 16 [.ref 0, .int (nI a)] S (.inl (some (bcI (ptsX S.2.1 (S.1 0 6) n a)))) S := by
  have hk := nI_okn ha (by omega)
  refine run_of (by decide +kernel) rfl (fun L xs G hG => ?_)
  repeat (refine hG.1 _ _ _ _ _ _ rfl ?_)
  refine And.intro rfl (cx (r_needArea S _ hk.1 (by rw [h7]; exact hk.2)) rfl ?_)
  repeat (refine hG.1 _ _ _ _ _ _ rfl ?_)
  refine And.intro rfl (cx (r_pipesToShut S n nb a (by omega) hX) rfl ?_)
  repeat (refine hG.1 _ _ _ _ _ _ rfl ?_)
  refine cx (r_bitCount S _) rfl ?_
  repeat (refine hG.1 _ _ _ _ _ _ rfl ?_)
  exact And.intro rfl (And.intro rfl rfl)
abbrev pkX (A : Nat → Nat → Int32) (sh : Int32) (n a : Nat) (step : Int32) : Option Nat := pst (fun k => decide (hs (ptsX A sh n a) k)) step (n - 1) 0
theorem x_stepPipe_0 (S : PS) (x y : Int32) (h1 : noN x (S.1 0 7)) : Run 1 17 [.ref 0, .int x, .int y] S (.inr 1) S := by
  refine run_of (by decide +kernel) rfl (fun L xs G hG => ?_)
  repeat (refine hG.1 _ _ _ _ _ _ rfl ?_)
  refine And.intro rfl (cx (r_needArea_x S _ h1) rfl ?_)
  exact And.intro rfl (And.intro rfl rfl)
theorem x_stepPipe_1 (S : PS) (a na n nb : Nat) (y : Int32) (ha : a < na) (hna : na ≤ 8) (h7 : S.1 0 7 = nI na) (hX : Xn S n nb) (h1n : 1 ≤ n) (h : pkX S.2.1 (S.1 0 6) n a y = none) : Run 1 17 [.ref 0, .int (nI a), .int y] S (.inr 1) S := by
  have hk := nI_okn ha (by omega)
  refine run_of (by decide +kernel) rfl (fun L xs G hG => ?_)
  repeat (refine hG.1 _ _ _ _ _ _ rfl ?_)
  refine And.intro rfl (cx (r_needArea S _ hk.1 (by rw [h7]; exact hk.2)) rfl ?_)
  repeat (refine hG.1 _ _ _ _ _ _ rfl ?_)
  refine And.intro rfl (cx (r_pipeOfStep_x S n nb a _ (by omega) hX h1n h) rfl ?_)
  exact And.intro rfl (And.intro rfl rfl)
theorem x_stepPipe (S : PS) (a na n nb k : Nat) (y : Int32) (ha : a < na) (hna : na ≤ 8) (h7 : S.1 0 7 = nI na) (hX : Xn S n nb) (h1n : 1 ≤ n) (h : pkX S.2.1 (S.1 0 6) n a y = some k) : Run 0 17 [.ref 0, .int (nI a), .int y] S (.inl (some (nI k))) S := by
  have hk := nI_okn ha (by omega)
  refine run_of (by decide +kernel) rfl (fun L xs G hG => ?_)
  repeat (refine hG.1 _ _ _ _ _ _ rfl ?_)
  refine And.intro rfl (cx (r_needArea S _ hk.1 (by rw [h7]; exact hk.2)) rfl ?_)
  repeat (refine hG.1 _ _ _ _ _ _ rfl ?_)
  refine And.intro rfl (cx (r_pipeOfStep S n nb a k _ (by omega) hX h1n h) rfl ?_)
  repeat (refine hG.1 _ _ _ _ _ _ rfl ?_)
  exact And.intro rfl (And.intro rfl rfl)
theorem x_drop_0 (S : PS) (x y : Int32) (h1 : noN x (S.1 0 7)) : Run 1 18 [.ref 0, .int x, .int y] S (.inr 1) S := by
  refine run_of (by decide +kernel) rfl (fun L xs G hG => ?_)
  repeat (refine hG.1 _ _ _ _ _ _ rfl ?_)
  refine And.intro rfl (cx (r_needArea_x S _ h1) rfl ?_)
  exact And.intro rfl (And.intro rfl rfl)
theorem x_drop_1 (S : PS) (a na n nb : Nat) (y : Int32) (ha : a < na) (hna : na ≤ 8) (h7 : S.1 0 7 = nI na) (hX : Xn S n nb) (h1n : 1 ≤ n) (h : pkX S.2.1 (S.1 0 6) n a y = none) : Run 1 18 [.ref 0, .int (nI a), .int y] S (.inr 1) S := by
  have hk := nI_okn ha (by omega)
  refine run_of (by decide +kernel) rfl (fun L xs G hG => ?_)
  repeat (refine hG.1 _ _ _ _ _ _ rfl ?_)
  refine And.intro rfl (cx (r_needArea S _ hk.1 (by rw [h7]; exact hk.2)) rfl ?_)
  repeat (refine hG.1 _ _ _ _ _ _ rfl ?_)
  refine And.intro rfl (cx (r_pipeOfStep_x S n nb a _ (by omega) hX h1n h) rfl ?_)
  exact And.intro rfl (And.intro rfl rfl)
abbrev bfX (A : Nat → Nat → Int32) (sh : Int32) (n a k : Nat) : Int32 := sh ||| (ptsX A sh n a &&& (-1 : Int32) <<< ((nI k + nI 1) &&& 31))
abbrev dropX (A : Nat → Nat → Int32) (n nb : Nat) (rp sh : Int32) (a k : Nat) : Int32 := tbX A n nb rp (bfX A sh n a k) (stL (inA A a) n) - tbX A n nb rp (bfX A sh n a k ||| one k) (stL (inA A a) n)
theorem x_drop (S : PS) (a na n nb k : Nat) (y : Int32) (ha : a < na) (hna : na ≤ 8) (h7 : S.1 0 7 = nI na) (hX : Xn S n nb) (h1n : 1 ≤ n) (h : pkX S.2.1 (S.1 0 6) n a y = some k) : Run 0 18 [.ref 0, .int (nI a), .int y] S (.inl (some (dropX S.2.1 n nb (S.1 0 14) (S.1 0 6) a k))) S := by
  have hk := nI_okn ha (by omega)
  refine run_of (by decide +kernel) rfl (fun L xs G hG => ?_)
  repeat (refine hG.1 _ _ _ _ _ _ rfl ?_)
  refine And.intro rfl (cx (r_needArea S _ hk.1 (by rw [h7]; exact hk.2)) rfl ?_)
  repeat (refine hG.1 _ _ _ _ _ _ rfl ?_)
  refine And.intro rfl (cx (r_pipeOfStep S n nb a k _ (by omega) hX h1n h) rfl ?_)
  repeat (refine hG.1 _ _ _ _ _ _ rfl ?_)
  refine And.intro rfl (cx (r_pipesToShut S n nb a (by omega) hX) rfl ?_)
  repeat (refine hG.1 _ _ _ _ _ _ rfl ?_)
  refine cx (r_pipesAbove S _ _) rfl ?_
  repeat (refine hG.1 _ _ _ _ _ _ rfl ?_)
  refine And.intro rfl (cx (r_nodesOf S n nb a (by omega) hX) rfl ?_)
  repeat (refine hG.1 _ _ _ _ _ _ rfl ?_)
  refine And.intro rfl (cx (r_takenBy S n nb _ _ hX) rfl ?_)
  repeat (refine hG.1 _ _ _ _ _ _ rfl ?_)
  refine And.intro rfl (cx (r_takenBy S n nb _ _ hX) rfl ?_)
  repeat (refine hG.1 _ _ _ _ _ _ rfl ?_)
  exact And.intro rfl (And.intro rfl rfl)
theorem x_burst_0a (S : PS) (x y z : Int32) (h : noR y (nI 1) (nI 10000)) : Run 1 19 [.ref 0, .int x, .int y, .int z] S (.inr 0) S := by
  refine run_of (by decide +kernel) rfl (fun L xs G hG => ?_)
  repeat (refine hG.1 _ _ _ _ _ _ rfl ?_)
  refine cx (r_needRange_x S _ _ _ h) rfl ?_
  exact And.intro rfl (And.intro rfl rfl)
theorem x_burst_0b (S : PS) (x y z : Int32) (h : okR y (nI 1) (nI 10000)) (h2 : noR z (nI 1) (nI 100)) : Run 1 19 [.ref 0, .int x, .int y, .int z] S (.inr 0) S := by
  refine run_of (by decide +kernel) rfl (fun L xs G hG => ?_)
  repeat (refine hG.1 _ _ _ _ _ _ rfl ?_)
  refine cx (r_needRange S _ _ _ h.1 h.2) rfl ?_
  repeat (refine hG.1 _ _ _ _ _ _ rfl ?_)
  refine cx (r_needRange_x S _ _ _ h2) rfl ?_
  exact And.intro rfl (And.intro rfl rfl)
theorem x_burst_1 (S : PS) (x y z : Int32) (h : okR y (nI 1) (nI 10000)) (h2 : okR z (nI 1) (nI 100)) (h1 : noN x (S.1 0 0)) : Run 1 19 [.ref 0, .int x, .int y, .int z] S (.inr 1) S := by
  refine run_of (by decide +kernel) rfl (fun L xs G hG => ?_)
  repeat (refine hG.1 _ _ _ _ _ _ rfl ?_)
  refine cx (r_needRange S _ _ _ h.1 h.2) rfl ?_
  repeat (refine hG.1 _ _ _ _ _ _ rfl ?_)
  refine cx (r_needRange S _ _ _ h2.1 h2.2) rfl ?_
  repeat (refine hG.1 _ _ _ _ _ _ rfl ?_)
  refine And.intro rfl (cx (r_needNode_x S _ h1) rfl ?_)
  exact And.intro rfl (And.intro rfl rfl)
theorem x_burst_2 (S : PS) (j n : Nat) (y z : Int32) (h : okR y (nI 1) (nI 10000)) (h2 : okR z (nI 1) (nI 100)) (hn : S.1 0 0 = nI n) (hn16 : n ≤ 16) (hj : j < n) (hb : S.1 0 10 = nI 20) : Run 1 19 [.ref 0, .int (nI j), .int y, .int z] S (.inr 2) S := by
  have hk := nI_okn hj (by omega)
  refine run_of (by decide +kernel) rfl (fun L xs G hG => ?_)
  repeat (refine hG.1 _ _ _ _ _ _ rfl ?_)
  refine cx (r_needRange S _ _ _ h.1 h.2) rfl ?_
  repeat (refine hG.1 _ _ _ _ _ _ rfl ?_)
  refine cx (r_needRange S _ _ _ h2.1 h2.2) rfl ?_
  repeat (refine hG.1 _ _ _ _ _ _ rfl ?_)
  refine And.intro rfl (cx (r_needNode S _ hk.1 (by rw [hn]; exact hk.2)) rfl ?_)
  repeat (refine hG.1 _ _ _ _ _ _ rfl ?_)
  rw [hb]
  refine cx (r_needRoom_x S _ _ (by decide)) rfl ?_
  exact And.intro rfl (And.intro rfl rfl)
abbrev sBurst (S : PS) (nb j : Nat) (y z : Int32) : PS := (va_up S.1 0 (upd (S.1 0) 10 (nI (nb + 1))), va_up (va_up (va_up S.2.1 7 (upd (S.2.1 7) nb (nI j))) 8 (upd (S.2.1 8) nb y)) 9 (upd (S.2.1 9) nb z), S.2.2)
theorem x_burst (S : PS) (j n nb : Nat) (y z : Int32) (h : okR y (nI 1) (nI 10000)) (h2 : okR z (nI 1) (nI 100)) (hn : S.1 0 0 = nI n) (hn16 : n ≤ 16) (hj : j < n) (hb : S.1 0 10 = nI nb) (hnb : nb < 20) : Run 0 19 [.ref 0, .int (nI j), .int y, .int z] S (.inl (some (nI nb))) (sBurst S nb j y z) := by
  have hk := nI_okn hj (by omega)
  refine run_of (by decide +kernel) rfl (fun L xs G hG => ?_)
  repeat (refine hG.1 _ _ _ _ _ _ rfl ?_)
  refine cx (r_needRange S _ _ _ h.1 h.2) rfl ?_
  repeat (refine hG.1 _ _ _ _ _ _ rfl ?_)
  refine cx (r_needRange S _ _ _ h2.1 h2.2) rfl ?_
  repeat (refine hG.1 _ _ _ _ _ _ rfl ?_)
  refine And.intro rfl (cx (r_needNode S _ hk.1 (by rw [hn]; exact hk.2)) rfl ?_)
  repeat (refine hG.1 _ _ _ _ _ _ rfl ?_)
  rw [hb]
  refine cx (r_needRoom S _ _ (nI_lt hnb (by decide))) rfl ?_
  repeat (refine hG.1 _ _ _ _ _ _ rfl ?_)
  rw [hb]
  refine And.intro (vp_in_nI (hnb) (by decide)) ?_; rw [nI_clamp (Nat.lt_trans (hnb) (by decide))]
  repeat (refine hG.1 _ _ _ _ _ _ rfl ?_)
  refine And.intro (vp_in_nI (hnb) (by decide)) ?_; rw [nI_clamp (Nat.lt_trans (hnb) (by decide))]
  repeat (refine hG.1 _ _ _ _ _ _ rfl ?_)
  refine And.intro (vp_in_nI (hnb) (by decide)) ?_; rw [nI_clamp (Nat.lt_trans (hnb) (by decide))]
  repeat (refine hG.1 _ _ _ _ _ _ rfl ?_)
  rw [nI_add]
  repeat (refine hG.1 _ _ _ _ _ _ rfl ?_)
  exact And.intro rfl (And.intro rfl rfl)
theorem x_repair_0 (S : PS) (x : Int32) (h1 : noN x (S.1 0 10)) : Run 1 20 [.ref 0, .int x] S (.inr 1) S := by
  refine run_of (by decide +kernel) rfl (fun L xs G hG => ?_)
  repeat (refine hG.1 _ _ _ _ _ _ rfl ?_)
  refine And.intro rfl (cx (r_needBurst_x S _ h1) rfl ?_)
  exact And.intro rfl (And.intro rfl rfl)
theorem x_repair_1 (S : PS) (b nb : Nat) (hb : b < nb) (hnb : nb ≤ 20) (h10 : S.1 0 10 = nI nb) (hr : hs (S.1 0 14) b) : Run 1 20 [.ref 0, .int (nI b)] S (.inr 2) S := by
  have hk := nI_okn hb (by omega)
  refine run_of (by decide +kernel) rfl (fun L xs G hG => ?_)
  repeat (refine hG.1 _ _ _ _ _ _ rfl ?_)
  refine And.intro rfl (cx (r_needBurst S _ hk.1 (by rw [h10]; exact hk.2)) rfl ?_)
  repeat (refine hG.1 _ _ _ _ _ _ rfl ?_)
  refine cx (r_has S _ _) rfl ?_
  repeat (refine hG.1 _ _ _ _ _ _ rfl ?_)
  refine And.intro (fun h1 => ?_) (fun h1 => ?_)
  · rw [bi_0] at h1
    exact absurd hr h1
  · repeat (refine hG.1 _ _ _ _ _ _ rfl ?_)
    exact And.intro rfl (And.intro rfl (And.intro (Nat.le_refl _) (And.intro rfl rfl)))
abbrev sRep (S : PS) (b : Nat) : PS := (va_up S.1 0 (upd (S.1 0) 14 (S.1 0 14 ||| one b)), S.2.1, S.2.2)
theorem x_repair (S : PS) (b q n nb : Nat) (hb : b < nb) (hX : Xn S n nb) (hq : q < 16) (hbq : S.2.1 7 b = nI q) (hr : ¬ hs (S.1 0 14) b) : Run 0 20 [.ref 0, .int (nI b)] S (.inl (some (csX S.2.1 nb (S.1 0 14) (S.1 0 6) b))) (sRep S b) := by
  have hnb := hX.2.2.2.1
  have hk := nI_okn hb (by omega)
  refine run_of (by decide +kernel) rfl (fun L xs G hG => ?_)
  repeat (refine hG.1 _ _ _ _ _ _ rfl ?_)
  refine And.intro rfl (cx (r_needBurst S _ hk.1 (by rw [hX.2.2.1]; exact hk.2)) rfl ?_)
  repeat (refine hG.1 _ _ _ _ _ _ rfl ?_)
  refine cx (r_has S _ _) rfl ?_
  repeat (refine hG.1 _ _ _ _ _ _ rfl ?_)
  refine And.intro (fun h1 => ?_) (fun h1 => ?_)
  · repeat (refine hG.1 _ _ _ _ _ _ rfl ?_)
    refine And.intro rfl (cx (r_costOf S n nb b q (by omega) hq hbq hX) rfl ?_)
    repeat (refine hG.1 _ _ _ _ _ _ rfl ?_)
    exact And.intro rfl (And.intro rfl rfl)
  · rw [bi_n] at h1
    exact absurd h1 hr
theorem x_cost_0 (S : PS) (x : Int32) (h1 : noN x (S.1 0 10)) : Run 1 21 [.ref 0, .int x] S (.inr 1) S := by
  refine run_of (by decide +kernel) rfl (fun L xs G hG => ?_)
  repeat (refine hG.1 _ _ _ _ _ _ rfl ?_)
  refine And.intro rfl (cx (r_needBurst_x S _ h1) rfl ?_)
  exact And.intro rfl (And.intro rfl rfl)
theorem x_cost (S : PS) (b q n nb : Nat) (hb : b < nb) (hX : Xn S n nb) (hq : q < 16) (hbq : S.2.1 7 b = nI q) : Run 0 21 [.ref 0, .int (nI b)] S (.inl (some (csX S.2.1 nb (S.1 0 14) (S.1 0 6) b))) S := by
  have hnb := hX.2.2.2.1
  have hk := nI_okn hb (by omega)
  refine run_of (by decide +kernel) rfl (fun L xs G hG => ?_)
  repeat (refine hG.1 _ _ _ _ _ _ rfl ?_)
  refine And.intro rfl (cx (r_needBurst S _ hk.1 (by rw [hX.2.2.1]; exact hk.2)) rfl ?_)
  repeat (refine hG.1 _ _ _ _ _ _ rfl ?_)
  refine And.intro rfl (cx (r_costOf S n nb b q (by omega) hq hbq hX) rfl ?_)
  repeat (refine hG.1 _ _ _ _ _ _ rfl ?_)
  exact And.intro rfl (And.intro rfl rfl)
abbrev sRk (S : PS) (nb : Nat) : PS := st2 S (rkR S nb).1 (rkR S nb).2.1
theorem x_ranked_0 (S : PS) (n nb : Nat) (y : Int32) (hX : Xn S n nb) (hB : BnOk S.2.1 nb) (h : y < 0 ∨ nI (rkR S nb).2.2 ≤ y) : Run 1 22 [.ref 0, .int y] S (.inr 1) (sRk S nb) := by
  refine run_of (by decide +kernel) rfl (fun L xs G hG => ?_)
  repeat (refine hG.1 _ _ _ _ _ _ rfl ?_)
  refine And.intro rfl (cx (r_rankBursts S n nb hX hB) rfl ?_)
  repeat (refine hG.1 _ _ _ _ _ _ rfl ?_)
  refine And.intro (fun h1 => ?_) (fun h1 => ?_)
  · repeat (refine hG.1 _ _ _ _ _ _ rfl ?_)
    exact And.intro rfl (And.intro rfl (And.intro (Nat.le_refl _) (And.intro rfl rfl)))
  · repeat (refine hG.1 _ _ _ _ _ _ rfl ?_)
    refine And.intro (fun h2 => ?_) (fun h2 => ?_)
    · rcases h with z | z
      · contradiction
      · exact absurd h2 (by rw [Int32.not_lt]; exact z)
    · repeat (refine hG.1 _ _ _ _ _ _ rfl ?_)
      exact And.intro rfl (And.intro rfl (And.intro (Nat.le_refl _) (And.intro rfl rfl)))
theorem x_ranked (S : PS) (n nb p : Nat) (hX : Xn S n nb) (hB : BnOk S.2.1 nb) (hp : p < (rkR S nb).2.2) : Run 0 22 [.ref 0, .int (nI p)] S (.inl (some ((rkR S nb).2.1 p))) (sRk S nb) := by
  have hnb := hX.2.2.2.1
  have hle := (rkS_in (cs := csX S.2.1 nb (S.1 0 14) (S.1 0 6)) (h := S.2.1 9) (rp := S.1 0 14) (f10 := S.2.1 10) (f11 := S.2.1 11) nb).1
  have hle2 : (rkR S nb).2.2 ≤ nb := hle
  refine run_of (by decide +kernel) rfl (fun L xs G hG => ?_)
  repeat (refine hG.1 _ _ _ _ _ _ rfl ?_)
  refine And.intro rfl (cx (r_rankBursts S n nb hX hB) rfl ?_)
  repeat (refine hG.1 _ _ _ _ _ _ rfl ?_)
  refine And.intro (fun h1 => ?_) (fun h1 => ?_)
  · exact absurd h1 (nI_pos (by omega))
  · repeat (refine hG.1 _ _ _ _ _ _ rfl ?_)
    refine And.intro (fun h2 => ?_) (fun h2 => ?_)
    · repeat (refine hG.1 _ _ _ _ _ _ rfl ?_)
      refine And.intro (vp_in_nI ((show p < 20 by omega)) (by decide)) ?_; rw [nI_clamp (Nat.lt_trans ((show p < 20 by omega)) (by decide))]
      repeat (refine hG.1 _ _ _ _ _ _ rfl ?_)
      exact And.intro rfl (And.intro rfl rfl)
    · exact absurd (nI_lt hp (by omega)) h2
theorem x_plan_0 (S : PS) (y : Int32) (h : noR y (nI 0) (nI 1000)) : Run 1 23 [.ref 0, .int y] S (.inr 0) S := by
  refine run_of (by decide +kernel) rfl (fun L xs G hG => ?_)
  repeat (refine hG.1 _ _ _ _ _ _ rfl ?_)
  refine cx (r_needRange_x S _ _ _ h) rfl ?_
  exact And.intro rfl (And.intro rfl rfl)
def plF (h rb : Nat → Int32) (all : Int32) : Nat → Int32 × Int32
  | 0 => (all, nI 0)
  | p + 1 => if h (rb p).toNatClampNeg ≤ (plF h rb all p).1 then ((plF h rb all p).1 - h (rb p).toNatClampNeg, (plF h rb all p).2 ||| (nI 1 <<< (rb p &&& 31))) else plF h rb all p
theorem x_plan (S : PS) (n nb : Nat) (y : Int32) (h : okR y (nI 0) (nI 1000)) (hX : Xn S n nb) (hB : BnOk S.2.1 nb) : Run 0 23 [.ref 0, .int y] S (.inl (some (plF (S.2.1 9) (rkR S nb).2.1 y (rkR S nb).2.2).2)) (sRk S nb) := by
  have hnb := hX.2.2.2.1
  have hin := rkS_in (cs := csX S.2.1 nb (S.1 0 14) (S.1 0 6)) (h := S.2.1 9) (rp := S.1 0 14) (f10 := S.2.1 10) (f11 := S.2.1 11) nb
  obtain ⟨rb, hrb⟩ : ∃ rb, rb = (rkR S nb).2.1 := ⟨_, rfl⟩
  obtain ⟨m, hm⟩ : ∃ m, m = (rkR S nb).2.2 := ⟨_, rfl⟩
  have hin2 : m ≤ nb ∧ ∀ p, p < m → ∃ o, o < nb ∧ rb p = nI o := by rw [hrb, hm]; exact hin
  rw [← hrb, ← hm]
  refine run_of (by decide +kernel) rfl (fun L xs G hG => ?_)
  have main : ∀ p, p ≤ m → G 0 21 [(5, .int (nI p)), (4, .int (plF (S.2.1 9) rb y p).2), (3, .int (plF (S.2.1 9) rb y p).1), (2, .int (nI m)), (0, .ref 0)] [] (sRk S nb) := by
    refine loop_up (fun p hp ih => ?_) ?_
    · obtain ⟨o, ho, e⟩ := hin2.2 p hp
      repeat (refine hG.1 _ _ _ _ _ _ rfl ?_)
      refine And.intro (fun h1 => ?_) (fun h1 => ?_)
      · exact absurd h1 (nI_ge (by omega) (by omega))
      · repeat (refine hG.1 _ _ _ _ _ _ rfl ?_)
        refine And.intro (vp_in_nI ((show p < 20 by omega)) (by decide)) ?_; rw [nI_clamp (Nat.lt_trans ((show p < 20 by omega)) (by decide))]
        rw [show (sRk S nb).2.1 11 p = nI o by rw [← e, hrb]; rfl]
        repeat (refine hG.1 _ _ _ _ _ _ rfl ?_)
        refine And.intro (vp_in_nI ((show o < 20 by omega)) (by decide)) ?_; rw [nI_clamp (Nat.lt_trans ((show o < 20 by omega)) (by decide))]
        repeat (refine hG.1 _ _ _ _ _ _ rfl ?_)
        refine And.intro (fun h2 => ?_) (fun h2 => ?_)
        · have e2 : plF (S.2.1 9) rb y (p + 1) = plF (S.2.1 9) rb y p := by
            rw [plF, e, nI_clamp (show o < 2 ^ 31 by omega), if_neg]
            rw [Int32.not_le]
            exact h2
          rw [e2] at ih
          repeat (first | (refine wk hG ?_ (ih); (repeat (refine And.intro (by first | with_reducible rfl | with_reducible exact nI_add _ _ | with_reducible exact pk_m1 _ | rfl) ?_)); exact trivial) | refine hG.1 _ _ _ _ _ _ rfl ?_)
        · have e2 : plF (S.2.1 9) rb y (p + 1) = ((plF (S.2.1 9) rb y p).1 - S.2.1 9 o, (plF (S.2.1 9) rb y p).2 ||| one o) := by
            rw [plF, e, nI_clamp (show o < 2 ^ 31 by omega), if_pos]
            rw [← Int32.not_lt]
            exact h2
          rw [e2] at ih
          repeat (refine hG.1 _ _ _ _ _ _ rfl ?_)
          refine And.intro (vp_in_nI ((show o < 20 by omega)) (by decide)) ?_; rw [nI_clamp (Nat.lt_trans ((show o < 20 by omega)) (by decide))]
          repeat (first | (refine wk hG ?_ (ih); (repeat (refine And.intro (by first | with_reducible rfl | with_reducible exact nI_add _ _ | with_reducible exact pk_m1 _ | rfl) ?_)); exact trivial) | refine hG.1 _ _ _ _ _ _ rfl ?_)
    · repeat (refine hG.1 _ _ _ _ _ _ rfl ?_)
      refine And.intro (fun h1 => ?_) (fun h1 => ?_)
      · repeat (refine hG.1 _ _ _ _ _ _ rfl ?_)
        exact And.intro rfl (And.intro rfl rfl)
      · exact absurd (nI_le (Nat.le_refl _) (by omega)) h1
  repeat (refine hG.1 _ _ _ _ _ _ rfl ?_)
  refine cx (r_needRange S _ _ _ h.1 h.2) rfl ?_
  repeat (refine hG.1 _ _ _ _ _ _ rfl ?_)
  refine And.intro rfl (cx (r_rankBursts S n nb hX hB) rfl ?_)
  rw [← hm]
  have h0 := main 0 (Nat.zero_le _); simp only [plF] at h0; repeat (first | (refine wk hG ?_ (h0); (repeat (refine And.intro (by first | with_reducible rfl | with_reducible exact nI_add _ _ | with_reducible exact pk_m1 _ | rfl) ?_)); exact trivial) | refine hG.1 _ _ _ _ _ _ rfl ?_)
end
section
def Wy (A : Nat → Nat → Int32) (n : Nat) : Prop := A 1 0 = one 0 ∧ ∀ k, 0 < k → k < n → ∃ q : Nat, q < k ∧ A 13 k = nI q ∧ A 1 k = A 1 q ||| one k
theorem wy_le {A : Nat → Nat → Int32} {n : Nat} (h : Wy A n) : ∀ k, k < n → n ≤ 16 → ∀ j, j < 32 → hs (A 1 k) j → j ≤ k := by
  intro k
  induction k using Nat.strongRecOn with
  | _ k ih =>
    intro hk hn j hj hh
    rcases Nat.eq_zero_or_pos k with h0 | h0
    · subst h0
      rw [h.1, hs_one (by omega) hj] at hh
      omega
    · obtain ⟨q, hq, -, e⟩ := h.2 k h0 hk
      rw [e, hs_or hj] at hh
      rcases hh with z | z
      · have := ih q hq (by omega) hn j hj z
        omega
      · rw [hs_one (by omega) hj] at z
        omega
theorem wy_self {A : Nat → Nat → Int32} {n k : Nat} (h : Wy A n) (hk : k < n) (hn : n ≤ 16) : hs (A 1 k) k := by
  rcases Nat.eq_zero_or_pos k with h0 | h0
  · subst h0
    rw [h.1, hs_one (by omega) (by omega)]
  · obtain ⟨q, hq, -, e⟩ := h.2 k h0 hk
    rw [e, hs_or (by omega)]
    exact Or.inr ((hs_one (by omega) (by omega)).mpr rfl)
theorem wy_step {A : Nat → Nat → Int32} {k q j : Nat} (e : A 1 k = A 1 q ||| one k) (hk : k < 32) (hj : j < 32) (hjk : j ≠ k) : hs (A 1 k) j ↔ hs (A 1 q) j := by
  rw [e, hs_or hj, hs_one hk hj]
  constructor
  · rintro (z | z)
    · exact z
    · omega
  · exact Or.inl
theorem wy_0 {A : Nat → Nat → Int32} {n : Nat} (h : Wy A n) : ∀ k, k < n → n ≤ 16 → hs (A 1 k) 0 := by
  intro k
  induction k using Nat.strongRecOn with
  | _ k ih =>
    intro hk hn
    rcases Nat.eq_zero_or_pos k with h0 | h0
    · subst h0
      exact wy_self h hk hn
    · obtain ⟨q, hq, -, e⟩ := h.2 k h0 hk
      rw [wy_step e (by omega) (by omega) (by omega)]
      exact ih q hq (by omega) hn
theorem prL_ext {w w' : Int32} {pr : Nat → Int32} : ∀ k, (∀ j, 0 < j → j ≤ k → (hs w j ↔ hs w' j)) → prL w pr k = prL w' pr k
  | 0, _ => rfl
  | k + 1, h => by
    rw [prL, prL, prL_ext k (fun j h1 h2 => h j h1 (by omega))]
    have := h (k + 1) (by omega) (Nat.le_refl _)
    by_cases h1 : hs w (k + 1)
    · have h2 := this.mp h1
      by_cases h3 : pr (k + 1) = -1
      · rw [if_neg (fun z => z.2 h3), if_neg (fun z => z.2 h3)]
      · rw [if_pos ⟨h1, h3⟩, if_pos ⟨h2, h3⟩]
    · have h2 : ¬ hs w' (k + 1) := fun z => h1 (this.mpr z)
      rw [if_neg (fun z => h1 z.1), if_neg (fun z => h2 z.1)]
theorem prL_top {w : Int32} {pr : Nat → Int32} {q : Nat} : ∀ k, q ≤ k → (∀ j, q < j → j ≤ k → ¬ hs w j) → prL w pr k = prL w pr q
  | 0, h, _ => by
    have : q = 0 := by omega
    rw [this]
  | k + 1, h, hz => by
    rcases Nat.lt_or_ge q (k + 1) with h1 | h1
    · rw [prL, if_neg (fun z => hz (k + 1) h1 (Nat.le_refl _) z.1)]
      exact prL_top k (by omega) (fun j h2 h3 => hz j h2 (by omega))
    · have : q = k + 1 := by omega
      rw [this]
theorem prs_set {A : Nat → Nat → Int32} {n k : Nat} (h : Wy A n) (h0 : 0 < k) (hk : k < n) (hn : n ≤ 16) (hp : ¬ A 4 k = -1) : prs A k = A 4 k := by
  obtain ⟨k, rfl⟩ : ∃ j, k = j + 1 := ⟨k - 1, by omega⟩
  rw [prs, prL, if_pos ⟨wy_self h hk hn, hp⟩]
theorem prs_up {A : Nat → Nat → Int32} {n k q : Nat} (h : Wy A n) (h0 : 0 < k) (hk : k < n) (hn : n ≤ 16) (hp : A 4 k = -1) (hq : q < k) (e : A 1 k = A 1 q ||| one k) : prs A k = prs A q := by
  obtain ⟨k, rfl⟩ : ∃ j, k = j + 1 := ⟨k - 1, by omega⟩
  rw [prs, prL, if_neg (fun z => z.2 hp), prs, prL_ext k (fun j _ hj => wy_step e (by omega) (by omega) (by omega))]
  exact prL_top k (by omega) (fun j h1 h2 hz => by have := wy_le h q (by omega) hn j (by omega) hz; omega)
def MR (S : PS) (n nb : Nat) (rp sh : Int32) : Prop :=
  (S.1 12 0 = nI n ∧ 1 ≤ n ∧ n ≤ 16 ∧ S.1 12 11 = nI nb ∧ nb ≤ 20) ∧ Wy S.2.1 n ∧
  (S.2.1 14 = S.2.1 2 ∧ S.2.1 15 = S.2.1 3 ∧ (∀ k, 0 < k → k < 16 → S.2.1 16 k = S.2.1 4 k) ∧ (∀ j, j < 11 → S.2.1 19 j = fcv j) ∧ PrOk (S.2.1 4)) ∧
  (S.2.1 22 = S.2.1 7 ∧ S.2.1 23 = S.2.1 8 ∧ S.2.1 24 = S.2.1 9 ∧ S.2.1 20 = S.2.1 5 ∧ S.2.1 21 = S.2.1 6) ∧
  ((∀ k, k < 16 → S.2.1 18 k = bi (hs sh k)) ∧ ¬ hs sh 0) ∧ (∀ b, b < 20 → S.2.1 25 b = bi (hs rp b))
abbrev sThr (S : PS) (v : Int32) : PS := (va_up S.1 12 (upd (S.1 12) 16 v), S.2.1, S.2.2)
theorem m_thrown (S : PS) : Run 0 51 [.ref 12] S (.inl (some (S.1 12 16))) S := by
  refine run_of (by decide +kernel) rfl (fun L xs G hG => ?_)
  repeat (refine hG.1 _ _ _ _ _ _ rfl ?_)
  exact And.intro rfl (And.intro rfl rfl)
theorem m_fails_t (S : PS) (v : Int32) (h : ¬ v ≤ 0) : Run 0 52 [.ref 12, .int v] S (.inl (some (nI 1))) (sThr S v) := by
  refine run_of (by decide +kernel) rfl (fun L xs G hG => ?_)
  repeat (refine hG.1 _ _ _ _ _ _ rfl ?_)
  refine And.intro (fun h1 => ?_) (fun h1 => ?_)
  · exact absurd h1 h
  · repeat (refine hG.1 _ _ _ _ _ _ rfl ?_)
    exact And.intro rfl (And.intro rfl rfl)
theorem m_fails_f (S : PS) : Run 0 52 [.ref 12, .int (nI 0)] S (.inl (some (nI 0))) (sThr S (nI 0)) := by
  refine run_of (by decide +kernel) rfl (fun L xs G hG => ?_)
  repeat (refine hG.1 _ _ _ _ _ _ rfl ?_)
  refine And.intro (fun h1 => ?_) (fun h1 => ?_)
  · repeat (refine hG.1 _ _ _ _ _ _ rfl ?_)
    exact And.intro rfl (And.intro rfl rfl)
  · exact absurd (by decide) h1
theorem m_tells (S : PS) (v : Int32) : Run 0 53 [.ref 12, .int v] S (.inl (some v)) (sThr S (nI 0)) := by
  refine run_of (by decide +kernel) rfl (fun L xs G hG => ?_)
  repeat (refine hG.1 _ _ _ _ _ _ rfl ?_)
  exact And.intro rfl (And.intro rfl rfl)
theorem m_isIn (S : PS) (x lo hi : Int32) : Run 0 54 [.int x, .int lo, .int hi] S (.inl (some (bi (¬ x < lo ∧ ¬ hi < x)))) S := by
  refine run_of (by decide +kernel) rfl (fun L xs G hG => ?_)
  repeat (refine hG.1 _ _ _ _ _ _ rfl ?_)
  refine And.intro (fun h1 => ?_) (fun h1 => ?_)
  · repeat (refine hG.1 _ _ _ _ _ _ rfl ?_)
    exact And.intro rfl (And.intro (by rw [bi_f (fun z => z.1 h1)]) rfl)
  · repeat (refine hG.1 _ _ _ _ _ _ rfl ?_)
    refine And.intro (fun h2 => ?_) (fun h2 => ?_)
    · repeat (refine hG.1 _ _ _ _ _ _ rfl ?_)
      exact And.intro rfl (And.intro (by rw [bi_f (fun z => z.2 h2)]) rfl)
    · repeat (refine hG.1 _ _ _ _ _ _ rfl ?_)
      exact And.intro rfl (And.intro (by rw [bi_t ⟨h1, h2⟩]) rfl)
theorem in_t {j n : Nat} (hj : j < n) (hn : n ≤ 100) (lo : Nat) (hlo : lo ≤ j) : (¬ nI j < nI lo ∧ ¬ (nI n - nI 1) < nI j) := by
  rw [show nI n - nI 1 = nI (n - 1) from pk_sub (by omega)]
  exact ⟨nI_nlt hlo (by omega), nI_nlt (by omega) (by omega)⟩
theorem in_f {x : Int32} {n : Nat} (hn : n ≤ 100) (h1n : 1 ≤ n) (h : noN x (nI n)) : ¬ (¬ x < nI 0 ∧ ¬ (nI n - nI 1) < x) := by
  rw [show nI n - nI 1 = nI (n - 1) from pk_sub (by omega)]
  rintro ⟨h1, h2⟩
  rcases h with z | z
  · exact h1 z
  · have h3 : (nI n).toInt = n := nI_toInt (by omega)
    have h4 : (nI (n - 1)).toInt = ((n - 1 : Nat) : Int) := nI_toInt (by omega)
    rw [Int32.lt_iff_toInt_lt] at h2 z
    omega
theorem in_fz {x : Int32} (h : noN x (nI 0)) : ¬ (¬ x < nI 0 ∧ ¬ (nI 0 - nI 1) < x) := by
  rintro ⟨h1, h2⟩
  have h5 : (nI 0 - nI 1 : Int32).toInt = -1 := by decide
  have h6 : (nI 0).toInt = 0 := by decide
  have h7 : (0 : Int32).toInt = 0 := by decide
  rw [Int32.lt_iff_toInt_lt] at h1 h2
  omega
theorem in_fp {x : Int32} {n : Nat} (hn : n ≤ 100) (h1n : 1 ≤ n) (h : x ≤ 0 ∨ ¬ x < nI n) : ¬ (¬ x < nI 1 ∧ ¬ (nI n - nI 1) < x) := by
  rw [show nI n - nI 1 = nI (n - 1) from pk_sub (by omega)]
  rintro ⟨h1, h2⟩
  have h3 : (nI n).toInt = n := nI_toInt (by omega)
  have h4 : (nI (n - 1)).toInt = ((n - 1 : Nat) : Int) := nI_toInt (by omega)
  have h5 : (nI 1).toInt = 1 := nI_toInt (by omega)
  have h7 : (0 : Int32).toInt = 0 := by decide
  rw [Int32.lt_iff_toInt_lt] at h1 h2
  rcases h with z | z
  · rw [Int32.le_iff_toInt_le] at z
    omega
  · rw [Int32.lt_iff_toInt_lt] at z
    omega
theorem m_isNode_t (S : PS) (j n : Nat) (h : S.1 12 0 = nI n) (hn : n ≤ 16) (hj : j < n) : Run 0 55 [.ref 12, .int (nI j)] S (.inl (some (nI 1))) S := by
  refine run_of (by decide +kernel) rfl (fun L xs G hG => ?_)
  repeat (refine hG.1 _ _ _ _ _ _ rfl ?_)
  refine cx (m_isIn S _ _ _) rfl ?_
  repeat (refine hG.1 _ _ _ _ _ _ rfl ?_)
  refine And.intro bi_nrw (And.intro ?_ rfl)
  rw [bi_t (by rw [h]; exact in_t hj (by omega) 0 (by omega))]
theorem m_isNode_f (S : PS) (x : Int32) (n : Nat) (h : S.1 12 0 = nI n) (hn : n ≤ 16) (h1n : 1 ≤ n) (hx : noN x (nI n)) : Run 0 55 [.ref 12, .int x] S (.inl (some (nI 0))) S := by
  refine run_of (by decide +kernel) rfl (fun L xs G hG => ?_)
  repeat (refine hG.1 _ _ _ _ _ _ rfl ?_)
  refine cx (m_isIn S _ _ _) rfl ?_
  repeat (refine hG.1 _ _ _ _ _ _ rfl ?_)
  refine And.intro bi_nrw (And.intro ?_ rfl)
  rw [bi_f (by rw [h]; exact in_f (by omega) h1n hx)]
theorem m_isPipe_t (S : PS) (j n : Nat) (h : S.1 12 0 = nI n) (hn : n ≤ 16) (h0 : 0 < j) (hj : j < n) : Run 0 56 [.ref 12, .int (nI j)] S (.inl (some (nI 1))) S := by
  refine run_of (by decide +kernel) rfl (fun L xs G hG => ?_)
  repeat (refine hG.1 _ _ _ _ _ _ rfl ?_)
  refine cx (m_isIn S _ _ _) rfl ?_
  repeat (refine hG.1 _ _ _ _ _ _ rfl ?_)
  refine And.intro bi_nrw (And.intro ?_ rfl)
  rw [bi_t (by rw [h]; exact in_t hj (by omega) 1 (by omega))]
theorem m_isPipe_f (S : PS) (x : Int32) (n : Nat) (h : S.1 12 0 = nI n) (hn : n ≤ 16) (h1n : 1 ≤ n) (hx : x ≤ 0 ∨ ¬ x < nI n) : Run 0 56 [.ref 12, .int x] S (.inl (some (nI 0))) S := by
  refine run_of (by decide +kernel) rfl (fun L xs G hG => ?_)
  repeat (refine hG.1 _ _ _ _ _ _ rfl ?_)
  refine cx (m_isIn S _ _ _) rfl ?_
  repeat (refine hG.1 _ _ _ _ _ _ rfl ?_)
  refine And.intro bi_nrw (And.intro ?_ rfl)
  rw [bi_f (by rw [h]; exact in_fp (by omega) h1n hx)]
theorem m_isArea_t (S : PS) (j n : Nat) (h : S.1 12 8 = nI n) (hn : n ≤ 16) (hj : j < n) : Run 0 72 [.ref 12, .int (nI j)] S (.inl (some (nI 1))) S := by
  refine run_of (by decide +kernel) rfl (fun L xs G hG => ?_)
  repeat (refine hG.1 _ _ _ _ _ _ rfl ?_)
  refine cx (m_isIn S _ _ _) rfl ?_
  repeat (refine hG.1 _ _ _ _ _ _ rfl ?_)
  refine And.intro bi_nrw (And.intro ?_ rfl)
  rw [bi_t (by rw [h]; exact in_t hj (by omega) 0 (by omega))]
theorem m_isArea_f (S : PS) (x : Int32) (n : Nat) (h : S.1 12 8 = nI n) (hn : n ≤ 16) (hx : noN x (nI n)) : Run 0 72 [.ref 12, .int x] S (.inl (some (nI 0))) S := by
  refine run_of (by decide +kernel) rfl (fun L xs G hG => ?_)
  repeat (refine hG.1 _ _ _ _ _ _ rfl ?_)
  refine cx (m_isIn S _ _ _) rfl ?_
  repeat (refine hG.1 _ _ _ _ _ _ rfl ?_)
  refine And.intro bi_nrw (And.intro ?_ rfl)
  rw [bi_f (by rw [h]; rcases Nat.eq_zero_or_pos n with z | z; subst z; exact in_fz hx; exact in_f (by omega) z hx)]
theorem m_isBurst_t (S : PS) (j n : Nat) (h : S.1 12 11 = nI n) (hn : n ≤ 20) (hj : j < n) : Run 0 90 [.ref 12, .int (nI j)] S (.inl (some (nI 1))) S := by
  refine run_of (by decide +kernel) rfl (fun L xs G hG => ?_)
  repeat (refine hG.1 _ _ _ _ _ _ rfl ?_)
  refine cx (m_isIn S _ _ _) rfl ?_
  repeat (refine hG.1 _ _ _ _ _ _ rfl ?_)
  refine And.intro bi_nrw (And.intro ?_ rfl)
  rw [bi_t (by rw [h]; exact in_t hj (by omega) 0 (by omega))]
theorem m_isBurst_f (S : PS) (x : Int32) (n : Nat) (h : S.1 12 11 = nI n) (hn : n ≤ 20) (hx : noN x (nI n)) : Run 0 90 [.ref 12, .int x] S (.inl (some (nI 0))) S := by
  refine run_of (by decide +kernel) rfl (fun L xs G hG => ?_)
  repeat (refine hG.1 _ _ _ _ _ _ rfl ?_)
  refine cx (m_isIn S _ _ _) rfl ?_
  repeat (refine hG.1 _ _ _ _ _ _ rfl ?_)
  refine And.intro bi_nrw (And.intro ?_ rfl)
  rw [bi_f (by rw [h]; rcases Nat.eq_zero_or_pos n with z | z; subst z; exact in_fz hx; exact in_f (by omega) z hx)]
theorem m_isBelow (S : PS) (k t n : Nat) (hW : Wy S.2.1 n) (hn : n ≤ 16) (hk : k < n) (ht : t < 16) : Run 0 57 [.ref 12, .int (nI k), .int (nI t)] S (.inl (some (bi (hs (S.2.1 1 k) t)))) S := by
  refine run_of (by decide +kernel) rfl (fun L xs G hG => ?_)
  have main : ∀ j, j < n → bi (hs (S.2.1 1 j) t) = bi (hs (S.2.1 1 k) t) → G 0 2 [(3, .int (nI j)), (0, .ref 12), (2, .int (nI t))] [] S := by
    intro j
    induction j using Nat.strongRecOn with
    | _ j ih =>
      intro hj he
      repeat (refine hG.1 _ _ _ _ _ _ rfl ?_)
      refine And.intro (fun h1 => ?_) (fun h1 => ?_)
      · have hle : j ≤ t := (nI_leI (by omega) (by omega)).mp h1
        repeat (refine hG.1 _ _ _ _ _ _ rfl ?_)
        refine And.intro (fun h2 => ?_) (fun h2 => ?_)
        · repeat (refine hG.1 _ _ _ _ _ _ rfl ?_)
          refine And.intro rfl (And.intro ?_ rfl)
          rw [← he, bi_f]
          intro z
          have := wy_le hW j hj hn t (by omega) z
          exact h2 (by rw [show j = t by omega])
        · repeat (refine hG.1 _ _ _ _ _ _ rfl ?_)
          refine And.intro rfl (And.intro ?_ rfl)
          have e2 : j = t := (nI_eq (by omega) (by omega)).mp h2
          subst e2
          rw [← he, bi_t (wy_self hW hj hn)]
      · have hlt : t < j := by
          rcases Nat.lt_or_ge t j with z | z
          · exact z
          · exact absurd (nI_le z (by omega)) h1
        obtain ⟨q, hq, e13, e1⟩ := hW.2 j (by omega) hj
        repeat (refine hG.1 _ _ _ _ _ _ rfl ?_)
        refine And.intro (vp_in_nI ((show j < 16 by omega)) (by decide)) ?_; rw [nI_clamp (Nat.lt_trans ((show j < 16 by omega)) (by decide))]
        rw [e13]
        have g := ih q hq (by omega) (by rw [← he]; unfold bi; simp only [wy_step e1 (show j < 32 by omega) (show t < 32 by omega) (by omega)])
        repeat (first | (refine wk hG ?_ (g); (repeat (refine And.intro (by first | with_reducible rfl | with_reducible exact nI_add _ _ | with_reducible exact pk_m1 _ | rfl) ?_)); exact trivial) | refine hG.1 _ _ _ _ _ _ rfl ?_)
  repeat (first | (refine wk hG ?_ (main k hk rfl); (repeat (refine And.intro (by first | with_reducible rfl | with_reducible exact nI_add _ _ | with_reducible exact pk_m1 _ | rfl) ?_)); exact trivial) | refine hG.1 _ _ _ _ _ _ rfl ?_)
end
section
theorem hs_shr {x : Int32} {k : Nat} (hk : k < 32) : (x >>> (nI k &&& 31)) &&& nI 1 = nI 1 ↔ hs x k := by
  have e : (x >>> (nI k &&& 31)).toBitVec = x.toBitVec.sshiftRight k := by
    have key : ∀ k : Nat, k < 32 → ((nI k &&& 31).toBitVec.smod 32#32).toNat = k := by decide +kernel
    rw [Int32.toBitVec_shiftRight]
    show x.toBitVec.sshiftRight ((nI k &&& 31).toBitVec.smod 32#32).toNat = _
    rw [key k hk]
  have h0 : bt ((x >>> (nI k &&& 31)) &&& nI 1) 0 = bt x k := by
    rw [bt_and]
    have h1 : bt (nI 1) 0 = true := by decide
    rw [h1, Bool.and_true]
    unfold bt
    rw [e, BitVec.getLsbD_sshiftRight]
    simp [hk]
  constructor
  · intro h
    rw [hs_bt hk, ← h0, h]
    decide
  · intro h
    rw [hs_bt hk, ← h0] at h
    apply bt_ext
    intro j hj
    rcases Nat.eq_zero_or_pos j with z | z
    · subst z
      rw [h]
      decide
    · have h1 : bt (nI 1) j = false := by
        have key : ∀ j : Nat, j < 32 → 0 < j → bt (nI 1) j = false := by decide +kernel
        exact key j hj z
      rw [bt_and, h1, Bool.and_false]
theorem m_supplied (S : PS) (k n : Nat) (sh : Int32) (hW : Wy S.2.1 n) (hn : n ≤ 16) (hk : k < n) (hsh : ∀ k, k < 16 → S.2.1 18 k = bi (hs sh k)) (hs0 : ¬ hs sh 0) : Run 0 58 [.ref 12, .int (nI k)] S (.inl (some (bi (S.2.1 1 k &&& sh = 0)))) S := by
  refine run_of (by decide +kernel) rfl (fun L xs G hG => ?_)
  have z0 : S.2.1 1 0 &&& sh = 0 := by
    rw [ands_0]
    rintro j hj ⟨h1, h2⟩
    rw [hW.1, hs_one (by omega) hj] at h1
    subst h1
    exact hs0 h2
  have main0 : ∀ j, j < n → bi (S.2.1 1 k &&& sh = 0) = nI 0 → G 0 4 [(3, .int (nI j)), (2, .int (nI 0)), (0, .ref 12)] [] S := by
    intro j
    induction j using Nat.strongRecOn with
    | _ j ih =>
      intro hj he
      repeat (refine hG.1 _ _ _ _ _ _ rfl ?_)
      refine And.intro (fun h1 => ?_) (fun h1 => ?_)
      · repeat (refine hG.1 _ _ _ _ _ _ rfl ?_)
        refine And.intro rfl (And.intro ?_ rfl)
        rw [he]
      · have h0 : 0 < j := by
          rcases Nat.eq_zero_or_pos j with z | z
          · subst z; exact absurd (by decide) h1
          · exact z
        obtain ⟨q, hq, e13, e1⟩ := hW.2 j h0 hj
        repeat (refine hG.1 _ _ _ _ _ _ rfl ?_)
        refine And.intro (fun h2 => ?_) (fun h2 => ?_)
        · repeat (refine hG.1 _ _ _ _ _ _ rfl ?_)
          refine And.intro (vp_in_nI ((show j < 16 by omega)) (by decide)) ?_; rw [nI_clamp (Nat.lt_trans ((show j < 16 by omega)) (by decide))]
          rw [e13]
          have g := ih q hq (by omega) he
          repeat (first | (refine wk hG ?_ (g); (repeat (refine And.intro (by first | with_reducible rfl | with_reducible exact nI_add _ _ | with_reducible exact pk_m1 _ | rfl) ?_)); exact trivial) | refine hG.1 _ _ _ _ _ _ rfl ?_)
        · exact absurd (by decide) h2
  have main1 : ∀ j, j < n → bi (S.2.1 1 k &&& sh = 0) = bi (S.2.1 1 j &&& sh = 0) → G 0 4 [(3, .int (nI j)), (2, .int (nI 1)), (0, .ref 12)] [] S := by
    intro j
    induction j using Nat.strongRecOn with
    | _ j ih =>
      intro hj he
      repeat (refine hG.1 _ _ _ _ _ _ rfl ?_)
      refine And.intro (fun h1 => ?_) (fun h1 => ?_)
      · have h0 : j = 0 := by
          rcases Nat.eq_zero_or_pos j with z | z
          · exact z
          · exact absurd h1 (nI_nle z (by omega))
        subst h0
        repeat (refine hG.1 _ _ _ _ _ _ rfl ?_)
        refine And.intro rfl (And.intro ?_ rfl)
        rw [he, bi_t z0]
      · have h0 : 0 < j := by
          rcases Nat.eq_zero_or_pos j with z | z
          · subst z; exact absurd (by decide) h1
          · exact z
        obtain ⟨q, hq, e13, e1⟩ := hW.2 j h0 hj
        have hstep : S.2.1 1 j &&& sh = 0 ↔ (S.2.1 1 q &&& sh = 0 ∧ ¬ hs sh j) := by
          rw [ands_0, ands_0]
          constructor
          · intro h
            refine ⟨fun i hi hz => h i hi ⟨?_, hz.2⟩, fun hz => h j (by omega) ⟨wy_self hW hj hn, hz⟩⟩
            rw [e1, hs_or hi]
            exact Or.inl hz.1
          · rintro ⟨h, hz⟩ i hi ⟨h3, h4⟩
            rw [e1, hs_or hi, hs_one (by omega) hi] at h3
            rcases h3 with h3 | h3
            · exact h i hi ⟨h3, h4⟩
            · subst h3; exact hz h4
        repeat (refine hG.1 _ _ _ _ _ _ rfl ?_)
        refine And.intro (fun h2 => ?_) (fun h2 => ?_)
        · exact absurd h2 (by decide)
        · repeat (refine hG.1 _ _ _ _ _ _ rfl ?_)
          refine And.intro (vp_in_nI ((show j < 16 by omega)) (by decide)) ?_; rw [nI_clamp (Nat.lt_trans ((show j < 16 by omega)) (by decide))]
          rw [hsh j (by omega)]
          repeat (refine hG.1 _ _ _ _ _ _ rfl ?_)
          refine And.intro (fun h3 => ?_) (fun h3 => ?_)
          · rw [bi_n] at h3
            have g := main0 q (by omega) (by rw [he, bi_f (fun z => (hstep.mp z).2 h3)])
            repeat (refine hG.1 _ _ _ _ _ _ rfl ?_)
            refine And.intro (vp_in_nI ((show j < 16 by omega)) (by decide)) ?_; rw [nI_clamp (Nat.lt_trans ((show j < 16 by omega)) (by decide))]
            rw [e13]
            repeat (first | (refine wk hG ?_ (g); (repeat (refine And.intro (by first | with_reducible rfl | with_reducible exact nI_add _ _ | with_reducible exact pk_m1 _ | rfl) ?_)); exact trivial) | refine hG.1 _ _ _ _ _ _ rfl ?_)
          · rw [bi_0] at h3
            have g := ih q hq (by omega) (by rw [he]; unfold bi; simp only [hstep, h3, not_false_eq_true, and_true])
            repeat (refine hG.1 _ _ _ _ _ _ rfl ?_)
            refine And.intro (vp_in_nI ((show j < 16 by omega)) (by decide)) ?_; rw [nI_clamp (Nat.lt_trans ((show j < 16 by omega)) (by decide))]
            rw [e13]
            repeat (first | (refine wk hG ?_ (g); (repeat (refine And.intro (by first | with_reducible rfl | with_reducible exact nI_add _ _ | with_reducible exact pk_m1 _ | rfl) ?_)); exact trivial) | refine hG.1 _ _ _ _ _ _ rfl ?_)
  have g := main1 k hk rfl
  repeat (first | (refine wk hG ?_ (g); (repeat (refine And.intro (by first | with_reducible rfl | with_reducible exact nI_add _ _ | with_reducible exact pk_m1 _ | rfl) ?_)); exact trivial) | refine hG.1 _ _ _ _ _ _ rfl ?_)
theorem m_pressureAt (S : PS) (k n nb : Nat) (rp sh : Int32) (hM : MR S n nb rp sh) (hk : k < n) : Run 0 59 [.ref 12, .int (nI k)] S (.inl (some (prs S.2.1 k))) S := by
  obtain ⟨⟨h0, h1n, hn, -, -⟩, hW, ⟨-, -, hpr, -, -⟩, -⟩ := hM
  refine run_of (by decide +kernel) rfl (fun L xs G hG => ?_)
  have main : ∀ j, j < n → prs S.2.1 j = prs S.2.1 k → G 0 2 [(2, .int (nI j)), (0, .ref 12)] [] S := by
    intro j
    induction j using Nat.strongRecOn with
    | _ j ih =>
      intro hj he
      repeat (refine hG.1 _ _ _ _ _ _ rfl ?_)
      refine And.intro (fun h1 => ?_) (fun h1 => ?_)
      · have hj0 : j = 0 := by
          rcases Nat.eq_zero_or_pos j with z | z
          · exact z
          · exact absurd h1 (nI_nle z (by omega))
        subst hj0
        repeat (refine hG.1 _ _ _ _ _ _ rfl ?_)
        refine And.intro (fun h2 => ?_) (fun h2 => ?_)
        · repeat (refine hG.1 _ _ _ _ _ _ rfl ?_)
          refine And.intro rfl (And.intro ?_ rfl)
          rw [← he]
          rfl
        · exact absurd h1 h2
      · have hj0 : 0 < j := by
          rcases Nat.eq_zero_or_pos j with z | z
          · subst z; exact absurd (by decide) h1
          · exact z
        obtain ⟨q, hq, e13, e1⟩ := hW.2 j hj0 hj
        repeat (refine hG.1 _ _ _ _ _ _ rfl ?_)
        refine And.intro (vp_in_nI ((show j < 16 by omega)) (by decide)) ?_; rw [nI_clamp (Nat.lt_trans ((show j < 16 by omega)) (by decide))]
        rw [hpr j hj0 (by omega)]
        repeat (refine hG.1 _ _ _ _ _ _ rfl ?_)
        refine And.intro (fun h2 => ?_) (fun h2 => ?_)
        · repeat (refine hG.1 _ _ _ _ _ _ rfl ?_)
          refine And.intro (fun h3 => ?_) (fun h3 => ?_)
          · exact absurd h3 h1
          · repeat (refine hG.1 _ _ _ _ _ _ rfl ?_)
            refine And.intro (vp_in_nI ((show j < 16 by omega)) (by decide)) ?_; rw [nI_clamp (Nat.lt_trans ((show j < 16 by omega)) (by decide))]
            repeat (refine hG.1 _ _ _ _ _ _ rfl ?_)
            refine And.intro rfl (And.intro ?_ rfl)
            rw [← he, prs_set hW hj0 hj hn h2, hpr j hj0 (by omega)]
        · repeat (refine hG.1 _ _ _ _ _ _ rfl ?_)
          refine And.intro (vp_in_nI ((show j < 16 by omega)) (by decide)) ?_; rw [nI_clamp (Nat.lt_trans ((show j < 16 by omega)) (by decide))]
          rw [e13]
          have g := ih q hq (by omega) (by rw [← he, prs_up hW hj0 hj hn h2 hq e1])
          repeat (first | (refine wk hG ?_ (g); (repeat (refine And.intro (by first | with_reducible rfl | with_reducible exact nI_add _ _ | with_reducible exact pk_m1 _ | rfl) ?_)); exact trivial) | refine hG.1 _ _ _ _ _ _ rfl ?_)
  have g := main k hk rfl
  repeat (first | (refine wk hG ?_ (g); (repeat (refine And.intro (by first | with_reducible rfl | with_reducible exact nI_add _ _ | with_reducible exact pk_m1 _ | rfl) ?_)); exact trivial) | refine hG.1 _ _ _ _ _ _ rfl ?_)
theorem m_leaks (S : PS) (k n nb : Nat) (rp sh : Int32) (hM : MR S n nb rp sh) (hk : k < n) : Run 0 60 [.ref 12, .int (nI k)] S (.inl (some (lkgX S.2.1 nb rp k))) S := by
  obtain ⟨⟨h0, h1n, hn, hb, hnb⟩, hW, ⟨-, h15, hpr, hfa, hpo⟩, ⟨h22, h23, -, -, -⟩, -, hrp⟩ := id hM
  obtain ⟨v, hv, ev⟩ := prL_ok (w := S.2.1 1 k) hpo k (by omega)
  have ev2 : prs S.2.1 k = nI v := ev
  have hd : nI v / nI 10 = nI (v / 10) := pk_div (by omega) (by omega) (by omega)
  have h10 : ¬ nI 10 = 0 := by decide
  have hres : amtL S.2.1 rp k nb * facV v / nI 1000 = lkgX S.2.1 nb rp k := by
    unfold lkgX
    simp only [fac, ev2]
    rw [nI_clamp (by omega)]
  refine run_of (by decide +kernel) rfl (fun L xs G hG => ?_)
  have main : ∀ j, j ≤ nb → G 0 9 [(3, .int (nI j)), (2, .int (amtL S.2.1 rp k j)), (0, .ref 12), (1, .int (nI k))] [] S := by
    refine loop_up (fun j hj ih => ?_) ?_
    · repeat (refine hG.1 _ _ _ _ _ _ rfl ?_)
      rw [hb]
      refine And.intro (fun h => ?_) (fun h => ?_)
      · exact absurd h (nI_ge (by omega) (by omega))
      · repeat (refine hG.1 _ _ _ _ _ _ rfl ?_)
        refine And.intro (vp_in_nI ((show j < 20 by omega)) (by decide)) ?_; rw [nI_clamp (Nat.lt_trans ((show j < 20 by omega)) (by decide))]
        rw [h22]
        repeat (refine hG.1 _ _ _ _ _ _ rfl ?_)
        refine And.intro (fun h1 => ?_) (fun h1 => ?_)
        · have e : amtL S.2.1 rp k (j + 1) = amtL S.2.1 rp k j + nI 0 := by
            rw [amtL, if_neg (fun z => h1 z.1), nI_0, Int32.add_zero]
          rw [e] at ih
          repeat (first | (refine wk hG ?_ (ih); (repeat (refine And.intro (by first | with_reducible rfl | with_reducible exact nI_add _ _ | with_reducible exact pk_m1 _ | rfl) ?_)); exact trivial) | refine hG.1 _ _ _ _ _ _ rfl ?_)
        · repeat (refine hG.1 _ _ _ _ _ _ rfl ?_)
          refine And.intro (vp_in_nI ((show j < 20 by omega)) (by decide)) ?_; rw [nI_clamp (Nat.lt_trans ((show j < 20 by omega)) (by decide))]
          rw [hrp j (by omega)]
          repeat (refine hG.1 _ _ _ _ _ _ rfl ?_)
          refine And.intro (fun h2 => ?_) (fun h2 => ?_)
          · rw [bi_n] at h2
            have e : amtL S.2.1 rp k (j + 1) = amtL S.2.1 rp k j + nI 0 := by
              rw [amtL, if_neg (fun z => z.2 h2), nI_0, Int32.add_zero]
            rw [e] at ih
            repeat (first | (refine wk hG ?_ (ih); (repeat (refine And.intro (by first | with_reducible rfl | with_reducible exact nI_add _ _ | with_reducible exact pk_m1 _ | rfl) ?_)); exact trivial) | refine hG.1 _ _ _ _ _ _ rfl ?_)
          · rw [bi_0] at h2
            repeat (refine hG.1 _ _ _ _ _ _ rfl ?_)
            refine And.intro (vp_in_nI ((show j < 20 by omega)) (by decide)) ?_; rw [nI_clamp (Nat.lt_trans ((show j < 20 by omega)) (by decide))]
            rw [h23]
            have e : amtL S.2.1 rp k (j + 1) = amtL S.2.1 rp k j + S.2.1 8 j := by
              rw [amtL, if_pos ⟨h1, h2⟩]
            rw [e] at ih
            repeat (first | (refine wk hG ?_ (ih); (repeat (refine And.intro (by first | with_reducible rfl | with_reducible exact nI_add _ _ | with_reducible exact pk_m1 _ | rfl) ?_)); exact trivial) | refine hG.1 _ _ _ _ _ _ rfl ?_)
    · repeat (refine hG.1 _ _ _ _ _ _ rfl ?_)
      rw [hb]
      refine And.intro (fun h => ?_) (fun h => ?_)
      · repeat (refine hG.1 _ _ _ _ _ _ rfl ?_)
        refine And.intro rfl (cx (m_pressureAt S k n nb rp sh hM hk) rfl ?_)
        repeat (refine hG.1 _ _ _ _ _ _ rfl ?_)
        rw [ev2]
        refine And.intro (h10) ?_
        rw [hd]
        repeat (refine hG.1 _ _ _ _ _ _ rfl ?_)
        refine And.intro (vp_in_nI ((show v / 10 < 11 by omega)) (by decide)) ?_; rw [nI_clamp (Nat.lt_trans ((show v / 10 < 11 by omega)) (by decide))]
        rw [hfa _ (by omega)]
        repeat (refine hG.1 _ _ _ _ _ _ rfl ?_)
        refine And.intro (fun h3 => ?_) (fun h3 => ?_)
        · have hlt : v / 10 < 10 := by
            have : ¬ v / 10 = 10 := fun z => h3 (by rw [z])
            omega
          repeat (refine hG.1 _ _ _ _ _ _ rfl ?_)
          rw [nI_add]
          refine And.intro (vp_in_nI ((show v / 10 + 1 < 11 by omega)) (by decide)) ?_; rw [nI_clamp (Nat.lt_trans ((show v / 10 + 1 < 11 by omega)) (by decide))]
          rw [hfa _ (by omega)]
          repeat (refine hG.1 _ _ _ _ _ _ rfl ?_)
          refine And.intro (vp_in_nI ((show v / 10 < 11 by omega)) (by decide)) ?_; rw [nI_clamp (Nat.lt_trans ((show v / 10 < 11 by omega)) (by decide))]
          rw [hfa _ (by omega)]
          repeat (refine hG.1 _ _ _ _ _ _ rfl ?_)
          refine And.intro (h10) ?_
          rw [hd]
          repeat (refine hG.1 _ _ _ _ _ _ rfl ?_)
          refine And.intro (h10) ?_
          repeat (refine hG.1 _ _ _ _ _ _ rfl ?_)
          refine And.intro ((by decide : ¬ nI 1000 = 0)) ?_
          repeat (refine hG.1 _ _ _ _ _ _ rfl ?_)
          refine And.intro rfl (And.intro ?_ rfl)
          rw [← hres, facV, if_pos hlt]
        · have hge : v / 10 = 10 := (nI_eq (by omega) (by omega)).mp h3
          repeat (refine hG.1 _ _ _ _ _ _ rfl ?_)
          refine And.intro ((by decide : ¬ nI 1000 = 0)) ?_
          repeat (refine hG.1 _ _ _ _ _ _ rfl ?_)
          refine And.intro rfl (And.intro ?_ rfl)
          rw [← hres, facV, if_neg (by omega), hge, nI_0, Int32.add_zero]
      · exact absurd (nI_le (Nat.le_refl _) (by omega)) h
  repeat (refine hG.1 _ _ _ _ _ _ rfl ?_)
  refine And.intro (vp_in_nI ((show k < 16 by omega)) (by decide)) ?_; rw [nI_clamp (Nat.lt_trans ((show k < 16 by omega)) (by decide))]
  rw [h15]
  have h0 := main 0 (Nat.zero_le _); simp only [amtL] at h0; repeat (first | (refine wk hG ?_ (h0); (repeat (refine And.intro (by first | with_reducible rfl | with_reducible exact nI_add _ _ | with_reducible exact pk_m1 _ | rfl) ?_)); exact trivial) | refine hG.1 _ _ _ _ _ _ rfl ?_)
theorem m_taken (S : PS) (k n nb : Nat) (rp sh : Int32) (hM : MR S n nb rp sh) (hk : k < n) : Run 0 61 [.ref 12, .int (nI k)] S (.inl (some (tknX S.2.1 nb rp sh k))) S := by
  obtain ⟨⟨h0, h1n, hn, hb, hnb⟩, hW, ⟨h14, -, -, -, -⟩, -, ⟨hsh, hs0⟩, -⟩ := id hM
  refine run_of (by decide +kernel) rfl (fun L xs G hG => ?_)
  repeat (refine hG.1 _ _ _ _ _ _ rfl ?_)
  refine And.intro rfl (cx (m_supplied S k n sh hW hn hk hsh hs0) rfl ?_)
  repeat (refine hG.1 _ _ _ _ _ _ rfl ?_)
  refine And.intro (fun h => ?_) (fun h => ?_)
  · rw [bi_0] at h
    repeat (refine hG.1 _ _ _ _ _ _ rfl ?_)
    refine And.intro rfl (And.intro ?_ rfl)
    rw [tknX, if_neg h]
  · rw [bi_n] at h
    repeat (refine hG.1 _ _ _ _ _ _ rfl ?_)
    refine And.intro (vp_in_nI ((show k < 16 by omega)) (by decide)) ?_; rw [nI_clamp (Nat.lt_trans ((show k < 16 by omega)) (by decide))]
    rw [h14]
    repeat (refine hG.1 _ _ _ _ _ _ rfl ?_)
    refine And.intro rfl (cx (m_leaks S k n nb rp sh hM hk) rfl ?_)
    repeat (refine hG.1 _ _ _ _ _ _ rfl ?_)
    refine And.intro rfl (And.intro ?_ rfl)
    rw [tknX, if_pos h]
theorem smL_0 {c : Nat → Bool} {f : Nat → Int32} : ∀ {k : Nat}, (∀ j, j < k → c j = false) → smL c f k = nI 0
  | 0, _ => rfl
  | k + 1, h => by rw [smL_f (by rw [h k (by omega)]; decide), smL_0 (fun j hj => h j (by omega))]
theorem m_flowBelow (S : PS) (t n nb : Nat) (rp sh : Int32) (hM : MR S n nb rp sh) (ht : t < n) : Run 0 62 [.ref 12, .int (nI t)] S (.inl (some (flX S.2.1 n nb rp sh (nI t)))) S := by
  obtain ⟨⟨h0, h1n, hn, hb, hnb⟩, hW, -⟩ := id hM
  refine run_of (by decide +kernel) rfl (fun L xs G hG => ?_)
  have main : ∀ d, d ≤ n - t → G 0 4 [(3, .int (nI (t + d))), (2, .int (smL (fun k => decide (hsv (S.2.1 1 k) (nI t))) (tknX S.2.1 nb rp sh) (t + d))), (0, .ref 12), (1, .int (nI t))] [] S := by
    refine loop_up (fun d hd ih => ?_) ?_
    · repeat (refine hG.1 _ _ _ _ _ _ rfl ?_)
      rw [h0]
      refine And.intro (fun h => ?_) (fun h => ?_)
      · exact absurd h (nI_ge (by omega) (by omega))
      · repeat (refine hG.1 _ _ _ _ _ _ rfl ?_)
        refine And.intro rfl (cx (m_isBelow S (t + d) t n hW hn (by omega) (by omega)) rfl ?_)
        repeat (refine hG.1 _ _ _ _ _ _ rfl ?_)
        refine And.intro (fun h1 => ?_) (fun h1 => ?_)
        · rw [bi_0] at h1
          have e : smL (fun k => decide (hsv (S.2.1 1 k) (nI t))) (tknX S.2.1 nb rp sh) (t + (d + 1)) = smL (fun k => decide (hsv (S.2.1 1 k) (nI t))) (tknX S.2.1 nb rp sh) (t + d) + nI 0 := by
            rw [← Nat.add_assoc, smL_f (by simpa using h1), nI_0, Int32.add_zero]
          rw [e, ← Nat.add_assoc] at ih
          repeat (first | (refine wk hG ?_ (ih); (repeat (refine And.intro (by first | with_reducible rfl | with_reducible exact nI_add _ _ | with_reducible exact pk_m1 _ | rfl) ?_)); exact trivial) | refine hG.1 _ _ _ _ _ _ rfl ?_)
        · rw [bi_n] at h1
          repeat (refine hG.1 _ _ _ _ _ _ rfl ?_)
          refine And.intro rfl (cx (m_taken S (t + d) n nb rp sh hM (by omega)) rfl ?_)
          have e : smL (fun k => decide (hsv (S.2.1 1 k) (nI t))) (tknX S.2.1 nb rp sh) (t + (d + 1)) = smL (fun k => decide (hsv (S.2.1 1 k) (nI t))) (tknX S.2.1 nb rp sh) (t + d) + tknX S.2.1 nb rp sh (t + d) := by
            rw [← Nat.add_assoc, smL_t (by simpa using h1)]
          rw [e, ← Nat.add_assoc] at ih
          repeat (first | (refine wk hG ?_ (ih); (repeat (refine And.intro (by first | with_reducible rfl | with_reducible exact nI_add _ _ | with_reducible exact pk_m1 _ | rfl) ?_)); exact trivial) | refine hG.1 _ _ _ _ _ _ rfl ?_)
    · rw [show t + (n - t) = n by omega]
      repeat (refine hG.1 _ _ _ _ _ _ rfl ?_)
      rw [h0]
      refine And.intro (fun h => ?_) (fun h => ?_)
      · repeat (refine hG.1 _ _ _ _ _ _ rfl ?_)
        exact And.intro rfl (And.intro rfl rfl)
      · exact absurd (nI_le (Nat.le_refl _) (by omega)) h
  have g := main 0 (Nat.zero_le _)
  rw [Nat.add_zero, smL_0 (fun j hj => by
    simp only [decide_eq_false_iff_not]
    intro z
    have := wy_le hW j (by omega) hn t (by omega) z
    omega)] at g
  repeat (first | (refine wk hG ?_ (g); (repeat (refine And.intro (by first | with_reducible rfl | with_reducible exact nI_add _ _ | with_reducible exact pk_m1 _ | rfl) ?_)); exact trivial) | refine hG.1 _ _ _ _ _ _ rfl ?_)
end
section
def ArOk (A : Nat → Nat → Int32) (n a q : Nat) : Prop := q < n ∧ A 5 a = nI q ∧ ∀ e, e < 32 → hs (A 6 a) e → e < n ∧ e ≠ q ∧ hs (A 1 e) q
theorem m_isExport (S : PS) (a j n nb : Nat) (rp sh : Int32) (hM : MR S n nb rp sh) (ha : a < 8) (hj : j < 16) : Run 0 73 [.ref 12, .int (nI a), .int (nI j)] S (.inl (some (bi (hs (S.2.1 6 a) j)))) S := by
  have h21 := hM.2.2.2.1.2.2.2.2
  refine run_of (by decide +kernel) rfl (fun L xs G hG => ?_)
  repeat (refine hG.1 _ _ _ _ _ _ rfl ?_)
  refine And.intro (vp_in_nI (ha) (by decide)) ?_; rw [nI_clamp (Nat.lt_trans (ha) (by decide))]
  rw [h21]
  repeat (refine hG.1 _ _ _ _ _ _ rfl ?_)
  refine And.intro (fun h => ?_) (fun h => ?_)
  · have h2 : ¬ hs (S.2.1 6 a) j := fun z => h ((hs_shr (by omega)).mpr z)
    repeat (refine hG.1 _ _ _ _ _ _ rfl ?_)
    refine And.intro rfl (And.intro ?_ rfl)
    rw [bi_f h2]
  · have h2 : hs (S.2.1 6 a) j := (hs_shr (by omega)).mp h
    repeat (refine hG.1 _ _ _ _ _ _ rfl ?_)
    refine And.intro rfl (And.intro ?_ rfl)
    rw [bi_t h2]
theorem way_step {A : Nat → Nat → Int32} {x : Int32} {n j q : Nat} (hW : Wy A n) (hj : j < n) (hn : n ≤ 16) (e1 : A 1 j = A 1 q ||| one j) : A 1 j &&& x = 0 ↔ (A 1 q &&& x = 0 ∧ ¬ hs x j) := by
  rw [ands_0, ands_0]
  constructor
  · intro h
    refine ⟨fun i hi hz => h i hi ⟨?_, hz.2⟩, fun hz => h j (by omega) ⟨wy_self hW hj hn, hz⟩⟩
    rw [e1, hs_or hi]
    exact Or.inl hz.1
  · rintro ⟨h, hz⟩ i hi ⟨h3, h4⟩
    rw [e1, hs_or hi, hs_one (by omega) hi] at h3
    rcases h3 with h3 | h3
    · exact h i hi ⟨h3, h4⟩
    · subst h3; exact hz h4
theorem ar_gt {A : Nat → Nat → Int32} {n a q e : Nat} (hW : Wy A n) (hn : n ≤ 16) (hA : ArOk A n a q) (he : e < 32) (h : hs (A 6 a) e) : q < e := by
  obtain ⟨h1, h2, h3⟩ := hA.2.2 e he h
  have := wy_le hW e h1 hn q (by have := hA.1; omega) h3
  omega
theorem m_isWithin (S : PS) (a k q n nb : Nat) (rp sh : Int32) (hM : MR S n nb rp sh) (ha : a < 8) (hk : k < n) (hA : ArOk S.2.1 n a q) : Run 0 74 [.ref 12, .int (nI a), .int (nI k)] S (.inl (some (bi (inA S.2.1 a k = true)))) S := by
  obtain ⟨⟨h0, h1n, hn, hb, hnb⟩, hW, -, ⟨-, -, -, h20, -⟩, -⟩ := id hM
  have hq := hA.1
  have e5 := hA.2.1
  refine run_of (by decide +kernel) rfl (fun L xs G hG => ?_)
  have main0 : ∀ j, j < n → bi (inA S.2.1 a k = true) = nI 0 → G 0 15 [(4, .int (nI j)), (3, .int (nI 0)), (0, .ref 12), (1, .int (nI a))] [] S := by
    intro j
    induction j using Nat.strongRecOn with
    | _ j ih =>
      intro hj he
      repeat (refine hG.1 _ _ _ _ _ _ rfl ?_)
      refine And.intro (vp_in_nI (ha) (by decide)) ?_; rw [nI_clamp (Nat.lt_trans (ha) (by decide))]
      rw [h20, e5]
      repeat (refine hG.1 _ _ _ _ _ _ rfl ?_)
      refine And.intro (fun h1 => ?_) (fun h1 => ?_)
      · repeat (refine hG.1 _ _ _ _ _ _ rfl ?_)
        refine And.intro rfl (And.intro ?_ rfl)
        rw [he]
      · have hlt : q < j := by
          rcases Nat.lt_or_ge q j with z | z
          · exact z
          · exact absurd (nI_le z (by omega)) h1
        obtain ⟨p, hp, e13, e1⟩ := hW.2 j (by omega) hj
        repeat (refine hG.1 _ _ _ _ _ _ rfl ?_)
        refine And.intro (fun h2 => ?_) (fun h2 => ?_)
        · repeat (refine hG.1 _ _ _ _ _ _ rfl ?_)
          refine And.intro (vp_in_nI ((show j < 16 by omega)) (by decide)) ?_; rw [nI_clamp (Nat.lt_trans ((show j < 16 by omega)) (by decide))]
          rw [e13]
          have g := ih p hp (by omega) he
          repeat (first | (refine wk hG ?_ (g); (repeat (refine And.intro (by first | with_reducible rfl | with_reducible exact nI_add _ _ | with_reducible exact pk_m1 _ | rfl) ?_)); exact trivial) | refine hG.1 _ _ _ _ _ _ rfl ?_)
        · exact absurd (by decide) h2
  have main1 : ∀ j, j < n → bi (inA S.2.1 a k = true) = bi (S.2.1 1 j &&& S.2.1 6 a = 0) → G 0 15 [(4, .int (nI j)), (3, .int (nI 1)), (0, .ref 12), (1, .int (nI a))] [] S := by
    intro j
    induction j using Nat.strongRecOn with
    | _ j ih =>
      intro hj he
      repeat (refine hG.1 _ _ _ _ _ _ rfl ?_)
      refine And.intro (vp_in_nI (ha) (by decide)) ?_; rw [nI_clamp (Nat.lt_trans (ha) (by decide))]
      rw [h20, e5]
      repeat (refine hG.1 _ _ _ _ _ _ rfl ?_)
      refine And.intro (fun h1 => ?_) (fun h1 => ?_)
      · have hle : j ≤ q := (nI_leI (by omega) (by omega)).mp h1
        have hz : S.2.1 1 j &&& S.2.1 6 a = 0 := by
          rw [ands_0]
          rintro i hi ⟨h3, h4⟩
          have h5 := ar_gt hW hn hA hi h4
          have h6 := wy_le hW j hj hn i hi h3
          omega
        repeat (refine hG.1 _ _ _ _ _ _ rfl ?_)
        refine And.intro rfl (And.intro ?_ rfl)
        rw [he, bi_t hz]
      · have hlt : q < j := by
          rcases Nat.lt_or_ge q j with z | z
          · exact z
          · exact absurd (nI_le z (by omega)) h1
        obtain ⟨p, hp, e13, e1⟩ := hW.2 j (by omega) hj
        have hst := way_step (x := S.2.1 6 a) hW hj hn e1
        repeat (refine hG.1 _ _ _ _ _ _ rfl ?_)
        refine And.intro (fun h2 => ?_) (fun h2 => ?_)
        · exact absurd h2 (by decide)
        · repeat (refine hG.1 _ _ _ _ _ _ rfl ?_)
          refine And.intro rfl (cx (m_isExport S a j n nb rp sh hM ha (by omega)) rfl ?_)
          repeat (refine hG.1 _ _ _ _ _ _ rfl ?_)
          refine And.intro (fun h3 => ?_) (fun h3 => ?_)
          · rw [bi_n] at h3
            repeat (refine hG.1 _ _ _ _ _ _ rfl ?_)
            refine And.intro (vp_in_nI ((show j < 16 by omega)) (by decide)) ?_; rw [nI_clamp (Nat.lt_trans ((show j < 16 by omega)) (by decide))]
            rw [e13]
            have g := main0 p (by omega) (by rw [he, bi_f (fun z => (hst.mp z).2 h3)])
            repeat (first | (refine wk hG ?_ (g); (repeat (refine And.intro (by first | with_reducible rfl | with_reducible exact nI_add _ _ | with_reducible exact pk_m1 _ | rfl) ?_)); exact trivial) | refine hG.1 _ _ _ _ _ _ rfl ?_)
          · rw [bi_0] at h3
            repeat (refine hG.1 _ _ _ _ _ _ rfl ?_)
            refine And.intro (vp_in_nI ((show j < 16 by omega)) (by decide)) ?_; rw [nI_clamp (Nat.lt_trans ((show j < 16 by omega)) (by decide))]
            rw [e13]
            have g := ih p hp (by omega) (by rw [he]; unfold bi; simp only [hst, h3, not_false_eq_true, and_true])
            repeat (first | (refine wk hG ?_ (g); (repeat (refine And.intro (by first | with_reducible rfl | with_reducible exact nI_add _ _ | with_reducible exact pk_m1 _ | rfl) ?_)); exact trivial) | refine hG.1 _ _ _ _ _ _ rfl ?_)
  repeat (refine hG.1 _ _ _ _ _ _ rfl ?_)
  refine And.intro (vp_in_nI (ha) (by decide)) ?_; rw [nI_clamp (Nat.lt_trans (ha) (by decide))]
  rw [h20, e5]
  repeat (refine hG.1 _ _ _ _ _ _ rfl ?_)
  refine And.intro rfl (cx (m_isBelow S k q n hW hn hk (by omega)) rfl ?_)
  by_cases hz : hs (S.2.1 1 k) q
  · rw [bi_t hz]
    have g := main1 k hk (by unfold bi; simp only [inA, Bool.and_eq_true, decide_eq_true_eq, e5, hsv]; simp only [hz, not_false_eq_true, true_and])
    repeat (first | (refine wk hG ?_ (g); (repeat (refine And.intro (by first | with_reducible rfl | with_reducible exact nI_add _ _ | with_reducible exact pk_m1 _ | rfl) ?_)); exact trivial) | refine hG.1 _ _ _ _ _ _ rfl ?_)
  · rw [bi_f hz]
    have g := main0 k hk (bi_f (by simp only [inA, Bool.and_eq_true, decide_eq_true_eq, e5, hsv]; exact fun z => hz z.1))
    repeat (first | (refine wk hG ?_ (g); (repeat (refine And.intro (by first | with_reducible rfl | with_reducible exact nI_add _ _ | with_reducible exact pk_m1 _ | rfl) ?_)); exact trivial) | refine hG.1 _ _ _ _ _ _ rfl ?_)
theorem m_many (S : PS) (a q n nb : Nat) (rp sh : Int32) (hM : MR S n nb rp sh) (ha : a < 8) (hA : ArOk S.2.1 n a q) : Run 0 75 [.ref 12, .int (nI a)] S (.inl (some (nI (cnt (inA S.2.1 a) n)))) S := by
  obtain ⟨⟨h0, h1n, hn, -, -⟩, -⟩ := id hM
  refine run_of (by decide +kernel) rfl (fun L xs G hG => ?_)
  have main : ∀ k, k ≤ n → G 0 4 [(3, .int (nI k)), (2, .int (nI (cnt (inA S.2.1 a) k))), (0, .ref 12), (1, .int (nI a))] [] S := by
    refine loop_up (fun k hk ih => ?_) ?_
    · repeat (refine hG.1 _ _ _ _ _ _ rfl ?_)
      rw [h0]
      refine And.intro (fun h => ?_) (fun h => ?_)
      · exact absurd h (nI_ge (by omega) (by omega))
      · repeat (refine hG.1 _ _ _ _ _ _ rfl ?_)
        refine And.intro rfl (cx (m_isWithin S a k q n nb rp sh hM ha hk hA) rfl ?_)
        repeat (refine hG.1 _ _ _ _ _ _ rfl ?_)
        refine And.intro (fun h1 => ?_) (fun h1 => ?_)
        · rw [bi_0] at h1
          have e : nI (cnt (inA S.2.1 a) (k + 1)) = nI (cnt (inA S.2.1 a) k) + nI 0 := by rw [cnt_f h1, nI_add, Nat.add_zero]
          rw [e] at ih
          repeat (first | (refine wk hG ?_ (ih); (repeat (refine And.intro (by first | with_reducible rfl | with_reducible exact nI_add _ _ | with_reducible exact pk_m1 _ | rfl) ?_)); exact trivial) | refine hG.1 _ _ _ _ _ _ rfl ?_)
        · rw [bi_n] at h1
          have e : nI (cnt (inA S.2.1 a) (k + 1)) = nI (cnt (inA S.2.1 a) k) + nI 1 := by rw [cnt_t h1, nI_add]
          rw [e] at ih
          repeat (first | (refine wk hG ?_ (ih); (repeat (refine And.intro (by first | with_reducible rfl | with_reducible exact nI_add _ _ | with_reducible exact pk_m1 _ | rfl) ?_)); exact trivial) | refine hG.1 _ _ _ _ _ _ rfl ?_)
    · repeat (refine hG.1 _ _ _ _ _ _ rfl ?_)
      rw [h0]
      refine And.intro (fun h => ?_) (fun h => ?_)
      · repeat (refine hG.1 _ _ _ _ _ _ rfl ?_)
        exact And.intro rfl (And.intro rfl rfl)
      · exact absurd (nI_le (Nat.le_refl _) (by omega)) h
  have h0 := main 0 (Nat.zero_le _); simp only [cnt] at h0; repeat (first | (refine wk hG ?_ (h0); (repeat (refine And.intro (by first | with_reducible rfl | with_reducible exact nI_add _ _ | with_reducible exact pk_m1 _ | rfl) ?_)); exact trivial) | refine hG.1 _ _ _ _ _ _ rfl ?_)
theorem m_takenBy (S : PS) (a q n nb : Nat) (rp sh : Int32) (hM : MR S n nb rp sh) (ha : a < 8) (hA : ArOk S.2.1 n a q) : Run 0 81 [.ref 12, .int (nI a)] S (.inl (some (smL (inA S.2.1 a) (tknX S.2.1 nb rp sh) n))) S := by
  obtain ⟨⟨h0, h1n, hn, -, -⟩, -⟩ := id hM
  refine run_of (by decide +kernel) rfl (fun L xs G hG => ?_)
  have main : ∀ k, k ≤ n → G 0 4 [(3, .int (nI k)), (2, .int (smL (inA S.2.1 a) (tknX S.2.1 nb rp sh) k)), (0, .ref 12), (1, .int (nI a))] [] S := by
    refine loop_up (fun k hk ih => ?_) ?_
    · repeat (refine hG.1 _ _ _ _ _ _ rfl ?_)
      rw [h0]
      refine And.intro (fun h => ?_) (fun h => ?_)
      · exact absurd h (nI_ge (by omega) (by omega))
      · repeat (refine hG.1 _ _ _ _ _ _ rfl ?_)
        refine And.intro rfl (cx (m_isWithin S a k q n nb rp sh hM ha hk hA) rfl ?_)
        repeat (refine hG.1 _ _ _ _ _ _ rfl ?_)
        refine And.intro (fun h1 => ?_) (fun h1 => ?_)
        · rw [bi_0] at h1
          have e : smL (inA S.2.1 a) (tknX S.2.1 nb rp sh) (k + 1) = smL (inA S.2.1 a) (tknX S.2.1 nb rp sh) k + nI 0 := by rw [smL_f h1, nI_0, Int32.add_zero]
          rw [e] at ih
          repeat (first | (refine wk hG ?_ (ih); (repeat (refine And.intro (by first | with_reducible rfl | with_reducible exact nI_add _ _ | with_reducible exact pk_m1 _ | rfl) ?_)); exact trivial) | refine hG.1 _ _ _ _ _ _ rfl ?_)
        · rw [bi_n] at h1
          repeat (refine hG.1 _ _ _ _ _ _ rfl ?_)
          refine And.intro rfl (cx (m_taken S k n nb rp sh hM hk) rfl ?_)
          rw [smL_t h1] at ih
          repeat (first | (refine wk hG ?_ (ih); (repeat (refine And.intro (by first | with_reducible rfl | with_reducible exact nI_add _ _ | with_reducible exact pk_m1 _ | rfl) ?_)); exact trivial) | refine hG.1 _ _ _ _ _ _ rfl ?_)
    · repeat (refine hG.1 _ _ _ _ _ _ rfl ?_)
      rw [h0]
      refine And.intro (fun h => ?_) (fun h => ?_)
      · repeat (refine hG.1 _ _ _ _ _ _ rfl ?_)
        exact And.intro rfl (And.intro rfl rfl)
      · exact absurd (nI_le (Nat.le_refl _) (by omega)) h
  have h0 := main 0 (Nat.zero_le _); simp only [smL] at h0; repeat (first | (refine wk hG ?_ (h0); (repeat (refine And.intro (by first | with_reducible rfl | with_reducible exact nI_add _ _ | with_reducible exact pk_m1 _ | rfl) ?_)); exact trivial) | refine hG.1 _ _ _ _ _ _ rfl ?_)
theorem m_counts (S : PS) (a k q n nb : Nat) (rp sh : Int32) (hM : MR S n nb rp sh) (ha : a < 8) (h0k : 0 < k) (hk : k < n) (hA : ArOk S.2.1 n a q) : Run 0 79 [.ref 12, .int (nI a), .int (nI k)] S (.inl (some (bi (S.2.1 1 k &&& S.2.1 6 a = one k)))) S := by
  obtain ⟨⟨h0, h1n, hn, hb, hnb⟩, hW, -⟩ := id hM
  obtain ⟨p, hp, e13, e1⟩ := hW.2 k h0k hk
  have hq := hA.1
  refine run_of (by decide +kernel) rfl (fun L xs G hG => ?_)
  repeat (refine hG.1 _ _ _ _ _ _ rfl ?_)
  refine And.intro rfl (cx (m_isExport S a k n nb rp sh hM ha (by omega)) rfl ?_)
  repeat (refine hG.1 _ _ _ _ _ _ rfl ?_)
  refine And.intro (fun h1 => ?_) (fun h1 => ?_)
  · rw [bi_0] at h1
    repeat (refine hG.1 _ _ _ _ _ _ rfl ?_)
    refine And.intro rfl (And.intro ?_ rfl)
    rw [bi_f]
    intro z
    have h2 : hs (S.2.1 1 k &&& S.2.1 6 a) k := by rw [z]; exact (hs_one (by omega) (by omega)).mpr rfl
    exact h1 ((hs_and (by omega)).mp h2).2
  · rw [bi_n] at h1
    repeat (refine hG.1 _ _ _ _ _ _ rfl ?_)
    refine And.intro (vp_in_nI ((show k < 16 by omega)) (by decide)) ?_; rw [nI_clamp (Nat.lt_trans ((show k < 16 by omega)) (by decide))]
    rw [e13]
    repeat (refine hG.1 _ _ _ _ _ _ rfl ?_)
    refine And.intro rfl (cx (m_isWithin S a p q n nb rp sh hM ha (by omega) hA) rfl ?_)
    obtain ⟨h3, h4, h5⟩ := hA.2.2 k (by omega) h1
    have h6 : hs (S.2.1 1 p) q := (wy_step e1 (by omega) (by omega) (Ne.symm h4)).mp h5
    have key : inA S.2.1 a p = true ↔ S.2.1 1 k &&& S.2.1 6 a = one k := by
      simp only [inA, Bool.and_eq_true, decide_eq_true_eq, hA.2.1, hsv]
      constructor
      · rintro ⟨-, z⟩
        apply hs_ext
        intro j hj
        rw [hs_and hj, hs_one (by omega) hj]
        constructor
        · rintro ⟨z1, z2⟩
          by_cases hjk : j = k
          · exact hjk.symm
          · exact absurd ⟨(wy_step e1 (by omega) hj hjk).mp z1, z2⟩ (ands_0.mp z j hj)
        · intro z1
          subst z1
          exact ⟨wy_self hW hk hn, h1⟩
      · intro z
        refine ⟨h6, ands_0.mpr ?_⟩
        rintro j hj ⟨z1, z2⟩
        have h7 : hs (S.2.1 1 k &&& S.2.1 6 a) j := by
          rw [hs_and hj, e1, hs_or hj]
          exact ⟨Or.inl z1, z2⟩
        rw [z, hs_one (by omega) hj] at h7
        subst h7
        have := wy_le hW p (by omega) hn k hj z1
        omega
    repeat (refine hG.1 _ _ _ _ _ _ rfl ?_)
    refine And.intro (fun h2 => ?_) (fun h2 => ?_)
    · rw [bi_0] at h2
      repeat (refine hG.1 _ _ _ _ _ _ rfl ?_)
      refine And.intro rfl (And.intro ?_ rfl)
      rw [bi_f (fun z => h2 (key.mpr z))]
    · rw [bi_n] at h2
      repeat (refine hG.1 _ _ _ _ _ _ rfl ?_)
      refine And.intro rfl (And.intro ?_ rfl)
      rw [bi_t (key.mp h2)]
theorem hs_pts {A : Nat → Nat → Int32} {sh : Int32} {n a q k : Nat} (hn : n ≤ 16) (hq : q < 16) (e5 : A 5 a = nI q) (hk : k < 32) : hs (ptsX A sh n a) k ↔ (k < n ∧ inA A a k = true) ∧ q ≠ k ∧ ¬ hs sh k := by
  unfold ptsX
  rw [hs_and hk, hs_and hk, hs_not hk, hs_not hk, e5, hs_one (by omega) hk, hs_stL hk n (by omega), and_assoc]
theorem m_pipe (S : PS) (a q n nb : Nat) (rp sh step : Int32) (hM : MR S n nb rp sh) (ha : a < 8) (hA : ArOk S.2.1 n a q) : Run 0 84 [.ref 12, .int (nI a), .int step] S (.inl (some (match pkX S.2.1 sh n a step with
    | some k => nI k
    | none => -1))) S := by
  obtain ⟨⟨h0, h1n, hn, hb, hnb⟩, hW, -, ⟨-, -, -, h20, -⟩, ⟨hsh, hs0⟩, -⟩ := id hM
  have hq := hA.1
  have e5 := hA.2.1
  obtain ⟨c, hc⟩ : ∃ c : Nat → Bool, c = fun k => decide (hs (ptsX S.2.1 sh n a) k) := ⟨_, rfl⟩
  have hpk : pkX S.2.1 sh n a step = pst c step (n - 1) 0 := by rw [hc]
  rw [hpk]
  obtain ⟨T, hT⟩ : ∃ T, T = pst c step (n - 1) 0 := ⟨_, rfl⟩
  rw [← hT]
  refine run_of (by decide +kernel) rfl (fun L xs G hG => ?_)
  have main : ∀ k, k ≤ n - 1 → ∀ p, p + k ≤ 16 → pst c step k p = T → G 0 10 [(4, .int (nI k)), (3, .int (step - nI p)), (0, .ref 12), (1, .int (nI a))] [] S := by
    refine loop_dn (fun k hk ih => ?_) ?_
    · intro p hp he
      have hce : c (k + 1) = true ↔ inA S.2.1 a (k + 1) = true ∧ q ≠ k + 1 ∧ ¬ hs sh (k + 1) := by
        rw [hc]
        simp only [decide_eq_true_eq]
        rw [hs_pts hn (by omega) e5 (by omega)]
        constructor
        · rintro ⟨⟨-, z1⟩, z2⟩; exact ⟨z1, z2⟩
        · rintro ⟨z1, z2⟩; exact ⟨⟨by omega, z1⟩, z2⟩
      have hno : ¬ c (k + 1) = true → G 0 10 [(4, .int (nI k)), (3, .int (step - nI p)), (0, .ref 12), (1, .int (nI a))] [] S := by
        intro z
        apply ih p (by omega)
        rw [← he, pst, if_neg z]
      repeat (refine hG.1 _ _ _ _ _ _ rfl ?_)
      refine And.intro (fun h => ?_) (fun h => ?_)
      · exact absurd h (nI_nle (by omega) (by omega))
      · repeat (refine hG.1 _ _ _ _ _ _ rfl ?_)
        refine And.intro (vp_in_nI (ha) (by decide)) ?_; rw [nI_clamp (Nat.lt_trans (ha) (by decide))]
        rw [h20, e5]
        repeat (refine hG.1 _ _ _ _ _ _ rfl ?_)
        refine And.intro (fun h1 => ?_) (fun h1 => ?_)
        · have g := hno (fun z => (hce.mp z).2.1 ((nI_eq (by omega) (by omega)).mp h1).symm)
          repeat (first | (refine wk hG ?_ (g); (repeat (refine And.intro (by first | with_reducible rfl | with_reducible exact nI_add _ _ | with_reducible exact pk_m1 _ | rfl) ?_)); exact trivial) | refine hG.1 _ _ _ _ _ _ rfl ?_)
        · repeat (refine hG.1 _ _ _ _ _ _ rfl ?_)
          refine And.intro rfl (cx (m_isWithin S a (k + 1) q n nb rp sh hM ha (by omega) hA) rfl ?_)
          repeat (refine hG.1 _ _ _ _ _ _ rfl ?_)
          refine And.intro (fun h2 => ?_) (fun h2 => ?_)
          · rw [bi_0] at h2
            have g := hno (fun z => h2 (hce.mp z).1)
            repeat (first | (refine wk hG ?_ (g); (repeat (refine And.intro (by first | with_reducible rfl | with_reducible exact nI_add _ _ | with_reducible exact pk_m1 _ | rfl) ?_)); exact trivial) | refine hG.1 _ _ _ _ _ _ rfl ?_)
          · rw [bi_n] at h2
            repeat (refine hG.1 _ _ _ _ _ _ rfl ?_)
            refine And.intro (vp_in_nI ((show k + 1 < 16 by omega)) (by decide)) ?_; rw [nI_clamp (Nat.lt_trans ((show k + 1 < 16 by omega)) (by decide))]
            rw [hsh _ (by omega)]
            repeat (refine hG.1 _ _ _ _ _ _ rfl ?_)
            refine And.intro (fun h3 => ?_) (fun h3 => ?_)
            · rw [bi_n] at h3
              have g := hno (fun z => (hce.mp z).2.2 h3)
              repeat (first | (refine wk hG ?_ (g); (repeat (refine And.intro (by first | with_reducible rfl | with_reducible exact nI_add _ _ | with_reducible exact pk_m1 _ | rfl) ?_)); exact trivial) | refine hG.1 _ _ _ _ _ _ rfl ?_)
            · rw [bi_0] at h3
              have hct : c (k + 1) = true := hce.mpr ⟨h2, fun z => h1 (by rw [z]), h3⟩
              repeat (refine hG.1 _ _ _ _ _ _ rfl ?_)
              refine And.intro (fun h4 => ?_) (fun h4 => ?_)
              · have hne : ¬ nI p = step := fun z => h4 (by rw [z]; exact Int32.sub_self step)
                have g := ih (p + 1) (by omega) (by rw [← he, pst, if_pos hct, if_neg hne])
                have e : step - nI (p + 1) = step - nI p + (-1) := by rw [← nI_add, show nI 1 = 1 from rfl]; grind
                rw [e] at g
                repeat (first | (refine wk hG ?_ (g); (repeat (refine And.intro (by first | with_reducible rfl | with_reducible exact nI_add _ _ | with_reducible exact pk_m1 _ | rfl) ?_)); exact trivial) | refine hG.1 _ _ _ _ _ _ rfl ?_)
              · have heq : nI p = step := by
                  have z : step - nI p = 0 := h4
                  grind
                repeat (refine hG.1 _ _ _ _ _ _ rfl ?_)
                refine And.intro rfl (And.intro ?_ rfl)
                rw [← he, pst, if_pos hct, if_pos heq]
    · intro p hp he
      repeat (refine hG.1 _ _ _ _ _ _ rfl ?_)
      refine And.intro (fun h => ?_) (fun h => ?_)
      · repeat (refine hG.1 _ _ _ _ _ _ rfl ?_)
        refine And.intro rfl (And.intro ?_ rfl)
        rw [← he, pst]
      · exact absurd (Int32.le_refl 0) h
  have g := main (n - 1) (Nat.le_refl _) 0 (by omega) hT.symm
  have e : S.1 12 0 - nI 1 = nI (n - 1) := by
    rw [h0]
    exact pk_sub h1n
  have e2 : step - nI 0 = step := by rw [nI_0]; exact Int32.sub_zero step
  rw [← e, e2] at g
  repeat (first | (refine wk hG ?_ (g); (repeat (refine And.intro (by first | with_reducible rfl | with_reducible exact nI_add _ _ | with_reducible exact pk_m1 _ | rfl) ?_)); exact trivial) | refine hG.1 _ _ _ _ _ _ rfl ?_)
end
section
theorem pst_nonneg {c : Nat → Bool} {step : Int32} : ∀ (k p : Nat), p + k ≤ 100 → step < 0 → pst c step k p = none
  | 0, _, _, _ => rfl
  | k + 1, p, h, hs => by
    rw [pst]
    split
    · rw [if_neg (fun z => nI_pos (n := p) (by omega) (by rw [z]; exact hs))]
      exact pst_nonneg k (p + 1) (by omega) hs
    · exact pst_nonneg k p (by omega) hs
theorem pst_le {c : Nat → Bool} {step : Int32} {r : Nat} : ∀ (k p : Nat), pst c step k p = some r → 0 < r ∧ r ≤ k ∧ c r = true
  | 0, _, h => by cases h
  | k + 1, p, h => by
    rw [pst] at h
    split at h
    · rename_i hc
      split at h
      · cases h; exact ⟨by omega, Nat.le_refl _, hc⟩
      · obtain ⟨h1, h2, h3⟩ := pst_le k (p + 1) h
        exact ⟨h1, by omega, h3⟩
    · obtain ⟨h1, h2, h3⟩ := pst_le k p h
      exact ⟨h1, by omega, h3⟩
theorem m_isStep_na (S : PS) (x y : Int32) (na : Nat) (h : S.1 12 8 = nI na) (hn : na ≤ 8) (hx : noN x (nI na)) : Run 0 86 [.ref 12, .int x, .int y] S (.inl (some (nI 0))) S := by
  refine run_of (by decide +kernel) rfl (fun L xs G hG => ?_)
  repeat (refine hG.1 _ _ _ _ _ _ rfl ?_)
  refine And.intro rfl (cx (m_isArea_f S x na h (by omega) hx) rfl ?_)
  repeat (refine hG.1 _ _ _ _ _ _ rfl ?_)
  refine And.intro (fun h1 => ?_) (fun h1 => ?_)
  · repeat (refine hG.1 _ _ _ _ _ _ rfl ?_)
    exact And.intro rfl (And.intro rfl rfl)
  · exact absurd (by decide) h1
theorem m_isStep (S : PS) (a q n nb na : Nat) (rp sh y : Int32) (hM : MR S n nb rp sh) (h8 : S.1 12 8 = nI na) (hna : na ≤ 8) (ha : a < na) (hA : ArOk S.2.1 n a q) : Run 0 86 [.ref 12, .int (nI a), .int y] S (.inl (some (bi ((pkX S.2.1 sh n a y).isSome = true)))) S := by
  have hn := hM.1.2.2.1
  refine run_of (by decide +kernel) rfl (fun L xs G hG => ?_)
  repeat (refine hG.1 _ _ _ _ _ _ rfl ?_)
  refine And.intro rfl (cx (m_isArea_t S a na h8 (by omega) ha) rfl ?_)
  repeat (refine hG.1 _ _ _ _ _ _ rfl ?_)
  refine And.intro (fun h1 => ?_) (fun h1 => ?_)
  · exact absurd h1 (by decide)
  · repeat (refine hG.1 _ _ _ _ _ _ rfl ?_)
    refine And.intro (fun h2 => ?_) (fun h2 => ?_)
    · repeat (refine hG.1 _ _ _ _ _ _ rfl ?_)
      refine And.intro rfl (And.intro ?_ rfl)
      rw [pkX, pst_nonneg (n - 1) 0 (by omega) h2, bi_f (by decide)]
    · repeat (refine hG.1 _ _ _ _ _ _ rfl ?_)
      refine And.intro rfl (cx (m_pipe S a q n nb rp sh y hM (by omega) hA) rfl ?_)
      cases hp : pkX S.2.1 sh n a y with
      | none =>
        repeat (refine hG.1 _ _ _ _ _ _ rfl ?_)
        refine And.intro (fun h3 => ?_) (fun h3 => ?_)
        · repeat (refine hG.1 _ _ _ _ _ _ rfl ?_)
          refine And.intro rfl (And.intro ?_ rfl)
          rw [bi_f (by rw [hp]; decide)]
        · exact absurd rfl h3
      | some r =>
        have hr := pst_le _ _ hp
        repeat (refine hG.1 _ _ _ _ _ _ rfl ?_)
        refine And.intro (fun h3 => ?_) (fun h3 => ?_)
        · exact absurd h3 (by
            intro z
            have h4 : (nI r).toInt = r := nI_toInt (by omega)
            have z2 : nI r = -1 := z
            rw [z2] at h4
            have h5 : (-1 : Int32).toInt = -1 := by decide
            omega)
        · repeat (refine hG.1 _ _ _ _ _ _ rfl ?_)
          refine And.intro rfl (And.intro ?_ rfl)
          rw [bi_t (by rw [hp]; rfl)]
theorem nar_b1 : vp_nar .boolean (nI 1) = nI 1 := by decide
theorem nar_b0 : vp_nar .boolean (nI 0) = nI 0 := by decide
abbrev st25 (S : PS) (f : Nat → Int32) : PS := (S.1, va_up S.2.1 25 f, S.2.2)
theorem MR_25 {S : PS} {n nb : Nat} {rp rp' sh : Int32} {f : Nat → Int32} (hM : MR S n nb rp sh) (hf : ∀ b, b < 20 → f b = bi (hs rp' b)) : MR (st25 S f) n nb rp' sh :=
  ⟨hM.1, hM.2.1, hM.2.2.1, hM.2.2.2.1, hM.2.2.2.2.1, hf⟩
theorem lkgX_congr {A A' : Nat → Nat → Int32} {nb j : Nat} {rp : Int32} (h1 : A' 1 = A 1) (h3 : A' 3 = A 3) (h4 : A' 4 = A 4) (h7 : A' 7 = A 7) (h8 : A' 8 = A 8) : lkgX A' nb rp j = lkgX A nb rp j := by
  simp only [lkgX, prs, amtL_congr h3 h7 h8, h1, h4]
theorem tknX_congr {A A' : Nat → Nat → Int32} {nb j : Nat} {rp sh : Int32} (h1 : A' 1 = A 1) (h2 : A' 2 = A 2) (h3 : A' 3 = A 3) (h4 : A' 4 = A 4) (h7 : A' 7 = A 7) (h8 : A' 8 = A 8) : tknX A' nb rp sh j = tknX A nb rp sh j := by
  simp only [tknX, lkgX_congr h1 h3 h4 h7 h8, h1, h2]
theorem amt_less {A : Nat → Nat → Int32} {rp : Int32} {j b : Nat} (hb32 : b < 32) (h7 : A 7 b = nI j) (hr : ¬ hs rp b) : ∀ k, k ≤ 32 → amtL A (rp ||| one b) j k = if b < k then amtL A rp j k - A 8 b else amtL A rp j k
  | 0, _ => by rw [if_neg (by omega)]; rfl
  | k + 1, hk => by
    have ih := amt_less (A := A) hb32 h7 hr k (by omega)
    have hor : hs (rp ||| one b) k ↔ (hs rp k ∨ b = k) := by rw [hs_or (by omega), hs_one hb32 (by omega)]
    rw [amtL, amtL, ih]
    by_cases hbk : b = k
    · subst hbk
      rw [if_neg (fun z => z.2 (hor.mpr (Or.inr rfl))), if_neg (Nat.lt_irrefl b), if_pos (show b < b + 1 by omega), if_pos ⟨h7, hr⟩]
      grind
    · by_cases hc : A 7 k = nI j ∧ ¬ hs rp k
      · rw [if_pos ⟨hc.1, fun z => (hor.mp z).elim hc.2 hbk⟩, if_pos hc]
        by_cases hlt : b < k
        · rw [if_pos hlt, if_pos (show b < k + 1 by omega)]
          grind
        · rw [if_neg hlt, if_neg (show ¬ b < k + 1 by omega)]
      · rw [if_neg (fun z => hc ⟨z.1, fun y => z.2 (hor.mpr (Or.inl y))⟩), if_neg hc]
        by_cases hlt : b < k
        · rw [if_pos hlt, if_pos (show b < k + 1 by omega)]
        · rw [if_neg hlt, if_neg (show ¬ b < k + 1 by omega)]
theorem m_costs (S : PS) (b q n nb : Nat) (rp sh : Int32) (hM : MR S n nb rp sh) (hb : b < nb) (hq : q < n) (hbq : S.2.1 7 b = nI q) : Run 0 91 [.ref 12, .int (nI b)] S (.inl (some (csX S.2.1 nb rp sh b))) S := by
  obtain ⟨⟨h0, h1n, hn, hb0, hnb⟩, hW, -, ⟨h22, -, -, -, -⟩, -, hrp⟩ := id hM
  have hq2 : (S.2.1 7 b).toNatClampNeg = q := by rw [hbq]; exact nI_clamp (by omega)
  refine run_of (by decide +kernel) rfl (fun L xs G hG => ?_)
  repeat (refine hG.1 _ _ _ _ _ _ rfl ?_)
  refine And.intro (vp_in_nI ((show b < 20 by omega)) (by decide)) ?_; rw [nI_clamp (Nat.lt_trans ((show b < 20 by omega)) (by decide))]
  rw [hrp b (by omega)]
  repeat (refine hG.1 _ _ _ _ _ _ rfl ?_)
  refine And.intro (fun h1 => ?_) (fun h1 => ?_)
  · rw [bi_0] at h1
    have f1 : ∀ c, c < 20 → upd (S.2.1 25) b (nI 1) c = bi (hs (rp ||| one b) c) := by
      intro c hc
      have hor : hs (rp ||| one b) c ↔ (hs rp c ∨ b = c) := by rw [hs_or (by omega), hs_one (by omega) (by omega)]
      by_cases hcb : c = b
      · subst hcb
        rw [upd_same, bi_t (hor.mpr (Or.inr rfl))]
      · rw [upd_lt hcb, hrp c hc]
        unfold bi
        simp only [hor, show ¬ b = c from fun z => hcb z.symm, or_false]
    have hM1 := MR_25 hM f1
    repeat (refine hG.1 _ _ _ _ _ _ rfl ?_)
    refine And.intro (vp_in_nI ((show b < 20 by omega)) (by decide)) ?_; rw [nI_clamp (Nat.lt_trans ((show b < 20 by omega)) (by decide))]
    rw [h22, hbq]
    repeat (refine hG.1 _ _ _ _ _ _ rfl ?_)
    refine And.intro rfl (cx (m_taken S q n nb rp sh hM hq) rfl ?_)
    repeat (refine hG.1 _ _ _ _ _ _ rfl ?_)
    refine And.intro (vp_in_nI ((show b < 20 by omega)) (by decide)) ?_; rw [nI_clamp (Nat.lt_trans ((show b < 20 by omega)) (by decide))]
    rw [nar_b1]
    repeat (refine hG.1 _ _ _ _ _ _ rfl ?_)
    refine And.intro (vp_in_nI ((show b < 20 by omega)) (by decide)) ?_; rw [nI_clamp (Nat.lt_trans ((show b < 20 by omega)) (by decide))]
    rw [show (st25 S (upd (S.2.1 25) b (nI 1))).2.1 22 b = nI q by rw [← hbq, ← h22]; rfl]
    repeat (refine hG.1 _ _ _ _ _ _ rfl ?_)
    refine And.intro rfl (cx (m_taken (st25 S (upd (S.2.1 25) b (nI 1))) q n nb (rp ||| one b) sh hM1 hq) rfl ?_)
    repeat (refine hG.1 _ _ _ _ _ _ rfl ?_)
    refine And.intro (vp_in_nI ((show b < 20 by omega)) (by decide)) ?_; rw [nI_clamp (Nat.lt_trans ((show b < 20 by omega)) (by decide))]
    rw [nar_b0]
    repeat (refine hG.1 _ _ _ _ _ _ rfl ?_)
    refine And.intro rfl (And.intro ?_ ?_)
    · rw [tknX_congr (A := S.2.1) (A' := (st25 S (upd (S.2.1 25) b (nI 1))).2.1) rfl rfl rfl rfl rfl rfl]
      congr 2
      have ha := amt_less (A := S.2.1) (show b < 32 by omega) hbq h1 nb (by omega)
      rw [if_pos hb] at ha
      unfold csX tknX lkgX
      rw [hq2, ha]
      by_cases hs0 : S.2.1 1 q &&& sh = 0
      · rw [if_pos hs0, if_pos hs0, if_neg (fun z => z.elim h1 (fun y => y hs0))]
        grind
      · rw [if_neg hs0, if_neg hs0, if_pos (Or.inr hs0)]
        decide
    · have e : upd (upd (S.2.1 25) b (nI 1)) b (nI 0) = S.2.1 25 := by
        funext c
        by_cases hc : c = b
        · subst hc
          rw [upd_same, hrp c (by omega), bi_f h1]
        · rw [upd_lt hc, upd_lt hc]
      show (S.1, va_up (va_up S.2.1 25 (upd (S.2.1 25) b (nI 1))) 25 (upd (upd (S.2.1 25) b (nI 1)) b (nI 0)), S.2.2) = S
      rw [va_up_up, e, va_up_id]
  · rw [bi_n] at h1
    repeat (refine hG.1 _ _ _ _ _ _ rfl ?_)
    refine And.intro rfl (And.intro ?_ rfl)
    rw [csX, if_pos (Or.inl h1)]
abbrev ahM (cs h : Nat → Int32) (j k : Nat) : Prop := cs k * h j < cs j * h k ∨ (cs j * h k = cs k * h j ∧ j < k)
theorem m_isAhead (S : PS) (j k n nb : Nat) (rp sh : Int32) (hM : MR S n nb rp sh) (hj : j < nb) (hk : k < nb) (hB : ∀ b, b < nb → ∃ q : Nat, q < n ∧ S.2.1 7 b = nI q) : Run 0 94 [.ref 12, .int (nI j), .int (nI k)] S (.inl (some (bi (ahM (csX S.2.1 nb rp sh) (S.2.1 9) j k)))) S := by
  obtain ⟨⟨h0, h1n, hn, hb0, hnb⟩, hW, -, ⟨-, -, h24, -, -⟩, -⟩ := id hM
  obtain ⟨q1, hq1, e1⟩ := hB j hj
  obtain ⟨q2, hq2, e2⟩ := hB k hk
  refine run_of (by decide +kernel) rfl (fun L xs G hG => ?_)
  repeat (refine hG.1 _ _ _ _ _ _ rfl ?_)
  refine And.intro rfl (cx (m_costs S j q1 n nb rp sh hM hj hq1 e1) rfl ?_)
  repeat (refine hG.1 _ _ _ _ _ _ rfl ?_)
  refine And.intro (vp_in_nI ((show k < 20 by omega)) (by decide)) ?_; rw [nI_clamp (Nat.lt_trans ((show k < 20 by omega)) (by decide))]
  rw [h24]
  repeat (refine hG.1 _ _ _ _ _ _ rfl ?_)
  refine And.intro rfl (cx (m_costs S k q2 n nb rp sh hM hk hq2 e2) rfl ?_)
  repeat (refine hG.1 _ _ _ _ _ _ rfl ?_)
  refine And.intro (vp_in_nI ((show j < 20 by omega)) (by decide)) ?_; rw [nI_clamp (Nat.lt_trans ((show j < 20 by omega)) (by decide))]
  rw [h24]
  repeat (refine hG.1 _ _ _ _ _ _ rfl ?_)
  refine And.intro (fun h1 => ?_) (fun h1 => ?_)
  · repeat (refine hG.1 _ _ _ _ _ _ rfl ?_)
    refine And.intro rfl (And.intro ?_ rfl)
    rw [bi_t (Or.inl h1)]
  · repeat (refine hG.1 _ _ _ _ _ _ rfl ?_)
    refine And.intro (fun h2 => ?_) (fun h2 => ?_)
    · repeat (refine hG.1 _ _ _ _ _ _ rfl ?_)
      refine And.intro rfl (And.intro ?_ rfl)
      rw [bi_f]
      rintro (z | z)
      · exact h1 z
      · exact h2 z.1
    · repeat (refine hG.1 _ _ _ _ _ _ rfl ?_)
      refine And.intro (fun h3 => ?_) (fun h3 => ?_)
      · repeat (refine hG.1 _ _ _ _ _ _ rfl ?_)
        refine And.intro rfl (And.intro ?_ rfl)
        rw [bi_f]
        rintro (z | z)
        · exact h1 z
        · have := (nI_leI (by omega) (by omega)).mp h3
          omega
      · repeat (refine hG.1 _ _ _ _ _ _ rfl ?_)
        refine And.intro rfl (And.intro ?_ rfl)
        rw [bi_t]
        refine Or.inr ⟨h2, ?_⟩
        rcases Nat.lt_or_ge j k with z | z
        · exact z
        · exact absurd (nI_le z (by omega)) h3
abbrev rkN (cs h : Nat → Int32) (rp : Int32) (nb k : Nat) : Nat := cnt (fun j => decide (¬ hs rp j ∧ j ≠ k ∧ ahM cs h j k)) nb
theorem rank_G (S : PS) (n nb : Nat) (rp sh y : Int32) (hM : MR S n nb rp sh) (hB : ∀ b, b < nb → ∃ q : Nat, q < n ∧ S.2.1 7 b = nI q) {L : Nat} {xs : Nat → Int32} {K : Nat} {P : Nat → PR → PS → Prop} {G : KT} (hG : Cl 95 L xs K P G)
    (hsm : ∀ k, k < nb → ¬ hs rp k → nI (rkN (csX S.2.1 nb rp sh) (S.2.1 9) rp nb k) = y → (∀ j, j < k → ¬ (¬ hs rp j ∧ nI (rkN (csX S.2.1 nb rp sh) (S.2.1 9) rp nb j) = y)) → P 0 (.inl (some (nI k))) S)
    (hno : (∀ j, j < nb → ¬ (¬ hs rp j ∧ nI (rkN (csX S.2.1 nb rp sh) (S.2.1 9) rp nb j) = y)) → P 0 (.inl (some (-1))) S) : G 0 0 (lv_args 0 [.ref 12, .int y]) [] S := by
  obtain ⟨⟨h0, h1n, hn, hb0, hnb⟩, hW, -, -, -, hrp⟩ := id hM
  have main : ∀ k, k ≤ nb → (∀ j, j < k → ¬ (¬ hs rp j ∧ nI (rkN (csX S.2.1 nb rp sh) (S.2.1 9) rp nb j) = y)) → G 0 2 [(2, .int (nI k)), (0, .ref 12), (1, .int y)] [] S := by
    refine loop_up (fun k hk ih => ?_) ?_
    · intro hlt
      have inner : ∀ j, j ≤ nb → G 0 15 [(4, .int (nI j)), (3, .int (nI (cnt (fun j => decide (¬ hs rp j ∧ j ≠ k ∧ ahM (csX S.2.1 nb rp sh) (S.2.1 9) j k)) j))), (2, .int (nI k)), (0, .ref 12), (1, .int y)] [] S := by
        refine loop_up (fun j hj ihj => ?_) ?_
        · have hno2 : ¬ (¬ hs rp j ∧ j ≠ k ∧ ahM (csX S.2.1 nb rp sh) (S.2.1 9) j k) → nI (cnt (fun j => decide (¬ hs rp j ∧ j ≠ k ∧ ahM (csX S.2.1 nb rp sh) (S.2.1 9) j k)) (j + 1)) = nI (cnt (fun j => decide (¬ hs rp j ∧ j ≠ k ∧ ahM (csX S.2.1 nb rp sh) (S.2.1 9) j k)) j) + nI 0 := by
            intro z
            rw [cnt_f (by simpa using z), nI_add, Nat.add_zero]
          repeat (refine hG.1 _ _ _ _ _ _ rfl ?_)
          rw [hb0]
          refine And.intro (fun h => ?_) (fun h => ?_)
          · exact absurd h (nI_ge (by omega) (by omega))
          · repeat (refine hG.1 _ _ _ _ _ _ rfl ?_)
            refine And.intro (vp_in_nI ((show j < 20 by omega)) (by decide)) ?_; rw [nI_clamp (Nat.lt_trans ((show j < 20 by omega)) (by decide))]
            rw [hrp j (by omega)]
            repeat (refine hG.1 _ _ _ _ _ _ rfl ?_)
            refine And.intro (fun h1 => ?_) (fun h1 => ?_)
            · rw [bi_n] at h1
              rw [hno2 (fun z => z.1 h1)] at ihj
              repeat (first | (refine wk hG ?_ (ihj); (repeat (refine And.intro (by first | with_reducible rfl | with_reducible exact nI_add _ _ | with_reducible exact pk_m1 _ | rfl) ?_)); exact trivial) | refine hG.1 _ _ _ _ _ _ rfl ?_)
            · rw [bi_0] at h1
              repeat (refine hG.1 _ _ _ _ _ _ rfl ?_)
              refine And.intro (fun h2 => ?_) (fun h2 => ?_)
              · have h2 := (nI_eq (by omega) (by omega)).mp h2
                rw [hno2 (fun z => z.2.1 h2)] at ihj
                repeat (first | (refine wk hG ?_ (ihj); (repeat (refine And.intro (by first | with_reducible rfl | with_reducible exact nI_add _ _ | with_reducible exact pk_m1 _ | rfl) ?_)); exact trivial) | refine hG.1 _ _ _ _ _ _ rfl ?_)
              · have h2 : j ≠ k := fun z => h2 (by rw [z])
                repeat (refine hG.1 _ _ _ _ _ _ rfl ?_)
                refine And.intro rfl (cx (m_isAhead S j k n nb rp sh hM hj hk hB) rfl ?_)
                repeat (refine hG.1 _ _ _ _ _ _ rfl ?_)
                refine And.intro (fun h3 => ?_) (fun h3 => ?_)
                · rw [bi_0] at h3
                  rw [hno2 (fun z => h3 z.2.2)] at ihj
                  repeat (first | (refine wk hG ?_ (ihj); (repeat (refine And.intro (by first | with_reducible rfl | with_reducible exact nI_add _ _ | with_reducible exact pk_m1 _ | rfl) ?_)); exact trivial) | refine hG.1 _ _ _ _ _ _ rfl ?_)
                · rw [bi_n] at h3
                  have e : nI (cnt (fun j => decide (¬ hs rp j ∧ j ≠ k ∧ ahM (csX S.2.1 nb rp sh) (S.2.1 9) j k)) (j + 1)) = nI (cnt (fun j => decide (¬ hs rp j ∧ j ≠ k ∧ ahM (csX S.2.1 nb rp sh) (S.2.1 9) j k)) j) + nI 1 := by
                    rw [cnt_t (decide_eq_true (p := ¬ hs rp j ∧ j ≠ k ∧ ahM (csX S.2.1 nb rp sh) (S.2.1 9) j k) ⟨h1, h2, h3⟩), nI_add]
                  rw [e] at ihj
                  repeat (first | (refine wk hG ?_ (ihj); (repeat (refine And.intro (by first | with_reducible rfl | with_reducible exact nI_add _ _ | with_reducible exact pk_m1 _ | rfl) ?_)); exact trivial) | refine hG.1 _ _ _ _ _ _ rfl ?_)
        · repeat (refine hG.1 _ _ _ _ _ _ rfl ?_)
          rw [hb0]
          refine And.intro (fun h => ?_) (fun h => ?_)
          · repeat (refine hG.1 _ _ _ _ _ _ rfl ?_)
            refine And.intro (vp_in_nI ((show k < 20 by omega)) (by decide)) ?_; rw [nI_clamp (Nat.lt_trans ((show k < 20 by omega)) (by decide))]
            rw [hrp k (by omega)]
            repeat (refine hG.1 _ _ _ _ _ _ rfl ?_)
            refine And.intro (fun h1 => ?_) (fun h1 => ?_)
            · rw [bi_n] at h1
              have g := ih (fun j hj => by
                rcases Nat.lt_or_ge j k with z | z
                · exact hlt j z
                · have : j = k := by omega
                  subst this
                  exact fun w => w.1 h1)
              repeat (first | (refine wk hG ?_ (g); (repeat (refine And.intro (by first | with_reducible rfl | with_reducible exact nI_add _ _ | with_reducible exact pk_m1 _ | rfl) ?_)); exact trivial) | refine hG.1 _ _ _ _ _ _ rfl ?_)
            · rw [bi_0] at h1
              repeat (refine hG.1 _ _ _ _ _ _ rfl ?_)
              refine And.intro (fun h2 => ?_) (fun h2 => ?_)
              · have g := ih (fun j hj => by
                  rcases Nat.lt_or_ge j k with z | z
                  · exact hlt j z
                  · have : j = k := by omega
                    subst this
                    exact fun w => h2 w.2)
                repeat (first | (refine wk hG ?_ (g); (repeat (refine And.intro (by first | with_reducible rfl | with_reducible exact nI_add _ _ | with_reducible exact pk_m1 _ | rfl) ?_)); exact trivial) | refine hG.1 _ _ _ _ _ _ rfl ?_)
              · repeat (refine hG.1 _ _ _ _ _ _ rfl ?_)
                exact And.intro rfl (hsm k hk h1 h2 hlt)
          · exact absurd (nI_le (Nat.le_refl _) (by omega)) h
      repeat (refine hG.1 _ _ _ _ _ _ rfl ?_)
      rw [hb0]
      refine And.intro (fun h => ?_) (fun h => ?_)
      · exact absurd h (nI_ge (by omega) (by omega))
      · have h0 := inner 0 (Nat.zero_le _); simp only [cnt] at h0; repeat (first | (refine wk hG ?_ (h0); (repeat (refine And.intro (by first | with_reducible rfl | with_reducible exact nI_add _ _ | with_reducible exact pk_m1 _ | rfl) ?_)); exact trivial) | refine hG.1 _ _ _ _ _ _ rfl ?_)
    · intro hlt
      repeat (refine hG.1 _ _ _ _ _ _ rfl ?_)
      rw [hb0]
      refine And.intro (fun h => ?_) (fun h => ?_)
      · repeat (refine hG.1 _ _ _ _ _ _ rfl ?_)
        exact And.intro rfl (hno hlt)
      · exact absurd (nI_le (Nat.le_refl _) (by omega)) h
  have g := main 0 (Nat.zero_le _) (fun j hj => absurd hj (Nat.not_lt_zero _))
  repeat (first | (refine wk hG ?_ (g); (repeat (refine And.intro (by first | with_reducible rfl | with_reducible exact nI_add _ _ | with_reducible exact pk_m1 _ | rfl) ?_)); exact trivial) | refine hG.1 _ _ _ _ _ _ rfl ?_)
theorem m_rank_t (S : PS) (k n nb : Nat) (rp sh y : Int32) (hM : MR S n nb rp sh) (hB : ∀ b, b < nb → ∃ q : Nat, q < n ∧ S.2.1 7 b = nI q) (hk : k < nb) (hr : ¬ hs rp k) (hy : nI (rkN (csX S.2.1 nb rp sh) (S.2.1 9) rp nb k) = y) (hu : ∀ j, j < nb → ¬ hs rp j → nI (rkN (csX S.2.1 nb rp sh) (S.2.1 9) rp nb j) = y → j = k) : Run 0 95 [.ref 12, .int y] S (.inl (some (nI k))) S := by
  refine run_of (by decide +kernel) rfl (fun L xs G hG => ?_)
  refine rank_G S n nb rp sh y hM hB hG (fun k' hk' hr' hy' _ => ?_) (fun h => absurd ⟨hr, hy⟩ (h k hk))
  rw [hu k' hk' hr' hy']
  exact And.intro rfl rfl
theorem m_rank_f (S : PS) (n nb : Nat) (rp sh y : Int32) (hM : MR S n nb rp sh) (hB : ∀ b, b < nb → ∃ q : Nat, q < n ∧ S.2.1 7 b = nI q) (hu : ∀ j, j < nb → ¬ hs rp j → ¬ nI (rkN (csX S.2.1 nb rp sh) (S.2.1 9) rp nb j) = y) : Run 0 95 [.ref 12, .int y] S (.inl (some (-1))) S := by
  refine run_of (by decide +kernel) rfl (fun L xs G hG => ?_)
  exact rank_G S n nb rp sh y hM hB hG (fun k' hk' hr' hy' _ => absurd hy' (hu k' hk' hr')) (fun _ => And.intro rfl rfl)
end
section
theorem q_trans {ci cj ck hi hj hk : Int} (h1 : 0 < hi) (h2 : 0 < hj) (h3 : 0 < hk) (a : cj * hi ≤ ci * hj) (b : ck * hj ≤ cj * hk) : ck * hi ≤ ci * hk := by
  have a' := Int.mul_le_mul_of_nonneg_right a (Int.le_of_lt h3)
  have b' := Int.mul_le_mul_of_nonneg_right b (Int.le_of_lt h1)
  apply Int.le_of_mul_le_mul_right (a := hj) _ h2
  have e1 : ck * hj * hi = ck * hi * hj := Int.mul_right_comm _ _ _
  have e2 : cj * hk * hi = cj * hi * hk := Int.mul_right_comm _ _ _
  have e3 : ci * hj * hk = ci * hk * hj := Int.mul_right_comm _ _ _
  omega
abbrev geQ (c h : Nat → Int) (i j : Nat) : Prop := c j * h i ≤ c i * h j
abbrev AH (c h : Nat → Int) (i j : Nat) : Prop := (geQ c h i j ∧ ¬ geQ c h j i) ∨ (geQ c h i j ∧ geQ c h j i ∧ i < j)
theorem AH_trans {c h : Nat → Int} {i j k : Nat} (hi : 0 < h i) (hj : 0 < h j) (hk : 0 < h k) (a : AH c h i j) (b : AH c h j k) : AH c h i k := by
  have a1 : geQ c h i j := by rcases a with z | z <;> exact z.1
  have b1 : geQ c h j k := by rcases b with z | z <;> exact z.1
  have c1 : geQ c h i k := q_trans hi hj hk a1 b1
  by_cases d : geQ c h k i
  · have e1 : geQ c h k j := q_trans hk hi hj d a1
    have e2 : geQ c h j i := q_trans hj hk hi b1 d
    have f1 : i < j := by
      rcases a with z | z
      · exact absurd e2 z.2
      · exact z.2.2
    have f2 : j < k := by
      rcases b with z | z
      · exact absurd e1 z.2
      · exact z.2.2
    exact Or.inr ⟨c1, d, by omega⟩
  · exact Or.inl ⟨c1, d⟩
theorem AH_irr {c h : Nat → Int} {i : Nat} : ¬ AH c h i i := by
  rintro (z | z)
  · exact z.2 z.1
  · omega
theorem AH_asym {c h : Nat → Int} {i j : Nat} (a : AH c h i j) : ¬ AH c h j i := by
  intro b
  rcases a with z | z <;> rcases b with w | w
  · exact z.2 w.1
  · exact z.2 w.1
  · exact w.2 z.1
  · omega
theorem insF_spec {ah : Int32 → Bool} {v : Int32} : ∀ (m : Nat) (f : Nat → Int32), ∃ pos, pos ≤ m ∧ (∀ p, pos ≤ p → p < m → ah (f p) = true) ∧ (∀ p, p + 1 = pos → ¬ ah (f p) = true) ∧ (∀ p, p < pos → insF ah v m f p = f p) ∧ insF ah v m f pos = v ∧ (∀ p, pos ≤ p → p < m → insF ah v m f (p + 1) = f p)
  | 0, f => ⟨0, Nat.le_refl _, fun p _ h => absurd h (Nat.not_lt_zero _), fun p h => by omega, fun p h => absurd h (Nat.not_lt_zero _), upd_same, fun p _ h => absurd h (Nat.not_lt_zero _)⟩
  | m + 1, f => by
    by_cases h : ah (f m) = true
    · obtain ⟨pos, h1, h2, h3, h4, h5, h6⟩ := insF_spec (ah := ah) (v := v) m (upd f (m + 1) (f m))
      have e : insF ah v (m + 1) f = insF ah v m (upd f (m + 1) (f m)) := by rw [insF, if_pos h]
      rw [e]
      refine ⟨pos, by omega, fun p hp hq => ?_, fun p hp => ?_, fun p hp => ?_, h5, fun p hp hq => ?_⟩
      · by_cases hpm : p = m
        · rw [hpm]; exact h
        · have := h2 p hp (by omega)
          rw [upd_lt (by omega)] at this
          exact this
      · have := h3 p hp
        rw [upd_lt (by omega)] at this
        exact this
      · rw [h4 p hp, upd_lt (by omega)]
      · by_cases hpm : p = m
        · rw [hpm, insF_out (by omega), upd_same]
        · rw [h6 p hp (by omega), upd_lt (by omega)]
    · have e : insF ah v (m + 1) f = upd f (m + 1) v := by rw [insF, if_neg h]
      rw [e]
      refine ⟨m + 1, Nat.le_refl _, fun p hp hq => by omega, fun p hp => ?_, fun p hp => upd_lt (by omega), upd_same, fun p hp hq => by omega⟩
      have : p = m := by omega
      rw [this]
      exact h
theorem mul_toInt {x y : Int32} (h1 : -4294968 ≤ x.toInt) (h2 : x.toInt ≤ 4294968) (h3 : 1 ≤ y.toInt) (h4 : y.toInt ≤ 100) : (x * y).toInt = x.toInt * y.toInt := by
  have b1 : x.toInt * y.toInt ≤ 4294968 * y.toInt := Int.mul_le_mul_of_nonneg_right h2 (by omega)
  have b2 : -4294968 * y.toInt ≤ x.toInt * y.toInt := Int.mul_le_mul_of_nonneg_right h1 (by omega)
  rw [Int32.toInt_mul]
  apply Int.bmod_eq_of_le <;> omega
theorem div_toInt (x : Int32) : -2147484 ≤ (x / nI 1000).toInt ∧ (x / nI 1000).toInt ≤ 2147484 := by
  have h0 : (nI 1000).toInt = 1000 := by decide
  have h1 := Int32.le_toInt x
  have h2 := Int32.toInt_lt x
  have h3 : -2147484 ≤ x.toInt.tdiv 1000 ∧ x.toInt.tdiv 1000 ≤ 2147484 := by
    rcases Int.le_total 0 x.toInt with z | z
    · rw [Int.tdiv_eq_ediv_of_nonneg z]
      omega
    · have e : x.toInt.tdiv 1000 = -((-x.toInt).tdiv 1000) := by rw [Int.neg_tdiv, Int.neg_neg]
      rw [e, Int.tdiv_eq_ediv_of_nonneg (by omega)]
      omega
  rw [Int32.toInt_div, h0, Int.bmod_eq_of_le (by omega) (by omega)]
  exact h3
theorem csX_bd (A : Nat → Nat → Int32) (nb : Nat) (rp sh : Int32) (b : Nat) : -4294968 ≤ (csX A nb rp sh b).toInt ∧ (csX A nb rp sh b).toInt ≤ 4294968 := by
  unfold csX
  split
  · decide
  · obtain ⟨a1, a2⟩ := div_toInt (amtL A rp (A 7 b).toNatClampNeg nb * fac (prs A (A 7 b).toNatClampNeg))
    obtain ⟨b1, b2⟩ := div_toInt ((amtL A rp (A 7 b).toNatClampNeg nb - A 8 b) * fac (prs A (A 7 b).toNatClampNeg))
    rw [Int32.toInt_sub, Int.bmod_eq_of_le (by omega) (by omega)]
    omega
def Bd (cs h : Nat → Int32) (nb : Nat) : Prop := (∀ b, -4294968 ≤ (cs b).toInt ∧ (cs b).toInt ≤ 4294968) ∧ ∀ b, b < nb → 1 ≤ (h b).toInt ∧ (h b).toInt ≤ 100
abbrev iz (f : Nat → Int32) : Nat → Int := fun k => (f k).toInt
theorem ahM_iff {cs h : Nat → Int32} {nb j k : Nat} (hB : Bd cs h nb) (hj : j < nb) (hk : k < nb) : ahM cs h j k ↔ AH (iz cs) (iz h) j k := by
  have e1 : (cs k * h j).toInt = (cs k).toInt * (h j).toInt := mul_toInt (hB.1 k).1 (hB.1 k).2 (hB.2 j hj).1 (hB.2 j hj).2
  have e2 : (cs j * h k).toInt = (cs j).toInt * (h k).toInt := mul_toInt (hB.1 j).1 (hB.1 j).2 (hB.2 k hk).1 (hB.2 k hk).2
  unfold ahM AH geQ iz
  rw [Int32.lt_iff_toInt_lt, ← Int32.toInt_inj, e1, e2]
  generalize (cs k).toInt * (h j).toInt = X
  generalize (cs j).toInt * (h k).toInt = Y
  omega
theorem ahX_iff {cs h fc : Nat → Int32} {nb b o : Nat} (hB : Bd cs h nb) (hb : b < nb) (ho : o < b) (h1 : fc b = cs b) (h2 : fc o = cs o) (hnb : nb ≤ 20) : ahX fc h b (nI o) = true ↔ AH (iz cs) (iz h) b o := by
  have e1 : (cs b * h o).toInt = (cs b).toInt * (h o).toInt := mul_toInt (hB.1 b).1 (hB.1 b).2 (hB.2 o (by omega)).1 (hB.2 o (by omega)).2
  have e2 : (cs o * h b).toInt = (cs o).toInt * (h b).toInt := mul_toInt (hB.1 o).1 (hB.1 o).2 (hB.2 b hb).1 (hB.2 b hb).2
  unfold ahX AH geQ iz
  rw [nI_clamp (by omega), decide_eq_true_eq, h1, h2, Int32.le_iff_toInt_le, e1, e2]
  generalize (cs b).toInt * (h o).toInt = X
  generalize (cs o).toInt * (h b).toInt = Y
  omega
def RkI (cs h : Nat → Int32) (rp : Int32) (fc fb : Nat → Int32) (l : Nat → Nat) (m i : Nat) : Prop :=
  (∀ p, p < m → fb p = nI (l p) ∧ l p < i ∧ ¬ hs rp (l p)) ∧ (∀ k, k < i → ¬ hs rp k → fc k = cs k ∧ ∃ p, p < m ∧ l p = k) ∧ ∀ p q, p < q → q < m → AH (iz cs) (iz h) (l p) (l q)
theorem rkS_ok {cs h f10 f11 : Nat → Int32} {rp : Int32} {nb : Nat} (hB : Bd cs h nb) (hnb : nb ≤ 20) : ∀ i, i ≤ nb → ∃ l : Nat → Nat, RkI cs h rp (rkS cs h rp f10 f11 i).1 (rkS cs h rp f10 f11 i).2.1 l (rkS cs h rp f10 f11 i).2.2 i
  | 0, _ => ⟨fun _ => 0, fun p hp => absurd hp (Nat.not_lt_zero _), fun k hk => absurd hk (Nat.not_lt_zero _), fun p q _ hq => absurd hq (Nat.not_lt_zero _)⟩
  | i + 1, hi => by
    obtain ⟨l, h1, h2, h3⟩ := rkS_ok (f10 := f10) (f11 := f11) (rp := rp) hB hnb i (by omega)
    by_cases hr : hs rp i
    · rw [rkS_p hr]
      refine ⟨l, fun p hp => ⟨(h1 p hp).1, by have := (h1 p hp).2.1; omega, (h1 p hp).2.2⟩, fun k hk hkr => ?_, h3⟩
      rcases Nat.lt_or_ge k i with z | z
      · exact h2 k z hkr
      · have : k = i := by omega
        subst this
        exact absurd hr hkr
    · rw [rkS_n hr]
      obtain ⟨R, hR⟩ : ∃ R, R = rkS cs h rp f10 f11 i := ⟨_, rfl⟩
      rw [← hR] at h1 h2 h3 ⊢
      obtain ⟨fc, fb, m⟩ := R
      simp only at h1 h2 h3 ⊢
      obtain ⟨ah, hah⟩ : ∃ ah, ah = ahX (upd fc i (cs i)) h i := ⟨_, rfl⟩
      rw [← hah]
      obtain ⟨pos, g1, g2, g3, g4, g5, g6⟩ := insF_spec (ah := ah) (v := nI i) m fb
      have hahp : ∀ p, p < m → (ah (fb p) = true ↔ AH (iz cs) (iz h) i (l p)) := by
        intro p hp
        obtain ⟨e, hl, hlr⟩ := h1 p hp
        rw [hah, e]
        exact ahX_iff hB (by omega) hl upd_same (by rw [upd_lt (by omega)]; exact (h2 _ hl hlr).1) hnb
      have hpos : ∀ b, b < nb → 0 < iz h b := fun b hb => by have := (hB.2 b hb).1; exact this
      have hbef : ∀ p, p < pos → AH (iz cs) (iz h) (l p) i := by
        intro p hp
        obtain ⟨r, hr2⟩ : ∃ r, r + 1 = pos := ⟨pos - 1, by omega⟩
        have hno := g3 r hr2
        rw [hahp r (by omega)] at hno
        have hlr := (h1 r (by omega)).2.1
        have hlast : AH (iz cs) (iz h) (l r) i := by
          unfold AH geQ at hno ⊢
          omega
        by_cases hpr : p = r
        · rw [hpr]; exact hlast
        · have hlp := (h1 p (by omega)).2.1
          exact AH_trans (hpos _ (by omega)) (hpos _ (by omega)) (hpos _ (by omega)) (h3 p r (by omega) (by omega)) hlast
      have hbeh : ∀ p, pos ≤ p → p < m → AH (iz cs) (iz h) i (l p) := fun p hp hq => (hahp p hq).mp (g2 p hp hq)
      refine ⟨fun p => if p < pos then l p else if p = pos then i else l (p - 1), ?_, ?_, ?_⟩
      · intro p hp
        by_cases z : p < pos
        · simp only [if_pos z]
          rw [g4 p z]
          have := h1 p (by omega)
          exact ⟨this.1, by omega, this.2.2⟩
        · by_cases w : p = pos
          · simp only [if_neg z, if_pos w]
            rw [w, g5]
            exact ⟨rfl, by omega, hr⟩
          · simp only [if_neg z, if_neg w]
            have e : insF ah (nI i) m fb p = fb (p - 1) := by
              have := g6 (p - 1) (by omega) (by omega)
              rw [show p - 1 + 1 = p by omega] at this
              exact this
            rw [e]
            have := h1 (p - 1) (by omega)
            exact ⟨this.1, by omega, this.2.2⟩
      · intro k hk hkr
        by_cases z : k = i
        · subst z
          refine ⟨upd_same, pos, by omega, ?_⟩
          simp only [if_neg (Nat.lt_irrefl pos), if_pos]
        · obtain ⟨e, p, hp, hl⟩ := h2 k (by omega) hkr
          refine ⟨by rw [upd_lt z]; exact e, ?_⟩
          by_cases w : p < pos
          · exact ⟨p, by omega, by simp only [if_pos w]; exact hl⟩
          · refine ⟨p + 1, by omega, ?_⟩
            simp only [if_neg (show ¬ p + 1 < pos by omega), if_neg (show ¬ p + 1 = pos by omega), Nat.add_sub_cancel]
            exact hl
      · intro p q hpq hq
        by_cases z : q < pos
        · simp only [if_pos z, if_pos (show p < pos by omega)]
          exact h3 p q hpq (by omega)
        · by_cases w : q = pos
          · simp only [if_neg z, if_pos w, if_pos (show p < pos by omega)]
            exact hbef p (by omega)
          · simp only [if_neg z, if_neg w]
            by_cases y : p < pos
            · simp only [if_pos y]
              exact h3 p (q - 1) (by omega) (by omega)
            · by_cases x : p = pos
              · simp only [if_neg y, if_pos x]
                exact hbeh (q - 1) (by omega) (by omega)
              · simp only [if_neg y, if_neg x]
                exact h3 (p - 1) (q - 1) (by omega) (by omega)
def memL (l : Nat → Nat) : Nat → Nat → Bool
  | 0, _ => false
  | p + 1, j => decide (l p = j) || memL l p j
theorem memL_iff {l : Nat → Nat} {j : Nat} : ∀ {p : Nat}, memL l p j = true ↔ ∃ q, q < p ∧ l q = j
  | 0 => ⟨fun h => (by simp [memL] at h), fun ⟨q, h, _⟩ => absurd h (Nat.not_lt_zero _)⟩
  | p + 1 => by
    rw [memL, Bool.or_eq_true, decide_eq_true_eq, memL_iff]
    constructor
    · rintro (h | ⟨q, h1, h2⟩)
      · exact ⟨p, by omega, h⟩
      · exact ⟨q, by omega, h2⟩
    · rintro ⟨q, h1, h2⟩
      by_cases z : q = p
      · subst z; exact Or.inl h2
      · exact Or.inr ⟨q, by omega, h2⟩
theorem cnt_ins {c : Nat → Bool} {x : Nat} (hc : c x = false) : ∀ {n : Nat}, cnt (fun j => decide (x = j) || c j) n = if x < n then cnt c n + 1 else cnt c n
  | 0 => by rw [if_neg (Nat.not_lt_zero _)]; rfl
  | n + 1 => by
    have ih := cnt_ins hc (n := n)
    rw [cnt, cnt, ih]
    by_cases hx : x = n
    · subst hx
      simp [hc]
    · by_cases hlt : x < n
      · simp only [hx, decide_false, Bool.false_or, if_pos hlt, if_pos (show x < n + 1 by omega)]
        split <;> omega
      · simp only [hx, decide_false, Bool.false_or, if_neg hlt, if_neg (show ¬ x < n + 1 by omega)]
theorem cnt_mem {l : Nat → Nat} {m nb : Nat} (h1 : ∀ p, p < m → l p < nb) (h2 : ∀ p q, p < q → q < m → l p ≠ l q) : ∀ p, p ≤ m → cnt (memL l p) nb = p
  | 0, _ => by
    have : ∀ n, cnt (memL l 0) n = 0 := by
      intro n
      induction n with
      | zero => rfl
      | succ n ih => rw [cnt, ih]; rfl
    exact this nb
  | p + 1, hp => by
    have hc : memL l p (l p) = false := by
      cases h : memL l p (l p)
      · rfl
      · obtain ⟨q, hq, e⟩ := memL_iff.mp h
        exact absurd e (h2 q p hq (by omega))
    have e : memL l (p + 1) = fun j => decide (l p = j) || memL l p j := by
      funext j
      rw [memL]
    rw [e, cnt_ins hc, if_pos (h1 p (by omega)), cnt_mem h1 h2 p (by omega)]
theorem rank_agree {cs h f10 f11 : Nat → Int32} {rp : Int32} {nb : Nat} (hB : Bd cs h nb) (hnb : nb ≤ 20) : ∃ l : Nat → Nat, (∀ p, p < (rkS cs h rp f10 f11 nb).2.2 → (rkS cs h rp f10 f11 nb).2.1 p = nI (l p) ∧ l p < nb ∧ ¬ hs rp (l p) ∧ rkN cs h rp nb (l p) = p) ∧ ∀ k, k < nb → ¬ hs rp k → ∃ p, p < (rkS cs h rp f10 f11 nb).2.2 ∧ l p = k := by
  obtain ⟨l, h1, h2, h3⟩ := rkS_ok (f10 := f10) (f11 := f11) (rp := rp) hB hnb nb (Nat.le_refl _)
  refine ⟨l, fun p hp => ⟨(h1 p hp).1, (h1 p hp).2.1, (h1 p hp).2.2, ?_⟩, fun k hk hkr => (h2 k hk hkr).2⟩
  have hinj : ∀ p q, p < q → q < (rkS cs h rp f10 f11 nb).2.2 → l p ≠ l q := by
    intro p q hpq hq e
    have := h3 p q hpq hq
    rw [e] at this
    exact AH_irr this
  have hc := cnt_mem (fun p hp => (h1 p hp).2.1) hinj p (by omega)
  refine Eq.trans ?_ hc
  apply cnt_congr
  intro j hj
  have key : (¬ hs rp j ∧ j ≠ l p ∧ ahM cs h j (l p)) ↔ memL l p j = true := by
    rw [memL_iff]
    constructor
    · rintro ⟨a, b, c⟩
      rw [ahM_iff hB hj (h1 p hp).2.1] at c
      obtain ⟨q, hq, e⟩ := (h2 j hj a).2
      subst e
      refine ⟨q, ?_, rfl⟩
      rcases Nat.lt_trichotomy q p with z | z | z
      · exact z
      · subst z; exact absurd rfl b
      · exact absurd c (AH_asym (h3 p q z hq))
    · rintro ⟨q, hq, e⟩
      subst e
      refine ⟨(h1 q (by omega)).2.2, hinj q p hq hp, ?_⟩
      rw [ahM_iff hB hj (h1 p hp).2.1]
      exact h3 q p hq hp
  cases hm : memL l p j
  · rw [hm] at key
    exact decide_eq_false (fun z => by have := key.mp z; cases this)
  · rw [hm] at key
    exact decide_eq_true (key.mpr rfl)
end
section
theorem isIn_t {x lo hi : Int32} (h : okR x lo hi) : (¬ x < lo ∧ ¬ hi < x) := ⟨h.1, by rw [Int32.not_lt]; exact h.2⟩
theorem isIn_f {x lo hi : Int32} (h : noR x lo hi) : ¬ (¬ x < lo ∧ ¬ hi < x) := by
  rintro ⟨h1, h2⟩
  rcases h with z | z
  · exact h1 z
  · exact z (Int32.not_lt.mp h2)
theorem m_isIn_t (S : PS) {x lo hi : Int32} (h : okR x lo hi) : Run 0 54 [.int x, .int lo, .int hi] S (.inl (some (nI 1))) S := by
  have g := m_isIn S x lo hi
  rw [bi_t (isIn_t h)] at g
  exact g
theorem m_isIn_f (S : PS) {x lo hi : Int32} (h : noR x lo hi) : Run 0 54 [.int x, .int lo, .int hi] S (.inl (some (nI 0))) S := by
  have g := m_isIn S x lo hi
  rw [bi_f (isIn_f h)] at g
  exact g
theorem m_addNode_0 (S : PS) (on use : Int32) (h : noR use (nI 0) (nI 10000)) : Run 0 63 [.ref 12, .int on, .int use] S (.inl (some (nI 0))) (sThr S (nI 1)) := by
  refine run_of (by decide +kernel) rfl (fun L xs G hG => ?_)
  repeat (refine hG.1 _ _ _ _ _ _ rfl ?_)
  refine cx (m_isIn_f S h) rfl ?_
  repeat (refine hG.1 _ _ _ _ _ _ rfl ?_)
  refine And.intro (fun h => by first | exact absurd h (by decide) | exact False.elim (h (by decide))) (fun _ => ?_)
  repeat (refine hG.1 _ _ _ _ _ _ rfl ?_)
  refine And.intro rfl (cx (m_fails_t S (nI 1) (by decide)) rfl ?_)
  repeat (refine hG.1 _ _ _ _ _ _ rfl ?_)
  refine And.intro (fun h => by first | exact absurd h (by decide) | exact False.elim (h (by decide))) (fun _ => ?_)
  repeat (refine hG.1 _ _ _ _ _ _ rfl ?_)
  exact And.intro rfl (And.intro rfl rfl)
theorem m_addNode_1 (S : PS) (on use : Int32) (n : Nat) (h : okR use (nI 0) (nI 10000)) (hn : S.1 12 0 = nI n) (hn16 : n ≤ 16) (h1n : 1 ≤ n) (h1 : noN on (nI n)) : Run 0 63 [.ref 12, .int on, .int use] S (.inl (some (nI 0))) (sThr S (nI 2)) := by
  refine run_of (by decide +kernel) rfl (fun L xs G hG => ?_)
  repeat (refine hG.1 _ _ _ _ _ _ rfl ?_)
  refine cx (m_isIn_t S h) rfl ?_
  repeat (refine hG.1 _ _ _ _ _ _ rfl ?_)
  refine And.intro (fun _ => ?_) (fun h => by first | exact absurd h (by decide) | exact False.elim (h (by decide)))
  repeat (refine hG.1 _ _ _ _ _ _ rfl ?_)
  refine And.intro rfl (cx (m_isNode_f S _ n hn hn16 h1n h1) rfl ?_)
  repeat (refine hG.1 _ _ _ _ _ _ rfl ?_)
  refine And.intro (fun h => by first | exact absurd h (by decide) | exact False.elim (h (by decide))) (fun _ => ?_)
  repeat (refine hG.1 _ _ _ _ _ _ rfl ?_)
  refine And.intro rfl (cx (m_fails_t S (nI 2) (by decide)) rfl ?_)
  repeat (refine hG.1 _ _ _ _ _ _ rfl ?_)
  refine And.intro (fun h => by first | exact absurd h (by decide) | exact False.elim (h (by decide))) (fun _ => ?_)
  repeat (refine hG.1 _ _ _ _ _ _ rfl ?_)
  exact And.intro rfl (And.intro rfl rfl)
theorem m_addNode_2 (S : PS) (j : Nat) (use : Int32) (h : okR use (nI 0) (nI 10000)) (hn : S.1 12 0 = nI 16) (hj : j < 16) : Run 0 63 [.ref 12, .int (nI j), .int use] S (.inl (some (nI 0))) (sThr S (nI 3)) := by
  refine run_of (by decide +kernel) rfl (fun L xs G hG => ?_)
  repeat (refine hG.1 _ _ _ _ _ _ rfl ?_)
  refine cx (m_isIn_t S h) rfl ?_
  repeat (refine hG.1 _ _ _ _ _ _ rfl ?_)
  refine And.intro (fun _ => ?_) (fun h => by first | exact absurd h (by decide) | exact False.elim (h (by decide)))
  repeat (refine hG.1 _ _ _ _ _ _ rfl ?_)
  refine And.intro rfl (cx (m_isNode_t S j 16 hn (by omega) hj) rfl ?_)
  repeat (refine hG.1 _ _ _ _ _ _ rfl ?_)
  refine And.intro (fun _ => ?_) (fun h => by first | exact absurd h (by decide) | exact False.elim (h (by decide)))
  repeat (refine hG.1 _ _ _ _ _ _ rfl ?_)
  rw [hn]
  refine And.intro (fun h => by first | exact absurd h (by decide) | exact False.elim (h (by decide))) (fun _ => ?_)
  repeat (refine hG.1 _ _ _ _ _ _ rfl ?_)
  refine And.intro rfl (cx (m_fails_t S (nI 3) (by decide)) rfl ?_)
  repeat (refine hG.1 _ _ _ _ _ _ rfl ?_)
  refine And.intro (fun h => by first | exact absurd h (by decide) | exact False.elim (h (by decide))) (fun _ => ?_)
  repeat (refine hG.1 _ _ _ _ _ _ rfl ?_)
  exact And.intro rfl (And.intro rfl rfl)
abbrev tAddNode (S : PS) (n j : Nat) (use : Int32) : PS := (va_up (sThr S (nI 0)).1 12 (upd ((sThr S (nI 0)).1 12) 0 (nI (n + 1))), va_up (va_up (va_up S.2.1 13 (upd (S.2.1 13) n (nI j))) 14 (upd (S.2.1 14) n use)) 16 (upd (S.2.1 16) n (-1)), S.2.2)
theorem m_addNode (S : PS) (j n : Nat) (use : Int32) (h : okR use (nI 0) (nI 10000)) (hn : S.1 12 0 = nI n) (hj : j < n) (hn16 : n < 16) : Run 0 63 [.ref 12, .int (nI j), .int use] S (.inl (some (nI n))) (tAddNode S n j use) := by
  refine run_of (by decide +kernel) rfl (fun L xs G hG => ?_)
  repeat (refine hG.1 _ _ _ _ _ _ rfl ?_)
  refine cx (m_isIn_t S h) rfl ?_
  repeat (refine hG.1 _ _ _ _ _ _ rfl ?_)
  refine And.intro (fun _ => ?_) (fun h => by first | exact absurd h (by decide) | exact False.elim (h (by decide)))
  repeat (refine hG.1 _ _ _ _ _ _ rfl ?_)
  refine And.intro rfl (cx (m_isNode_t S j n hn (by omega) hj) rfl ?_)
  repeat (refine hG.1 _ _ _ _ _ _ rfl ?_)
  refine And.intro (fun _ => ?_) (fun h => by first | exact absurd h (by decide) | exact False.elim (h (by decide)))
  repeat (refine hG.1 _ _ _ _ _ _ rfl ?_)
  rw [hn]
  refine And.intro (fun h2 => ?_) (fun h2 => ?_)
  · repeat (refine hG.1 _ _ _ _ _ _ rfl ?_)
    refine And.intro rfl (cx (m_fails_f S) rfl ?_)
    repeat (refine hG.1 _ _ _ _ _ _ rfl ?_)
    refine And.intro (fun _ => ?_) (fun h => by first | exact absurd h (by decide) | exact False.elim (h (by decide)))
    repeat (refine hG.1 _ _ _ _ _ _ rfl ?_)
    rw [show (sThr S (nI 0)).1 12 0 = nI n from hn]
    refine And.intro (vp_in_nI (hn16) (by decide)) ?_; rw [nI_clamp (Nat.lt_trans (hn16) (by decide))]
    repeat (refine hG.1 _ _ _ _ _ _ rfl ?_)
    rw [show (sThr S (nI 0)).1 12 0 = nI n from hn]
    refine And.intro (vp_in_nI (hn16) (by decide)) ?_; rw [nI_clamp (Nat.lt_trans (hn16) (by decide))]
    repeat (refine hG.1 _ _ _ _ _ _ rfl ?_)
    rw [show (sThr S (nI 0)).1 12 0 = nI n from hn]
    refine And.intro (vp_in_nI (hn16) (by decide)) ?_; rw [nI_clamp (Nat.lt_trans (hn16) (by decide))]
    repeat (refine hG.1 _ _ _ _ _ _ rfl ?_)
    rw [show (sThr S (nI 0)).1 12 0 = nI n from hn, nI_add]
    repeat (refine hG.1 _ _ _ _ _ _ rfl ?_)
    refine And.intro rfl (And.intro ?_ rfl)
    show Sum.inl (some (nI (n + 1) - nI 1)) = _
    rw [pk_sub (by omega)]
    rfl
  · have h3 : nI n = nI 16 := h2
    have := (nI_eq (by omega) (by omega)).mp h3
    omega
theorem m_setBackground_0 (S : PS) (x amt : Int32) (h : noR amt (nI 0) (nI 10000)) : Run 0 64 [.ref 12, .int x, .int amt] S (.inl (some (nI 0))) (sThr S (nI 1)) := by
  refine run_of (by decide +kernel) rfl (fun L xs G hG => ?_)
  repeat (refine hG.1 _ _ _ _ _ _ rfl ?_)
  refine cx (m_isIn_f S h) rfl ?_
  repeat (refine hG.1 _ _ _ _ _ _ rfl ?_)
  refine And.intro (fun h => by first | exact absurd h (by decide) | exact False.elim (h (by decide))) (fun _ => ?_)
  repeat (refine hG.1 _ _ _ _ _ _ rfl ?_)
  refine And.intro rfl (cx (m_fails_t S (nI 1) (by decide)) rfl ?_)
  repeat (refine hG.1 _ _ _ _ _ _ rfl ?_)
  refine And.intro (fun h => by first | exact absurd h (by decide) | exact False.elim (h (by decide))) (fun _ => ?_)
  repeat (refine hG.1 _ _ _ _ _ _ rfl ?_)
  exact And.intro rfl (And.intro rfl rfl)
theorem m_setBackground_1 (S : PS) (x amt : Int32) (n : Nat) (h : okR amt (nI 0) (nI 10000)) (hn : S.1 12 0 = nI n) (hn16 : n ≤ 16) (h1n : 1 ≤ n) (h1 : noN x (nI n)) : Run 0 64 [.ref 12, .int x, .int amt] S (.inl (some (nI 0))) (sThr S (nI 2)) := by
  refine run_of (by decide +kernel) rfl (fun L xs G hG => ?_)
  repeat (refine hG.1 _ _ _ _ _ _ rfl ?_)
  refine cx (m_isIn_t S h) rfl ?_
  repeat (refine hG.1 _ _ _ _ _ _ rfl ?_)
  refine And.intro (fun _ => ?_) (fun h => by first | exact absurd h (by decide) | exact False.elim (h (by decide)))
  repeat (refine hG.1 _ _ _ _ _ _ rfl ?_)
  refine And.intro rfl (cx (m_isNode_f S _ n hn hn16 h1n h1) rfl ?_)
  repeat (refine hG.1 _ _ _ _ _ _ rfl ?_)
  refine And.intro (fun _ => ?_) (fun h => by first | exact absurd h (by decide) | exact False.elim (h (by decide)))
  repeat (refine hG.1 _ _ _ _ _ _ rfl ?_)
  refine And.intro rfl (cx (m_fails_t S (nI 2) (by decide)) rfl ?_)
  repeat (refine hG.1 _ _ _ _ _ _ rfl ?_)
  refine And.intro (fun h => by first | exact absurd h (by decide) | exact False.elim (h (by decide))) (fun _ => ?_)
  repeat (refine hG.1 _ _ _ _ _ _ rfl ?_)
  exact And.intro rfl (And.intro rfl rfl)
abbrev tSetB (S : PS) (j : Nat) (amt : Int32) : PS := ((sThr S (nI 0)).1, va_up S.2.1 15 (upd (S.2.1 15) j amt), S.2.2)
theorem m_setBackground (S : PS) (j n nb : Nat) (rp sh amt : Int32) (h : okR amt (nI 0) (nI 10000)) (hM : MR (tSetB S j amt) n nb rp sh) (hj : j < n) : Run 0 64 [.ref 12, .int (nI j), .int amt] S (.inl (some (lkgX S.2.1 nb rp j))) (tSetB S j amt) := by
  have hn : S.1 12 0 = nI n := hM.1.1
  have hn16 := hM.1.2.2.1
  refine run_of (by decide +kernel) rfl (fun L xs G hG => ?_)
  repeat (refine hG.1 _ _ _ _ _ _ rfl ?_)
  refine cx (m_isIn_t S h) rfl ?_
  repeat (refine hG.1 _ _ _ _ _ _ rfl ?_)
  refine And.intro (fun _ => ?_) (fun h => by first | exact absurd h (by decide) | exact False.elim (h (by decide)))
  repeat (refine hG.1 _ _ _ _ _ _ rfl ?_)
  refine And.intro rfl (cx (m_isNode_t S j n hn hn16 hj) rfl ?_)
  repeat (refine hG.1 _ _ _ _ _ _ rfl ?_)
  refine And.intro (fun h => by first | exact absurd h (by decide) | exact False.elim (h (by decide))) (fun _ => ?_)
  repeat (refine hG.1 _ _ _ _ _ _ rfl ?_)
  refine And.intro rfl (cx (m_fails_f S) rfl ?_)
  repeat (refine hG.1 _ _ _ _ _ _ rfl ?_)
  refine And.intro (fun _ => ?_) (fun h => by first | exact absurd h (by decide) | exact False.elim (h (by decide)))
  repeat (refine hG.1 _ _ _ _ _ _ rfl ?_)
  refine And.intro (vp_in_nI ((show j < 16 by omega)) (by decide)) ?_; rw [nI_clamp (Nat.lt_trans ((show j < 16 by omega)) (by decide))]
  repeat (refine hG.1 _ _ _ _ _ _ rfl ?_)
  refine And.intro rfl (cx (m_leaks (tSetB S j amt) j n nb rp sh hM hj) rfl ?_)
  repeat (refine hG.1 _ _ _ _ _ _ rfl ?_)
  refine And.intro rfl (And.intro ?_ rfl)
  rw [lkgX_congr (A := S.2.1) (A' := (tSetB S j amt).2.1) rfl rfl rfl rfl rfl]
theorem m_setPressure_0 (S : PS) (x v : Int32) (h : noR v (-1) (nI 100)) : Run 0 65 [.ref 12, .int x, .int v] S (.inl (some (nI 0))) (sThr S (nI 1)) := by
  refine run_of (by decide +kernel) rfl (fun L xs G hG => ?_)
  repeat (refine hG.1 _ _ _ _ _ _ rfl ?_)
  refine cx (m_isIn_f S h) rfl ?_
  repeat (refine hG.1 _ _ _ _ _ _ rfl ?_)
  refine And.intro (fun h => by first | exact absurd h (by decide) | exact False.elim (h (by decide))) (fun _ => ?_)
  repeat (refine hG.1 _ _ _ _ _ _ rfl ?_)
  refine And.intro rfl (cx (m_fails_t S (nI 1) (by decide)) rfl ?_)
  repeat (refine hG.1 _ _ _ _ _ _ rfl ?_)
  refine And.intro (fun h => by first | exact absurd h (by decide) | exact False.elim (h (by decide))) (fun _ => ?_)
  repeat (refine hG.1 _ _ _ _ _ _ rfl ?_)
  exact And.intro rfl (And.intro rfl rfl)
theorem m_setPressure_1 (S : PS) (x v : Int32) (n : Nat) (h : okR v (-1) (nI 100)) (hn : S.1 12 0 = nI n) (hn16 : n ≤ 16) (h1n : 1 ≤ n) (h1 : x ≤ 0 ∨ ¬ x < nI n) : Run 0 65 [.ref 12, .int x, .int v] S (.inl (some (nI 0))) (sThr S (nI 2)) := by
  refine run_of (by decide +kernel) rfl (fun L xs G hG => ?_)
  repeat (refine hG.1 _ _ _ _ _ _ rfl ?_)
  refine cx (m_isIn_t S h) rfl ?_
  repeat (refine hG.1 _ _ _ _ _ _ rfl ?_)
  refine And.intro (fun _ => ?_) (fun h => by first | exact absurd h (by decide) | exact False.elim (h (by decide)))
  repeat (refine hG.1 _ _ _ _ _ _ rfl ?_)
  refine And.intro rfl (cx (m_isPipe_f S _ n hn hn16 h1n h1) rfl ?_)
  repeat (refine hG.1 _ _ _ _ _ _ rfl ?_)
  refine And.intro (fun _ => ?_) (fun h => by first | exact absurd h (by decide) | exact False.elim (h (by decide)))
  repeat (refine hG.1 _ _ _ _ _ _ rfl ?_)
  refine And.intro rfl (cx (m_fails_t S (nI 2) (by decide)) rfl ?_)
  repeat (refine hG.1 _ _ _ _ _ _ rfl ?_)
  refine And.intro (fun h => by first | exact absurd h (by decide) | exact False.elim (h (by decide))) (fun _ => ?_)
  repeat (refine hG.1 _ _ _ _ _ _ rfl ?_)
  exact And.intro rfl (And.intro rfl rfl)
abbrev tSetP (S : PS) (j : Nat) (v : Int32) : PS := ((sThr S (nI 0)).1, va_up S.2.1 16 (upd (S.2.1 16) j v), S.2.2)
theorem m_setPressure (S : PS) (j n nb : Nat) (rp sh v : Int32) (h : okR v (-1) (nI 100)) (hM : MR (tSetP S j v) n nb rp sh) (h0 : 0 < j) (hj : j < n) : Run 0 65 [.ref 12, .int (nI j), .int v] S (.inl (some (prs S.2.1 j))) (tSetP S j v) := by
  have hn : S.1 12 0 = nI n := hM.1.1
  have hn16 := hM.1.2.2.1
  refine run_of (by decide +kernel) rfl (fun L xs G hG => ?_)
  repeat (refine hG.1 _ _ _ _ _ _ rfl ?_)
  refine cx (m_isIn_t S h) rfl ?_
  repeat (refine hG.1 _ _ _ _ _ _ rfl ?_)
  refine And.intro (fun _ => ?_) (fun h => by first | exact absurd h (by decide) | exact False.elim (h (by decide)))
  repeat (refine hG.1 _ _ _ _ _ _ rfl ?_)
  refine And.intro rfl (cx (m_isPipe_t S j n hn hn16 h0 hj) rfl ?_)
  repeat (refine hG.1 _ _ _ _ _ _ rfl ?_)
  refine And.intro (fun h => by first | exact absurd h (by decide) | exact False.elim (h (by decide))) (fun _ => ?_)
  repeat (refine hG.1 _ _ _ _ _ _ rfl ?_)
  refine And.intro rfl (cx (m_fails_f S) rfl ?_)
  repeat (refine hG.1 _ _ _ _ _ _ rfl ?_)
  refine And.intro (fun _ => ?_) (fun h => by first | exact absurd h (by decide) | exact False.elim (h (by decide)))
  repeat (refine hG.1 _ _ _ _ _ _ rfl ?_)
  refine And.intro (vp_in_nI ((show j < 16 by omega)) (by decide)) ?_; rw [nI_clamp (Nat.lt_trans ((show j < 16 by omega)) (by decide))]
  repeat (refine hG.1 _ _ _ _ _ _ rfl ?_)
  refine And.intro rfl (cx (m_pressureAt (tSetP S j v) j n nb rp sh hM hj) rfl ?_)
  repeat (refine hG.1 _ _ _ _ _ _ rfl ?_)
  exact And.intro rfl (And.intro rfl rfl)
theorem m_addMeter_0 (S : PS) (x : Int32) (n : Nat) (hn : S.1 12 0 = nI n) (hn16 : n ≤ 16) (h1n : 1 ≤ n) (h1 : x ≤ 0 ∨ ¬ x < nI n) : Run 0 66 [.ref 12, .int x] S (.inl (some (nI 0))) (sThr S (nI 1)) := by
  refine run_of (by decide +kernel) rfl (fun L xs G hG => ?_)
  repeat (refine hG.1 _ _ _ _ _ _ rfl ?_)
  refine And.intro rfl (cx (m_isPipe_f S _ n hn hn16 h1n h1) rfl ?_)
  repeat (refine hG.1 _ _ _ _ _ _ rfl ?_)
  refine And.intro (fun _ => ?_) (fun h => by first | exact absurd h (by decide) | exact False.elim (h (by decide)))
  repeat (refine hG.1 _ _ _ _ _ _ rfl ?_)
  refine And.intro rfl (cx (m_fails_t S (nI 1) (by decide)) rfl ?_)
  repeat (refine hG.1 _ _ _ _ _ _ rfl ?_)
  refine And.intro (fun h => by first | exact absurd h (by decide) | exact False.elim (h (by decide))) (fun _ => ?_)
  repeat (refine hG.1 _ _ _ _ _ _ rfl ?_)
  exact And.intro rfl (And.intro rfl rfl)
abbrev tMeter (S : PS) (j : Nat) : PS := ((sThr S (nI 0)).1, va_up S.2.1 17 (upd (S.2.1 17) j (nI 1)), S.2.2)
theorem m_addMeter (S : PS) (j n : Nat) (mt : Int32) (hn : S.1 12 0 = nI n) (hn16 : n ≤ 16) (h0 : 0 < j) (hj : j < n) (hm : S.2.1 17 j = bi (hs mt j)) : Run 0 66 [.ref 12, .int (nI j)] S (.inl (some (bi (¬ hs mt j)))) (tMeter S j) := by
  refine run_of (by decide +kernel) rfl (fun L xs G hG => ?_)
  repeat (refine hG.1 _ _ _ _ _ _ rfl ?_)
  refine And.intro rfl (cx (m_isPipe_t S j n hn hn16 h0 hj) rfl ?_)
  repeat (refine hG.1 _ _ _ _ _ _ rfl ?_)
  refine And.intro (fun h => by first | exact absurd h (by decide) | exact False.elim (h (by decide))) (fun _ => ?_)
  repeat (refine hG.1 _ _ _ _ _ _ rfl ?_)
  refine And.intro rfl (cx (m_fails_f S) rfl ?_)
  repeat (refine hG.1 _ _ _ _ _ _ rfl ?_)
  refine And.intro (fun _ => ?_) (fun h => by first | exact absurd h (by decide) | exact False.elim (h (by decide)))
  repeat (refine hG.1 _ _ _ _ _ _ rfl ?_)
  refine And.intro (vp_in_nI ((show j < 16 by omega)) (by decide)) ?_; rw [nI_clamp (Nat.lt_trans ((show j < 16 by omega)) (by decide))]
  rw [hm]
  repeat (refine hG.1 _ _ _ _ _ _ rfl ?_)
  refine And.intro (vp_in_nI ((show j < 16 by omega)) (by decide)) ?_; rw [nI_clamp (Nat.lt_trans ((show j < 16 by omega)) (by decide))]
  rw [nar_b1]
  repeat (refine hG.1 _ _ _ _ _ _ rfl ?_)
  refine And.intro (fun h => ?_) (fun h => ?_)
  · rw [bi_n] at h
    repeat (refine hG.1 _ _ _ _ _ _ rfl ?_)
    refine And.intro rfl (And.intro ?_ rfl)
    rw [bi_f (fun z => z h)]
  · rw [bi_0] at h
    repeat (refine hG.1 _ _ _ _ _ _ rfl ?_)
    refine And.intro rfl (And.intro ?_ rfl)
    rw [bi_t h]
theorem m_toggleValve_0 (S : PS) (x : Int32) (n : Nat) (hn : S.1 12 0 = nI n) (hn16 : n ≤ 16) (h1n : 1 ≤ n) (h1 : x ≤ 0 ∨ ¬ x < nI n) : Run 0 67 [.ref 12, .int x] S (.inl (some (nI 0))) (sThr S (nI 1)) := by
  refine run_of (by decide +kernel) rfl (fun L xs G hG => ?_)
  repeat (refine hG.1 _ _ _ _ _ _ rfl ?_)
  refine And.intro rfl (cx (m_isPipe_f S _ n hn hn16 h1n h1) rfl ?_)
  repeat (refine hG.1 _ _ _ _ _ _ rfl ?_)
  refine And.intro (fun _ => ?_) (fun h => by first | exact absurd h (by decide) | exact False.elim (h (by decide)))
  repeat (refine hG.1 _ _ _ _ _ _ rfl ?_)
  refine And.intro rfl (cx (m_fails_t S (nI 1) (by decide)) rfl ?_)
  repeat (refine hG.1 _ _ _ _ _ _ rfl ?_)
  refine And.intro (fun h => by first | exact absurd h (by decide) | exact False.elim (h (by decide))) (fun _ => ?_)
  repeat (refine hG.1 _ _ _ _ _ _ rfl ?_)
  exact And.intro rfl (And.intro rfl rfl)
abbrev tValve (S : PS) (j : Nat) (v : Int32) : PS := ((sThr S (nI 0)).1, va_up S.2.1 18 (upd (S.2.1 18) j v), S.2.2)
theorem m_toggleValve (S : PS) (j n : Nat) (sh : Int32) (hn : S.1 12 0 = nI n) (hn16 : n ≤ 16) (h0 : 0 < j) (hj : j < n) (hm : S.2.1 18 j = bi (hs sh j)) : Run 0 67 [.ref 12, .int (nI j)] S (.inl (some (bi (hs sh j)))) (tValve S j (bi (¬ hs sh j))) := by
  refine run_of (by decide +kernel) rfl (fun L xs G hG => ?_)
  repeat (refine hG.1 _ _ _ _ _ _ rfl ?_)
  refine And.intro rfl (cx (m_isPipe_t S j n hn hn16 h0 hj) rfl ?_)
  repeat (refine hG.1 _ _ _ _ _ _ rfl ?_)
  refine And.intro (fun h => by first | exact absurd h (by decide) | exact False.elim (h (by decide))) (fun _ => ?_)
  repeat (refine hG.1 _ _ _ _ _ _ rfl ?_)
  refine And.intro rfl (cx (m_fails_f S) rfl ?_)
  repeat (refine hG.1 _ _ _ _ _ _ rfl ?_)
  refine And.intro (fun _ => ?_) (fun h => by first | exact absurd h (by decide) | exact False.elim (h (by decide)))
  repeat (refine hG.1 _ _ _ _ _ _ rfl ?_)
  refine And.intro (vp_in_nI ((show j < 16 by omega)) (by decide)) ?_; rw [nI_clamp (Nat.lt_trans ((show j < 16 by omega)) (by decide))]
  rw [hm]
  repeat (refine hG.1 _ _ _ _ _ _ rfl ?_)
  refine And.intro (fun h => ?_) (fun h => ?_)
  · rw [bi_n] at h
    repeat (refine hG.1 _ _ _ _ _ _ rfl ?_)
    refine And.intro (vp_in_nI ((show j < 16 by omega)) (by decide)) ?_; rw [nI_clamp (Nat.lt_trans ((show j < 16 by omega)) (by decide))]
    rw [nar_b0]
    repeat (refine hG.1 _ _ _ _ _ _ rfl ?_)
    refine And.intro (vp_in_nI ((show j < 16 by omega)) (by decide)) ?_; rw [nI_clamp (Nat.lt_trans ((show j < 16 by omega)) (by decide))]
    rw [show (tValve S j (nI 0)).2.1 18 j = nI 0 from upd_same]
    repeat (refine hG.1 _ _ _ _ _ _ rfl ?_)
    refine And.intro (fun h => by first | exact absurd h (by decide) | exact False.elim (h (by decide))) (fun _ => ?_)
    repeat (refine hG.1 _ _ _ _ _ _ rfl ?_)
    rw [bi_t h, bi_f (fun z => z h)]
    exact And.intro rfl (And.intro rfl rfl)
  · rw [bi_0] at h
    repeat (refine hG.1 _ _ _ _ _ _ rfl ?_)
    refine And.intro (vp_in_nI ((show j < 16 by omega)) (by decide)) ?_; rw [nI_clamp (Nat.lt_trans ((show j < 16 by omega)) (by decide))]
    rw [nar_b1]
    repeat (refine hG.1 _ _ _ _ _ _ rfl ?_)
    refine And.intro (vp_in_nI ((show j < 16 by omega)) (by decide)) ?_; rw [nI_clamp (Nat.lt_trans ((show j < 16 by omega)) (by decide))]
    rw [show (tValve S j (nI 1)).2.1 18 j = nI 1 from upd_same]
    repeat (refine hG.1 _ _ _ _ _ _ rfl ?_)
    refine And.intro (fun _ => ?_) (fun h => by first | exact absurd h (by decide) | exact False.elim (h (by decide)))
    repeat (refine hG.1 _ _ _ _ _ _ rfl ?_)
    rw [bi_t h, bi_f h]
    exact And.intro rfl (And.intro rfl rfl)
theorem m_isSupplied_0 (S : PS) (x : Int32) (n : Nat) (hn : S.1 12 0 = nI n) (hn16 : n ≤ 16) (h1n : 1 ≤ n) (h1 : noN x (nI n)) : Run 0 68 [.ref 12, .int x] S (.inl (some (nI 0))) (sThr S (nI 1)) := by
  refine run_of (by decide +kernel) rfl (fun L xs G hG => ?_)
  repeat (refine hG.1 _ _ _ _ _ _ rfl ?_)
  refine And.intro rfl (cx (m_isNode_f S _ n hn hn16 h1n h1) rfl ?_)
  repeat (refine hG.1 _ _ _ _ _ _ rfl ?_)
  refine And.intro (fun _ => ?_) (fun h => by first | exact absurd h (by decide) | exact False.elim (h (by decide)))
  repeat (refine hG.1 _ _ _ _ _ _ rfl ?_)
  refine And.intro rfl (cx (m_fails_t S (nI 1) (by decide)) rfl ?_)
  repeat (refine hG.1 _ _ _ _ _ _ rfl ?_)
  refine And.intro (fun _ => ?_) (fun h => by first | exact absurd h (by decide) | exact False.elim (h (by decide)))
  repeat (refine hG.1 _ _ _ _ _ _ rfl ?_)
  exact And.intro rfl (And.intro rfl rfl)
theorem m_isSupplied (S : PS) (j n nb : Nat) (rp sh : Int32) (hM : MR S n nb rp sh) (hj : j < n) : Run 0 68 [.ref 12, .int (nI j)] S (.inl (some (bi (S.2.1 1 j &&& sh = 0)))) (sThr S (nI 0)) := by
  obtain ⟨⟨h0, h1n, hn, hb, hnb⟩, hW, -, -, ⟨hsh, hs0⟩, -⟩ := id hM
  refine run_of (by decide +kernel) rfl (fun L xs G hG => ?_)
  repeat (refine hG.1 _ _ _ _ _ _ rfl ?_)
  refine And.intro rfl (cx (m_isNode_t S j n h0 hn hj) rfl ?_)
  repeat (refine hG.1 _ _ _ _ _ _ rfl ?_)
  refine And.intro (fun h => by first | exact absurd h (by decide) | exact False.elim (h (by decide))) (fun _ => ?_)
  repeat (refine hG.1 _ _ _ _ _ _ rfl ?_)
  refine And.intro rfl (cx (m_fails_f S) rfl ?_)
  repeat (refine hG.1 _ _ _ _ _ _ rfl ?_)
  refine And.intro (fun h => by first | exact absurd h (by decide) | exact False.elim (h (by decide))) (fun _ => ?_)
  repeat (refine hG.1 _ _ _ _ _ _ rfl ?_)
  refine And.intro rfl (cx (m_supplied (sThr S (nI 0)) j n sh hW hn hj hsh hs0) rfl ?_)
  repeat (refine hG.1 _ _ _ _ _ _ rfl ?_)
  refine And.intro (fun h => ?_) (fun h => ?_)
  · rw [bi_0] at h
    repeat (refine hG.1 _ _ _ _ _ _ rfl ?_)
    refine And.intro rfl (And.intro ?_ rfl)
    rw [bi_f h]
  · rw [bi_n] at h
    repeat (refine hG.1 _ _ _ _ _ _ rfl ?_)
    refine And.intro rfl (And.intro ?_ rfl)
    rw [bi_t h]
theorem m_takes_0 (S : PS) (x : Int32) (n : Nat) (hn : S.1 12 0 = nI n) (hn16 : n ≤ 16) (h1n : 1 ≤ n) (h1 : noN x (nI n)) : Run 0 69 [.ref 12, .int x] S (.inl (some (nI 0))) (sThr S (nI 1)) := by
  refine run_of (by decide +kernel) rfl (fun L xs G hG => ?_)
  repeat (refine hG.1 _ _ _ _ _ _ rfl ?_)
  refine And.intro rfl (cx (m_isNode_f S _ n hn hn16 h1n h1) rfl ?_)
  repeat (refine hG.1 _ _ _ _ _ _ rfl ?_)
  refine And.intro (fun _ => ?_) (fun h => by first | exact absurd h (by decide) | exact False.elim (h (by decide)))
  repeat (refine hG.1 _ _ _ _ _ _ rfl ?_)
  refine And.intro rfl (cx (m_fails_t S (nI 1) (by decide)) rfl ?_)
  repeat (refine hG.1 _ _ _ _ _ _ rfl ?_)
  refine And.intro (fun h => by first | exact absurd h (by decide) | exact False.elim (h (by decide))) (fun _ => ?_)
  repeat (refine hG.1 _ _ _ _ _ _ rfl ?_)
  exact And.intro rfl (And.intro rfl rfl)
theorem m_takes (S : PS) (j n nb : Nat) (rp sh : Int32) (hM : MR S n nb rp sh) (hj : j < n) : Run 0 69 [.ref 12, .int (nI j)] S (.inl (some (tknX S.2.1 nb rp sh j))) (sThr S (nI 0)) := by
  refine run_of (by decide +kernel) rfl (fun L xs G hG => ?_)
  repeat (refine hG.1 _ _ _ _ _ _ rfl ?_)
  refine And.intro rfl (cx (m_isNode_t S j n hM.1.1 hM.1.2.2.1 hj) rfl ?_)
  repeat (refine hG.1 _ _ _ _ _ _ rfl ?_)
  refine And.intro (fun h => by first | exact absurd h (by decide) | exact False.elim (h (by decide))) (fun _ => ?_)
  repeat (refine hG.1 _ _ _ _ _ _ rfl ?_)
  refine And.intro rfl (cx (m_fails_f S) rfl ?_)
  repeat (refine hG.1 _ _ _ _ _ _ rfl ?_)
  refine And.intro (fun _ => ?_) (fun h => by first | exact absurd h (by decide) | exact False.elim (h (by decide)))
  repeat (refine hG.1 _ _ _ _ _ _ rfl ?_)
  refine And.intro rfl (cx (m_taken (sThr S (nI 0)) j n nb rp sh hM hj) rfl ?_)
  repeat (refine hG.1 _ _ _ _ _ _ rfl ?_)
  exact And.intro rfl (And.intro rfl rfl)
theorem m_flow_0 (S : PS) (x : Int32) (n : Nat) (hn : S.1 12 0 = nI n) (hn16 : n ≤ 16) (h1n : 1 ≤ n) (h1 : x ≤ 0 ∨ ¬ x < nI n) : Run 0 70 [.ref 12, .int x] S (.inl (some (nI 0))) (sThr S (nI 1)) := by
  refine run_of (by decide +kernel) rfl (fun L xs G hG => ?_)
  repeat (refine hG.1 _ _ _ _ _ _ rfl ?_)
  refine And.intro rfl (cx (m_isPipe_f S _ n hn hn16 h1n h1) rfl ?_)
  repeat (refine hG.1 _ _ _ _ _ _ rfl ?_)
  refine And.intro (fun h => by first | exact absurd h (by decide) | exact False.elim (h (by decide))) (fun _ => ?_)
  repeat (refine hG.1 _ _ _ _ _ _ rfl ?_)
  refine And.intro rfl (cx (m_fails_t S (nI 1) (by decide)) rfl ?_)
  repeat (refine hG.1 _ _ _ _ _ _ rfl ?_)
  refine And.intro (fun h => by first | exact absurd h (by decide) | exact False.elim (h (by decide))) (fun _ => ?_)
  repeat (refine hG.1 _ _ _ _ _ _ rfl ?_)
  exact And.intro rfl (And.intro rfl rfl)
theorem m_flow_1 (S : PS) (j n : Nat) (hn : S.1 12 0 = nI n) (hn16 : n ≤ 16) (h0 : 0 < j) (hj : j < n) (hm : S.2.1 17 j = nI 0) : Run 0 70 [.ref 12, .int (nI j)] S (.inl (some (nI 0))) (sThr S (nI 2)) := by
  refine run_of (by decide +kernel) rfl (fun L xs G hG => ?_)
  repeat (refine hG.1 _ _ _ _ _ _ rfl ?_)
  refine And.intro rfl (cx (m_isPipe_t S j n hn hn16 h0 hj) rfl ?_)
  repeat (refine hG.1 _ _ _ _ _ _ rfl ?_)
  refine And.intro (fun _ => ?_) (fun h => by first | exact absurd h (by decide) | exact False.elim (h (by decide)))
  repeat (refine hG.1 _ _ _ _ _ _ rfl ?_)
  refine And.intro (vp_in_nI ((show j < 16 by omega)) (by decide)) ?_; rw [nI_clamp (Nat.lt_trans ((show j < 16 by omega)) (by decide))]
  rw [hm]
  repeat (refine hG.1 _ _ _ _ _ _ rfl ?_)
  refine And.intro (fun _ => ?_) (fun h => by first | exact absurd h (by decide) | exact False.elim (h (by decide)))
  repeat (refine hG.1 _ _ _ _ _ _ rfl ?_)
  refine And.intro rfl (cx (m_fails_t S (nI 2) (by decide)) rfl ?_)
  repeat (refine hG.1 _ _ _ _ _ _ rfl ?_)
  refine And.intro (fun h => by first | exact absurd h (by decide) | exact False.elim (h (by decide))) (fun _ => ?_)
  repeat (refine hG.1 _ _ _ _ _ _ rfl ?_)
  exact And.intro rfl (And.intro rfl rfl)
theorem m_flow (S : PS) (j n nb : Nat) (rp sh : Int32) (hM : MR S n nb rp sh) (h0 : 0 < j) (hj : j < n) (hm : S.2.1 17 j = nI 1) : Run 0 70 [.ref 12, .int (nI j)] S (.inl (some (flX S.2.1 n nb rp sh (nI j)))) (sThr S (nI 0)) := by
  have hn16 := hM.1.2.2.1
  refine run_of (by decide +kernel) rfl (fun L xs G hG => ?_)
  repeat (refine hG.1 _ _ _ _ _ _ rfl ?_)
  refine And.intro rfl (cx (m_isPipe_t S j n hM.1.1 hM.1.2.2.1 h0 hj) rfl ?_)
  repeat (refine hG.1 _ _ _ _ _ _ rfl ?_)
  refine And.intro (fun _ => ?_) (fun h => by first | exact absurd h (by decide) | exact False.elim (h (by decide)))
  repeat (refine hG.1 _ _ _ _ _ _ rfl ?_)
  refine And.intro (vp_in_nI ((show j < 16 by omega)) (by decide)) ?_; rw [nI_clamp (Nat.lt_trans ((show j < 16 by omega)) (by decide))]
  rw [hm]
  repeat (refine hG.1 _ _ _ _ _ _ rfl ?_)
  refine And.intro (fun h => by first | exact absurd h (by decide) | exact False.elim (h (by decide))) (fun _ => ?_)
  repeat (refine hG.1 _ _ _ _ _ _ rfl ?_)
  refine And.intro rfl (cx (m_fails_f S) rfl ?_)
  repeat (refine hG.1 _ _ _ _ _ _ rfl ?_)
  refine And.intro (fun _ => ?_) (fun h => by first | exact absurd h (by decide) | exact False.elim (h (by decide)))
  repeat (refine hG.1 _ _ _ _ _ _ rfl ?_)
  refine And.intro rfl (cx (m_flowBelow (sThr S (nI 0)) j n nb rp sh hM hj) rfl ?_)
  repeat (refine hG.1 _ _ _ _ _ _ rfl ?_)
  exact And.intro rfl (And.intro rfl rfl)
theorem m_allFlow (S : PS) (n nb : Nat) (rp sh : Int32) (hM : MR S n nb rp sh) : Run 0 71 [.ref 12] S (.inl (some (flX S.2.1 n nb rp sh (nI 0)))) (sThr S (nI 0)) := by
  refine run_of (by decide +kernel) rfl (fun L xs G hG => ?_)
  repeat (refine hG.1 _ _ _ _ _ _ rfl ?_)
  refine And.intro rfl (cx (m_flowBelow S 0 n nb rp sh hM (by have := hM.1.2.1; omega)) rfl ?_)
  repeat (refine hG.1 _ _ _ _ _ _ rfl ?_)
  refine And.intro rfl (cx (m_tells S _) rfl ?_)
  repeat (refine hG.1 _ _ _ _ _ _ rfl ?_)
  exact And.intro rfl (And.intro rfl rfl)
theorem m_addArea_0 (S : PS) (x : Int32) (n : Nat) (hn : S.1 12 0 = nI n) (hn16 : n ≤ 16) (h1n : 1 ≤ n) (h1 : noN x (nI n)) : Run 0 76 [.ref 12, .int x] S (.inl (some (nI 0))) (sThr S (nI 1)) := by
  refine run_of (by decide +kernel) rfl (fun L xs G hG => ?_)
  repeat (refine hG.1 _ _ _ _ _ _ rfl ?_)
  refine And.intro rfl (cx (m_isNode_f S _ n hn hn16 h1n h1) rfl ?_)
  repeat (refine hG.1 _ _ _ _ _ _ rfl ?_)
  refine And.intro (fun h => by first | exact absurd h (by decide) | exact False.elim (h (by decide))) (fun _ => ?_)
  repeat (refine hG.1 _ _ _ _ _ _ rfl ?_)
  refine And.intro rfl (cx (m_fails_t S (nI 1) (by decide)) rfl ?_)
  repeat (refine hG.1 _ _ _ _ _ _ rfl ?_)
  refine And.intro (fun h => by first | exact absurd h (by decide) | exact False.elim (h (by decide))) (fun _ => ?_)
  repeat (refine hG.1 _ _ _ _ _ _ rfl ?_)
  exact And.intro rfl (And.intro rfl rfl)
theorem m_addArea_1 (S : PS) (j n : Nat) (hn : S.1 12 0 = nI n) (hn16 : n ≤ 16) (hj : j < n) (ha : S.1 12 8 = nI 8) : Run 0 76 [.ref 12, .int (nI j)] S (.inl (some (nI 0))) (sThr S (nI 2)) := by
  refine run_of (by decide +kernel) rfl (fun L xs G hG => ?_)
  repeat (refine hG.1 _ _ _ _ _ _ rfl ?_)
  refine And.intro rfl (cx (m_isNode_t S j n hn hn16 hj) rfl ?_)
  repeat (refine hG.1 _ _ _ _ _ _ rfl ?_)
  refine And.intro (fun _ => ?_) (fun h => by first | exact absurd h (by decide) | exact False.elim (h (by decide)))
  repeat (refine hG.1 _ _ _ _ _ _ rfl ?_)
  rw [ha]
  refine And.intro (fun h => by first | exact absurd h (by decide) | exact False.elim (h (by decide))) (fun _ => ?_)
  repeat (refine hG.1 _ _ _ _ _ _ rfl ?_)
  refine And.intro rfl (cx (m_fails_t S (nI 2) (by decide)) rfl ?_)
  repeat (refine hG.1 _ _ _ _ _ _ rfl ?_)
  refine And.intro (fun h => by first | exact absurd h (by decide) | exact False.elim (h (by decide))) (fun _ => ?_)
  repeat (refine hG.1 _ _ _ _ _ _ rfl ?_)
  exact And.intro rfl (And.intro rfl rfl)
abbrev tArea (S : PS) (na j : Nat) : PS := (va_up (sThr S (nI 0)).1 12 (upd ((sThr S (nI 0)).1 12) 8 (nI (na + 1))), va_up S.2.1 20 (upd (S.2.1 20) na (nI j)), S.2.2)
theorem m_addArea (S : PS) (j n na : Nat) (hn : S.1 12 0 = nI n) (hn16 : n ≤ 16) (hj : j < n) (ha : S.1 12 8 = nI na) (hna : na < 8) : Run 0 76 [.ref 12, .int (nI j)] S (.inl (some (nI na))) (tArea S na j) := by
  refine run_of (by decide +kernel) rfl (fun L xs G hG => ?_)
  repeat (refine hG.1 _ _ _ _ _ _ rfl ?_)
  refine And.intro rfl (cx (m_isNode_t S j n hn hn16 hj) rfl ?_)
  repeat (refine hG.1 _ _ _ _ _ _ rfl ?_)
  refine And.intro (fun _ => ?_) (fun h => by first | exact absurd h (by decide) | exact False.elim (h (by decide)))
  repeat (refine hG.1 _ _ _ _ _ _ rfl ?_)
  rw [ha]
  refine And.intro (fun h2 => ?_) (fun h2 => ?_)
  · repeat (refine hG.1 _ _ _ _ _ _ rfl ?_)
    refine And.intro rfl (cx (m_fails_f S) rfl ?_)
    repeat (refine hG.1 _ _ _ _ _ _ rfl ?_)
    refine And.intro (fun _ => ?_) (fun h => by first | exact absurd h (by decide) | exact False.elim (h (by decide)))
    repeat (refine hG.1 _ _ _ _ _ _ rfl ?_)
    rw [show (sThr S (nI 0)).1 12 8 = nI na from ha]
    refine And.intro (vp_in_nI (hna) (by decide)) ?_; rw [nI_clamp (Nat.lt_trans (hna) (by decide))]
    repeat (refine hG.1 _ _ _ _ _ _ rfl ?_)
    rw [show (sThr S (nI 0)).1 12 8 = nI na from ha, nI_add]
    repeat (refine hG.1 _ _ _ _ _ _ rfl ?_)
    refine And.intro rfl (And.intro ?_ rfl)
    show Sum.inl (some (nI (na + 1) - nI 1)) = _
    rw [pk_sub (by omega)]
    rfl
  · have h3 : nI na = nI 8 := h2
    have := (nI_eq (by omega) (by omega)).mp h3
    omega
end
section
theorem m_isExp (S : PS) (a j : Nat) (ha : a < 8) (hj : j < 16) : Run 0 73 [.ref 12, .int (nI a), .int (nI j)] S (.inl (some (bi (hs (S.2.1 21 a) j)))) S := by
  refine run_of (by decide +kernel) rfl (fun L xs G hG => ?_)
  repeat (refine hG.1 _ _ _ _ _ _ rfl ?_)
  refine And.intro (vp_in_nI (ha) (by decide)) ?_; rw [nI_clamp (Nat.lt_trans (ha) (by decide))]
  repeat (refine hG.1 _ _ _ _ _ _ rfl ?_)
  refine And.intro (fun h => ?_) (fun h => ?_)
  · have h2 : ¬ hs (S.2.1 21 a) j := fun z => h ((hs_shr (by omega)).mpr z)
    repeat (refine hG.1 _ _ _ _ _ _ rfl ?_)
    refine And.intro rfl (And.intro ?_ rfl)
    rw [bi_f h2]
  · have h2 : hs (S.2.1 21 a) j := (hs_shr (by omega)).mp h
    repeat (refine hG.1 _ _ _ _ _ _ rfl ?_)
    refine And.intro rfl (And.intro ?_ rfl)
    rw [bi_t h2]
theorem m_addExport_0 (S : PS) (x y : Int32) (n na : Nat) (hn : S.1 12 0 = nI n) (hn16 : n ≤ 16) (h1n : 1 ≤ n) (ha : S.1 12 8 = nI na) (hna : na ≤ 8) (h : noN x (nI na) ∨ ((∃ a, a < na ∧ x = nI a) ∧ noN y (nI n))) : Run 0 77 [.ref 12, .int x, .int y] S (.inl (some (nI 0))) (sThr S (nI 1)) := by
  refine run_of (by decide +kernel) rfl (fun L xs G hG => ?_)
  rcases h with h | ⟨⟨a, hal, rfl⟩, h⟩
  · repeat (refine hG.1 _ _ _ _ _ _ rfl ?_)
    refine And.intro rfl (cx (m_isArea_f S _ na ha (by omega) h) rfl ?_)
    repeat (refine hG.1 _ _ _ _ _ _ rfl ?_)
    refine And.intro (fun _ => ?_) (fun h => by first | exact absurd h (by decide) | exact False.elim (h (by decide)))
    repeat (refine hG.1 _ _ _ _ _ _ rfl ?_)
    refine And.intro (fun _ => ?_) (fun h => by first | exact absurd h (by decide) | exact False.elim (h (by decide)))
    repeat (refine hG.1 _ _ _ _ _ _ rfl ?_)
    refine And.intro (fun h => by first | exact absurd h (by decide) | exact False.elim (h (by decide))) (fun _ => ?_)
    repeat (refine hG.1 _ _ _ _ _ _ rfl ?_)
    refine And.intro rfl (cx (m_fails_t S (nI 1) (by decide)) rfl ?_)
    repeat (refine hG.1 _ _ _ _ _ _ rfl ?_)
    refine And.intro (fun h => by first | exact absurd h (by decide) | exact False.elim (h (by decide))) (fun _ => ?_)
    repeat (refine hG.1 _ _ _ _ _ _ rfl ?_)
    exact And.intro rfl (And.intro rfl rfl)
  · repeat (refine hG.1 _ _ _ _ _ _ rfl ?_)
    refine And.intro rfl (cx (m_isArea_t S _ na ha (by omega) hal) rfl ?_)
    repeat (refine hG.1 _ _ _ _ _ _ rfl ?_)
    refine And.intro (fun h => by first | exact absurd h (by decide) | exact False.elim (h (by decide))) (fun _ => ?_)
    repeat (refine hG.1 _ _ _ _ _ _ rfl ?_)
    refine And.intro rfl (cx (m_isNode_f S _ n hn hn16 h1n h) rfl ?_)
    repeat (refine hG.1 _ _ _ _ _ _ rfl ?_)
    refine And.intro (fun _ => ?_) (fun h => by first | exact absurd h (by decide) | exact False.elim (h (by decide)))
    repeat (refine hG.1 _ _ _ _ _ _ rfl ?_)
    refine And.intro (fun _ => ?_) (fun h => by first | exact absurd h (by decide) | exact False.elim (h (by decide)))
    repeat (refine hG.1 _ _ _ _ _ _ rfl ?_)
    refine And.intro (fun h => by first | exact absurd h (by decide) | exact False.elim (h (by decide))) (fun _ => ?_)
    repeat (refine hG.1 _ _ _ _ _ _ rfl ?_)
    refine And.intro rfl (cx (m_fails_t S (nI 1) (by decide)) rfl ?_)
    repeat (refine hG.1 _ _ _ _ _ _ rfl ?_)
    refine And.intro (fun h => by first | exact absurd h (by decide) | exact False.elim (h (by decide))) (fun _ => ?_)
    repeat (refine hG.1 _ _ _ _ _ _ rfl ?_)
    exact And.intro rfl (And.intro rfl rfl)
abbrev canM (A : Nat → Nat → Int32) (a j q : Nat) : Prop := j ≠ q ∧ hs (A 1 j) q ∧ ¬ hs (A 21 a) j
abbrev tExp (S : PS) (a j : Nat) : PS := ((sThr S (nI 0)).1, va_up S.2.1 21 (upd (S.2.1 21) a (S.2.1 21 a ||| one j)), S.2.2)
theorem m_addExport_2 (S : PS) (a j q n na : Nat) (hn : S.1 12 0 = nI n) (hn16 : n ≤ 16) (ha8 : S.1 12 8 = nI na) (hna : na ≤ 8) (ha : a < na) (hj : j < n) (hW : Wy S.2.1 n) (hq : q < n) (h20 : S.2.1 20 a = nI q) (hc : ¬ canM S.2.1 a j q) : Run 0 77 [.ref 12, .int (nI a), .int (nI j)] S (.inl (some (nI 0))) (sThr S (nI 2)) := by
  refine run_of (by decide +kernel) rfl (fun L xs G hG => ?_)
  repeat (refine hG.1 _ _ _ _ _ _ rfl ?_)
  refine And.intro rfl (cx (m_isArea_t S _ na ha8 (by omega) ha) rfl ?_)
  repeat (refine hG.1 _ _ _ _ _ _ rfl ?_)
  refine And.intro (fun h => by first | exact absurd h (by decide) | exact False.elim (h (by decide))) (fun _ => ?_)
  repeat (refine hG.1 _ _ _ _ _ _ rfl ?_)
  refine And.intro rfl (cx (m_isNode_t S _ n hn hn16 hj) rfl ?_)
  repeat (refine hG.1 _ _ _ _ _ _ rfl ?_)
  refine And.intro (fun h => by first | exact absurd h (by decide) | exact False.elim (h (by decide))) (fun _ => ?_)
  repeat (refine hG.1 _ _ _ _ _ _ rfl ?_)
  refine And.intro (fun h => by first | exact absurd h (by decide) | exact False.elim (h (by decide))) (fun _ => ?_)
  repeat (refine hG.1 _ _ _ _ _ _ rfl ?_)
  refine And.intro (vp_in_nI ((show a < 8 by omega)) (by decide)) ?_; rw [nI_clamp (Nat.lt_trans ((show a < 8 by omega)) (by decide))]
  rw [h20]
  repeat (refine hG.1 _ _ _ _ _ _ rfl ?_)
  refine And.intro (fun h1 => ?_) (fun h1 => ?_)
  · repeat (refine hG.1 _ _ _ _ _ _ rfl ?_)
    refine And.intro (fun _ => ?_) (fun h => by first | exact absurd h (by decide) | exact False.elim (h (by decide)))
    repeat (refine hG.1 _ _ _ _ _ _ rfl ?_)
    refine And.intro (fun _ => ?_) (fun h => by first | exact absurd h (by decide) | exact False.elim (h (by decide)))
    repeat (refine hG.1 _ _ _ _ _ _ rfl ?_)
    refine And.intro rfl (cx (m_fails_t S (nI 2) (by decide)) rfl ?_)
    repeat (refine hG.1 _ _ _ _ _ _ rfl ?_)
    refine And.intro (fun h => by first | exact absurd h (by decide) | exact False.elim (h (by decide))) (fun _ => ?_)
    repeat (refine hG.1 _ _ _ _ _ _ rfl ?_)
    exact And.intro rfl (And.intro rfl rfl)
  · repeat (refine hG.1 _ _ _ _ _ _ rfl ?_)
    refine And.intro (vp_in_nI ((show a < 8 by omega)) (by decide)) ?_; rw [nI_clamp (Nat.lt_trans ((show a < 8 by omega)) (by decide))]
    rw [h20]
    repeat (refine hG.1 _ _ _ _ _ _ rfl ?_)
    refine And.intro rfl (cx (m_isBelow S j q n hW hn16 hj (by omega)) rfl ?_)
    repeat (refine hG.1 _ _ _ _ _ _ rfl ?_)
    refine And.intro (fun h2 => ?_) (fun h2 => ?_)
    · repeat (refine hG.1 _ _ _ _ _ _ rfl ?_)
      refine And.intro (fun _ => ?_) (fun h => by first | exact absurd h (by decide) | exact False.elim (h (by decide)))
      repeat (refine hG.1 _ _ _ _ _ _ rfl ?_)
      refine And.intro (fun _ => ?_) (fun h => by first | exact absurd h (by decide) | exact False.elim (h (by decide)))
      repeat (refine hG.1 _ _ _ _ _ _ rfl ?_)
      refine And.intro rfl (cx (m_fails_t S (nI 2) (by decide)) rfl ?_)
      repeat (refine hG.1 _ _ _ _ _ _ rfl ?_)
      refine And.intro (fun h => by first | exact absurd h (by decide) | exact False.elim (h (by decide))) (fun _ => ?_)
      repeat (refine hG.1 _ _ _ _ _ _ rfl ?_)
      exact And.intro rfl (And.intro rfl rfl)
    · rw [bi_n] at h2
      repeat (refine hG.1 _ _ _ _ _ _ rfl ?_)
      refine And.intro rfl (cx (m_isExp S a j (by omega) (by omega)) rfl ?_)
      repeat (refine hG.1 _ _ _ _ _ _ rfl ?_)
      refine And.intro (fun h3 => ?_) (fun h3 => ?_)
      · repeat (refine hG.1 _ _ _ _ _ _ rfl ?_)
        refine And.intro (fun _ => ?_) (fun h => by first | exact absurd h (by decide) | exact False.elim (h (by decide)))
        repeat (refine hG.1 _ _ _ _ _ _ rfl ?_)
        refine And.intro (fun _ => ?_) (fun h => by first | exact absurd h (by decide) | exact False.elim (h (by decide)))
        repeat (refine hG.1 _ _ _ _ _ _ rfl ?_)
        refine And.intro rfl (cx (m_fails_t S (nI 2) (by decide)) rfl ?_)
        repeat (refine hG.1 _ _ _ _ _ _ rfl ?_)
        refine And.intro (fun h => by first | exact absurd h (by decide) | exact False.elim (h (by decide))) (fun _ => ?_)
        repeat (refine hG.1 _ _ _ _ _ _ rfl ?_)
        exact And.intro rfl (And.intro rfl rfl)
      · rw [bi_0] at h3
        exact absurd ⟨fun z => h1 (by rw [z]), h2, h3⟩ hc
theorem m_addExport (S : PS) (a j q n nb na : Nat) (rp sh : Int32) (ha8 : S.1 12 8 = nI na) (hna : na ≤ 8) (ha : a < na) (hj : j < n) (hM : MR (tExp S a j) n nb rp sh) (hA : ArOk S.2.1 n a q) (h20 : S.2.1 20 a = nI q) (hc : canM S.2.1 a j q) : Run 0 77 [.ref 12, .int (nI a), .int (nI j)] S (.inl (some (nI (cnt (inA S.2.1 a) n)))) (tExp S a j) := by
  have hn : S.1 12 0 = nI n := hM.1.1
  have hn16 := hM.1.2.2.1
  have hW : Wy S.2.1 n := hM.2.1
  have hq := hA.1
  refine run_of (by decide +kernel) rfl (fun L xs G hG => ?_)
  repeat (refine hG.1 _ _ _ _ _ _ rfl ?_)
  refine And.intro rfl (cx (m_isArea_t S _ na ha8 (by omega) ha) rfl ?_)
  repeat (refine hG.1 _ _ _ _ _ _ rfl ?_)
  refine And.intro (fun h => by first | exact absurd h (by decide) | exact False.elim (h (by decide))) (fun _ => ?_)
  repeat (refine hG.1 _ _ _ _ _ _ rfl ?_)
  refine And.intro rfl (cx (m_isNode_t S _ n hn hn16 hj) rfl ?_)
  repeat (refine hG.1 _ _ _ _ _ _ rfl ?_)
  refine And.intro (fun h => by first | exact absurd h (by decide) | exact False.elim (h (by decide))) (fun _ => ?_)
  repeat (refine hG.1 _ _ _ _ _ _ rfl ?_)
  refine And.intro (fun h => by first | exact absurd h (by decide) | exact False.elim (h (by decide))) (fun _ => ?_)
  repeat (refine hG.1 _ _ _ _ _ _ rfl ?_)
  refine And.intro (vp_in_nI ((show a < 8 by omega)) (by decide)) ?_; rw [nI_clamp (Nat.lt_trans ((show a < 8 by omega)) (by decide))]
  rw [h20]
  repeat (refine hG.1 _ _ _ _ _ _ rfl ?_)
  refine And.intro (fun h1 => ?_) (fun h1 => ?_)
  · exact absurd ((nI_eq (by omega) (by omega)).mp h1) hc.1
  · repeat (refine hG.1 _ _ _ _ _ _ rfl ?_)
    refine And.intro (vp_in_nI ((show a < 8 by omega)) (by decide)) ?_; rw [nI_clamp (Nat.lt_trans ((show a < 8 by omega)) (by decide))]
    rw [h20]
    repeat (refine hG.1 _ _ _ _ _ _ rfl ?_)
    refine And.intro rfl (cx (m_isBelow S j q n hW hn16 hj (by omega)) rfl ?_)
    rw [bi_t hc.2.1]
    repeat (refine hG.1 _ _ _ _ _ _ rfl ?_)
    refine And.intro (fun h => by first | exact absurd h (by decide) | exact False.elim (h (by decide))) (fun _ => ?_)
    repeat (refine hG.1 _ _ _ _ _ _ rfl ?_)
    refine And.intro rfl (cx (m_isExp S a j (by omega) (by omega)) rfl ?_)
    rw [bi_f hc.2.2]
    repeat (refine hG.1 _ _ _ _ _ _ rfl ?_)
    refine And.intro (fun h => by first | exact absurd h (by decide) | exact False.elim (h (by decide))) (fun _ => ?_)
    repeat (refine hG.1 _ _ _ _ _ _ rfl ?_)
    refine And.intro (fun _ => ?_) (fun h => by first | exact absurd h (by decide) | exact False.elim (h (by decide)))
    repeat (refine hG.1 _ _ _ _ _ _ rfl ?_)
    refine And.intro (fun h => by first | exact absurd h (by decide) | exact False.elim (h (by decide))) (fun _ => ?_)
    repeat (refine hG.1 _ _ _ _ _ _ rfl ?_)
    refine And.intro rfl (cx (m_fails_f S) rfl ?_)
    repeat (refine hG.1 _ _ _ _ _ _ rfl ?_)
    refine And.intro (fun _ => ?_) (fun h => by first | exact absurd h (by decide) | exact False.elim (h (by decide)))
    repeat (refine hG.1 _ _ _ _ _ _ rfl ?_)
    refine And.intro (vp_in_nI ((show a < 8 by omega)) (by decide)) ?_; rw [nI_clamp (Nat.lt_trans ((show a < 8 by omega)) (by decide))]
    repeat (refine hG.1 _ _ _ _ _ _ rfl ?_)
    refine And.intro (vp_in_nI ((show a < 8 by omega)) (by decide)) ?_; rw [nI_clamp (Nat.lt_trans ((show a < 8 by omega)) (by decide))]
    repeat (refine hG.1 _ _ _ _ _ _ rfl ?_)
    refine And.intro rfl (cx (m_many (tExp S a j) a q n nb rp sh hM (by omega) hA) rfl ?_)
    repeat (refine hG.1 _ _ _ _ _ _ rfl ?_)
    exact And.intro rfl (And.intro rfl rfl)
theorem m_area_0 (S : PS) {i : Nat} (x : Int32) (na : Nat) (ha : S.1 12 8 = nI na) (hna : na ≤ 8) (h : noN x (nI na)) : Run 0 78 [.ref 12, .int x] S (.inl (some (nI 0))) (sThr S (nI 1)) ∧ Run 0 82 [.ref 12, .int x] S (.inl (some (nI 0))) (sThr S (nI 1)) ∧ Run 0 83 [.ref 12, .int x] S (.inl (some (nI 0))) (sThr S (nI 1)) ∧ Run 0 85 [.ref 12, .int x] S (.inl (some (nI 0))) (sThr S (nI 1)) := by
  refine ⟨?_, ?_, ?_, ?_⟩
  · refine run_of (by decide +kernel) rfl (fun L xs G hG => ?_)
    repeat (refine hG.1 _ _ _ _ _ _ rfl ?_)
    refine And.intro rfl (cx (m_isArea_f S _ na ha (by omega) h) rfl ?_)
    repeat (refine hG.1 _ _ _ _ _ _ rfl ?_)
    refine And.intro (fun _ => ?_) (fun h => by first | exact absurd h (by decide) | exact False.elim (h (by decide)))
    repeat (refine hG.1 _ _ _ _ _ _ rfl ?_)
    refine And.intro rfl (cx (m_fails_t S (nI 1) (by decide)) rfl ?_)
    repeat (refine hG.1 _ _ _ _ _ _ rfl ?_)
    refine And.intro (fun h => by first | exact absurd h (by decide) | exact False.elim (h (by decide))) (fun _ => ?_)
    repeat (refine hG.1 _ _ _ _ _ _ rfl ?_)
    exact And.intro rfl (And.intro rfl rfl)
  · refine run_of (by decide +kernel) rfl (fun L xs G hG => ?_)
    repeat (refine hG.1 _ _ _ _ _ _ rfl ?_)
    refine And.intro rfl (cx (m_isArea_f S _ na ha (by omega) h) rfl ?_)
    repeat (refine hG.1 _ _ _ _ _ _ rfl ?_)
    refine And.intro (fun _ => ?_) (fun h => by first | exact absurd h (by decide) | exact False.elim (h (by decide)))
    repeat (refine hG.1 _ _ _ _ _ _ rfl ?_)
    refine And.intro rfl (cx (m_fails_t S (nI 1) (by decide)) rfl ?_)
    repeat (refine hG.1 _ _ _ _ _ _ rfl ?_)
    refine And.intro (fun h => by first | exact absurd h (by decide) | exact False.elim (h (by decide))) (fun _ => ?_)
    repeat (refine hG.1 _ _ _ _ _ _ rfl ?_)
    exact And.intro rfl (And.intro rfl rfl)
  · refine run_of (by decide +kernel) rfl (fun L xs G hG => ?_)
    repeat (refine hG.1 _ _ _ _ _ _ rfl ?_)
    refine And.intro rfl (cx (m_isArea_f S _ na ha (by omega) h) rfl ?_)
    repeat (refine hG.1 _ _ _ _ _ _ rfl ?_)
    refine And.intro (fun _ => ?_) (fun h => by first | exact absurd h (by decide) | exact False.elim (h (by decide)))
    repeat (refine hG.1 _ _ _ _ _ _ rfl ?_)
    refine And.intro rfl (cx (m_fails_t S (nI 1) (by decide)) rfl ?_)
    repeat (refine hG.1 _ _ _ _ _ _ rfl ?_)
    refine And.intro (fun h => by first | exact absurd h (by decide) | exact False.elim (h (by decide))) (fun _ => ?_)
    repeat (refine hG.1 _ _ _ _ _ _ rfl ?_)
    exact And.intro rfl (And.intro rfl rfl)
  · refine run_of (by decide +kernel) rfl (fun L xs G hG => ?_)
    repeat (refine hG.1 _ _ _ _ _ _ rfl ?_)
    refine And.intro rfl (cx (m_isArea_f S _ na ha (by omega) h) rfl ?_)
    repeat (refine hG.1 _ _ _ _ _ _ rfl ?_)
    refine And.intro (fun _ => ?_) (fun h => by first | exact absurd h (by decide) | exact False.elim (h (by decide)))
    repeat (refine hG.1 _ _ _ _ _ _ rfl ?_)
    refine And.intro rfl (cx (m_fails_t S (nI 1) (by decide)) rfl ?_)
    repeat (refine hG.1 _ _ _ _ _ _ rfl ?_)
    refine And.intro (fun h => by first | exact absurd h (by decide) | exact False.elim (h (by decide))) (fun _ => ?_)
    repeat (refine hG.1 _ _ _ _ _ _ rfl ?_)
    exact And.intro rfl (And.intro rfl rfl)
theorem m_nodes (S : PS) (a q n nb na : Nat) (rp sh : Int32) (hM : MR S n nb rp sh) (ha8 : S.1 12 8 = nI na) (hna : na ≤ 8) (ha : a < na) (hA : ArOk S.2.1 n a q) : Run 0 78 [.ref 12, .int (nI a)] S (.inl (some (stL (inA S.2.1 a) n))) (sThr S (nI 0)) := by
  obtain ⟨⟨h0, h1n, hn, -, -⟩, -⟩ := id hM
  refine run_of (by decide +kernel) rfl (fun L xs G hG => ?_)
  have main : ∀ k, k ≤ n → G 0 26 [(3, .int (nI k)), (2, .int (stL (inA S.2.1 a) k)), (0, .ref 12), (1, .int (nI a))] [] (sThr S (nI 0)) := by
    refine loop_up (fun k hk ih => ?_) ?_
    · repeat (refine hG.1 _ _ _ _ _ _ rfl ?_)
      rw [show (sThr S (nI 0)).1 12 0 = nI n from h0]
      refine And.intro (fun h => ?_) (fun h => ?_)
      · exact absurd h (nI_ge (by omega) (by omega))
      · repeat (refine hG.1 _ _ _ _ _ _ rfl ?_)
        refine And.intro rfl (cx (m_isWithin (sThr S (nI 0)) a k q n nb rp sh hM (by omega) hk hA) rfl ?_)
        repeat (refine hG.1 _ _ _ _ _ _ rfl ?_)
        refine And.intro (fun h1 => ?_) (fun h1 => ?_)
        · rw [bi_0] at h1
          have e : stL (inA S.2.1 a) (k + 1) = stL (inA S.2.1 a) k ||| nI 0 := by
            rw [stL_f h1, nI_0, Int32.or_zero]
          rw [e] at ih
          repeat (first | (refine wk hG ?_ (ih); (repeat (refine And.intro (by first | with_reducible rfl | with_reducible exact nI_add _ _ | with_reducible exact pk_m1 _ | rfl) ?_)); exact trivial) | refine hG.1 _ _ _ _ _ _ rfl ?_)
        · rw [bi_n] at h1
          rw [stL_t h1] at ih
          repeat (first | (refine wk hG ?_ (ih); (repeat (refine And.intro (by first | with_reducible rfl | with_reducible exact nI_add _ _ | with_reducible exact pk_m1 _ | rfl) ?_)); exact trivial) | refine hG.1 _ _ _ _ _ _ rfl ?_)
    · repeat (refine hG.1 _ _ _ _ _ _ rfl ?_)
      rw [show (sThr S (nI 0)).1 12 0 = nI n from h0]
      refine And.intro (fun h => ?_) (fun h => ?_)
      · repeat (refine hG.1 _ _ _ _ _ _ rfl ?_)
        exact And.intro rfl (And.intro rfl rfl)
      · exact absurd (nI_le (Nat.le_refl _) (by omega)) h
  repeat (refine hG.1 _ _ _ _ _ _ rfl ?_)
  refine And.intro rfl (cx (m_isArea_t S _ na ha8 (by omega) ha) rfl ?_)
  repeat (refine hG.1 _ _ _ _ _ _ rfl ?_)
  refine And.intro (fun h => by first | exact absurd h (by decide) | exact False.elim (h (by decide))) (fun _ => ?_)
  repeat (refine hG.1 _ _ _ _ _ _ rfl ?_)
  refine And.intro rfl (cx (m_fails_f S) rfl ?_)
  repeat (refine hG.1 _ _ _ _ _ _ rfl ?_)
  refine And.intro (fun _ => ?_) (fun h => by first | exact absurd h (by decide) | exact False.elim (h (by decide)))
  have h0 := main 0 (Nat.zero_le _); simp only [stL] at h0; repeat (first | (refine wk hG ?_ (h0); (repeat (refine And.intro (by first | with_reducible rfl | with_reducible exact nI_add _ _ | with_reducible exact pk_m1 _ | rfl) ?_)); exact trivial) | refine hG.1 _ _ _ _ _ _ rfl ?_)
theorem m_areaTakes (S : PS) (a q n nb na : Nat) (rp sh : Int32) (hM : MR S n nb rp sh) (ha8 : S.1 12 8 = nI na) (hna : na ≤ 8) (ha : a < na) (hA : ArOk S.2.1 n a q) : Run 0 82 [.ref 12, .int (nI a)] S (.inl (some (smL (inA S.2.1 a) (tknX S.2.1 nb rp sh) n))) (sThr S (nI 0)) := by
  refine run_of (by decide +kernel) rfl (fun L xs G hG => ?_)
  repeat (refine hG.1 _ _ _ _ _ _ rfl ?_)
  refine And.intro rfl (cx (m_isArea_t S _ na ha8 (by omega) ha) rfl ?_)
  repeat (refine hG.1 _ _ _ _ _ _ rfl ?_)
  refine And.intro (fun h => by first | exact absurd h (by decide) | exact False.elim (h (by decide))) (fun _ => ?_)
  repeat (refine hG.1 _ _ _ _ _ _ rfl ?_)
  refine And.intro rfl (cx (m_fails_f S) rfl ?_)
  repeat (refine hG.1 _ _ _ _ _ _ rfl ?_)
  refine And.intro (fun _ => ?_) (fun h => by first | exact absurd h (by decide) | exact False.elim (h (by decide)))
  repeat (refine hG.1 _ _ _ _ _ _ rfl ?_)
  refine And.intro rfl (cx (m_takenBy (sThr S (nI 0)) a q n nb rp sh hM (by omega) hA) rfl ?_)
  repeat (refine hG.1 _ _ _ _ _ _ rfl ?_)
  exact And.intro rfl (And.intro rfl rfl)
theorem m_loss (S : PS) (a q n nb na : Nat) (rp sh : Int32) (hM : MR S n nb rp sh) (ha8 : S.1 12 8 = nI na) (hna : na ≤ 8) (ha : a < na) (hA : ArOk S.2.1 n a q) : Run 0 83 [.ref 12, .int (nI a)] S (.inl (some (smL (fun k => inA S.2.1 a k && decide (S.2.1 1 k &&& sh = 0)) (lkgX S.2.1 nb rp) n))) (sThr S (nI 0)) := by
  obtain ⟨⟨h0, h1n, hn, -, -⟩, hW, -, -, ⟨hsh, hs0⟩, -⟩ := id hM
  refine run_of (by decide +kernel) rfl (fun L xs G hG => ?_)
  have main : ∀ k, k ≤ n → G 0 26 [(3, .int (nI k)), (2, .int (smL (fun k => inA S.2.1 a k && decide (S.2.1 1 k &&& sh = 0)) (lkgX S.2.1 nb rp) k)), (0, .ref 12), (1, .int (nI a))] [] (sThr S (nI 0)) := by
    refine loop_up (fun k hk ih => ?_) ?_
    · have hno : ¬ (inA S.2.1 a k = true ∧ S.2.1 1 k &&& sh = 0) → smL (fun k => inA S.2.1 a k && decide (S.2.1 1 k &&& sh = 0)) (lkgX S.2.1 nb rp) (k + 1) = smL (fun k => inA S.2.1 a k && decide (S.2.1 1 k &&& sh = 0)) (lkgX S.2.1 nb rp) k + nI 0 := by
        intro z
        rw [smL_f (fun w => z (by rw [Bool.and_eq_true, decide_eq_true_eq] at w; exact w)), nI_0, Int32.add_zero]
      repeat (refine hG.1 _ _ _ _ _ _ rfl ?_)
      rw [show (sThr S (nI 0)).1 12 0 = nI n from h0]
      refine And.intro (fun h => ?_) (fun h => ?_)
      · exact absurd h (nI_ge (by omega) (by omega))
      · repeat (refine hG.1 _ _ _ _ _ _ rfl ?_)
        refine And.intro rfl (cx (m_isWithin (sThr S (nI 0)) a k q n nb rp sh hM (by omega) hk hA) rfl ?_)
        repeat (refine hG.1 _ _ _ _ _ _ rfl ?_)
        refine And.intro (fun h1 => ?_) (fun h1 => ?_)
        · rw [bi_0] at h1
          rw [hno (fun z => h1 z.1)] at ih
          repeat (first | (refine wk hG ?_ (ih); (repeat (refine And.intro (by first | with_reducible rfl | with_reducible exact nI_add _ _ | with_reducible exact pk_m1 _ | rfl) ?_)); exact trivial) | refine hG.1 _ _ _ _ _ _ rfl ?_)
        · rw [bi_n] at h1
          repeat (refine hG.1 _ _ _ _ _ _ rfl ?_)
          refine And.intro rfl (cx (m_supplied (sThr S (nI 0)) k n sh hW hn hk hsh hs0) rfl ?_)
          repeat (refine hG.1 _ _ _ _ _ _ rfl ?_)
          refine And.intro (fun h2 => ?_) (fun h2 => ?_)
          · rw [bi_0] at h2
            rw [hno (fun z => h2 z.2)] at ih
            repeat (first | (refine wk hG ?_ (ih); (repeat (refine And.intro (by first | with_reducible rfl | with_reducible exact nI_add _ _ | with_reducible exact pk_m1 _ | rfl) ?_)); exact trivial) | refine hG.1 _ _ _ _ _ _ rfl ?_)
          · rw [bi_n] at h2
            repeat (refine hG.1 _ _ _ _ _ _ rfl ?_)
            refine And.intro rfl (cx (m_leaks (sThr S (nI 0)) k n nb rp sh hM hk) rfl ?_)
            rw [smL_t (by rw [Bool.and_eq_true, decide_eq_true_eq]; exact ⟨h1, h2⟩)] at ih
            repeat (first | (refine wk hG ?_ (ih); (repeat (refine And.intro (by first | with_reducible rfl | with_reducible exact nI_add _ _ | with_reducible exact pk_m1 _ | rfl) ?_)); exact trivial) | refine hG.1 _ _ _ _ _ _ rfl ?_)
    · repeat (refine hG.1 _ _ _ _ _ _ rfl ?_)
      rw [show (sThr S (nI 0)).1 12 0 = nI n from h0]
      refine And.intro (fun h => ?_) (fun h => ?_)
      · repeat (refine hG.1 _ _ _ _ _ _ rfl ?_)
        exact And.intro rfl (And.intro rfl rfl)
      · exact absurd (nI_le (Nat.le_refl _) (by omega)) h
  repeat (refine hG.1 _ _ _ _ _ _ rfl ?_)
  refine And.intro rfl (cx (m_isArea_t S _ na ha8 (by omega) ha) rfl ?_)
  repeat (refine hG.1 _ _ _ _ _ _ rfl ?_)
  refine And.intro (fun h => by first | exact absurd h (by decide) | exact False.elim (h (by decide))) (fun _ => ?_)
  repeat (refine hG.1 _ _ _ _ _ _ rfl ?_)
  refine And.intro rfl (cx (m_fails_f S) rfl ?_)
  repeat (refine hG.1 _ _ _ _ _ _ rfl ?_)
  refine And.intro (fun _ => ?_) (fun h => by first | exact absurd h (by decide) | exact False.elim (h (by decide)))
  have h0 := main 0 (Nat.zero_le _); simp only [smL] at h0; repeat (first | (refine wk hG ?_ (h0); (repeat (refine And.intro (by first | with_reducible rfl | with_reducible exact nI_add _ _ | with_reducible exact pk_m1 _ | rfl) ?_)); exact trivial) | refine hG.1 _ _ _ _ _ _ rfl ?_)
theorem m_stepPipe_na (S : PS) (x y : Int32) (na : Nat) (ha : S.1 12 8 = nI na) (hna : na ≤ 8) (h : noN x (nI na)) : Run 0 87 [.ref 12, .int x, .int y] S (.inl (some (nI 0))) (sThr S (nI 1)) ∧ Run 0 88 [.ref 12, .int x, .int y] S (.inl (some (nI 0))) (sThr S (nI 1)) := by
  refine ⟨?_, ?_⟩
  · refine run_of (by decide +kernel) rfl (fun L xs G hG => ?_)
    repeat (refine hG.1 _ _ _ _ _ _ rfl ?_)
    refine And.intro rfl (cx (m_isStep_na S _ _ na ha hna h) rfl ?_)
    repeat (refine hG.1 _ _ _ _ _ _ rfl ?_)
    refine And.intro (fun _ => ?_) (fun h => by first | exact absurd h (by decide) | exact False.elim (h (by decide)))
    repeat (refine hG.1 _ _ _ _ _ _ rfl ?_)
    refine And.intro rfl (cx (m_fails_t S (nI 1) (by decide)) rfl ?_)
    repeat (refine hG.1 _ _ _ _ _ _ rfl ?_)
    refine And.intro (fun h => by first | exact absurd h (by decide) | exact False.elim (h (by decide))) (fun _ => ?_)
    repeat (refine hG.1 _ _ _ _ _ _ rfl ?_)
    exact And.intro rfl (And.intro rfl rfl)
  · refine run_of (by decide +kernel) rfl (fun L xs G hG => ?_)
    repeat (refine hG.1 _ _ _ _ _ _ rfl ?_)
    refine And.intro rfl (cx (m_isStep_na S _ _ na ha hna h) rfl ?_)
    repeat (refine hG.1 _ _ _ _ _ _ rfl ?_)
    refine And.intro (fun _ => ?_) (fun h => by first | exact absurd h (by decide) | exact False.elim (h (by decide)))
    repeat (refine hG.1 _ _ _ _ _ _ rfl ?_)
    refine And.intro rfl (cx (m_fails_t S (nI 1) (by decide)) rfl ?_)
    repeat (refine hG.1 _ _ _ _ _ _ rfl ?_)
    refine And.intro (fun h => by first | exact absurd h (by decide) | exact False.elim (h (by decide))) (fun _ => ?_)
    repeat (refine hG.1 _ _ _ _ _ _ rfl ?_)
    exact And.intro rfl (And.intro rfl rfl)
theorem m_stepPipe_1 (S : PS) (a q n nb na : Nat) (rp sh y : Int32) (hM : MR S n nb rp sh) (ha8 : S.1 12 8 = nI na) (hna : na ≤ 8) (ha : a < na) (hA : ArOk S.2.1 n a q) (h : pkX S.2.1 sh n a y = none) : Run 0 87 [.ref 12, .int (nI a), .int y] S (.inl (some (nI 0))) (sThr S (nI 1)) ∧ Run 0 88 [.ref 12, .int (nI a), .int y] S (.inl (some (nI 0))) (sThr S (nI 1)) := by
  have g := m_isStep S a q n nb na rp sh y hM ha8 hna ha hA
  rw [bi_f (by rw [h]; decide)] at g
  refine ⟨?_, ?_⟩
  · refine run_of (by decide +kernel) rfl (fun L xs G hG => ?_)
    repeat (refine hG.1 _ _ _ _ _ _ rfl ?_)
    refine And.intro rfl (cx (g) rfl ?_)
    repeat (refine hG.1 _ _ _ _ _ _ rfl ?_)
    refine And.intro (fun _ => ?_) (fun h => by first | exact absurd h (by decide) | exact False.elim (h (by decide)))
    repeat (refine hG.1 _ _ _ _ _ _ rfl ?_)
    refine And.intro rfl (cx (m_fails_t S (nI 1) (by decide)) rfl ?_)
    repeat (refine hG.1 _ _ _ _ _ _ rfl ?_)
    refine And.intro (fun h => by first | exact absurd h (by decide) | exact False.elim (h (by decide))) (fun _ => ?_)
    repeat (refine hG.1 _ _ _ _ _ _ rfl ?_)
    exact And.intro rfl (And.intro rfl rfl)
  · refine run_of (by decide +kernel) rfl (fun L xs G hG => ?_)
    repeat (refine hG.1 _ _ _ _ _ _ rfl ?_)
    refine And.intro rfl (cx (g) rfl ?_)
    repeat (refine hG.1 _ _ _ _ _ _ rfl ?_)
    refine And.intro (fun _ => ?_) (fun h => by first | exact absurd h (by decide) | exact False.elim (h (by decide)))
    repeat (refine hG.1 _ _ _ _ _ _ rfl ?_)
    refine And.intro rfl (cx (m_fails_t S (nI 1) (by decide)) rfl ?_)
    repeat (refine hG.1 _ _ _ _ _ _ rfl ?_)
    refine And.intro (fun h => by first | exact absurd h (by decide) | exact False.elim (h (by decide))) (fun _ => ?_)
    repeat (refine hG.1 _ _ _ _ _ _ rfl ?_)
    exact And.intro rfl (And.intro rfl rfl)
theorem m_stepPipe (S : PS) (a q n nb na k : Nat) (rp sh y : Int32) (hM : MR S n nb rp sh) (ha8 : S.1 12 8 = nI na) (hna : na ≤ 8) (ha : a < na) (hA : ArOk S.2.1 n a q) (h : pkX S.2.1 sh n a y = some k) : Run 0 87 [.ref 12, .int (nI a), .int y] S (.inl (some (nI k))) (sThr S (nI 0)) := by
  have g := m_isStep S a q n nb na rp sh y hM ha8 hna ha hA
  rw [bi_t (by rw [h]; rfl)] at g
  have g2 := m_pipe (sThr S (nI 0)) a q n nb rp sh y hM (by omega) hA
  rw [show pkX (sThr S (nI 0)).2.1 sh n a y = some k from h] at g2
  refine run_of (by decide +kernel) rfl (fun L xs G hG => ?_)
  repeat (refine hG.1 _ _ _ _ _ _ rfl ?_)
  refine And.intro rfl (cx (g) rfl ?_)
  repeat (refine hG.1 _ _ _ _ _ _ rfl ?_)
  refine And.intro (fun h => by first | exact absurd h (by decide) | exact False.elim (h (by decide))) (fun _ => ?_)
  repeat (refine hG.1 _ _ _ _ _ _ rfl ?_)
  refine And.intro rfl (cx (m_fails_f S) rfl ?_)
  repeat (refine hG.1 _ _ _ _ _ _ rfl ?_)
  refine And.intro (fun _ => ?_) (fun h => by first | exact absurd h (by decide) | exact False.elim (h (by decide)))
  repeat (refine hG.1 _ _ _ _ _ _ rfl ?_)
  refine And.intro rfl (cx (g2) rfl ?_)
  repeat (refine hG.1 _ _ _ _ _ _ rfl ?_)
  exact And.intro rfl (And.intro rfl rfl)
theorem m_burst_0a (S : PS) (x y z : Int32) (h : noR y (nI 1) (nI 10000)) : Run 0 89 [.ref 12, .int x, .int y, .int z] S (.inl (some (nI 0))) (sThr S (nI 1)) := by
  refine run_of (by decide +kernel) rfl (fun L xs G hG => ?_)
  repeat (refine hG.1 _ _ _ _ _ _ rfl ?_)
  refine cx (m_isIn_f S h) rfl ?_
  repeat (refine hG.1 _ _ _ _ _ _ rfl ?_)
  refine And.intro (fun _ => ?_) (fun h => by first | exact absurd h (by decide) | exact False.elim (h (by decide)))
  repeat (refine hG.1 _ _ _ _ _ _ rfl ?_)
  refine And.intro (fun h => by first | exact absurd h (by decide) | exact False.elim (h (by decide))) (fun _ => ?_)
  repeat (refine hG.1 _ _ _ _ _ _ rfl ?_)
  refine And.intro rfl (cx (m_fails_t S (nI 1) (by decide)) rfl ?_)
  repeat (refine hG.1 _ _ _ _ _ _ rfl ?_)
  refine And.intro (fun h => by first | exact absurd h (by decide) | exact False.elim (h (by decide))) (fun _ => ?_)
  repeat (refine hG.1 _ _ _ _ _ _ rfl ?_)
  exact And.intro rfl (And.intro rfl rfl)
theorem m_burst_0b (S : PS) (x y z : Int32) (h : okR y (nI 1) (nI 10000)) (h2 : noR z (nI 1) (nI 100)) : Run 0 89 [.ref 12, .int x, .int y, .int z] S (.inl (some (nI 0))) (sThr S (nI 1)) := by
  refine run_of (by decide +kernel) rfl (fun L xs G hG => ?_)
  repeat (refine hG.1 _ _ _ _ _ _ rfl ?_)
  refine cx (m_isIn_t S h) rfl ?_
  repeat (refine hG.1 _ _ _ _ _ _ rfl ?_)
  refine And.intro (fun h => by first | exact absurd h (by decide) | exact False.elim (h (by decide))) (fun _ => ?_)
  repeat (refine hG.1 _ _ _ _ _ _ rfl ?_)
  refine cx (m_isIn_f S h2) rfl ?_
  repeat (refine hG.1 _ _ _ _ _ _ rfl ?_)
  refine And.intro (fun _ => ?_) (fun h => by first | exact absurd h (by decide) | exact False.elim (h (by decide)))
  repeat (refine hG.1 _ _ _ _ _ _ rfl ?_)
  refine And.intro (fun h => by first | exact absurd h (by decide) | exact False.elim (h (by decide))) (fun _ => ?_)
  repeat (refine hG.1 _ _ _ _ _ _ rfl ?_)
  refine And.intro rfl (cx (m_fails_t S (nI 1) (by decide)) rfl ?_)
  repeat (refine hG.1 _ _ _ _ _ _ rfl ?_)
  refine And.intro (fun h => by first | exact absurd h (by decide) | exact False.elim (h (by decide))) (fun _ => ?_)
  repeat (refine hG.1 _ _ _ _ _ _ rfl ?_)
  exact And.intro rfl (And.intro rfl rfl)
theorem m_burst_1 (S : PS) (x y z : Int32) (n : Nat) (h : okR y (nI 1) (nI 10000)) (h2 : okR z (nI 1) (nI 100)) (hn : S.1 12 0 = nI n) (hn16 : n ≤ 16) (h1n : 1 ≤ n) (h1 : noN x (nI n)) : Run 0 89 [.ref 12, .int x, .int y, .int z] S (.inl (some (nI 0))) (sThr S (nI 2)) := by
  refine run_of (by decide +kernel) rfl (fun L xs G hG => ?_)
  repeat (refine hG.1 _ _ _ _ _ _ rfl ?_)
  refine cx (m_isIn_t S h) rfl ?_
  repeat (refine hG.1 _ _ _ _ _ _ rfl ?_)
  refine And.intro (fun h => by first | exact absurd h (by decide) | exact False.elim (h (by decide))) (fun _ => ?_)
  repeat (refine hG.1 _ _ _ _ _ _ rfl ?_)
  refine cx (m_isIn_t S h2) rfl ?_
  repeat (refine hG.1 _ _ _ _ _ _ rfl ?_)
  refine And.intro (fun h => by first | exact absurd h (by decide) | exact False.elim (h (by decide))) (fun _ => ?_)
  repeat (refine hG.1 _ _ _ _ _ _ rfl ?_)
  refine And.intro (fun _ => ?_) (fun h => by first | exact absurd h (by decide) | exact False.elim (h (by decide)))
  repeat (refine hG.1 _ _ _ _ _ _ rfl ?_)
  refine And.intro rfl (cx (m_isNode_f S _ n hn hn16 h1n h1) rfl ?_)
  repeat (refine hG.1 _ _ _ _ _ _ rfl ?_)
  refine And.intro (fun h => by first | exact absurd h (by decide) | exact False.elim (h (by decide))) (fun _ => ?_)
  repeat (refine hG.1 _ _ _ _ _ _ rfl ?_)
  refine And.intro rfl (cx (m_fails_t S (nI 2) (by decide)) rfl ?_)
  repeat (refine hG.1 _ _ _ _ _ _ rfl ?_)
  refine And.intro (fun h => by first | exact absurd h (by decide) | exact False.elim (h (by decide))) (fun _ => ?_)
  repeat (refine hG.1 _ _ _ _ _ _ rfl ?_)
  exact And.intro rfl (And.intro rfl rfl)
theorem m_burst_2 (S : PS) (j n : Nat) (y z : Int32) (h : okR y (nI 1) (nI 10000)) (h2 : okR z (nI 1) (nI 100)) (hn : S.1 12 0 = nI n) (hn16 : n ≤ 16) (hj : j < n) (hb : S.1 12 11 = nI 20) : Run 0 89 [.ref 12, .int (nI j), .int y, .int z] S (.inl (some (nI 0))) (sThr S (nI 3)) := by
  refine run_of (by decide +kernel) rfl (fun L xs G hG => ?_)
  repeat (refine hG.1 _ _ _ _ _ _ rfl ?_)
  refine cx (m_isIn_t S h) rfl ?_
  repeat (refine hG.1 _ _ _ _ _ _ rfl ?_)
  refine And.intro (fun h => by first | exact absurd h (by decide) | exact False.elim (h (by decide))) (fun _ => ?_)
  repeat (refine hG.1 _ _ _ _ _ _ rfl ?_)
  refine cx (m_isIn_t S h2) rfl ?_
  repeat (refine hG.1 _ _ _ _ _ _ rfl ?_)
  refine And.intro (fun h => by first | exact absurd h (by decide) | exact False.elim (h (by decide))) (fun _ => ?_)
  repeat (refine hG.1 _ _ _ _ _ _ rfl ?_)
  refine And.intro (fun _ => ?_) (fun h => by first | exact absurd h (by decide) | exact False.elim (h (by decide)))
  repeat (refine hG.1 _ _ _ _ _ _ rfl ?_)
  refine And.intro rfl (cx (m_isNode_t S j n hn hn16 hj) rfl ?_)
  repeat (refine hG.1 _ _ _ _ _ _ rfl ?_)
  refine And.intro (fun _ => ?_) (fun h => by first | exact absurd h (by decide) | exact False.elim (h (by decide)))
  repeat (refine hG.1 _ _ _ _ _ _ rfl ?_)
  rw [hb]
  refine And.intro (fun h => by first | exact absurd h (by decide) | exact False.elim (h (by decide))) (fun _ => ?_)
  repeat (refine hG.1 _ _ _ _ _ _ rfl ?_)
  refine And.intro rfl (cx (m_fails_t S (nI 3) (by decide)) rfl ?_)
  repeat (refine hG.1 _ _ _ _ _ _ rfl ?_)
  refine And.intro (fun h => by first | exact absurd h (by decide) | exact False.elim (h (by decide))) (fun _ => ?_)
  repeat (refine hG.1 _ _ _ _ _ _ rfl ?_)
  exact And.intro rfl (And.intro rfl rfl)
abbrev tBurst (S : PS) (nb j : Nat) (y z : Int32) : PS := (va_up (sThr S (nI 0)).1 12 (upd ((sThr S (nI 0)).1 12) 11 (nI (nb + 1))), va_up (va_up (va_up S.2.1 22 (upd (S.2.1 22) nb (nI j))) 23 (upd (S.2.1 23) nb y)) 24 (upd (S.2.1 24) nb z), S.2.2)
theorem m_burst (S : PS) (j n nb : Nat) (y z : Int32) (h : okR y (nI 1) (nI 10000)) (h2 : okR z (nI 1) (nI 100)) (hn : S.1 12 0 = nI n) (hn16 : n ≤ 16) (hj : j < n) (hb : S.1 12 11 = nI nb) (hnb : nb < 20) : Run 0 89 [.ref 12, .int (nI j), .int y, .int z] S (.inl (some (nI nb))) (tBurst S nb j y z) := by
  refine run_of (by decide +kernel) rfl (fun L xs G hG => ?_)
  repeat (refine hG.1 _ _ _ _ _ _ rfl ?_)
  refine cx (m_isIn_t S h) rfl ?_
  repeat (refine hG.1 _ _ _ _ _ _ rfl ?_)
  refine And.intro (fun h => by first | exact absurd h (by decide) | exact False.elim (h (by decide))) (fun _ => ?_)
  repeat (refine hG.1 _ _ _ _ _ _ rfl ?_)
  refine cx (m_isIn_t S h2) rfl ?_
  repeat (refine hG.1 _ _ _ _ _ _ rfl ?_)
  refine And.intro (fun h => by first | exact absurd h (by decide) | exact False.elim (h (by decide))) (fun _ => ?_)
  repeat (refine hG.1 _ _ _ _ _ _ rfl ?_)
  refine And.intro (fun _ => ?_) (fun h => by first | exact absurd h (by decide) | exact False.elim (h (by decide)))
  repeat (refine hG.1 _ _ _ _ _ _ rfl ?_)
  refine And.intro rfl (cx (m_isNode_t S j n hn hn16 hj) rfl ?_)
  repeat (refine hG.1 _ _ _ _ _ _ rfl ?_)
  refine And.intro (fun _ => ?_) (fun h => by first | exact absurd h (by decide) | exact False.elim (h (by decide)))
  repeat (refine hG.1 _ _ _ _ _ _ rfl ?_)
  rw [hb]
  refine And.intro (fun h3 => ?_) (fun h3 => ?_)
  · repeat (refine hG.1 _ _ _ _ _ _ rfl ?_)
    refine And.intro rfl (cx (m_fails_f S) rfl ?_)
    repeat (refine hG.1 _ _ _ _ _ _ rfl ?_)
    refine And.intro (fun _ => ?_) (fun h => by first | exact absurd h (by decide) | exact False.elim (h (by decide)))
    repeat (refine hG.1 _ _ _ _ _ _ rfl ?_)
    rw [show (sThr S (nI 0)).1 12 11 = nI nb from hb]
    refine And.intro (vp_in_nI (hnb) (by decide)) ?_; rw [nI_clamp (Nat.lt_trans (hnb) (by decide))]
    repeat (refine hG.1 _ _ _ _ _ _ rfl ?_)
    rw [show (sThr S (nI 0)).1 12 11 = nI nb from hb]
    refine And.intro (vp_in_nI (hnb) (by decide)) ?_; rw [nI_clamp (Nat.lt_trans (hnb) (by decide))]
    repeat (refine hG.1 _ _ _ _ _ _ rfl ?_)
    rw [show (sThr S (nI 0)).1 12 11 = nI nb from hb]
    refine And.intro (vp_in_nI (hnb) (by decide)) ?_; rw [nI_clamp (Nat.lt_trans (hnb) (by decide))]
    repeat (refine hG.1 _ _ _ _ _ _ rfl ?_)
    rw [show (sThr S (nI 0)).1 12 11 = nI nb from hb, nI_add]
    repeat (refine hG.1 _ _ _ _ _ _ rfl ?_)
    refine And.intro rfl (And.intro ?_ rfl)
    show Sum.inl (some (nI (nb + 1) - nI 1)) = _
    rw [pk_sub (by omega)]
    rfl
  · have h4 : nI nb = nI 20 := h3
    have := (nI_eq (by omega) (by omega)).mp h4
    omega
theorem m_repair_0 (S : PS) (x : Int32) (nb : Nat) (hb : S.1 12 11 = nI nb) (hnb : nb ≤ 20) (h1 : noN x (nI nb)) : Run 0 92 [.ref 12, .int x] S (.inl (some (nI 0))) (sThr S (nI 1)) ∧ Run 0 93 [.ref 12, .int x] S (.inl (some (nI 0))) (sThr S (nI 1)) := by
  refine ⟨?_, ?_⟩
  · refine run_of (by decide +kernel) rfl (fun L xs G hG => ?_)
    repeat (refine hG.1 _ _ _ _ _ _ rfl ?_)
    refine And.intro rfl (cx (m_isBurst_f S _ nb hb hnb h1) rfl ?_)
    repeat (refine hG.1 _ _ _ _ _ _ rfl ?_)
    refine And.intro (fun h => by first | exact absurd h (by decide) | exact False.elim (h (by decide))) (fun _ => ?_)
    repeat (refine hG.1 _ _ _ _ _ _ rfl ?_)
    refine And.intro rfl (cx (m_fails_t S (nI 1) (by decide)) rfl ?_)
    repeat (refine hG.1 _ _ _ _ _ _ rfl ?_)
    refine And.intro (fun h => by first | exact absurd h (by decide) | exact False.elim (h (by decide))) (fun _ => ?_)
    repeat (refine hG.1 _ _ _ _ _ _ rfl ?_)
    exact And.intro rfl (And.intro rfl rfl)
  · refine run_of (by decide +kernel) rfl (fun L xs G hG => ?_)
    repeat (refine hG.1 _ _ _ _ _ _ rfl ?_)
    refine And.intro rfl (cx (m_isBurst_f S _ nb hb hnb h1) rfl ?_)
    repeat (refine hG.1 _ _ _ _ _ _ rfl ?_)
    refine And.intro (fun _ => ?_) (fun h => by first | exact absurd h (by decide) | exact False.elim (h (by decide)))
    repeat (refine hG.1 _ _ _ _ _ _ rfl ?_)
    refine And.intro rfl (cx (m_fails_t S (nI 1) (by decide)) rfl ?_)
    repeat (refine hG.1 _ _ _ _ _ _ rfl ?_)
    refine And.intro (fun h => by first | exact absurd h (by decide) | exact False.elim (h (by decide))) (fun _ => ?_)
    repeat (refine hG.1 _ _ _ _ _ _ rfl ?_)
    exact And.intro rfl (And.intro rfl rfl)
theorem m_repair_1 (S : PS) (b nb : Nat) (hb0 : S.1 12 11 = nI nb) (hnb : nb ≤ 20) (hb : b < nb) (hr : S.2.1 25 b = nI 1) : Run 0 92 [.ref 12, .int (nI b)] S (.inl (some (nI 0))) (sThr S (nI 2)) := by
  refine run_of (by decide +kernel) rfl (fun L xs G hG => ?_)
  repeat (refine hG.1 _ _ _ _ _ _ rfl ?_)
  refine And.intro rfl (cx (m_isBurst_t S b nb hb0 hnb hb) rfl ?_)
  repeat (refine hG.1 _ _ _ _ _ _ rfl ?_)
  refine And.intro (fun _ => ?_) (fun h => by first | exact absurd h (by decide) | exact False.elim (h (by decide)))
  repeat (refine hG.1 _ _ _ _ _ _ rfl ?_)
  refine And.intro (vp_in_nI ((show b < 20 by omega)) (by decide)) ?_; rw [nI_clamp (Nat.lt_trans ((show b < 20 by omega)) (by decide))]
  rw [hr]
  repeat (refine hG.1 _ _ _ _ _ _ rfl ?_)
  refine And.intro (fun h => by first | exact absurd h (by decide) | exact False.elim (h (by decide))) (fun _ => ?_)
  repeat (refine hG.1 _ _ _ _ _ _ rfl ?_)
  refine And.intro rfl (cx (m_fails_t S (nI 2) (by decide)) rfl ?_)
  repeat (refine hG.1 _ _ _ _ _ _ rfl ?_)
  refine And.intro (fun h => by first | exact absurd h (by decide) | exact False.elim (h (by decide))) (fun _ => ?_)
  repeat (refine hG.1 _ _ _ _ _ _ rfl ?_)
  exact And.intro rfl (And.intro rfl rfl)
abbrev tRep (S : PS) (b : Nat) : PS := ((sThr S (nI 0)).1, va_up S.2.1 25 (upd (S.2.1 25) b (nI 1)), S.2.2)
theorem m_repair (S : PS) (b q n nb : Nat) (rp sh : Int32) (hM : MR S n nb rp sh) (hb : b < nb) (hq : q < n) (hbq : S.2.1 7 b = nI q) (hr : ¬ hs rp b) : Run 0 92 [.ref 12, .int (nI b)] S (.inl (some (csX S.2.1 nb rp sh b))) (tRep S b) := by
  obtain ⟨⟨h0, h1n, hn, hb0, hnb⟩, hW, -, -, -, hrp⟩ := id hM
  refine run_of (by decide +kernel) rfl (fun L xs G hG => ?_)
  repeat (refine hG.1 _ _ _ _ _ _ rfl ?_)
  refine And.intro rfl (cx (m_isBurst_t S b nb hb0 hnb hb) rfl ?_)
  repeat (refine hG.1 _ _ _ _ _ _ rfl ?_)
  refine And.intro (fun _ => ?_) (fun h => by first | exact absurd h (by decide) | exact False.elim (h (by decide)))
  repeat (refine hG.1 _ _ _ _ _ _ rfl ?_)
  refine And.intro (vp_in_nI ((show b < 20 by omega)) (by decide)) ?_; rw [nI_clamp (Nat.lt_trans ((show b < 20 by omega)) (by decide))]
  rw [hrp b (by omega), bi_f hr]
  repeat (refine hG.1 _ _ _ _ _ _ rfl ?_)
  refine And.intro (fun _ => ?_) (fun h => by first | exact absurd h (by decide) | exact False.elim (h (by decide)))
  repeat (refine hG.1 _ _ _ _ _ _ rfl ?_)
  refine And.intro rfl (cx (m_fails_f S) rfl ?_)
  repeat (refine hG.1 _ _ _ _ _ _ rfl ?_)
  refine And.intro (fun _ => ?_) (fun h => by first | exact absurd h (by decide) | exact False.elim (h (by decide)))
  repeat (refine hG.1 _ _ _ _ _ _ rfl ?_)
  refine And.intro rfl (cx (m_costs (sThr S (nI 0)) b q n nb rp sh hM hb hq hbq) rfl ?_)
  repeat (refine hG.1 _ _ _ _ _ _ rfl ?_)
  refine And.intro (vp_in_nI ((show b < 20 by omega)) (by decide)) ?_; rw [nI_clamp (Nat.lt_trans ((show b < 20 by omega)) (by decide))]
  rw [nar_b1]
  repeat (refine hG.1 _ _ _ _ _ _ rfl ?_)
  exact And.intro rfl (And.intro rfl rfl)
theorem m_cost (S : PS) (b q n nb : Nat) (rp sh : Int32) (hM : MR S n nb rp sh) (hb : b < nb) (hq : q < n) (hbq : S.2.1 7 b = nI q) : Run 0 93 [.ref 12, .int (nI b)] S (.inl (some (csX S.2.1 nb rp sh b))) (sThr S (nI 0)) := by
  refine run_of (by decide +kernel) rfl (fun L xs G hG => ?_)
  repeat (refine hG.1 _ _ _ _ _ _ rfl ?_)
  refine And.intro rfl (cx (m_isBurst_t S b nb hM.1.2.2.2.1 hM.1.2.2.2.2 hb) rfl ?_)
  repeat (refine hG.1 _ _ _ _ _ _ rfl ?_)
  refine And.intro (fun h => by first | exact absurd h (by decide) | exact False.elim (h (by decide))) (fun _ => ?_)
  repeat (refine hG.1 _ _ _ _ _ _ rfl ?_)
  refine And.intro rfl (cx (m_fails_f S) rfl ?_)
  repeat (refine hG.1 _ _ _ _ _ _ rfl ?_)
  refine And.intro (fun _ => ?_) (fun h => by first | exact absurd h (by decide) | exact False.elim (h (by decide)))
  repeat (refine hG.1 _ _ _ _ _ _ rfl ?_)
  refine And.intro rfl (cx (m_costs (sThr S (nI 0)) b q n nb rp sh hM hb hq hbq) rfl ?_)
  repeat (refine hG.1 _ _ _ _ _ _ rfl ?_)
  exact And.intro rfl (And.intro rfl rfl)
end
section
theorem m_areaFlow_0 (S : PS) (x : Int32) (n na : Nat) (hn : S.1 12 0 = nI n) (ha : S.1 12 8 = nI na) (hna : na ≤ 8) (h : noN x (nI na)) : Run 0 80 [.ref 12, .int x] S (.inl (some (nI 0))) (sThr S (nI 1)) := by
  refine run_of (by decide +kernel) rfl (fun L xs G hG => ?_)
  have tail : G 0 87 [(3, .int (nI 0)), (2, .int (nI 0)), (0, .ref 12), (1, .int x)] [] S := by
    repeat (refine hG.1 _ _ _ _ _ _ rfl ?_)
    refine And.intro (fun h => by first | exact absurd h (by decide) | exact False.elim (h (by decide))) (fun _ => ?_)
    repeat (refine hG.1 _ _ _ _ _ _ rfl ?_)
    refine And.intro rfl (cx (m_fails_t S (nI 1) (by decide)) rfl ?_)
    repeat (refine hG.1 _ _ _ _ _ _ rfl ?_)
    refine And.intro (fun h => by first | exact absurd h (by decide) | exact False.elim (h (by decide))) (fun _ => ?_)
    repeat (refine hG.1 _ _ _ _ _ _ rfl ?_)
    exact And.intro rfl (And.intro rfl rfl)
  repeat (refine hG.1 _ _ _ _ _ _ rfl ?_)
  refine And.intro rfl (cx (m_isArea_f S _ na ha (by omega) h) rfl ?_)
  repeat (refine hG.1 _ _ _ _ _ _ rfl ?_)
  refine And.intro (fun _ => ?_) (fun h => by first | exact absurd h (by decide) | exact False.elim (h (by decide)))
  repeat (refine hG.1 _ _ _ _ _ _ rfl ?_)
  refine And.intro (fun h1 => ?_) (fun h1 => ?_)
  · repeat (first | (refine wk hG ?_ (tail); (repeat (refine And.intro (by first | with_reducible rfl | with_reducible exact nI_add _ _ | with_reducible exact pk_m1 _ | rfl) ?_)); exact trivial) | refine hG.1 _ _ _ _ _ _ rfl ?_)
  · repeat (refine hG.1 _ _ _ _ _ _ rfl ?_)
    refine And.intro (fun _ => ?_) (fun h => by first | exact absurd h (by decide) | exact False.elim (h (by decide)))
    repeat (first | (refine wk hG ?_ (tail); (repeat (refine And.intro (by first | with_reducible rfl | with_reducible exact nI_add _ _ | with_reducible exact pk_m1 _ | rfl) ?_)); exact trivial) | refine hG.1 _ _ _ _ _ _ rfl ?_)
def CanF (A : Nat → Nat → Int32) (mt : Int32) (n a q : Nat) : Prop := (q = 0 ∨ hs mt q) ∧ ∀ k, 0 < k → k < n → A 1 k &&& A 6 a = one k → hs mt k
theorem areaFlow_G (S : PS) (a q n nb na : Nat) (rp sh mt : Int32) (hM : MR S n nb rp sh) (ha8 : S.1 12 8 = nI na) (hna : na ≤ 8) (ha : a < na) (hA : ArOk S.2.1 n a q) (hmt : ∀ k, k < 16 → S.2.1 17 k = bi (hs mt k)) {L : Nat} {xs : Nat → Int32} {K : Nat} {P : Nat → PR → PS → Prop} {G : KT} (hG : Cl 80 L xs K P G)
    (t1 : CanF S.2.1 mt n a q → G 0 87 [(3, .int (nI 1)), (2, .int (nI 1)), (0, .ref 12), (1, .int (nI a))] [] S) (t0 : ¬ CanF S.2.1 mt n a q → G 0 87 [(3, .int (nI 0)), (2, .int (nI 1)), (0, .ref 12), (1, .int (nI a))] [] S) : G 0 0 (lv_args 0 [.ref 12, .int (nI a)]) [] S := by
  obtain ⟨⟨h0, h1n, hn, -, -⟩, hW, -, ⟨-, -, -, h20, -⟩, -⟩ := id hM
  have hq := hA.1
  have e5 := hA.2.1
  have mainF : ¬ CanF S.2.1 mt n a q → ∀ k, k ≤ n → G 0 42 [(4, .int (nI k)), (3, .int (nI 0)), (2, .int (nI 1)), (0, .ref 12), (1, .int (nI a))] [] S := by
    intro hc k hk
    have g := t0 hc
    repeat (refine hG.1 _ _ _ _ _ _ rfl ?_)
    rw [h0]
    refine And.intro (fun h1 => ?_) (fun h1 => ?_)
    · repeat (first | (refine wk hG ?_ (g); (repeat (refine And.intro (by first | with_reducible rfl | with_reducible exact nI_add _ _ | with_reducible exact pk_m1 _ | rfl) ?_)); exact trivial) | refine hG.1 _ _ _ _ _ _ rfl ?_)
    · repeat (refine hG.1 _ _ _ _ _ _ rfl ?_)
      refine And.intro (fun _ => ?_) (fun h => by first | exact absurd h (by decide) | exact False.elim (h (by decide)))
      repeat (first | (refine wk hG ?_ (g); (repeat (refine And.intro (by first | with_reducible rfl | with_reducible exact nI_add _ _ | with_reducible exact pk_m1 _ | rfl) ?_)); exact trivial) | refine hG.1 _ _ _ _ _ _ rfl ?_)
  have mainT : (q = 0 ∨ hs mt q) → ∀ d, d ≤ n - 1 → (∀ k, 0 < k → k < d + 1 → S.2.1 1 k &&& S.2.1 6 a = one k → hs mt k) → G 0 42 [(4, .int (nI (d + 1))), (3, .int (nI 1)), (2, .int (nI 1)), (0, .ref 12), (1, .int (nI a))] [] S := by
    intro hq0
    refine loop_up (fun d hd ih => ?_) ?_
    · intro hall
      repeat (refine hG.1 _ _ _ _ _ _ rfl ?_)
      rw [h0]
      refine And.intro (fun h1 => ?_) (fun h1 => ?_)
      · exact absurd h1 (nI_ge (by omega) (by omega))
      · repeat (refine hG.1 _ _ _ _ _ _ rfl ?_)
        refine And.intro (fun h => by first | exact absurd h (by decide) | exact False.elim (h (by decide))) (fun _ => ?_)
        repeat (refine hG.1 _ _ _ _ _ _ rfl ?_)
        refine And.intro rfl (cx (m_counts S a (d + 1) q n nb rp sh hM (by omega) (by omega) (by omega) hA) rfl ?_)
        repeat (refine hG.1 _ _ _ _ _ _ rfl ?_)
        refine And.intro (fun h2 => ?_) (fun h2 => ?_)
        · rw [bi_0] at h2
          have g := ih (fun k h3 h4 h5 => by
            rcases Nat.lt_or_ge k (d + 1) with z | z
            · exact hall k h3 z h5
            · have : k = d + 1 := by omega
              subst this
              exact absurd h5 h2)
          repeat (first | (refine wk hG ?_ (g); (repeat (refine And.intro (by first | with_reducible rfl | with_reducible exact nI_add _ _ | with_reducible exact pk_m1 _ | rfl) ?_)); exact trivial) | refine hG.1 _ _ _ _ _ _ rfl ?_)
        · rw [bi_n] at h2
          repeat (refine hG.1 _ _ _ _ _ _ rfl ?_)
          refine And.intro (vp_in_nI ((show d + 1 < 16 by omega)) (by decide)) ?_; rw [nI_clamp (Nat.lt_trans ((show d + 1 < 16 by omega)) (by decide))]
          rw [hmt _ (by omega)]
          repeat (refine hG.1 _ _ _ _ _ _ rfl ?_)
          refine And.intro (fun h3 => ?_) (fun h3 => ?_)
          · rw [bi_0] at h3
            have g := mainF (fun z => h3 (z.2 (d + 1) (by omega) (by omega) h2)) (d + 1 + 1) (by omega)
            repeat (first | (refine wk hG ?_ (g); (repeat (refine And.intro (by first | with_reducible rfl | with_reducible exact nI_add _ _ | with_reducible exact pk_m1 _ | rfl) ?_)); exact trivial) | refine hG.1 _ _ _ _ _ _ rfl ?_)
          · rw [bi_n] at h3
            have g := ih (fun k h4 h5 h6 => by
              rcases Nat.lt_or_ge k (d + 1) with z | z
              · exact hall k h4 z h6
              · have : k = d + 1 := by omega
                subst this
                exact h3)
            repeat (first | (refine wk hG ?_ (g); (repeat (refine And.intro (by first | with_reducible rfl | with_reducible exact nI_add _ _ | with_reducible exact pk_m1 _ | rfl) ?_)); exact trivial) | refine hG.1 _ _ _ _ _ _ rfl ?_)
    · intro hall
      rw [show n - 1 + 1 = n by omega] at hall ⊢
      have g := t1 ⟨hq0, hall⟩
      repeat (refine hG.1 _ _ _ _ _ _ rfl ?_)
      rw [h0]
      refine And.intro (fun h1 => ?_) (fun h1 => ?_)
      · repeat (first | (refine wk hG ?_ (g); (repeat (refine And.intro (by first | with_reducible rfl | with_reducible exact nI_add _ _ | with_reducible exact pk_m1 _ | rfl) ?_)); exact trivial) | refine hG.1 _ _ _ _ _ _ rfl ?_)
      · exact absurd (nI_le (Nat.le_refl _) (by omega)) h1
  have g1 : (q = 0 ∨ hs mt q) → G 0 42 [(4, .int (nI 1)), (3, .int (nI 1)), (2, .int (nI 1)), (0, .ref 12), (1, .int (nI a))] [] S := fun h => mainT h 0 (Nat.zero_le _) (fun k h1 h2 => by omega)
  have g0 : ¬ (q = 0 ∨ hs mt q) → G 0 42 [(4, .int (nI 1)), (3, .int (nI 0)), (2, .int (nI 1)), (0, .ref 12), (1, .int (nI a))] [] S := fun h => mainF (fun z => h z.1) 1 (by omega)
  repeat (refine hG.1 _ _ _ _ _ _ rfl ?_)
  refine And.intro rfl (cx (m_isArea_t S _ na ha8 (by omega) ha) rfl ?_)
  repeat (refine hG.1 _ _ _ _ _ _ rfl ?_)
  refine And.intro (fun h => by first | exact absurd h (by decide) | exact False.elim (h (by decide))) (fun _ => ?_)
  repeat (refine hG.1 _ _ _ _ _ _ rfl ?_)
  refine And.intro (vp_in_nI ((show a < 8 by omega)) (by decide)) ?_; rw [nI_clamp (Nat.lt_trans ((show a < 8 by omega)) (by decide))]
  rw [h20, e5]
  repeat (refine hG.1 _ _ _ _ _ _ rfl ?_)
  refine And.intro (fun h1 => ?_) (fun h1 => ?_)
  · have hq0 : q = 0 := (nI_eq (by omega) (by omega)).mp h1
    have g := g1 (Or.inl hq0)
    repeat (first | (refine wk hG ?_ (g); (repeat (refine And.intro (by first | with_reducible rfl | with_reducible exact nI_add _ _ | with_reducible exact pk_m1 _ | rfl) ?_)); exact trivial) | refine hG.1 _ _ _ _ _ _ rfl ?_)
  · have hq0 : ¬ q = 0 := fun z => h1 (by rw [z]; rfl)
    repeat (refine hG.1 _ _ _ _ _ _ rfl ?_)
    refine And.intro (vp_in_nI ((show a < 8 by omega)) (by decide)) ?_; rw [nI_clamp (Nat.lt_trans ((show a < 8 by omega)) (by decide))]
    rw [h20, e5]
    repeat (refine hG.1 _ _ _ _ _ _ rfl ?_)
    refine And.intro (vp_in_nI ((show q < 16 by omega)) (by decide)) ?_; rw [nI_clamp (Nat.lt_trans ((show q < 16 by omega)) (by decide))]
    rw [hmt _ (by omega)]
    repeat (refine hG.1 _ _ _ _ _ _ rfl ?_)
    refine And.intro (fun h2 => ?_) (fun h2 => ?_)
    · rw [bi_0] at h2
      have g := g0 (fun z => z.elim hq0 h2)
      repeat (first | (refine wk hG ?_ (g); (repeat (refine And.intro (by first | with_reducible rfl | with_reducible exact nI_add _ _ | with_reducible exact pk_m1 _ | rfl) ?_)); exact trivial) | refine hG.1 _ _ _ _ _ _ rfl ?_)
    · rw [bi_n] at h2
      have g := g1 (Or.inr h2)
      repeat (first | (refine wk hG ?_ (g); (repeat (refine And.intro (by first | with_reducible rfl | with_reducible exact nI_add _ _ | with_reducible exact pk_m1 _ | rfl) ?_)); exact trivial) | refine hG.1 _ _ _ _ _ _ rfl ?_)
theorem m_areaFlow_1 (S : PS) (a q n nb na : Nat) (rp sh mt : Int32) (hM : MR S n nb rp sh) (ha8 : S.1 12 8 = nI na) (hna : na ≤ 8) (ha : a < na) (hA : ArOk S.2.1 n a q) (hmt : ∀ k, k < 16 → S.2.1 17 k = bi (hs mt k)) (hc : ¬ CanF S.2.1 mt n a q) : Run 0 80 [.ref 12, .int (nI a)] S (.inl (some (nI 0))) (sThr S (nI 2)) := by
  refine run_of (by decide +kernel) rfl (fun L xs G hG => ?_)
  refine areaFlow_G S a q n nb na rp sh mt hM ha8 hna ha hA hmt hG (fun z => absurd z hc) (fun _ => ?_)
  repeat (refine hG.1 _ _ _ _ _ _ rfl ?_)
  refine And.intro (fun _ => ?_) (fun h => by first | exact absurd h (by decide) | exact False.elim (h (by decide)))
  repeat (refine hG.1 _ _ _ _ _ _ rfl ?_)
  refine And.intro (fun _ => ?_) (fun h => by first | exact absurd h (by decide) | exact False.elim (h (by decide)))
  repeat (refine hG.1 _ _ _ _ _ _ rfl ?_)
  refine And.intro rfl (cx (m_fails_t S (nI 2) (by decide)) rfl ?_)
  repeat (refine hG.1 _ _ _ _ _ _ rfl ?_)
  refine And.intro (fun h => by first | exact absurd h (by decide) | exact False.elim (h (by decide))) (fun _ => ?_)
  repeat (refine hG.1 _ _ _ _ _ _ rfl ?_)
  exact And.intro rfl (And.intro rfl rfl)
theorem m_areaFlow (S : PS) (a q n nb na : Nat) (rp sh mt : Int32) (hM : MR S n nb rp sh) (ha8 : S.1 12 8 = nI na) (hna : na ≤ 8) (ha : a < na) (hA : ArOk S.2.1 n a q) (hmt : ∀ k, k < 16 → S.2.1 17 k = bi (hs mt k)) (hc : CanF S.2.1 mt n a q) : Run 0 80 [.ref 12, .int (nI a)] S (.inl (some (sbL (fun k => decide (S.2.1 1 k &&& S.2.1 6 a = one k)) (fun k => flX S.2.1 n nb rp sh (nI k)) (flX S.2.1 n nb rp sh (nI q)) n))) (sThr S (nI 0)) := by
  obtain ⟨⟨h0, h1n, hn, -, -⟩, hW, -, ⟨-, -, -, h20, -⟩, -⟩ := id hM
  have hq := hA.1
  have e5 := hA.2.1
  refine run_of (by decide +kernel) rfl (fun L xs G hG => ?_)
  have main : ∀ d, d ≤ n - 1 → G 0 128 [(5, .int (nI (d + 1))), (4, .int (sbL (fun k => decide (S.2.1 1 k &&& S.2.1 6 a = one k)) (fun k => flX S.2.1 n nb rp sh (nI k)) (flX S.2.1 n nb rp sh (nI q)) (d + 1))), (0, .ref 12), (1, .int (nI a))] [] (sThr S (nI 0)) := by
    refine loop_up (fun d hd ih => ?_) ?_
    · repeat (refine hG.1 _ _ _ _ _ _ rfl ?_)
      rw [show (sThr S (nI 0)).1 12 0 = nI n from h0]
      refine And.intro (fun h1 => ?_) (fun h1 => ?_)
      · exact absurd h1 (nI_ge (by omega) (by omega))
      · repeat (refine hG.1 _ _ _ _ _ _ rfl ?_)
        refine And.intro rfl (cx (m_counts (sThr S (nI 0)) a (d + 1) q n nb rp sh hM (by omega) (by omega) (by omega) hA) rfl ?_)
        repeat (refine hG.1 _ _ _ _ _ _ rfl ?_)
        refine And.intro (fun h2 => ?_) (fun h2 => ?_)
        · rw [bi_0] at h2
          have e : ∀ f z, sbL (fun k => decide (S.2.1 1 k &&& S.2.1 6 a = one k)) f z (d + 1 + 1) = sbL (fun k => decide (S.2.1 1 k &&& S.2.1 6 a = one k)) f z (d + 1) - nI 0 := by
            intro f z
            rw [sbL_f (by simpa using h2), nI_0, Int32.sub_zero]
          rw [e] at ih
          repeat (first | (refine wk hG ?_ (ih); (repeat (refine And.intro (by first | with_reducible rfl | with_reducible exact nI_add _ _ | with_reducible exact pk_m1 _ | rfl) ?_)); exact trivial) | refine hG.1 _ _ _ _ _ _ rfl ?_)
        · rw [bi_n] at h2
          repeat (refine hG.1 _ _ _ _ _ _ rfl ?_)
          refine And.intro rfl (cx (m_flowBelow (sThr S (nI 0)) (d + 1) n nb rp sh hM (by omega)) rfl ?_)
          rw [sbL_t (by simpa using h2)] at ih
          repeat (first | (refine wk hG ?_ (ih); (repeat (refine And.intro (by first | with_reducible rfl | with_reducible exact nI_add _ _ | with_reducible exact pk_m1 _ | rfl) ?_)); exact trivial) | refine hG.1 _ _ _ _ _ _ rfl ?_)
    · rw [show n - 1 + 1 = n by omega]
      repeat (refine hG.1 _ _ _ _ _ _ rfl ?_)
      rw [show (sThr S (nI 0)).1 12 0 = nI n from h0]
      refine And.intro (fun h1 => ?_) (fun h1 => ?_)
      · repeat (refine hG.1 _ _ _ _ _ _ rfl ?_)
        exact And.intro rfl (And.intro rfl rfl)
      · exact absurd (nI_le (Nat.le_refl _) (by omega)) h1
  refine areaFlow_G S a q n nb na rp sh mt hM ha8 hna ha hA hmt hG (fun _ => ?_) (fun z => absurd hc z)
  have g := main 0 (Nat.zero_le _)
  have e : ∀ f z, sbL (fun k => decide (S.2.1 1 k &&& S.2.1 6 a = one k)) f z (0 + 1) = z := by
    intro f z
    rw [sbL_f]
    · rfl
    · intro w
      have w2 : S.2.1 1 0 &&& S.2.1 6 a = one 0 := by simpa using w
      have h3 : hs (S.2.1 1 0 &&& S.2.1 6 a) 0 := by rw [w2]; exact (hs_one (by omega) (by omega)).mpr rfl
      have h4 := ar_gt hW hn hA (by omega) ((hs_and (by omega)).mp h3).2
      omega
  rw [e] at g
  repeat (refine hG.1 _ _ _ _ _ _ rfl ?_)
  refine And.intro (fun _ => ?_) (fun h => by first | exact absurd h (by decide) | exact False.elim (h (by decide)))
  repeat (refine hG.1 _ _ _ _ _ _ rfl ?_)
  refine And.intro (fun h => by first | exact absurd h (by decide) | exact False.elim (h (by decide))) (fun _ => ?_)
  repeat (refine hG.1 _ _ _ _ _ _ rfl ?_)
  refine And.intro rfl (cx (m_fails_f S) rfl ?_)
  repeat (refine hG.1 _ _ _ _ _ _ rfl ?_)
  refine And.intro (fun _ => ?_) (fun h => by first | exact absurd h (by decide) | exact False.elim (h (by decide)))
  repeat (refine hG.1 _ _ _ _ _ _ rfl ?_)
  refine And.intro (vp_in_nI ((show a < 8 by omega)) (by decide)) ?_; rw [nI_clamp (Nat.lt_trans ((show a < 8 by omega)) (by decide))]
  rw [show (sThr S (nI 0)).2.1 20 a = nI q by rw [← e5, ← h20]]
  repeat (refine hG.1 _ _ _ _ _ _ rfl ?_)
  refine And.intro rfl (cx (m_flowBelow (sThr S (nI 0)) q n nb rp sh hM hq) rfl ?_)
  repeat (first | (refine wk hG ?_ (g); (repeat (refine And.intro (by first | with_reducible rfl | with_reducible exact nI_add _ _ | with_reducible exact pk_m1 _ | rfl) ?_)); exact trivial) | refine hG.1 _ _ _ _ _ _ rfl ?_)
theorem pst_some {c : Nat → Bool} {i : Nat} (hi : i < 100) : ∀ (k p : Nat), p ≤ i → k < 100 → ((pst c (nI i) k p).isSome = true ↔ i < p + cnt (fun j => c (j + 1)) k)
  | 0, p, hp, _ => by
    rw [pst, cnt]
    simp
    omega
  | k + 1, p, hp, hk => by
    rw [pst, cnt]
    by_cases hc : c (k + 1) = true
    · rw [if_pos hc, if_pos hc]
      by_cases hpi : p = i
      · subst hpi
        rw [if_pos rfl]
        simp <;> omega
      · rw [if_neg (fun z => hpi ((nI_eq (by omega) (by omega)).mp z)), pst_some hi k (p + 1) (by omega) (by omega)]
        omega
    · rw [if_neg hc, if_neg hc, pst_some hi k p hp (by omega)]
theorem m_steps (S : PS) (a q n nb na : Nat) (rp sh : Int32) (hM : MR S n nb rp sh) (ha8 : S.1 12 8 = nI na) (hna : na ≤ 8) (ha : a < na) (hA : ArOk S.2.1 n a q) : Run 0 85 [.ref 12, .int (nI a)] S (.inl (some (nI (cnt (fun j => decide (hs (ptsX S.2.1 sh n a) (j + 1))) (n - 1))))) (sThr S (nI 0)) := by
  obtain ⟨⟨h0, h1n, hn, -, -⟩, hW, -⟩ := id hM
  obtain ⟨m, hm⟩ : ∃ m, m = cnt (fun j => decide (hs (ptsX S.2.1 sh n a) (j + 1))) (n - 1) := ⟨_, rfl⟩
  have hm16 : m ≤ 16 := by rw [hm]; have := cnt_le (c := fun j => decide (hs (ptsX S.2.1 sh n a) (j + 1))) (n - 1); omega
  rw [← hm]
  have key : ∀ i, i < 100 → ((pkX S.2.1 sh n a (nI i)).isSome = true ↔ i < m) := by
    intro i hi
    have := pst_some (c := fun k => decide (hs (ptsX S.2.1 sh n a) k)) hi (n - 1) 0 (Nat.zero_le _) (by omega)
    rw [Nat.zero_add] at this
    rw [hm]
    exact this
  refine run_of (by decide +kernel) rfl (fun L xs G hG => ?_)
  have main : ∀ i, i ≤ m → G 0 24 [(2, .int (nI i)), (0, .ref 12), (1, .int (nI a))] [] (sThr S (nI 0)) := by
    refine loop_up (fun i hi ih => ?_) ?_
    · have hs1 := (key i (by omega)).mpr hi
      obtain ⟨r, hr⟩ := Option.isSome_iff_exists.mp hs1
      have hr2 := pst_le _ _ hr
      have g2 := m_pipe (sThr S (nI 0)) a q n nb rp sh (nI i) hM (by omega) hA
      rw [show pkX (sThr S (nI 0)).2.1 sh n a (nI i) = some r from hr] at g2
      repeat (refine hG.1 _ _ _ _ _ _ rfl ?_)
      refine And.intro rfl (cx (g2) rfl ?_)
      repeat (refine hG.1 _ _ _ _ _ _ rfl ?_)
      refine And.intro (fun h1 => ?_) (fun h1 => ?_)
      · exfalso
        have z2 : nI r = -1 := h1
        have h4 : (nI r).toInt = r := nI_toInt (by omega)
        rw [z2] at h4
        have h5 : (-1 : Int32).toInt = -1 := by decide
        omega
      · repeat (first | (refine wk hG ?_ (ih); (repeat (refine And.intro (by first | with_reducible rfl | with_reducible exact nI_add _ _ | with_reducible exact pk_m1 _ | rfl) ?_)); exact trivial) | refine hG.1 _ _ _ _ _ _ rfl ?_)
    · have hs1 : pkX S.2.1 sh n a (nI m) = none := by
        cases h : pkX S.2.1 sh n a (nI m) with
        | none => rfl
        | some r =>
          have := (key m (by omega)).mp (by rw [h]; rfl)
          omega
      have g2 := m_pipe (sThr S (nI 0)) a q n nb rp sh (nI m) hM (by omega) hA
      rw [show pkX (sThr S (nI 0)).2.1 sh n a (nI m) = none from hs1] at g2
      repeat (refine hG.1 _ _ _ _ _ _ rfl ?_)
      refine And.intro rfl (cx (g2) rfl ?_)
      repeat (refine hG.1 _ _ _ _ _ _ rfl ?_)
      refine And.intro (fun h1 => ?_) (fun h1 => ?_)
      · repeat (refine hG.1 _ _ _ _ _ _ rfl ?_)
        exact And.intro rfl (And.intro rfl rfl)
      · exact absurd rfl h1
  have g := main 0 (Nat.zero_le _)
  repeat (refine hG.1 _ _ _ _ _ _ rfl ?_)
  refine And.intro rfl (cx (m_isArea_t S _ na ha8 (by omega) ha) rfl ?_)
  repeat (refine hG.1 _ _ _ _ _ _ rfl ?_)
  refine And.intro (fun h => by first | exact absurd h (by decide) | exact False.elim (h (by decide))) (fun _ => ?_)
  repeat (refine hG.1 _ _ _ _ _ _ rfl ?_)
  refine And.intro rfl (cx (m_fails_f S) rfl ?_)
  repeat (refine hG.1 _ _ _ _ _ _ rfl ?_)
  refine And.intro (fun _ => ?_) (fun h => by first | exact absurd h (by decide) | exact False.elim (h (by decide)))
  repeat (first | (refine wk hG ?_ (g); (repeat (refine And.intro (by first | with_reducible rfl | with_reducible exact nI_add _ _ | with_reducible exact pk_m1 _ | rfl) ?_)); exact trivial) | refine hG.1 _ _ _ _ _ _ rfl ?_)
end
section
theorem hs_shr0 {x : Int32} {k : Nat} (hk : k < 32) : (x >>> (nI k &&& 31)) &&& nI 1 = 0 ↔ ¬ hs x k := by
  have key : ∀ y : Int32, y &&& nI 1 = 0 ∨ y &&& nI 1 = nI 1 := by
    intro y
    cases hb : bt y 0
    · left
      apply bt_ext
      intro j hj
      rw [bt_and]
      have h0 : bt 0 j = false := bt_0 j
      rw [h0]
      rcases Nat.eq_zero_or_pos j with z | z
      · subst z; rw [hb]; rfl
      · have h1 : bt (nI 1) j = false := by
          have key : ∀ j : Nat, j < 32 → 0 < j → bt (nI 1) j = false := by decide +kernel
          exact key j hj z
        rw [h1, Bool.and_false]
    · right
      apply bt_ext
      intro j hj
      rw [bt_and]
      rcases Nat.eq_zero_or_pos j with z | z
      · subst z; rw [hb]; rfl
      · have h1 : bt (nI 1) j = false := by
          have key : ∀ j : Nat, j < 32 → 0 < j → bt (nI 1) j = false := by decide +kernel
          exact key j hj z
        rw [h1, Bool.and_false]
  rw [← hs_shr hk]
  rcases key (x >>> (nI k &&& 31)) with h | h
  · rw [h]
    exact ⟨fun _ => by decide, fun _ => rfl⟩
  · rw [h]
    exact ⟨fun z => absurd z (by decide), fun z => absurd rfl z⟩
abbrev st18 (S : PS) (f : Nat → Int32) : PS := (S.1, va_up S.2.1 18 f, S.2.2)
theorem st18_up (S : PS) (f g : Nat → Int32) : st18 (st18 S f) g = st18 S g := by
  unfold st18
  rw [va_up_up]
theorem MR_18 {S : PS} {n nb : Nat} {rp sh sh' : Int32} {f : Nat → Int32} (hM : MR S n nb rp sh) (hf : ∀ k, k < 16 → f k = bi (hs sh' k)) (h0 : ¬ hs sh' 0) : MR (st18 S f) n nb rp sh' :=
  ⟨hM.1, hM.2.1, hM.2.2.1, hM.2.2.2.1, ⟨hf, h0⟩, hM.2.2.2.2.2⟩
theorem bi_or {p q r : Prop} [Decidable p] [Decidable q] [Decidable r] (h : p ↔ (q ∨ r)) (hr : ¬ r) : bi p = bi q := by
  unfold bi
  simp only [h, hr, or_false]
theorem hs_m1shl {k j : Nat} (hk : k < 16) (hj : j < 32) : hs ((-1 : Int32) <<< ((nI k + nI 1) &&& 31)) j ↔ k < j := by
  have key : ∀ k : Nat, k < 16 → ∀ j : Nat, j < 32 → (bt ((-1 : Int32) <<< ((nI k + nI 1) &&& 31)) j = true ↔ k < j) := by decide +kernel
  rw [hs_bt hj]
  exact key k hk j hj
theorem pst_congr {c d : Nat → Bool} {s : Int32} : ∀ (k p : Nat), (∀ j, 0 < j → j ≤ k → c j = d j) → pst c s k p = pst d s k p
  | 0, _, _ => rfl
  | k + 1, p, h => by
    rw [pst, pst, h (k + 1) (by omega) (Nat.le_refl _), pst_congr k (p + 1) (fun j h1 h2 => h j h1 (by omega)), pst_congr k p (fun j h1 h2 => h j h1 (by omega))]
theorem pst_skip {c : Nat → Bool} {s : Int32} {r p : Nat} : ∀ (k : Nat), r ≤ k → (∀ j, r < j → j ≤ k → c j = false) → pst c s k p = pst c s r p
  | 0, h, _ => by rw [show r = 0 by omega]
  | k + 1, h, hc => by
    rcases Nat.lt_or_ge r (k + 1) with z | z
    · rw [pst, if_neg (by rw [hc (k + 1) z (Nat.le_refl _)]; decide)]
      exact pst_skip k (by omega) (fun j h1 h2 => hc j h1 (by omega))
    · rw [show r = k + 1 by omega]
theorem pst_next {c : Nat → Bool} {i : Nat} (hi : i < 90) : ∀ (k p r : Nat), p ≤ i → k < 90 → pst c (nI i) k p = some r → pst c (nI (i + 1)) k p = pst c (nI (i + 1)) (r - 1) (i + 1)
  | 0, p, r, _, _, h => by cases h
  | k + 1, p, r, hp, hk, h => by
    rw [pst] at h
    by_cases hc : c (k + 1) = true
    · rw [if_pos hc] at h
      by_cases hpi : p = i
      · subst hpi
        rw [if_pos rfl] at h
        cases h
        rw [pst, if_pos hc, if_neg (fun z => by have := (nI_eq (by omega) (by omega)).mp z; omega)]
        rfl
      · rw [if_neg (fun z => hpi ((nI_eq (by omega) (by omega)).mp z))] at h
        rw [pst, if_pos hc, if_neg (fun z => by have := (nI_eq (by omega) (by omega)).mp z; omega)]
        exact pst_next hi k (p + 1) r (by omega) (by omega) h
    · rw [if_neg hc] at h
      rw [pst, if_neg hc]
      exact pst_next hi k p r hp (by omega) h
theorem pst_shift {c : Nat → Bool} {i : Nat} : ∀ (k p : Nat), p ≤ i → i < 90 → k < 90 → pst c (nI i) k p = pst c (nI (i - p)) k 0
  | k, 0, _, _, _ => rfl
  | 0, p + 1, _, _, _ => rfl
  | k + 1, p + 1, hp, hi, hk => by
    have gen : ∀ (k a b d : Nat), a + b < 90 → d + k < 90 → (pst c (nI (a + b)) k (d + b) = pst c (nI a) k d) := by
      intro k
      induction k with
      | zero => intros; rfl
      | succ k ih =>
        intro a b d h1 h2
        have e1 : nI (d + b) = nI (a + b) ↔ nI d = nI a := by
          by_cases hb : d + b < 2 ^ 31
          · rw [nI_eq hb (by omega), nI_eq (by omega) (by omega)]
            omega
          · constructor
            · intro z
              rw [← nI_add, ← nI_add] at z
              grind
            · intro z
              rw [← nI_add, ← nI_add, z]
        rw [pst, pst]
        have e2 := ih a b (d + 1) h1 (by omega)
        rw [show d + 1 + b = d + b + 1 by omega] at e2
        rw [e2, ih a b d h1 (by omega)]
        by_cases z : nI d = nI a
        · rw [if_pos (e1.mpr z), if_pos z]
        · rw [if_neg (fun w => z (e1.mp w)), if_neg z]
    have := gen (k + 1) (i - (p + 1)) (p + 1) 0 (by omega) (by omega)
    rw [show i - (p + 1) + (p + 1) = i by omega, Nat.zero_add] at this
    exact this
end
section
theorem pst_step {c : Nat → Bool} {s : Int32} {r : Nat} : ∀ (k p : Nat), pst c s k p = some r → ∃ i, p ≤ i ∧ i < p + k ∧ s = nI i
  | 0, _, h => by cases h
  | k + 1, p, h => by
    rw [pst] at h
    by_cases hc : c (k + 1) = true
    · rw [if_pos hc] at h
      by_cases hp : nI p = s
      · exact ⟨p, by omega, by omega, hp.symm⟩
      · rw [if_neg hp] at h
        obtain ⟨i, h1, h2, h3⟩ := pst_step k (p + 1) h
        exact ⟨i, by omega, by omega, h3⟩
    · rw [if_neg hc] at h
      obtain ⟨i, h1, h2, h3⟩ := pst_step k p h
      exact ⟨i, h1, by omega, h3⟩
theorem pst_first {c : Nat → Bool} {p r : Nat} : ∀ (k : Nat), pst c (nI p) k p = some r → r ≤ k ∧ c r = true ∧ ∀ j, r < j → j ≤ k → c j = false
  | 0, h => by cases h
  | k + 1, h => by
    rw [pst] at h
    by_cases hc : c (k + 1) = true
    · rw [if_pos hc, if_pos rfl] at h
      cases h
      exact ⟨Nat.le_refl _, hc, fun j h1 h2 => by omega⟩
    · rw [if_neg hc] at h
      obtain ⟨h1, h2, h3⟩ := pst_first k h
      refine ⟨by omega, h2, fun j h4 h5 => ?_⟩
      rcases Nat.lt_or_ge j (k + 1) with z | z
      · exact h3 j h4 (by omega)
      · rw [show j = k + 1 by omega]
        cases hb : c (k + 1)
        · rfl
        · exact absurd hb hc
set_option maxHeartbeats 4000000 in
theorem m_drop (S : PS) (a q n nb na k : Nat) (rp sh y : Int32) (hM : MR S n nb rp sh) (ha8 : S.1 12 8 = nI na) (hna : na ≤ 8) (ha : a < na) (hA : ArOk S.2.1 n a q) (h : pkX S.2.1 sh n a y = some k) : Run 0 88 [.ref 12, .int (nI a), .int y] S (.inl (some (smL (inA S.2.1 a) (tknX S.2.1 nb rp (bfX S.2.1 sh n a k)) n - smL (inA S.2.1 a) (tknX S.2.1 nb rp (bfX S.2.1 sh n a k ||| one k)) n))) (sThr S (nI 0)) := by
  obtain ⟨⟨h0, h1n, hn, -, -⟩, hW, -, -, ⟨hsh, hs0⟩, -⟩ := id hM
  have hq := hA.1
  have e5 := hA.2.1
  obtain ⟨c, hc⟩ : ∃ c : Nat → Bool, c = fun k => decide (hs (ptsX S.2.1 sh n a) k) := ⟨_, rfl⟩
  have hpk : pst c y (n - 1) 0 = some k := by rw [hc]; exact h
  obtain ⟨t, -, ht, rfl⟩ := pst_step _ _ hpk
  have ht16 : t < 16 := by omega
  have hcj : ∀ j, j < 32 → (c j = true ↔ (j < n ∧ inA S.2.1 a j = true) ∧ q ≠ j ∧ ¬ hs sh j) := by
    intro j hj
    rw [hc]
    simp only [decide_eq_true_eq]
    exact hs_pts hn (by omega) e5 hj
  have hcp : ∀ j, j < 32 → (hs (ptsX S.2.1 sh n a) j ↔ c j = true) := by
    intro j hj
    rw [hc]
    simp only [decide_eq_true_eq]
  have hex : ∀ i, i ≤ t → ∃ r, pst c (nI i) (n - 1) 0 = some r := by
    intro i hi
    apply Option.isSome_iff_exists.mp
    rw [pst_some (by omega) (n - 1) 0 (Nat.zero_le _) (by omega)]
    have := (pst_some (c := c) (i := t) (by omega) (n - 1) 0 (Nat.zero_le _) (by omega)).mp (by rw [hpk]; rfl)
    omega
  obtain ⟨r, hr⟩ : ∃ r : Nat → Nat, ∀ i, i ≤ t → pst c (nI i) (n - 1) 0 = some (r i) := by
    refine ⟨fun i => (pst c (nI i) (n - 1) 0).getD 0, fun i hi => ?_⟩
    obtain ⟨x, hx⟩ := hex i hi
    show _ = some ((pst c (nI i) (n - 1) 0).getD 0)
    rw [hx]
    rfl
  have hrt : r t = k := by
    have := hr t (Nat.le_refl _)
    rw [hpk] at this
    exact (Option.some.inj this).symm
  have hrb : ∀ i, i ≤ t → 0 < r i ∧ r i ≤ n - 1 ∧ c (r i) = true := fun i hi => pst_le _ _ (hr i hi)
  have hr0 : ∀ j, r 0 < j → j < 32 → c j = false := by
    intro j h1 h2
    obtain ⟨-, -, h3⟩ := pst_first _ (hr 0 (Nat.zero_le _))
    rcases Nat.lt_or_ge j n with z | z
    · exact h3 j h1 (by omega)
    · cases hb : c j
      · rfl
      · have := ((hcj j h2).mp hb).1.1
        omega
  have hrs : ∀ i, i < t → r (i + 1) < r i ∧ ∀ j, r (i + 1) < j → j < r i → c j = false := by
    intro i hi
    have h1 := pst_next (c := c) (i := i) (by omega) (n - 1) 0 (r i) (Nat.zero_le _) (by omega) (hr i (by omega))
    rw [hr (i + 1) (by omega)] at h1
    obtain ⟨h2, h3, h4⟩ := pst_first _ h1.symm
    have := hrb i (by omega)
    exact ⟨by omega, fun j h5 h6 => h4 j h5 (by omega)⟩
  obtain ⟨B, hB⟩ : ∃ B : Nat → Int32, B = fun i => bfX S.2.1 sh n a (r i) := ⟨_, rfl⟩
  obtain ⟨Z, hZ⟩ : ∃ Z : Nat → Int32, Z = fun i => ptsX S.2.1 sh n a &&& (-1 : Int32) <<< ((nI (r i) + nI 1) &&& 31) := ⟨_, rfl⟩
  have hZj : ∀ i, i ≤ t → ∀ j, j < 32 → (hs (Z i) j ↔ c j = true ∧ r i < j) := by
    intro i hi j hj
    have := hrb i hi
    rw [hZ]
    simp only
    rw [hs_and hj, hs_m1shl (by omega) hj, hcp j hj]
  have hBj : ∀ i, i ≤ t → ∀ j, j < 32 → (hs (B i) j ↔ hs sh j ∨ (c j = true ∧ r i < j)) := by
    intro i hi j hj
    rw [← hZj i hi j hj, hB, hZ]
    exact hs_or hj
  have hB0 : ∀ i, i ≤ t → ¬ hs (B i) 0 := by
    intro i hi z
    rcases (hBj i hi 0 (by omega)).mp z with w | w
    · exact hs0 w
    · omega
  have hBstep : ∀ i, i < t → B (i + 1) = B i ||| one (r i) ∧ Z (i + 1) = Z i ||| one (r i) := by
    intro i hi
    have h1 := hrs i hi
    have h2 := hrb i (by omega)
    have key : ∀ j, j < 32 → ((c j = true ∧ r (i + 1) < j) ↔ ((c j = true ∧ r i < j) ∨ r i = j)) := by
      intro j hj
      constructor
      · rintro ⟨z, w⟩
        rcases Nat.lt_trichotomy (r i) j with x | x | x
        · exact Or.inl ⟨z, x⟩
        · exact Or.inr x
        · have := h1.2 j w x
          rw [this] at z
          cases z
      · rintro (⟨z, w⟩ | z)
        · exact ⟨z, by omega⟩
        · subst z; exact ⟨h2.2.2, h1.1⟩
    refine ⟨hs_ext fun j hj => ?_, hs_ext fun j hj => ?_⟩
    · rw [hBj (i + 1) (by omega) j hj, hs_or hj, hBj i (by omega) j hj, hs_one (by omega) hj, key j hj, or_assoc]
    · rw [hZj (i + 1) (by omega) j hj, hs_or hj, hZj i (by omega) j hj, hs_one (by omega) hj, key j hj]
  have hpipe : ∀ i, i ≤ t → ∀ f : Nat → Int32, (∀ k, k < 16 → f k = bi (hs (B i) k)) → Run 0 84 [.ref 12, .int (nI a), .int (nI 0)] (st18 (sThr S (nI 0)) f) (.inl (some (nI (r i)))) (st18 (sThr S (nI 0)) f) := by
    intro i hi f hf
    have hM2 : MR (st18 (sThr S (nI 0)) f) n nb rp (B i) := MR_18 (S := sThr S (nI 0)) hM hf (hB0 i hi)
    have g := m_pipe (st18 (sThr S (nI 0)) f) a q n nb rp (B i) (nI 0) hM2 (by omega) hA
    have e : pkX (st18 (sThr S (nI 0)) f).2.1 (B i) n a (nI 0) = some (r i) := by
      obtain ⟨d, hd⟩ : ∃ d : Nat → Bool, d = fun k => decide (hs (ptsX (st18 (sThr S (nI 0)) f).2.1 (B i) n a) k) := ⟨_, rfl⟩
      have hdj : ∀ j, j < 32 → (d j = true ↔ c j = true ∧ j ≤ r i) := by
        intro j hj
        rw [hd]
        simp only [decide_eq_true_eq]
        rw [hs_pts (A := (st18 (sThr S (nI 0)) f).2.1) hn (by omega) e5 hj, hBj i hi j hj]
        rw [hcj j hj]
        constructor
        · rintro ⟨z1, z2, z3⟩
          have z4 : ¬ hs sh j := fun w => z3 (Or.inl w)
          have z5 : c j = true := (hcj j hj).mpr ⟨z1, z2, z4⟩
          refine ⟨⟨z1, z2, z4⟩, ?_⟩
          rcases Nat.lt_or_ge (r i) j with w | w
          · exact absurd (Or.inr ⟨⟨z1, z2, z4⟩, w⟩) z3
          · exact w
        · rintro ⟨⟨z1, z2, z3⟩, z4⟩
          refine ⟨z1, z2, fun w => ?_⟩
          rcases w with w | w
          · exact z3 w
          · omega
      show pst _ (nI 0) (n - 1) 0 = some (r i)
      rw [← hd]
      have h1 := hrb i hi
      rw [pst_skip (r := r i) (n - 1) h1.2.1 (fun j h2 h3 => by
        cases hb : d j
        · rfl
        · have := ((hdj j (by omega)).mp hb).2
          omega)]
      obtain ⟨w, hw⟩ : ∃ w, r i = w + 1 := ⟨r i - 1, by omega⟩
      rw [hw, pst, if_pos ((hdj (w + 1) (by omega)).mpr ⟨by rw [← hw]; exact h1.2.2, by omega⟩), if_pos rfl]
    rw [e] at g
    exact g
  have hfst : ∀ (x : Int32) (p : Nat) (f : Nat → Int32), p < 16 → (∀ k, k < 16 → f k = bi (hs x k)) → ∀ k, k < 16 → upd f p (nI 1) k = bi (hs (x ||| one p) k) := by
    intro x p f hp hf k hk
    have hor : hs (x ||| one p) k ↔ (hs x k ∨ p = k) := by rw [hs_or (by omega), hs_one (by omega) (by omega)]
    by_cases hkp : k = p
    · subst hkp
      rw [upd_same, bi_t (hor.mpr (Or.inr rfl))]
    · rw [upd_lt hkp, hf k hk, bi_or hor (fun z => hkp z.symm)]
  have back : ∀ (v : Int32) (F : Int32), (∀ j, j < 32 → (hs F j ↔ c j = true ∧ k ≤ j)) → ∀ (L : Nat) (xs : Nat → Int32) (G : KT) (b1 b2 : Int32), Cl 88 L xs 0 (fun _ r' S'' => r' = .inl (some (b1 - b2)) ∧ S'' = sThr S (nI 0)) G →
      ∀ j, j ≤ n → ∀ f : Nat → Int32, (∀ i, i < 16 → f i = if i < j then S.2.1 18 i else bi (hs sh i ∨ hs F i)) → (∀ i, 16 ≤ i → f i = S.2.1 18 i) →
        G 0 103 [(7, .int (nI j)), (6, .int b2), (4, .int b1), (3, .int F), (0, .ref 12), (1, .int (nI a))] [] (st18 (sThr S (nI 0)) f) := by
    intro v F hF L xs G b1 b2 hG
    have hcn : ∀ j, j < 16 → n ≤ j → ¬ hs F j := by
      intro j hj hnj z
      have h1 := (hcj j (by omega)).mp ((hF j (by omega)).mp z).1
      omega
    have hFs : ∀ j, j < 32 → hs F j → ¬ hs sh j := by
      intro j hj z
      exact ((hcj j hj).mp ((hF j hj).mp z).1).2.2
    refine loop_up (fun j hj ih => ?_) ?_
    · intro f hf hf16
      have fj : f j = bi (hs sh j ∨ hs F j) := by rw [hf j (by omega), if_neg (Nat.lt_irrefl j)]
      have put : ∀ x : Int32, x = S.2.1 18 j → (∀ i, i < 16 → upd f j x i = if i < j + 1 then S.2.1 18 i else bi (hs sh i ∨ hs F i)) ∧ (∀ i, 16 ≤ i → upd f j x i = S.2.1 18 i) := by
        intro x hx
        refine ⟨fun i hi => ?_, fun i hi => ?_⟩
        · by_cases hij : i = j
          · subst hij
            rw [upd_same, if_pos (by omega), hx]
          · rw [upd_lt hij, hf i hi]
            by_cases z : i < j
            · rw [if_pos z, if_pos (by omega)]
            · rw [if_neg z, if_neg (by omega)]
        · rw [upd_lt (by omega), hf16 i hi]
      repeat (refine hG.1 _ _ _ _ _ _ rfl ?_)
      rw [show (st18 (sThr S (nI 0)) f).1 12 0 = nI n from h0]
      refine And.intro (fun h1 => ?_) (fun h1 => ?_)
      · exact absurd h1 (nI_ge (by omega) (by omega))
      · repeat (refine hG.1 _ _ _ _ _ _ rfl ?_)
        refine And.intro (vp_in_nI ((show j < 16 by omega)) (by decide)) ?_; rw [nI_clamp (Nat.lt_trans ((show j < 16 by omega)) (by decide))]
        rw [show (st18 (sThr S (nI 0)) f).2.1 18 j = bi (hs sh j ∨ hs F j) from fj]
        repeat (refine hG.1 _ _ _ _ _ _ rfl ?_)
        refine And.intro (fun h2 => ?_) (fun h2 => ?_)
        · rw [bi_0] at h2
          have h3 : nI 0 = S.2.1 18 j := by rw [hsh j (by omega), bi_f (fun z => h2 (Or.inl z))]
          have g := ih (upd f j (nI 0)) (put _ h3).1 (put _ h3).2
          rw [← st18_up (sThr S (nI 0)) f] at g
          repeat (refine hG.1 _ _ _ _ _ _ rfl ?_)
          refine And.intro (vp_in_nI ((show j < 16 by omega)) (by decide)) ?_; rw [nI_clamp (Nat.lt_trans ((show j < 16 by omega)) (by decide))]
          rw [nar_b0]
          repeat (first | (refine wk hG ?_ (g); (repeat (refine And.intro (by first | with_reducible rfl | with_reducible exact nI_add _ _ | with_reducible exact pk_m1 _ | rfl) ?_)); exact trivial) | refine hG.1 _ _ _ _ _ _ rfl ?_)
        · rw [bi_n] at h2
          repeat (refine hG.1 _ _ _ _ _ _ rfl ?_)
          refine And.intro (fun h4 => ?_) (fun h4 => ?_)
          · have h5 : hs F j := by
              by_cases z : hs F j
              · exact z
              · exact absurd ((hs_shr0 (by omega)).mpr z) h4
            have h3 : nI 0 = S.2.1 18 j := by rw [hsh j (by omega), bi_f (hFs j (by omega) h5)]
            have g := ih (upd f j (nI 0)) (put _ h3).1 (put _ h3).2
            rw [← st18_up (sThr S (nI 0)) f] at g
            repeat (refine hG.1 _ _ _ _ _ _ rfl ?_)
            refine And.intro (vp_in_nI ((show j < 16 by omega)) (by decide)) ?_; rw [nI_clamp (Nat.lt_trans ((show j < 16 by omega)) (by decide))]
            rw [nar_b0]
            repeat (first | (refine wk hG ?_ (g); (repeat (refine And.intro (by first | with_reducible rfl | with_reducible exact nI_add _ _ | with_reducible exact pk_m1 _ | rfl) ?_)); exact trivial) | refine hG.1 _ _ _ _ _ _ rfl ?_)
          · have h5 : ¬ hs F j := (hs_shr0 (by omega)).mp h4
            have h3 : nI 1 = S.2.1 18 j := by rw [hsh j (by omega), bi_t (h2.resolve_right h5)]
            have g := ih (upd f j (nI 1)) (put _ h3).1 (put _ h3).2
            rw [← st18_up (sThr S (nI 0)) f] at g
            repeat (refine hG.1 _ _ _ _ _ _ rfl ?_)
            refine And.intro (vp_in_nI ((show j < 16 by omega)) (by decide)) ?_; rw [nI_clamp (Nat.lt_trans ((show j < 16 by omega)) (by decide))]
            rw [nar_b1]
            repeat (first | (refine wk hG ?_ (g); (repeat (refine And.intro (by first | with_reducible rfl | with_reducible exact nI_add _ _ | with_reducible exact pk_m1 _ | rfl) ?_)); exact trivial) | refine hG.1 _ _ _ _ _ _ rfl ?_)
    · intro f hf hf16
      repeat (refine hG.1 _ _ _ _ _ _ rfl ?_)
      rw [show (st18 (sThr S (nI 0)) f).1 12 0 = nI n from h0]
      refine And.intro (fun h1 => ?_) (fun h1 => ?_)
      · repeat (refine hG.1 _ _ _ _ _ _ rfl ?_)
        refine And.intro rfl (And.intro rfl ?_)
        have e : f = S.2.1 18 := by
          funext i
          by_cases hi : i < 16
          · rw [hf i hi]
            by_cases z : i < n
            · rw [if_pos z]
            · rw [if_neg z, hsh i hi]
              have := hcn i hi (by omega)
              unfold bi
              simp only [this, or_false]
          · exact hf16 i (by omega)
        rw [e]
        show st18 (sThr S (nI 0)) ((sThr S (nI 0)).2.1 18) = sThr S (nI 0)
        unfold st18
        rw [va_up_id]
      · exact absurd (nI_le (Nat.le_refl _) (by omega)) h1
  refine run_of (by decide +kernel) rfl (fun L xs G hG => ?_)
  have main : ∀ i, i ≤ t → ∀ f : Nat → Int32, (∀ k, k < 16 → f k = bi (hs (B i) k)) → (∀ j, 16 ≤ j → f j = S.2.1 18 j) → G 0 28 [(4, .int (nI i)), (3, .int (Z i)), (0, .ref 12), (1, .int (nI a)), (2, .int (nI t))] [] (st18 (sThr S (nI 0)) f) := by
    refine loop_up (fun i hi ih => ?_) ?_
    · intro f hf hf16
      have h2 := hrb i (by omega)
      repeat (refine hG.1 _ _ _ _ _ _ rfl ?_)
      refine And.intro (fun h1 => ?_) (fun h1 => ?_)
      · exact absurd h1 (nI_ge (by omega) (by omega))
      · repeat (refine hG.1 _ _ _ _ _ _ rfl ?_)
        refine And.intro rfl (cx (hpipe i (by omega) f hf) rfl ?_)
        repeat (refine hG.1 _ _ _ _ _ _ rfl ?_)
        refine And.intro (vp_in_nI ((show r i < 16 by omega)) (by decide)) ?_; rw [nI_clamp (Nat.lt_trans ((show r i < 16 by omega)) (by decide))]
        rw [nar_b1]
        have g := ih (upd f (r i) (nI 1)) (by rw [(hBstep i hi).1]; exact hfst (B i) (r i) f (by omega) hf) (fun j hj => by rw [upd_lt (by omega)]; exact hf16 j hj)
        rw [(hBstep i hi).2, ← st18_up (sThr S (nI 0)) f] at g
        repeat (first | (refine wk hG ?_ (g); (repeat (refine And.intro (by first | with_reducible rfl | with_reducible exact nI_add _ _ | with_reducible exact pk_m1 _ | rfl) ?_)); exact trivial) | refine hG.1 _ _ _ _ _ _ rfl ?_)
    · intro f hf hf16
      have h2 := hrb t (Nat.le_refl _)
      have hM2 : MR (st18 (sThr S (nI 0)) f) n nb rp (B t) := MR_18 (S := sThr S (nI 0)) hM hf (hB0 t (Nat.le_refl _))
      have hf2 := hfst (B t) (r t) f (by omega) hf
      have hM3 : MR (st18 (sThr S (nI 0)) (upd f (r t) (nI 1))) n nb rp (B t ||| one (r t)) := MR_18 (S := sThr S (nI 0)) hM hf2 (by
        rw [hs_or (by omega), hs_one (by omega) (by omega)]
        rintro (z | z)
        · exact hB0 t (Nat.le_refl _) z
        · omega)
      have hF : ∀ j, j < 32 → (hs (Z t ||| one (r t)) j ↔ c j = true ∧ k ≤ j) := by
        intro j hj
        rw [hs_or hj, hs_one (by omega) hj, hZj t (Nat.le_refl _) j hj, ← hrt]
        constructor
        · rintro (⟨z, w⟩ | z)
          · exact ⟨z, by omega⟩
          · subst z; exact ⟨h2.2.2, Nat.le_refl _⟩
        · rintro ⟨z, w⟩
          by_cases x : r t = j
          · exact Or.inr x
          · exact Or.inl ⟨z, by omega⟩
      have eT : ∀ g : Nat → Int32, ∀ x : Int32, smL (inA (st18 (sThr S (nI 0)) g).2.1 a) (tknX (st18 (sThr S (nI 0)) g).2.1 nb rp x) n = smL (inA S.2.1 a) (tknX S.2.1 nb rp x) n := by
        intro g x
        apply smL_congr
        intro j _
        exact ⟨rfl, fun _ => tknX_congr rfl rfl rfl rfl rfl rfl⟩
      have eB : B t = bfX S.2.1 sh n a k := by rw [hB]; simp only [hrt]
      have g := back 0 (Z t ||| one (r t)) hF L xs G (smL (inA S.2.1 a) (tknX S.2.1 nb rp (bfX S.2.1 sh n a k)) n) (smL (inA S.2.1 a) (tknX S.2.1 nb rp (bfX S.2.1 sh n a k ||| one k)) n) hG 0 (Nat.zero_le _) (upd f (r t) (nI 1)) (fun i hi => by
        rw [if_neg (Nat.not_lt_zero _), hf2 i hi]
        have z1 := hBj t (Nat.le_refl _) i (by omega)
        have z2 := hZj t (Nat.le_refl _) i (by omega)
        unfold bi
        simp only [hs_or (show i < 32 by omega), z1, z2, or_assoc]) (fun j hj => by rw [upd_lt (by omega)]; exact hf16 j hj)
      repeat (refine hG.1 _ _ _ _ _ _ rfl ?_)
      refine And.intro (fun h1 => ?_) (fun h1 => ?_)
      · repeat (refine hG.1 _ _ _ _ _ _ rfl ?_)
        refine And.intro rfl (cx (m_takenBy (st18 (sThr S (nI 0)) f) a q n nb rp (B t) hM2 (by omega) hA) rfl ?_)
        rw [eT, eB]
        repeat (refine hG.1 _ _ _ _ _ _ rfl ?_)
        refine And.intro rfl (cx (hpipe t (Nat.le_refl _) f hf) rfl ?_)
        repeat (refine hG.1 _ _ _ _ _ _ rfl ?_)
        refine And.intro (vp_in_nI ((show r t < 16 by omega)) (by decide)) ?_; rw [nI_clamp (Nat.lt_trans ((show r t < 16 by omega)) (by decide))]
        rw [nar_b1]
        repeat (refine hG.1 _ _ _ _ _ _ rfl ?_)
        refine And.intro rfl (cx (m_takenBy (st18 (sThr S (nI 0)) (upd f (r t) (nI 1))) a q n nb rp (B t ||| one (r t)) hM3 (by omega) hA) rfl ?_)
        rw [eT, eB, hrt]
        rw [hrt] at g
        repeat (first | (refine wk hG ?_ (g); (repeat (refine And.intro (by first | with_reducible rfl | with_reducible exact nI_add _ _ | with_reducible exact pk_m1 _ | rfl) ?_)); exact trivial) | refine hG.1 _ _ _ _ _ _ rfl ?_)
      · exact absurd (nI_le (Nat.le_refl _) (by omega)) h1
  have hst := m_isStep S a q n nb na rp sh (nI t) hM ha8 hna ha hA
  rw [bi_t (by rw [h]; rfl)] at hst
  have g := main 0 (Nat.zero_le _) (S.2.1 18) (fun j hj => by
    rw [hsh j hj]
    have z := hBj 0 (Nat.zero_le _) j (by omega)
    have w : ¬ (c j = true ∧ r 0 < j) := by
      rintro ⟨x, y⟩
      rw [hr0 j y (by omega)] at x
      cases x
    unfold bi
    simp only [z, w, or_false]) (fun j hj => rfl)
  have eZ : Z 0 = nI 0 := hs_ext fun j hj => by
    rw [hZj 0 (Nat.zero_le _) j hj]
    constructor
    · rintro ⟨x, y⟩
      rw [hr0 j y hj] at x
      cases x
    · intro z
      exact absurd z (hs_0 hj)
  have eS : st18 (sThr S (nI 0)) (S.2.1 18) = sThr S (nI 0) := by
    show st18 (sThr S (nI 0)) ((sThr S (nI 0)).2.1 18) = sThr S (nI 0)
    unfold st18
    rw [va_up_id]
  rw [eZ, eS] at g
  repeat (refine hG.1 _ _ _ _ _ _ rfl ?_)
  refine And.intro rfl (cx (hst) rfl ?_)
  repeat (refine hG.1 _ _ _ _ _ _ rfl ?_)
  refine And.intro (fun h => by first | exact absurd h (by decide) | exact False.elim (h (by decide))) (fun _ => ?_)
  repeat (refine hG.1 _ _ _ _ _ _ rfl ?_)
  refine And.intro rfl (cx (m_fails_f S) rfl ?_)
  repeat (refine hG.1 _ _ _ _ _ _ rfl ?_)
  refine And.intro (fun _ => ?_) (fun h => by first | exact absurd h (by decide) | exact False.elim (h (by decide)))
  repeat (first | (refine wk hG ?_ (g); (repeat (refine And.intro (by first | with_reducible rfl | with_reducible exact nI_add _ _ | with_reducible exact pk_m1 _ | rfl) ?_)); exact trivial) | refine hG.1 _ _ _ _ _ _ rfl ?_)
end
section
theorem nI_ne_m1 {k : Nat} (h : k < 100) : ¬ nI k = -1 := by
  intro z
  have h4 : (nI k).toInt = k := nI_toInt (by omega)
  rw [z] at h4
  have h5 : (-1 : Int32).toInt = -1 := by decide
  omega
def BnM (A : Nat → Nat → Int32) (n nb : Nat) : Prop := ∀ b, b < nb → ∃ q : Nat, q < n ∧ A 7 b = nI q
theorem m_ranked_0 (S : PS) (n nb : Nat) (rp sh y : Int32) (hM : MR S n nb rp sh) (hB : BnM S.2.1 n nb) (h : y < 0 ∨ ∀ j, j < nb → ¬ hs rp j → ¬ nI (rkN (csX S.2.1 nb rp sh) (S.2.1 9) rp nb j) = y) : Run 0 96 [.ref 12, .int y] S (.inl (some (nI 0))) (sThr S (nI 1)) := by
  refine run_of (by decide +kernel) rfl (fun L xs G hG => ?_)
  have tail : G 0 14 [(2, .int (-1)), (0, .ref 12), (1, .int y)] [] S := by
    repeat (refine hG.1 _ _ _ _ _ _ rfl ?_)
    refine And.intro (fun h => by first | exact absurd h (by decide) | exact False.elim (h (by decide))) (fun _ => ?_)
    repeat (refine hG.1 _ _ _ _ _ _ rfl ?_)
    refine And.intro rfl (cx (m_fails_t S (nI 1) (by decide)) rfl ?_)
    repeat (refine hG.1 _ _ _ _ _ _ rfl ?_)
    refine And.intro (fun h => by first | exact absurd h (by decide) | exact False.elim (h (by decide))) (fun _ => ?_)
    repeat (refine hG.1 _ _ _ _ _ _ rfl ?_)
    exact And.intro rfl (And.intro rfl rfl)
  repeat (refine hG.1 _ _ _ _ _ _ rfl ?_)
  refine And.intro (fun h1 => ?_) (fun h1 => ?_)
  · have h2 : ¬ y < 0 := by rw [Int32.not_lt]; exact h1
    have h3 := h.resolve_left h2
    repeat (refine hG.1 _ _ _ _ _ _ rfl ?_)
    refine And.intro rfl (cx (m_rank_f S n nb rp sh y hM hB h3) rfl ?_)
    repeat (first | (refine wk hG ?_ (tail); (repeat (refine And.intro (by first | with_reducible rfl | with_reducible exact nI_add _ _ | with_reducible exact pk_m1 _ | rfl) ?_)); exact trivial) | refine hG.1 _ _ _ _ _ _ rfl ?_)
  · repeat (first | (refine wk hG ?_ (tail); (repeat (refine And.intro (by first | with_reducible rfl | with_reducible exact nI_add _ _ | with_reducible exact pk_m1 _ | rfl) ?_)); exact trivial) | refine hG.1 _ _ _ _ _ _ rfl ?_)
theorem m_ranked (S : PS) (k n nb : Nat) (rp sh y : Int32) (hM : MR S n nb rp sh) (hB : BnM S.2.1 n nb) (h0 : ¬ y < 0) (hk : k < nb) (hr : ¬ hs rp k) (hy : nI (rkN (csX S.2.1 nb rp sh) (S.2.1 9) rp nb k) = y) (hu : ∀ j, j < nb → ¬ hs rp j → nI (rkN (csX S.2.1 nb rp sh) (S.2.1 9) rp nb j) = y → j = k) : Run 0 96 [.ref 12, .int y] S (.inl (some (nI k))) (sThr S (nI 0)) := by
  have hnb := hM.1.2.2.2.2
  refine run_of (by decide +kernel) rfl (fun L xs G hG => ?_)
  repeat (refine hG.1 _ _ _ _ _ _ rfl ?_)
  refine And.intro (fun h1 => ?_) (fun h1 => ?_)
  · repeat (refine hG.1 _ _ _ _ _ _ rfl ?_)
    refine And.intro rfl (cx (m_rank_t S k n nb rp sh y hM hB hk hr hy hu) rfl ?_)
    repeat (refine hG.1 _ _ _ _ _ _ rfl ?_)
    refine And.intro (fun h2 => ?_) (fun h2 => ?_)
    · repeat (refine hG.1 _ _ _ _ _ _ rfl ?_)
      refine And.intro rfl (cx (m_fails_f S) rfl ?_)
      repeat (refine hG.1 _ _ _ _ _ _ rfl ?_)
      refine And.intro (fun _ => ?_) (fun h => by first | exact absurd h (by decide) | exact False.elim (h (by decide)))
      repeat (refine hG.1 _ _ _ _ _ _ rfl ?_)
      exact And.intro rfl (And.intro rfl rfl)
    · exact absurd h2 (nI_ne_m1 (by omega))
  · exact absurd (by rw [← Int32.not_lt]; exact h0) h1
theorem m_plan_0 (S : PS) (y : Int32) (h : noR y (nI 0) (nI 1000)) : Run 0 97 [.ref 12, .int y] S (.inl (some (nI 0))) (sThr S (nI 1)) := by
  refine run_of (by decide +kernel) rfl (fun L xs G hG => ?_)
  repeat (refine hG.1 _ _ _ _ _ _ rfl ?_)
  refine cx (m_isIn_f S h) rfl ?_
  repeat (refine hG.1 _ _ _ _ _ _ rfl ?_)
  refine And.intro (fun _ => ?_) (fun h => by first | exact absurd h (by decide) | exact False.elim (h (by decide)))
  repeat (refine hG.1 _ _ _ _ _ _ rfl ?_)
  refine And.intro rfl (cx (m_fails_t S (nI 1) (by decide)) rfl ?_)
  repeat (refine hG.1 _ _ _ _ _ _ rfl ?_)
  refine And.intro (fun h => by first | exact absurd h (by decide) | exact False.elim (h (by decide))) (fun _ => ?_)
  repeat (refine hG.1 _ _ _ _ _ _ rfl ?_)
  exact And.intro rfl (And.intro rfl rfl)
theorem m_plan (S : PS) (n nb m : Nat) (rp sh y : Int32) (l : Nat → Nat) (rb : Nat → Int32) (hM : MR S n nb rp sh) (hB : BnM S.2.1 n nb) (h : okR y (nI 0) (nI 1000)) (hm : m ≤ nb)
    (h1 : ∀ p, p < m → rb p = nI (l p) ∧ l p < nb ∧ ¬ hs rp (l p) ∧ rkN (csX S.2.1 nb rp sh) (S.2.1 9) rp nb (l p) = p) (h2 : ∀ k, k < nb → ¬ hs rp k → ∃ p, p < m ∧ l p = k) : Run 0 97 [.ref 12, .int y] S (.inl (some (plF (S.2.1 9) rb y m).2)) (sThr S (nI 0)) := by
  obtain ⟨⟨h0, h1n, hn, hb0, hnb⟩, hW, -, ⟨-, -, h24, -, -⟩, -⟩ := id hM
  have rkt : ∀ p, p < m → Run 0 95 [.ref 12, .int (nI p)] (sThr S (nI 0)) (.inl (some (nI (l p)))) (sThr S (nI 0)) := by
    intro p hp
    obtain ⟨e1, e2, e3, e4⟩ := h1 p hp
    refine m_rank_t (sThr S (nI 0)) (l p) n nb rp sh (nI p) hM hB e2 e3 (by rw [← e4]; rw [e4]; exact congrArg nI e4) ?_
    intro j hj hjr hje
    obtain ⟨p2, hp2, rfl⟩ := h2 j hj hjr
    have e5 := (h1 p2 hp2).2.2.2
    have e6 : nI p2 = nI p := by
      rw [← hje]
      exact (congrArg nI e5).symm
    rw [(nI_eq (by omega) (by omega)).mp e6]
  have rkf : Run 0 95 [.ref 12, .int (nI m)] (sThr S (nI 0)) (.inl (some (-1))) (sThr S (nI 0)) := by
    refine m_rank_f (sThr S (nI 0)) n nb rp sh (nI m) hM hB ?_
    intro j hj hjr hje
    obtain ⟨p2, hp2, rfl⟩ := h2 j hj hjr
    have e5 := (h1 p2 hp2).2.2.2
    have e6 : nI p2 = nI m := by
      rw [← hje]
      exact (congrArg nI e5).symm
    have := (nI_eq (by omega) (by omega)).mp e6
    omega
  refine run_of (by decide +kernel) rfl (fun L xs G hG => ?_)
  have main : ∀ p, p ≤ m → G 0 39 [(5, .int (if p < m then nI (l p) else -1)), (4, .int (nI p)), (3, .int (plF (S.2.1 9) rb y p).2), (2, .int (plF (S.2.1 9) rb y p).1), (0, .ref 12)] [] (sThr S (nI 0)) := by
    refine loop_up (fun p hp ih => ?_) ?_
    · obtain ⟨e1, e2, e3, e4⟩ := h1 p hp
      rw [if_pos hp]
      have nxt : Run 0 95 [.ref 12, .int (nI (p + 1))] (sThr S (nI 0)) (.inl (some (if p + 1 < m then nI (l (p + 1)) else -1))) (sThr S (nI 0)) := by
        by_cases z : p + 1 < m
        · rw [if_pos z]; exact rkt _ z
        · rw [if_neg z, show p + 1 = m by omega]; exact rkf
      rw [← nI_add] at nxt
      repeat (refine hG.1 _ _ _ _ _ _ rfl ?_)
      refine And.intro (fun h3 => ?_) (fun h3 => ?_)
      · exact absurd h3 (nI_ne_m1 (by omega))
      · repeat (refine hG.1 _ _ _ _ _ _ rfl ?_)
        refine And.intro (vp_in_nI ((show l p < 20 by omega)) (by decide)) ?_; rw [nI_clamp (Nat.lt_trans ((show l p < 20 by omega)) (by decide))]
        rw [show (sThr S (nI 0)).2.1 24 (l p) = S.2.1 9 (l p) by rw [← h24]]
        repeat (refine hG.1 _ _ _ _ _ _ rfl ?_)
        refine And.intro (fun h4 => ?_) (fun h4 => ?_)
        · have e : plF (S.2.1 9) rb y (p + 1) = plF (S.2.1 9) rb y p := by
            rw [plF, e1, nI_clamp (show l p < 2 ^ 31 by omega), if_neg]
            rw [Int32.not_le]
            exact h4
          rw [e] at ih
          repeat (refine hG.1 _ _ _ _ _ _ rfl ?_)
          refine And.intro rfl (cx (nxt) rfl ?_)
          repeat (first | (refine wk hG ?_ (ih); (repeat (refine And.intro (by first | with_reducible rfl | with_reducible exact nI_add _ _ | with_reducible exact pk_m1 _ | rfl) ?_)); exact trivial) | refine hG.1 _ _ _ _ _ _ rfl ?_)
        · have e : plF (S.2.1 9) rb y (p + 1) = ((plF (S.2.1 9) rb y p).1 - S.2.1 9 (l p), (plF (S.2.1 9) rb y p).2 ||| one (l p)) := by
            rw [plF, e1, nI_clamp (show l p < 2 ^ 31 by omega), if_pos]
            rw [← Int32.not_lt]
            exact h4
          rw [e] at ih
          repeat (refine hG.1 _ _ _ _ _ _ rfl ?_)
          refine And.intro (vp_in_nI ((show l p < 20 by omega)) (by decide)) ?_; rw [nI_clamp (Nat.lt_trans ((show l p < 20 by omega)) (by decide))]
          rw [show (sThr S (nI 0)).2.1 24 (l p) = S.2.1 9 (l p) by rw [← h24]]
          repeat (refine hG.1 _ _ _ _ _ _ rfl ?_)
          refine And.intro rfl (cx (nxt) rfl ?_)
          repeat (first | (refine wk hG ?_ (ih); (repeat (refine And.intro (by first | with_reducible rfl | with_reducible exact nI_add _ _ | with_reducible exact pk_m1 _ | rfl) ?_)); exact trivial) | refine hG.1 _ _ _ _ _ _ rfl ?_)
    · rw [if_neg (Nat.lt_irrefl m)]
      repeat (refine hG.1 _ _ _ _ _ _ rfl ?_)
      refine And.intro (fun _ => ?_) (fun h => by first | exact absurd h (by decide) | exact False.elim (h (by decide)))
      repeat (refine hG.1 _ _ _ _ _ _ rfl ?_)
      exact And.intro rfl (And.intro rfl rfl)
  have fst : Run 0 95 [.ref 12, .int (nI 0)] (sThr S (nI 0)) (.inl (some (if 0 < m then nI (l 0) else -1))) (sThr S (nI 0)) := by
    by_cases z : 0 < m
    · rw [if_pos z]; exact rkt _ z
    · have e0 : m = 0 := by omega
      rw [e0] at rkf
      rw [if_neg z]
      exact rkf
  have g := main 0 (Nat.zero_le _)
  simp only [plF] at g
  repeat (refine hG.1 _ _ _ _ _ _ rfl ?_)
  refine cx (m_isIn_t S h) rfl ?_
  repeat (refine hG.1 _ _ _ _ _ _ rfl ?_)
  refine And.intro (fun h => by first | exact absurd h (by decide) | exact False.elim (h (by decide))) (fun _ => ?_)
  repeat (refine hG.1 _ _ _ _ _ _ rfl ?_)
  refine And.intro rfl (cx (m_fails_f S) rfl ?_)
  repeat (refine hG.1 _ _ _ _ _ _ rfl ?_)
  refine And.intro (fun _ => ?_) (fun h => by first | exact absurd h (by decide) | exact False.elim (h (by decide)))
  repeat (refine hG.1 _ _ _ _ _ _ rfl ?_)
  refine And.intro rfl (cx (fst) rfl ?_)
  repeat (first | (refine wk hG ?_ (g); (repeat (refine And.intro (by first | with_reducible rfl | with_reducible exact nI_add _ _ | with_reducible exact pk_m1 _ | rfl) ?_)); exact trivial) | refine hG.1 _ _ _ _ _ _ rfl ?_)
end
section
abbrev outS (S : PS) (v : Int64) : PS := (S.1, S.2.1, vp_updL S.2.2 0 v)
abbrev zl (r : Int32) : Int64 := if r = 0 then Int64.ofNat 0 else Int64.ofNat 1
theorem w_addNode (S S' : PS) (x y r : Int32) (h : Run 0 1 [.ref 0, .int x, .int y] S (.inl (some r)) S') : Run 0 98 [.ref 0, .int x, .int y, .ref 26] S (.inl (some (nI 0))) (outS S' (r.toInt64)) := by
  refine run_of (by decide +kernel) rfl (fun L xs G hG => ?_)
  repeat (refine hG.1 _ _ _ _ _ _ rfl ?_)
  refine And.intro rfl (cx (h) rfl ?_)
  repeat (refine hG.1 _ _ _ _ _ _ rfl ?_)
  refine And.intro (vp_in_nI ((show 0 < 1 by omega)) (by decide)) ?_; rw [nI_clamp (Nat.lt_trans ((show 0 < 1 by omega)) (by decide))]
  repeat (refine hG.1 _ _ _ _ _ _ rfl ?_)
  exact And.intro rfl (And.intro rfl rfl)
theorem w_addNode_0 (S S' : PS) (x y : Int32) (h : Run 1 1 [.ref 0, .int x, .int y] S (.inr 0) S') : Run 1 98 [.ref 0, .int x, .int y, .ref 26] S (.inl (some (nI 1))) S' := by
  refine run_of (by decide +kernel) rfl (fun L xs G hG => ?_)
  repeat (refine hG.1 _ _ _ _ _ _ rfl ?_)
  refine And.intro rfl (cx (h) rfl ?_)
  repeat (refine hG.1 _ _ _ _ _ _ rfl ?_)
  exact And.intro rfl (And.intro rfl rfl)
theorem w_addNode_1 (S S' : PS) (x y : Int32) (h : Run 1 1 [.ref 0, .int x, .int y] S (.inr 1) S') : Run 1 98 [.ref 0, .int x, .int y, .ref 26] S (.inl (some (nI 2))) S' := by
  refine run_of (by decide +kernel) rfl (fun L xs G hG => ?_)
  repeat (refine hG.1 _ _ _ _ _ _ rfl ?_)
  refine And.intro rfl (cx (h) rfl ?_)
  repeat (refine hG.1 _ _ _ _ _ _ rfl ?_)
  exact And.intro rfl (And.intro rfl rfl)
theorem w_addNode_2 (S S' : PS) (x y : Int32) (h : Run 1 1 [.ref 0, .int x, .int y] S (.inr 2) S') : Run 1 98 [.ref 0, .int x, .int y, .ref 26] S (.inl (some (nI 3))) S' := by
  refine run_of (by decide +kernel) rfl (fun L xs G hG => ?_)
  repeat (refine hG.1 _ _ _ _ _ _ rfl ?_)
  refine And.intro rfl (cx (h) rfl ?_)
  repeat (refine hG.1 _ _ _ _ _ _ rfl ?_)
  exact And.intro rfl (And.intro rfl rfl)
theorem w_setBackground (S S' : PS) (x y r : Int32) (h : Run 0 2 [.ref 0, .int x, .int y] S (.inl (some r)) S') : Run 0 99 [.ref 0, .int x, .int y, .ref 26] S (.inl (some (nI 0))) (outS S' (r.toInt64)) := by
  refine run_of (by decide +kernel) rfl (fun L xs G hG => ?_)
  repeat (refine hG.1 _ _ _ _ _ _ rfl ?_)
  refine And.intro rfl (cx (h) rfl ?_)
  repeat (refine hG.1 _ _ _ _ _ _ rfl ?_)
  refine And.intro (vp_in_nI ((show 0 < 1 by omega)) (by decide)) ?_; rw [nI_clamp (Nat.lt_trans ((show 0 < 1 by omega)) (by decide))]
  repeat (refine hG.1 _ _ _ _ _ _ rfl ?_)
  exact And.intro rfl (And.intro rfl rfl)
theorem w_setBackground_0 (S S' : PS) (x y : Int32) (h : Run 1 2 [.ref 0, .int x, .int y] S (.inr 0) S') : Run 1 99 [.ref 0, .int x, .int y, .ref 26] S (.inl (some (nI 1))) S' := by
  refine run_of (by decide +kernel) rfl (fun L xs G hG => ?_)
  repeat (refine hG.1 _ _ _ _ _ _ rfl ?_)
  refine And.intro rfl (cx (h) rfl ?_)
  repeat (refine hG.1 _ _ _ _ _ _ rfl ?_)
  exact And.intro rfl (And.intro rfl rfl)
theorem w_setBackground_1 (S S' : PS) (x y : Int32) (h : Run 1 2 [.ref 0, .int x, .int y] S (.inr 1) S') : Run 1 99 [.ref 0, .int x, .int y, .ref 26] S (.inl (some (nI 2))) S' := by
  refine run_of (by decide +kernel) rfl (fun L xs G hG => ?_)
  repeat (refine hG.1 _ _ _ _ _ _ rfl ?_)
  refine And.intro rfl (cx (h) rfl ?_)
  repeat (refine hG.1 _ _ _ _ _ _ rfl ?_)
  exact And.intro rfl (And.intro rfl rfl)
theorem w_setPressure (S S' : PS) (x y r : Int32) (h : Run 0 3 [.ref 0, .int x, .int y] S (.inl (some r)) S') : Run 0 100 [.ref 0, .int x, .int y, .ref 26] S (.inl (some (nI 0))) (outS S' (r.toInt64)) := by
  refine run_of (by decide +kernel) rfl (fun L xs G hG => ?_)
  repeat (refine hG.1 _ _ _ _ _ _ rfl ?_)
  refine And.intro rfl (cx (h) rfl ?_)
  repeat (refine hG.1 _ _ _ _ _ _ rfl ?_)
  refine And.intro (vp_in_nI ((show 0 < 1 by omega)) (by decide)) ?_; rw [nI_clamp (Nat.lt_trans ((show 0 < 1 by omega)) (by decide))]
  repeat (refine hG.1 _ _ _ _ _ _ rfl ?_)
  exact And.intro rfl (And.intro rfl rfl)
theorem w_setPressure_0 (S S' : PS) (x y : Int32) (h : Run 1 3 [.ref 0, .int x, .int y] S (.inr 0) S') : Run 1 100 [.ref 0, .int x, .int y, .ref 26] S (.inl (some (nI 1))) S' := by
  refine run_of (by decide +kernel) rfl (fun L xs G hG => ?_)
  repeat (refine hG.1 _ _ _ _ _ _ rfl ?_)
  refine And.intro rfl (cx (h) rfl ?_)
  repeat (refine hG.1 _ _ _ _ _ _ rfl ?_)
  exact And.intro rfl (And.intro rfl rfl)
theorem w_setPressure_1 (S S' : PS) (x y : Int32) (h : Run 1 3 [.ref 0, .int x, .int y] S (.inr 1) S') : Run 1 100 [.ref 0, .int x, .int y, .ref 26] S (.inl (some (nI 2))) S' := by
  refine run_of (by decide +kernel) rfl (fun L xs G hG => ?_)
  repeat (refine hG.1 _ _ _ _ _ _ rfl ?_)
  refine And.intro rfl (cx (h) rfl ?_)
  repeat (refine hG.1 _ _ _ _ _ _ rfl ?_)
  exact And.intro rfl (And.intro rfl rfl)
theorem w_addMeter (S S' : PS) (x r : Int32) (h : Run 0 4 [.ref 0, .int x] S (.inl (some r)) S') : Run 0 101 [.ref 0, .int x, .ref 26] S (.inl (some (nI 0))) (outS S' (zl r)) := by
  refine run_of (by decide +kernel) rfl (fun L xs G hG => ?_)
  repeat (refine hG.1 _ _ _ _ _ _ rfl ?_)
  refine And.intro rfl (cx (h) rfl ?_)
  repeat (refine hG.1 _ _ _ _ _ _ rfl ?_)
  refine And.intro (fun h1 => ?_) (fun h1 => ?_)
  · repeat (refine hG.1 _ _ _ _ _ _ rfl ?_)
    refine And.intro (vp_in_nI ((show 0 < 1 by omega)) (by decide)) ?_; rw [nI_clamp (Nat.lt_trans ((show 0 < 1 by omega)) (by decide))]
    repeat (refine hG.1 _ _ _ _ _ _ rfl ?_)
    rw [zl, if_pos h1]
    exact And.intro rfl (And.intro rfl rfl)
  · repeat (refine hG.1 _ _ _ _ _ _ rfl ?_)
    refine And.intro (vp_in_nI ((show 0 < 1 by omega)) (by decide)) ?_; rw [nI_clamp (Nat.lt_trans ((show 0 < 1 by omega)) (by decide))]
    repeat (refine hG.1 _ _ _ _ _ _ rfl ?_)
    rw [zl, if_neg h1]
    exact And.intro rfl (And.intro rfl rfl)
theorem w_addMeter_1 (S S' : PS) (x : Int32) (h : Run 1 4 [.ref 0, .int x] S (.inr 1) S') : Run 1 101 [.ref 0, .int x, .ref 26] S (.inl (some (nI 1))) S' := by
  refine run_of (by decide +kernel) rfl (fun L xs G hG => ?_)
  repeat (refine hG.1 _ _ _ _ _ _ rfl ?_)
  refine And.intro rfl (cx (h) rfl ?_)
  repeat (refine hG.1 _ _ _ _ _ _ rfl ?_)
  exact And.intro rfl (And.intro rfl rfl)
theorem w_toggleValve (S S' : PS) (x r : Int32) (h : Run 0 5 [.ref 0, .int x] S (.inl (some r)) S') : Run 0 102 [.ref 0, .int x, .ref 26] S (.inl (some (nI 0))) (outS S' (zl r)) := by
  refine run_of (by decide +kernel) rfl (fun L xs G hG => ?_)
  repeat (refine hG.1 _ _ _ _ _ _ rfl ?_)
  refine And.intro rfl (cx (h) rfl ?_)
  repeat (refine hG.1 _ _ _ _ _ _ rfl ?_)
  refine And.intro (fun h1 => ?_) (fun h1 => ?_)
  · repeat (refine hG.1 _ _ _ _ _ _ rfl ?_)
    refine And.intro (vp_in_nI ((show 0 < 1 by omega)) (by decide)) ?_; rw [nI_clamp (Nat.lt_trans ((show 0 < 1 by omega)) (by decide))]
    repeat (refine hG.1 _ _ _ _ _ _ rfl ?_)
    rw [zl, if_pos h1]
    exact And.intro rfl (And.intro rfl rfl)
  · repeat (refine hG.1 _ _ _ _ _ _ rfl ?_)
    refine And.intro (vp_in_nI ((show 0 < 1 by omega)) (by decide)) ?_; rw [nI_clamp (Nat.lt_trans ((show 0 < 1 by omega)) (by decide))]
    repeat (refine hG.1 _ _ _ _ _ _ rfl ?_)
    rw [zl, if_neg h1]
    exact And.intro rfl (And.intro rfl rfl)
theorem w_toggleValve_1 (S S' : PS) (x : Int32) (h : Run 1 5 [.ref 0, .int x] S (.inr 1) S') : Run 1 102 [.ref 0, .int x, .ref 26] S (.inl (some (nI 1))) S' := by
  refine run_of (by decide +kernel) rfl (fun L xs G hG => ?_)
  repeat (refine hG.1 _ _ _ _ _ _ rfl ?_)
  refine And.intro rfl (cx (h) rfl ?_)
  repeat (refine hG.1 _ _ _ _ _ _ rfl ?_)
  exact And.intro rfl (And.intro rfl rfl)
theorem w_isSupplied (S S' : PS) (x r : Int32) (h : Run 0 6 [.ref 0, .int x] S (.inl (some r)) S') : Run 0 103 [.ref 0, .int x, .ref 26] S (.inl (some (nI 0))) (outS S' (zl r)) := by
  refine run_of (by decide +kernel) rfl (fun L xs G hG => ?_)
  repeat (refine hG.1 _ _ _ _ _ _ rfl ?_)
  refine And.intro rfl (cx (h) rfl ?_)
  repeat (refine hG.1 _ _ _ _ _ _ rfl ?_)
  refine And.intro (fun h1 => ?_) (fun h1 => ?_)
  · repeat (refine hG.1 _ _ _ _ _ _ rfl ?_)
    refine And.intro (vp_in_nI ((show 0 < 1 by omega)) (by decide)) ?_; rw [nI_clamp (Nat.lt_trans ((show 0 < 1 by omega)) (by decide))]
    repeat (refine hG.1 _ _ _ _ _ _ rfl ?_)
    rw [zl, if_pos h1]
    exact And.intro rfl (And.intro rfl rfl)
  · repeat (refine hG.1 _ _ _ _ _ _ rfl ?_)
    refine And.intro (vp_in_nI ((show 0 < 1 by omega)) (by decide)) ?_; rw [nI_clamp (Nat.lt_trans ((show 0 < 1 by omega)) (by decide))]
    repeat (refine hG.1 _ _ _ _ _ _ rfl ?_)
    rw [zl, if_neg h1]
    exact And.intro rfl (And.intro rfl rfl)
theorem w_isSupplied_1 (S S' : PS) (x : Int32) (h : Run 1 6 [.ref 0, .int x] S (.inr 1) S') : Run 1 103 [.ref 0, .int x, .ref 26] S (.inl (some (nI 1))) S' := by
  refine run_of (by decide +kernel) rfl (fun L xs G hG => ?_)
  repeat (refine hG.1 _ _ _ _ _ _ rfl ?_)
  refine And.intro rfl (cx (h) rfl ?_)
  repeat (refine hG.1 _ _ _ _ _ _ rfl ?_)
  exact And.intro rfl (And.intro rfl rfl)
theorem w_takes (S S' : PS) (x r : Int32) (h : Run 0 7 [.ref 0, .int x] S (.inl (some r)) S') : Run 0 104 [.ref 0, .int x, .ref 26] S (.inl (some (nI 0))) (outS S' (r.toInt64)) := by
  refine run_of (by decide +kernel) rfl (fun L xs G hG => ?_)
  repeat (refine hG.1 _ _ _ _ _ _ rfl ?_)
  refine And.intro rfl (cx (h) rfl ?_)
  repeat (refine hG.1 _ _ _ _ _ _ rfl ?_)
  refine And.intro (vp_in_nI ((show 0 < 1 by omega)) (by decide)) ?_; rw [nI_clamp (Nat.lt_trans ((show 0 < 1 by omega)) (by decide))]
  repeat (refine hG.1 _ _ _ _ _ _ rfl ?_)
  exact And.intro rfl (And.intro rfl rfl)
theorem w_takes_1 (S S' : PS) (x : Int32) (h : Run 1 7 [.ref 0, .int x] S (.inr 1) S') : Run 1 104 [.ref 0, .int x, .ref 26] S (.inl (some (nI 1))) S' := by
  refine run_of (by decide +kernel) rfl (fun L xs G hG => ?_)
  repeat (refine hG.1 _ _ _ _ _ _ rfl ?_)
  refine And.intro rfl (cx (h) rfl ?_)
  repeat (refine hG.1 _ _ _ _ _ _ rfl ?_)
  exact And.intro rfl (And.intro rfl rfl)
theorem w_flow (S S' : PS) (x r : Int32) (h : Run 0 8 [.ref 0, .int x] S (.inl (some r)) S') : Run 0 105 [.ref 0, .int x, .ref 26] S (.inl (some (nI 0))) (outS S' (r.toInt64)) := by
  refine run_of (by decide +kernel) rfl (fun L xs G hG => ?_)
  repeat (refine hG.1 _ _ _ _ _ _ rfl ?_)
  refine And.intro rfl (cx (h) rfl ?_)
  repeat (refine hG.1 _ _ _ _ _ _ rfl ?_)
  refine And.intro (vp_in_nI ((show 0 < 1 by omega)) (by decide)) ?_; rw [nI_clamp (Nat.lt_trans ((show 0 < 1 by omega)) (by decide))]
  repeat (refine hG.1 _ _ _ _ _ _ rfl ?_)
  exact And.intro rfl (And.intro rfl rfl)
theorem w_flow_1 (S S' : PS) (x : Int32) (h : Run 1 8 [.ref 0, .int x] S (.inr 1) S') : Run 1 105 [.ref 0, .int x, .ref 26] S (.inl (some (nI 1))) S' := by
  refine run_of (by decide +kernel) rfl (fun L xs G hG => ?_)
  repeat (refine hG.1 _ _ _ _ _ _ rfl ?_)
  refine And.intro rfl (cx (h) rfl ?_)
  repeat (refine hG.1 _ _ _ _ _ _ rfl ?_)
  exact And.intro rfl (And.intro rfl rfl)
theorem w_flow_2 (S S' : PS) (x : Int32) (h : Run 1 8 [.ref 0, .int x] S (.inr 2) S') : Run 1 105 [.ref 0, .int x, .ref 26] S (.inl (some (nI 2))) S' := by
  refine run_of (by decide +kernel) rfl (fun L xs G hG => ?_)
  repeat (refine hG.1 _ _ _ _ _ _ rfl ?_)
  refine And.intro rfl (cx (h) rfl ?_)
  repeat (refine hG.1 _ _ _ _ _ _ rfl ?_)
  exact And.intro rfl (And.intro rfl rfl)
theorem w_addArea (S S' : PS) (x r : Int32) (h : Run 0 10 [.ref 0, .int x] S (.inl (some r)) S') : Run 0 106 [.ref 0, .int x, .ref 26] S (.inl (some (nI 0))) (outS S' (r.toInt64)) := by
  refine run_of (by decide +kernel) rfl (fun L xs G hG => ?_)
  repeat (refine hG.1 _ _ _ _ _ _ rfl ?_)
  refine And.intro rfl (cx (h) rfl ?_)
  repeat (refine hG.1 _ _ _ _ _ _ rfl ?_)
  refine And.intro (vp_in_nI ((show 0 < 1 by omega)) (by decide)) ?_; rw [nI_clamp (Nat.lt_trans ((show 0 < 1 by omega)) (by decide))]
  repeat (refine hG.1 _ _ _ _ _ _ rfl ?_)
  exact And.intro rfl (And.intro rfl rfl)
theorem w_addArea_1 (S S' : PS) (x : Int32) (h : Run 1 10 [.ref 0, .int x] S (.inr 1) S') : Run 1 106 [.ref 0, .int x, .ref 26] S (.inl (some (nI 1))) S' := by
  refine run_of (by decide +kernel) rfl (fun L xs G hG => ?_)
  repeat (refine hG.1 _ _ _ _ _ _ rfl ?_)
  refine And.intro rfl (cx (h) rfl ?_)
  repeat (refine hG.1 _ _ _ _ _ _ rfl ?_)
  exact And.intro rfl (And.intro rfl rfl)
theorem w_addArea_2 (S S' : PS) (x : Int32) (h : Run 1 10 [.ref 0, .int x] S (.inr 2) S') : Run 1 106 [.ref 0, .int x, .ref 26] S (.inl (some (nI 2))) S' := by
  refine run_of (by decide +kernel) rfl (fun L xs G hG => ?_)
  repeat (refine hG.1 _ _ _ _ _ _ rfl ?_)
  refine And.intro rfl (cx (h) rfl ?_)
  repeat (refine hG.1 _ _ _ _ _ _ rfl ?_)
  exact And.intro rfl (And.intro rfl rfl)
theorem w_addExport (S S' : PS) (x y r : Int32) (h : Run 0 11 [.ref 0, .int x, .int y] S (.inl (some r)) S') : Run 0 107 [.ref 0, .int x, .int y, .ref 26] S (.inl (some (nI 0))) (outS S' (r.toInt64)) := by
  refine run_of (by decide +kernel) rfl (fun L xs G hG => ?_)
  repeat (refine hG.1 _ _ _ _ _ _ rfl ?_)
  refine And.intro rfl (cx (h) rfl ?_)
  repeat (refine hG.1 _ _ _ _ _ _ rfl ?_)
  refine And.intro (vp_in_nI ((show 0 < 1 by omega)) (by decide)) ?_; rw [nI_clamp (Nat.lt_trans ((show 0 < 1 by omega)) (by decide))]
  repeat (refine hG.1 _ _ _ _ _ _ rfl ?_)
  exact And.intro rfl (And.intro rfl rfl)
theorem w_addExport_1 (S S' : PS) (x y : Int32) (h : Run 1 11 [.ref 0, .int x, .int y] S (.inr 1) S') : Run 1 107 [.ref 0, .int x, .int y, .ref 26] S (.inl (some (nI 1))) S' := by
  refine run_of (by decide +kernel) rfl (fun L xs G hG => ?_)
  repeat (refine hG.1 _ _ _ _ _ _ rfl ?_)
  refine And.intro rfl (cx (h) rfl ?_)
  repeat (refine hG.1 _ _ _ _ _ _ rfl ?_)
  exact And.intro rfl (And.intro rfl rfl)
theorem w_addExport_2 (S S' : PS) (x y : Int32) (h : Run 1 11 [.ref 0, .int x, .int y] S (.inr 2) S') : Run 1 107 [.ref 0, .int x, .int y, .ref 26] S (.inl (some (nI 2))) S' := by
  refine run_of (by decide +kernel) rfl (fun L xs G hG => ?_)
  repeat (refine hG.1 _ _ _ _ _ _ rfl ?_)
  refine And.intro rfl (cx (h) rfl ?_)
  repeat (refine hG.1 _ _ _ _ _ _ rfl ?_)
  exact And.intro rfl (And.intro rfl rfl)
theorem w_nodes (S S' : PS) (x r : Int32) (h : Run 0 12 [.ref 0, .int x] S (.inl (some r)) S') : Run 0 108 [.ref 0, .int x, .ref 26] S (.inl (some (nI 0))) (outS S' (r.toInt64)) := by
  refine run_of (by decide +kernel) rfl (fun L xs G hG => ?_)
  repeat (refine hG.1 _ _ _ _ _ _ rfl ?_)
  refine And.intro rfl (cx (h) rfl ?_)
  repeat (refine hG.1 _ _ _ _ _ _ rfl ?_)
  refine And.intro (vp_in_nI ((show 0 < 1 by omega)) (by decide)) ?_; rw [nI_clamp (Nat.lt_trans ((show 0 < 1 by omega)) (by decide))]
  repeat (refine hG.1 _ _ _ _ _ _ rfl ?_)
  exact And.intro rfl (And.intro rfl rfl)
theorem w_nodes_1 (S S' : PS) (x : Int32) (h : Run 1 12 [.ref 0, .int x] S (.inr 1) S') : Run 1 108 [.ref 0, .int x, .ref 26] S (.inl (some (nI 1))) S' := by
  refine run_of (by decide +kernel) rfl (fun L xs G hG => ?_)
  repeat (refine hG.1 _ _ _ _ _ _ rfl ?_)
  refine And.intro rfl (cx (h) rfl ?_)
  repeat (refine hG.1 _ _ _ _ _ _ rfl ?_)
  exact And.intro rfl (And.intro rfl rfl)
theorem w_areaFlow (S S' : PS) (x r : Int32) (h : Run 0 13 [.ref 0, .int x] S (.inl (some r)) S') : Run 0 109 [.ref 0, .int x, .ref 26] S (.inl (some (nI 0))) (outS S' (r.toInt64)) := by
  refine run_of (by decide +kernel) rfl (fun L xs G hG => ?_)
  repeat (refine hG.1 _ _ _ _ _ _ rfl ?_)
  refine And.intro rfl (cx (h) rfl ?_)
  repeat (refine hG.1 _ _ _ _ _ _ rfl ?_)
  refine And.intro (vp_in_nI ((show 0 < 1 by omega)) (by decide)) ?_; rw [nI_clamp (Nat.lt_trans ((show 0 < 1 by omega)) (by decide))]
  repeat (refine hG.1 _ _ _ _ _ _ rfl ?_)
  exact And.intro rfl (And.intro rfl rfl)
theorem w_areaFlow_1 (S S' : PS) (x : Int32) (h : Run 1 13 [.ref 0, .int x] S (.inr 1) S') : Run 1 109 [.ref 0, .int x, .ref 26] S (.inl (some (nI 1))) S' := by
  refine run_of (by decide +kernel) rfl (fun L xs G hG => ?_)
  repeat (refine hG.1 _ _ _ _ _ _ rfl ?_)
  refine And.intro rfl (cx (h) rfl ?_)
  repeat (refine hG.1 _ _ _ _ _ _ rfl ?_)
  exact And.intro rfl (And.intro rfl rfl)
theorem w_areaFlow_2 (S S' : PS) (x : Int32) (h : Run 1 13 [.ref 0, .int x] S (.inr 2) S') : Run 1 109 [.ref 0, .int x, .ref 26] S (.inl (some (nI 2))) S' := by
  refine run_of (by decide +kernel) rfl (fun L xs G hG => ?_)
  repeat (refine hG.1 _ _ _ _ _ _ rfl ?_)
  refine And.intro rfl (cx (h) rfl ?_)
  repeat (refine hG.1 _ _ _ _ _ _ rfl ?_)
  exact And.intro rfl (And.intro rfl rfl)
theorem w_areaTakes (S S' : PS) (x r : Int32) (h : Run 0 14 [.ref 0, .int x] S (.inl (some r)) S') : Run 0 110 [.ref 0, .int x, .ref 26] S (.inl (some (nI 0))) (outS S' (r.toInt64)) := by
  refine run_of (by decide +kernel) rfl (fun L xs G hG => ?_)
  repeat (refine hG.1 _ _ _ _ _ _ rfl ?_)
  refine And.intro rfl (cx (h) rfl ?_)
  repeat (refine hG.1 _ _ _ _ _ _ rfl ?_)
  refine And.intro (vp_in_nI ((show 0 < 1 by omega)) (by decide)) ?_; rw [nI_clamp (Nat.lt_trans ((show 0 < 1 by omega)) (by decide))]
  repeat (refine hG.1 _ _ _ _ _ _ rfl ?_)
  exact And.intro rfl (And.intro rfl rfl)
theorem w_areaTakes_1 (S S' : PS) (x : Int32) (h : Run 1 14 [.ref 0, .int x] S (.inr 1) S') : Run 1 110 [.ref 0, .int x, .ref 26] S (.inl (some (nI 1))) S' := by
  refine run_of (by decide +kernel) rfl (fun L xs G hG => ?_)
  repeat (refine hG.1 _ _ _ _ _ _ rfl ?_)
  refine And.intro rfl (cx (h) rfl ?_)
  repeat (refine hG.1 _ _ _ _ _ _ rfl ?_)
  exact And.intro rfl (And.intro rfl rfl)
theorem w_loss (S S' : PS) (x r : Int32) (h : Run 0 15 [.ref 0, .int x] S (.inl (some r)) S') : Run 0 111 [.ref 0, .int x, .ref 26] S (.inl (some (nI 0))) (outS S' (r.toInt64)) := by
  refine run_of (by decide +kernel) rfl (fun L xs G hG => ?_)
  repeat (refine hG.1 _ _ _ _ _ _ rfl ?_)
  refine And.intro rfl (cx (h) rfl ?_)
  repeat (refine hG.1 _ _ _ _ _ _ rfl ?_)
  refine And.intro (vp_in_nI ((show 0 < 1 by omega)) (by decide)) ?_; rw [nI_clamp (Nat.lt_trans ((show 0 < 1 by omega)) (by decide))]
  repeat (refine hG.1 _ _ _ _ _ _ rfl ?_)
  exact And.intro rfl (And.intro rfl rfl)
theorem w_loss_1 (S S' : PS) (x : Int32) (h : Run 1 15 [.ref 0, .int x] S (.inr 1) S') : Run 1 111 [.ref 0, .int x, .ref 26] S (.inl (some (nI 1))) S' := by
  refine run_of (by decide +kernel) rfl (fun L xs G hG => ?_)
  repeat (refine hG.1 _ _ _ _ _ _ rfl ?_)
  refine And.intro rfl (cx (h) rfl ?_)
  repeat (refine hG.1 _ _ _ _ _ _ rfl ?_)
  exact And.intro rfl (And.intro rfl rfl)
theorem w_steps (S S' : PS) (x r : Int32) (h : Run 0 16 [.ref 0, .int x] S (.inl (some r)) S') : Run 0 112 [.ref 0, .int x, .ref 26] S (.inl (some (nI 0))) (outS S' (r.toInt64)) := by
  refine run_of (by decide +kernel) rfl (fun L xs G hG => ?_)
  repeat (refine hG.1 _ _ _ _ _ _ rfl ?_)
  refine And.intro rfl (cx (h) rfl ?_)
  repeat (refine hG.1 _ _ _ _ _ _ rfl ?_)
  refine And.intro (vp_in_nI ((show 0 < 1 by omega)) (by decide)) ?_; rw [nI_clamp (Nat.lt_trans ((show 0 < 1 by omega)) (by decide))]
  repeat (refine hG.1 _ _ _ _ _ _ rfl ?_)
  exact And.intro rfl (And.intro rfl rfl)
theorem w_steps_1 (S S' : PS) (x : Int32) (h : Run 1 16 [.ref 0, .int x] S (.inr 1) S') : Run 1 112 [.ref 0, .int x, .ref 26] S (.inl (some (nI 1))) S' := by
  refine run_of (by decide +kernel) rfl (fun L xs G hG => ?_)
  repeat (refine hG.1 _ _ _ _ _ _ rfl ?_)
  refine And.intro rfl (cx (h) rfl ?_)
  repeat (refine hG.1 _ _ _ _ _ _ rfl ?_)
  exact And.intro rfl (And.intro rfl rfl)
theorem w_stepPipe (S S' : PS) (x y r : Int32) (h : Run 0 17 [.ref 0, .int x, .int y] S (.inl (some r)) S') : Run 0 113 [.ref 0, .int x, .int y, .ref 26] S (.inl (some (nI 0))) (outS S' (r.toInt64)) := by
  refine run_of (by decide +kernel) rfl (fun L xs G hG => ?_)
  repeat (refine hG.1 _ _ _ _ _ _ rfl ?_)
  refine And.intro rfl (cx (h) rfl ?_)
  repeat (refine hG.1 _ _ _ _ _ _ rfl ?_)
  refine And.intro (vp_in_nI ((show 0 < 1 by omega)) (by decide)) ?_; rw [nI_clamp (Nat.lt_trans ((show 0 < 1 by omega)) (by decide))]
  repeat (refine hG.1 _ _ _ _ _ _ rfl ?_)
  exact And.intro rfl (And.intro rfl rfl)
theorem w_stepPipe_1 (S S' : PS) (x y : Int32) (h : Run 1 17 [.ref 0, .int x, .int y] S (.inr 1) S') : Run 1 113 [.ref 0, .int x, .int y, .ref 26] S (.inl (some (nI 1))) S' := by
  refine run_of (by decide +kernel) rfl (fun L xs G hG => ?_)
  repeat (refine hG.1 _ _ _ _ _ _ rfl ?_)
  refine And.intro rfl (cx (h) rfl ?_)
  repeat (refine hG.1 _ _ _ _ _ _ rfl ?_)
  exact And.intro rfl (And.intro rfl rfl)
theorem w_drop (S S' : PS) (x y r : Int32) (h : Run 0 18 [.ref 0, .int x, .int y] S (.inl (some r)) S') : Run 0 114 [.ref 0, .int x, .int y, .ref 26] S (.inl (some (nI 0))) (outS S' (r.toInt64)) := by
  refine run_of (by decide +kernel) rfl (fun L xs G hG => ?_)
  repeat (refine hG.1 _ _ _ _ _ _ rfl ?_)
  refine And.intro rfl (cx (h) rfl ?_)
  repeat (refine hG.1 _ _ _ _ _ _ rfl ?_)
  refine And.intro (vp_in_nI ((show 0 < 1 by omega)) (by decide)) ?_; rw [nI_clamp (Nat.lt_trans ((show 0 < 1 by omega)) (by decide))]
  repeat (refine hG.1 _ _ _ _ _ _ rfl ?_)
  exact And.intro rfl (And.intro rfl rfl)
theorem w_drop_1 (S S' : PS) (x y : Int32) (h : Run 1 18 [.ref 0, .int x, .int y] S (.inr 1) S') : Run 1 114 [.ref 0, .int x, .int y, .ref 26] S (.inl (some (nI 1))) S' := by
  refine run_of (by decide +kernel) rfl (fun L xs G hG => ?_)
  repeat (refine hG.1 _ _ _ _ _ _ rfl ?_)
  refine And.intro rfl (cx (h) rfl ?_)
  repeat (refine hG.1 _ _ _ _ _ _ rfl ?_)
  exact And.intro rfl (And.intro rfl rfl)
theorem w_burst (S S' : PS) (x y z r : Int32) (h : Run 0 19 [.ref 0, .int x, .int y, .int z] S (.inl (some r)) S') : Run 0 115 [.ref 0, .int x, .int y, .int z, .ref 26] S (.inl (some (nI 0))) (outS S' (r.toInt64)) := by
  refine run_of (by decide +kernel) rfl (fun L xs G hG => ?_)
  repeat (refine hG.1 _ _ _ _ _ _ rfl ?_)
  refine And.intro rfl (cx (h) rfl ?_)
  repeat (refine hG.1 _ _ _ _ _ _ rfl ?_)
  refine And.intro (vp_in_nI ((show 0 < 1 by omega)) (by decide)) ?_; rw [nI_clamp (Nat.lt_trans ((show 0 < 1 by omega)) (by decide))]
  repeat (refine hG.1 _ _ _ _ _ _ rfl ?_)
  exact And.intro rfl (And.intro rfl rfl)
theorem w_burst_0 (S S' : PS) (x y z : Int32) (h : Run 1 19 [.ref 0, .int x, .int y, .int z] S (.inr 0) S') : Run 1 115 [.ref 0, .int x, .int y, .int z, .ref 26] S (.inl (some (nI 1))) S' := by
  refine run_of (by decide +kernel) rfl (fun L xs G hG => ?_)
  repeat (refine hG.1 _ _ _ _ _ _ rfl ?_)
  refine And.intro rfl (cx (h) rfl ?_)
  repeat (refine hG.1 _ _ _ _ _ _ rfl ?_)
  exact And.intro rfl (And.intro rfl rfl)
theorem w_burst_1 (S S' : PS) (x y z : Int32) (h : Run 1 19 [.ref 0, .int x, .int y, .int z] S (.inr 1) S') : Run 1 115 [.ref 0, .int x, .int y, .int z, .ref 26] S (.inl (some (nI 2))) S' := by
  refine run_of (by decide +kernel) rfl (fun L xs G hG => ?_)
  repeat (refine hG.1 _ _ _ _ _ _ rfl ?_)
  refine And.intro rfl (cx (h) rfl ?_)
  repeat (refine hG.1 _ _ _ _ _ _ rfl ?_)
  exact And.intro rfl (And.intro rfl rfl)
theorem w_burst_2 (S S' : PS) (x y z : Int32) (h : Run 1 19 [.ref 0, .int x, .int y, .int z] S (.inr 2) S') : Run 1 115 [.ref 0, .int x, .int y, .int z, .ref 26] S (.inl (some (nI 3))) S' := by
  refine run_of (by decide +kernel) rfl (fun L xs G hG => ?_)
  repeat (refine hG.1 _ _ _ _ _ _ rfl ?_)
  refine And.intro rfl (cx (h) rfl ?_)
  repeat (refine hG.1 _ _ _ _ _ _ rfl ?_)
  exact And.intro rfl (And.intro rfl rfl)
theorem w_repair (S S' : PS) (x r : Int32) (h : Run 0 20 [.ref 0, .int x] S (.inl (some r)) S') : Run 0 116 [.ref 0, .int x, .ref 26] S (.inl (some (nI 0))) (outS S' (r.toInt64)) := by
  refine run_of (by decide +kernel) rfl (fun L xs G hG => ?_)
  repeat (refine hG.1 _ _ _ _ _ _ rfl ?_)
  refine And.intro rfl (cx (h) rfl ?_)
  repeat (refine hG.1 _ _ _ _ _ _ rfl ?_)
  refine And.intro (vp_in_nI ((show 0 < 1 by omega)) (by decide)) ?_; rw [nI_clamp (Nat.lt_trans ((show 0 < 1 by omega)) (by decide))]
  repeat (refine hG.1 _ _ _ _ _ _ rfl ?_)
  exact And.intro rfl (And.intro rfl rfl)
theorem w_repair_1 (S S' : PS) (x : Int32) (h : Run 1 20 [.ref 0, .int x] S (.inr 1) S') : Run 1 116 [.ref 0, .int x, .ref 26] S (.inl (some (nI 1))) S' := by
  refine run_of (by decide +kernel) rfl (fun L xs G hG => ?_)
  repeat (refine hG.1 _ _ _ _ _ _ rfl ?_)
  refine And.intro rfl (cx (h) rfl ?_)
  repeat (refine hG.1 _ _ _ _ _ _ rfl ?_)
  exact And.intro rfl (And.intro rfl rfl)
theorem w_repair_2 (S S' : PS) (x : Int32) (h : Run 1 20 [.ref 0, .int x] S (.inr 2) S') : Run 1 116 [.ref 0, .int x, .ref 26] S (.inl (some (nI 2))) S' := by
  refine run_of (by decide +kernel) rfl (fun L xs G hG => ?_)
  repeat (refine hG.1 _ _ _ _ _ _ rfl ?_)
  refine And.intro rfl (cx (h) rfl ?_)
  repeat (refine hG.1 _ _ _ _ _ _ rfl ?_)
  exact And.intro rfl (And.intro rfl rfl)
theorem w_cost (S S' : PS) (x r : Int32) (h : Run 0 21 [.ref 0, .int x] S (.inl (some r)) S') : Run 0 117 [.ref 0, .int x, .ref 26] S (.inl (some (nI 0))) (outS S' (r.toInt64)) := by
  refine run_of (by decide +kernel) rfl (fun L xs G hG => ?_)
  repeat (refine hG.1 _ _ _ _ _ _ rfl ?_)
  refine And.intro rfl (cx (h) rfl ?_)
  repeat (refine hG.1 _ _ _ _ _ _ rfl ?_)
  refine And.intro (vp_in_nI ((show 0 < 1 by omega)) (by decide)) ?_; rw [nI_clamp (Nat.lt_trans ((show 0 < 1 by omega)) (by decide))]
  repeat (refine hG.1 _ _ _ _ _ _ rfl ?_)
  exact And.intro rfl (And.intro rfl rfl)
theorem w_cost_1 (S S' : PS) (x : Int32) (h : Run 1 21 [.ref 0, .int x] S (.inr 1) S') : Run 1 117 [.ref 0, .int x, .ref 26] S (.inl (some (nI 1))) S' := by
  refine run_of (by decide +kernel) rfl (fun L xs G hG => ?_)
  repeat (refine hG.1 _ _ _ _ _ _ rfl ?_)
  refine And.intro rfl (cx (h) rfl ?_)
  repeat (refine hG.1 _ _ _ _ _ _ rfl ?_)
  exact And.intro rfl (And.intro rfl rfl)
theorem w_ranked (S S' : PS) (x r : Int32) (h : Run 0 22 [.ref 0, .int x] S (.inl (some r)) S') : Run 0 118 [.ref 0, .int x, .ref 26] S (.inl (some (nI 0))) (outS S' (r.toInt64)) := by
  refine run_of (by decide +kernel) rfl (fun L xs G hG => ?_)
  repeat (refine hG.1 _ _ _ _ _ _ rfl ?_)
  refine And.intro rfl (cx (h) rfl ?_)
  repeat (refine hG.1 _ _ _ _ _ _ rfl ?_)
  refine And.intro (vp_in_nI ((show 0 < 1 by omega)) (by decide)) ?_; rw [nI_clamp (Nat.lt_trans ((show 0 < 1 by omega)) (by decide))]
  repeat (refine hG.1 _ _ _ _ _ _ rfl ?_)
  exact And.intro rfl (And.intro rfl rfl)
theorem w_ranked_1 (S S' : PS) (x : Int32) (h : Run 1 22 [.ref 0, .int x] S (.inr 1) S') : Run 1 118 [.ref 0, .int x, .ref 26] S (.inl (some (nI 1))) S' := by
  refine run_of (by decide +kernel) rfl (fun L xs G hG => ?_)
  repeat (refine hG.1 _ _ _ _ _ _ rfl ?_)
  refine And.intro rfl (cx (h) rfl ?_)
  repeat (refine hG.1 _ _ _ _ _ _ rfl ?_)
  exact And.intro rfl (And.intro rfl rfl)
theorem w_plan (S S' : PS) (x r : Int32) (h : Run 0 23 [.ref 0, .int x] S (.inl (some r)) S') : Run 0 119 [.ref 0, .int x, .ref 26] S (.inl (some (nI 0))) (outS S' (r.toInt64)) := by
  refine run_of (by decide +kernel) rfl (fun L xs G hG => ?_)
  repeat (refine hG.1 _ _ _ _ _ _ rfl ?_)
  refine And.intro rfl (cx (h) rfl ?_)
  repeat (refine hG.1 _ _ _ _ _ _ rfl ?_)
  refine And.intro (vp_in_nI ((show 0 < 1 by omega)) (by decide)) ?_; rw [nI_clamp (Nat.lt_trans ((show 0 < 1 by omega)) (by decide))]
  repeat (refine hG.1 _ _ _ _ _ _ rfl ?_)
  exact And.intro rfl (And.intro rfl rfl)
theorem w_plan_0 (S S' : PS) (x : Int32) (h : Run 1 23 [.ref 0, .int x] S (.inr 0) S') : Run 1 119 [.ref 0, .int x, .ref 26] S (.inl (some (nI 1))) S' := by
  refine run_of (by decide +kernel) rfl (fun L xs G hG => ?_)
  repeat (refine hG.1 _ _ _ _ _ _ rfl ?_)
  refine And.intro rfl (cx (h) rfl ?_)
  repeat (refine hG.1 _ _ _ _ _ _ rfl ?_)
  exact And.intro rfl (And.intro rfl rfl)
end
section
theorem dN (x : Int32) {n : Nat} (hn : n ≤ 100) : (∃ j, j < n ∧ x = nI j) ∨ noN x (nI n) := by
  rcases pk_ix x (n := n) (by omega) with h | h | ⟨j, h1, h2⟩
  · exact Or.inr (Or.inl h)
  · exact Or.inr (Or.inr (by rw [Int32.not_lt]; exact h))
  · exact Or.inl ⟨j, h1, h2⟩
theorem dP (x : Int32) {n : Nat} (hn : n ≤ 100) : (∃ j, 0 < j ∧ j < n ∧ x = nI j) ∨ (x ≤ 0 ∨ ¬ x < nI n) := by
  rcases dN x hn with ⟨j, h1, rfl⟩ | h
  · rcases Nat.eq_zero_or_pos j with z | z
    · subst z
      exact Or.inr (Or.inl (by decide))
    · exact Or.inl ⟨j, z, h1, rfl⟩
  · rcases h with z | z
    · exact Or.inr (Or.inl (Int32.le_of_lt z))
    · exact Or.inr (Or.inr z)
theorem dR (x lo hi : Int32) : okR x lo hi ∨ noR x lo hi := by
  by_cases h1 : x < lo
  · exact Or.inr (Or.inl h1)
  · by_cases h2 : x ≤ hi
    · exact Or.inl ⟨h1, h2⟩
    · exact Or.inr (Or.inr h2)
theorem set_cnt {c : Nat → Bool} {n : Nat} (hn : n ≤ 16) : bcI (stL c n) = nI (cnt c n) := by
  rw [bc_cnt (fun k h1 h2 => by rw [hs_stL h2 n (by omega)]; intro z; omega)]
  congr 1
  have e : ∀ k, k < 16 → decide (hs (stL c n) k) = (decide (k < n) && c k) := by
    intro k hk
    have := hs_stL (c := c) (j := k) (by omega) n (by omega)
    cases hc : c k
    · rw [hc] at this
      simp [this]
    · rw [hc] at this
      simp [this]
  rw [cnt_congr (d := fun k => decide (k < n) && c k) (fun k hk => e k hk)]
  have h1 : cnt (fun k => decide (k < n) && c k) 16 = cnt (fun k => decide (k < n) && c k) n := cnt_ext hn (fun j h2 h3 => by
    have : ¬ j < n := by omega
    simp [this])
  rw [h1]
  apply cnt_congr
  intro j hj
  simp [hj]
theorem tb_eq {c : Nat → Bool} {f : Nat → Int32} {n : Nat} (hn : n ≤ 16) : smL (fun k => decide (hs (stL c n) k)) f n = smL c f n := by
  apply smL_congr
  intro j hj
  have h := hs_stL (c := c) (j := j) (by omega) n (by omega)
  refine ⟨?_, fun _ => rfl⟩
  cases hc : c j
  · rw [hc] at h
    simpa using h
  · rw [hc] at h
    have : hs (stL c n) j := h.mpr ⟨hj, rfl⟩
    simpa using this
theorem loss_eq {A : Nat → Nat → Int32} {nb : Nat} {rp sh : Int32} {c : Nat → Bool} : ∀ n, smL c (tknX A nb rp sh) n - smL (fun k => c k && decide (A 1 k &&& sh = 0)) (A 2) n = smL (fun k => c k && decide (A 1 k &&& sh = 0)) (lkgX A nb rp) n
  | 0 => by simp only [smL]; decide
  | n + 1 => by
    have ih := loss_eq (A := A) (nb := nb) (rp := rp) (sh := sh) (c := c) n
    by_cases hc : c n = true
    · by_cases hs0 : A 1 n &&& sh = 0
      · have hb : (fun k => c k && decide (A 1 k &&& sh = 0)) n = true := by simp [hc, hs0]
        rw [smL_t hc, smL_t hb, smL_t hb, ← ih, tknX, if_pos hs0]
        grind
      · have hb : ¬ (fun k => c k && decide (A 1 k &&& sh = 0)) n = true := by simp [hs0]
        rw [smL_t hc, smL_f hb, smL_f hb, ← ih, tknX, if_neg hs0, nI_0]
        grind
    · have hb : ¬ (fun k => c k && decide (A 1 k &&& sh = 0)) n = true := by simp [hc]
      rw [smL_f hc, smL_f hb, smL_f hb, ih]
theorem sbL_congr {c d : Nat → Bool} {f : Nat → Int32} {z : Int32} : ∀ {k : Nat}, (∀ j, j < k → c j = d j) → sbL c f z k = sbL d f z k
  | 0, _ => rfl
  | k + 1, h => by rw [sbL, sbL, sbL_congr (k := k) (fun j hj => h j (by omega)), h k (by omega)]
theorem hs_out {A : Nat → Nat → Int32} {n a k : Nat} (hn : n ≤ 16) (hk : k < 32) : hs (outX A n a) k ↔ k < n ∧ A 1 k &&& A 6 a = one k := by
  unfold outX
  rw [hs_stL hk n (by omega)]
  simp
theorem flow_eq {A : Nat → Nat → Int32} {n nb a q : Nat} {rp sh : Int32} (hn : n ≤ 16) (e5 : A 5 a = nI q) : afX A n nb rp sh a = sbL (fun k => decide (A 1 k &&& A 6 a = one k)) (fun k => flX A n nb rp sh (nI k)) (flX A n nb rp sh (nI q)) n := by
  unfold afX
  rw [e5]
  apply sbL_congr
  intro j hj
  have := hs_out (A := A) (a := a) hn (show j < 32 by omega)
  by_cases h : A 1 j &&& A 6 a = one j
  · rw [decide_eq_true h, decide_eq_true (this.mpr ⟨hj, h⟩)]
  · rw [decide_eq_false h, decide_eq_false (fun z => h (this.mp z).2)]
theorem bt_m2 {k : Nat} (hk : k < 32) : bt (Int32.ofInt (.negSucc 1)) k = decide (k ≠ 0) := by
  have key : ∀ k : Nat, k < 32 → bt (Int32.ofInt (.negSucc 1)) k = decide (k ≠ 0) := by decide +kernel
  exact key k hk
theorem can_iff {A : Nat → Nat → Int32} {mt : Int32} {n a q : Nat} (hn : n ≤ 16) (hq : q < n) (e5 : A 5 a = nI q) (hex : ¬ A 1 0 &&& A 6 a = one 0) : misX A mt n a = 0 ↔ CanF A mt n a q := by
  unfold misX CanF
  rw [ands_0, e5]
  have hj : ∀ k, k < 32 → (hs ((outX A n a ||| (nI 1 <<< (nI q &&& 31))) &&& Int32.ofInt (.negSucc 1)) k ↔ ((k < n ∧ A 1 k &&& A 6 a = one k) ∨ q = k) ∧ k ≠ 0) := by
    intro k hk
    rw [hs_and hk, hs_or hk, hs_out hn hk, hs_one (by omega) hk, hs_bt (x := Int32.ofInt (.negSucc 1)) hk, bt_m2 hk, decide_eq_true_eq]
  constructor
  · intro h
    refine ⟨?_, fun k h0 hk hx => ?_⟩
    · by_cases hq0 : q = 0
      · exact Or.inl hq0
      · have := h q (by omega)
        rw [hj q (by omega), hs_not (by omega)] at this
        by_cases hm : hs mt q
        · exact Or.inr hm
        · exact absurd ⟨⟨Or.inr rfl, hq0⟩, hm⟩ this
    · have := h k (by omega)
      rw [hj k (by omega), hs_not (by omega)] at this
      by_cases hm : hs mt k
      · exact hm
      · exact absurd ⟨⟨Or.inl ⟨hk, hx⟩, by omega⟩, hm⟩ this
  · rintro ⟨h1, h2⟩ k hk
    rw [hj k hk, hs_not hk]
    rintro ⟨⟨z1, z2⟩, z3⟩
    rcases z1 with ⟨w1, w2⟩ | w
    · exact z3 (h2 k (by omega) w1 w2)
    · subst w
      rcases h1 with w | w
      · exact z2 w
      · exact z3 w
theorem steps_eq {A : Nat → Nat → Int32} {sh : Int32} {n a q : Nat} (hn : n ≤ 16) (h1n : 1 ≤ n) (hq : q < n) (e5 : A 5 a = nI q) (hc0 : ¬ (inA A a 0 = true ∧ q ≠ 0)) : bcI (ptsX A sh n a) = nI (cnt (fun j => decide (hs (ptsX A sh n a) (j + 1))) (n - 1)) := by
  have hp : ∀ k, k < 32 → (hs (ptsX A sh n a) k ↔ (k < n ∧ inA A a k = true) ∧ q ≠ k ∧ ¬ hs sh k) := fun k hk => hs_pts hn (by omega) e5 hk
  rw [bc_cnt (fun k h1 h2 => by rw [hp k h2]; rintro ⟨⟨z, -⟩, -⟩; omega)]
  congr 1
  have e : cnt (fun k => decide (hs (ptsX A sh n a) k)) 16 = cnt (fun k => decide (hs (ptsX A sh n a) k)) n := cnt_ext hn (fun j h1 h2 => decide_eq_false (by rw [hp j (by omega)]; rintro ⟨⟨z, -⟩, -⟩; omega))
  rw [e]
  have h0 : ¬ hs (ptsX A sh n a) 0 := by
    rw [hp 0 (by omega)]
    rintro ⟨⟨-, z⟩, w, -⟩
    exact hc0 ⟨z, w⟩
  have gen : ∀ (c : Nat → Bool) (m : Nat), c 0 = false → cnt c (m + 1) = cnt (fun j => c (j + 1)) m := by
    intro c m hc
    induction m with
    | zero => rw [cnt_f (by rw [hc]; decide)]; rfl
    | succ m ih => rw [cnt, ih, cnt]
  obtain ⟨m, rfl⟩ : ∃ m, n = m + 1 := ⟨n - 1, by omega⟩
  exact gen _ m (decide_eq_false h0)
end
section
def J (S : PS) (n na nb : Nat) : Prop :=
  Xn S n nb ∧ (S.1 0 7 = nI na ∧ na ≤ 8 ∧ S.1 12 8 = nI na) ∧ MR S n nb (S.1 0 14) (S.1 0 6) ∧ (∀ k, k < 16 → S.2.1 17 k = bi (hs (S.1 0 5) k)) ∧
  ((∀ a, a < na → ∃ q, ArOk S.2.1 n a q) ∧ ∀ a, na ≤ a → a < 8 → S.2.1 6 a = nI 0) ∧ BnM S.2.1 n nb ∧ ∀ b, b < nb → 1 ≤ (S.2.1 9 b).toInt ∧ (S.2.1 9 b).toInt ≤ 100
def JJ (S : PS) : Prop := ∃ n na nb, J S n na nb
def Jt (z : Bool) (wi mi : Nat) (wa ma : List Value) (S : PS) : Prop := ∃ (k kc : Nat) (b : Int32) (S1 S2 : PS), k ≤ 1 ∧ Run k wi wa S (.inl (some (nI kc))) S1 ∧ Run 0 mi ma S1 (.inl (some b)) S2 ∧ S2.1 12 16 = nI kc ∧ kc ≤ 3 ∧ (kc = 0 → S2.2.2 0 = (if z = true then zl b else b.toInt64)) ∧ JJ S2
theorem J_n {S : PS} {n na nb : Nat} (h : J S n na nb) : S.1 0 0 = nI n ∧ S.1 12 0 = nI n ∧ n ≤ 16 ∧ 1 ≤ n ∧ S.1 0 7 = nI na ∧ S.1 12 8 = nI na ∧ na ≤ 8 ∧ S.1 0 10 = nI nb ∧ S.1 12 11 = nI nb ∧ nb ≤ 20 :=
  ⟨h.1.1, h.2.2.1.1.1, h.1.2.1, h.2.2.1.1.2.1, h.2.1.1, h.2.1.2.2, h.2.1.2.1, h.1.2.2.1, h.2.2.1.1.2.2.2.1, h.1.2.2.2.1⟩
theorem j_err {z : Bool} {wi mi kc : Nat} {wa ma : List Value} {S S' : PS} {n na nb : Nat} (hJ : J S' n na nb) (hk : 0 < kc) (hk3 : kc ≤ 3) (h1 : Run 1 wi wa S (.inl (some (nI kc))) S') (h2 : Run 0 mi ma S' (.inl (some (nI 0))) (sThr S' (nI kc))) : Jt z wi mi wa ma S :=
  ⟨1, kc, nI 0, S', sThr S' (nI kc), Nat.le_refl _, h1, h2, rfl, hk3, fun h => by omega, n, na, nb, hJ⟩
theorem j_ok {wi mi : Nat} {wa ma : List Value} {S S' : PS} {r : Int32} {n na nb : Nat} (hJ : J S' n na nb) (h1 : Run 0 wi wa S (.inl (some (nI 0))) (outS S' r.toInt64)) (h2 : Run 0 mi ma (outS S' r.toInt64) (.inl (some r)) (sThr (outS S' r.toInt64) (nI 0))) : Jt false wi mi wa ma S :=
  ⟨0, 0, r, _, _, Nat.zero_le _, h1, h2, rfl, Nat.zero_le _, fun _ => rfl, n, na, nb, hJ⟩
theorem fe {S S' : PS} {i : Nat} {as : List Value} {r r' : Int32} {k : Nat} (h : Run k i as S (.inl (some r)) S') (e : r = r') : Run k i as S (.inl (some r')) S' := e ▸ h
theorem j_takes (S : PS) (x : Int32) {n na nb : Nat} (hJ : J S n na nb) : Jt false 104 69 [.ref 0, .int x, .ref 26] [.ref 12, .int x] S := by
  obtain ⟨e1, e2, hn, h1n, -⟩ := J_n hJ
  rcases dN x (n := n) (by omega) with ⟨j, hj, rfl⟩ | h
  · exact j_ok hJ (w_takes S S _ _ (x_takes S j n nb hJ.1 hj)) (m_takes (outS S _) j n nb _ _ hJ.2.2.1 hj)
  · exact j_err hJ (by decide) (by decide) (w_takes_1 S S _ (x_takes_0 S x (by rw [e1]; exact h))) (m_takes_0 S x n e2 hn h1n h)
theorem j_flow (S : PS) (x : Int32) {n na nb : Nat} (hJ : J S n na nb) : Jt false 105 70 [.ref 0, .int x, .ref 26] [.ref 12, .int x] S := by
  obtain ⟨e1, e2, hn, h1n, -⟩ := J_n hJ
  rcases dP x (n := n) (by omega) with ⟨j, h0, hj, rfl⟩ | h
  · have hm := hJ.2.2.2.1 j (by omega)
    by_cases hs5 : hs (S.1 0 5) j
    · exact j_ok hJ (w_flow S S _ _ (x_flow S j n nb hJ.1 h0 hj hs5)) (m_flow (outS S _) j n nb _ _ hJ.2.2.1 h0 hj (hm.trans (bi_t hs5)))
    · exact j_err hJ (by decide) (by decide) (w_flow_2 S S _ (x_flow_1 S j n e1 hn h0 hj hs5)) (m_flow_1 S j n e2 hn h0 hj (hm.trans (bi_f hs5)))
  · exact j_err hJ (by decide) (by decide) (w_flow_1 S S _ (x_flow_0 S x (by rw [e1]; exact h))) (m_flow_0 S x n e2 hn h1n h)
theorem j_nodes (S : PS) (x : Int32) {n na nb : Nat} (hJ : J S n na nb) : Jt false 108 78 [.ref 0, .int x, .ref 26] [.ref 12, .int x] S := by
  obtain ⟨e1, e2, hn, h1n, e7, e8, hna, -⟩ := J_n hJ
  rcases dN x (n := na) (by omega) with ⟨a, ha, rfl⟩ | h
  · obtain ⟨q, hA⟩ := hJ.2.2.2.2.1.1 a ha
    exact j_ok hJ (w_nodes S S _ _ (x_nodes S a na n nb ha hna e7 hJ.1)) (m_nodes (outS S _) a q n nb na _ _ hJ.2.2.1 e8 hna ha hA)
  · exact j_err hJ (by decide) (by decide) (w_nodes_1 S S _ (x_nodes_0 S x (by rw [e7]; exact h))) (m_area_0 (i := 0) S x na e8 hna h).1
theorem j_areaTakes (S : PS) (x : Int32) {n na nb : Nat} (hJ : J S n na nb) : Jt false 110 82 [.ref 0, .int x, .ref 26] [.ref 12, .int x] S := by
  obtain ⟨e1, e2, hn, h1n, e7, e8, hna, -⟩ := J_n hJ
  rcases dN x (n := na) (by omega) with ⟨a, ha, rfl⟩ | h
  · obtain ⟨q, hA⟩ := hJ.2.2.2.2.1.1 a ha
    exact j_ok hJ (w_areaTakes S S _ _ (fe (x_areaTakes S a na n nb ha hna e7 hJ.1) (tb_eq hn))) (m_areaTakes (outS S _) a q n nb na _ _ hJ.2.2.1 e8 hna ha hA)
  · exact j_err hJ (by decide) (by decide) (w_areaTakes_1 S S _ (x_areaTakes_0 S x (by rw [e7]; exact h))) (m_area_0 (i := 0) S x na e8 hna h).2.1
theorem j_loss (S : PS) (x : Int32) {n na nb : Nat} (hJ : J S n na nb) : Jt false 111 83 [.ref 0, .int x, .ref 26] [.ref 12, .int x] S := by
  obtain ⟨e1, e2, hn, h1n, e7, e8, hna, -⟩ := J_n hJ
  rcases dN x (n := na) (by omega) with ⟨a, ha, rfl⟩ | h
  · obtain ⟨q, hA⟩ := hJ.2.2.2.2.1.1 a ha
    have e : tbX S.2.1 n nb (S.1 0 14) (S.1 0 6) (stL (inA S.2.1 a) n) - smL (fun k => decide (hs (stL (inA S.2.1 a) n) k) && decide (S.2.1 1 k &&& S.1 0 6 = 0)) (S.2.1 2) n = smL (fun k => inA S.2.1 a k && decide (S.2.1 1 k &&& S.1 0 6 = 0)) (lkgX S.2.1 nb (S.1 0 14)) n := by
      rw [← loss_eq, tbX, tb_eq hn]
      congr 1
      apply smL_congr
      intro j hj
      have h := hs_stL (c := inA S.2.1 a) (j := j) (by omega) n (by omega)
      refine ⟨?_, fun _ => rfl⟩
      cases hc : inA S.2.1 a j
      · rw [hc] at h
        rw [decide_eq_false (fun z => by have := (h.mp z).2; cases this)]
      · rw [decide_eq_true (h.mpr ⟨hj, hc⟩)]
    exact j_ok hJ (w_loss S S _ _ (fe (x_loss S a na n nb ha hna e7 hJ.1) e)) (m_loss (outS S _) a q n nb na _ _ hJ.2.2.1 e8 hna ha hA)
  · exact j_err hJ (by decide) (by decide) (w_loss_1 S S _ (x_loss_0 S x (by rw [e7]; exact h))) (m_area_0 (i := 0) S x na e8 hna h).2.2.1
theorem no_exp0 {A : Nat → Nat → Int32} {n a q : Nat} (hW : Wy A n) (hn : n ≤ 16) (h1n : 1 ≤ n) (hA : ArOk A n a q) : ¬ A 1 0 &&& A 6 a = one 0 := by
  intro w
  have h3 : hs (A 1 0 &&& A 6 a) 0 := by rw [w]; exact (hs_one (by omega) (by omega)).mpr rfl
  have h4 := ar_gt hW hn hA (by omega) ((hs_and (by omega)).mp h3).2
  omega
theorem j_areaFlow (S : PS) (x : Int32) {n na nb : Nat} (hJ : J S n na nb) : Jt false 109 80 [.ref 0, .int x, .ref 26] [.ref 12, .int x] S := by
  obtain ⟨e1, e2, hn, h1n, e7, e8, hna, -⟩ := J_n hJ
  rcases dN x (n := na) (by omega) with ⟨a, ha, rfl⟩ | h
  · obtain ⟨q, hA⟩ := hJ.2.2.2.2.1.1 a ha
    have hi := can_iff (mt := S.1 0 5) hn hA.1 hA.2.1 (no_exp0 hJ.2.2.1.2.1 hn h1n hA)
    by_cases hm : misX S.2.1 (S.1 0 5) n a = 0
    · exact j_ok hJ (w_areaFlow S S _ _ (fe (x_areaFlow S a na n nb ha hna e7 hJ.1 hm) (flow_eq hn hA.2.1))) (m_areaFlow (outS S _) a q n nb na _ _ (S.1 0 5) hJ.2.2.1 e8 hna ha hA hJ.2.2.2.1 (hi.mp hm))
    · exact j_err hJ (by decide) (by decide) (w_areaFlow_2 S S _ (x_areaFlow_1 S a na n nb ha hna e7 hJ.1 hm)) (m_areaFlow_1 S a q n nb na _ _ (S.1 0 5) hJ.2.2.1 e8 hna ha hA hJ.2.2.2.1 (fun z => hm (hi.mpr z)))
  · exact j_err hJ (by decide) (by decide) (w_areaFlow_1 S S _ (x_areaFlow_0 S x (by rw [e7]; exact h))) (m_areaFlow_0 S x n na e2 e8 hna h)
theorem j_steps (S : PS) (x : Int32) {n na nb : Nat} (hJ : J S n na nb) : Jt false 112 85 [.ref 0, .int x, .ref 26] [.ref 12, .int x] S := by
  obtain ⟨e1, e2, hn, h1n, e7, e8, hna, -⟩ := J_n hJ
  rcases dN x (n := na) (by omega) with ⟨a, ha, rfl⟩ | h
  · obtain ⟨q, hA⟩ := hJ.2.2.2.2.1.1 a ha
    have e := steps_eq (sh := S.1 0 6) hn h1n hA.1 hA.2.1 (fun z => by
      have z1 := z.1
      simp only [inA, Bool.and_eq_true, decide_eq_true_eq, hA.2.1] at z1
      have := wy_le hJ.2.2.1.2.1 0 (by omega) hn q (by have := hA.1; omega) z1.1
      omega)
    exact j_ok hJ (w_steps S S _ _ (fe (x_steps S a na n nb ha hna e7 hJ.1) e)) (m_steps (outS S _) a q n nb na _ _ hJ.2.2.1 e8 hna ha hA)
  · exact j_err hJ (by decide) (by decide) (w_steps_1 S S _ (x_steps_0 S x (by rw [e7]; exact h))) (m_area_0 (i := 0) S x na e8 hna h).2.2.2
theorem j_stepPipe (S : PS) (x y : Int32) {n na nb : Nat} (hJ : J S n na nb) : Jt false 113 87 [.ref 0, .int x, .int y, .ref 26] [.ref 12, .int x, .int y] S := by
  obtain ⟨e1, e2, hn, h1n, e7, e8, hna, -⟩ := J_n hJ
  rcases dN x (n := na) (by omega) with ⟨a, ha, rfl⟩ | h
  · obtain ⟨q, hA⟩ := hJ.2.2.2.2.1.1 a ha
    cases hp : pkX S.2.1 (S.1 0 6) n a y with
    | none => exact j_err hJ (by decide) (by decide) (w_stepPipe_1 S S _ _ (x_stepPipe_1 S a na n nb y ha hna e7 hJ.1 h1n hp)) (m_stepPipe_1 S a q n nb na _ _ y hJ.2.2.1 e8 hna ha hA hp).1
    | some k => exact j_ok hJ (w_stepPipe S S _ _ _ (x_stepPipe S a na n nb k y ha hna e7 hJ.1 h1n hp)) (m_stepPipe (outS S _) a q n nb na k _ _ y hJ.2.2.1 e8 hna ha hA hp)
  · exact j_err hJ (by decide) (by decide) (w_stepPipe_1 S S _ _ (x_stepPipe_0 S x y (by rw [e7]; exact h))) (m_stepPipe_na S x y na e8 hna h).1
theorem j_drop (S : PS) (x y : Int32) {n na nb : Nat} (hJ : J S n na nb) : Jt false 114 88 [.ref 0, .int x, .int y, .ref 26] [.ref 12, .int x, .int y] S := by
  obtain ⟨e1, e2, hn, h1n, e7, e8, hna, -⟩ := J_n hJ
  rcases dN x (n := na) (by omega) with ⟨a, ha, rfl⟩ | h
  · obtain ⟨q, hA⟩ := hJ.2.2.2.2.1.1 a ha
    cases hp : pkX S.2.1 (S.1 0 6) n a y with
    | none => exact j_err hJ (by decide) (by decide) (w_drop_1 S S _ _ (x_drop_1 S a na n nb y ha hna e7 hJ.1 h1n hp)) (m_stepPipe_1 S a q n nb na _ _ y hJ.2.2.1 e8 hna ha hA hp).2
    | some k =>
      have e : dropX S.2.1 n nb (S.1 0 14) (S.1 0 6) a k = smL (inA S.2.1 a) (tknX S.2.1 nb (S.1 0 14) (bfX S.2.1 (S.1 0 6) n a k)) n - smL (inA S.2.1 a) (tknX S.2.1 nb (S.1 0 14) (bfX S.2.1 (S.1 0 6) n a k ||| one k)) n := by
        unfold dropX tbX
        rw [tb_eq hn, tb_eq hn]
      exact j_ok hJ (w_drop S S _ _ _ (fe (x_drop S a na n nb k y ha hna e7 hJ.1 h1n hp) e)) (m_drop (outS S _) a q n nb na k _ _ y hJ.2.2.1 e8 hna ha hA hp)
  · exact j_err hJ (by decide) (by decide) (w_drop_1 S S _ _ (x_drop_0 S x y (by rw [e7]; exact h))) (m_stepPipe_na S x y na e8 hna h).2
theorem j_cost (S : PS) (x : Int32) {n na nb : Nat} (hJ : J S n na nb) : Jt false 117 93 [.ref 0, .int x, .ref 26] [.ref 12, .int x] S := by
  obtain ⟨e1, e2, hn, h1n, e7, e8, hna, e10, e11, hnb⟩ := J_n hJ
  rcases dN x (n := nb) (by omega) with ⟨b, hb, rfl⟩ | h
  · obtain ⟨q, hq, hbq⟩ := hJ.2.2.2.2.2.1 b hb
    exact j_ok hJ (w_cost S S _ _ (x_cost S b q n nb hb hJ.1 (by omega) hbq)) (m_cost (outS S _) b q n nb _ _ hJ.2.2.1 hb hq hbq)
  · exact j_err hJ (by decide) (by decide) (w_cost_1 S S _ (x_cost_0 S x (by rw [e10]; exact h))) (m_repair_0 S x nb e11 hnb h).2
theorem J_bd {S : PS} {n na nb : Nat} (hJ : J S n na nb) : Bd (csX S.2.1 nb (S.1 0 14) (S.1 0 6)) (S.2.1 9) nb := ⟨fun b => csX_bd _ _ _ _ b, hJ.2.2.2.2.2.2⟩
theorem J_bn {S : PS} {n na nb : Nat} (hJ : J S n na nb) : BnOk S.2.1 nb := fun b hb => by
  obtain ⟨q, hq, e⟩ := hJ.2.2.2.2.2.1 b hb
  have := hJ.1.2.1
  exact ⟨q, by omega, e⟩
theorem cs_rk (S : PS) (fc fb : Nat → Int32) (nb : Nat) (rp sh : Int32) (v : Int64) : csX (outS (st2 S fc fb) v).2.1 nb rp sh = csX S.2.1 nb rp sh := by
  funext b
  exact csX_congr rfl rfl rfl rfl rfl
theorem j_ranked (S : PS) (x : Int32) {n na nb : Nat} (hJ : J S n na nb) : Jt false 118 96 [.ref 0, .int x, .ref 26] [.ref 12, .int x] S := by
  obtain ⟨e1, e2, hn, h1n, e7, e8, hna, e10, e11, hnb⟩ := J_n hJ
  obtain ⟨l, h1, h2⟩ := rank_agree (f10 := S.2.1 10) (f11 := S.2.1 11) (rp := S.1 0 14) (J_bd hJ) hnb
  have hm20 : (rkR S nb).2.2 ≤ nb := (rkS_in (cs := csX S.2.1 nb (S.1 0 14) (S.1 0 6)) (h := S.2.1 9) (rp := S.1 0 14) (f10 := S.2.1 10) (f11 := S.2.1 11) nb).1
  have cs2 : csX (sRk S nb).2.1 nb (S.1 0 14) (S.1 0 6) = csX S.2.1 nb (S.1 0 14) (S.1 0 6) := cs_rk S _ _ nb _ _ 0
  rcases dN x (n := (rkR S nb).2.2) (by omega) with ⟨p, hp, rfl⟩ | h
  · obtain ⟨f1, f2, f3, f4⟩ := h1 p hp
    refine j_ok (S' := sRk S nb) hJ (w_ranked S (sRk S nb) _ _ (fe (x_ranked S n nb p hJ.1 (J_bn hJ) hp) f1)) ?_
    refine m_ranked (outS (sRk S nb) _) (l p) n nb _ _ (nI p) hJ.2.2.1 hJ.2.2.2.2.2.1 (nI_pos (by omega)) f2 f3 ?_ ?_
    · rw [cs_rk]
      exact congrArg nI f4
    · intro j hj hjr hje
      rw [cs_rk] at hje
      obtain ⟨p2, hp2, rfl⟩ := h2 j hj hjr
      have e6 : nI p2 = nI p := by rw [← hje]; exact (congrArg nI (h1 p2 hp2).2.2.2).symm
      have hp2' : p2 < (rkR S nb).2.2 := hp2
      rw [(nI_eq (by omega) (by omega)).mp e6]
  · refine j_err (S' := sRk S nb) hJ (by decide) (by decide) (w_ranked_1 S (sRk S nb) _ (x_ranked_0 S n nb x hJ.1 (J_bn hJ) (by
      rcases h with z | z
      · exact Or.inl z
      · exact Or.inr (Int32.not_lt.mp z)))) ?_
    refine m_ranked_0 (sRk S nb) n nb _ _ x hJ.2.2.1 hJ.2.2.2.2.2.1 ?_
    rcases h with z | z
    · exact Or.inl z
    · refine Or.inr (fun j hj hjr hje => ?_)
      rw [cs2] at hje
      obtain ⟨p2, hp2, rfl⟩ := h2 j hj hjr
      have hp2' : p2 < (rkR S nb).2.2 := hp2
      apply z
      rw [← hje]
      have e6 : rkN (csX S.2.1 nb (S.1 0 14) (S.1 0 6)) (S.2.1 9) (S.1 0 14) nb (l p2) = p2 := (h1 p2 hp2).2.2.2
      have e7 : nI (rkN (csX S.2.1 nb (S.1 0 14) (S.1 0 6)) ((sRk S nb).2.1 9) (S.1 0 14) nb (l p2)) = nI p2 := congrArg nI e6
      rw [e7]
      exact nI_lt hp2' (by omega)
theorem j_plan (S : PS) (x : Int32) {n na nb : Nat} (hJ : J S n na nb) : Jt false 119 97 [.ref 0, .int x, .ref 26] [.ref 12, .int x] S := by
  obtain ⟨e1, e2, hn, h1n, e7, e8, hna, e10, e11, hnb⟩ := J_n hJ
  obtain ⟨l, h1, h2⟩ := rank_agree (f10 := S.2.1 10) (f11 := S.2.1 11) (rp := S.1 0 14) (J_bd hJ) hnb
  have hm20 : (rkR S nb).2.2 ≤ nb := (rkS_in (cs := csX S.2.1 nb (S.1 0 14) (S.1 0 6)) (h := S.2.1 9) (rp := S.1 0 14) (f10 := S.2.1 10) (f11 := S.2.1 11) nb).1
  rcases dR x (nI 0) (nI 1000) with h | h
  · refine j_ok (S' := sRk S nb) hJ (w_plan S (sRk S nb) _ _ (x_plan S n nb x h hJ.1 (J_bn hJ))) ?_
    refine m_plan (outS (sRk S nb) _) n nb (rkR S nb).2.2 _ _ x l (rkR S nb).2.1 hJ.2.2.1 hJ.2.2.2.2.2.1 h hm20 ?_ h2
    intro p hp
    rw [cs_rk]
    exact h1 p hp
  · exact j_err hJ (by decide) (by decide) (w_plan_0 S S _ (x_plan_0 S x h)) (m_plan_0 S x h)
theorem j_isSupplied (S : PS) (x : Int32) {n na nb : Nat} (hJ : J S n na nb) : Jt true 103 68 [.ref 0, .int x, .ref 26] [.ref 12, .int x] S := by
  obtain ⟨e1, e2, hn, h1n, -⟩ := J_n hJ
  rcases dN x (n := n) (by omega) with ⟨j, hj, rfl⟩ | h
  · exact ⟨0, 0, _, _, _, Nat.zero_le _, w_isSupplied S S _ _ (x_isSupplied S j n e1 hn hj), m_isSupplied (outS S _) j n nb _ _ hJ.2.2.1 hj, rfl, Nat.zero_le _, fun _ => rfl, n, na, nb, hJ⟩
  · exact j_err hJ (by decide) (by decide) (w_isSupplied_1 S S _ (x_isSupplied_0 S x (by rw [e1]; exact h))) (m_isSupplied_0 S x n e2 hn h1n h)
end
section
theorem upd_eq {f g : Nat → Int32} {k : Nat} {x : Int32} (h : f = g) : upd f k x = upd g k x := by rw [h]
theorem updc {f : Nat → Int32} {k j : Nat} {x : Int32} : upd f k x j = if j = k then x else f j := rfl
theorem j_addNode (S : PS) (x y : Int32) {n na nb : Nat} (hJ : J S n na nb) : Jt false 98 63 [.ref 0, .int x, .int y, .ref 26] [.ref 12, .int x, .int y] S := by
  obtain ⟨e1, e2, hn, h1n, e7, e8, hna, e10, e11, hnb⟩ := J_n hJ
  rcases dR y (nI 0) (nI 10000) with h | h
  · rcases dN x (n := n) (by omega) with ⟨j, hj, rfl⟩ | hx
    · by_cases h16 : n < 16
      · refine ⟨0, 0, nI n, outS (sAddNode S n j y) (nI n).toInt64, tAddNode (outS (sAddNode S n j y) (nI n).toInt64) n j y, Nat.zero_le _, w_addNode S _ _ _ _ (x_addNode S j n y h e1 hj h16), m_addNode (outS (sAddNode S n j y) (nI n).toInt64) j n y h e2 hj h16, rfl, Nat.zero_le _, fun _ => rfl, n + 1, na, nb, ?_⟩
        obtain ⟨⟨-, -, -, -, hpr⟩, -, ⟨-, hW, ⟨h14, h15, h16b, h19, -⟩, ⟨h22, h23, h24, h20, h21⟩, ⟨hsh, hs0⟩, hrp⟩, hmt, ⟨hAr, hAr0⟩, hBn, hh⟩ := hJ
        have hpr' : PrOk (upd (S.2.1 4) n (-1)) := by
          intro k hk
          by_cases hkn : k = n
          · subst hkn; exact Or.inl upd_same
          · rw [upd_lt hkn]; exact hpr k hk
        have hW' : Wy (tAddNode (outS (sAddNode S n j y) (nI n).toInt64) n j y).2.1 (n + 1) := by
          refine ⟨?_, fun k h0 hk => ?_⟩
          · show upd (S.2.1 1) n (S.2.1 1 j ||| one n) 0 = one 0
            rw [upd_lt (by omega)]
            exact hW.1
          · by_cases hkn : k = n
            · subst hkn
              refine ⟨j, hj, upd_same, ?_⟩
              show upd (S.2.1 1) k (S.2.1 1 j ||| one k) k = upd (S.2.1 1) k (S.2.1 1 j ||| one k) j ||| one k
              rw [upd_same, upd_lt (by omega)]
            · obtain ⟨q, hq, a1, a2⟩ := hW.2 k h0 (by omega)
              refine ⟨q, hq, ?_, ?_⟩
              · show upd (S.2.1 13) n (nI j) k = nI q
                rw [upd_lt hkn]; exact a1
              · show upd (S.2.1 1) n (S.2.1 1 j ||| one n) k = upd (S.2.1 1) n (S.2.1 1 j ||| one n) q ||| one k
                rw [upd_lt hkn, upd_lt (by omega)]; exact a2
        refine ⟨⟨rfl, by omega, e10, hnb, hpr'⟩, ⟨e7, hna, e8⟩, ⟨⟨rfl, by omega, by omega, e11, hnb⟩, hW', ⟨upd_eq h14, h15, ?_, h19, hpr'⟩, ⟨h22, h23, h24, h20, h21⟩, ⟨hsh, hs0⟩, hrp⟩, hmt, ⟨fun a ha => ?_, hAr0⟩, fun b hb => ?_, hh⟩
        · intro k h0 hk
          show upd (S.2.1 16) n (-1) k = upd (S.2.1 4) n (-1) k
          by_cases hkn : k = n
          · subst hkn; rw [upd_same, upd_same]
          · rw [upd_lt hkn, upd_lt hkn]; exact h16b k h0 hk
        · obtain ⟨q, a1, a2, a3⟩ := hAr a ha
          refine ⟨q, by omega, a2, fun e he hx => ?_⟩
          obtain ⟨b1, b2, b3⟩ := a3 e he hx
          refine ⟨by omega, b2, ?_⟩
          show hs (upd (S.2.1 1) n (S.2.1 1 j ||| one n) e) q
          rw [upd_lt (by omega)]
          exact b3
        · obtain ⟨q, hq, e⟩ := hBn b hb
          exact ⟨q, by omega, e⟩
      · have h16 : n = 16 := by omega
        subst h16
        exact j_err hJ (by decide) (by decide) (w_addNode_2 S S _ _ (x_addNode_2 S j y h e1 hj)) (m_addNode_2 S j y h e2 hj)
    · exact j_err hJ (by decide) (by decide) (w_addNode_1 S S _ _ (x_addNode_1 S x y h (by rw [e1]; exact hx))) (m_addNode_1 S x y n h e2 hn h1n hx)
  · exact j_err hJ (by decide) (by decide) (w_addNode_0 S S _ _ (x_addNode_0 S x y h)) (m_addNode_0 S x y h)
theorem j_setBackground (S : PS) (x y : Int32) {n na nb : Nat} (hJ : J S n na nb) : Jt false 99 64 [.ref 0, .int x, .int y, .ref 26] [.ref 12, .int x, .int y] S := by
  obtain ⟨e1, e2, hn, h1n, e7, e8, hna, e10, e11, hnb⟩ := J_n hJ
  rcases dR y (nI 0) (nI 10000) with h | h
  · rcases dN x (n := n) (by omega) with ⟨j, hj, rfl⟩ | hx
    · obtain ⟨r, hr⟩ : ∃ r, r = lkgX (sSetB S j y).2.1 nb (S.1 0 14) j := ⟨_, rfl⟩
      obtain ⟨hX, hA, ⟨hc, hW, ⟨h14, h15, h16b, h19, hpr⟩, h5, h6, hrp⟩, hmt, hAr, hBn, hh⟩ := id hJ
      have hM2 : MR (tSetB (outS (sSetB S j y) r.toInt64) j y) n nb (S.1 0 14) (S.1 0 6) := ⟨hc, hW, ⟨h14, upd_eq h15, h16b, h19, hpr⟩, h5, h6, hrp⟩
      refine ⟨0, 0, r, outS (sSetB S j y) r.toInt64, tSetB (outS (sSetB S j y) r.toInt64) j y, Nat.zero_le _, w_setBackground S _ _ _ _ (fe (x_setBackground S j n nb y h hJ.1 hj) hr.symm), fe (m_setBackground (outS (sSetB S j y) r.toInt64) j n nb _ _ y h hM2 hj) hr.symm, rfl, Nat.zero_le _, fun _ => rfl, n, na, nb, ?_⟩
      exact ⟨hX, hA, hM2, hmt, hAr, hBn, hh⟩
    · exact j_err hJ (by decide) (by decide) (w_setBackground_1 S S _ _ (x_setBackground_1 S x y h (by rw [e1]; exact hx))) (m_setBackground_1 S x y n h e2 hn h1n hx)
  · exact j_err hJ (by decide) (by decide) (w_setBackground_0 S S _ _ (x_setBackground_0 S x y h)) (m_setBackground_0 S x y h)
theorem okP_of {v : Int32} (h : okR v (-1) (nI 100)) : v = -1 ∨ ∃ w : Nat, w ≤ 100 ∧ v = nI w := by
  have h1 : (-1 : Int32).toInt = -1 := by decide
  have h2 : (nI 100).toInt = 100 := by decide
  obtain ⟨a, b⟩ := h
  rw [Int32.lt_iff_toInt_lt, h1] at a
  rw [Int32.le_iff_toInt_le, h2] at b
  rcases (show v.toInt = -1 ∨ 0 ≤ v.toInt by omega) with z | z
  · left
    exact Int32.toInt_inj.mp (z.trans h1.symm)
  · right
    refine ⟨v.toInt.toNat, by omega, ?_⟩
    apply Int32.toInt_inj.mp
    rw [nI_toInt (by omega)]
    omega
theorem j_setPressure (S : PS) (x y : Int32) {n na nb : Nat} (hJ : J S n na nb) : Jt false 100 65 [.ref 0, .int x, .int y, .ref 26] [.ref 12, .int x, .int y] S := by
  obtain ⟨e1, e2, hn, h1n, e7, e8, hna, e10, e11, hnb⟩ := J_n hJ
  rcases dR y (-1) (nI 100) with h | h
  · rcases dP x (n := n) (by omega) with ⟨j, h0, hj, rfl⟩ | hx
    · obtain ⟨r, hr⟩ : ∃ r, r = prs (sSetP S j y).2.1 j := ⟨_, rfl⟩
      obtain ⟨⟨x1, x2, x3, x4, hpr⟩, hA, ⟨hc, hW, ⟨h14, h15, h16b, h19, -⟩, h5, h6, hrp⟩, hmt, hAr, hBn, hh⟩ := id hJ
      have hpr' : PrOk (upd (S.2.1 4) j y) := by
        intro k hk
        by_cases hkn : k = j
        · subst hkn; rw [upd_same]; exact okP_of h
        · rw [upd_lt hkn]; exact hpr k hk
      have h16c : ∀ k, 0 < k → k < 16 → upd (S.2.1 16) j y k = upd (S.2.1 4) j y k := by
        intro k h0 hk
        by_cases hkn : k = j
        · subst hkn; rw [upd_same, upd_same]
        · rw [upd_lt hkn, upd_lt hkn]; exact h16b k h0 hk
      have hM2 : MR (tSetP (outS (sSetP S j y) r.toInt64) j y) n nb (S.1 0 14) (S.1 0 6) := ⟨hc, hW, ⟨h14, h15, h16c, h19, hpr'⟩, h5, h6, hrp⟩
      refine ⟨0, 0, r, outS (sSetP S j y) r.toInt64, tSetP (outS (sSetP S j y) r.toInt64) j y, Nat.zero_le _, w_setPressure S _ _ _ _ (fe (x_setPressure S j n y h e1 hn h0 hj) hr.symm), fe (m_setPressure (outS (sSetP S j y) r.toInt64) j n nb _ _ y h hM2 h0 hj) hr.symm, rfl, Nat.zero_le _, fun _ => rfl, n, na, nb, ?_⟩
      exact ⟨⟨x1, x2, x3, x4, hpr'⟩, hA, hM2, hmt, hAr, hBn, hh⟩
    · exact j_err hJ (by decide) (by decide) (w_setPressure_1 S S _ _ (x_setPressure_1 S x y h (by rw [e1]; exact hx))) (m_setPressure_1 S x y n h e2 hn h1n hx)
  · exact j_err hJ (by decide) (by decide) (w_setPressure_0 S S _ _ (x_setPressure_0 S x y h)) (m_setPressure_0 S x y h)
theorem j_addMeter (S : PS) (x : Int32) {n na nb : Nat} (hJ : J S n na nb) : Jt true 101 66 [.ref 0, .int x, .ref 26] [.ref 12, .int x] S := by
  obtain ⟨e1, e2, hn, h1n, e7, e8, hna, e10, e11, hnb⟩ := J_n hJ
  rcases dP x (n := n) (by omega) with ⟨j, h0, hj, rfl⟩ | hx
  · refine ⟨0, 0, bi (¬ hs (S.1 0 5) j), outS (sMeter S j) (zl (bi (¬ hs (S.1 0 5) j))), tMeter (outS (sMeter S j) (zl (bi (¬ hs (S.1 0 5) j)))) j, Nat.zero_le _, w_addMeter S _ _ _ (x_addMeter S j n e1 hn h0 hj), m_addMeter (outS (sMeter S j) (zl (bi (¬ hs (S.1 0 5) j)))) j n (S.1 0 5) e2 hn h0 hj (hJ.2.2.2.1 j (by omega)), rfl, Nat.zero_le _, fun _ => rfl, n, na, nb, ?_⟩
    obtain ⟨hX, hA, hM, hmt, hAr, hBn, hh⟩ := hJ
    refine ⟨hX, hA, hM, fun k hk => ?_, hAr, hBn, hh⟩
    show upd (S.2.1 17) j (nI 1) k = bi (hs (S.1 0 5 ||| one j) k)
    have hor : hs (S.1 0 5 ||| one j) k ↔ (hs (S.1 0 5) k ∨ j = k) := by rw [hs_or (by omega), hs_one (by omega) (by omega)]
    by_cases hkj : k = j
    · subst hkj
      rw [upd_same, bi_t (hor.mpr (Or.inr rfl))]
    · rw [upd_lt hkj, hmt k hk, bi_or hor (fun z => hkj z.symm)]
  · exact j_err hJ (by decide) (by decide) (w_addMeter_1 S S _ (x_addMeter_0 S x (by rw [e1]; exact hx))) (m_addMeter_0 S x n e2 hn h1n hx)
theorem j_toggleValve (S : PS) (x : Int32) {n na nb : Nat} (hJ : J S n na nb) : Jt true 102 67 [.ref 0, .int x, .ref 26] [.ref 12, .int x] S := by
  obtain ⟨e1, e2, hn, h1n, e7, e8, hna, e10, e11, hnb⟩ := J_n hJ
  rcases dP x (n := n) (by omega) with ⟨j, h0, hj, rfl⟩ | hx
  · have hxor : hs (S.1 0 6 ^^^ one j) j ↔ ¬ hs (S.1 0 6) j := by rw [hs_xone (by omega) (by omega), if_pos rfl]
    have er : bi (¬ hs (S.1 0 6 ^^^ one j) j) = bi (hs (S.1 0 6) j) := by
      by_cases z : hs (S.1 0 6) j
      · rw [bi_t z, bi_t (p := ¬ hs (S.1 0 6 ^^^ one j) j) (fun w => hxor.mp w z)]
      · rw [bi_f z, bi_f (p := ¬ hs (S.1 0 6 ^^^ one j) j) (fun w => w (hxor.mpr z))]
    refine ⟨0, 0, bi (hs (S.1 0 6) j), outS (sValve S j) (zl (bi (hs (S.1 0 6) j))), tValve (outS (sValve S j) (zl (bi (hs (S.1 0 6) j)))) j (bi (¬ hs (S.1 0 6) j)), Nat.zero_le _, w_toggleValve S _ _ _ (fe (x_toggleValve S j n e1 hn h0 hj) er), m_toggleValve (outS (sValve S j) (zl (bi (hs (S.1 0 6) j)))) j n (S.1 0 6) e2 hn h0 hj (hJ.2.2.1.2.2.2.2.1.1 j (by omega)), rfl, Nat.zero_le _, fun _ => rfl, n, na, nb, ?_⟩
    obtain ⟨hX, hA, ⟨hc, hW, h4, h5, ⟨hsh, hs0⟩, hrp⟩, hmt, hAr, hBn, hh⟩ := hJ
    refine ⟨hX, hA, ⟨hc, hW, h4, h5, ⟨fun k hk => ?_, ?_⟩, hrp⟩, hmt, hAr, hBn, hh⟩
    · show upd (S.2.1 18) j (bi (¬ hs (S.1 0 6) j)) k = bi (hs (S.1 0 6 ^^^ one j) k)
      have hxk : hs (S.1 0 6 ^^^ one j) k ↔ (if j = k then ¬ hs (S.1 0 6) k else hs (S.1 0 6) k) := hs_xone (by omega) (by omega)
      by_cases hkj : k = j
      · subst hkj
        rw [if_pos rfl] at hxk
        rw [upd_same]
        unfold bi
        simp only [hxk]
      · rw [if_neg (fun z => hkj z.symm)] at hxk
        rw [upd_lt hkj, hsh k hk]
        unfold bi
        simp only [hxk]
    · show ¬ hs (S.1 0 6 ^^^ one j) 0
      rw [hs_xone (by omega) (by omega), if_neg (by omega)]
      exact hs0
  · exact j_err hJ (by decide) (by decide) (w_toggleValve_1 S S _ (x_toggleValve_0 S x (by rw [e1]; exact hx))) (m_toggleValve_0 S x n e2 hn h1n hx)
theorem j_addArea (S : PS) (x : Int32) {n na nb : Nat} (hJ : J S n na nb) : Jt false 106 76 [.ref 0, .int x, .ref 26] [.ref 12, .int x] S := by
  obtain ⟨e1, e2, hn, h1n, e7, e8, hna, e10, e11, hnb⟩ := J_n hJ
  rcases dN x (n := n) (by omega) with ⟨j, hj, rfl⟩ | hx
  · by_cases h8 : na < 8
    · refine ⟨0, 0, nI na, outS (sArea S na j) (nI na).toInt64, tArea (outS (sArea S na j) (nI na).toInt64) na j, Nat.zero_le _, w_addArea S _ _ _ (x_addArea S j n na e1 hn hj e7 h8), m_addArea (outS (sArea S na j) (nI na).toInt64) j n na e2 hn hj e8 h8, rfl, Nat.zero_le _, fun _ => rfl, n, na + 1, nb, ?_⟩
      obtain ⟨hX, hA, ⟨hc, hW, h4, ⟨h22, h23, h24, h20, h21⟩, h6, hrp⟩, hmt, ⟨hAr, hAr0⟩, hBn, hh⟩ := hJ
      refine ⟨hX, ⟨rfl, by omega, rfl⟩, ⟨hc, hW, h4, ⟨h22, h23, h24, upd_eq h20, h21⟩, h6, hrp⟩, hmt, ⟨fun a ha => ?_, fun a ha hb => hAr0 a (by omega) hb⟩, hBn, hh⟩
      by_cases haa : a = na
      · subst haa
        refine ⟨j, hj, upd_same, fun e he hx => ?_⟩
        have hx2 : hs (S.2.1 6 a) e := hx
        rw [hAr0 a (Nat.le_refl _) h8] at hx2
        exact absurd hx2 (hs_0 he)
      · obtain ⟨q, a1, a2, a3⟩ := hAr a (by omega)
        refine ⟨q, a1, ?_, a3⟩
        show upd (S.2.1 5) na (nI j) a = nI q
        rw [upd_lt haa]
        exact a2
    · have h8 : na = 8 := by omega
      subst h8
      exact j_err hJ (by decide) (by decide) (w_addArea_2 S S _ (x_addArea_1 S j n e1 hn hj e7)) (m_addArea_1 S j n e2 hn hj e8)
  · exact j_err hJ (by decide) (by decide) (w_addArea_1 S S _ (x_addArea_0 S x (by rw [e1]; exact hx))) (m_addArea_0 S x n e2 hn h1n hx)
theorem j_addExport (S : PS) (x y : Int32) {n na nb : Nat} (hJ : J S n na nb) : Jt false 107 77 [.ref 0, .int x, .int y, .ref 26] [.ref 12, .int x, .int y] S := by
  obtain ⟨e1, e2, hn, h1n, e7, e8, hna, e10, e11, hnb⟩ := J_n hJ
  rcases dN x (n := na) (by omega) with ⟨a, ha, rfl⟩ | hx
  · rcases dN y (n := n) (by omega) with ⟨j, hj, rfl⟩ | hy
    · obtain ⟨hX, hA, ⟨hc, hW, h4, ⟨h22, h23, h24, h20, h21⟩, h6, hrp⟩, hmt, ⟨hAr, hAr0⟩, hBn, hh⟩ := id hJ
      obtain ⟨q, a1, a2, a3⟩ := hAr a ha
      have hce : canX S.2.1 a j ↔ (j ≠ q ∧ hs (S.2.1 1 j) q ∧ ¬ hs (S.2.1 6 a) j) := by
        unfold canX
        rw [a2]
        constructor
        · rintro ⟨z1, z2, z3⟩
          exact ⟨fun w => z1 (by rw [w]), z2, z3⟩
        · rintro ⟨z1, z2, z3⟩
          exact ⟨fun w => z1 ((nI_eq (by omega) (by omega)).mp w), z2, z3⟩
      by_cases hcan : canX S.2.1 a j
      · obtain ⟨c1, c2, c3⟩ := hce.mp hcan
        obtain ⟨r, hr⟩ : ∃ r, r = nI (cnt (inA (sExp S a j).2.1 a) n) := ⟨_, rfl⟩
        have er : bcI (stL (inA (sExp S a j).2.1 a) n) = r := by rw [hr]; exact set_cnt hn
        have hA2 : ArOk (outS (sExp S a j) r.toInt64).2.1 n a q := by
          refine ⟨a1, a2, fun e he hx => ?_⟩
          have hx2 : hs (upd (S.2.1 6) a (S.2.1 6 a ||| one j) a) e := hx
          rw [upd_same, hs_or he, hs_one (by omega) he] at hx2
          rcases hx2 with z | z
          · exact a3 e he z
          · subst z
            exact ⟨hj, c1, c2⟩
        have hM2 : MR (tExp (outS (sExp S a j) r.toInt64) a j) n nb (S.1 0 14) (S.1 0 6) := by
          refine ⟨hc, hW, h4, ⟨h22, h23, h24, h20, ?_⟩, h6, hrp⟩
          show upd (S.2.1 21) a (S.2.1 21 a ||| one j) = upd (S.2.1 6) a (S.2.1 6 a ||| one j)
          rw [h21]
        have h20a : (outS (sExp S a j) r.toInt64).2.1 20 a = nI q := by
          show S.2.1 20 a = nI q
          rw [h20]
          exact a2
        have hcM : canM (outS (sExp S a j) r.toInt64).2.1 a j q := by
          refine ⟨c1, c2, ?_⟩
          show ¬ hs (S.2.1 21 a) j
          rw [h21]
          exact c3
        refine ⟨0, 0, r, outS (sExp S a j) r.toInt64, tExp (outS (sExp S a j) r.toInt64) a j, Nat.zero_le _, w_addExport S _ _ _ _ (fe (x_addExport S a na j n nb ha hna e7 hX hj hcan) er), fe (m_addExport (outS (sExp S a j) r.toInt64) a j q n nb na _ _ e8 hna ha hj hM2 hA2 h20a hcM) hr.symm, rfl, Nat.zero_le _, fun _ => rfl, n, na, nb, ?_⟩
        refine ⟨hX, hA, hM2, hmt, ⟨fun b hb => ?_, fun b h1 h2 => ?_⟩, hBn, hh⟩
        · by_cases hba : b = a
          · subst hba
            exact ⟨q, hA2⟩
          · obtain ⟨q2, b1, b2, b3⟩ := hAr b hb
            refine ⟨q2, b1, b2, fun e he hx => ?_⟩
            have hx2 : hs (upd (S.2.1 6) a (S.2.1 6 a ||| one j) b) e := hx
            rw [upd_lt hba] at hx2
            exact b3 e he hx2
        · show upd (S.2.1 6) a (S.2.1 6 a ||| one j) b = nI 0
          rw [upd_lt (by omega)]
          exact hAr0 b h1 h2
      · have h20a : S.2.1 20 a = nI q := by rw [h20]; exact a2
        exact j_err hJ (by decide) (by decide) (w_addExport_2 S S _ _ (x_addExport_2 S a na j n ha hna e7 e1 hn hj hcan)) (m_addExport_2 S a j q n na e2 hn e8 hna ha hj hW a1 h20a (fun z => hcan (hce.mpr ⟨z.1, z.2.1, by have := z.2.2; rw [h21] at this; exact this⟩)))
    · exact j_err hJ (by decide) (by decide) (w_addExport_1 S S _ _ (x_addExport_1 S a na y ha hna e7 (by rw [e1]; exact hy))) (m_addExport_0 S _ y n na e2 hn h1n e8 hna (Or.inr ⟨⟨a, ha, rfl⟩, hy⟩))
  · exact j_err hJ (by decide) (by decide) (w_addExport_1 S S _ _ (x_addExport_0 S x y (by rw [e7]; exact hx))) (m_addExport_0 S x y n na e2 hn h1n e8 hna (Or.inl hx))
theorem j_burst (S : PS) (x y z : Int32) {n na nb : Nat} (hJ : J S n na nb) : Jt false 115 89 [.ref 0, .int x, .int y, .int z, .ref 26] [.ref 12, .int x, .int y, .int z] S := by
  obtain ⟨e1, e2, hn, h1n, e7, e8, hna, e10, e11, hnb⟩ := J_n hJ
  rcases dR y (nI 1) (nI 10000) with h | h
  · rcases dR z (nI 1) (nI 100) with h2 | h2
    · rcases dN x (n := n) (by omega) with ⟨j, hj, rfl⟩ | hx
      · by_cases h20 : nb < 20
        · refine ⟨0, 0, nI nb, outS (sBurst S nb j y z) (nI nb).toInt64, tBurst (outS (sBurst S nb j y z) (nI nb).toInt64) nb j y z, Nat.zero_le _, w_burst S _ _ _ _ _ (x_burst S j n nb y z h h2 e1 hn hj e10 h20), m_burst (outS (sBurst S nb j y z) (nI nb).toInt64) j n nb y z h h2 e2 hn hj e11 h20, rfl, Nat.zero_le _, fun _ => rfl, n, na, nb + 1, ?_⟩
          obtain ⟨⟨x1, x2, -, -, hpr⟩, hA, ⟨⟨c1, c2, c3, -, -⟩, hW, h4, ⟨h22, h23, h24, h20', h21⟩, h6, hrp⟩, hmt, hAr, hBn, hh⟩ := hJ
          refine ⟨⟨x1, x2, rfl, by omega, hpr⟩, hA, ⟨⟨c1, c2, c3, rfl, by omega⟩, hW, h4, ⟨upd_eq h22, upd_eq h23, upd_eq h24, h20', h21⟩, h6, hrp⟩, hmt, hAr, fun b hb => ?_, fun b hb => ?_⟩
          · by_cases hbb : b = nb
            · subst hbb
              exact ⟨j, hj, upd_same⟩
            · obtain ⟨q, hq, e⟩ := hBn b (by omega)
              refine ⟨q, hq, ?_⟩
              show upd (S.2.1 7) nb (nI j) b = nI q
              rw [upd_lt hbb]
              exact e
          · show 1 ≤ (upd (S.2.1 9) nb z b).toInt ∧ (upd (S.2.1 9) nb z b).toInt ≤ 100
            by_cases hbb : b = nb
            · subst hbb
              rw [upd_same]
              have k1 : (nI 1).toInt = 1 := by decide
              have k2 : (nI 100).toInt = 100 := by decide
              obtain ⟨a, b⟩ := h2
              rw [Int32.lt_iff_toInt_lt, k1] at a
              rw [Int32.le_iff_toInt_le, k2] at b
              omega
            · rw [upd_lt hbb]
              exact hh b (by omega)
        · have h20 : nb = 20 := by omega
          subst h20
          exact j_err hJ (by decide) (by decide) (w_burst_2 S S _ _ _ (x_burst_2 S j n y z h h2 e1 hn hj e10)) (m_burst_2 S j n y z h h2 e2 hn hj e11)
      · exact j_err hJ (by decide) (by decide) (w_burst_1 S S _ _ _ (x_burst_1 S x y z h h2 (by rw [e1]; exact hx))) (m_burst_1 S x y z n h h2 e2 hn h1n hx)
    · exact j_err hJ (by decide) (by decide) (w_burst_0 S S _ _ _ (x_burst_0b S x y z h h2)) (m_burst_0b S x y z h h2)
  · exact j_err hJ (by decide) (by decide) (w_burst_0 S S _ _ _ (x_burst_0a S x y z h)) (m_burst_0a S x y z h)
theorem j_repair (S : PS) (x : Int32) {n na nb : Nat} (hJ : J S n na nb) : Jt false 116 92 [.ref 0, .int x, .ref 26] [.ref 12, .int x] S := by
  obtain ⟨e1, e2, hn, h1n, e7, e8, hna, e10, e11, hnb⟩ := J_n hJ
  rcases dN x (n := nb) (by omega) with ⟨b, hb, rfl⟩ | hx
  · obtain ⟨q, hq, hbq⟩ := hJ.2.2.2.2.2.1 b hb
    have h25 := hJ.2.2.1.2.2.2.2.2 b (by omega)
    by_cases hr : hs (S.1 0 14) b
    · exact j_err hJ (by decide) (by decide) (w_repair_2 S S _ (x_repair_1 S b nb hb hnb e10 hr)) (m_repair_1 S b nb e11 hnb hb (h25.trans (bi_t hr)))
    · obtain ⟨r, hr2⟩ : ∃ r, r = csX S.2.1 nb (S.1 0 14) (S.1 0 6) b := ⟨_, rfl⟩
      refine ⟨0, 0, r, outS (sRep S b) r.toInt64, tRep (outS (sRep S b) r.toInt64) b, Nat.zero_le _, w_repair S _ _ _ (fe (x_repair S b q n nb hb hJ.1 (by omega) hbq hr) hr2.symm), fe (m_repair (outS (sRep S b) r.toInt64) b q n nb (S.1 0 14) (S.1 0 6) hJ.2.2.1 hb hq hbq hr) hr2.symm, rfl, Nat.zero_le _, fun _ => rfl, n, na, nb, ?_⟩
      obtain ⟨hX, hA, ⟨hc, hW, h4, h5, h6, hrp⟩, hmt, hAr, hBn, hh⟩ := hJ
      refine ⟨hX, hA, ⟨hc, hW, h4, h5, h6, fun c hc => ?_⟩, hmt, hAr, hBn, hh⟩
      show upd (S.2.1 25) b (nI 1) c = bi (hs (S.1 0 14 ||| one b) c)
      have hor : hs (S.1 0 14 ||| one b) c ↔ (hs (S.1 0 14) c ∨ b = c) := by rw [hs_or (by omega), hs_one (by omega) (by omega)]
      by_cases hcb : c = b
      · subst hcb
        rw [upd_same, bi_t (hor.mpr (Or.inr rfl))]
      · rw [upd_lt hcb, hrp c hc, bi_or hor (fun z => hcb z.symm)]
  · exact j_err hJ (by decide) (by decide) (w_repair_1 S S _ (x_repair_0 S x (by rw [e10]; exact hx))) (m_repair_0 S x nb e11 hnb hx).1
end
section
theorem cxP {i : Nat} {P : Nat → PR → PS → Prop} {K : KT} {k k' Km nx ax : Nat} {as rest : List Value} {ls : PL} {S S' : PS} {r : PR} (h : Run k' ax as S r S') (hk : k + k' ≤ Km) (g : callK i P K (k + k') nx ls rest r S') : ∃ (k' : Nat) (r : PR) (S' : PS), Run k' ax as S r S' ∧ k + k' ≤ Km ∧ callK i P K (k + k') nx ls rest r S' := ⟨k', r, S', h, hk, g⟩
abbrev LL (i : Nat) : PL := [(4, .int (nI (4 * i))), (0, .retAddr 0), (1, .ref 0), (2, .ref 12), (3, .ref 26)]
abbrev xsA (xs : Nat → Int32) (i j : Nat) : Int32 := xs (nI (4 * i) + nI j).toNatClampNeg
theorem vin {L i j : Nat} (h : 4 * i + j < L) (hL : L ≤ 2048) : vp_in (nI (4 * i) + nI j) L := by
  rw [nI_add]
  exact vp_in_nI h (by omega)
theorem nI_z {kc : Nat} (h : kc ≤ 3) (w : nI kc = 0) : kc = 0 := (nI_eq (by omega) (by decide)).mp (w.trans (rfl : (0 : Int32) = nI 0))
theorem cmp0 {x y : Int64} (h : x = y) : lg_cmp x y = 0 := (lg_cmp_eq x y).mpr h
theorem gapL {L : Nat} (hL : L ≤ 2048) : (Int32.ofNat L - nI 4).toInt = (L : Int) - (4 : Nat) := pk_sub_toInt (by omega) (by omega)
theorem ltS {L i : Nat} (hL : L ≤ 2048) (hi : i ≤ 512) (h : L < 4 * i + 4) : Int32.ofNat L - nI 4 < nI (4 * i) := by
  rw [Int32.lt_iff_toInt_lt, gapL hL, nI_toInt (by omega)]
  omega
theorem ltN {L i : Nat} (hL : L ≤ 2048) (h : 4 * i + 3 < L) : ¬ Int32.ofNat L - nI 4 < nI (4 * i) := by
  rw [Int32.lt_iff_toInt_lt, gapL hL, nI_toInt (by omega)]
  omega
theorem offO {o tg : Nat} {off : Int} (ho : o < 23) (h4 : (#[105, 173, 241, 309, 372, 435, 498, 554, 610, 623, 679, 747, 803, 859, 915, 971, 1027, 1095, 1163, 1243, 1299, 1355, 1411] : Array Int)[o]? = some off) (h5 : (((144 : Nat) : Int) - 105) + off = (tg : Int)) : tg = ([144, 212, 280, 348, 411, 474, 537, 593, 649, 662, 718, 786, 842, 898, 954, 1010, 1066, 1134, 1202, 1282, 1338, 1394, 1450] : List Nat).getD o 0 := by
  rcases (show o = 0 ∨ o = 1 ∨ o = 2 ∨ o = 3 ∨ o = 4 ∨ o = 5 ∨ o = 6 ∨ o = 7 ∨ o = 8 ∨ o = 9 ∨ o = 10 ∨ o = 11 ∨ o = 12 ∨ o = 13 ∨ o = 14 ∨ o = 15 ∨ o = 16 ∨ o = 17 ∨ o = 18 ∨ o = 19 ∨ o = 20 ∨ o = 21 ∨ o = 22 by omega) with rfl | rfl | rfl | rfl | rfl | rfl | rfl | rfl | rfl | rfl | rfl | rfl | rfl | rfl | rfl | rfl | rfl | rfl | rfl | rfl | rfl | rfl | rfl
  · have e : (105 : Int) = off := Option.some.inj h4
    show tg = 144
    omega
  · have e : (173 : Int) = off := Option.some.inj h4
    show tg = 212
    omega
  · have e : (241 : Int) = off := Option.some.inj h4
    show tg = 280
    omega
  · have e : (309 : Int) = off := Option.some.inj h4
    show tg = 348
    omega
  · have e : (372 : Int) = off := Option.some.inj h4
    show tg = 411
    omega
  · have e : (435 : Int) = off := Option.some.inj h4
    show tg = 474
    omega
  · have e : (498 : Int) = off := Option.some.inj h4
    show tg = 537
    omega
  · have e : (554 : Int) = off := Option.some.inj h4
    show tg = 593
    omega
  · have e : (610 : Int) = off := Option.some.inj h4
    show tg = 649
    omega
  · have e : (623 : Int) = off := Option.some.inj h4
    show tg = 662
    omega
  · have e : (679 : Int) = off := Option.some.inj h4
    show tg = 718
    omega
  · have e : (747 : Int) = off := Option.some.inj h4
    show tg = 786
    omega
  · have e : (803 : Int) = off := Option.some.inj h4
    show tg = 842
    omega
  · have e : (859 : Int) = off := Option.some.inj h4
    show tg = 898
    omega
  · have e : (915 : Int) = off := Option.some.inj h4
    show tg = 954
    omega
  · have e : (971 : Int) = off := Option.some.inj h4
    show tg = 1010
    omega
  · have e : (1027 : Int) = off := Option.some.inj h4
    show tg = 1066
    omega
  · have e : (1095 : Int) = off := Option.some.inj h4
    show tg = 1134
    omega
  · have e : (1163 : Int) = off := Option.some.inj h4
    show tg = 1202
    omega
  · have e : (1243 : Int) = off := Option.some.inj h4
    show tg = 1282
    omega
  · have e : (1299 : Int) = off := Option.some.inj h4
    show tg = 1338
    omega
  · have e : (1355 : Int) = off := Option.some.inj h4
    show tg = 1394
    omega
  · have e : (1411 : Int) = off := Option.some.inj h4
    show tg = 1450
    omega
theorem offA : ∀ o : Nat, o ≤ ((22 : Int) - 0).toNat → (#[105, 173, 241, 309, 372, 435, 498, 554, 610, 623, 679, 747, 803, 859, 915, 971, 1027, 1095, 1163, 1243, 1299, 1355, 1411] : Array Int)[o]?.isSome = true ∧ ∃ tg : Nat, (((144 : Nat) : Int) - 105) + ((#[105, 173, 241, 309, 372, 435, 498, 554, 610, 623, 679, 747, 803, 859, 915, 971, 1027, 1095, 1163, 1243, 1299, 1355, 1411] : Array Int)[o]?).getD 0 = (tg : Int) := by
  intro o ho
  have ho2 : o ≤ 22 := ho
  rcases (show o = 0 ∨ o = 1 ∨ o = 2 ∨ o = 3 ∨ o = 4 ∨ o = 5 ∨ o = 6 ∨ o = 7 ∨ o = 8 ∨ o = 9 ∨ o = 10 ∨ o = 11 ∨ o = 12 ∨ o = 13 ∨ o = 14 ∨ o = 15 ∨ o = 16 ∨ o = 17 ∨ o = 18 ∨ o = 19 ∨ o = 20 ∨ o = 21 ∨ o = 22 by omega) with rfl | rfl | rfl | rfl | rfl | rfl | rfl | rfl | rfl | rfl | rfl | rfl | rfl | rfl | rfl | rfl | rfl | rfl | rfl | rfl | rfl | rfl | rfl
  · exact ⟨rfl, 144, rfl⟩
  · exact ⟨rfl, 212, rfl⟩
  · exact ⟨rfl, 280, rfl⟩
  · exact ⟨rfl, 348, rfl⟩
  · exact ⟨rfl, 411, rfl⟩
  · exact ⟨rfl, 474, rfl⟩
  · exact ⟨rfl, 537, rfl⟩
  · exact ⟨rfl, 593, rfl⟩
  · exact ⟨rfl, 649, rfl⟩
  · exact ⟨rfl, 662, rfl⟩
  · exact ⟨rfl, 718, rfl⟩
  · exact ⟨rfl, 786, rfl⟩
  · exact ⟨rfl, 842, rfl⟩
  · exact ⟨rfl, 898, rfl⟩
  · exact ⟨rfl, 954, rfl⟩
  · exact ⟨rfl, 1010, rfl⟩
  · exact ⟨rfl, 1066, rfl⟩
  · exact ⟨rfl, 1134, rfl⟩
  · exact ⟨rfl, 1202, rfl⟩
  · exact ⟨rfl, 1282, rfl⟩
  · exact ⟨rfl, 1338, rfl⟩
  · exact ⟨rfl, 1394, rfl⟩
  · exact ⟨rfl, 1450, rfl⟩
section LAW
variable {L : Nat} {xs : Nat → Int32} {P : Nat → PR → PS → Prop} {G : KT}
set_option maxRecDepth 100000 in
theorem law_addNode (hG : Cl 120 L xs 512 P G) (hL : L ≤ 2048) {i k : Nat} {S : PS} (hi : 4 * i + 3 < L) (hk : k ≤ i) (hJ : JJ S) (nx : ∀ (k1 : Nat) (S1 : PS), k1 ≤ k + 1 → JJ S1 → G k1 1506 (LL i) [] S1) : G k 144 (LL i) [] S := by
  obtain ⟨n, na, nb, hJ⟩ := hJ
  obtain ⟨k', kc, b, S1, S2, hk1, h1, h2, h3, h4, h5, hJ2⟩ := j_addNode S (xsA xs i 1) (xsA xs i 2) hJ
  repeat (refine hG.1 _ _ _ _ _ _ rfl ?_)
  refine And.intro (vin (j := 1) (by omega) hL) ?_
  repeat (refine hG.1 _ _ _ _ _ _ rfl ?_)
  refine And.intro (vin (j := 2) (by omega) hL) ?_
  repeat (refine hG.1 _ _ _ _ _ _ rfl ?_)
  refine cxP h1 (by omega) ?_
  repeat (refine hG.1 _ _ _ _ _ _ rfl ?_)
  refine And.intro (vin (j := 1) (by omega) hL) ?_
  repeat (refine hG.1 _ _ _ _ _ _ rfl ?_)
  refine And.intro (vin (j := 2) (by omega) hL) ?_
  repeat (refine hG.1 _ _ _ _ _ _ rfl ?_)
  refine And.intro rfl (cxP h2 (by omega) ?_)
  repeat (refine hG.1 _ _ _ _ _ _ rfl ?_)
  refine And.intro rfl (cxP (m_thrown S2) (by omega) ?_)
  repeat (refine hG.1 _ _ _ _ _ _ rfl ?_)
  refine And.intro (fun _ => ?_) (fun h => absurd h3 h)
  repeat (refine hG.1 _ _ _ _ _ _ rfl ?_)
  refine And.intro (fun _ => ?_) (fun w => ?_)
  · repeat (first | exact wk hG (by (repeat (refine And.intro rfl ?_)); exact trivial) (nx _ _ (by omega) hJ2) | refine hG.1 _ _ _ _ _ _ rfl ?_)
  have h6 := h5 (nI_z h4 w)
  repeat (refine hG.1 _ _ _ _ _ _ rfl ?_)
  refine And.intro (vp_in_nI (show 0 < 1 by omega) (by decide)) ?_
  rw [nI_clamp (by decide), h6]
  repeat (refine hG.1 _ _ _ _ _ _ rfl ?_)
  refine And.intro (fun _ => ?_) (fun h => absurd (cmp0 (if_neg Bool.false_ne_true)) h)
  repeat (first | exact wk hG (by (repeat (refine And.intro rfl ?_)); exact trivial) (nx _ _ (by omega) hJ2) | refine hG.1 _ _ _ _ _ _ rfl ?_)
set_option maxRecDepth 100000 in
theorem law_setBackground (hG : Cl 120 L xs 512 P G) (hL : L ≤ 2048) {i k : Nat} {S : PS} (hi : 4 * i + 3 < L) (hk : k ≤ i) (hJ : JJ S) (nx : ∀ (k1 : Nat) (S1 : PS), k1 ≤ k + 1 → JJ S1 → G k1 1506 (LL i) [] S1) : G k 212 (LL i) [] S := by
  obtain ⟨n, na, nb, hJ⟩ := hJ
  obtain ⟨k', kc, b, S1, S2, hk1, h1, h2, h3, h4, h5, hJ2⟩ := j_setBackground S (xsA xs i 1) (xsA xs i 2) hJ
  repeat (refine hG.1 _ _ _ _ _ _ rfl ?_)
  refine And.intro (vin (j := 1) (by omega) hL) ?_
  repeat (refine hG.1 _ _ _ _ _ _ rfl ?_)
  refine And.intro (vin (j := 2) (by omega) hL) ?_
  repeat (refine hG.1 _ _ _ _ _ _ rfl ?_)
  refine cxP h1 (by omega) ?_
  repeat (refine hG.1 _ _ _ _ _ _ rfl ?_)
  refine And.intro (vin (j := 1) (by omega) hL) ?_
  repeat (refine hG.1 _ _ _ _ _ _ rfl ?_)
  refine And.intro (vin (j := 2) (by omega) hL) ?_
  repeat (refine hG.1 _ _ _ _ _ _ rfl ?_)
  refine And.intro rfl (cxP h2 (by omega) ?_)
  repeat (refine hG.1 _ _ _ _ _ _ rfl ?_)
  refine And.intro rfl (cxP (m_thrown S2) (by omega) ?_)
  repeat (refine hG.1 _ _ _ _ _ _ rfl ?_)
  refine And.intro (fun _ => ?_) (fun h => absurd h3 h)
  repeat (refine hG.1 _ _ _ _ _ _ rfl ?_)
  refine And.intro (fun _ => ?_) (fun w => ?_)
  · repeat (first | exact wk hG (by (repeat (refine And.intro rfl ?_)); exact trivial) (nx _ _ (by omega) hJ2) | refine hG.1 _ _ _ _ _ _ rfl ?_)
  have h6 := h5 (nI_z h4 w)
  repeat (refine hG.1 _ _ _ _ _ _ rfl ?_)
  refine And.intro (vp_in_nI (show 0 < 1 by omega) (by decide)) ?_
  rw [nI_clamp (by decide), h6]
  repeat (refine hG.1 _ _ _ _ _ _ rfl ?_)
  refine And.intro (fun _ => ?_) (fun h => absurd (cmp0 (if_neg Bool.false_ne_true)) h)
  repeat (first | exact wk hG (by (repeat (refine And.intro rfl ?_)); exact trivial) (nx _ _ (by omega) hJ2) | refine hG.1 _ _ _ _ _ _ rfl ?_)
set_option maxRecDepth 100000 in
theorem law_setPressure (hG : Cl 120 L xs 512 P G) (hL : L ≤ 2048) {i k : Nat} {S : PS} (hi : 4 * i + 3 < L) (hk : k ≤ i) (hJ : JJ S) (nx : ∀ (k1 : Nat) (S1 : PS), k1 ≤ k + 1 → JJ S1 → G k1 1506 (LL i) [] S1) : G k 280 (LL i) [] S := by
  obtain ⟨n, na, nb, hJ⟩ := hJ
  obtain ⟨k', kc, b, S1, S2, hk1, h1, h2, h3, h4, h5, hJ2⟩ := j_setPressure S (xsA xs i 1) (xsA xs i 2) hJ
  repeat (refine hG.1 _ _ _ _ _ _ rfl ?_)
  refine And.intro (vin (j := 1) (by omega) hL) ?_
  repeat (refine hG.1 _ _ _ _ _ _ rfl ?_)
  refine And.intro (vin (j := 2) (by omega) hL) ?_
  repeat (refine hG.1 _ _ _ _ _ _ rfl ?_)
  refine cxP h1 (by omega) ?_
  repeat (refine hG.1 _ _ _ _ _ _ rfl ?_)
  refine And.intro (vin (j := 1) (by omega) hL) ?_
  repeat (refine hG.1 _ _ _ _ _ _ rfl ?_)
  refine And.intro (vin (j := 2) (by omega) hL) ?_
  repeat (refine hG.1 _ _ _ _ _ _ rfl ?_)
  refine And.intro rfl (cxP h2 (by omega) ?_)
  repeat (refine hG.1 _ _ _ _ _ _ rfl ?_)
  refine And.intro rfl (cxP (m_thrown S2) (by omega) ?_)
  repeat (refine hG.1 _ _ _ _ _ _ rfl ?_)
  refine And.intro (fun _ => ?_) (fun h => absurd h3 h)
  repeat (refine hG.1 _ _ _ _ _ _ rfl ?_)
  refine And.intro (fun _ => ?_) (fun w => ?_)
  · repeat (first | exact wk hG (by (repeat (refine And.intro rfl ?_)); exact trivial) (nx _ _ (by omega) hJ2) | refine hG.1 _ _ _ _ _ _ rfl ?_)
  have h6 := h5 (nI_z h4 w)
  repeat (refine hG.1 _ _ _ _ _ _ rfl ?_)
  refine And.intro (vp_in_nI (show 0 < 1 by omega) (by decide)) ?_
  rw [nI_clamp (by decide), h6]
  repeat (refine hG.1 _ _ _ _ _ _ rfl ?_)
  refine And.intro (fun _ => ?_) (fun h => absurd (cmp0 (if_neg Bool.false_ne_true)) h)
  repeat (first | exact wk hG (by (repeat (refine And.intro rfl ?_)); exact trivial) (nx _ _ (by omega) hJ2) | refine hG.1 _ _ _ _ _ _ rfl ?_)
set_option maxRecDepth 100000 in
theorem law_addMeter (hG : Cl 120 L xs 512 P G) (hL : L ≤ 2048) {i k : Nat} {S : PS} (hi : 4 * i + 3 < L) (hk : k ≤ i) (hJ : JJ S) (nx : ∀ (k1 : Nat) (S1 : PS), k1 ≤ k + 1 → JJ S1 → G k1 1506 (LL i) [] S1) : G k 348 (LL i) [] S := by
  obtain ⟨n, na, nb, hJ⟩ := hJ
  obtain ⟨k', kc, b, S1, S2, hk1, h1, h2, h3, h4, h5, hJ2⟩ := j_addMeter S (xsA xs i 1) hJ
  repeat (refine hG.1 _ _ _ _ _ _ rfl ?_)
  refine And.intro (vin (j := 1) (by omega) hL) ?_
  repeat (refine hG.1 _ _ _ _ _ _ rfl ?_)
  refine cxP h1 (by omega) ?_
  repeat (refine hG.1 _ _ _ _ _ _ rfl ?_)
  refine And.intro (vin (j := 1) (by omega) hL) ?_
  repeat (refine hG.1 _ _ _ _ _ _ rfl ?_)
  refine And.intro rfl (cxP h2 (by omega) ?_)
  repeat (refine hG.1 _ _ _ _ _ _ rfl ?_)
  refine And.intro rfl (cxP (m_thrown S2) (by omega) ?_)
  repeat (refine hG.1 _ _ _ _ _ _ rfl ?_)
  refine And.intro (fun _ => ?_) (fun h => absurd h3 h)
  repeat (refine hG.1 _ _ _ _ _ _ rfl ?_)
  refine And.intro (fun _ => ?_) (fun w => ?_)
  · repeat (first | exact wk hG (by (repeat (refine And.intro rfl ?_)); exact trivial) (nx _ _ (by omega) hJ2) | refine hG.1 _ _ _ _ _ _ rfl ?_)
  have h6 := h5 (nI_z h4 w)
  repeat (refine hG.1 _ _ _ _ _ _ rfl ?_)
  refine And.intro (vp_in_nI (show 0 < 1 by omega) (by decide)) ?_
  rw [nI_clamp (by decide), h6]
  repeat (refine hG.1 _ _ _ _ _ _ rfl ?_)
  refine And.intro (fun w2 => ?_) (fun w2 => ?_)
  · repeat (refine hG.1 _ _ _ _ _ _ rfl ?_)
    refine And.intro (fun _ => ?_) (fun h => absurd (cmp0 ((if_pos rfl).trans (if_pos w2))) h)
    repeat (first | exact wk hG (by (repeat (refine And.intro rfl ?_)); exact trivial) (nx _ _ (by omega) hJ2) | refine hG.1 _ _ _ _ _ _ rfl ?_)
  · repeat (refine hG.1 _ _ _ _ _ _ rfl ?_)
    refine And.intro (fun _ => ?_) (fun h => absurd (cmp0 ((if_pos rfl).trans (if_neg w2))) h)
    repeat (first | exact wk hG (by (repeat (refine And.intro rfl ?_)); exact trivial) (nx _ _ (by omega) hJ2) | refine hG.1 _ _ _ _ _ _ rfl ?_)
set_option maxRecDepth 100000 in
theorem law_toggleValve (hG : Cl 120 L xs 512 P G) (hL : L ≤ 2048) {i k : Nat} {S : PS} (hi : 4 * i + 3 < L) (hk : k ≤ i) (hJ : JJ S) (nx : ∀ (k1 : Nat) (S1 : PS), k1 ≤ k + 1 → JJ S1 → G k1 1506 (LL i) [] S1) : G k 411 (LL i) [] S := by
  obtain ⟨n, na, nb, hJ⟩ := hJ
  obtain ⟨k', kc, b, S1, S2, hk1, h1, h2, h3, h4, h5, hJ2⟩ := j_toggleValve S (xsA xs i 1) hJ
  repeat (refine hG.1 _ _ _ _ _ _ rfl ?_)
  refine And.intro (vin (j := 1) (by omega) hL) ?_
  repeat (refine hG.1 _ _ _ _ _ _ rfl ?_)
  refine cxP h1 (by omega) ?_
  repeat (refine hG.1 _ _ _ _ _ _ rfl ?_)
  refine And.intro (vin (j := 1) (by omega) hL) ?_
  repeat (refine hG.1 _ _ _ _ _ _ rfl ?_)
  refine And.intro rfl (cxP h2 (by omega) ?_)
  repeat (refine hG.1 _ _ _ _ _ _ rfl ?_)
  refine And.intro rfl (cxP (m_thrown S2) (by omega) ?_)
  repeat (refine hG.1 _ _ _ _ _ _ rfl ?_)
  refine And.intro (fun _ => ?_) (fun h => absurd h3 h)
  repeat (refine hG.1 _ _ _ _ _ _ rfl ?_)
  refine And.intro (fun _ => ?_) (fun w => ?_)
  · repeat (first | exact wk hG (by (repeat (refine And.intro rfl ?_)); exact trivial) (nx _ _ (by omega) hJ2) | refine hG.1 _ _ _ _ _ _ rfl ?_)
  have h6 := h5 (nI_z h4 w)
  repeat (refine hG.1 _ _ _ _ _ _ rfl ?_)
  refine And.intro (vp_in_nI (show 0 < 1 by omega) (by decide)) ?_
  rw [nI_clamp (by decide), h6]
  repeat (refine hG.1 _ _ _ _ _ _ rfl ?_)
  refine And.intro (fun w2 => ?_) (fun w2 => ?_)
  · repeat (refine hG.1 _ _ _ _ _ _ rfl ?_)
    refine And.intro (fun _ => ?_) (fun h => absurd (cmp0 ((if_pos rfl).trans (if_pos w2))) h)
    repeat (first | exact wk hG (by (repeat (refine And.intro rfl ?_)); exact trivial) (nx _ _ (by omega) hJ2) | refine hG.1 _ _ _ _ _ _ rfl ?_)
  · repeat (refine hG.1 _ _ _ _ _ _ rfl ?_)
    refine And.intro (fun _ => ?_) (fun h => absurd (cmp0 ((if_pos rfl).trans (if_neg w2))) h)
    repeat (first | exact wk hG (by (repeat (refine And.intro rfl ?_)); exact trivial) (nx _ _ (by omega) hJ2) | refine hG.1 _ _ _ _ _ _ rfl ?_)
set_option maxRecDepth 100000 in
theorem law_isSupplied (hG : Cl 120 L xs 512 P G) (hL : L ≤ 2048) {i k : Nat} {S : PS} (hi : 4 * i + 3 < L) (hk : k ≤ i) (hJ : JJ S) (nx : ∀ (k1 : Nat) (S1 : PS), k1 ≤ k + 1 → JJ S1 → G k1 1506 (LL i) [] S1) : G k 474 (LL i) [] S := by
  obtain ⟨n, na, nb, hJ⟩ := hJ
  obtain ⟨k', kc, b, S1, S2, hk1, h1, h2, h3, h4, h5, hJ2⟩ := j_isSupplied S (xsA xs i 1) hJ
  repeat (refine hG.1 _ _ _ _ _ _ rfl ?_)
  refine And.intro (vin (j := 1) (by omega) hL) ?_
  repeat (refine hG.1 _ _ _ _ _ _ rfl ?_)
  refine cxP h1 (by omega) ?_
  repeat (refine hG.1 _ _ _ _ _ _ rfl ?_)
  refine And.intro (vin (j := 1) (by omega) hL) ?_
  repeat (refine hG.1 _ _ _ _ _ _ rfl ?_)
  refine And.intro rfl (cxP h2 (by omega) ?_)
  repeat (refine hG.1 _ _ _ _ _ _ rfl ?_)
  refine And.intro rfl (cxP (m_thrown S2) (by omega) ?_)
  repeat (refine hG.1 _ _ _ _ _ _ rfl ?_)
  refine And.intro (fun _ => ?_) (fun h => absurd h3 h)
  repeat (refine hG.1 _ _ _ _ _ _ rfl ?_)
  refine And.intro (fun _ => ?_) (fun w => ?_)
  · repeat (first | exact wk hG (by (repeat (refine And.intro rfl ?_)); exact trivial) (nx _ _ (by omega) hJ2) | refine hG.1 _ _ _ _ _ _ rfl ?_)
  have h6 := h5 (nI_z h4 w)
  repeat (refine hG.1 _ _ _ _ _ _ rfl ?_)
  refine And.intro (vp_in_nI (show 0 < 1 by omega) (by decide)) ?_
  rw [nI_clamp (by decide), h6]
  repeat (refine hG.1 _ _ _ _ _ _ rfl ?_)
  refine And.intro (fun w2 => ?_) (fun w2 => ?_)
  · repeat (refine hG.1 _ _ _ _ _ _ rfl ?_)
    refine And.intro (fun _ => ?_) (fun h => absurd (cmp0 ((if_pos rfl).trans (if_pos w2))) h)
    repeat (first | exact wk hG (by (repeat (refine And.intro rfl ?_)); exact trivial) (nx _ _ (by omega) hJ2) | refine hG.1 _ _ _ _ _ _ rfl ?_)
  · repeat (refine hG.1 _ _ _ _ _ _ rfl ?_)
    refine And.intro (fun _ => ?_) (fun h => absurd (cmp0 ((if_pos rfl).trans (if_neg w2))) h)
    repeat (first | exact wk hG (by (repeat (refine And.intro rfl ?_)); exact trivial) (nx _ _ (by omega) hJ2) | refine hG.1 _ _ _ _ _ _ rfl ?_)
set_option maxRecDepth 100000 in
theorem law_takes (hG : Cl 120 L xs 512 P G) (hL : L ≤ 2048) {i k : Nat} {S : PS} (hi : 4 * i + 3 < L) (hk : k ≤ i) (hJ : JJ S) (nx : ∀ (k1 : Nat) (S1 : PS), k1 ≤ k + 1 → JJ S1 → G k1 1506 (LL i) [] S1) : G k 537 (LL i) [] S := by
  obtain ⟨n, na, nb, hJ⟩ := hJ
  obtain ⟨k', kc, b, S1, S2, hk1, h1, h2, h3, h4, h5, hJ2⟩ := j_takes S (xsA xs i 1) hJ
  repeat (refine hG.1 _ _ _ _ _ _ rfl ?_)
  refine And.intro (vin (j := 1) (by omega) hL) ?_
  repeat (refine hG.1 _ _ _ _ _ _ rfl ?_)
  refine cxP h1 (by omega) ?_
  repeat (refine hG.1 _ _ _ _ _ _ rfl ?_)
  refine And.intro (vin (j := 1) (by omega) hL) ?_
  repeat (refine hG.1 _ _ _ _ _ _ rfl ?_)
  refine And.intro rfl (cxP h2 (by omega) ?_)
  repeat (refine hG.1 _ _ _ _ _ _ rfl ?_)
  refine And.intro rfl (cxP (m_thrown S2) (by omega) ?_)
  repeat (refine hG.1 _ _ _ _ _ _ rfl ?_)
  refine And.intro (fun _ => ?_) (fun h => absurd h3 h)
  repeat (refine hG.1 _ _ _ _ _ _ rfl ?_)
  refine And.intro (fun _ => ?_) (fun w => ?_)
  · repeat (first | exact wk hG (by (repeat (refine And.intro rfl ?_)); exact trivial) (nx _ _ (by omega) hJ2) | refine hG.1 _ _ _ _ _ _ rfl ?_)
  have h6 := h5 (nI_z h4 w)
  repeat (refine hG.1 _ _ _ _ _ _ rfl ?_)
  refine And.intro (vp_in_nI (show 0 < 1 by omega) (by decide)) ?_
  rw [nI_clamp (by decide), h6]
  repeat (refine hG.1 _ _ _ _ _ _ rfl ?_)
  refine And.intro (fun _ => ?_) (fun h => absurd (cmp0 (if_neg Bool.false_ne_true)) h)
  repeat (first | exact wk hG (by (repeat (refine And.intro rfl ?_)); exact trivial) (nx _ _ (by omega) hJ2) | refine hG.1 _ _ _ _ _ _ rfl ?_)
set_option maxRecDepth 100000 in
theorem law_flow (hG : Cl 120 L xs 512 P G) (hL : L ≤ 2048) {i k : Nat} {S : PS} (hi : 4 * i + 3 < L) (hk : k ≤ i) (hJ : JJ S) (nx : ∀ (k1 : Nat) (S1 : PS), k1 ≤ k + 1 → JJ S1 → G k1 1506 (LL i) [] S1) : G k 593 (LL i) [] S := by
  obtain ⟨n, na, nb, hJ⟩ := hJ
  obtain ⟨k', kc, b, S1, S2, hk1, h1, h2, h3, h4, h5, hJ2⟩ := j_flow S (xsA xs i 1) hJ
  repeat (refine hG.1 _ _ _ _ _ _ rfl ?_)
  refine And.intro (vin (j := 1) (by omega) hL) ?_
  repeat (refine hG.1 _ _ _ _ _ _ rfl ?_)
  refine cxP h1 (by omega) ?_
  repeat (refine hG.1 _ _ _ _ _ _ rfl ?_)
  refine And.intro (vin (j := 1) (by omega) hL) ?_
  repeat (refine hG.1 _ _ _ _ _ _ rfl ?_)
  refine And.intro rfl (cxP h2 (by omega) ?_)
  repeat (refine hG.1 _ _ _ _ _ _ rfl ?_)
  refine And.intro rfl (cxP (m_thrown S2) (by omega) ?_)
  repeat (refine hG.1 _ _ _ _ _ _ rfl ?_)
  refine And.intro (fun _ => ?_) (fun h => absurd h3 h)
  repeat (refine hG.1 _ _ _ _ _ _ rfl ?_)
  refine And.intro (fun _ => ?_) (fun w => ?_)
  · repeat (first | exact wk hG (by (repeat (refine And.intro rfl ?_)); exact trivial) (nx _ _ (by omega) hJ2) | refine hG.1 _ _ _ _ _ _ rfl ?_)
  have h6 := h5 (nI_z h4 w)
  repeat (refine hG.1 _ _ _ _ _ _ rfl ?_)
  refine And.intro (vp_in_nI (show 0 < 1 by omega) (by decide)) ?_
  rw [nI_clamp (by decide), h6]
  repeat (refine hG.1 _ _ _ _ _ _ rfl ?_)
  refine And.intro (fun _ => ?_) (fun h => absurd (cmp0 (if_neg Bool.false_ne_true)) h)
  repeat (first | exact wk hG (by (repeat (refine And.intro rfl ?_)); exact trivial) (nx _ _ (by omega) hJ2) | refine hG.1 _ _ _ _ _ _ rfl ?_)
set_option maxRecDepth 100000 in
theorem law_allFlow (hG : Cl 120 L xs 512 P G) (hL : L ≤ 2048) {i k : Nat} {S : PS} (hi : 4 * i + 3 < L) (hk : k ≤ i) (hJ : JJ S) (nx : ∀ (k1 : Nat) (S1 : PS), k1 ≤ k + 1 → JJ S1 → G k1 1506 (LL i) [] S1) : G k 649 (LL i) [] S := by
  obtain ⟨n, na, nb, hJ⟩ := hJ
  repeat (refine hG.1 _ _ _ _ _ _ rfl ?_)
  refine And.intro rfl (cxP (x_allFlow S n nb hJ.1) (by omega) ?_)
  repeat (refine hG.1 _ _ _ _ _ _ rfl ?_)
  refine And.intro rfl (cxP (m_allFlow S n nb _ _ hJ.2.2.1) (by omega) ?_)
  repeat (refine hG.1 _ _ _ _ _ _ rfl ?_)
  refine And.intro (fun _ => ?_) (fun h => absurd rfl h)
  exact nx _ _ (by omega) ⟨n, na, nb, hJ⟩
set_option maxRecDepth 100000 in
theorem law_addArea (hG : Cl 120 L xs 512 P G) (hL : L ≤ 2048) {i k : Nat} {S : PS} (hi : 4 * i + 3 < L) (hk : k ≤ i) (hJ : JJ S) (nx : ∀ (k1 : Nat) (S1 : PS), k1 ≤ k + 1 → JJ S1 → G k1 1506 (LL i) [] S1) : G k 662 (LL i) [] S := by
  obtain ⟨n, na, nb, hJ⟩ := hJ
  obtain ⟨k', kc, b, S1, S2, hk1, h1, h2, h3, h4, h5, hJ2⟩ := j_addArea S (xsA xs i 1) hJ
  repeat (refine hG.1 _ _ _ _ _ _ rfl ?_)
  refine And.intro (vin (j := 1) (by omega) hL) ?_
  repeat (refine hG.1 _ _ _ _ _ _ rfl ?_)
  refine cxP h1 (by omega) ?_
  repeat (refine hG.1 _ _ _ _ _ _ rfl ?_)
  refine And.intro (vin (j := 1) (by omega) hL) ?_
  repeat (refine hG.1 _ _ _ _ _ _ rfl ?_)
  refine And.intro rfl (cxP h2 (by omega) ?_)
  repeat (refine hG.1 _ _ _ _ _ _ rfl ?_)
  refine And.intro rfl (cxP (m_thrown S2) (by omega) ?_)
  repeat (refine hG.1 _ _ _ _ _ _ rfl ?_)
  refine And.intro (fun _ => ?_) (fun h => absurd h3 h)
  repeat (refine hG.1 _ _ _ _ _ _ rfl ?_)
  refine And.intro (fun _ => ?_) (fun w => ?_)
  · repeat (first | exact wk hG (by (repeat (refine And.intro rfl ?_)); exact trivial) (nx _ _ (by omega) hJ2) | refine hG.1 _ _ _ _ _ _ rfl ?_)
  have h6 := h5 (nI_z h4 w)
  repeat (refine hG.1 _ _ _ _ _ _ rfl ?_)
  refine And.intro (vp_in_nI (show 0 < 1 by omega) (by decide)) ?_
  rw [nI_clamp (by decide), h6]
  repeat (refine hG.1 _ _ _ _ _ _ rfl ?_)
  refine And.intro (fun _ => ?_) (fun h => absurd (cmp0 (if_neg Bool.false_ne_true)) h)
  repeat (first | exact wk hG (by (repeat (refine And.intro rfl ?_)); exact trivial) (nx _ _ (by omega) hJ2) | refine hG.1 _ _ _ _ _ _ rfl ?_)
set_option maxRecDepth 100000 in
theorem law_addExport (hG : Cl 120 L xs 512 P G) (hL : L ≤ 2048) {i k : Nat} {S : PS} (hi : 4 * i + 3 < L) (hk : k ≤ i) (hJ : JJ S) (nx : ∀ (k1 : Nat) (S1 : PS), k1 ≤ k + 1 → JJ S1 → G k1 1506 (LL i) [] S1) : G k 718 (LL i) [] S := by
  obtain ⟨n, na, nb, hJ⟩ := hJ
  obtain ⟨k', kc, b, S1, S2, hk1, h1, h2, h3, h4, h5, hJ2⟩ := j_addExport S (xsA xs i 1) (xsA xs i 2) hJ
  repeat (refine hG.1 _ _ _ _ _ _ rfl ?_)
  refine And.intro (vin (j := 1) (by omega) hL) ?_
  repeat (refine hG.1 _ _ _ _ _ _ rfl ?_)
  refine And.intro (vin (j := 2) (by omega) hL) ?_
  repeat (refine hG.1 _ _ _ _ _ _ rfl ?_)
  refine cxP h1 (by omega) ?_
  repeat (refine hG.1 _ _ _ _ _ _ rfl ?_)
  refine And.intro (vin (j := 1) (by omega) hL) ?_
  repeat (refine hG.1 _ _ _ _ _ _ rfl ?_)
  refine And.intro (vin (j := 2) (by omega) hL) ?_
  repeat (refine hG.1 _ _ _ _ _ _ rfl ?_)
  refine And.intro rfl (cxP h2 (by omega) ?_)
  repeat (refine hG.1 _ _ _ _ _ _ rfl ?_)
  refine And.intro rfl (cxP (m_thrown S2) (by omega) ?_)
  repeat (refine hG.1 _ _ _ _ _ _ rfl ?_)
  refine And.intro (fun _ => ?_) (fun h => absurd h3 h)
  repeat (refine hG.1 _ _ _ _ _ _ rfl ?_)
  refine And.intro (fun _ => ?_) (fun w => ?_)
  · repeat (first | exact wk hG (by (repeat (refine And.intro rfl ?_)); exact trivial) (nx _ _ (by omega) hJ2) | refine hG.1 _ _ _ _ _ _ rfl ?_)
  have h6 := h5 (nI_z h4 w)
  repeat (refine hG.1 _ _ _ _ _ _ rfl ?_)
  refine And.intro (vp_in_nI (show 0 < 1 by omega) (by decide)) ?_
  rw [nI_clamp (by decide), h6]
  repeat (refine hG.1 _ _ _ _ _ _ rfl ?_)
  refine And.intro (fun _ => ?_) (fun h => absurd (cmp0 (if_neg Bool.false_ne_true)) h)
  repeat (first | exact wk hG (by (repeat (refine And.intro rfl ?_)); exact trivial) (nx _ _ (by omega) hJ2) | refine hG.1 _ _ _ _ _ _ rfl ?_)
set_option maxRecDepth 100000 in
theorem law_nodes (hG : Cl 120 L xs 512 P G) (hL : L ≤ 2048) {i k : Nat} {S : PS} (hi : 4 * i + 3 < L) (hk : k ≤ i) (hJ : JJ S) (nx : ∀ (k1 : Nat) (S1 : PS), k1 ≤ k + 1 → JJ S1 → G k1 1506 (LL i) [] S1) : G k 786 (LL i) [] S := by
  obtain ⟨n, na, nb, hJ⟩ := hJ
  obtain ⟨k', kc, b, S1, S2, hk1, h1, h2, h3, h4, h5, hJ2⟩ := j_nodes S (xsA xs i 1) hJ
  repeat (refine hG.1 _ _ _ _ _ _ rfl ?_)
  refine And.intro (vin (j := 1) (by omega) hL) ?_
  repeat (refine hG.1 _ _ _ _ _ _ rfl ?_)
  refine cxP h1 (by omega) ?_
  repeat (refine hG.1 _ _ _ _ _ _ rfl ?_)
  refine And.intro (vin (j := 1) (by omega) hL) ?_
  repeat (refine hG.1 _ _ _ _ _ _ rfl ?_)
  refine And.intro rfl (cxP h2 (by omega) ?_)
  repeat (refine hG.1 _ _ _ _ _ _ rfl ?_)
  refine And.intro rfl (cxP (m_thrown S2) (by omega) ?_)
  repeat (refine hG.1 _ _ _ _ _ _ rfl ?_)
  refine And.intro (fun _ => ?_) (fun h => absurd h3 h)
  repeat (refine hG.1 _ _ _ _ _ _ rfl ?_)
  refine And.intro (fun _ => ?_) (fun w => ?_)
  · repeat (first | exact wk hG (by (repeat (refine And.intro rfl ?_)); exact trivial) (nx _ _ (by omega) hJ2) | refine hG.1 _ _ _ _ _ _ rfl ?_)
  have h6 := h5 (nI_z h4 w)
  repeat (refine hG.1 _ _ _ _ _ _ rfl ?_)
  refine And.intro (vp_in_nI (show 0 < 1 by omega) (by decide)) ?_
  rw [nI_clamp (by decide), h6]
  repeat (refine hG.1 _ _ _ _ _ _ rfl ?_)
  refine And.intro (fun _ => ?_) (fun h => absurd (cmp0 (if_neg Bool.false_ne_true)) h)
  repeat (first | exact wk hG (by (repeat (refine And.intro rfl ?_)); exact trivial) (nx _ _ (by omega) hJ2) | refine hG.1 _ _ _ _ _ _ rfl ?_)
set_option maxRecDepth 100000 in
theorem law_areaFlow (hG : Cl 120 L xs 512 P G) (hL : L ≤ 2048) {i k : Nat} {S : PS} (hi : 4 * i + 3 < L) (hk : k ≤ i) (hJ : JJ S) (nx : ∀ (k1 : Nat) (S1 : PS), k1 ≤ k + 1 → JJ S1 → G k1 1506 (LL i) [] S1) : G k 842 (LL i) [] S := by
  obtain ⟨n, na, nb, hJ⟩ := hJ
  obtain ⟨k', kc, b, S1, S2, hk1, h1, h2, h3, h4, h5, hJ2⟩ := j_areaFlow S (xsA xs i 1) hJ
  repeat (refine hG.1 _ _ _ _ _ _ rfl ?_)
  refine And.intro (vin (j := 1) (by omega) hL) ?_
  repeat (refine hG.1 _ _ _ _ _ _ rfl ?_)
  refine cxP h1 (by omega) ?_
  repeat (refine hG.1 _ _ _ _ _ _ rfl ?_)
  refine And.intro (vin (j := 1) (by omega) hL) ?_
  repeat (refine hG.1 _ _ _ _ _ _ rfl ?_)
  refine And.intro rfl (cxP h2 (by omega) ?_)
  repeat (refine hG.1 _ _ _ _ _ _ rfl ?_)
  refine And.intro rfl (cxP (m_thrown S2) (by omega) ?_)
  repeat (refine hG.1 _ _ _ _ _ _ rfl ?_)
  refine And.intro (fun _ => ?_) (fun h => absurd h3 h)
  repeat (refine hG.1 _ _ _ _ _ _ rfl ?_)
  refine And.intro (fun _ => ?_) (fun w => ?_)
  · repeat (first | exact wk hG (by (repeat (refine And.intro rfl ?_)); exact trivial) (nx _ _ (by omega) hJ2) | refine hG.1 _ _ _ _ _ _ rfl ?_)
  have h6 := h5 (nI_z h4 w)
  repeat (refine hG.1 _ _ _ _ _ _ rfl ?_)
  refine And.intro (vp_in_nI (show 0 < 1 by omega) (by decide)) ?_
  rw [nI_clamp (by decide), h6]
  repeat (refine hG.1 _ _ _ _ _ _ rfl ?_)
  refine And.intro (fun _ => ?_) (fun h => absurd (cmp0 (if_neg Bool.false_ne_true)) h)
  repeat (first | exact wk hG (by (repeat (refine And.intro rfl ?_)); exact trivial) (nx _ _ (by omega) hJ2) | refine hG.1 _ _ _ _ _ _ rfl ?_)
set_option maxRecDepth 100000 in
theorem law_areaTakes (hG : Cl 120 L xs 512 P G) (hL : L ≤ 2048) {i k : Nat} {S : PS} (hi : 4 * i + 3 < L) (hk : k ≤ i) (hJ : JJ S) (nx : ∀ (k1 : Nat) (S1 : PS), k1 ≤ k + 1 → JJ S1 → G k1 1506 (LL i) [] S1) : G k 898 (LL i) [] S := by
  obtain ⟨n, na, nb, hJ⟩ := hJ
  obtain ⟨k', kc, b, S1, S2, hk1, h1, h2, h3, h4, h5, hJ2⟩ := j_areaTakes S (xsA xs i 1) hJ
  repeat (refine hG.1 _ _ _ _ _ _ rfl ?_)
  refine And.intro (vin (j := 1) (by omega) hL) ?_
  repeat (refine hG.1 _ _ _ _ _ _ rfl ?_)
  refine cxP h1 (by omega) ?_
  repeat (refine hG.1 _ _ _ _ _ _ rfl ?_)
  refine And.intro (vin (j := 1) (by omega) hL) ?_
  repeat (refine hG.1 _ _ _ _ _ _ rfl ?_)
  refine And.intro rfl (cxP h2 (by omega) ?_)
  repeat (refine hG.1 _ _ _ _ _ _ rfl ?_)
  refine And.intro rfl (cxP (m_thrown S2) (by omega) ?_)
  repeat (refine hG.1 _ _ _ _ _ _ rfl ?_)
  refine And.intro (fun _ => ?_) (fun h => absurd h3 h)
  repeat (refine hG.1 _ _ _ _ _ _ rfl ?_)
  refine And.intro (fun _ => ?_) (fun w => ?_)
  · repeat (first | exact wk hG (by (repeat (refine And.intro rfl ?_)); exact trivial) (nx _ _ (by omega) hJ2) | refine hG.1 _ _ _ _ _ _ rfl ?_)
  have h6 := h5 (nI_z h4 w)
  repeat (refine hG.1 _ _ _ _ _ _ rfl ?_)
  refine And.intro (vp_in_nI (show 0 < 1 by omega) (by decide)) ?_
  rw [nI_clamp (by decide), h6]
  repeat (refine hG.1 _ _ _ _ _ _ rfl ?_)
  refine And.intro (fun _ => ?_) (fun h => absurd (cmp0 (if_neg Bool.false_ne_true)) h)
  repeat (first | exact wk hG (by (repeat (refine And.intro rfl ?_)); exact trivial) (nx _ _ (by omega) hJ2) | refine hG.1 _ _ _ _ _ _ rfl ?_)
set_option maxRecDepth 100000 in
theorem law_loss (hG : Cl 120 L xs 512 P G) (hL : L ≤ 2048) {i k : Nat} {S : PS} (hi : 4 * i + 3 < L) (hk : k ≤ i) (hJ : JJ S) (nx : ∀ (k1 : Nat) (S1 : PS), k1 ≤ k + 1 → JJ S1 → G k1 1506 (LL i) [] S1) : G k 954 (LL i) [] S := by
  obtain ⟨n, na, nb, hJ⟩ := hJ
  obtain ⟨k', kc, b, S1, S2, hk1, h1, h2, h3, h4, h5, hJ2⟩ := j_loss S (xsA xs i 1) hJ
  repeat (refine hG.1 _ _ _ _ _ _ rfl ?_)
  refine And.intro (vin (j := 1) (by omega) hL) ?_
  repeat (refine hG.1 _ _ _ _ _ _ rfl ?_)
  refine cxP h1 (by omega) ?_
  repeat (refine hG.1 _ _ _ _ _ _ rfl ?_)
  refine And.intro (vin (j := 1) (by omega) hL) ?_
  repeat (refine hG.1 _ _ _ _ _ _ rfl ?_)
  refine And.intro rfl (cxP h2 (by omega) ?_)
  repeat (refine hG.1 _ _ _ _ _ _ rfl ?_)
  refine And.intro rfl (cxP (m_thrown S2) (by omega) ?_)
  repeat (refine hG.1 _ _ _ _ _ _ rfl ?_)
  refine And.intro (fun _ => ?_) (fun h => absurd h3 h)
  repeat (refine hG.1 _ _ _ _ _ _ rfl ?_)
  refine And.intro (fun _ => ?_) (fun w => ?_)
  · repeat (first | exact wk hG (by (repeat (refine And.intro rfl ?_)); exact trivial) (nx _ _ (by omega) hJ2) | refine hG.1 _ _ _ _ _ _ rfl ?_)
  have h6 := h5 (nI_z h4 w)
  repeat (refine hG.1 _ _ _ _ _ _ rfl ?_)
  refine And.intro (vp_in_nI (show 0 < 1 by omega) (by decide)) ?_
  rw [nI_clamp (by decide), h6]
  repeat (refine hG.1 _ _ _ _ _ _ rfl ?_)
  refine And.intro (fun _ => ?_) (fun h => absurd (cmp0 (if_neg Bool.false_ne_true)) h)
  repeat (first | exact wk hG (by (repeat (refine And.intro rfl ?_)); exact trivial) (nx _ _ (by omega) hJ2) | refine hG.1 _ _ _ _ _ _ rfl ?_)
set_option maxRecDepth 100000 in
theorem law_steps (hG : Cl 120 L xs 512 P G) (hL : L ≤ 2048) {i k : Nat} {S : PS} (hi : 4 * i + 3 < L) (hk : k ≤ i) (hJ : JJ S) (nx : ∀ (k1 : Nat) (S1 : PS), k1 ≤ k + 1 → JJ S1 → G k1 1506 (LL i) [] S1) : G k 1010 (LL i) [] S := by
  obtain ⟨n, na, nb, hJ⟩ := hJ
  obtain ⟨k', kc, b, S1, S2, hk1, h1, h2, h3, h4, h5, hJ2⟩ := j_steps S (xsA xs i 1) hJ
  repeat (refine hG.1 _ _ _ _ _ _ rfl ?_)
  refine And.intro (vin (j := 1) (by omega) hL) ?_
  repeat (refine hG.1 _ _ _ _ _ _ rfl ?_)
  refine cxP h1 (by omega) ?_
  repeat (refine hG.1 _ _ _ _ _ _ rfl ?_)
  refine And.intro (vin (j := 1) (by omega) hL) ?_
  repeat (refine hG.1 _ _ _ _ _ _ rfl ?_)
  refine And.intro rfl (cxP h2 (by omega) ?_)
  repeat (refine hG.1 _ _ _ _ _ _ rfl ?_)
  refine And.intro rfl (cxP (m_thrown S2) (by omega) ?_)
  repeat (refine hG.1 _ _ _ _ _ _ rfl ?_)
  refine And.intro (fun _ => ?_) (fun h => absurd h3 h)
  repeat (refine hG.1 _ _ _ _ _ _ rfl ?_)
  refine And.intro (fun _ => ?_) (fun w => ?_)
  · repeat (first | exact wk hG (by (repeat (refine And.intro rfl ?_)); exact trivial) (nx _ _ (by omega) hJ2) | refine hG.1 _ _ _ _ _ _ rfl ?_)
  have h6 := h5 (nI_z h4 w)
  repeat (refine hG.1 _ _ _ _ _ _ rfl ?_)
  refine And.intro (vp_in_nI (show 0 < 1 by omega) (by decide)) ?_
  rw [nI_clamp (by decide), h6]
  repeat (refine hG.1 _ _ _ _ _ _ rfl ?_)
  refine And.intro (fun _ => ?_) (fun h => absurd (cmp0 (if_neg Bool.false_ne_true)) h)
  repeat (first | exact wk hG (by (repeat (refine And.intro rfl ?_)); exact trivial) (nx _ _ (by omega) hJ2) | refine hG.1 _ _ _ _ _ _ rfl ?_)
set_option maxRecDepth 100000 in
theorem law_stepPipe (hG : Cl 120 L xs 512 P G) (hL : L ≤ 2048) {i k : Nat} {S : PS} (hi : 4 * i + 3 < L) (hk : k ≤ i) (hJ : JJ S) (nx : ∀ (k1 : Nat) (S1 : PS), k1 ≤ k + 1 → JJ S1 → G k1 1506 (LL i) [] S1) : G k 1066 (LL i) [] S := by
  obtain ⟨n, na, nb, hJ⟩ := hJ
  obtain ⟨k', kc, b, S1, S2, hk1, h1, h2, h3, h4, h5, hJ2⟩ := j_stepPipe S (xsA xs i 1) (xsA xs i 2) hJ
  repeat (refine hG.1 _ _ _ _ _ _ rfl ?_)
  refine And.intro (vin (j := 1) (by omega) hL) ?_
  repeat (refine hG.1 _ _ _ _ _ _ rfl ?_)
  refine And.intro (vin (j := 2) (by omega) hL) ?_
  repeat (refine hG.1 _ _ _ _ _ _ rfl ?_)
  refine cxP h1 (by omega) ?_
  repeat (refine hG.1 _ _ _ _ _ _ rfl ?_)
  refine And.intro (vin (j := 1) (by omega) hL) ?_
  repeat (refine hG.1 _ _ _ _ _ _ rfl ?_)
  refine And.intro (vin (j := 2) (by omega) hL) ?_
  repeat (refine hG.1 _ _ _ _ _ _ rfl ?_)
  refine And.intro rfl (cxP h2 (by omega) ?_)
  repeat (refine hG.1 _ _ _ _ _ _ rfl ?_)
  refine And.intro rfl (cxP (m_thrown S2) (by omega) ?_)
  repeat (refine hG.1 _ _ _ _ _ _ rfl ?_)
  refine And.intro (fun _ => ?_) (fun h => absurd h3 h)
  repeat (refine hG.1 _ _ _ _ _ _ rfl ?_)
  refine And.intro (fun _ => ?_) (fun w => ?_)
  · repeat (first | exact wk hG (by (repeat (refine And.intro rfl ?_)); exact trivial) (nx _ _ (by omega) hJ2) | refine hG.1 _ _ _ _ _ _ rfl ?_)
  have h6 := h5 (nI_z h4 w)
  repeat (refine hG.1 _ _ _ _ _ _ rfl ?_)
  refine And.intro (vp_in_nI (show 0 < 1 by omega) (by decide)) ?_
  rw [nI_clamp (by decide), h6]
  repeat (refine hG.1 _ _ _ _ _ _ rfl ?_)
  refine And.intro (fun _ => ?_) (fun h => absurd (cmp0 (if_neg Bool.false_ne_true)) h)
  repeat (first | exact wk hG (by (repeat (refine And.intro rfl ?_)); exact trivial) (nx _ _ (by omega) hJ2) | refine hG.1 _ _ _ _ _ _ rfl ?_)
set_option maxRecDepth 100000 in
theorem law_drop (hG : Cl 120 L xs 512 P G) (hL : L ≤ 2048) {i k : Nat} {S : PS} (hi : 4 * i + 3 < L) (hk : k ≤ i) (hJ : JJ S) (nx : ∀ (k1 : Nat) (S1 : PS), k1 ≤ k + 1 → JJ S1 → G k1 1506 (LL i) [] S1) : G k 1134 (LL i) [] S := by
  obtain ⟨n, na, nb, hJ⟩ := hJ
  obtain ⟨k', kc, b, S1, S2, hk1, h1, h2, h3, h4, h5, hJ2⟩ := j_drop S (xsA xs i 1) (xsA xs i 2) hJ
  repeat (refine hG.1 _ _ _ _ _ _ rfl ?_)
  refine And.intro (vin (j := 1) (by omega) hL) ?_
  repeat (refine hG.1 _ _ _ _ _ _ rfl ?_)
  refine And.intro (vin (j := 2) (by omega) hL) ?_
  repeat (refine hG.1 _ _ _ _ _ _ rfl ?_)
  refine cxP h1 (by omega) ?_
  repeat (refine hG.1 _ _ _ _ _ _ rfl ?_)
  refine And.intro (vin (j := 1) (by omega) hL) ?_
  repeat (refine hG.1 _ _ _ _ _ _ rfl ?_)
  refine And.intro (vin (j := 2) (by omega) hL) ?_
  repeat (refine hG.1 _ _ _ _ _ _ rfl ?_)
  refine And.intro rfl (cxP h2 (by omega) ?_)
  repeat (refine hG.1 _ _ _ _ _ _ rfl ?_)
  refine And.intro rfl (cxP (m_thrown S2) (by omega) ?_)
  repeat (refine hG.1 _ _ _ _ _ _ rfl ?_)
  refine And.intro (fun _ => ?_) (fun h => absurd h3 h)
  repeat (refine hG.1 _ _ _ _ _ _ rfl ?_)
  refine And.intro (fun _ => ?_) (fun w => ?_)
  · repeat (first | exact wk hG (by (repeat (refine And.intro rfl ?_)); exact trivial) (nx _ _ (by omega) hJ2) | refine hG.1 _ _ _ _ _ _ rfl ?_)
  have h6 := h5 (nI_z h4 w)
  repeat (refine hG.1 _ _ _ _ _ _ rfl ?_)
  refine And.intro (vp_in_nI (show 0 < 1 by omega) (by decide)) ?_
  rw [nI_clamp (by decide), h6]
  repeat (refine hG.1 _ _ _ _ _ _ rfl ?_)
  refine And.intro (fun _ => ?_) (fun h => absurd (cmp0 (if_neg Bool.false_ne_true)) h)
  repeat (first | exact wk hG (by (repeat (refine And.intro rfl ?_)); exact trivial) (nx _ _ (by omega) hJ2) | refine hG.1 _ _ _ _ _ _ rfl ?_)
set_option maxRecDepth 100000 in
theorem law_burst (hG : Cl 120 L xs 512 P G) (hL : L ≤ 2048) {i k : Nat} {S : PS} (hi : 4 * i + 3 < L) (hk : k ≤ i) (hJ : JJ S) (nx : ∀ (k1 : Nat) (S1 : PS), k1 ≤ k + 1 → JJ S1 → G k1 1506 (LL i) [] S1) : G k 1202 (LL i) [] S := by
  obtain ⟨n, na, nb, hJ⟩ := hJ
  obtain ⟨k', kc, b, S1, S2, hk1, h1, h2, h3, h4, h5, hJ2⟩ := j_burst S (xsA xs i 1) (xsA xs i 2) (xsA xs i 3) hJ
  repeat (refine hG.1 _ _ _ _ _ _ rfl ?_)
  refine And.intro (vin (j := 1) (by omega) hL) ?_
  repeat (refine hG.1 _ _ _ _ _ _ rfl ?_)
  refine And.intro (vin (j := 2) (by omega) hL) ?_
  repeat (refine hG.1 _ _ _ _ _ _ rfl ?_)
  refine And.intro (vin (j := 3) (by omega) hL) ?_
  repeat (refine hG.1 _ _ _ _ _ _ rfl ?_)
  refine cxP h1 (by omega) ?_
  repeat (refine hG.1 _ _ _ _ _ _ rfl ?_)
  refine And.intro (vin (j := 1) (by omega) hL) ?_
  repeat (refine hG.1 _ _ _ _ _ _ rfl ?_)
  refine And.intro (vin (j := 2) (by omega) hL) ?_
  repeat (refine hG.1 _ _ _ _ _ _ rfl ?_)
  refine And.intro (vin (j := 3) (by omega) hL) ?_
  repeat (refine hG.1 _ _ _ _ _ _ rfl ?_)
  refine And.intro rfl (cxP h2 (by omega) ?_)
  repeat (refine hG.1 _ _ _ _ _ _ rfl ?_)
  refine And.intro rfl (cxP (m_thrown S2) (by omega) ?_)
  repeat (refine hG.1 _ _ _ _ _ _ rfl ?_)
  refine And.intro (fun _ => ?_) (fun h => absurd h3 h)
  repeat (refine hG.1 _ _ _ _ _ _ rfl ?_)
  refine And.intro (fun _ => ?_) (fun w => ?_)
  · repeat (first | exact wk hG (by (repeat (refine And.intro rfl ?_)); exact trivial) (nx _ _ (by omega) hJ2) | refine hG.1 _ _ _ _ _ _ rfl ?_)
  have h6 := h5 (nI_z h4 w)
  repeat (refine hG.1 _ _ _ _ _ _ rfl ?_)
  refine And.intro (vp_in_nI (show 0 < 1 by omega) (by decide)) ?_
  rw [nI_clamp (by decide), h6]
  repeat (refine hG.1 _ _ _ _ _ _ rfl ?_)
  refine And.intro (fun _ => ?_) (fun h => absurd (cmp0 (if_neg Bool.false_ne_true)) h)
  repeat (first | exact wk hG (by (repeat (refine And.intro rfl ?_)); exact trivial) (nx _ _ (by omega) hJ2) | refine hG.1 _ _ _ _ _ _ rfl ?_)
set_option maxRecDepth 100000 in
theorem law_repair (hG : Cl 120 L xs 512 P G) (hL : L ≤ 2048) {i k : Nat} {S : PS} (hi : 4 * i + 3 < L) (hk : k ≤ i) (hJ : JJ S) (nx : ∀ (k1 : Nat) (S1 : PS), k1 ≤ k + 1 → JJ S1 → G k1 1506 (LL i) [] S1) : G k 1282 (LL i) [] S := by
  obtain ⟨n, na, nb, hJ⟩ := hJ
  obtain ⟨k', kc, b, S1, S2, hk1, h1, h2, h3, h4, h5, hJ2⟩ := j_repair S (xsA xs i 1) hJ
  repeat (refine hG.1 _ _ _ _ _ _ rfl ?_)
  refine And.intro (vin (j := 1) (by omega) hL) ?_
  repeat (refine hG.1 _ _ _ _ _ _ rfl ?_)
  refine cxP h1 (by omega) ?_
  repeat (refine hG.1 _ _ _ _ _ _ rfl ?_)
  refine And.intro (vin (j := 1) (by omega) hL) ?_
  repeat (refine hG.1 _ _ _ _ _ _ rfl ?_)
  refine And.intro rfl (cxP h2 (by omega) ?_)
  repeat (refine hG.1 _ _ _ _ _ _ rfl ?_)
  refine And.intro rfl (cxP (m_thrown S2) (by omega) ?_)
  repeat (refine hG.1 _ _ _ _ _ _ rfl ?_)
  refine And.intro (fun _ => ?_) (fun h => absurd h3 h)
  repeat (refine hG.1 _ _ _ _ _ _ rfl ?_)
  refine And.intro (fun _ => ?_) (fun w => ?_)
  · repeat (first | exact wk hG (by (repeat (refine And.intro rfl ?_)); exact trivial) (nx _ _ (by omega) hJ2) | refine hG.1 _ _ _ _ _ _ rfl ?_)
  have h6 := h5 (nI_z h4 w)
  repeat (refine hG.1 _ _ _ _ _ _ rfl ?_)
  refine And.intro (vp_in_nI (show 0 < 1 by omega) (by decide)) ?_
  rw [nI_clamp (by decide), h6]
  repeat (refine hG.1 _ _ _ _ _ _ rfl ?_)
  refine And.intro (fun _ => ?_) (fun h => absurd (cmp0 (if_neg Bool.false_ne_true)) h)
  repeat (first | exact wk hG (by (repeat (refine And.intro rfl ?_)); exact trivial) (nx _ _ (by omega) hJ2) | refine hG.1 _ _ _ _ _ _ rfl ?_)
set_option maxRecDepth 100000 in
theorem law_cost (hG : Cl 120 L xs 512 P G) (hL : L ≤ 2048) {i k : Nat} {S : PS} (hi : 4 * i + 3 < L) (hk : k ≤ i) (hJ : JJ S) (nx : ∀ (k1 : Nat) (S1 : PS), k1 ≤ k + 1 → JJ S1 → G k1 1506 (LL i) [] S1) : G k 1338 (LL i) [] S := by
  obtain ⟨n, na, nb, hJ⟩ := hJ
  obtain ⟨k', kc, b, S1, S2, hk1, h1, h2, h3, h4, h5, hJ2⟩ := j_cost S (xsA xs i 1) hJ
  repeat (refine hG.1 _ _ _ _ _ _ rfl ?_)
  refine And.intro (vin (j := 1) (by omega) hL) ?_
  repeat (refine hG.1 _ _ _ _ _ _ rfl ?_)
  refine cxP h1 (by omega) ?_
  repeat (refine hG.1 _ _ _ _ _ _ rfl ?_)
  refine And.intro (vin (j := 1) (by omega) hL) ?_
  repeat (refine hG.1 _ _ _ _ _ _ rfl ?_)
  refine And.intro rfl (cxP h2 (by omega) ?_)
  repeat (refine hG.1 _ _ _ _ _ _ rfl ?_)
  refine And.intro rfl (cxP (m_thrown S2) (by omega) ?_)
  repeat (refine hG.1 _ _ _ _ _ _ rfl ?_)
  refine And.intro (fun _ => ?_) (fun h => absurd h3 h)
  repeat (refine hG.1 _ _ _ _ _ _ rfl ?_)
  refine And.intro (fun _ => ?_) (fun w => ?_)
  · repeat (first | exact wk hG (by (repeat (refine And.intro rfl ?_)); exact trivial) (nx _ _ (by omega) hJ2) | refine hG.1 _ _ _ _ _ _ rfl ?_)
  have h6 := h5 (nI_z h4 w)
  repeat (refine hG.1 _ _ _ _ _ _ rfl ?_)
  refine And.intro (vp_in_nI (show 0 < 1 by omega) (by decide)) ?_
  rw [nI_clamp (by decide), h6]
  repeat (refine hG.1 _ _ _ _ _ _ rfl ?_)
  refine And.intro (fun _ => ?_) (fun h => absurd (cmp0 (if_neg Bool.false_ne_true)) h)
  repeat (first | exact wk hG (by (repeat (refine And.intro rfl ?_)); exact trivial) (nx _ _ (by omega) hJ2) | refine hG.1 _ _ _ _ _ _ rfl ?_)
set_option maxRecDepth 100000 in
theorem law_ranked (hG : Cl 120 L xs 512 P G) (hL : L ≤ 2048) {i k : Nat} {S : PS} (hi : 4 * i + 3 < L) (hk : k ≤ i) (hJ : JJ S) (nx : ∀ (k1 : Nat) (S1 : PS), k1 ≤ k + 1 → JJ S1 → G k1 1506 (LL i) [] S1) : G k 1394 (LL i) [] S := by
  obtain ⟨n, na, nb, hJ⟩ := hJ
  obtain ⟨k', kc, b, S1, S2, hk1, h1, h2, h3, h4, h5, hJ2⟩ := j_ranked S (xsA xs i 1) hJ
  repeat (refine hG.1 _ _ _ _ _ _ rfl ?_)
  refine And.intro (vin (j := 1) (by omega) hL) ?_
  repeat (refine hG.1 _ _ _ _ _ _ rfl ?_)
  refine cxP h1 (by omega) ?_
  repeat (refine hG.1 _ _ _ _ _ _ rfl ?_)
  refine And.intro (vin (j := 1) (by omega) hL) ?_
  repeat (refine hG.1 _ _ _ _ _ _ rfl ?_)
  refine And.intro rfl (cxP h2 (by omega) ?_)
  repeat (refine hG.1 _ _ _ _ _ _ rfl ?_)
  refine And.intro rfl (cxP (m_thrown S2) (by omega) ?_)
  repeat (refine hG.1 _ _ _ _ _ _ rfl ?_)
  refine And.intro (fun _ => ?_) (fun h => absurd h3 h)
  repeat (refine hG.1 _ _ _ _ _ _ rfl ?_)
  refine And.intro (fun _ => ?_) (fun w => ?_)
  · repeat (first | exact wk hG (by (repeat (refine And.intro rfl ?_)); exact trivial) (nx _ _ (by omega) hJ2) | refine hG.1 _ _ _ _ _ _ rfl ?_)
  have h6 := h5 (nI_z h4 w)
  repeat (refine hG.1 _ _ _ _ _ _ rfl ?_)
  refine And.intro (vp_in_nI (show 0 < 1 by omega) (by decide)) ?_
  rw [nI_clamp (by decide), h6]
  repeat (refine hG.1 _ _ _ _ _ _ rfl ?_)
  refine And.intro (fun _ => ?_) (fun h => absurd (cmp0 (if_neg Bool.false_ne_true)) h)
  repeat (first | exact wk hG (by (repeat (refine And.intro rfl ?_)); exact trivial) (nx _ _ (by omega) hJ2) | refine hG.1 _ _ _ _ _ _ rfl ?_)
set_option maxRecDepth 100000 in
theorem law_plan (hG : Cl 120 L xs 512 P G) (hL : L ≤ 2048) {i k : Nat} {S : PS} (hi : 4 * i + 3 < L) (hk : k ≤ i) (hJ : JJ S) (nx : ∀ (k1 : Nat) (S1 : PS), k1 ≤ k + 1 → JJ S1 → G k1 1506 (LL i) [] S1) : G k 1450 (LL i) [] S := by
  obtain ⟨n, na, nb, hJ⟩ := hJ
  obtain ⟨k', kc, b, S1, S2, hk1, h1, h2, h3, h4, h5, hJ2⟩ := j_plan S (xsA xs i 1) hJ
  repeat (refine hG.1 _ _ _ _ _ _ rfl ?_)
  refine And.intro (vin (j := 1) (by omega) hL) ?_
  repeat (refine hG.1 _ _ _ _ _ _ rfl ?_)
  refine cxP h1 (by omega) ?_
  repeat (refine hG.1 _ _ _ _ _ _ rfl ?_)
  refine And.intro (vin (j := 1) (by omega) hL) ?_
  repeat (refine hG.1 _ _ _ _ _ _ rfl ?_)
  refine And.intro rfl (cxP h2 (by omega) ?_)
  repeat (refine hG.1 _ _ _ _ _ _ rfl ?_)
  refine And.intro rfl (cxP (m_thrown S2) (by omega) ?_)
  repeat (refine hG.1 _ _ _ _ _ _ rfl ?_)
  refine And.intro (fun _ => ?_) (fun h => absurd h3 h)
  repeat (refine hG.1 _ _ _ _ _ _ rfl ?_)
  refine And.intro (fun _ => ?_) (fun w => ?_)
  · repeat (first | exact wk hG (by (repeat (refine And.intro rfl ?_)); exact trivial) (nx _ _ (by omega) hJ2) | refine hG.1 _ _ _ _ _ _ rfl ?_)
  have h6 := h5 (nI_z h4 w)
  repeat (refine hG.1 _ _ _ _ _ _ rfl ?_)
  refine And.intro (vp_in_nI (show 0 < 1 by omega) (by decide)) ?_
  rw [nI_clamp (by decide), h6]
  repeat (refine hG.1 _ _ _ _ _ _ rfl ?_)
  refine And.intro (fun _ => ?_) (fun h => absurd (cmp0 (if_neg Bool.false_ne_true)) h)
  repeat (first | exact wk hG (by (repeat (refine And.intro rfl ?_)); exact trivial) (nx _ _ (by omega) hJ2) | refine hG.1 _ _ _ _ _ _ rfl ?_)
theorem tsw {w : Int32} {o : Nat} (ho : o < 32) (hw : w = nI o) : w.toInt = (o : Int) := by
  rw [hw]
  exact nI_toInt (by omega)
set_option maxRecDepth 100000 in
theorem law_case (hG : Cl 120 L xs 512 P G) (hL : L ≤ 2048) {i k o : Nat} {S : PS} (ho : o < 23) (hi : 4 * i + 3 < L) (hk : k ≤ i) (hJ : JJ S) (nx : ∀ (k1 : Nat) (S1 : PS), k1 ≤ k + 1 → JJ S1 → G k1 1506 (LL i) [] S1) : G k (([144, 212, 280, 348, 411, 474, 537, 593, 649, 662, 718, 786, 842, 898, 954, 1010, 1066, 1134, 1202, 1282, 1338, 1394, 1450] : List Nat).getD o 0) (LL i) [] S := by
  rcases (show o = 0 ∨ o = 1 ∨ o = 2 ∨ o = 3 ∨ o = 4 ∨ o = 5 ∨ o = 6 ∨ o = 7 ∨ o = 8 ∨ o = 9 ∨ o = 10 ∨ o = 11 ∨ o = 12 ∨ o = 13 ∨ o = 14 ∨ o = 15 ∨ o = 16 ∨ o = 17 ∨ o = 18 ∨ o = 19 ∨ o = 20 ∨ o = 21 ∨ o = 22 by omega) with rfl | rfl | rfl | rfl | rfl | rfl | rfl | rfl | rfl | rfl | rfl | rfl | rfl | rfl | rfl | rfl | rfl | rfl | rfl | rfl | rfl | rfl | rfl
  · exact law_addNode hG hL hi hk hJ nx
  · exact law_setBackground hG hL hi hk hJ nx
  · exact law_setPressure hG hL hi hk hJ nx
  · exact law_addMeter hG hL hi hk hJ nx
  · exact law_toggleValve hG hL hi hk hJ nx
  · exact law_isSupplied hG hL hi hk hJ nx
  · exact law_takes hG hL hi hk hJ nx
  · exact law_flow hG hL hi hk hJ nx
  · exact law_allFlow hG hL hi hk hJ nx
  · exact law_addArea hG hL hi hk hJ nx
  · exact law_addExport hG hL hi hk hJ nx
  · exact law_nodes hG hL hi hk hJ nx
  · exact law_areaFlow hG hL hi hk hJ nx
  · exact law_areaTakes hG hL hi hk hJ nx
  · exact law_loss hG hL hi hk hJ nx
  · exact law_steps hG hL hi hk hJ nx
  · exact law_stepPipe hG hL hi hk hJ nx
  · exact law_drop hG hL hi hk hJ nx
  · exact law_burst hG hL hi hk hJ nx
  · exact law_repair hG hL hi hk hJ nx
  · exact law_cost hG hL hi hk hJ nx
  · exact law_ranked hG hL hi hk hJ nx
  · exact law_plan hG hL hi hk hJ nx
set_option maxRecDepth 100000 in
theorem law_head (hG : Cl 120 L xs 512 P G) (hL : L ≤ 2048) (hP : ∀ (k : Nat) (S : PS), P k (.inl (some (nI 1))) S) : ∀ (m i k : Nat) (S : PS), L < 4 * (i + m) + 4 → i ≤ 512 → k ≤ i → JJ S → G k 23 (LL i) [] S := by
  intro m
  induction m with
  | zero =>
    intro i k S hm h512 hk hJ
    repeat (refine hG.1 _ _ _ _ _ _ rfl ?_)
    refine And.intro (fun _ => ?_) (fun h => ?_)
    · repeat (refine hG.1 _ _ _ _ _ _ rfl ?_)
      exact And.intro rfl (hP _ _)
    · exact absurd (ltS hL h512 (by omega)) h
  | succ m ih =>
    intro i k S hm h512 hk hJ
    by_cases hi : 4 * i + 3 < L
    · have nx : ∀ (k1 : Nat) (S1 : PS), k1 ≤ k + 1 → JJ S1 → G k1 1506 (LL i) [] S1 := by
        intro k1 S1 hk1 hJ1
        have g := ih (i + 1) k1 S1 (by omega) (by omega) (by omega) hJ1
        refine hG.1 _ _ _ _ _ _ rfl ?_
        refine hG.1 _ _ _ _ _ _ rfl ?_
        refine wk hG ?_ g
        refine And.intro (nI_add _ _) ?_
        repeat (refine And.intro rfl ?_)
        exact trivial
      repeat (refine hG.1 _ _ _ _ _ _ rfl ?_)
      refine And.intro (fun h => ?_) (fun _ => ?_)
      · exact absurd h (ltN hL hi)
      · repeat (refine hG.1 _ _ _ _ _ _ rfl ?_)
        refine And.intro (vp_in_nI (show 4 * i < L by omega) (by omega)) ?_
        repeat (refine hG.1 _ _ _ _ _ _ rfl ?_)
        obtain ⟨o, ho, ew⟩ := pk_andE (xs (nI (4 * i)).toNatClampNeg) (m := nI 31) 5 (by decide)
        have et := tsw ho ew
        refine And.intro (fun j off tg h1 h2 h3 h4 h5 => ?_) (And.intro (fun tg h1 h2 => ?_) (And.intro ?_ ⟨1506, rfl⟩))
        · have k1 : ¬ (xs (nI (4 * i)).toNatClampNeg &&& nI 31).toInt < 0 := h1
          have k2 : ¬ 22 < (xs (nI (4 * i)).toNatClampNeg &&& nI 31).toInt := h2
          have k3 : ((xs (nI (4 * i)).toNatClampNeg &&& nI 31).toInt - 0).toNat = j := h3
          rw [et] at k1 k2 k3
          have hj : j = o := by omega
          have ho23 : o < 23 := by omega
          have e := law_case hG hL ho23 hi hk hJ nx
          have ht : tg = ([144, 212, 280, 348, 411, 474, 537, 593, 649, 662, 718, 786, 842, 898, 954, 1010, 1066, 1134, 1202, 1282, 1338, 1394, 1450] : List Nat).getD o 0 := offO ho23 (hj ▸ h4) h5
          rw [ht]
          exact e
        · have k1 : (((144 : Nat) : Int) - 105) + 1467 = (tg : Int) := h2
          have ht : tg = 1506 := by omega
          rw [ht]
          exact nx k S (by omega) hJ
        · exact offA
    · repeat (refine hG.1 _ _ _ _ _ _ rfl ?_)
      refine And.intro (fun _ => ?_) (fun h => ?_)
      · repeat (refine hG.1 _ _ _ _ _ _ rfl ?_)
        exact And.intro rfl (hP _ _)
      · exact absurd (ltS hL h512 (by omega)) h
end LAW
end
section
def ctW : List Cond := [.arrayClass .int, .arrayClass .boolean, .methodLink RX0 1 Lib.objectInit, .methodLink RX1 1 Lib.objectInit, .instanceMethod Lib.objectInit, .code Lib.objectInit ⟨#[0xb1]⟩ 1 none, .code yX0_init cX0_init 1 none, .code yX1_init cX1_init 1 none]
def ltW : List Cond := [.arrayClass .long, .methodLink RL 85 yX0_init, .methodLink RL 88 yX1_init, .instanceMethod yX0_init, .instanceMethod yX1_init, .classLink RL 8 RX0, .classLink RL 86 RX1, .instantiable RX0 17, .instantiable RX1 17, .initialized RX0, .initialized RX1]
set_option maxRecDepth 100000 in
theorem p_ctW : ctW.map some = ([114, 550, 59, 497, 60, 61, 58, 496] : List Nat).map (fun j => lw_tbl[j]?) := by decide +kernel
set_option maxRecDepth 100000 in
theorem p_ltW : ltW.map some = ([738, 56, 494, 57, 495, 54, 492, 55, 493, 45, 46] : List Nat).map (fun j => lw_tbl[j]?) := by decide +kernel
set_option maxRecDepth 100000 in
theorem g_ctW : ctW.all goodWord = true := by decide +kernel
theorem ct_in {w : Cond} (i : Nat) (h : ctW[i]? = some w) : w ∈ TT := inTT (tbl_of p_ctW (List.mem_of_getElem? h)) (List.all_eq_true.mp g_ctW w (List.mem_of_getElem? h))
theorem lt_in {w : Cond} (i : Nat) (h : ltW[i]? = some w) : w ∈ lw_tbl := tbl_of p_ltW (List.mem_of_getElem? h)
abbrev tyA (cA : Nat → ClassId) : List (ClassId × FieldType) := [(cA 0, .int), (cA 1, .boolean), (cA 2, .long)]
section CT
variable {p : Program} {l : Launch} {e : Env} {R : Room} {s : State} {m : MethodId} {args : Array Value} {below : List Frame} {meth : Method} {c : Code} {Q : State → Prop}
variable {D : va_G} {cA : Nat → ClassId}
theorem ct_arr {cc : ByteArray} {o k N' pc index t mx : Nat} {nn : Int} {v : Int32} {aty : ArrayType} {ty : FieldType} {a : Nat} {fs : List Value} {ws : va_W} {H : Heap} {locs : List Loc} {ls : Array Slot} {cells slots : Nat} {A : Nat → Prop}
    (hx : p.tables.exec = Jvm.exec) (hb : c.code = cc) (hts : ∀ w ∈ TT, w.before args s = true) (ho : o < 2) (hown : s.vm.findClass (oN o) = some m.cls) (hin2 : meth.name = "<init>") (hK : va_K D vwCl (tyA cA) s)
    (harr : Cond.arrayClass (newarray.typeOf aty) ∈ TT) (hty : newarray.typeOf aty = ty) (hta : (tyA cA)[t]? = some (cA t, ty)) (hra : ∀ c1 : ClassId, va_RA s c1 ty → s.vm.findClass ("[" ++ ty.toString) = some c1)
    (hv : (Int8.ofInt nn).toInt32 = v) (hn : ¬ v < 0) (hN : v.toNatClampNeg = N') (ha0 : ∀ cA : ClassId, vp_cell cA (N', .inl (fun _ => (0 : Int32))) = arrV cA N' (fun _ => defaultValue ty)) (hby : N' * componentBytes ty ≤ 536870912)
    (hk : k < 17) (hfl : (o, index, k) ∈ FLs) (hfin : (oT o k).2.2.2 = true) (hdesc : parseFieldDescriptor (oT o k).2.2.1 = some (.array ty)) (hnar : ∀ q : Nat, narrow (.array ty) (.ref q) = .ref q) (hfit : ∀ q : Nat, fits (.array ty) (.ref q) = true) (hlen : k < fs.length)
    (hP : va_P D vwCl ((a, .inr (o, fs)) :: ws) H) (hD : va_D A ((a, .inr (o, fs)) :: ws)) (hS : va_S A s.heap H locs) (hA : ∀ q, s.heap.size ≤ q → A q) (hl : lv_has ls mx [(0, .ref a)])
    (hc : cells + 1 ≤ R.cells) (hs : slots + N' ≤ R.slots)
    (d0 : decode cc pc = .ok (.aload_n 0, 1)) (d1 : decode cc (pc + 1) = .ok (.bipush nn, 2)) (d2 : decode cc (pc + 3) = .ok (.newarray aty, 2)) (d3 : decode cc (pc + 5) = .ok (.putfield index, 3))
    (kk : ∀ (q : Nat) (H1 : Heap) (locs1 : List Loc), va_P D vwCl ((a, .inr (o, fs.set k (.ref q))) :: (ws ++ [(q, .inl (cA t, (N', .inl (fun _ => (0 : Int32)))))])) H1 → va_D A ((a, .inr (o, fs.set k (.ref q))) :: (ws ++ [(q, .inl (cA t, (N', .inl (fun _ => (0 : Int32)))))])) → va_S A s.heap H1 locs1 →
      W p l e R s m args below meth c H1 locs1 (cells + 1) (slots + N') Q (F0 m (pc + 8) ls [])) : W p l e R s m args below meth c H locs cells slots Q (F0 m pc ls []) := by
  refine lv_aload_n hx hb d0 rfl (lv_at hl 0 rfl) ?_
  refine lv_bipush hx hb d1 hv ?_
  refine va_newa (a0 := (N', .inl (fun _ => (0 : Int32)))) hx hb (hts _ harr) hty hK hP hD hS hA ha0 hn hN hby hc hs d2 (fun q c1 H1 hK1 hP1 hD1 hS1 => ?_)
  have e1 : c1 = cA t := by
    have h1 := (hK1.2 (tyA cA).length (c1, ty) (by rw [List.getElem?_append_right (Nat.le_refl _)]; simp)).2
    have h2 := (hK.2 t _ hta).2
    exact Option.some.inj ((hra _ h1).symm.trans (hra _ h2))
  subst e1
  obtain ⟨ty0, hty0⟩ := ty_all ho
  have hcl := cl_at ho
  have hown2 : (oT o k).1 = oN o := by
    have hf := fOk_all ho hk
    simp only [fOk, Bool.and_eq_true, decide_eq_true_eq] at hf
    exact hf.1
  refine va_putF (D := D) (ci := o) (v := .ref q) (C := oN o) (T := oT o) (N := 17) hx hb hts (in_lay ho) ty0 hty0 (nm_all ho) hown hK hP1 hD1 hS1 0 rfl hcl k hk (hts _ (in_fl hfl)) (fun _ h9 => by rw [hown2] at h9; exact h9) hfin hin2 hown2 hdesc (hnar q) (hfit q) hlen d3 (fun H2 locs2 hP2 hD2 hS2 => ?_)
  exact kk q H2 locs2 hP2 hD2 hS2
abbrev wldX (cA : Nat → ClassId) (h0 q1 q2 q3 q4 q5 q6 q7 q8 q9 q10 q11 : Nat) : va_W := [(h0, .inr (0, [.int 1, .ref q1, .ref q2, .ref q3, .ref q4, .int 0, .int 0, .int 0, .ref q5, .ref q6, .int 0, .ref q7, .ref q8, .ref q9, .int 0, .ref q10, .ref q11])), (q1, .inl (cA 0, (16, .inl (upd (fun _ => (0 : Int32)) 0 1)))), (q2, .inl (cA 0, (16, .inl (fun _ => (0 : Int32))))), (q3, .inl (cA 0, (16, .inl (fun _ => (0 : Int32))))), (q4, .inl (cA 0, (16, .inl (fun _ => (0 : Int32))))), (q5, .inl (cA 0, (8, .inl (fun _ => (0 : Int32))))), (q6, .inl (cA 0, (8, .inl (fun _ => (0 : Int32))))), (q7, .inl (cA 0, (20, .inl (fun _ => (0 : Int32))))), (q8, .inl (cA 0, (20, .inl (fun _ => (0 : Int32))))), (q9, .inl (cA 0, (20, .inl (fun _ => (0 : Int32))))), (q10, .inl (cA 0, (20, .inl (fun _ => (0 : Int32))))), (q11, .inl (cA 0, (20, .inl (fun _ => (0 : Int32)))))]
abbrev wldM (cA : Nat → ClassId) (h0 q1 q2 q3 q4 q5 q6 q7 q8 q9 q10 q11 q12 q13 : Nat) : va_W := [(h0, .inr (1, [.int 1, .ref q1, .ref q2, .ref q3, .ref q4, .ref q5, .ref q6, .ref q7, .int 0, .ref q8, .ref q9, .int 0, .ref q10, .ref q11, .ref q12, .ref q13, .int 0])), (q1, .inl (cA 0, (16, .inl (upd (fun _ => (0 : Int32)) 0 (-1))))), (q2, .inl (cA 0, (16, .inl (fun _ => (0 : Int32))))), (q3, .inl (cA 0, (16, .inl (fun _ => (0 : Int32))))), (q4, .inl (cA 0, (16, .inl (upd (fun _ => (0 : Int32)) 0 (-1))))), (q5, .inl (cA 1, (16, .inl (fun _ => (0 : Int32))))), (q6, .inl (cA 1, (16, .inl (fun _ => (0 : Int32))))), (q7, .inl (cA 0, (11, .inl (upd (upd (upd (upd (upd (upd (upd (upd (upd (upd (fun _ => (0 : Int32)) 1 120) 2 280) 3 490) 4 730) 5 1000) 6 1290) 7 1600) 8 1930) 9 2280) 10 2650)))), (q8, .inl (cA 0, (8, .inl (fun _ => (0 : Int32))))), (q9, .inl (cA 0, (8, .inl (fun _ => (0 : Int32))))), (q10, .inl (cA 0, (20, .inl (fun _ => (0 : Int32))))), (q11, .inl (cA 0, (20, .inl (fun _ => (0 : Int32))))), (q12, .inl (cA 0, (20, .inl (fun _ => (0 : Int32))))), (q13, .inl (cA 1, (20, .inl (fun _ => (0 : Int32)))))]
abbrev stX (h0 : Nat) : va_W := [(h0, .inr (0, [.int 0, .null, .null, .null, .null, .int 0, .int 0, .int 0, .null, .null, .int 0, .null, .null, .null, .int 0, .null, .null]))]
def ctOutX (D : va_G) (cA : Nat → ClassId) (sz h0 : Nat) (_ : Unit) (t : State) : Prop := ∃ q1 q2 q3 q4 q5 q6 q7 q8 q9 q10 q11 : Nat, va_P D vwCl (wldX cA h0 q1 q2 q3 q4 q5 q6 q7 q8 q9 q10 q11) t.heap ∧ va_D (va_A (stX h0) sz) (wldX cA h0 q1 q2 q3 q4 q5 q6 q7 q8 q9 q10 q11)
set_option maxHeartbeats 4000000 in
set_option maxRecDepth 100000 in
theorem ct_X (l : Launch) (D : va_G) (cA : Nat → ClassId) (h0 sz : Nat) : Met l yX0_init (.code yX0_init cX0_init 1 none :: TT) ({ frames := 1, cells := 11, slots := 180, locals := 20 }) (va_Pc [.ref h0] (fun U => U.heap.size = sz ∧ va_P D vwCl (stX h0) U.heap ∧ va_K D vwCl (tyA cA) U ∧ va_D (fun _ => True) (stX h0))) (va_Qv (fun _ : Unit => True) (ctOutX D cA sz h0) (va_A (stX h0) sz)) 11 180 (va_A (stX h0) sz) := by
  refine Met.ofW (cc := cX0_init) (maxL := 1) (ret := none) (by decide +kernel) rfl ?_
  intro p e s m args below meth c s₁ B hml hv
  obtain ⟨rfl, hsz, hP, hK, hD0⟩ := hv
  have hx := B.exec
  have hb := B.bytes
  have hr := B.returns
  have hts : ∀ w ∈ TT, w.before _ s = true := fun w hw => atoms_spec (ws := Cond.code yX0_init cX0_init 1 none :: TT) B.pre w (List.mem_cons_of_mem _ hw)
  have hown : s.vm.findClass RX0 = some m.cls := findClass_of_methodNamed B.named
  have hin : meth.name = "<init>" := (name_of_methodNamed B.named B.method).1
  subst hsz
  have hD := hD0.self (sz := s.heap.size)
  unfold ctOutX
  generalize hAe : va_A (stX h0) s.heap.size = A at hD ⊢
  have hA : ∀ q : Nat, s.heap.size ≤ q → A q := fun q h => by rw [← hAe]; exact Or.inr h
  have hS : va_S A s.heap s.heap [] := va_S.rf
  have hl := lv_entry ([.ref h0]) (n := 1) (Nat.le_of_ble_eq_true rfl)
  rw [lg_entry_eq]
  generalize (lg_sl ([.ref h0]) ++ List.replicate (1 - (lg_sl ([.ref h0])).length) Slot.unset).toArray = ls at hl ⊢
  have hl : lv_has ls 1 [(0, .ref h0)] := hl
  have dd : ∀ {pc nx ax : Nat} {ins : Instr}, lkp (pg 0) pc = some (ins, nx, ax) → decode cX0_init pc = .ok (ins, ln ins) := fun h => (row_ok (i := 0) (by decide) h).1
  refine lv_aload_n hx hb (dd (pc := 0) rfl) rfl (lv_at hl 0 rfl) ?_
  refine W.objInit hx hb hown (hts _ (ct_in 2 rfl)) (hts _ (ct_in 4 rfl)) (hts _ (ct_in 5 rfl)) rfl (by rw [hml]; exact hl.1) rfl (dd (pc := 1) rfl) (Nat.le_of_ble_eq_true rfl) (Nat.le_of_ble_eq_true rfl) ?_
  refine W.eq (g2 := F0 m 4 ls []) rfl ?_
  refine ct_arr (o := 0) (k := 1) (N' := 16) (index := 9) (t := 0) (nn := 16) (v := nI 16) (aty := .int) (ty := .int) hx hb hts (by decide) hown hin hK (ct_in 0 rfl) rfl rfl (fun _ h => h) (by decide) (by decide) (by decide) (fun _ => rfl) (by decide) (by decide) (by decide +kernel) rfl (by decide +kernel) (fun _ => rfl) (fun _ => rfl) (Nat.le_of_ble_eq_true rfl) hP hD hS hA hl (cells := 0) (slots := 0) (Nat.le_of_ble_eq_true rfl) (Nat.le_of_ble_eq_true rfl) (dd (pc := 4) rfl) (dd (pc := 5) rfl) (dd (pc := 7) rfl) (dd (pc := 9) rfl) (fun q1 H locs hP hD hS => ?_)
  have hP : va_P D vwCl [(h0, .inr (0, [.int 0, .ref q1, .null, .null, .null, .int 0, .int 0, .int 0, .null, .null, .int 0, .null, .null, .null, .int 0, .null, .null])), (q1, .inl (cA 0, (16, .inl (fun _ => (0 : Int32)))))] H := hP
  have hD : va_D A [(h0, .inr (0, [.int 0, .ref q1, .null, .null, .null, .int 0, .int 0, .int 0, .null, .null, .int 0, .null, .null, .null, .int 0, .null, .null])), (q1, .inl (cA 0, (16, .inl (fun _ => (0 : Int32)))))] := hD
  refine ct_arr (o := 0) (k := 2) (N' := 16) (index := 13) (t := 0) (nn := 16) (v := nI 16) (aty := .int) (ty := .int) hx hb hts (by decide) hown hin hK (ct_in 0 rfl) rfl rfl (fun _ h => h) (by decide) (by decide) (by decide) (fun _ => rfl) (by decide) (by decide) (by decide +kernel) rfl (by decide +kernel) (fun _ => rfl) (fun _ => rfl) (Nat.le_of_ble_eq_true rfl) hP hD hS hA hl (cells := 1) (slots := 16) (Nat.le_of_ble_eq_true rfl) (Nat.le_of_ble_eq_true rfl) (dd (pc := 12) rfl) (dd (pc := 13) rfl) (dd (pc := 15) rfl) (dd (pc := 17) rfl) (fun q2 H locs hP hD hS => ?_)
  have hP : va_P D vwCl [(h0, .inr (0, [.int 0, .ref q1, .ref q2, .null, .null, .int 0, .int 0, .int 0, .null, .null, .int 0, .null, .null, .null, .int 0, .null, .null])), (q1, .inl (cA 0, (16, .inl (fun _ => (0 : Int32))))), (q2, .inl (cA 0, (16, .inl (fun _ => (0 : Int32)))))] H := hP
  have hD : va_D A [(h0, .inr (0, [.int 0, .ref q1, .ref q2, .null, .null, .int 0, .int 0, .int 0, .null, .null, .int 0, .null, .null, .null, .int 0, .null, .null])), (q1, .inl (cA 0, (16, .inl (fun _ => (0 : Int32))))), (q2, .inl (cA 0, (16, .inl (fun _ => (0 : Int32)))))] := hD
  refine ct_arr (o := 0) (k := 3) (N' := 16) (index := 16) (t := 0) (nn := 16) (v := nI 16) (aty := .int) (ty := .int) hx hb hts (by decide) hown hin hK (ct_in 0 rfl) rfl rfl (fun _ h => h) (by decide) (by decide) (by decide) (fun _ => rfl) (by decide) (by decide) (by decide +kernel) rfl (by decide +kernel) (fun _ => rfl) (fun _ => rfl) (Nat.le_of_ble_eq_true rfl) hP hD hS hA hl (cells := 2) (slots := 32) (Nat.le_of_ble_eq_true rfl) (Nat.le_of_ble_eq_true rfl) (dd (pc := 20) rfl) (dd (pc := 21) rfl) (dd (pc := 23) rfl) (dd (pc := 25) rfl) (fun q3 H locs hP hD hS => ?_)
  have hP : va_P D vwCl [(h0, .inr (0, [.int 0, .ref q1, .ref q2, .ref q3, .null, .int 0, .int 0, .int 0, .null, .null, .int 0, .null, .null, .null, .int 0, .null, .null])), (q1, .inl (cA 0, (16, .inl (fun _ => (0 : Int32))))), (q2, .inl (cA 0, (16, .inl (fun _ => (0 : Int32))))), (q3, .inl (cA 0, (16, .inl (fun _ => (0 : Int32)))))] H := hP
  have hD : va_D A [(h0, .inr (0, [.int 0, .ref q1, .ref q2, .ref q3, .null, .int 0, .int 0, .int 0, .null, .null, .int 0, .null, .null, .null, .int 0, .null, .null])), (q1, .inl (cA 0, (16, .inl (fun _ => (0 : Int32))))), (q2, .inl (cA 0, (16, .inl (fun _ => (0 : Int32))))), (q3, .inl (cA 0, (16, .inl (fun _ => (0 : Int32)))))] := hD
  refine ct_arr (o := 0) (k := 4) (N' := 16) (index := 19) (t := 0) (nn := 16) (v := nI 16) (aty := .int) (ty := .int) hx hb hts (by decide) hown hin hK (ct_in 0 rfl) rfl rfl (fun _ h => h) (by decide) (by decide) (by decide) (fun _ => rfl) (by decide) (by decide) (by decide +kernel) rfl (by decide +kernel) (fun _ => rfl) (fun _ => rfl) (Nat.le_of_ble_eq_true rfl) hP hD hS hA hl (cells := 3) (slots := 48) (Nat.le_of_ble_eq_true rfl) (Nat.le_of_ble_eq_true rfl) (dd (pc := 28) rfl) (dd (pc := 29) rfl) (dd (pc := 31) rfl) (dd (pc := 33) rfl) (fun q4 H locs hP hD hS => ?_)
  have hP : va_P D vwCl [(h0, .inr (0, [.int 0, .ref q1, .ref q2, .ref q3, .ref q4, .int 0, .int 0, .int 0, .null, .null, .int 0, .null, .null, .null, .int 0, .null, .null])), (q1, .inl (cA 0, (16, .inl (fun _ => (0 : Int32))))), (q2, .inl (cA 0, (16, .inl (fun _ => (0 : Int32))))), (q3, .inl (cA 0, (16, .inl (fun _ => (0 : Int32))))), (q4, .inl (cA 0, (16, .inl (fun _ => (0 : Int32)))))] H := hP
  have hD : va_D A [(h0, .inr (0, [.int 0, .ref q1, .ref q2, .ref q3, .ref q4, .int 0, .int 0, .int 0, .null, .null, .int 0, .null, .null, .null, .int 0, .null, .null])), (q1, .inl (cA 0, (16, .inl (fun _ => (0 : Int32))))), (q2, .inl (cA 0, (16, .inl (fun _ => (0 : Int32))))), (q3, .inl (cA 0, (16, .inl (fun _ => (0 : Int32))))), (q4, .inl (cA 0, (16, .inl (fun _ => (0 : Int32)))))] := hD
  refine ct_arr (o := 0) (k := 8) (N' := 8) (index := 22) (t := 0) (nn := 8) (v := nI 8) (aty := .int) (ty := .int) hx hb hts (by decide) hown hin hK (ct_in 0 rfl) rfl rfl (fun _ h => h) (by decide) (by decide) (by decide) (fun _ => rfl) (by decide) (by decide) (by decide +kernel) rfl (by decide +kernel) (fun _ => rfl) (fun _ => rfl) (Nat.le_of_ble_eq_true rfl) hP hD hS hA hl (cells := 4) (slots := 64) (Nat.le_of_ble_eq_true rfl) (Nat.le_of_ble_eq_true rfl) (dd (pc := 36) rfl) (dd (pc := 37) rfl) (dd (pc := 39) rfl) (dd (pc := 41) rfl) (fun q5 H locs hP hD hS => ?_)
  have hP : va_P D vwCl [(h0, .inr (0, [.int 0, .ref q1, .ref q2, .ref q3, .ref q4, .int 0, .int 0, .int 0, .ref q5, .null, .int 0, .null, .null, .null, .int 0, .null, .null])), (q1, .inl (cA 0, (16, .inl (fun _ => (0 : Int32))))), (q2, .inl (cA 0, (16, .inl (fun _ => (0 : Int32))))), (q3, .inl (cA 0, (16, .inl (fun _ => (0 : Int32))))), (q4, .inl (cA 0, (16, .inl (fun _ => (0 : Int32))))), (q5, .inl (cA 0, (8, .inl (fun _ => (0 : Int32)))))] H := hP
  have hD : va_D A [(h0, .inr (0, [.int 0, .ref q1, .ref q2, .ref q3, .ref q4, .int 0, .int 0, .int 0, .ref q5, .null, .int 0, .null, .null, .null, .int 0, .null, .null])), (q1, .inl (cA 0, (16, .inl (fun _ => (0 : Int32))))), (q2, .inl (cA 0, (16, .inl (fun _ => (0 : Int32))))), (q3, .inl (cA 0, (16, .inl (fun _ => (0 : Int32))))), (q4, .inl (cA 0, (16, .inl (fun _ => (0 : Int32))))), (q5, .inl (cA 0, (8, .inl (fun _ => (0 : Int32)))))] := hD
  refine ct_arr (o := 0) (k := 9) (N' := 8) (index := 25) (t := 0) (nn := 8) (v := nI 8) (aty := .int) (ty := .int) hx hb hts (by decide) hown hin hK (ct_in 0 rfl) rfl rfl (fun _ h => h) (by decide) (by decide) (by decide) (fun _ => rfl) (by decide) (by decide) (by decide +kernel) rfl (by decide +kernel) (fun _ => rfl) (fun _ => rfl) (Nat.le_of_ble_eq_true rfl) hP hD hS hA hl (cells := 5) (slots := 72) (Nat.le_of_ble_eq_true rfl) (Nat.le_of_ble_eq_true rfl) (dd (pc := 44) rfl) (dd (pc := 45) rfl) (dd (pc := 47) rfl) (dd (pc := 49) rfl) (fun q6 H locs hP hD hS => ?_)
  have hP : va_P D vwCl [(h0, .inr (0, [.int 0, .ref q1, .ref q2, .ref q3, .ref q4, .int 0, .int 0, .int 0, .ref q5, .ref q6, .int 0, .null, .null, .null, .int 0, .null, .null])), (q1, .inl (cA 0, (16, .inl (fun _ => (0 : Int32))))), (q2, .inl (cA 0, (16, .inl (fun _ => (0 : Int32))))), (q3, .inl (cA 0, (16, .inl (fun _ => (0 : Int32))))), (q4, .inl (cA 0, (16, .inl (fun _ => (0 : Int32))))), (q5, .inl (cA 0, (8, .inl (fun _ => (0 : Int32))))), (q6, .inl (cA 0, (8, .inl (fun _ => (0 : Int32)))))] H := hP
  have hD : va_D A [(h0, .inr (0, [.int 0, .ref q1, .ref q2, .ref q3, .ref q4, .int 0, .int 0, .int 0, .ref q5, .ref q6, .int 0, .null, .null, .null, .int 0, .null, .null])), (q1, .inl (cA 0, (16, .inl (fun _ => (0 : Int32))))), (q2, .inl (cA 0, (16, .inl (fun _ => (0 : Int32))))), (q3, .inl (cA 0, (16, .inl (fun _ => (0 : Int32))))), (q4, .inl (cA 0, (16, .inl (fun _ => (0 : Int32))))), (q5, .inl (cA 0, (8, .inl (fun _ => (0 : Int32))))), (q6, .inl (cA 0, (8, .inl (fun _ => (0 : Int32)))))] := hD
  refine ct_arr (o := 0) (k := 11) (N' := 20) (index := 28) (t := 0) (nn := 20) (v := nI 20) (aty := .int) (ty := .int) hx hb hts (by decide) hown hin hK (ct_in 0 rfl) rfl rfl (fun _ h => h) (by decide) (by decide) (by decide) (fun _ => rfl) (by decide) (by decide) (by decide +kernel) rfl (by decide +kernel) (fun _ => rfl) (fun _ => rfl) (Nat.le_of_ble_eq_true rfl) hP hD hS hA hl (cells := 6) (slots := 80) (Nat.le_of_ble_eq_true rfl) (Nat.le_of_ble_eq_true rfl) (dd (pc := 52) rfl) (dd (pc := 53) rfl) (dd (pc := 55) rfl) (dd (pc := 57) rfl) (fun q7 H locs hP hD hS => ?_)
  have hP : va_P D vwCl [(h0, .inr (0, [.int 0, .ref q1, .ref q2, .ref q3, .ref q4, .int 0, .int 0, .int 0, .ref q5, .ref q6, .int 0, .ref q7, .null, .null, .int 0, .null, .null])), (q1, .inl (cA 0, (16, .inl (fun _ => (0 : Int32))))), (q2, .inl (cA 0, (16, .inl (fun _ => (0 : Int32))))), (q3, .inl (cA 0, (16, .inl (fun _ => (0 : Int32))))), (q4, .inl (cA 0, (16, .inl (fun _ => (0 : Int32))))), (q5, .inl (cA 0, (8, .inl (fun _ => (0 : Int32))))), (q6, .inl (cA 0, (8, .inl (fun _ => (0 : Int32))))), (q7, .inl (cA 0, (20, .inl (fun _ => (0 : Int32)))))] H := hP
  have hD : va_D A [(h0, .inr (0, [.int 0, .ref q1, .ref q2, .ref q3, .ref q4, .int 0, .int 0, .int 0, .ref q5, .ref q6, .int 0, .ref q7, .null, .null, .int 0, .null, .null])), (q1, .inl (cA 0, (16, .inl (fun _ => (0 : Int32))))), (q2, .inl (cA 0, (16, .inl (fun _ => (0 : Int32))))), (q3, .inl (cA 0, (16, .inl (fun _ => (0 : Int32))))), (q4, .inl (cA 0, (16, .inl (fun _ => (0 : Int32))))), (q5, .inl (cA 0, (8, .inl (fun _ => (0 : Int32))))), (q6, .inl (cA 0, (8, .inl (fun _ => (0 : Int32))))), (q7, .inl (cA 0, (20, .inl (fun _ => (0 : Int32)))))] := hD
  refine ct_arr (o := 0) (k := 12) (N' := 20) (index := 31) (t := 0) (nn := 20) (v := nI 20) (aty := .int) (ty := .int) hx hb hts (by decide) hown hin hK (ct_in 0 rfl) rfl rfl (fun _ h => h) (by decide) (by decide) (by decide) (fun _ => rfl) (by decide) (by decide) (by decide +kernel) rfl (by decide +kernel) (fun _ => rfl) (fun _ => rfl) (Nat.le_of_ble_eq_true rfl) hP hD hS hA hl (cells := 7) (slots := 100) (Nat.le_of_ble_eq_true rfl) (Nat.le_of_ble_eq_true rfl) (dd (pc := 60) rfl) (dd (pc := 61) rfl) (dd (pc := 63) rfl) (dd (pc := 65) rfl) (fun q8 H locs hP hD hS => ?_)
  have hP : va_P D vwCl [(h0, .inr (0, [.int 0, .ref q1, .ref q2, .ref q3, .ref q4, .int 0, .int 0, .int 0, .ref q5, .ref q6, .int 0, .ref q7, .ref q8, .null, .int 0, .null, .null])), (q1, .inl (cA 0, (16, .inl (fun _ => (0 : Int32))))), (q2, .inl (cA 0, (16, .inl (fun _ => (0 : Int32))))), (q3, .inl (cA 0, (16, .inl (fun _ => (0 : Int32))))), (q4, .inl (cA 0, (16, .inl (fun _ => (0 : Int32))))), (q5, .inl (cA 0, (8, .inl (fun _ => (0 : Int32))))), (q6, .inl (cA 0, (8, .inl (fun _ => (0 : Int32))))), (q7, .inl (cA 0, (20, .inl (fun _ => (0 : Int32))))), (q8, .inl (cA 0, (20, .inl (fun _ => (0 : Int32)))))] H := hP
  have hD : va_D A [(h0, .inr (0, [.int 0, .ref q1, .ref q2, .ref q3, .ref q4, .int 0, .int 0, .int 0, .ref q5, .ref q6, .int 0, .ref q7, .ref q8, .null, .int 0, .null, .null])), (q1, .inl (cA 0, (16, .inl (fun _ => (0 : Int32))))), (q2, .inl (cA 0, (16, .inl (fun _ => (0 : Int32))))), (q3, .inl (cA 0, (16, .inl (fun _ => (0 : Int32))))), (q4, .inl (cA 0, (16, .inl (fun _ => (0 : Int32))))), (q5, .inl (cA 0, (8, .inl (fun _ => (0 : Int32))))), (q6, .inl (cA 0, (8, .inl (fun _ => (0 : Int32))))), (q7, .inl (cA 0, (20, .inl (fun _ => (0 : Int32))))), (q8, .inl (cA 0, (20, .inl (fun _ => (0 : Int32)))))] := hD
  refine ct_arr (o := 0) (k := 13) (N' := 20) (index := 34) (t := 0) (nn := 20) (v := nI 20) (aty := .int) (ty := .int) hx hb hts (by decide) hown hin hK (ct_in 0 rfl) rfl rfl (fun _ h => h) (by decide) (by decide) (by decide) (fun _ => rfl) (by decide) (by decide) (by decide +kernel) rfl (by decide +kernel) (fun _ => rfl) (fun _ => rfl) (Nat.le_of_ble_eq_true rfl) hP hD hS hA hl (cells := 8) (slots := 120) (Nat.le_of_ble_eq_true rfl) (Nat.le_of_ble_eq_true rfl) (dd (pc := 68) rfl) (dd (pc := 69) rfl) (dd (pc := 71) rfl) (dd (pc := 73) rfl) (fun q9 H locs hP hD hS => ?_)
  have hP : va_P D vwCl [(h0, .inr (0, [.int 0, .ref q1, .ref q2, .ref q3, .ref q4, .int 0, .int 0, .int 0, .ref q5, .ref q6, .int 0, .ref q7, .ref q8, .ref q9, .int 0, .null, .null])), (q1, .inl (cA 0, (16, .inl (fun _ => (0 : Int32))))), (q2, .inl (cA 0, (16, .inl (fun _ => (0 : Int32))))), (q3, .inl (cA 0, (16, .inl (fun _ => (0 : Int32))))), (q4, .inl (cA 0, (16, .inl (fun _ => (0 : Int32))))), (q5, .inl (cA 0, (8, .inl (fun _ => (0 : Int32))))), (q6, .inl (cA 0, (8, .inl (fun _ => (0 : Int32))))), (q7, .inl (cA 0, (20, .inl (fun _ => (0 : Int32))))), (q8, .inl (cA 0, (20, .inl (fun _ => (0 : Int32))))), (q9, .inl (cA 0, (20, .inl (fun _ => (0 : Int32)))))] H := hP
  have hD : va_D A [(h0, .inr (0, [.int 0, .ref q1, .ref q2, .ref q3, .ref q4, .int 0, .int 0, .int 0, .ref q5, .ref q6, .int 0, .ref q7, .ref q8, .ref q9, .int 0, .null, .null])), (q1, .inl (cA 0, (16, .inl (fun _ => (0 : Int32))))), (q2, .inl (cA 0, (16, .inl (fun _ => (0 : Int32))))), (q3, .inl (cA 0, (16, .inl (fun _ => (0 : Int32))))), (q4, .inl (cA 0, (16, .inl (fun _ => (0 : Int32))))), (q5, .inl (cA 0, (8, .inl (fun _ => (0 : Int32))))), (q6, .inl (cA 0, (8, .inl (fun _ => (0 : Int32))))), (q7, .inl (cA 0, (20, .inl (fun _ => (0 : Int32))))), (q8, .inl (cA 0, (20, .inl (fun _ => (0 : Int32))))), (q9, .inl (cA 0, (20, .inl (fun _ => (0 : Int32)))))] := hD
  refine ct_arr (o := 0) (k := 15) (N' := 20) (index := 37) (t := 0) (nn := 20) (v := nI 20) (aty := .int) (ty := .int) hx hb hts (by decide) hown hin hK (ct_in 0 rfl) rfl rfl (fun _ h => h) (by decide) (by decide) (by decide) (fun _ => rfl) (by decide) (by decide) (by decide +kernel) rfl (by decide +kernel) (fun _ => rfl) (fun _ => rfl) (Nat.le_of_ble_eq_true rfl) hP hD hS hA hl (cells := 9) (slots := 140) (Nat.le_of_ble_eq_true rfl) (Nat.le_of_ble_eq_true rfl) (dd (pc := 76) rfl) (dd (pc := 77) rfl) (dd (pc := 79) rfl) (dd (pc := 81) rfl) (fun q10 H locs hP hD hS => ?_)
  have hP : va_P D vwCl [(h0, .inr (0, [.int 0, .ref q1, .ref q2, .ref q3, .ref q4, .int 0, .int 0, .int 0, .ref q5, .ref q6, .int 0, .ref q7, .ref q8, .ref q9, .int 0, .ref q10, .null])), (q1, .inl (cA 0, (16, .inl (fun _ => (0 : Int32))))), (q2, .inl (cA 0, (16, .inl (fun _ => (0 : Int32))))), (q3, .inl (cA 0, (16, .inl (fun _ => (0 : Int32))))), (q4, .inl (cA 0, (16, .inl (fun _ => (0 : Int32))))), (q5, .inl (cA 0, (8, .inl (fun _ => (0 : Int32))))), (q6, .inl (cA 0, (8, .inl (fun _ => (0 : Int32))))), (q7, .inl (cA 0, (20, .inl (fun _ => (0 : Int32))))), (q8, .inl (cA 0, (20, .inl (fun _ => (0 : Int32))))), (q9, .inl (cA 0, (20, .inl (fun _ => (0 : Int32))))), (q10, .inl (cA 0, (20, .inl (fun _ => (0 : Int32)))))] H := hP
  have hD : va_D A [(h0, .inr (0, [.int 0, .ref q1, .ref q2, .ref q3, .ref q4, .int 0, .int 0, .int 0, .ref q5, .ref q6, .int 0, .ref q7, .ref q8, .ref q9, .int 0, .ref q10, .null])), (q1, .inl (cA 0, (16, .inl (fun _ => (0 : Int32))))), (q2, .inl (cA 0, (16, .inl (fun _ => (0 : Int32))))), (q3, .inl (cA 0, (16, .inl (fun _ => (0 : Int32))))), (q4, .inl (cA 0, (16, .inl (fun _ => (0 : Int32))))), (q5, .inl (cA 0, (8, .inl (fun _ => (0 : Int32))))), (q6, .inl (cA 0, (8, .inl (fun _ => (0 : Int32))))), (q7, .inl (cA 0, (20, .inl (fun _ => (0 : Int32))))), (q8, .inl (cA 0, (20, .inl (fun _ => (0 : Int32))))), (q9, .inl (cA 0, (20, .inl (fun _ => (0 : Int32))))), (q10, .inl (cA 0, (20, .inl (fun _ => (0 : Int32)))))] := hD
  refine ct_arr (o := 0) (k := 16) (N' := 20) (index := 40) (t := 0) (nn := 20) (v := nI 20) (aty := .int) (ty := .int) hx hb hts (by decide) hown hin hK (ct_in 0 rfl) rfl rfl (fun _ h => h) (by decide) (by decide) (by decide) (fun _ => rfl) (by decide) (by decide) (by decide +kernel) rfl (by decide +kernel) (fun _ => rfl) (fun _ => rfl) (Nat.le_of_ble_eq_true rfl) hP hD hS hA hl (cells := 10) (slots := 160) (Nat.le_of_ble_eq_true rfl) (Nat.le_of_ble_eq_true rfl) (dd (pc := 84) rfl) (dd (pc := 85) rfl) (dd (pc := 87) rfl) (dd (pc := 89) rfl) (fun q11 H locs hP hD hS => ?_)
  have hP : va_P D vwCl [(h0, .inr (0, [.int 0, .ref q1, .ref q2, .ref q3, .ref q4, .int 0, .int 0, .int 0, .ref q5, .ref q6, .int 0, .ref q7, .ref q8, .ref q9, .int 0, .ref q10, .ref q11])), (q1, .inl (cA 0, (16, .inl (fun _ => (0 : Int32))))), (q2, .inl (cA 0, (16, .inl (fun _ => (0 : Int32))))), (q3, .inl (cA 0, (16, .inl (fun _ => (0 : Int32))))), (q4, .inl (cA 0, (16, .inl (fun _ => (0 : Int32))))), (q5, .inl (cA 0, (8, .inl (fun _ => (0 : Int32))))), (q6, .inl (cA 0, (8, .inl (fun _ => (0 : Int32))))), (q7, .inl (cA 0, (20, .inl (fun _ => (0 : Int32))))), (q8, .inl (cA 0, (20, .inl (fun _ => (0 : Int32))))), (q9, .inl (cA 0, (20, .inl (fun _ => (0 : Int32))))), (q10, .inl (cA 0, (20, .inl (fun _ => (0 : Int32))))), (q11, .inl (cA 0, (20, .inl (fun _ => (0 : Int32)))))] H := hP
  have hD : va_D A [(h0, .inr (0, [.int 0, .ref q1, .ref q2, .ref q3, .ref q4, .int 0, .int 0, .int 0, .ref q5, .ref q6, .int 0, .ref q7, .ref q8, .ref q9, .int 0, .ref q10, .ref q11])), (q1, .inl (cA 0, (16, .inl (fun _ => (0 : Int32))))), (q2, .inl (cA 0, (16, .inl (fun _ => (0 : Int32))))), (q3, .inl (cA 0, (16, .inl (fun _ => (0 : Int32))))), (q4, .inl (cA 0, (16, .inl (fun _ => (0 : Int32))))), (q5, .inl (cA 0, (8, .inl (fun _ => (0 : Int32))))), (q6, .inl (cA 0, (8, .inl (fun _ => (0 : Int32))))), (q7, .inl (cA 0, (20, .inl (fun _ => (0 : Int32))))), (q8, .inl (cA 0, (20, .inl (fun _ => (0 : Int32))))), (q9, .inl (cA 0, (20, .inl (fun _ => (0 : Int32))))), (q10, .inl (cA 0, (20, .inl (fun _ => (0 : Int32))))), (q11, .inl (cA 0, (20, .inl (fun _ => (0 : Int32)))))] := hD
  refine lv_aload_n hx hb (dd (pc := 92) rfl) rfl (lv_at hl 0 rfl) ?_
  refine lv_iconst (v := 1) hx hb (dd (pc := 93) rfl) (by decide) ?_
  refine va_put (D := D) (ci := 0) (v := .int 1) (C := RX0) (T := TX0) (N := 17) hx hb hts (in_lay (o := 0) (by decide)) tyX0 tyX0_ok nmX0 hown hK hP hD hS 0 rfl rfl 0 (by decide) (hts _ (in_fl (q := (0, 43, 0)) (by decide +kernel))) (fun _ h9 => h9) rfl (ty := .int) (by decide +kernel) rfl rfl (Nat.le_of_ble_eq_true rfl) (dd (pc := 94) rfl) (fun H locs hP hD hS => ?_)
  have hP : va_P D vwCl [(h0, .inr (0, [.int 1, .ref q1, .ref q2, .ref q3, .ref q4, .int 0, .int 0, .int 0, .ref q5, .ref q6, .int 0, .ref q7, .ref q8, .ref q9, .int 0, .ref q10, .ref q11])), (q1, .inl (cA 0, (16, .inl (fun _ => (0 : Int32))))), (q2, .inl (cA 0, (16, .inl (fun _ => (0 : Int32))))), (q3, .inl (cA 0, (16, .inl (fun _ => (0 : Int32))))), (q4, .inl (cA 0, (16, .inl (fun _ => (0 : Int32))))), (q5, .inl (cA 0, (8, .inl (fun _ => (0 : Int32))))), (q6, .inl (cA 0, (8, .inl (fun _ => (0 : Int32))))), (q7, .inl (cA 0, (20, .inl (fun _ => (0 : Int32))))), (q8, .inl (cA 0, (20, .inl (fun _ => (0 : Int32))))), (q9, .inl (cA 0, (20, .inl (fun _ => (0 : Int32))))), (q10, .inl (cA 0, (20, .inl (fun _ => (0 : Int32))))), (q11, .inl (cA 0, (20, .inl (fun _ => (0 : Int32)))))] H := hP
  have hD : va_D A [(h0, .inr (0, [.int 1, .ref q1, .ref q2, .ref q3, .ref q4, .int 0, .int 0, .int 0, .ref q5, .ref q6, .int 0, .ref q7, .ref q8, .ref q9, .int 0, .ref q10, .ref q11])), (q1, .inl (cA 0, (16, .inl (fun _ => (0 : Int32))))), (q2, .inl (cA 0, (16, .inl (fun _ => (0 : Int32))))), (q3, .inl (cA 0, (16, .inl (fun _ => (0 : Int32))))), (q4, .inl (cA 0, (16, .inl (fun _ => (0 : Int32))))), (q5, .inl (cA 0, (8, .inl (fun _ => (0 : Int32))))), (q6, .inl (cA 0, (8, .inl (fun _ => (0 : Int32))))), (q7, .inl (cA 0, (20, .inl (fun _ => (0 : Int32))))), (q8, .inl (cA 0, (20, .inl (fun _ => (0 : Int32))))), (q9, .inl (cA 0, (20, .inl (fun _ => (0 : Int32))))), (q10, .inl (cA 0, (20, .inl (fun _ => (0 : Int32))))), (q11, .inl (cA 0, (20, .inl (fun _ => (0 : Int32)))))] := hD
  refine lv_aload_n hx hb (dd (pc := 97) rfl) rfl (lv_at hl 0 rfl) ?_
  refine va_get (D := D) (ci := 0) (C := RX0) (T := TX0) (N := 17) hx hb hts (in_lay (o := 0) (by decide)) hown hK hP 0 rfl rfl 1 (by decide) (hts _ (in_fl (q := (0, 9, 1)) (by decide +kernel))) (fun _ h9 => h9) (v := .ref q1) rfl (dd (pc := 98) rfl) ?_
  refine lv_iconst (v := 0) hx hb (dd (pc := 101) rfl) (by decide) ?_
  refine lv_iconst (v := 1) hx hb (dd (pc := 102) rfl) (by decide) ?_
  refine va_iast (D := D) hx hb hK hP hD hS 1 0 rfl rfl (by unfold vp_in; decide) (dd (pc := 103) rfl) (fun H locs hP hD hS => ?_)
  have hP : va_P D vwCl [(h0, .inr (0, [.int 1, .ref q1, .ref q2, .ref q3, .ref q4, .int 0, .int 0, .int 0, .ref q5, .ref q6, .int 0, .ref q7, .ref q8, .ref q9, .int 0, .ref q10, .ref q11])), (q1, .inl (cA 0, (16, .inl (upd (fun _ => (0 : Int32)) 0 1)))), (q2, .inl (cA 0, (16, .inl (fun _ => (0 : Int32))))), (q3, .inl (cA 0, (16, .inl (fun _ => (0 : Int32))))), (q4, .inl (cA 0, (16, .inl (fun _ => (0 : Int32))))), (q5, .inl (cA 0, (8, .inl (fun _ => (0 : Int32))))), (q6, .inl (cA 0, (8, .inl (fun _ => (0 : Int32))))), (q7, .inl (cA 0, (20, .inl (fun _ => (0 : Int32))))), (q8, .inl (cA 0, (20, .inl (fun _ => (0 : Int32))))), (q9, .inl (cA 0, (20, .inl (fun _ => (0 : Int32))))), (q10, .inl (cA 0, (20, .inl (fun _ => (0 : Int32))))), (q11, .inl (cA 0, (20, .inl (fun _ => (0 : Int32)))))] H := hP
  have hD : va_D A [(h0, .inr (0, [.int 1, .ref q1, .ref q2, .ref q3, .ref q4, .int 0, .int 0, .int 0, .ref q5, .ref q6, .int 0, .ref q7, .ref q8, .ref q9, .int 0, .ref q10, .ref q11])), (q1, .inl (cA 0, (16, .inl (upd (fun _ => (0 : Int32)) 0 1)))), (q2, .inl (cA 0, (16, .inl (fun _ => (0 : Int32))))), (q3, .inl (cA 0, (16, .inl (fun _ => (0 : Int32))))), (q4, .inl (cA 0, (16, .inl (fun _ => (0 : Int32))))), (q5, .inl (cA 0, (8, .inl (fun _ => (0 : Int32))))), (q6, .inl (cA 0, (8, .inl (fun _ => (0 : Int32))))), (q7, .inl (cA 0, (20, .inl (fun _ => (0 : Int32))))), (q8, .inl (cA 0, (20, .inl (fun _ => (0 : Int32))))), (q9, .inl (cA 0, (20, .inl (fun _ => (0 : Int32))))), (q10, .inl (cA 0, (20, .inl (fun _ => (0 : Int32))))), (q11, .inl (cA 0, (20, .inl (fun _ => (0 : Int32)))))] := hD
  exact W.vret hx hb hr (fun t ht hW => ⟨⟨(), rfl, trivial, q1, q2, q3, q4, q5, q6, q7, q8, q9, q10, q11, by rw [ht]; exact hP, hD⟩, hS.F ht⟩) hS.2.2 (dd (pc := 104) rfl)
abbrev stM (h0 : Nat) : va_W := [(h0, .inr (1, [.int 0, .null, .null, .null, .null, .null, .null, .null, .int 0, .null, .null, .int 0, .null, .null, .null, .null, .int 0]))]
def ctOutM (D : va_G) (cA : Nat → ClassId) (sz h0 : Nat) (_ : Unit) (t : State) : Prop := ∃ q1 q2 q3 q4 q5 q6 q7 q8 q9 q10 q11 q12 q13 : Nat, va_P D vwCl (wldM cA h0 q1 q2 q3 q4 q5 q6 q7 q8 q9 q10 q11 q12 q13) t.heap ∧ va_D (va_A (stM h0) sz) (wldM cA h0 q1 q2 q3 q4 q5 q6 q7 q8 q9 q10 q11 q12 q13)
set_option maxHeartbeats 4000000 in
set_option maxRecDepth 100000 in
theorem ct_M (l : Launch) (D : va_G) (cA : Nat → ClassId) (h0 sz : Nat) : Met l yX1_init (.code yX1_init cX1_init 1 none :: TT) ({ frames := 1, cells := 13, slots := 203, locals := 20 }) (va_Pc [.ref h0] (fun U => U.heap.size = sz ∧ va_P D vwCl (stM h0) U.heap ∧ va_K D vwCl (tyA cA) U ∧ va_D (fun _ => True) (stM h0))) (va_Qv (fun _ : Unit => True) (ctOutM D cA sz h0) (va_A (stM h0) sz)) 13 203 (va_A (stM h0) sz) := by
  refine Met.ofW (cc := cX1_init) (maxL := 1) (ret := none) (by decide +kernel) rfl ?_
  intro p e s m args below meth c s₁ B hml hv
  obtain ⟨rfl, hsz, hP, hK, hD0⟩ := hv
  have hx := B.exec
  have hb := B.bytes
  have hr := B.returns
  have hts : ∀ w ∈ TT, w.before _ s = true := fun w hw => atoms_spec (ws := Cond.code yX1_init cX1_init 1 none :: TT) B.pre w (List.mem_cons_of_mem _ hw)
  have hown : s.vm.findClass RX1 = some m.cls := findClass_of_methodNamed B.named
  have hin : meth.name = "<init>" := (name_of_methodNamed B.named B.method).1
  subst hsz
  have hD := hD0.self (sz := s.heap.size)
  unfold ctOutM
  generalize hAe : va_A (stM h0) s.heap.size = A at hD ⊢
  have hA : ∀ q : Nat, s.heap.size ≤ q → A q := fun q h => by rw [← hAe]; exact Or.inr h
  have hS : va_S A s.heap s.heap [] := va_S.rf
  have hl := lv_entry ([.ref h0]) (n := 1) (Nat.le_of_ble_eq_true rfl)
  rw [lg_entry_eq]
  generalize (lg_sl ([.ref h0]) ++ List.replicate (1 - (lg_sl ([.ref h0])).length) Slot.unset).toArray = ls at hl ⊢
  have hl : lv_has ls 1 [(0, .ref h0)] := hl
  have dd : ∀ {pc nx ax : Nat} {ins : Instr}, lkp (pg 50) pc = some (ins, nx, ax) → decode cX1_init pc = .ok (ins, ln ins) := fun h => (row_ok (i := 50) (by decide) h).1
  refine lv_aload_n hx hb (dd (pc := 0) rfl) rfl (lv_at hl 0 rfl) ?_
  refine W.objInit hx hb hown (hts _ (ct_in 3 rfl)) (hts _ (ct_in 4 rfl)) (hts _ (ct_in 5 rfl)) rfl (by rw [hml]; exact hl.1) rfl (dd (pc := 1) rfl) (Nat.le_of_ble_eq_true rfl) (Nat.le_of_ble_eq_true rfl) ?_
  refine W.eq (g2 := F0 m 4 ls []) rfl ?_
  refine lv_aload_n hx hb (dd (pc := 4) rfl) rfl (lv_at hl 0 rfl) ?_
  refine lv_iconst (v := 1) hx hb (dd (pc := 5) rfl) (by decide) ?_
  refine va_put (D := D) (ci := 1) (v := .int 1) (C := RX1) (T := TX1) (N := 17) hx hb hts (in_lay (o := 1) (by decide)) tyX1 tyX1_ok nmX1 hown hK hP hD hS 0 rfl rfl 0 (by decide) (hts _ (in_fl (q := (1, 7, 0)) (by decide +kernel))) (fun _ h9 => h9) rfl (ty := .int) (by decide +kernel) rfl rfl (Nat.le_of_ble_eq_true rfl) (dd (pc := 6) rfl) (fun H locs hP hD hS => ?_)
  have hP : va_P D vwCl [(h0, .inr (1, [.int 1, .null, .null, .null, .null, .null, .null, .null, .int 0, .null, .null, .int 0, .null, .null, .null, .null, .int 0]))] H := hP
  have hD : va_D A [(h0, .inr (1, [.int 1, .null, .null, .null, .null, .null, .null, .null, .int 0, .null, .null, .int 0, .null, .null, .null, .null, .int 0]))] := hD
  refine ct_arr (o := 1) (k := 1) (N' := 16) (index := 13) (t := 0) (nn := 16) (v := nI 16) (aty := .int) (ty := .int) hx hb hts (by decide) hown hin hK (ct_in 0 rfl) rfl rfl (fun _ h => h) (by decide) (by decide) (by decide) (fun _ => rfl) (by decide) (by decide) (by decide +kernel) rfl (by decide +kernel) (fun _ => rfl) (fun _ => rfl) (Nat.le_of_ble_eq_true rfl) hP hD hS hA hl (cells := 0) (slots := 0) (Nat.le_of_ble_eq_true rfl) (Nat.le_of_ble_eq_true rfl) (dd (pc := 9) rfl) (dd (pc := 10) rfl) (dd (pc := 12) rfl) (dd (pc := 14) rfl) (fun q1 H locs hP hD hS => ?_)
  have hP : va_P D vwCl [(h0, .inr (1, [.int 1, .ref q1, .null, .null, .null, .null, .null, .null, .int 0, .null, .null, .int 0, .null, .null, .null, .null, .int 0])), (q1, .inl (cA 0, (16, .inl (fun _ => (0 : Int32)))))] H := hP
  have hD : va_D A [(h0, .inr (1, [.int 1, .ref q1, .null, .null, .null, .null, .null, .null, .int 0, .null, .null, .int 0, .null, .null, .null, .null, .int 0])), (q1, .inl (cA 0, (16, .inl (fun _ => (0 : Int32)))))] := hD
  refine ct_arr (o := 1) (k := 2) (N' := 16) (index := 17) (t := 0) (nn := 16) (v := nI 16) (aty := .int) (ty := .int) hx hb hts (by decide) hown hin hK (ct_in 0 rfl) rfl rfl (fun _ h => h) (by decide) (by decide) (by decide) (fun _ => rfl) (by decide) (by decide) (by decide +kernel) rfl (by decide +kernel) (fun _ => rfl) (fun _ => rfl) (Nat.le_of_ble_eq_true rfl) hP hD hS hA hl (cells := 1) (slots := 16) (Nat.le_of_ble_eq_true rfl) (Nat.le_of_ble_eq_true rfl) (dd (pc := 17) rfl) (dd (pc := 18) rfl) (dd (pc := 20) rfl) (dd (pc := 22) rfl) (fun q2 H locs hP hD hS => ?_)
  have hP : va_P D vwCl [(h0, .inr (1, [.int 1, .ref q1, .ref q2, .null, .null, .null, .null, .null, .int 0, .null, .null, .int 0, .null, .null, .null, .null, .int 0])), (q1, .inl (cA 0, (16, .inl (fun _ => (0 : Int32))))), (q2, .inl (cA 0, (16, .inl (fun _ => (0 : Int32)))))] H := hP
  have hD : va_D A [(h0, .inr (1, [.int 1, .ref q1, .ref q2, .null, .null, .null, .null, .null, .int 0, .null, .null, .int 0, .null, .null, .null, .null, .int 0])), (q1, .inl (cA 0, (16, .inl (fun _ => (0 : Int32))))), (q2, .inl (cA 0, (16, .inl (fun _ => (0 : Int32)))))] := hD
  refine ct_arr (o := 1) (k := 3) (N' := 16) (index := 20) (t := 0) (nn := 16) (v := nI 16) (aty := .int) (ty := .int) hx hb hts (by decide) hown hin hK (ct_in 0 rfl) rfl rfl (fun _ h => h) (by decide) (by decide) (by decide) (fun _ => rfl) (by decide) (by decide) (by decide +kernel) rfl (by decide +kernel) (fun _ => rfl) (fun _ => rfl) (Nat.le_of_ble_eq_true rfl) hP hD hS hA hl (cells := 2) (slots := 32) (Nat.le_of_ble_eq_true rfl) (Nat.le_of_ble_eq_true rfl) (dd (pc := 25) rfl) (dd (pc := 26) rfl) (dd (pc := 28) rfl) (dd (pc := 30) rfl) (fun q3 H locs hP hD hS => ?_)
  have hP : va_P D vwCl [(h0, .inr (1, [.int 1, .ref q1, .ref q2, .ref q3, .null, .null, .null, .null, .int 0, .null, .null, .int 0, .null, .null, .null, .null, .int 0])), (q1, .inl (cA 0, (16, .inl (fun _ => (0 : Int32))))), (q2, .inl (cA 0, (16, .inl (fun _ => (0 : Int32))))), (q3, .inl (cA 0, (16, .inl (fun _ => (0 : Int32)))))] H := hP
  have hD : va_D A [(h0, .inr (1, [.int 1, .ref q1, .ref q2, .ref q3, .null, .null, .null, .null, .int 0, .null, .null, .int 0, .null, .null, .null, .null, .int 0])), (q1, .inl (cA 0, (16, .inl (fun _ => (0 : Int32))))), (q2, .inl (cA 0, (16, .inl (fun _ => (0 : Int32))))), (q3, .inl (cA 0, (16, .inl (fun _ => (0 : Int32)))))] := hD
  refine ct_arr (o := 1) (k := 4) (N' := 16) (index := 23) (t := 0) (nn := 16) (v := nI 16) (aty := .int) (ty := .int) hx hb hts (by decide) hown hin hK (ct_in 0 rfl) rfl rfl (fun _ h => h) (by decide) (by decide) (by decide) (fun _ => rfl) (by decide) (by decide) (by decide +kernel) rfl (by decide +kernel) (fun _ => rfl) (fun _ => rfl) (Nat.le_of_ble_eq_true rfl) hP hD hS hA hl (cells := 3) (slots := 48) (Nat.le_of_ble_eq_true rfl) (Nat.le_of_ble_eq_true rfl) (dd (pc := 33) rfl) (dd (pc := 34) rfl) (dd (pc := 36) rfl) (dd (pc := 38) rfl) (fun q4 H locs hP hD hS => ?_)
  have hP : va_P D vwCl [(h0, .inr (1, [.int 1, .ref q1, .ref q2, .ref q3, .ref q4, .null, .null, .null, .int 0, .null, .null, .int 0, .null, .null, .null, .null, .int 0])), (q1, .inl (cA 0, (16, .inl (fun _ => (0 : Int32))))), (q2, .inl (cA 0, (16, .inl (fun _ => (0 : Int32))))), (q3, .inl (cA 0, (16, .inl (fun _ => (0 : Int32))))), (q4, .inl (cA 0, (16, .inl (fun _ => (0 : Int32)))))] H := hP
  have hD : va_D A [(h0, .inr (1, [.int 1, .ref q1, .ref q2, .ref q3, .ref q4, .null, .null, .null, .int 0, .null, .null, .int 0, .null, .null, .null, .null, .int 0])), (q1, .inl (cA 0, (16, .inl (fun _ => (0 : Int32))))), (q2, .inl (cA 0, (16, .inl (fun _ => (0 : Int32))))), (q3, .inl (cA 0, (16, .inl (fun _ => (0 : Int32))))), (q4, .inl (cA 0, (16, .inl (fun _ => (0 : Int32)))))] := hD
  refine ct_arr (o := 1) (k := 5) (N' := 16) (index := 26) (t := 1) (nn := 16) (v := nI 16) (aty := .boolean) (ty := .boolean) hx hb hts (by decide) hown hin hK (ct_in 1 rfl) rfl rfl (fun _ h => h) (by decide) (by decide) (by decide) (fun _ => rfl) (by decide) (by decide) (by decide +kernel) rfl (by decide +kernel) (fun _ => rfl) (fun _ => rfl) (Nat.le_of_ble_eq_true rfl) hP hD hS hA hl (cells := 4) (slots := 64) (Nat.le_of_ble_eq_true rfl) (Nat.le_of_ble_eq_true rfl) (dd (pc := 41) rfl) (dd (pc := 42) rfl) (dd (pc := 44) rfl) (dd (pc := 46) rfl) (fun q5 H locs hP hD hS => ?_)
  have hP : va_P D vwCl [(h0, .inr (1, [.int 1, .ref q1, .ref q2, .ref q3, .ref q4, .ref q5, .null, .null, .int 0, .null, .null, .int 0, .null, .null, .null, .null, .int 0])), (q1, .inl (cA 0, (16, .inl (fun _ => (0 : Int32))))), (q2, .inl (cA 0, (16, .inl (fun _ => (0 : Int32))))), (q3, .inl (cA 0, (16, .inl (fun _ => (0 : Int32))))), (q4, .inl (cA 0, (16, .inl (fun _ => (0 : Int32))))), (q5, .inl (cA 1, (16, .inl (fun _ => (0 : Int32)))))] H := hP
  have hD : va_D A [(h0, .inr (1, [.int 1, .ref q1, .ref q2, .ref q3, .ref q4, .ref q5, .null, .null, .int 0, .null, .null, .int 0, .null, .null, .null, .null, .int 0])), (q1, .inl (cA 0, (16, .inl (fun _ => (0 : Int32))))), (q2, .inl (cA 0, (16, .inl (fun _ => (0 : Int32))))), (q3, .inl (cA 0, (16, .inl (fun _ => (0 : Int32))))), (q4, .inl (cA 0, (16, .inl (fun _ => (0 : Int32))))), (q5, .inl (cA 1, (16, .inl (fun _ => (0 : Int32)))))] := hD
  refine ct_arr (o := 1) (k := 6) (N' := 16) (index := 30) (t := 1) (nn := 16) (v := nI 16) (aty := .boolean) (ty := .boolean) hx hb hts (by decide) hown hin hK (ct_in 1 rfl) rfl rfl (fun _ h => h) (by decide) (by decide) (by decide) (fun _ => rfl) (by decide) (by decide) (by decide +kernel) rfl (by decide +kernel) (fun _ => rfl) (fun _ => rfl) (Nat.le_of_ble_eq_true rfl) hP hD hS hA hl (cells := 5) (slots := 80) (Nat.le_of_ble_eq_true rfl) (Nat.le_of_ble_eq_true rfl) (dd (pc := 49) rfl) (dd (pc := 50) rfl) (dd (pc := 52) rfl) (dd (pc := 54) rfl) (fun q6 H locs hP hD hS => ?_)
  have hP : va_P D vwCl [(h0, .inr (1, [.int 1, .ref q1, .ref q2, .ref q3, .ref q4, .ref q5, .ref q6, .null, .int 0, .null, .null, .int 0, .null, .null, .null, .null, .int 0])), (q1, .inl (cA 0, (16, .inl (fun _ => (0 : Int32))))), (q2, .inl (cA 0, (16, .inl (fun _ => (0 : Int32))))), (q3, .inl (cA 0, (16, .inl (fun _ => (0 : Int32))))), (q4, .inl (cA 0, (16, .inl (fun _ => (0 : Int32))))), (q5, .inl (cA 1, (16, .inl (fun _ => (0 : Int32))))), (q6, .inl (cA 1, (16, .inl (fun _ => (0 : Int32)))))] H := hP
  have hD : va_D A [(h0, .inr (1, [.int 1, .ref q1, .ref q2, .ref q3, .ref q4, .ref q5, .ref q6, .null, .int 0, .null, .null, .int 0, .null, .null, .null, .null, .int 0])), (q1, .inl (cA 0, (16, .inl (fun _ => (0 : Int32))))), (q2, .inl (cA 0, (16, .inl (fun _ => (0 : Int32))))), (q3, .inl (cA 0, (16, .inl (fun _ => (0 : Int32))))), (q4, .inl (cA 0, (16, .inl (fun _ => (0 : Int32))))), (q5, .inl (cA 1, (16, .inl (fun _ => (0 : Int32))))), (q6, .inl (cA 1, (16, .inl (fun _ => (0 : Int32)))))] := hD
  refine ct_arr (o := 1) (k := 7) (N' := 11) (index := 33) (t := 0) (nn := 11) (v := nI 11) (aty := .int) (ty := .int) hx hb hts (by decide) hown hin hK (ct_in 0 rfl) rfl rfl (fun _ h => h) (by decide) (by decide) (by decide) (fun _ => rfl) (by decide) (by decide) (by decide +kernel) rfl (by decide +kernel) (fun _ => rfl) (fun _ => rfl) (Nat.le_of_ble_eq_true rfl) hP hD hS hA hl (cells := 6) (slots := 96) (Nat.le_of_ble_eq_true rfl) (Nat.le_of_ble_eq_true rfl) (dd (pc := 57) rfl) (dd (pc := 58) rfl) (dd (pc := 60) rfl) (dd (pc := 62) rfl) (fun q7 H locs hP hD hS => ?_)
  have hP : va_P D vwCl [(h0, .inr (1, [.int 1, .ref q1, .ref q2, .ref q3, .ref q4, .ref q5, .ref q6, .ref q7, .int 0, .null, .null, .int 0, .null, .null, .null, .null, .int 0])), (q1, .inl (cA 0, (16, .inl (fun _ => (0 : Int32))))), (q2, .inl (cA 0, (16, .inl (fun _ => (0 : Int32))))), (q3, .inl (cA 0, (16, .inl (fun _ => (0 : Int32))))), (q4, .inl (cA 0, (16, .inl (fun _ => (0 : Int32))))), (q5, .inl (cA 1, (16, .inl (fun _ => (0 : Int32))))), (q6, .inl (cA 1, (16, .inl (fun _ => (0 : Int32))))), (q7, .inl (cA 0, (11, .inl (fun _ => (0 : Int32)))))] H := hP
  have hD : va_D A [(h0, .inr (1, [.int 1, .ref q1, .ref q2, .ref q3, .ref q4, .ref q5, .ref q6, .ref q7, .int 0, .null, .null, .int 0, .null, .null, .null, .null, .int 0])), (q1, .inl (cA 0, (16, .inl (fun _ => (0 : Int32))))), (q2, .inl (cA 0, (16, .inl (fun _ => (0 : Int32))))), (q3, .inl (cA 0, (16, .inl (fun _ => (0 : Int32))))), (q4, .inl (cA 0, (16, .inl (fun _ => (0 : Int32))))), (q5, .inl (cA 1, (16, .inl (fun _ => (0 : Int32))))), (q6, .inl (cA 1, (16, .inl (fun _ => (0 : Int32))))), (q7, .inl (cA 0, (11, .inl (fun _ => (0 : Int32)))))] := hD
  refine ct_arr (o := 1) (k := 9) (N' := 8) (index := 36) (t := 0) (nn := 8) (v := nI 8) (aty := .int) (ty := .int) hx hb hts (by decide) hown hin hK (ct_in 0 rfl) rfl rfl (fun _ h => h) (by decide) (by decide) (by decide) (fun _ => rfl) (by decide) (by decide) (by decide +kernel) rfl (by decide +kernel) (fun _ => rfl) (fun _ => rfl) (Nat.le_of_ble_eq_true rfl) hP hD hS hA hl (cells := 7) (slots := 107) (Nat.le_of_ble_eq_true rfl) (Nat.le_of_ble_eq_true rfl) (dd (pc := 65) rfl) (dd (pc := 66) rfl) (dd (pc := 68) rfl) (dd (pc := 70) rfl) (fun q8 H locs hP hD hS => ?_)
  have hP : va_P D vwCl [(h0, .inr (1, [.int 1, .ref q1, .ref q2, .ref q3, .ref q4, .ref q5, .ref q6, .ref q7, .int 0, .ref q8, .null, .int 0, .null, .null, .null, .null, .int 0])), (q1, .inl (cA 0, (16, .inl (fun _ => (0 : Int32))))), (q2, .inl (cA 0, (16, .inl (fun _ => (0 : Int32))))), (q3, .inl (cA 0, (16, .inl (fun _ => (0 : Int32))))), (q4, .inl (cA 0, (16, .inl (fun _ => (0 : Int32))))), (q5, .inl (cA 1, (16, .inl (fun _ => (0 : Int32))))), (q6, .inl (cA 1, (16, .inl (fun _ => (0 : Int32))))), (q7, .inl (cA 0, (11, .inl (fun _ => (0 : Int32))))), (q8, .inl (cA 0, (8, .inl (fun _ => (0 : Int32)))))] H := hP
  have hD : va_D A [(h0, .inr (1, [.int 1, .ref q1, .ref q2, .ref q3, .ref q4, .ref q5, .ref q6, .ref q7, .int 0, .ref q8, .null, .int 0, .null, .null, .null, .null, .int 0])), (q1, .inl (cA 0, (16, .inl (fun _ => (0 : Int32))))), (q2, .inl (cA 0, (16, .inl (fun _ => (0 : Int32))))), (q3, .inl (cA 0, (16, .inl (fun _ => (0 : Int32))))), (q4, .inl (cA 0, (16, .inl (fun _ => (0 : Int32))))), (q5, .inl (cA 1, (16, .inl (fun _ => (0 : Int32))))), (q6, .inl (cA 1, (16, .inl (fun _ => (0 : Int32))))), (q7, .inl (cA 0, (11, .inl (fun _ => (0 : Int32))))), (q8, .inl (cA 0, (8, .inl (fun _ => (0 : Int32)))))] := hD
  refine ct_arr (o := 1) (k := 10) (N' := 8) (index := 39) (t := 0) (nn := 8) (v := nI 8) (aty := .int) (ty := .int) hx hb hts (by decide) hown hin hK (ct_in 0 rfl) rfl rfl (fun _ h => h) (by decide) (by decide) (by decide) (fun _ => rfl) (by decide) (by decide) (by decide +kernel) rfl (by decide +kernel) (fun _ => rfl) (fun _ => rfl) (Nat.le_of_ble_eq_true rfl) hP hD hS hA hl (cells := 8) (slots := 115) (Nat.le_of_ble_eq_true rfl) (Nat.le_of_ble_eq_true rfl) (dd (pc := 73) rfl) (dd (pc := 74) rfl) (dd (pc := 76) rfl) (dd (pc := 78) rfl) (fun q9 H locs hP hD hS => ?_)
  have hP : va_P D vwCl [(h0, .inr (1, [.int 1, .ref q1, .ref q2, .ref q3, .ref q4, .ref q5, .ref q6, .ref q7, .int 0, .ref q8, .ref q9, .int 0, .null, .null, .null, .null, .int 0])), (q1, .inl (cA 0, (16, .inl (fun _ => (0 : Int32))))), (q2, .inl (cA 0, (16, .inl (fun _ => (0 : Int32))))), (q3, .inl (cA 0, (16, .inl (fun _ => (0 : Int32))))), (q4, .inl (cA 0, (16, .inl (fun _ => (0 : Int32))))), (q5, .inl (cA 1, (16, .inl (fun _ => (0 : Int32))))), (q6, .inl (cA 1, (16, .inl (fun _ => (0 : Int32))))), (q7, .inl (cA 0, (11, .inl (fun _ => (0 : Int32))))), (q8, .inl (cA 0, (8, .inl (fun _ => (0 : Int32))))), (q9, .inl (cA 0, (8, .inl (fun _ => (0 : Int32)))))] H := hP
  have hD : va_D A [(h0, .inr (1, [.int 1, .ref q1, .ref q2, .ref q3, .ref q4, .ref q5, .ref q6, .ref q7, .int 0, .ref q8, .ref q9, .int 0, .null, .null, .null, .null, .int 0])), (q1, .inl (cA 0, (16, .inl (fun _ => (0 : Int32))))), (q2, .inl (cA 0, (16, .inl (fun _ => (0 : Int32))))), (q3, .inl (cA 0, (16, .inl (fun _ => (0 : Int32))))), (q4, .inl (cA 0, (16, .inl (fun _ => (0 : Int32))))), (q5, .inl (cA 1, (16, .inl (fun _ => (0 : Int32))))), (q6, .inl (cA 1, (16, .inl (fun _ => (0 : Int32))))), (q7, .inl (cA 0, (11, .inl (fun _ => (0 : Int32))))), (q8, .inl (cA 0, (8, .inl (fun _ => (0 : Int32))))), (q9, .inl (cA 0, (8, .inl (fun _ => (0 : Int32)))))] := hD
  refine ct_arr (o := 1) (k := 12) (N' := 20) (index := 42) (t := 0) (nn := 20) (v := nI 20) (aty := .int) (ty := .int) hx hb hts (by decide) hown hin hK (ct_in 0 rfl) rfl rfl (fun _ h => h) (by decide) (by decide) (by decide) (fun _ => rfl) (by decide) (by decide) (by decide +kernel) rfl (by decide +kernel) (fun _ => rfl) (fun _ => rfl) (Nat.le_of_ble_eq_true rfl) hP hD hS hA hl (cells := 9) (slots := 123) (Nat.le_of_ble_eq_true rfl) (Nat.le_of_ble_eq_true rfl) (dd (pc := 81) rfl) (dd (pc := 82) rfl) (dd (pc := 84) rfl) (dd (pc := 86) rfl) (fun q10 H locs hP hD hS => ?_)
  have hP : va_P D vwCl [(h0, .inr (1, [.int 1, .ref q1, .ref q2, .ref q3, .ref q4, .ref q5, .ref q6, .ref q7, .int 0, .ref q8, .ref q9, .int 0, .ref q10, .null, .null, .null, .int 0])), (q1, .inl (cA 0, (16, .inl (fun _ => (0 : Int32))))), (q2, .inl (cA 0, (16, .inl (fun _ => (0 : Int32))))), (q3, .inl (cA 0, (16, .inl (fun _ => (0 : Int32))))), (q4, .inl (cA 0, (16, .inl (fun _ => (0 : Int32))))), (q5, .inl (cA 1, (16, .inl (fun _ => (0 : Int32))))), (q6, .inl (cA 1, (16, .inl (fun _ => (0 : Int32))))), (q7, .inl (cA 0, (11, .inl (fun _ => (0 : Int32))))), (q8, .inl (cA 0, (8, .inl (fun _ => (0 : Int32))))), (q9, .inl (cA 0, (8, .inl (fun _ => (0 : Int32))))), (q10, .inl (cA 0, (20, .inl (fun _ => (0 : Int32)))))] H := hP
  have hD : va_D A [(h0, .inr (1, [.int 1, .ref q1, .ref q2, .ref q3, .ref q4, .ref q5, .ref q6, .ref q7, .int 0, .ref q8, .ref q9, .int 0, .ref q10, .null, .null, .null, .int 0])), (q1, .inl (cA 0, (16, .inl (fun _ => (0 : Int32))))), (q2, .inl (cA 0, (16, .inl (fun _ => (0 : Int32))))), (q3, .inl (cA 0, (16, .inl (fun _ => (0 : Int32))))), (q4, .inl (cA 0, (16, .inl (fun _ => (0 : Int32))))), (q5, .inl (cA 1, (16, .inl (fun _ => (0 : Int32))))), (q6, .inl (cA 1, (16, .inl (fun _ => (0 : Int32))))), (q7, .inl (cA 0, (11, .inl (fun _ => (0 : Int32))))), (q8, .inl (cA 0, (8, .inl (fun _ => (0 : Int32))))), (q9, .inl (cA 0, (8, .inl (fun _ => (0 : Int32))))), (q10, .inl (cA 0, (20, .inl (fun _ => (0 : Int32)))))] := hD
  refine ct_arr (o := 1) (k := 13) (N' := 20) (index := 45) (t := 0) (nn := 20) (v := nI 20) (aty := .int) (ty := .int) hx hb hts (by decide) hown hin hK (ct_in 0 rfl) rfl rfl (fun _ h => h) (by decide) (by decide) (by decide) (fun _ => rfl) (by decide) (by decide) (by decide +kernel) rfl (by decide +kernel) (fun _ => rfl) (fun _ => rfl) (Nat.le_of_ble_eq_true rfl) hP hD hS hA hl (cells := 10) (slots := 143) (Nat.le_of_ble_eq_true rfl) (Nat.le_of_ble_eq_true rfl) (dd (pc := 89) rfl) (dd (pc := 90) rfl) (dd (pc := 92) rfl) (dd (pc := 94) rfl) (fun q11 H locs hP hD hS => ?_)
  have hP : va_P D vwCl [(h0, .inr (1, [.int 1, .ref q1, .ref q2, .ref q3, .ref q4, .ref q5, .ref q6, .ref q7, .int 0, .ref q8, .ref q9, .int 0, .ref q10, .ref q11, .null, .null, .int 0])), (q1, .inl (cA 0, (16, .inl (fun _ => (0 : Int32))))), (q2, .inl (cA 0, (16, .inl (fun _ => (0 : Int32))))), (q3, .inl (cA 0, (16, .inl (fun _ => (0 : Int32))))), (q4, .inl (cA 0, (16, .inl (fun _ => (0 : Int32))))), (q5, .inl (cA 1, (16, .inl (fun _ => (0 : Int32))))), (q6, .inl (cA 1, (16, .inl (fun _ => (0 : Int32))))), (q7, .inl (cA 0, (11, .inl (fun _ => (0 : Int32))))), (q8, .inl (cA 0, (8, .inl (fun _ => (0 : Int32))))), (q9, .inl (cA 0, (8, .inl (fun _ => (0 : Int32))))), (q10, .inl (cA 0, (20, .inl (fun _ => (0 : Int32))))), (q11, .inl (cA 0, (20, .inl (fun _ => (0 : Int32)))))] H := hP
  have hD : va_D A [(h0, .inr (1, [.int 1, .ref q1, .ref q2, .ref q3, .ref q4, .ref q5, .ref q6, .ref q7, .int 0, .ref q8, .ref q9, .int 0, .ref q10, .ref q11, .null, .null, .int 0])), (q1, .inl (cA 0, (16, .inl (fun _ => (0 : Int32))))), (q2, .inl (cA 0, (16, .inl (fun _ => (0 : Int32))))), (q3, .inl (cA 0, (16, .inl (fun _ => (0 : Int32))))), (q4, .inl (cA 0, (16, .inl (fun _ => (0 : Int32))))), (q5, .inl (cA 1, (16, .inl (fun _ => (0 : Int32))))), (q6, .inl (cA 1, (16, .inl (fun _ => (0 : Int32))))), (q7, .inl (cA 0, (11, .inl (fun _ => (0 : Int32))))), (q8, .inl (cA 0, (8, .inl (fun _ => (0 : Int32))))), (q9, .inl (cA 0, (8, .inl (fun _ => (0 : Int32))))), (q10, .inl (cA 0, (20, .inl (fun _ => (0 : Int32))))), (q11, .inl (cA 0, (20, .inl (fun _ => (0 : Int32)))))] := hD
  refine ct_arr (o := 1) (k := 14) (N' := 20) (index := 48) (t := 0) (nn := 20) (v := nI 20) (aty := .int) (ty := .int) hx hb hts (by decide) hown hin hK (ct_in 0 rfl) rfl rfl (fun _ h => h) (by decide) (by decide) (by decide) (fun _ => rfl) (by decide) (by decide) (by decide +kernel) rfl (by decide +kernel) (fun _ => rfl) (fun _ => rfl) (Nat.le_of_ble_eq_true rfl) hP hD hS hA hl (cells := 11) (slots := 163) (Nat.le_of_ble_eq_true rfl) (Nat.le_of_ble_eq_true rfl) (dd (pc := 97) rfl) (dd (pc := 98) rfl) (dd (pc := 100) rfl) (dd (pc := 102) rfl) (fun q12 H locs hP hD hS => ?_)
  have hP : va_P D vwCl [(h0, .inr (1, [.int 1, .ref q1, .ref q2, .ref q3, .ref q4, .ref q5, .ref q6, .ref q7, .int 0, .ref q8, .ref q9, .int 0, .ref q10, .ref q11, .ref q12, .null, .int 0])), (q1, .inl (cA 0, (16, .inl (fun _ => (0 : Int32))))), (q2, .inl (cA 0, (16, .inl (fun _ => (0 : Int32))))), (q3, .inl (cA 0, (16, .inl (fun _ => (0 : Int32))))), (q4, .inl (cA 0, (16, .inl (fun _ => (0 : Int32))))), (q5, .inl (cA 1, (16, .inl (fun _ => (0 : Int32))))), (q6, .inl (cA 1, (16, .inl (fun _ => (0 : Int32))))), (q7, .inl (cA 0, (11, .inl (fun _ => (0 : Int32))))), (q8, .inl (cA 0, (8, .inl (fun _ => (0 : Int32))))), (q9, .inl (cA 0, (8, .inl (fun _ => (0 : Int32))))), (q10, .inl (cA 0, (20, .inl (fun _ => (0 : Int32))))), (q11, .inl (cA 0, (20, .inl (fun _ => (0 : Int32))))), (q12, .inl (cA 0, (20, .inl (fun _ => (0 : Int32)))))] H := hP
  have hD : va_D A [(h0, .inr (1, [.int 1, .ref q1, .ref q2, .ref q3, .ref q4, .ref q5, .ref q6, .ref q7, .int 0, .ref q8, .ref q9, .int 0, .ref q10, .ref q11, .ref q12, .null, .int 0])), (q1, .inl (cA 0, (16, .inl (fun _ => (0 : Int32))))), (q2, .inl (cA 0, (16, .inl (fun _ => (0 : Int32))))), (q3, .inl (cA 0, (16, .inl (fun _ => (0 : Int32))))), (q4, .inl (cA 0, (16, .inl (fun _ => (0 : Int32))))), (q5, .inl (cA 1, (16, .inl (fun _ => (0 : Int32))))), (q6, .inl (cA 1, (16, .inl (fun _ => (0 : Int32))))), (q7, .inl (cA 0, (11, .inl (fun _ => (0 : Int32))))), (q8, .inl (cA 0, (8, .inl (fun _ => (0 : Int32))))), (q9, .inl (cA 0, (8, .inl (fun _ => (0 : Int32))))), (q10, .inl (cA 0, (20, .inl (fun _ => (0 : Int32))))), (q11, .inl (cA 0, (20, .inl (fun _ => (0 : Int32))))), (q12, .inl (cA 0, (20, .inl (fun _ => (0 : Int32)))))] := hD
  refine ct_arr (o := 1) (k := 15) (N' := 20) (index := 51) (t := 1) (nn := 20) (v := nI 20) (aty := .boolean) (ty := .boolean) hx hb hts (by decide) hown hin hK (ct_in 1 rfl) rfl rfl (fun _ h => h) (by decide) (by decide) (by decide) (fun _ => rfl) (by decide) (by decide) (by decide +kernel) rfl (by decide +kernel) (fun _ => rfl) (fun _ => rfl) (Nat.le_of_ble_eq_true rfl) hP hD hS hA hl (cells := 12) (slots := 183) (Nat.le_of_ble_eq_true rfl) (Nat.le_of_ble_eq_true rfl) (dd (pc := 105) rfl) (dd (pc := 106) rfl) (dd (pc := 108) rfl) (dd (pc := 110) rfl) (fun q13 H locs hP hD hS => ?_)
  have hP : va_P D vwCl [(h0, .inr (1, [.int 1, .ref q1, .ref q2, .ref q3, .ref q4, .ref q5, .ref q6, .ref q7, .int 0, .ref q8, .ref q9, .int 0, .ref q10, .ref q11, .ref q12, .ref q13, .int 0])), (q1, .inl (cA 0, (16, .inl (fun _ => (0 : Int32))))), (q2, .inl (cA 0, (16, .inl (fun _ => (0 : Int32))))), (q3, .inl (cA 0, (16, .inl (fun _ => (0 : Int32))))), (q4, .inl (cA 0, (16, .inl (fun _ => (0 : Int32))))), (q5, .inl (cA 1, (16, .inl (fun _ => (0 : Int32))))), (q6, .inl (cA 1, (16, .inl (fun _ => (0 : Int32))))), (q7, .inl (cA 0, (11, .inl (fun _ => (0 : Int32))))), (q8, .inl (cA 0, (8, .inl (fun _ => (0 : Int32))))), (q9, .inl (cA 0, (8, .inl (fun _ => (0 : Int32))))), (q10, .inl (cA 0, (20, .inl (fun _ => (0 : Int32))))), (q11, .inl (cA 0, (20, .inl (fun _ => (0 : Int32))))), (q12, .inl (cA 0, (20, .inl (fun _ => (0 : Int32))))), (q13, .inl (cA 1, (20, .inl (fun _ => (0 : Int32)))))] H := hP
  have hD : va_D A [(h0, .inr (1, [.int 1, .ref q1, .ref q2, .ref q3, .ref q4, .ref q5, .ref q6, .ref q7, .int 0, .ref q8, .ref q9, .int 0, .ref q10, .ref q11, .ref q12, .ref q13, .int 0])), (q1, .inl (cA 0, (16, .inl (fun _ => (0 : Int32))))), (q2, .inl (cA 0, (16, .inl (fun _ => (0 : Int32))))), (q3, .inl (cA 0, (16, .inl (fun _ => (0 : Int32))))), (q4, .inl (cA 0, (16, .inl (fun _ => (0 : Int32))))), (q5, .inl (cA 1, (16, .inl (fun _ => (0 : Int32))))), (q6, .inl (cA 1, (16, .inl (fun _ => (0 : Int32))))), (q7, .inl (cA 0, (11, .inl (fun _ => (0 : Int32))))), (q8, .inl (cA 0, (8, .inl (fun _ => (0 : Int32))))), (q9, .inl (cA 0, (8, .inl (fun _ => (0 : Int32))))), (q10, .inl (cA 0, (20, .inl (fun _ => (0 : Int32))))), (q11, .inl (cA 0, (20, .inl (fun _ => (0 : Int32))))), (q12, .inl (cA 0, (20, .inl (fun _ => (0 : Int32))))), (q13, .inl (cA 1, (20, .inl (fun _ => (0 : Int32)))))] := hD
  refine lv_aload_n hx hb (dd (pc := 113) rfl) rfl (lv_at hl 0 rfl) ?_
  refine va_get (D := D) (ci := 1) (C := RX1) (T := TX1) (N := 17) hx hb hts (in_lay (o := 1) (by decide)) hown hK hP 0 rfl rfl 1 (by decide) (hts _ (in_fl (q := (1, 13, 1)) (by decide +kernel))) (fun _ h9 => h9) (v := .ref q1) rfl (dd (pc := 114) rfl) ?_
  refine lv_iconst (v := 0) hx hb (dd (pc := 117) rfl) (by decide) ?_
  refine lv_iconst (v := -1) hx hb (dd (pc := 118) rfl) (by decide) ?_
  refine va_iast (D := D) hx hb hK hP hD hS 1 0 rfl rfl (by unfold vp_in; decide) (dd (pc := 119) rfl) (fun H locs hP hD hS => ?_)
  have hP : va_P D vwCl [(h0, .inr (1, [.int 1, .ref q1, .ref q2, .ref q3, .ref q4, .ref q5, .ref q6, .ref q7, .int 0, .ref q8, .ref q9, .int 0, .ref q10, .ref q11, .ref q12, .ref q13, .int 0])), (q1, .inl (cA 0, (16, .inl (upd (fun _ => (0 : Int32)) 0 (-1))))), (q2, .inl (cA 0, (16, .inl (fun _ => (0 : Int32))))), (q3, .inl (cA 0, (16, .inl (fun _ => (0 : Int32))))), (q4, .inl (cA 0, (16, .inl (fun _ => (0 : Int32))))), (q5, .inl (cA 1, (16, .inl (fun _ => (0 : Int32))))), (q6, .inl (cA 1, (16, .inl (fun _ => (0 : Int32))))), (q7, .inl (cA 0, (11, .inl (fun _ => (0 : Int32))))), (q8, .inl (cA 0, (8, .inl (fun _ => (0 : Int32))))), (q9, .inl (cA 0, (8, .inl (fun _ => (0 : Int32))))), (q10, .inl (cA 0, (20, .inl (fun _ => (0 : Int32))))), (q11, .inl (cA 0, (20, .inl (fun _ => (0 : Int32))))), (q12, .inl (cA 0, (20, .inl (fun _ => (0 : Int32))))), (q13, .inl (cA 1, (20, .inl (fun _ => (0 : Int32)))))] H := hP
  have hD : va_D A [(h0, .inr (1, [.int 1, .ref q1, .ref q2, .ref q3, .ref q4, .ref q5, .ref q6, .ref q7, .int 0, .ref q8, .ref q9, .int 0, .ref q10, .ref q11, .ref q12, .ref q13, .int 0])), (q1, .inl (cA 0, (16, .inl (upd (fun _ => (0 : Int32)) 0 (-1))))), (q2, .inl (cA 0, (16, .inl (fun _ => (0 : Int32))))), (q3, .inl (cA 0, (16, .inl (fun _ => (0 : Int32))))), (q4, .inl (cA 0, (16, .inl (fun _ => (0 : Int32))))), (q5, .inl (cA 1, (16, .inl (fun _ => (0 : Int32))))), (q6, .inl (cA 1, (16, .inl (fun _ => (0 : Int32))))), (q7, .inl (cA 0, (11, .inl (fun _ => (0 : Int32))))), (q8, .inl (cA 0, (8, .inl (fun _ => (0 : Int32))))), (q9, .inl (cA 0, (8, .inl (fun _ => (0 : Int32))))), (q10, .inl (cA 0, (20, .inl (fun _ => (0 : Int32))))), (q11, .inl (cA 0, (20, .inl (fun _ => (0 : Int32))))), (q12, .inl (cA 0, (20, .inl (fun _ => (0 : Int32))))), (q13, .inl (cA 1, (20, .inl (fun _ => (0 : Int32)))))] := hD
  refine lv_aload_n hx hb (dd (pc := 120) rfl) rfl (lv_at hl 0 rfl) ?_
  refine va_get (D := D) (ci := 1) (C := RX1) (T := TX1) (N := 17) hx hb hts (in_lay (o := 1) (by decide)) hown hK hP 0 rfl rfl 4 (by decide) (hts _ (in_fl (q := (1, 23, 4)) (by decide +kernel))) (fun _ h9 => h9) (v := .ref q4) rfl (dd (pc := 121) rfl) ?_
  refine lv_iconst (v := 0) hx hb (dd (pc := 124) rfl) (by decide) ?_
  refine lv_iconst (v := -1) hx hb (dd (pc := 125) rfl) (by decide) ?_
  refine va_iast (D := D) hx hb hK hP hD hS 4 0 rfl rfl (by unfold vp_in; decide) (dd (pc := 126) rfl) (fun H locs hP hD hS => ?_)
  have hP : va_P D vwCl [(h0, .inr (1, [.int 1, .ref q1, .ref q2, .ref q3, .ref q4, .ref q5, .ref q6, .ref q7, .int 0, .ref q8, .ref q9, .int 0, .ref q10, .ref q11, .ref q12, .ref q13, .int 0])), (q1, .inl (cA 0, (16, .inl (upd (fun _ => (0 : Int32)) 0 (-1))))), (q2, .inl (cA 0, (16, .inl (fun _ => (0 : Int32))))), (q3, .inl (cA 0, (16, .inl (fun _ => (0 : Int32))))), (q4, .inl (cA 0, (16, .inl (upd (fun _ => (0 : Int32)) 0 (-1))))), (q5, .inl (cA 1, (16, .inl (fun _ => (0 : Int32))))), (q6, .inl (cA 1, (16, .inl (fun _ => (0 : Int32))))), (q7, .inl (cA 0, (11, .inl (fun _ => (0 : Int32))))), (q8, .inl (cA 0, (8, .inl (fun _ => (0 : Int32))))), (q9, .inl (cA 0, (8, .inl (fun _ => (0 : Int32))))), (q10, .inl (cA 0, (20, .inl (fun _ => (0 : Int32))))), (q11, .inl (cA 0, (20, .inl (fun _ => (0 : Int32))))), (q12, .inl (cA 0, (20, .inl (fun _ => (0 : Int32))))), (q13, .inl (cA 1, (20, .inl (fun _ => (0 : Int32)))))] H := hP
  have hD : va_D A [(h0, .inr (1, [.int 1, .ref q1, .ref q2, .ref q3, .ref q4, .ref q5, .ref q6, .ref q7, .int 0, .ref q8, .ref q9, .int 0, .ref q10, .ref q11, .ref q12, .ref q13, .int 0])), (q1, .inl (cA 0, (16, .inl (upd (fun _ => (0 : Int32)) 0 (-1))))), (q2, .inl (cA 0, (16, .inl (fun _ => (0 : Int32))))), (q3, .inl (cA 0, (16, .inl (fun _ => (0 : Int32))))), (q4, .inl (cA 0, (16, .inl (upd (fun _ => (0 : Int32)) 0 (-1))))), (q5, .inl (cA 1, (16, .inl (fun _ => (0 : Int32))))), (q6, .inl (cA 1, (16, .inl (fun _ => (0 : Int32))))), (q7, .inl (cA 0, (11, .inl (fun _ => (0 : Int32))))), (q8, .inl (cA 0, (8, .inl (fun _ => (0 : Int32))))), (q9, .inl (cA 0, (8, .inl (fun _ => (0 : Int32))))), (q10, .inl (cA 0, (20, .inl (fun _ => (0 : Int32))))), (q11, .inl (cA 0, (20, .inl (fun _ => (0 : Int32))))), (q12, .inl (cA 0, (20, .inl (fun _ => (0 : Int32))))), (q13, .inl (cA 1, (20, .inl (fun _ => (0 : Int32)))))] := hD
  refine lv_aload_n hx hb (dd (pc := 127) rfl) rfl (lv_at hl 0 rfl) ?_
  refine va_get (D := D) (ci := 1) (C := RX1) (T := TX1) (N := 17) hx hb hts (in_lay (o := 1) (by decide)) hown hK hP 0 rfl rfl 7 (by decide) (hts _ (in_fl (q := (1, 33, 7)) (by decide +kernel))) (fun _ h9 => h9) (v := .ref q7) rfl (dd (pc := 128) rfl) ?_
  refine lv_iconst (v := 1) hx hb (dd (pc := 131) rfl) (by decide) ?_
  refine lv_bipush (v := 120) hx hb (dd (pc := 132) rfl) (by decide) ?_
  refine va_iast (D := D) hx hb hK hP hD hS 7 0 rfl rfl (by unfold vp_in; decide) (dd (pc := 134) rfl) (fun H locs hP hD hS => ?_)
  have hP : va_P D vwCl [(h0, .inr (1, [.int 1, .ref q1, .ref q2, .ref q3, .ref q4, .ref q5, .ref q6, .ref q7, .int 0, .ref q8, .ref q9, .int 0, .ref q10, .ref q11, .ref q12, .ref q13, .int 0])), (q1, .inl (cA 0, (16, .inl (upd (fun _ => (0 : Int32)) 0 (-1))))), (q2, .inl (cA 0, (16, .inl (fun _ => (0 : Int32))))), (q3, .inl (cA 0, (16, .inl (fun _ => (0 : Int32))))), (q4, .inl (cA 0, (16, .inl (upd (fun _ => (0 : Int32)) 0 (-1))))), (q5, .inl (cA 1, (16, .inl (fun _ => (0 : Int32))))), (q6, .inl (cA 1, (16, .inl (fun _ => (0 : Int32))))), (q7, .inl (cA 0, (11, .inl (upd (fun _ => (0 : Int32)) 1 120)))), (q8, .inl (cA 0, (8, .inl (fun _ => (0 : Int32))))), (q9, .inl (cA 0, (8, .inl (fun _ => (0 : Int32))))), (q10, .inl (cA 0, (20, .inl (fun _ => (0 : Int32))))), (q11, .inl (cA 0, (20, .inl (fun _ => (0 : Int32))))), (q12, .inl (cA 0, (20, .inl (fun _ => (0 : Int32))))), (q13, .inl (cA 1, (20, .inl (fun _ => (0 : Int32)))))] H := hP
  have hD : va_D A [(h0, .inr (1, [.int 1, .ref q1, .ref q2, .ref q3, .ref q4, .ref q5, .ref q6, .ref q7, .int 0, .ref q8, .ref q9, .int 0, .ref q10, .ref q11, .ref q12, .ref q13, .int 0])), (q1, .inl (cA 0, (16, .inl (upd (fun _ => (0 : Int32)) 0 (-1))))), (q2, .inl (cA 0, (16, .inl (fun _ => (0 : Int32))))), (q3, .inl (cA 0, (16, .inl (fun _ => (0 : Int32))))), (q4, .inl (cA 0, (16, .inl (upd (fun _ => (0 : Int32)) 0 (-1))))), (q5, .inl (cA 1, (16, .inl (fun _ => (0 : Int32))))), (q6, .inl (cA 1, (16, .inl (fun _ => (0 : Int32))))), (q7, .inl (cA 0, (11, .inl (upd (fun _ => (0 : Int32)) 1 120)))), (q8, .inl (cA 0, (8, .inl (fun _ => (0 : Int32))))), (q9, .inl (cA 0, (8, .inl (fun _ => (0 : Int32))))), (q10, .inl (cA 0, (20, .inl (fun _ => (0 : Int32))))), (q11, .inl (cA 0, (20, .inl (fun _ => (0 : Int32))))), (q12, .inl (cA 0, (20, .inl (fun _ => (0 : Int32))))), (q13, .inl (cA 1, (20, .inl (fun _ => (0 : Int32)))))] := hD
  refine lv_aload_n hx hb (dd (pc := 135) rfl) rfl (lv_at hl 0 rfl) ?_
  refine va_get (D := D) (ci := 1) (C := RX1) (T := TX1) (N := 17) hx hb hts (in_lay (o := 1) (by decide)) hown hK hP 0 rfl rfl 7 (by decide) (hts _ (in_fl (q := (1, 33, 7)) (by decide +kernel))) (fun _ h9 => h9) (v := .ref q7) rfl (dd (pc := 136) rfl) ?_
  refine lv_iconst (v := 2) hx hb (dd (pc := 139) rfl) (by decide) ?_
  refine lv_sipush (v := 280) hx hb (dd (pc := 140) rfl) (by decide) ?_
  refine va_iast (D := D) hx hb hK hP hD hS 7 0 rfl rfl (by unfold vp_in; decide) (dd (pc := 143) rfl) (fun H locs hP hD hS => ?_)
  have hP : va_P D vwCl [(h0, .inr (1, [.int 1, .ref q1, .ref q2, .ref q3, .ref q4, .ref q5, .ref q6, .ref q7, .int 0, .ref q8, .ref q9, .int 0, .ref q10, .ref q11, .ref q12, .ref q13, .int 0])), (q1, .inl (cA 0, (16, .inl (upd (fun _ => (0 : Int32)) 0 (-1))))), (q2, .inl (cA 0, (16, .inl (fun _ => (0 : Int32))))), (q3, .inl (cA 0, (16, .inl (fun _ => (0 : Int32))))), (q4, .inl (cA 0, (16, .inl (upd (fun _ => (0 : Int32)) 0 (-1))))), (q5, .inl (cA 1, (16, .inl (fun _ => (0 : Int32))))), (q6, .inl (cA 1, (16, .inl (fun _ => (0 : Int32))))), (q7, .inl (cA 0, (11, .inl (upd (upd (fun _ => (0 : Int32)) 1 120) 2 280)))), (q8, .inl (cA 0, (8, .inl (fun _ => (0 : Int32))))), (q9, .inl (cA 0, (8, .inl (fun _ => (0 : Int32))))), (q10, .inl (cA 0, (20, .inl (fun _ => (0 : Int32))))), (q11, .inl (cA 0, (20, .inl (fun _ => (0 : Int32))))), (q12, .inl (cA 0, (20, .inl (fun _ => (0 : Int32))))), (q13, .inl (cA 1, (20, .inl (fun _ => (0 : Int32)))))] H := hP
  have hD : va_D A [(h0, .inr (1, [.int 1, .ref q1, .ref q2, .ref q3, .ref q4, .ref q5, .ref q6, .ref q7, .int 0, .ref q8, .ref q9, .int 0, .ref q10, .ref q11, .ref q12, .ref q13, .int 0])), (q1, .inl (cA 0, (16, .inl (upd (fun _ => (0 : Int32)) 0 (-1))))), (q2, .inl (cA 0, (16, .inl (fun _ => (0 : Int32))))), (q3, .inl (cA 0, (16, .inl (fun _ => (0 : Int32))))), (q4, .inl (cA 0, (16, .inl (upd (fun _ => (0 : Int32)) 0 (-1))))), (q5, .inl (cA 1, (16, .inl (fun _ => (0 : Int32))))), (q6, .inl (cA 1, (16, .inl (fun _ => (0 : Int32))))), (q7, .inl (cA 0, (11, .inl (upd (upd (fun _ => (0 : Int32)) 1 120) 2 280)))), (q8, .inl (cA 0, (8, .inl (fun _ => (0 : Int32))))), (q9, .inl (cA 0, (8, .inl (fun _ => (0 : Int32))))), (q10, .inl (cA 0, (20, .inl (fun _ => (0 : Int32))))), (q11, .inl (cA 0, (20, .inl (fun _ => (0 : Int32))))), (q12, .inl (cA 0, (20, .inl (fun _ => (0 : Int32))))), (q13, .inl (cA 1, (20, .inl (fun _ => (0 : Int32)))))] := hD
  refine lv_aload_n hx hb (dd (pc := 144) rfl) rfl (lv_at hl 0 rfl) ?_
  refine va_get (D := D) (ci := 1) (C := RX1) (T := TX1) (N := 17) hx hb hts (in_lay (o := 1) (by decide)) hown hK hP 0 rfl rfl 7 (by decide) (hts _ (in_fl (q := (1, 33, 7)) (by decide +kernel))) (fun _ h9 => h9) (v := .ref q7) rfl (dd (pc := 145) rfl) ?_
  refine lv_iconst (v := 3) hx hb (dd (pc := 148) rfl) (by decide) ?_
  refine lv_sipush (v := 490) hx hb (dd (pc := 149) rfl) (by decide) ?_
  refine va_iast (D := D) hx hb hK hP hD hS 7 0 rfl rfl (by unfold vp_in; decide) (dd (pc := 152) rfl) (fun H locs hP hD hS => ?_)
  have hP : va_P D vwCl [(h0, .inr (1, [.int 1, .ref q1, .ref q2, .ref q3, .ref q4, .ref q5, .ref q6, .ref q7, .int 0, .ref q8, .ref q9, .int 0, .ref q10, .ref q11, .ref q12, .ref q13, .int 0])), (q1, .inl (cA 0, (16, .inl (upd (fun _ => (0 : Int32)) 0 (-1))))), (q2, .inl (cA 0, (16, .inl (fun _ => (0 : Int32))))), (q3, .inl (cA 0, (16, .inl (fun _ => (0 : Int32))))), (q4, .inl (cA 0, (16, .inl (upd (fun _ => (0 : Int32)) 0 (-1))))), (q5, .inl (cA 1, (16, .inl (fun _ => (0 : Int32))))), (q6, .inl (cA 1, (16, .inl (fun _ => (0 : Int32))))), (q7, .inl (cA 0, (11, .inl (upd (upd (upd (fun _ => (0 : Int32)) 1 120) 2 280) 3 490)))), (q8, .inl (cA 0, (8, .inl (fun _ => (0 : Int32))))), (q9, .inl (cA 0, (8, .inl (fun _ => (0 : Int32))))), (q10, .inl (cA 0, (20, .inl (fun _ => (0 : Int32))))), (q11, .inl (cA 0, (20, .inl (fun _ => (0 : Int32))))), (q12, .inl (cA 0, (20, .inl (fun _ => (0 : Int32))))), (q13, .inl (cA 1, (20, .inl (fun _ => (0 : Int32)))))] H := hP
  have hD : va_D A [(h0, .inr (1, [.int 1, .ref q1, .ref q2, .ref q3, .ref q4, .ref q5, .ref q6, .ref q7, .int 0, .ref q8, .ref q9, .int 0, .ref q10, .ref q11, .ref q12, .ref q13, .int 0])), (q1, .inl (cA 0, (16, .inl (upd (fun _ => (0 : Int32)) 0 (-1))))), (q2, .inl (cA 0, (16, .inl (fun _ => (0 : Int32))))), (q3, .inl (cA 0, (16, .inl (fun _ => (0 : Int32))))), (q4, .inl (cA 0, (16, .inl (upd (fun _ => (0 : Int32)) 0 (-1))))), (q5, .inl (cA 1, (16, .inl (fun _ => (0 : Int32))))), (q6, .inl (cA 1, (16, .inl (fun _ => (0 : Int32))))), (q7, .inl (cA 0, (11, .inl (upd (upd (upd (fun _ => (0 : Int32)) 1 120) 2 280) 3 490)))), (q8, .inl (cA 0, (8, .inl (fun _ => (0 : Int32))))), (q9, .inl (cA 0, (8, .inl (fun _ => (0 : Int32))))), (q10, .inl (cA 0, (20, .inl (fun _ => (0 : Int32))))), (q11, .inl (cA 0, (20, .inl (fun _ => (0 : Int32))))), (q12, .inl (cA 0, (20, .inl (fun _ => (0 : Int32))))), (q13, .inl (cA 1, (20, .inl (fun _ => (0 : Int32)))))] := hD
  refine lv_aload_n hx hb (dd (pc := 153) rfl) rfl (lv_at hl 0 rfl) ?_
  refine va_get (D := D) (ci := 1) (C := RX1) (T := TX1) (N := 17) hx hb hts (in_lay (o := 1) (by decide)) hown hK hP 0 rfl rfl 7 (by decide) (hts _ (in_fl (q := (1, 33, 7)) (by decide +kernel))) (fun _ h9 => h9) (v := .ref q7) rfl (dd (pc := 154) rfl) ?_
  refine lv_iconst (v := 4) hx hb (dd (pc := 157) rfl) (by decide) ?_
  refine lv_sipush (v := 730) hx hb (dd (pc := 158) rfl) (by decide) ?_
  refine va_iast (D := D) hx hb hK hP hD hS 7 0 rfl rfl (by unfold vp_in; decide) (dd (pc := 161) rfl) (fun H locs hP hD hS => ?_)
  have hP : va_P D vwCl [(h0, .inr (1, [.int 1, .ref q1, .ref q2, .ref q3, .ref q4, .ref q5, .ref q6, .ref q7, .int 0, .ref q8, .ref q9, .int 0, .ref q10, .ref q11, .ref q12, .ref q13, .int 0])), (q1, .inl (cA 0, (16, .inl (upd (fun _ => (0 : Int32)) 0 (-1))))), (q2, .inl (cA 0, (16, .inl (fun _ => (0 : Int32))))), (q3, .inl (cA 0, (16, .inl (fun _ => (0 : Int32))))), (q4, .inl (cA 0, (16, .inl (upd (fun _ => (0 : Int32)) 0 (-1))))), (q5, .inl (cA 1, (16, .inl (fun _ => (0 : Int32))))), (q6, .inl (cA 1, (16, .inl (fun _ => (0 : Int32))))), (q7, .inl (cA 0, (11, .inl (upd (upd (upd (upd (fun _ => (0 : Int32)) 1 120) 2 280) 3 490) 4 730)))), (q8, .inl (cA 0, (8, .inl (fun _ => (0 : Int32))))), (q9, .inl (cA 0, (8, .inl (fun _ => (0 : Int32))))), (q10, .inl (cA 0, (20, .inl (fun _ => (0 : Int32))))), (q11, .inl (cA 0, (20, .inl (fun _ => (0 : Int32))))), (q12, .inl (cA 0, (20, .inl (fun _ => (0 : Int32))))), (q13, .inl (cA 1, (20, .inl (fun _ => (0 : Int32)))))] H := hP
  have hD : va_D A [(h0, .inr (1, [.int 1, .ref q1, .ref q2, .ref q3, .ref q4, .ref q5, .ref q6, .ref q7, .int 0, .ref q8, .ref q9, .int 0, .ref q10, .ref q11, .ref q12, .ref q13, .int 0])), (q1, .inl (cA 0, (16, .inl (upd (fun _ => (0 : Int32)) 0 (-1))))), (q2, .inl (cA 0, (16, .inl (fun _ => (0 : Int32))))), (q3, .inl (cA 0, (16, .inl (fun _ => (0 : Int32))))), (q4, .inl (cA 0, (16, .inl (upd (fun _ => (0 : Int32)) 0 (-1))))), (q5, .inl (cA 1, (16, .inl (fun _ => (0 : Int32))))), (q6, .inl (cA 1, (16, .inl (fun _ => (0 : Int32))))), (q7, .inl (cA 0, (11, .inl (upd (upd (upd (upd (fun _ => (0 : Int32)) 1 120) 2 280) 3 490) 4 730)))), (q8, .inl (cA 0, (8, .inl (fun _ => (0 : Int32))))), (q9, .inl (cA 0, (8, .inl (fun _ => (0 : Int32))))), (q10, .inl (cA 0, (20, .inl (fun _ => (0 : Int32))))), (q11, .inl (cA 0, (20, .inl (fun _ => (0 : Int32))))), (q12, .inl (cA 0, (20, .inl (fun _ => (0 : Int32))))), (q13, .inl (cA 1, (20, .inl (fun _ => (0 : Int32)))))] := hD
  refine lv_aload_n hx hb (dd (pc := 162) rfl) rfl (lv_at hl 0 rfl) ?_
  refine va_get (D := D) (ci := 1) (C := RX1) (T := TX1) (N := 17) hx hb hts (in_lay (o := 1) (by decide)) hown hK hP 0 rfl rfl 7 (by decide) (hts _ (in_fl (q := (1, 33, 7)) (by decide +kernel))) (fun _ h9 => h9) (v := .ref q7) rfl (dd (pc := 163) rfl) ?_
  refine lv_iconst (v := 5) hx hb (dd (pc := 166) rfl) (by decide) ?_
  refine lv_sipush (v := 1000) hx hb (dd (pc := 167) rfl) (by decide) ?_
  refine va_iast (D := D) hx hb hK hP hD hS 7 0 rfl rfl (by unfold vp_in; decide) (dd (pc := 170) rfl) (fun H locs hP hD hS => ?_)
  have hP : va_P D vwCl [(h0, .inr (1, [.int 1, .ref q1, .ref q2, .ref q3, .ref q4, .ref q5, .ref q6, .ref q7, .int 0, .ref q8, .ref q9, .int 0, .ref q10, .ref q11, .ref q12, .ref q13, .int 0])), (q1, .inl (cA 0, (16, .inl (upd (fun _ => (0 : Int32)) 0 (-1))))), (q2, .inl (cA 0, (16, .inl (fun _ => (0 : Int32))))), (q3, .inl (cA 0, (16, .inl (fun _ => (0 : Int32))))), (q4, .inl (cA 0, (16, .inl (upd (fun _ => (0 : Int32)) 0 (-1))))), (q5, .inl (cA 1, (16, .inl (fun _ => (0 : Int32))))), (q6, .inl (cA 1, (16, .inl (fun _ => (0 : Int32))))), (q7, .inl (cA 0, (11, .inl (upd (upd (upd (upd (upd (fun _ => (0 : Int32)) 1 120) 2 280) 3 490) 4 730) 5 1000)))), (q8, .inl (cA 0, (8, .inl (fun _ => (0 : Int32))))), (q9, .inl (cA 0, (8, .inl (fun _ => (0 : Int32))))), (q10, .inl (cA 0, (20, .inl (fun _ => (0 : Int32))))), (q11, .inl (cA 0, (20, .inl (fun _ => (0 : Int32))))), (q12, .inl (cA 0, (20, .inl (fun _ => (0 : Int32))))), (q13, .inl (cA 1, (20, .inl (fun _ => (0 : Int32)))))] H := hP
  have hD : va_D A [(h0, .inr (1, [.int 1, .ref q1, .ref q2, .ref q3, .ref q4, .ref q5, .ref q6, .ref q7, .int 0, .ref q8, .ref q9, .int 0, .ref q10, .ref q11, .ref q12, .ref q13, .int 0])), (q1, .inl (cA 0, (16, .inl (upd (fun _ => (0 : Int32)) 0 (-1))))), (q2, .inl (cA 0, (16, .inl (fun _ => (0 : Int32))))), (q3, .inl (cA 0, (16, .inl (fun _ => (0 : Int32))))), (q4, .inl (cA 0, (16, .inl (upd (fun _ => (0 : Int32)) 0 (-1))))), (q5, .inl (cA 1, (16, .inl (fun _ => (0 : Int32))))), (q6, .inl (cA 1, (16, .inl (fun _ => (0 : Int32))))), (q7, .inl (cA 0, (11, .inl (upd (upd (upd (upd (upd (fun _ => (0 : Int32)) 1 120) 2 280) 3 490) 4 730) 5 1000)))), (q8, .inl (cA 0, (8, .inl (fun _ => (0 : Int32))))), (q9, .inl (cA 0, (8, .inl (fun _ => (0 : Int32))))), (q10, .inl (cA 0, (20, .inl (fun _ => (0 : Int32))))), (q11, .inl (cA 0, (20, .inl (fun _ => (0 : Int32))))), (q12, .inl (cA 0, (20, .inl (fun _ => (0 : Int32))))), (q13, .inl (cA 1, (20, .inl (fun _ => (0 : Int32)))))] := hD
  refine lv_aload_n hx hb (dd (pc := 171) rfl) rfl (lv_at hl 0 rfl) ?_
  refine va_get (D := D) (ci := 1) (C := RX1) (T := TX1) (N := 17) hx hb hts (in_lay (o := 1) (by decide)) hown hK hP 0 rfl rfl 7 (by decide) (hts _ (in_fl (q := (1, 33, 7)) (by decide +kernel))) (fun _ h9 => h9) (v := .ref q7) rfl (dd (pc := 172) rfl) ?_
  refine lv_bipush (v := 6) hx hb (dd (pc := 175) rfl) (by decide) ?_
  refine lv_sipush (v := 1290) hx hb (dd (pc := 177) rfl) (by decide) ?_
  refine va_iast (D := D) hx hb hK hP hD hS 7 0 rfl rfl (by unfold vp_in; decide) (dd (pc := 180) rfl) (fun H locs hP hD hS => ?_)
  have hP : va_P D vwCl [(h0, .inr (1, [.int 1, .ref q1, .ref q2, .ref q3, .ref q4, .ref q5, .ref q6, .ref q7, .int 0, .ref q8, .ref q9, .int 0, .ref q10, .ref q11, .ref q12, .ref q13, .int 0])), (q1, .inl (cA 0, (16, .inl (upd (fun _ => (0 : Int32)) 0 (-1))))), (q2, .inl (cA 0, (16, .inl (fun _ => (0 : Int32))))), (q3, .inl (cA 0, (16, .inl (fun _ => (0 : Int32))))), (q4, .inl (cA 0, (16, .inl (upd (fun _ => (0 : Int32)) 0 (-1))))), (q5, .inl (cA 1, (16, .inl (fun _ => (0 : Int32))))), (q6, .inl (cA 1, (16, .inl (fun _ => (0 : Int32))))), (q7, .inl (cA 0, (11, .inl (upd (upd (upd (upd (upd (upd (fun _ => (0 : Int32)) 1 120) 2 280) 3 490) 4 730) 5 1000) 6 1290)))), (q8, .inl (cA 0, (8, .inl (fun _ => (0 : Int32))))), (q9, .inl (cA 0, (8, .inl (fun _ => (0 : Int32))))), (q10, .inl (cA 0, (20, .inl (fun _ => (0 : Int32))))), (q11, .inl (cA 0, (20, .inl (fun _ => (0 : Int32))))), (q12, .inl (cA 0, (20, .inl (fun _ => (0 : Int32))))), (q13, .inl (cA 1, (20, .inl (fun _ => (0 : Int32)))))] H := hP
  have hD : va_D A [(h0, .inr (1, [.int 1, .ref q1, .ref q2, .ref q3, .ref q4, .ref q5, .ref q6, .ref q7, .int 0, .ref q8, .ref q9, .int 0, .ref q10, .ref q11, .ref q12, .ref q13, .int 0])), (q1, .inl (cA 0, (16, .inl (upd (fun _ => (0 : Int32)) 0 (-1))))), (q2, .inl (cA 0, (16, .inl (fun _ => (0 : Int32))))), (q3, .inl (cA 0, (16, .inl (fun _ => (0 : Int32))))), (q4, .inl (cA 0, (16, .inl (upd (fun _ => (0 : Int32)) 0 (-1))))), (q5, .inl (cA 1, (16, .inl (fun _ => (0 : Int32))))), (q6, .inl (cA 1, (16, .inl (fun _ => (0 : Int32))))), (q7, .inl (cA 0, (11, .inl (upd (upd (upd (upd (upd (upd (fun _ => (0 : Int32)) 1 120) 2 280) 3 490) 4 730) 5 1000) 6 1290)))), (q8, .inl (cA 0, (8, .inl (fun _ => (0 : Int32))))), (q9, .inl (cA 0, (8, .inl (fun _ => (0 : Int32))))), (q10, .inl (cA 0, (20, .inl (fun _ => (0 : Int32))))), (q11, .inl (cA 0, (20, .inl (fun _ => (0 : Int32))))), (q12, .inl (cA 0, (20, .inl (fun _ => (0 : Int32))))), (q13, .inl (cA 1, (20, .inl (fun _ => (0 : Int32)))))] := hD
  refine lv_aload_n hx hb (dd (pc := 181) rfl) rfl (lv_at hl 0 rfl) ?_
  refine va_get (D := D) (ci := 1) (C := RX1) (T := TX1) (N := 17) hx hb hts (in_lay (o := 1) (by decide)) hown hK hP 0 rfl rfl 7 (by decide) (hts _ (in_fl (q := (1, 33, 7)) (by decide +kernel))) (fun _ h9 => h9) (v := .ref q7) rfl (dd (pc := 182) rfl) ?_
  refine lv_bipush (v := 7) hx hb (dd (pc := 185) rfl) (by decide) ?_
  refine lv_sipush (v := 1600) hx hb (dd (pc := 187) rfl) (by decide) ?_
  refine va_iast (D := D) hx hb hK hP hD hS 7 0 rfl rfl (by unfold vp_in; decide) (dd (pc := 190) rfl) (fun H locs hP hD hS => ?_)
  have hP : va_P D vwCl [(h0, .inr (1, [.int 1, .ref q1, .ref q2, .ref q3, .ref q4, .ref q5, .ref q6, .ref q7, .int 0, .ref q8, .ref q9, .int 0, .ref q10, .ref q11, .ref q12, .ref q13, .int 0])), (q1, .inl (cA 0, (16, .inl (upd (fun _ => (0 : Int32)) 0 (-1))))), (q2, .inl (cA 0, (16, .inl (fun _ => (0 : Int32))))), (q3, .inl (cA 0, (16, .inl (fun _ => (0 : Int32))))), (q4, .inl (cA 0, (16, .inl (upd (fun _ => (0 : Int32)) 0 (-1))))), (q5, .inl (cA 1, (16, .inl (fun _ => (0 : Int32))))), (q6, .inl (cA 1, (16, .inl (fun _ => (0 : Int32))))), (q7, .inl (cA 0, (11, .inl (upd (upd (upd (upd (upd (upd (upd (fun _ => (0 : Int32)) 1 120) 2 280) 3 490) 4 730) 5 1000) 6 1290) 7 1600)))), (q8, .inl (cA 0, (8, .inl (fun _ => (0 : Int32))))), (q9, .inl (cA 0, (8, .inl (fun _ => (0 : Int32))))), (q10, .inl (cA 0, (20, .inl (fun _ => (0 : Int32))))), (q11, .inl (cA 0, (20, .inl (fun _ => (0 : Int32))))), (q12, .inl (cA 0, (20, .inl (fun _ => (0 : Int32))))), (q13, .inl (cA 1, (20, .inl (fun _ => (0 : Int32)))))] H := hP
  have hD : va_D A [(h0, .inr (1, [.int 1, .ref q1, .ref q2, .ref q3, .ref q4, .ref q5, .ref q6, .ref q7, .int 0, .ref q8, .ref q9, .int 0, .ref q10, .ref q11, .ref q12, .ref q13, .int 0])), (q1, .inl (cA 0, (16, .inl (upd (fun _ => (0 : Int32)) 0 (-1))))), (q2, .inl (cA 0, (16, .inl (fun _ => (0 : Int32))))), (q3, .inl (cA 0, (16, .inl (fun _ => (0 : Int32))))), (q4, .inl (cA 0, (16, .inl (upd (fun _ => (0 : Int32)) 0 (-1))))), (q5, .inl (cA 1, (16, .inl (fun _ => (0 : Int32))))), (q6, .inl (cA 1, (16, .inl (fun _ => (0 : Int32))))), (q7, .inl (cA 0, (11, .inl (upd (upd (upd (upd (upd (upd (upd (fun _ => (0 : Int32)) 1 120) 2 280) 3 490) 4 730) 5 1000) 6 1290) 7 1600)))), (q8, .inl (cA 0, (8, .inl (fun _ => (0 : Int32))))), (q9, .inl (cA 0, (8, .inl (fun _ => (0 : Int32))))), (q10, .inl (cA 0, (20, .inl (fun _ => (0 : Int32))))), (q11, .inl (cA 0, (20, .inl (fun _ => (0 : Int32))))), (q12, .inl (cA 0, (20, .inl (fun _ => (0 : Int32))))), (q13, .inl (cA 1, (20, .inl (fun _ => (0 : Int32)))))] := hD
  refine lv_aload_n hx hb (dd (pc := 191) rfl) rfl (lv_at hl 0 rfl) ?_
  refine va_get (D := D) (ci := 1) (C := RX1) (T := TX1) (N := 17) hx hb hts (in_lay (o := 1) (by decide)) hown hK hP 0 rfl rfl 7 (by decide) (hts _ (in_fl (q := (1, 33, 7)) (by decide +kernel))) (fun _ h9 => h9) (v := .ref q7) rfl (dd (pc := 192) rfl) ?_
  refine lv_bipush (v := 8) hx hb (dd (pc := 195) rfl) (by decide) ?_
  refine lv_sipush (v := 1930) hx hb (dd (pc := 197) rfl) (by decide) ?_
  refine va_iast (D := D) hx hb hK hP hD hS 7 0 rfl rfl (by unfold vp_in; decide) (dd (pc := 200) rfl) (fun H locs hP hD hS => ?_)
  have hP : va_P D vwCl [(h0, .inr (1, [.int 1, .ref q1, .ref q2, .ref q3, .ref q4, .ref q5, .ref q6, .ref q7, .int 0, .ref q8, .ref q9, .int 0, .ref q10, .ref q11, .ref q12, .ref q13, .int 0])), (q1, .inl (cA 0, (16, .inl (upd (fun _ => (0 : Int32)) 0 (-1))))), (q2, .inl (cA 0, (16, .inl (fun _ => (0 : Int32))))), (q3, .inl (cA 0, (16, .inl (fun _ => (0 : Int32))))), (q4, .inl (cA 0, (16, .inl (upd (fun _ => (0 : Int32)) 0 (-1))))), (q5, .inl (cA 1, (16, .inl (fun _ => (0 : Int32))))), (q6, .inl (cA 1, (16, .inl (fun _ => (0 : Int32))))), (q7, .inl (cA 0, (11, .inl (upd (upd (upd (upd (upd (upd (upd (upd (fun _ => (0 : Int32)) 1 120) 2 280) 3 490) 4 730) 5 1000) 6 1290) 7 1600) 8 1930)))), (q8, .inl (cA 0, (8, .inl (fun _ => (0 : Int32))))), (q9, .inl (cA 0, (8, .inl (fun _ => (0 : Int32))))), (q10, .inl (cA 0, (20, .inl (fun _ => (0 : Int32))))), (q11, .inl (cA 0, (20, .inl (fun _ => (0 : Int32))))), (q12, .inl (cA 0, (20, .inl (fun _ => (0 : Int32))))), (q13, .inl (cA 1, (20, .inl (fun _ => (0 : Int32)))))] H := hP
  have hD : va_D A [(h0, .inr (1, [.int 1, .ref q1, .ref q2, .ref q3, .ref q4, .ref q5, .ref q6, .ref q7, .int 0, .ref q8, .ref q9, .int 0, .ref q10, .ref q11, .ref q12, .ref q13, .int 0])), (q1, .inl (cA 0, (16, .inl (upd (fun _ => (0 : Int32)) 0 (-1))))), (q2, .inl (cA 0, (16, .inl (fun _ => (0 : Int32))))), (q3, .inl (cA 0, (16, .inl (fun _ => (0 : Int32))))), (q4, .inl (cA 0, (16, .inl (upd (fun _ => (0 : Int32)) 0 (-1))))), (q5, .inl (cA 1, (16, .inl (fun _ => (0 : Int32))))), (q6, .inl (cA 1, (16, .inl (fun _ => (0 : Int32))))), (q7, .inl (cA 0, (11, .inl (upd (upd (upd (upd (upd (upd (upd (upd (fun _ => (0 : Int32)) 1 120) 2 280) 3 490) 4 730) 5 1000) 6 1290) 7 1600) 8 1930)))), (q8, .inl (cA 0, (8, .inl (fun _ => (0 : Int32))))), (q9, .inl (cA 0, (8, .inl (fun _ => (0 : Int32))))), (q10, .inl (cA 0, (20, .inl (fun _ => (0 : Int32))))), (q11, .inl (cA 0, (20, .inl (fun _ => (0 : Int32))))), (q12, .inl (cA 0, (20, .inl (fun _ => (0 : Int32))))), (q13, .inl (cA 1, (20, .inl (fun _ => (0 : Int32)))))] := hD
  refine lv_aload_n hx hb (dd (pc := 201) rfl) rfl (lv_at hl 0 rfl) ?_
  refine va_get (D := D) (ci := 1) (C := RX1) (T := TX1) (N := 17) hx hb hts (in_lay (o := 1) (by decide)) hown hK hP 0 rfl rfl 7 (by decide) (hts _ (in_fl (q := (1, 33, 7)) (by decide +kernel))) (fun _ h9 => h9) (v := .ref q7) rfl (dd (pc := 202) rfl) ?_
  refine lv_bipush (v := 9) hx hb (dd (pc := 205) rfl) (by decide) ?_
  refine lv_sipush (v := 2280) hx hb (dd (pc := 207) rfl) (by decide) ?_
  refine va_iast (D := D) hx hb hK hP hD hS 7 0 rfl rfl (by unfold vp_in; decide) (dd (pc := 210) rfl) (fun H locs hP hD hS => ?_)
  have hP : va_P D vwCl [(h0, .inr (1, [.int 1, .ref q1, .ref q2, .ref q3, .ref q4, .ref q5, .ref q6, .ref q7, .int 0, .ref q8, .ref q9, .int 0, .ref q10, .ref q11, .ref q12, .ref q13, .int 0])), (q1, .inl (cA 0, (16, .inl (upd (fun _ => (0 : Int32)) 0 (-1))))), (q2, .inl (cA 0, (16, .inl (fun _ => (0 : Int32))))), (q3, .inl (cA 0, (16, .inl (fun _ => (0 : Int32))))), (q4, .inl (cA 0, (16, .inl (upd (fun _ => (0 : Int32)) 0 (-1))))), (q5, .inl (cA 1, (16, .inl (fun _ => (0 : Int32))))), (q6, .inl (cA 1, (16, .inl (fun _ => (0 : Int32))))), (q7, .inl (cA 0, (11, .inl (upd (upd (upd (upd (upd (upd (upd (upd (upd (fun _ => (0 : Int32)) 1 120) 2 280) 3 490) 4 730) 5 1000) 6 1290) 7 1600) 8 1930) 9 2280)))), (q8, .inl (cA 0, (8, .inl (fun _ => (0 : Int32))))), (q9, .inl (cA 0, (8, .inl (fun _ => (0 : Int32))))), (q10, .inl (cA 0, (20, .inl (fun _ => (0 : Int32))))), (q11, .inl (cA 0, (20, .inl (fun _ => (0 : Int32))))), (q12, .inl (cA 0, (20, .inl (fun _ => (0 : Int32))))), (q13, .inl (cA 1, (20, .inl (fun _ => (0 : Int32)))))] H := hP
  have hD : va_D A [(h0, .inr (1, [.int 1, .ref q1, .ref q2, .ref q3, .ref q4, .ref q5, .ref q6, .ref q7, .int 0, .ref q8, .ref q9, .int 0, .ref q10, .ref q11, .ref q12, .ref q13, .int 0])), (q1, .inl (cA 0, (16, .inl (upd (fun _ => (0 : Int32)) 0 (-1))))), (q2, .inl (cA 0, (16, .inl (fun _ => (0 : Int32))))), (q3, .inl (cA 0, (16, .inl (fun _ => (0 : Int32))))), (q4, .inl (cA 0, (16, .inl (upd (fun _ => (0 : Int32)) 0 (-1))))), (q5, .inl (cA 1, (16, .inl (fun _ => (0 : Int32))))), (q6, .inl (cA 1, (16, .inl (fun _ => (0 : Int32))))), (q7, .inl (cA 0, (11, .inl (upd (upd (upd (upd (upd (upd (upd (upd (upd (fun _ => (0 : Int32)) 1 120) 2 280) 3 490) 4 730) 5 1000) 6 1290) 7 1600) 8 1930) 9 2280)))), (q8, .inl (cA 0, (8, .inl (fun _ => (0 : Int32))))), (q9, .inl (cA 0, (8, .inl (fun _ => (0 : Int32))))), (q10, .inl (cA 0, (20, .inl (fun _ => (0 : Int32))))), (q11, .inl (cA 0, (20, .inl (fun _ => (0 : Int32))))), (q12, .inl (cA 0, (20, .inl (fun _ => (0 : Int32))))), (q13, .inl (cA 1, (20, .inl (fun _ => (0 : Int32)))))] := hD
  refine lv_aload_n hx hb (dd (pc := 211) rfl) rfl (lv_at hl 0 rfl) ?_
  refine va_get (D := D) (ci := 1) (C := RX1) (T := TX1) (N := 17) hx hb hts (in_lay (o := 1) (by decide)) hown hK hP 0 rfl rfl 7 (by decide) (hts _ (in_fl (q := (1, 33, 7)) (by decide +kernel))) (fun _ h9 => h9) (v := .ref q7) rfl (dd (pc := 212) rfl) ?_
  refine lv_bipush (v := 10) hx hb (dd (pc := 215) rfl) (by decide) ?_
  refine lv_sipush (v := 2650) hx hb (dd (pc := 217) rfl) (by decide) ?_
  refine va_iast (D := D) hx hb hK hP hD hS 7 0 rfl rfl (by unfold vp_in; decide) (dd (pc := 220) rfl) (fun H locs hP hD hS => ?_)
  have hP : va_P D vwCl [(h0, .inr (1, [.int 1, .ref q1, .ref q2, .ref q3, .ref q4, .ref q5, .ref q6, .ref q7, .int 0, .ref q8, .ref q9, .int 0, .ref q10, .ref q11, .ref q12, .ref q13, .int 0])), (q1, .inl (cA 0, (16, .inl (upd (fun _ => (0 : Int32)) 0 (-1))))), (q2, .inl (cA 0, (16, .inl (fun _ => (0 : Int32))))), (q3, .inl (cA 0, (16, .inl (fun _ => (0 : Int32))))), (q4, .inl (cA 0, (16, .inl (upd (fun _ => (0 : Int32)) 0 (-1))))), (q5, .inl (cA 1, (16, .inl (fun _ => (0 : Int32))))), (q6, .inl (cA 1, (16, .inl (fun _ => (0 : Int32))))), (q7, .inl (cA 0, (11, .inl (upd (upd (upd (upd (upd (upd (upd (upd (upd (upd (fun _ => (0 : Int32)) 1 120) 2 280) 3 490) 4 730) 5 1000) 6 1290) 7 1600) 8 1930) 9 2280) 10 2650)))), (q8, .inl (cA 0, (8, .inl (fun _ => (0 : Int32))))), (q9, .inl (cA 0, (8, .inl (fun _ => (0 : Int32))))), (q10, .inl (cA 0, (20, .inl (fun _ => (0 : Int32))))), (q11, .inl (cA 0, (20, .inl (fun _ => (0 : Int32))))), (q12, .inl (cA 0, (20, .inl (fun _ => (0 : Int32))))), (q13, .inl (cA 1, (20, .inl (fun _ => (0 : Int32)))))] H := hP
  have hD : va_D A [(h0, .inr (1, [.int 1, .ref q1, .ref q2, .ref q3, .ref q4, .ref q5, .ref q6, .ref q7, .int 0, .ref q8, .ref q9, .int 0, .ref q10, .ref q11, .ref q12, .ref q13, .int 0])), (q1, .inl (cA 0, (16, .inl (upd (fun _ => (0 : Int32)) 0 (-1))))), (q2, .inl (cA 0, (16, .inl (fun _ => (0 : Int32))))), (q3, .inl (cA 0, (16, .inl (fun _ => (0 : Int32))))), (q4, .inl (cA 0, (16, .inl (upd (fun _ => (0 : Int32)) 0 (-1))))), (q5, .inl (cA 1, (16, .inl (fun _ => (0 : Int32))))), (q6, .inl (cA 1, (16, .inl (fun _ => (0 : Int32))))), (q7, .inl (cA 0, (11, .inl (upd (upd (upd (upd (upd (upd (upd (upd (upd (upd (fun _ => (0 : Int32)) 1 120) 2 280) 3 490) 4 730) 5 1000) 6 1290) 7 1600) 8 1930) 9 2280) 10 2650)))), (q8, .inl (cA 0, (8, .inl (fun _ => (0 : Int32))))), (q9, .inl (cA 0, (8, .inl (fun _ => (0 : Int32))))), (q10, .inl (cA 0, (20, .inl (fun _ => (0 : Int32))))), (q11, .inl (cA 0, (20, .inl (fun _ => (0 : Int32))))), (q12, .inl (cA 0, (20, .inl (fun _ => (0 : Int32))))), (q13, .inl (cA 1, (20, .inl (fun _ => (0 : Int32)))))] := hD
  exact W.vret hx hb hr (fun t ht hW => ⟨⟨(), rfl, trivial, q1, q2, q3, q4, q5, q6, q7, q8, q9, q10, q11, q12, q13, by rw [ht]; exact hP, hD⟩, hS.F ht⟩) hS.2.2 (dd (pc := 221) rfl)
end CT
end
section
def srW (q : Nat × Nat × Nat × Nat × String) : Cond := .stringRef RX0 q.2.1 q.2.2.2.2
set_option maxRecDepth 100000 in
theorem p_sr : SLs.map (fun q => some (srW q)) = ([329, 349, 378, 453, 268, 484, 249, 293, 348, 452, 423, 209] : List Nat).map (fun j => lw_tbl[j]?) := by decide +kernel
def evW : List Cond := [.laysStatic RX0 "FACTORS" "[I", .laysStatic Bundle.tN "UNASSIGNED_STACK" Bundle.steD, .laysStatic Bundle.tN "SUPPRESSED_SENTINEL" Bundle.listD, .initialized Bundle.tN, .initialized RX0, .castable (exN 0) (exN 0), .castable (exN 1) (exN 1), .castable (exN 2) (exN 2), .declares (Bundle.initS "java/lang/RuntimeException"), .declares (Bundle.initS "java/lang/Exception"), .declares (Bundle.initS "java/lang/Throwable")]
set_option maxRecDepth 100000 in
theorem p_ev : evW.map some = ([154, 195, 197, 47, 45, 170, 242, 261, 172, 174, 176] : List Nat).map (fun j => lw_tbl[j]?) := by decide +kernel
theorem ev_in {w : Cond} (i : Nat) (h : evW[i]? = some w) : w ∈ lw_tbl := tbl_of p_ev (List.mem_of_getElem? h)
theorem arr_k {args : Array Value} {s : State} {ty : FieldType} (h : (Cond.arrayClass ty).before args s = true) (hr : ∀ cA : ClassId, s.vm.findClass ("[" ++ ty.toString) = some cA → va_RA s cA ty) : ∃ cA : ClassId, ArrOfT s cA ty ∧ va_RA s cA ty := by
  obtain ⟨cA, kA, comp, h1, h2, h3⟩ := Cond.arrayClass_spec h
  exact ⟨cA, fun n z => ⟨fun k h => (by cases h), kA, h2, comp, h3⟩, hr cA h1⟩
set_option maxHeartbeats 4000000 in
set_option maxRecDepth 100000 in
theorem law_ev {s : State} {b L : Nat} {xs : Nat → Int32} (hts : ∀ w ∈ lw_tbl, w.before #[Value.ref b] s = true) (hgv : (Jvm.Cond.and given_1 narrow_1).before #[Value.ref b] s = true) (hX : va_X b L xs s s.heap) (hbl : b < s.heap.size) : ∃ (D : va_G) (cA : Nat → ClassId) (t : Nat), Ev D cA s.heap.size b L xs t s s.heap := by
  have hs := flat_of_before _ hgv
  have htt : ∀ w ∈ TT, w.before #[Value.ref b] s = true := fun w h => hts w (TT_in h)
  have hA : ∀ a : Nat, a < s.heap.size → ¬ Ar s.heap.size a := fun a h => Nat.not_le.mpr h
  obtain ⟨c0, iS0, hKn0⟩ := u_known (C := RX0) (T := TX0) (N := 17) (n := 17) htt (in_lay (o := 0) (by decide)) (hts _ (lt_in 7 rfl))
  obtain ⟨c1, iS1, hKn1⟩ := u_known (C := RX1) (T := TX1) (N := 17) (n := 17) htt (in_lay (o := 1) (by decide)) (hts _ (lt_in 8 rfl))
  obtain ⟨D, hKc⟩ : ∃ D : va_G, ∀ (k : Nat) (q : vw_C), vwCl[k]? = some q → u_Kn s q.1 q.2.1 q.2.2 (D.1 k) (D.2 k) := by
    refine ⟨(fun k => if k = 0 then c0 else c1, fun k => if k = 0 then iS0 else iS1), ?_⟩
    intro k q hq
    match k, hq with
    | 0, hq => cases hq; exact hKn0
    | 1, hq => cases hq; exact hKn1
    | k + 2, hq => simp [vwCl] at hq
  obtain ⟨a0, g0, r0⟩ := arr_k (ty := .int) (htt _ (ct_in 0 rfl)) (fun _ h => h)
  obtain ⟨a1, g1, r1⟩ := arr_k (ty := .boolean) (htt _ (ct_in 1 rfl)) (fun _ h => h)
  obtain ⟨a2, g2, r2⟩ := arr_k (ty := .long) (hts _ (lt_in 0 rfl)) (fun _ h => h)
  have hK : va_K D vwCl [(a0, .int), (a1, .boolean), (a2, .long)] s := by
    refine ⟨hKc, fun k q hq => ?_⟩
    match k, hq with
    | 0, hq => cases hq; exact ⟨g0, r0⟩
    | 1, hq => cases hq; exact ⟨g1, r1⟩
    | 2, hq => cases hq; exact ⟨g2, r2⟩
    | k + 3, hq => simp at hq
  have harr : (Cond.arrayOf (.static RX0 "FACTORS" "[I") .int).before #[Value.ref b] s = true := hs _ (by decide +kernel)
  have hlen : (Cond.eq (.length (.static RX0 "FACTORS" "[I")) (.int 11)).before #[Value.ref b] s = true := hs _ (by decide +kernel)
  have e0 : (Cond.eq (.elem (.static RX0 "FACTORS" "[I") (.int 0)) (.int 0)).before #[Value.ref b] s = true := hs _ (by decide +kernel)
  have e1 : (Cond.eq (.elem (.static RX0 "FACTORS" "[I") (.int 1)) (.int 120)).before #[Value.ref b] s = true := hs _ (by decide +kernel)
  have e2 : (Cond.eq (.elem (.static RX0 "FACTORS" "[I") (.int 2)) (.int 280)).before #[Value.ref b] s = true := hs _ (by decide +kernel)
  have e3 : (Cond.eq (.elem (.static RX0 "FACTORS" "[I") (.int 3)) (.int 490)).before #[Value.ref b] s = true := hs _ (by decide +kernel)
  have e4 : (Cond.eq (.elem (.static RX0 "FACTORS" "[I") (.int 4)) (.int 730)).before #[Value.ref b] s = true := hs _ (by decide +kernel)
  have e5 : (Cond.eq (.elem (.static RX0 "FACTORS" "[I") (.int 5)) (.int 1000)).before #[Value.ref b] s = true := hs _ (by decide +kernel)
  have e6 : (Cond.eq (.elem (.static RX0 "FACTORS" "[I") (.int 6)) (.int 1290)).before #[Value.ref b] s = true := hs _ (by decide +kernel)
  have e7 : (Cond.eq (.elem (.static RX0 "FACTORS" "[I") (.int 7)) (.int 1600)).before #[Value.ref b] s = true := hs _ (by decide +kernel)
  have e8 : (Cond.eq (.elem (.static RX0 "FACTORS" "[I") (.int 8)) (.int 1930)).before #[Value.ref b] s = true := hs _ (by decide +kernel)
  have e9 : (Cond.eq (.elem (.static RX0 "FACTORS" "[I") (.int 9)) (.int 2280)).before #[Value.ref b] s = true := hs _ (by decide +kernel)
  have e10 : (Cond.eq (.elem (.static RX0 "FACTORS" "[I") (.int 10)) (.int 2650)).before #[Value.ref b] s = true := hs _ (by decide +kernel)
  obtain ⟨t, ht, hT⟩ := va_Tof (ty := .int) (N := 11) (f := fun j => .int (fcv j)) (A := Ar s.heap.size) (by decide) harr (va_eqt hlen) (fun j hj => by
    rcases (show j = 0 ∨ j = 1 ∨ j = 2 ∨ j = 3 ∨ j = 4 ∨ j = 5 ∨ j = 6 ∨ j = 7 ∨ j = 8 ∨ j = 9 ∨ j = 10 by omega) with rfl | rfl | rfl | rfl | rfl | rfl | rfl | rfl | rfl | rfl | rfl
    · exact va_eqt e0
    · exact va_eqt e1
    · exact va_eqt e2
    · exact va_eqt e3
    · exact va_eqt e4
    · exact va_eqt e5
    · exact va_eqt e6
    · exact va_eqt e7
    · exact va_eqt e8
    · exact va_eqt e9
    · exact va_eqt e10) hA
  have hst : ∀ k : Nat, (Cond.exactly (.string RX0 k) "java/lang/String").before #[Value.ref b] s = true → ∃ sa : Nat, (Term.string RX0 k).eval #[Value.ref b] s none [] s = some (.ref sa) := by
    intro k h
    obtain ⟨a, c, cA, kA, q1, -⟩ := Cond.exactly_spec h
    exact ⟨a, q1⟩
  have hsr : ∀ q ∈ SLs, ∃ sa, vk_R RX0 q.2.1 q.2.2.2.2 sa s := by
    intro q hq
    have h1 : (srW q).before #[Value.ref b] s = true := hts _ (at_tbl p_sr hq)
    have h2 : (Cond.exactly (.string RX0 q.2.1) "java/lang/String").before #[Value.ref b] s = true := by
      simp only [SLs, List.mem_cons, List.not_mem_nil, or_false] at hq
      rcases hq with rfl | rfl | rfl | rfl | rfl | rfl | rfl | rfl | rfl | rfl | rfl | rfl <;> exact hs _ (by decide +kernel)
    obtain ⟨sa, h3⟩ := hst _ h2
    exact ⟨sa, vk_R.of h1 h3⟩
  have hz1 : (Cond.isRef (.static Bundle.tN "UNASSIGNED_STACK" Bundle.steD)).before #[Value.ref b] s = true := hs _ (by decide +kernel)
  have hz2 : (Cond.isRef (.static Bundle.tN "SUPPRESSED_SENTINEL" Bundle.listD)).before #[Value.ref b] s = true := hs _ (by decide +kernel)
  have n01 : (Cond.not (.castable (exN 0) (exN 1))).before #[Value.ref b] s = true := hs _ (by decide +kernel)
  have n02 : (Cond.not (.castable (exN 0) (exN 2))).before #[Value.ref b] s = true := hs _ (by decide +kernel)
  have n10 : (Cond.not (.castable (exN 1) (exN 0))).before #[Value.ref b] s = true := hs _ (by decide +kernel)
  have n12 : (Cond.not (.castable (exN 1) (exN 2))).before #[Value.ref b] s = true := hs _ (by decide +kernel)
  have n20 : (Cond.not (.castable (exN 2) (exN 0))).before #[Value.ref b] s = true := hs _ (by decide +kernel)
  have n21 : (Cond.not (.castable (exN 2) (exN 1))).before #[Value.ref b] s = true := hs _ (by decide +kernel)
  refine ⟨D, fun i => if i = 0 then a0 else if i = 1 then a1 else a2, t, hK, va_Zof (hts _ (ev_in 0 rfl)) (hts _ (ev_in 4 rfl)) ht hA, hT, vx_Zqof (hts _ (ev_in 1 rfl)) (hts _ (ev_in 3 rfl)) hz1 hA, vx_Zqof (hts _ (ev_in 2 rfl)) (hts _ (ev_in 3 rfl)) hz2 hA, hX, hbl, hsr, ?_, ?_, ?_⟩
  · intro x hx
    simp only [bwN, List.mem_cons, List.not_mem_nil, or_false] at hx
    rcases hx with rfl | rfl | rfl
    · exact va_Nw.of rfl (hts _ (ev_in 8 rfl))
    · exact va_Nw.of rfl (hts _ (ev_in 9 rfl))
    · exact va_Nw.of rfl (hts _ (ev_in 10 rfl))
  · intro e he
    rcases (show e = 0 ∨ e = 1 ∨ e = 2 by omega) with rfl | rfl | rfl
    · exact va_Nw.of rfl (hts _ (ev_in 5 rfl))
    · exact va_Nw.of rfl (hts _ (ev_in 6 rfl))
    · exact va_Nw.of rfl (hts _ (ev_in 7 rfl))
  · intro e f he hf hef
    rcases (show (e = 0 ∧ f = 1) ∨ (e = 0 ∧ f = 2) ∨ (e = 1 ∧ f = 0) ∨ (e = 1 ∧ f = 2) ∨ (e = 2 ∧ f = 0) ∨ (e = 2 ∧ f = 1) by omega) with ⟨rfl, rfl⟩ | ⟨rfl, rfl⟩ | ⟨rfl, rfl⟩ | ⟨rfl, rfl⟩ | ⟨rfl, rfl⟩ | ⟨rfl, rfl⟩
    · exact va_Nc.of n01
    · exact va_Nc.of n02
    · exact va_Nc.of n10
    · exact va_Nc.of n12
    · exact va_Nc.of n20
    · exact va_Nc.of n21
def S0 : PS := (fun _ k => match k with
  | 0 => 1
  | _ => 0, fun i => match i with
  | 1 => (upd (fun _ => (0 : Int32)) 0 1)
  | 13 => (upd (fun _ => (0 : Int32)) 0 (-1))
  | 16 => (upd (fun _ => (0 : Int32)) 0 (-1))
  | 19 => (upd (upd (upd (upd (upd (upd (upd (upd (upd (upd (fun _ => (0 : Int32)) 1 120) 2 280) 3 490) 4 730) 5 1000) 6 1290) 7 1600) 8 1930) 9 2280) 10 2650)
  | _ => (fun _ => (0 : Int32)), fun _ => (0 : Int64))
theorem J_0 : J S0 1 0 0 := by
  refine ⟨⟨rfl, by decide, rfl, by decide, fun k _ => Or.inr ⟨0, by decide, rfl⟩⟩, ⟨rfl, by decide, rfl⟩, ⟨⟨rfl, by decide, by decide, rfl, by decide⟩, ⟨by decide, fun k h0 h1 => absurd h1 (by omega)⟩, ⟨rfl, rfl, ?_, ?_, fun k _ => Or.inr ⟨0, by decide, rfl⟩⟩, ⟨rfl, rfl, rfl, rfl, rfl⟩, ⟨fun k hk => (bi_f (hs_0 (by omega))).symm, hs_0 (by decide)⟩, fun k hk => (bi_f (hs_0 (by omega))).symm⟩, fun k hk => (bi_f (hs_0 (by omega))).symm, ⟨fun a h => absurd h (by omega), fun a _ _ => rfl⟩, fun b h => absurd h (by omega), fun b h => absurd h (by omega)⟩
  · intro k h0 _
    exact if_neg (by omega)
  · intro j hj
    rcases (show j = 0 ∨ j = 1 ∨ j = 2 ∨ j = 3 ∨ j = 4 ∨ j = 5 ∨ j = 6 ∨ j = 7 ∨ j = 8 ∨ j = 9 ∨ j = 10 by omega) with rfl | rfl | rfl | rfl | rfl | rfl | rfl | rfl | rfl | rfl | rfl <;> decide
theorem JJ_0 : JJ S0 := ⟨1, 0, 0, J_0⟩
end
section
def R_law : String := "DistrictmeterLaw"
def lw_P (b : Addr) (xs : List Int32) (args : Array Value) (s : State) : Prop := args = #[.ref b] ∧ s.IntsAt b xs ∧ xs.length ≤ 2048 ∧ (Jvm.Cond.and given_1 narrow_1).before args s = true
def lw_Q (_ : Array Value) (s : State) (o : Outcome) (t : State) : Prop := o = .returned (some (.int 1)) ∧ Framed s o t [] 1063 8682
def lw_Z (below : List Frame) (a : Array Value) (s : State) : State → Prop := fun t => ∃ o, t.status = .running ∧ Ended t below o ∧ lw_Q a s o t
theorem lw_ret {p : Program} {l : Launch} {e : Env} {s : State} {m : MethodId} {below : List Frame} {meth : Method} {c : Code} {b : Nat} (hx : p.tables.exec = Jvm.exec) (hb : c.code = code) (hr : meth.sig.returnType = ret) (hlocks : meth.locks = false) {pc : Nat} {H : Heap} {ls : Array Slot} (hdg : decode code pc = .ok (.ireturn, 1)) : W p l e room_1 s m #[Value.ref b] below meth c H [] 1063 8682 (lw_Z below #[Value.ref b] s) (F0 m pc ls [.int 1]) := by
  intro T hT X
  obtain ⟨fs, hret, hrun, hended, hW, hframe⟩ := X.leave (v := some (.int 1)) (hlocks := hlocks) (fun h => by rw [hr] at h; cases h)
  have hmeth' : T.vm.method? m = some meth := X.method'
  refine ⟨T.setFrames fs, ?_, .returned (some (.int 1)), hrun, hended, rfl, ⟨_, rfl⟩, hW, hframe⟩
  jvm_step X.here [X.here.top, hx, hb, hdg, hmeth', hr, ret, narrow_b1]
  (try refine ⟨rfl, ?_⟩); (try refine ⟨rfl, ?_⟩)
  first | (intro acts; rw [hret _ acts rfl rfl rfl]) | rw [hret _ _ rfl rfl rfl]
  exact Steps.refl _
def lw_At (p : Program) (s : State) (m : MethodId) (meth : Method) (c : Code) (b L : Nat) (xs : Nat → Int32) : Prop :=
  p.tables.exec = Jvm.exec ∧ c.code = code ∧ meth.sig.returnType = ret ∧ c.maxLocals = 7 ∧ s.vm.findClass R_law = some m.cls ∧ (∀ w ∈ lw_tbl, w.before #[Value.ref b] s = true) ∧ va_X b L xs s s.heap ∧ b < s.heap.size ∧ meth.locks = false ∧ (Jvm.Cond.and given_1 narrow_1).before #[Value.ref b] s = true ∧ c.exceptionTable.toList = []
theorem no_traces (l : Launch) (h : l.flags = flags0) : l.stackTraces = false := by
  unfold Launch.stackTraces
  rw [h]
  decide +kernel
set_option maxHeartbeats 4000000 in
set_option maxRecDepth 100000 in
theorem law_run {p : Program} {e : Env} {s : State} {m : MethodId} {below : List Frame} {meth : Method} {c : Code} (l : Launch) (hflags : l.flags = flags0) {b L t : Nat} {xs : Nat → Int32} {D : va_G} {cA : Nat → ClassId} {ad : Nat → Nat} (hL : L ≤ 2048) (C0 : lw_At p s m meth c b L xs) (hEv : Ev D cA s.heap.size b L xs t s s.heap)
    {H : Heap} {locs : List Loc} {ls : Array Slot} (hP : va_P D vwCl (wld ad cA S0) H) (hD : va_D (Ar s.heap.size) (wld ad cA S0)) (hS : va_S (Ar s.heap.size) s.heap H locs) (hl : lv_has ls 7 [(4, .int 0), (0, .ref b), (1, .ref (ad 0)), (2, .ref (ad 12)), (3, .ref (ad 26))]) : W p l e room_1 s m #[Value.ref b] below meth c H locs 27 418 (lw_Z below #[Value.ref b] s) (F0 m 23 ls []) := by
  obtain ⟨hx, hb, hr, hml, hown, hts, hX, hbl, hlocks, hgv, htab⟩ := id C0
  have hAd : Ad ad s.heap.size b := ⟨fun i j hi hj he => hD.1 i j _ _ (wld_at hi) (wld_at hj) he, fun i hi => hD.2 i _ (wld_at hi), hbl⟩
  have C : Cx 120 D cA ad s.heap.size b L xs t 27 418 512 p l room_1 s m #[Value.ref b] c := ⟨hx, hb, hml, hown, fun w h => hts w (TT_in h), hEv, hAd, Nat.le_refl _, no_traces l hflags, htab, rfl, rfl, Nat.le_of_ble_eq_true rfl, Nat.le_of_ble_eq_true rfl⟩
  have hE : En D cA ad s.heap.size 27 418 512 120 (fun _ r _ => r = .inl (some (nI 1))) p l e room_1 s m #[Value.ref b] below meth c (lw_Z below #[Value.ref b] s) := by
    refine ⟨?_, ?_, ?_, ?_⟩
    · intro k v S pc H locs Lx hPP hk hn hd hP hS
      have hv : v = nI 1 := Option.some.inj (Sum.inl.inj hPP)
      subst hv
      refine va_forget (fun q hq => hS.2.2 q hq) ?_
      refine W.widen (k := 1063) (n := 8682) (by omega) (by omega) ?_
      exact lw_ret hx hb hr hlocks hd
    · intro k S pc H locs Lx hPP
      cases hPP
    · intro k ex S pc ik H locs Lx rest hPP
      cases hPP
    · intro k ex S pc H locs Lx rest q ce hPP
      cases hPP
  have hG : Cl 120 L xs 512 (fun _ r _ => r = .inl (some (nI 1))) (Go D cA ad s.heap.size b t 27 418 512 120 p l e room_1 s m #[Value.ref b] below meth c (lw_Z below #[Value.ref b] s)) := ⟨fun k pc q ls st S hq hs => go_step (by decide) (by decide) (by decide) C hE hq hs, fun k pc ls ls' st S hs g => go_weak hs g⟩
  have g := law_head hG hL (fun _ _ => rfl) 512 0 0 S0 (by omega) (by omega) (Nat.le_refl _) JJ_0
  exact g (Nat.zero_le _) H locs ls hP hS hl
set_option maxHeartbeats 8000000 in
set_option maxRecDepth 100000 in
theorem whole_start {p : Program} {e : Env} {s : State} {m : MethodId} {below : List Frame} {meth : Method} {c : Code} (l : Launch) (hflags : l.flags = flags0) {b L : Nat} {xs : Nat → Int32} (hL : L ≤ 2048) (C0 : lw_At p s m meth c b L xs) : W p l e room_1 s m #[Value.ref b] below meth c s.heap [] 0 0 (lw_Z below #[Value.ref b] s) (entryFrame m ([Value.ref b] : List Value).toArray 7) := by
  obtain ⟨hx, hb, hr, hml, hown0, hts, hX, hbl, hlocks, hgv, htab⟩ := id C0
  have hown : s.vm.findClass RL = some m.cls := hown0
  have hA : ∀ q : Nat, s.heap.size ≤ q → Ar s.heap.size q := fun _ h => h
  have htt : ∀ w ∈ TT, w.before #[Value.ref b] s = true := fun w h => hts w (TT_in h)
  obtain ⟨D, cA, t, hEv⟩ := law_ev hts hgv hX hbl
  have hK : va_K D vwCl (tyA cA) s := hEv.1
  have hS : va_S (Ar s.heap.size) s.heap s.heap [] := va_S.rf
  have hP : va_P D vwCl [] s.heap := fun k q h => by simp at h
  have hD : va_D (Ar s.heap.size) [] := ⟨fun i j p q h => by simp at h, fun k q h => by simp at h⟩
  have dd : ∀ {pc nx ax : Nat} {ins : Instr}, lkp (pg 120) pc = some (ins, nx, ax) → decode code pc = .ok (ins, ln ins) := fun h => (row_ok (i := 120) (by decide) h).1
  have hl := lv_entry ([.ref b]) (n := 7) (Nat.le_of_ble_eq_true rfl)
  rw [lg_entry_eq]
  generalize (lg_sl ([.ref b]) ++ List.replicate (7 - (lg_sl ([.ref b])).length) Slot.unset).toArray = ls at hl ⊢
  have hl : lv_has ls 7 [(0, .ref b)] := hl
  refine va_new (D := D) (ci := 0) (fs := [.int 0, .null, .null, .null, .null, .int 0, .int 0, .int 0, .null, .null, .int 0, .null, .null, .null, .int 0, .null, .null]) (C := RX0) (T := TX0) (N := 17) hx hb htt (in_lay (o := 0) (by decide)) tyX0 tyX0_ok hown (hts _ (lt_in 5 rfl)) (hts _ (lt_in 7 rfl)) (hts _ (lt_in 9 rfl)) hK hP hD hS hA rfl (fun j hj => by rcases (show j = 0 ∨ j = 1 ∨ j = 2 ∨ j = 3 ∨ j = 4 ∨ j = 5 ∨ j = 6 ∨ j = 7 ∨ j = 8 ∨ j = 9 ∨ j = 10 ∨ j = 11 ∨ j = 12 ∨ j = 13 ∨ j = 14 ∨ j = 15 ∨ j = 16 by omega) with rfl | rfl | rfl | rfl | rfl | rfl | rfl | rfl | rfl | rfl | rfl | rfl | rfl | rfl | rfl | rfl | rfl <;> rfl) (Nat.le_of_ble_eq_true rfl) (Nat.le_of_ble_eq_true rfl) (dd (pc := 0) rfl) (fun h0 H hP hD hS => ?_)
  have hP : va_P D vwCl [(h0, .inr (0, [.int 0, .null, .null, .null, .null, .int 0, .int 0, .int 0, .null, .null, .int 0, .null, .null, .null, .int 0, .null, .null]))] H := hP
  have hD : va_D (Ar s.heap.size) [(h0, .inr (0, [.int 0, .null, .null, .null, .null, .int 0, .int 0, .int 0, .null, .null, .int 0, .null, .null, .null, .int 0, .null, .null]))] := hD
  refine W.widen (k := 1) (n := 17) (by omega) (by omega) ?_
  refine lv_dup hx hb (dd (pc := 3) rfl) rfl ?_
  have hPc := hP.sub (ws' := stX h0) [0] rfl
  have hDc := hD.sub (ws' := stX h0) [0] (by decide) rfl
  have hFc := va_free (wc := stX h0) hD hS hA [0] rfl
  refine va_callv (va_runI (As := []) (rest := [.ref h0]) ⟨hx, hb, hml, hown, htt⟩ (ct_X l D cA h0 H.size) (cwI 0 htt (good_TT (fun w h => (List.mem_cons.mp h).elim (fun e => by rw [e]; exact ct_in 6 rfl) id)) rfl rfl rfl (hts _ (lt_in 9 rfl)) (hts _ (lt_in 1 rfl)) (hts _ (lt_in 3 rfl)) rfl (by decide +kernel) ⟨Nat.le_of_ble_eq_true rfl, Nat.le_of_ble_eq_true rfl⟩) ⟨fun a U g mk q => by obtain ⟨q0, q1, qP, qK, qD⟩ := q; exact ⟨q0, q1, qP, va_K.moved (u := U) (U := U.calling g mk a) (Vm.Alike.refl U.vm) qK, qD⟩, fun U hU hW => ⟨rfl, by rw [hU], by rw [hU]; exact hPc, va_K.moved hW.alike hK, hDc.weaken (fun _ _ _ _ => trivial)⟩⟩ rfl rfl hl.1 rfl (lv_room (Nat.le_of_ble_eq_true rfl)) (dd (pc := 4) rfl) ⟨Nat.le_of_ble_eq_true rfl, Nat.le_of_ble_eq_true rfl⟩) hS (fun q _ h => hFc q h) hFc (fun u t1 H1 locs ht hvm hw hB hz1 hk1 hS => ?_)
  obtain ⟨q1, q2, q3, q4, q5, q6, q7, q8, q9, q10, q11, hP1, hD1⟩ := hB
  rw [ht] at hP1
  obtain ⟨hP, hD⟩ := va_join (wr := []) (w1 := wldX cA h0 q1 q2 q3 q4 q5 q6 q7 q8 q9 q10 q11) hP hD [0] [] rfl rfl (by decide) (by decide) hk1 hFc hP1 hD1
  generalize H1 = H at hP hS ⊢
  have hP : va_P D vwCl [(h0, .inr (0, [.int 1, .ref q1, .ref q2, .ref q3, .ref q4, .int 0, .int 0, .int 0, .ref q5, .ref q6, .int 0, .ref q7, .ref q8, .ref q9, .int 0, .ref q10, .ref q11])), (q1, .inl (cA 0, (16, .inl (upd (fun _ => (0 : Int32)) 0 1)))), (q2, .inl (cA 0, (16, .inl (fun _ => (0 : Int32))))), (q3, .inl (cA 0, (16, .inl (fun _ => (0 : Int32))))), (q4, .inl (cA 0, (16, .inl (fun _ => (0 : Int32))))), (q5, .inl (cA 0, (8, .inl (fun _ => (0 : Int32))))), (q6, .inl (cA 0, (8, .inl (fun _ => (0 : Int32))))), (q7, .inl (cA 0, (20, .inl (fun _ => (0 : Int32))))), (q8, .inl (cA 0, (20, .inl (fun _ => (0 : Int32))))), (q9, .inl (cA 0, (20, .inl (fun _ => (0 : Int32))))), (q10, .inl (cA 0, (20, .inl (fun _ => (0 : Int32))))), (q11, .inl (cA 0, (20, .inl (fun _ => (0 : Int32)))))] H := hP
  have hD : va_D (Ar s.heap.size) [(h0, .inr (0, [.int 1, .ref q1, .ref q2, .ref q3, .ref q4, .int 0, .int 0, .int 0, .ref q5, .ref q6, .int 0, .ref q7, .ref q8, .ref q9, .int 0, .ref q10, .ref q11])), (q1, .inl (cA 0, (16, .inl (upd (fun _ => (0 : Int32)) 0 1)))), (q2, .inl (cA 0, (16, .inl (fun _ => (0 : Int32))))), (q3, .inl (cA 0, (16, .inl (fun _ => (0 : Int32))))), (q4, .inl (cA 0, (16, .inl (fun _ => (0 : Int32))))), (q5, .inl (cA 0, (8, .inl (fun _ => (0 : Int32))))), (q6, .inl (cA 0, (8, .inl (fun _ => (0 : Int32))))), (q7, .inl (cA 0, (20, .inl (fun _ => (0 : Int32))))), (q8, .inl (cA 0, (20, .inl (fun _ => (0 : Int32))))), (q9, .inl (cA 0, (20, .inl (fun _ => (0 : Int32))))), (q10, .inl (cA 0, (20, .inl (fun _ => (0 : Int32))))), (q11, .inl (cA 0, (20, .inl (fun _ => (0 : Int32)))))] := hD
  refine W.widen (k := 12) (n := 197) (by omega) (by omega) ?_
  refine lv_astore_n (lv' := [(1, .ref h0), (0, .ref b)]) hx hb (dd (pc := 7) rfl) rfl hl (by decide) rfl (fun ls hl => ?_)
  refine va_new (D := D) (ci := 1) (fs := [.int 0, .null, .null, .null, .null, .null, .null, .null, .int 0, .null, .null, .int 0, .null, .null, .null, .null, .int 0]) (C := RX1) (T := TX1) (N := 17) hx hb htt (in_lay (o := 1) (by decide)) tyX1 tyX1_ok hown (hts _ (lt_in 6 rfl)) (hts _ (lt_in 8 rfl)) (hts _ (lt_in 10 rfl)) hK hP hD hS hA rfl (fun j hj => by rcases (show j = 0 ∨ j = 1 ∨ j = 2 ∨ j = 3 ∨ j = 4 ∨ j = 5 ∨ j = 6 ∨ j = 7 ∨ j = 8 ∨ j = 9 ∨ j = 10 ∨ j = 11 ∨ j = 12 ∨ j = 13 ∨ j = 14 ∨ j = 15 ∨ j = 16 by omega) with rfl | rfl | rfl | rfl | rfl | rfl | rfl | rfl | rfl | rfl | rfl | rfl | rfl | rfl | rfl | rfl | rfl <;> rfl) (Nat.le_of_ble_eq_true rfl) (Nat.le_of_ble_eq_true rfl) (dd (pc := 8) rfl) (fun h1 H hP hD hS => ?_)
  have hP : va_P D vwCl [(h0, .inr (0, [.int 1, .ref q1, .ref q2, .ref q3, .ref q4, .int 0, .int 0, .int 0, .ref q5, .ref q6, .int 0, .ref q7, .ref q8, .ref q9, .int 0, .ref q10, .ref q11])), (q1, .inl (cA 0, (16, .inl (upd (fun _ => (0 : Int32)) 0 1)))), (q2, .inl (cA 0, (16, .inl (fun _ => (0 : Int32))))), (q3, .inl (cA 0, (16, .inl (fun _ => (0 : Int32))))), (q4, .inl (cA 0, (16, .inl (fun _ => (0 : Int32))))), (q5, .inl (cA 0, (8, .inl (fun _ => (0 : Int32))))), (q6, .inl (cA 0, (8, .inl (fun _ => (0 : Int32))))), (q7, .inl (cA 0, (20, .inl (fun _ => (0 : Int32))))), (q8, .inl (cA 0, (20, .inl (fun _ => (0 : Int32))))), (q9, .inl (cA 0, (20, .inl (fun _ => (0 : Int32))))), (q10, .inl (cA 0, (20, .inl (fun _ => (0 : Int32))))), (q11, .inl (cA 0, (20, .inl (fun _ => (0 : Int32))))), (h1, .inr (1, [.int 0, .null, .null, .null, .null, .null, .null, .null, .int 0, .null, .null, .int 0, .null, .null, .null, .null, .int 0]))] H := hP
  have hD : va_D (Ar s.heap.size) [(h0, .inr (0, [.int 1, .ref q1, .ref q2, .ref q3, .ref q4, .int 0, .int 0, .int 0, .ref q5, .ref q6, .int 0, .ref q7, .ref q8, .ref q9, .int 0, .ref q10, .ref q11])), (q1, .inl (cA 0, (16, .inl (upd (fun _ => (0 : Int32)) 0 1)))), (q2, .inl (cA 0, (16, .inl (fun _ => (0 : Int32))))), (q3, .inl (cA 0, (16, .inl (fun _ => (0 : Int32))))), (q4, .inl (cA 0, (16, .inl (fun _ => (0 : Int32))))), (q5, .inl (cA 0, (8, .inl (fun _ => (0 : Int32))))), (q6, .inl (cA 0, (8, .inl (fun _ => (0 : Int32))))), (q7, .inl (cA 0, (20, .inl (fun _ => (0 : Int32))))), (q8, .inl (cA 0, (20, .inl (fun _ => (0 : Int32))))), (q9, .inl (cA 0, (20, .inl (fun _ => (0 : Int32))))), (q10, .inl (cA 0, (20, .inl (fun _ => (0 : Int32))))), (q11, .inl (cA 0, (20, .inl (fun _ => (0 : Int32))))), (h1, .inr (1, [.int 0, .null, .null, .null, .null, .null, .null, .null, .int 0, .null, .null, .int 0, .null, .null, .null, .null, .int 0]))] := hD
  refine W.widen (k := 13) (n := 214) (by omega) (by omega) ?_
  refine lv_dup hx hb (dd (pc := 11) rfl) rfl ?_
  have hPc := hP.sub (ws' := stM h1) [12] rfl
  have hDc := hD.sub (ws' := stM h1) [12] (by decide) rfl
  have hFc := va_free (wc := stM h1) hD hS hA [12] rfl
  refine va_callv (va_runI (As := []) (rest := [.ref h1]) ⟨hx, hb, hml, hown, htt⟩ (ct_M l D cA h1 H.size) (cwI 0 htt (good_TT (fun w h => (List.mem_cons.mp h).elim (fun e => by rw [e]; exact ct_in 7 rfl) id)) rfl rfl rfl (hts _ (lt_in 10 rfl)) (hts _ (lt_in 2 rfl)) (hts _ (lt_in 4 rfl)) rfl (by decide +kernel) ⟨Nat.le_of_ble_eq_true rfl, Nat.le_of_ble_eq_true rfl⟩) ⟨fun a U g mk q => by obtain ⟨q0, q1, qP, qK, qD⟩ := q; exact ⟨q0, q1, qP, va_K.moved (u := U) (U := U.calling g mk a) (Vm.Alike.refl U.vm) qK, qD⟩, fun U hU hW => ⟨rfl, by rw [hU], by rw [hU]; exact hPc, va_K.moved hW.alike hK, hDc.weaken (fun _ _ _ _ => trivial)⟩⟩ rfl rfl hl.1 rfl (lv_room (Nat.le_of_ble_eq_true rfl)) (dd (pc := 12) rfl) ⟨Nat.le_of_ble_eq_true rfl, Nat.le_of_ble_eq_true rfl⟩) hS (fun q _ h => hFc q h) hFc (fun u t1 H1 locs ht hvm hw hB hz1 hk1 hS => ?_)
  obtain ⟨g1, g2, g3, g4, g5, g6, g7, g8, g9, g10, g11, g12, g13, hP1, hD1⟩ := hB
  rw [ht] at hP1
  obtain ⟨hP, hD⟩ := va_join (wr := wldX cA h0 q1 q2 q3 q4 q5 q6 q7 q8 q9 q10 q11) (w1 := wldM cA h1 g1 g2 g3 g4 g5 g6 g7 g8 g9 g10 g11 g12 g13) hP hD [12] [0, 1, 2, 3, 4, 5, 6, 7, 8, 9, 10, 11] rfl rfl (by decide) (by decide) hk1 hFc hP1 hD1
  generalize H1 = H at hP hS ⊢
  have hP : va_P D vwCl [(h0, .inr (0, [.int 1, .ref q1, .ref q2, .ref q3, .ref q4, .int 0, .int 0, .int 0, .ref q5, .ref q6, .int 0, .ref q7, .ref q8, .ref q9, .int 0, .ref q10, .ref q11])), (q1, .inl (cA 0, (16, .inl (upd (fun _ => (0 : Int32)) 0 1)))), (q2, .inl (cA 0, (16, .inl (fun _ => (0 : Int32))))), (q3, .inl (cA 0, (16, .inl (fun _ => (0 : Int32))))), (q4, .inl (cA 0, (16, .inl (fun _ => (0 : Int32))))), (q5, .inl (cA 0, (8, .inl (fun _ => (0 : Int32))))), (q6, .inl (cA 0, (8, .inl (fun _ => (0 : Int32))))), (q7, .inl (cA 0, (20, .inl (fun _ => (0 : Int32))))), (q8, .inl (cA 0, (20, .inl (fun _ => (0 : Int32))))), (q9, .inl (cA 0, (20, .inl (fun _ => (0 : Int32))))), (q10, .inl (cA 0, (20, .inl (fun _ => (0 : Int32))))), (q11, .inl (cA 0, (20, .inl (fun _ => (0 : Int32))))), (h1, .inr (1, [.int 1, .ref g1, .ref g2, .ref g3, .ref g4, .ref g5, .ref g6, .ref g7, .int 0, .ref g8, .ref g9, .int 0, .ref g10, .ref g11, .ref g12, .ref g13, .int 0])), (g1, .inl (cA 0, (16, .inl (upd (fun _ => (0 : Int32)) 0 (-1))))), (g2, .inl (cA 0, (16, .inl (fun _ => (0 : Int32))))), (g3, .inl (cA 0, (16, .inl (fun _ => (0 : Int32))))), (g4, .inl (cA 0, (16, .inl (upd (fun _ => (0 : Int32)) 0 (-1))))), (g5, .inl (cA 1, (16, .inl (fun _ => (0 : Int32))))), (g6, .inl (cA 1, (16, .inl (fun _ => (0 : Int32))))), (g7, .inl (cA 0, (11, .inl (upd (upd (upd (upd (upd (upd (upd (upd (upd (upd (fun _ => (0 : Int32)) 1 120) 2 280) 3 490) 4 730) 5 1000) 6 1290) 7 1600) 8 1930) 9 2280) 10 2650)))), (g8, .inl (cA 0, (8, .inl (fun _ => (0 : Int32))))), (g9, .inl (cA 0, (8, .inl (fun _ => (0 : Int32))))), (g10, .inl (cA 0, (20, .inl (fun _ => (0 : Int32))))), (g11, .inl (cA 0, (20, .inl (fun _ => (0 : Int32))))), (g12, .inl (cA 0, (20, .inl (fun _ => (0 : Int32))))), (g13, .inl (cA 1, (20, .inl (fun _ => (0 : Int32)))))] H := hP
  have hD : va_D (Ar s.heap.size) [(h0, .inr (0, [.int 1, .ref q1, .ref q2, .ref q3, .ref q4, .int 0, .int 0, .int 0, .ref q5, .ref q6, .int 0, .ref q7, .ref q8, .ref q9, .int 0, .ref q10, .ref q11])), (q1, .inl (cA 0, (16, .inl (upd (fun _ => (0 : Int32)) 0 1)))), (q2, .inl (cA 0, (16, .inl (fun _ => (0 : Int32))))), (q3, .inl (cA 0, (16, .inl (fun _ => (0 : Int32))))), (q4, .inl (cA 0, (16, .inl (fun _ => (0 : Int32))))), (q5, .inl (cA 0, (8, .inl (fun _ => (0 : Int32))))), (q6, .inl (cA 0, (8, .inl (fun _ => (0 : Int32))))), (q7, .inl (cA 0, (20, .inl (fun _ => (0 : Int32))))), (q8, .inl (cA 0, (20, .inl (fun _ => (0 : Int32))))), (q9, .inl (cA 0, (20, .inl (fun _ => (0 : Int32))))), (q10, .inl (cA 0, (20, .inl (fun _ => (0 : Int32))))), (q11, .inl (cA 0, (20, .inl (fun _ => (0 : Int32))))), (h1, .inr (1, [.int 1, .ref g1, .ref g2, .ref g3, .ref g4, .ref g5, .ref g6, .ref g7, .int 0, .ref g8, .ref g9, .int 0, .ref g10, .ref g11, .ref g12, .ref g13, .int 0])), (g1, .inl (cA 0, (16, .inl (upd (fun _ => (0 : Int32)) 0 (-1))))), (g2, .inl (cA 0, (16, .inl (fun _ => (0 : Int32))))), (g3, .inl (cA 0, (16, .inl (fun _ => (0 : Int32))))), (g4, .inl (cA 0, (16, .inl (upd (fun _ => (0 : Int32)) 0 (-1))))), (g5, .inl (cA 1, (16, .inl (fun _ => (0 : Int32))))), (g6, .inl (cA 1, (16, .inl (fun _ => (0 : Int32))))), (g7, .inl (cA 0, (11, .inl (upd (upd (upd (upd (upd (upd (upd (upd (upd (upd (fun _ => (0 : Int32)) 1 120) 2 280) 3 490) 4 730) 5 1000) 6 1290) 7 1600) 8 1930) 9 2280) 10 2650)))), (g8, .inl (cA 0, (8, .inl (fun _ => (0 : Int32))))), (g9, .inl (cA 0, (8, .inl (fun _ => (0 : Int32))))), (g10, .inl (cA 0, (20, .inl (fun _ => (0 : Int32))))), (g11, .inl (cA 0, (20, .inl (fun _ => (0 : Int32))))), (g12, .inl (cA 0, (20, .inl (fun _ => (0 : Int32))))), (g13, .inl (cA 1, (20, .inl (fun _ => (0 : Int32)))))] := hD
  refine W.widen (k := 26) (n := 417) (by omega) (by omega) ?_
  refine lv_astore_n (lv' := [(2, .ref h1), (1, .ref h0), (0, .ref b)]) hx hb (dd (pc := 15) rfl) rfl hl (by decide) rfl (fun ls hl => ?_)
  refine lv_iconst (v := 1) hx hb (dd (pc := 16) rfl) (by decide) ?_
  refine va_newa (atype := .long) (ty := .long) (N' := 1) (a0 := (1, .inr (.inl (fun _ => (0 : Int64))))) hx hb (hts _ (lt_in 0 rfl)) rfl hK hP hD hS hA (fun _ => rfl) (by decide) (by decide) (by decide) (Nat.le_of_ble_eq_true rfl) (Nat.le_of_ble_eq_true rfl) (dd (pc := 17) rfl) (fun g0 c1 H hK1 hP hD hS => ?_)
  have e1 : c1 = cA 2 := by
    have h1 : s.vm.findClass ("[" ++ FieldType.long.toString) = some c1 := (hK1.2 3 (c1, .long) rfl).2
    have h2 : s.vm.findClass ("[" ++ FieldType.long.toString) = some (cA 2) := (hK.2 2 (cA 2, .long) rfl).2
    exact Option.some.inj (h1.symm.trans h2)
  subst e1
  have hP : va_P D vwCl [(h0, .inr (0, [.int 1, .ref q1, .ref q2, .ref q3, .ref q4, .int 0, .int 0, .int 0, .ref q5, .ref q6, .int 0, .ref q7, .ref q8, .ref q9, .int 0, .ref q10, .ref q11])), (q1, .inl (cA 0, (16, .inl (upd (fun _ => (0 : Int32)) 0 1)))), (q2, .inl (cA 0, (16, .inl (fun _ => (0 : Int32))))), (q3, .inl (cA 0, (16, .inl (fun _ => (0 : Int32))))), (q4, .inl (cA 0, (16, .inl (fun _ => (0 : Int32))))), (q5, .inl (cA 0, (8, .inl (fun _ => (0 : Int32))))), (q6, .inl (cA 0, (8, .inl (fun _ => (0 : Int32))))), (q7, .inl (cA 0, (20, .inl (fun _ => (0 : Int32))))), (q8, .inl (cA 0, (20, .inl (fun _ => (0 : Int32))))), (q9, .inl (cA 0, (20, .inl (fun _ => (0 : Int32))))), (q10, .inl (cA 0, (20, .inl (fun _ => (0 : Int32))))), (q11, .inl (cA 0, (20, .inl (fun _ => (0 : Int32))))), (h1, .inr (1, [.int 1, .ref g1, .ref g2, .ref g3, .ref g4, .ref g5, .ref g6, .ref g7, .int 0, .ref g8, .ref g9, .int 0, .ref g10, .ref g11, .ref g12, .ref g13, .int 0])), (g1, .inl (cA 0, (16, .inl (upd (fun _ => (0 : Int32)) 0 (-1))))), (g2, .inl (cA 0, (16, .inl (fun _ => (0 : Int32))))), (g3, .inl (cA 0, (16, .inl (fun _ => (0 : Int32))))), (g4, .inl (cA 0, (16, .inl (upd (fun _ => (0 : Int32)) 0 (-1))))), (g5, .inl (cA 1, (16, .inl (fun _ => (0 : Int32))))), (g6, .inl (cA 1, (16, .inl (fun _ => (0 : Int32))))), (g7, .inl (cA 0, (11, .inl (upd (upd (upd (upd (upd (upd (upd (upd (upd (upd (fun _ => (0 : Int32)) 1 120) 2 280) 3 490) 4 730) 5 1000) 6 1290) 7 1600) 8 1930) 9 2280) 10 2650)))), (g8, .inl (cA 0, (8, .inl (fun _ => (0 : Int32))))), (g9, .inl (cA 0, (8, .inl (fun _ => (0 : Int32))))), (g10, .inl (cA 0, (20, .inl (fun _ => (0 : Int32))))), (g11, .inl (cA 0, (20, .inl (fun _ => (0 : Int32))))), (g12, .inl (cA 0, (20, .inl (fun _ => (0 : Int32))))), (g13, .inl (cA 1, (20, .inl (fun _ => (0 : Int32))))), (g0, .inl (cA 2, (1, .inr (.inl (fun _ => (0 : Int64))))))] H := hP
  have hD : va_D (Ar s.heap.size) [(h0, .inr (0, [.int 1, .ref q1, .ref q2, .ref q3, .ref q4, .int 0, .int 0, .int 0, .ref q5, .ref q6, .int 0, .ref q7, .ref q8, .ref q9, .int 0, .ref q10, .ref q11])), (q1, .inl (cA 0, (16, .inl (upd (fun _ => (0 : Int32)) 0 1)))), (q2, .inl (cA 0, (16, .inl (fun _ => (0 : Int32))))), (q3, .inl (cA 0, (16, .inl (fun _ => (0 : Int32))))), (q4, .inl (cA 0, (16, .inl (fun _ => (0 : Int32))))), (q5, .inl (cA 0, (8, .inl (fun _ => (0 : Int32))))), (q6, .inl (cA 0, (8, .inl (fun _ => (0 : Int32))))), (q7, .inl (cA 0, (20, .inl (fun _ => (0 : Int32))))), (q8, .inl (cA 0, (20, .inl (fun _ => (0 : Int32))))), (q9, .inl (cA 0, (20, .inl (fun _ => (0 : Int32))))), (q10, .inl (cA 0, (20, .inl (fun _ => (0 : Int32))))), (q11, .inl (cA 0, (20, .inl (fun _ => (0 : Int32))))), (h1, .inr (1, [.int 1, .ref g1, .ref g2, .ref g3, .ref g4, .ref g5, .ref g6, .ref g7, .int 0, .ref g8, .ref g9, .int 0, .ref g10, .ref g11, .ref g12, .ref g13, .int 0])), (g1, .inl (cA 0, (16, .inl (upd (fun _ => (0 : Int32)) 0 (-1))))), (g2, .inl (cA 0, (16, .inl (fun _ => (0 : Int32))))), (g3, .inl (cA 0, (16, .inl (fun _ => (0 : Int32))))), (g4, .inl (cA 0, (16, .inl (upd (fun _ => (0 : Int32)) 0 (-1))))), (g5, .inl (cA 1, (16, .inl (fun _ => (0 : Int32))))), (g6, .inl (cA 1, (16, .inl (fun _ => (0 : Int32))))), (g7, .inl (cA 0, (11, .inl (upd (upd (upd (upd (upd (upd (upd (upd (upd (upd (fun _ => (0 : Int32)) 1 120) 2 280) 3 490) 4 730) 5 1000) 6 1290) 7 1600) 8 1930) 9 2280) 10 2650)))), (g8, .inl (cA 0, (8, .inl (fun _ => (0 : Int32))))), (g9, .inl (cA 0, (8, .inl (fun _ => (0 : Int32))))), (g10, .inl (cA 0, (20, .inl (fun _ => (0 : Int32))))), (g11, .inl (cA 0, (20, .inl (fun _ => (0 : Int32))))), (g12, .inl (cA 0, (20, .inl (fun _ => (0 : Int32))))), (g13, .inl (cA 1, (20, .inl (fun _ => (0 : Int32))))), (g0, .inl (cA 2, (1, .inr (.inl (fun _ => (0 : Int64))))))] := hD
  refine W.widen (k := 27) (n := 418) (by omega) (by omega) ?_
  refine lv_astore_n (lv' := [(3, .ref g0), (2, .ref h1), (1, .ref h0), (0, .ref b)]) hx hb (dd (pc := 19) rfl) rfl hl (by decide) rfl (fun ls hl => ?_)
  refine lv_iconst (v := 0) hx hb (dd (pc := 20) rfl) (by decide) ?_
  refine lv_istore (lv' := [(4, .int 0), (3, .ref g0), (2, .ref h1), (1, .ref h0), (0, .ref b)]) hx hb (dd (pc := 21) rfl) hl (by decide) rfl (fun ls hl => ?_)
  have hPw : va_P D vwCl (wld (fun i => ([h0, q1, q2, q3, q4, q5, q6, q7, q8, q9, q10, q11, h1, g1, g2, g3, g4, g5, g6, g7, g8, g9, g10, g11, g12, g13, g0] : List Nat).getD i 0) cA S0) H := hP
  have hDw : va_D (Ar s.heap.size) (wld (fun i => ([h0, q1, q2, q3, q4, q5, q6, q7, q8, q9, q10, q11, h1, g1, g2, g3, g4, g5, g6, g7, g8, g9, g10, g11, g12, g13, g0] : List Nat).getD i 0) cA S0) := hD
  exact law_run l hflags hL C0 hEv hPw hDw hS (lv_sub hl [0, 4, 3, 2, 1] rfl)
end
section
set_option maxHeartbeats 4000000 in
theorem lw_walk (l : Launch) (hflags : l.flags = flags0) (b : Addr) (xs : List Int32) : MetFree l x (headSpec (Jvm.Cond.code x code maxLocals ret :: tables_1) room_1) (lw_P b xs) (fun _ _ _ _ _ => True) lw_Q := by
  refine MetFree.of_bodyS (code := code) (maxLocals := maxLocals) (ret := ret) (by decide) ?_ ?_
  · intro args s m h hn
    obtain ⟨meth, c, h1, h2, h3, h4, h5, h6, -, -⟩ := Cond.code_spec hn (atoms_spec (ws := Jvm.Cond.code x code maxLocals ret :: tables_1) h _ List.mem_cons_self)
    exact ⟨meth, c, h1, h2, h3, h4, h5, h6⟩
  · intro p e s m args below meth c s₁ B hml0 hP _
    obtain ⟨rfl, hx, hbd, hgv⟩ := hP
    obtain ⟨scr, harrAt, hlist, hof, hsmall⟩ := hx
    obtain ⟨hcb, hkn, -, -⟩ := State.arrayAt?_spec harrAt
    have hown : s.vm.findClass R_law = some m.cls := findClass_of_methodNamed B.named
    have hts0 : ∀ c ∈ (Jvm.Cond.code x code maxLocals ret :: tables_1), c.before #[Value.ref b] s = true := atoms_spec (ws := Jvm.Cond.code x code maxLocals ret :: tables_1) B.pre
    have hts : ∀ w ∈ lw_tbl, w.before #[Value.ref b] s = true := k2_hts_sels lw_privs (fun w hw => hts0 w (List.mem_cons_of_mem _ hw)) lw_privs_ok
    have hml : c.maxLocals = 7 := B.maxLocals_eq (hts0 _ List.mem_cons_self)
    have X₀ : Stand p l e room_1 s m #[Value.ref b] below meth c s₁ [] 0 0 := Stand.of_body B
    have hh0 : s₁.heap = s.heap := by rw [B.state]; rfl
    have hsz : scr.slots.size = xs.length := by rw [← Array.length_toList, hlist, List.length_map]
    have hval : ∀ j : Nat, j < xs.length → scr.slots[j]? = some (.int (xs.getD j 0)) := fun j hj => by
      rw [← Array.getElem?_toList, hlist]
      simp [hj]
    have hbl : b < s.heap.size := (Array.getElem?_eq_some_iff.mp hcb).1
    have htab : c.exceptionTable.toList = [] := by
      obtain ⟨meth9, c9, h1, h2, -, -, -, -, h7, -⟩ := Cond.code_spec B.named (hts0 _ List.mem_cons_self)
      cases Option.some.inj (h1.symm.trans B.method)
      cases Option.some.inj (h2.symm.trans (Stand.of_body B).code)
      rw [Array.isEmpty_iff.mp h7]
    have hX : va_X b xs.length (fun j => xs.getD j 0) s s.heap := ⟨scr, hcb, hof, hkn, hsz, hval⟩
    have K : W p l e room_1 s m #[Value.ref b] below meth c s₁.heap [] 0 0 (lw_Z below #[Value.ref b] s) (entryFrame m ([Value.ref b] : List Value).toArray 7) := by
      rw [hh0]
      exact whole_start l hflags hbd ⟨B.exec, B.bytes, B.returns, hml, hown, hts, hX, hbl, B.notSynchronized, hgv, htab⟩
    obtain ⟨t, a1, o, b1, b2, b3⟩ := K s₁ rfl X₀
    exact ⟨t, o, a1, b1, b2, b3⟩
theorem lw_pre_spec {args : Array Value} {s : State} (h : (Jvm.Cond.and given_1 narrow_1).before args s = true) (hr : rest_1_c.before args s = true) : ∃ (b : Addr) (xs : List Int32), lw_P b xs args s := by
  have hs := flat_of_before _ h
  have hq := flat_of_before _ hr
  have hc : (Cond.count 1).before args s = true := hs _ (by decide +kernel)
  have harr : (Cond.arrayOf (.arg 0) .int).before args s = true := hs _ (by decide +kernel)
  have hle : (Cond.le (.length (.arg 0)) (.int 2048)).before args s = true := hs _ (by decide +kernel)
  have hlen : (Cond.isInt (.length (.arg 0))).before args s = true := hq _ (by decide +kernel)
  have hall : (Cond.all (.arg 0) (.isInt (.elem (.arg 0) (.index 0)))).before args s = true := hq _ (by decide +kernel)
  obtain ⟨b, xs, hb, hx⟩ := State.ints_of_pre rfl harr hlen hall
  have hsm : xs.length < 2 ^ 31 := hx.choose_spec.2.2.2
  have hev : (Term.length (.arg 0)).eval args s none [] s = some (.int xs.length.toInt32) := hx.length_eval hb
  have hv := Cond.le_ints hev (show (Term.int 2048).eval args s none [] s = some (.int 2048) from rfl)
  have hd : xs.length.toInt32 ≤ 2048 := by
    simpa [Cond.before, Cond.holds, hv] using hle
  have hN : xs.length ≤ 2048 := (Int32.ofNat_le_ofNat hsm (by decide)).mp (show Int32.ofNat xs.length ≤ Int32.ofNat 2048 from hd)
  exact ⟨b, xs, Cond.one_arg hc (show args[0]? = some (.ref b) from hb), hx, hN, h⟩
theorem lw_comes (l : Launch) (hflags : l.flags = flags0) : Comes l x (Jvm.Cond.code x code maxLocals ret :: tables_1) room_1 (fun tb e args s => Calls_1 tb e args s ∧ rest_1 tb e args s ∧ Pre_1 tb e args s)
    (fun _ _ args s o t => lw_Q args s o t) := by
  intro p e ha hc hk s m args below hf hfit hheap happ hpre
  obtain ⟨b, xs, hP⟩ := lw_pre_spec hpre.2.2 hpre.2.1
  obtain ⟨k, o, h1, h2, h3, hQ⟩ := lw_walk l hflags b xs p e ha hc hk s m args below hf ((Spec.applies_iff_loose hf).mp happ).1 hP trivial
  exact ⟨k, o, h1, h2, h3, hQ⟩
theorem lw_frame {s t : State} {o : Outcome} {args : Array Value} (h : Framed s o t [] 1063 8682) :
    Framed s o t (fieldLocs frame_1_writes args s ++ arrayLocs frame_1_arrays args s ++ staticLocs frame_1_statics s) 1063 8682 := h
theorem lw_limb (L : Cond) (hL : ∀ (args : Array Value) (s t : State), L.after args s (.returned (some (.int 1))) t = true) :
    ArmFor flags0 classFile x code maxLocals ret World_1 tables_1 room_1 Calls_1 rest_1 Pre_1
      (fun tb e a s o t => postC L tb e a s o t ∧ Framed s o t (fieldLocs frame_1_writes a s ++ arrayLocs frame_1_arrays a s ++ staticLocs frame_1_statics s) 1063 8682) := by
  intro l hflags _ _ p e ha hc hk s m args below hf hfit hheap happ hpre
  obtain ⟨k, o, h1, h2, h3, rfl, hF⟩ := lw_comes l hflags p e ha hc hk s m args below hf hfit hheap happ hpre
  exact ⟨k, _, h1, h2, h3, hL args s _, lw_frame hF⟩
theorem i_vc : Claimed_1_1 ∧ Claimed_1_2 := ⟨lw_limb limb_1_1 (fun args s t => by simp [limb_1_1, Cond.after, Cond.holds, Cond.value]), lw_limb limb_1_2 (fun args s t => Cond.after_iff.mpr (by
  first | (rw [show limb_1_2 = Cond.eq .result (.int 1) from rfl, Cond.eq_ints (x := 1) (y := 1) rfl rfl]; simp; done) | (simp [limb_1_2, Cond.value, Term.eval]; done)))⟩
end
