section
-- ===== PART A: goes FIRST, ahead of the names: the tables' words, and 'selects' of the private methods out of them =====
/-- a private method of a class that the tables say can be made, by its rows of tables_1 -/
def lw_okq (q : MethodName × Nat) : Prop := (q.1.cls ≠ "java/lang/invoke/MethodHandle" ∧ q.1.cls ≠ "java/lang/invoke/VarHandle") ∧ Cond.instantiable q.1.cls q.2 ∈ tables_1 ∧ Cond.privateMethod q.1 ∈ tables_1 ∧ Cond.instanceMethod q.1 ∈ tables_1
theorem lw_p0 : lw_okq (⟨"StitchChart$ChartText", "findMisplaced", "()I"⟩, 4) := ⟨⟨by decide +kernel, by decide +kernel⟩, List.mem_of_getElem? (i := 156) (by decide +kernel), List.mem_of_getElem? (i := 231) (by decide +kernel), List.mem_of_getElem? (i := 232) (by decide +kernel)⟩
theorem lw_p1 : lw_okq (⟨"StitchChart$ChartText", "startNumber", "()V"⟩, 4) := ⟨⟨by decide +kernel, by decide +kernel⟩, List.mem_of_getElem? (i := 156) (by decide +kernel), List.mem_of_getElem? (i := 235) (by decide +kernel), List.mem_of_getElem? (i := 236) (by decide +kernel)⟩
theorem lw_p2 : lw_okq (⟨"StitchChart$ChartText", "characterAt", "(I)C"⟩, 4) := ⟨⟨by decide +kernel, by decide +kernel⟩, List.mem_of_getElem? (i := 156) (by decide +kernel), List.mem_of_getElem? (i := 239) (by decide +kernel), List.mem_of_getElem? (i := 240) (by decide +kernel)⟩
theorem lw_p3 : lw_okq (⟨"StitchChart$ChartText", "addDigit", "(C)V"⟩, 4) := ⟨⟨by decide +kernel, by decide +kernel⟩, List.mem_of_getElem? (i := 156) (by decide +kernel), List.mem_of_getElem? (i := 247) (by decide +kernel), List.mem_of_getElem? (i := 248) (by decide +kernel)⟩
theorem lw_p4 : lw_okq (⟨"StitchChart$ChartText", "numberOfCells", "()I"⟩, 4) := ⟨⟨by decide +kernel, by decide +kernel⟩, List.mem_of_getElem? (i := 156) (by decide +kernel), List.mem_of_getElem? (i := 251) (by decide +kernel), List.mem_of_getElem? (i := 252) (by decide +kernel)⟩
theorem lw_p5 : lw_okq (⟨"StitchChart$ChartText", "fits", "(II)Z"⟩, 4) := ⟨⟨by decide +kernel, by decide +kernel⟩, List.mem_of_getElem? (i := 156) (by decide +kernel), List.mem_of_getElem? (i := 258) (by decide +kernel), List.mem_of_getElem? (i := 259) (by decide +kernel)⟩
theorem lw_p6 : lw_okq (⟨"StitchChart", "countOfColor", "(II)I"⟩, 6) := ⟨⟨by decide +kernel, by decide +kernel⟩, List.mem_of_getElem? (i := 11) (by decide +kernel), List.mem_of_getElem? (i := 306) (by decide +kernel), List.mem_of_getElem? (i := 307) (by decide +kernel)⟩
theorem lw_p7 : lw_okq (⟨"StitchChart", "runsOf", "(I)LStitchChart$ColorRuns;"⟩, 6) := ⟨⟨by decide +kernel, by decide +kernel⟩, List.mem_of_getElem? (i := 11) (by decide +kernel), List.mem_of_getElem? (i := 310) (by decide +kernel), List.mem_of_getElem? (i := 311) (by decide +kernel)⟩
theorem lw_p8 : lw_okq (⟨"StitchChart$ColorRuns", "addRun", "(II)V"⟩, 9) := ⟨⟨by decide +kernel, by decide +kernel⟩, List.mem_of_getElem? (i := 69) (by decide +kernel), List.mem_of_getElem? (i := 322) (by decide +kernel), List.mem_of_getElem? (i := 323) (by decide +kernel)⟩
theorem lw_p9 : lw_okq (⟨"StitchChart$ColorRuns", "nearestWithoutPlace", "(I)I"⟩, 9) := ⟨⟨by decide +kernel, by decide +kernel⟩, List.mem_of_getElem? (i := 69) (by decide +kernel), List.mem_of_getElem? (i := 330) (by decide +kernel), List.mem_of_getElem? (i := 331) (by decide +kernel)⟩
theorem lw_p10 : lw_okq (⟨"StitchChart$ColorRuns", "wayBetween", "(II)I"⟩, 9) := ⟨⟨by decide +kernel, by decide +kernel⟩, List.mem_of_getElem? (i := 69) (by decide +kernel), List.mem_of_getElem? (i := 334) (by decide +kernel), List.mem_of_getElem? (i := 335) (by decide +kernel)⟩
theorem lw_p11 : lw_okq (⟨"StitchChart$Grid", "neighborsOfColor", "(III)I"⟩, 5) := ⟨⟨by decide +kernel, by decide +kernel⟩, List.mem_of_getElem? (i := 19) (by decide +kernel), List.mem_of_getElem? (i := 357) (by decide +kernel), List.mem_of_getElem? (i := 358) (by decide +kernel)⟩
theorem lw_p12 : lw_okq (⟨"StitchChart$ColorRuns", "runAtPlace", "(I)I"⟩, 9) := ⟨⟨by decide +kernel, by decide +kernel⟩, List.mem_of_getElem? (i := 69) (by decide +kernel), List.mem_of_getElem? (i := 366) (by decide +kernel), List.mem_of_getElem? (i := 367) (by decide +kernel)⟩
theorem lw_p13 : lw_okq (⟨"StitchChart$ColorRuns", "costBetween", "(II)I"⟩, 9) := ⟨⟨by decide +kernel, by decide +kernel⟩, List.mem_of_getElem? (i := 69) (by decide +kernel), List.mem_of_getElem? (i := 370) (by decide +kernel), List.mem_of_getElem? (i := 371) (by decide +kernel)⟩
theorem lw_p14 : lw_okq (⟨"StitchChart$Grid", "colorAfterMerging", "(II)I"⟩, 5) := ⟨⟨by decide +kernel, by decide +kernel⟩, List.mem_of_getElem? (i := 19) (by decide +kernel), List.mem_of_getElem? (i := 400) (by decide +kernel), List.mem_of_getElem? (i := 401) (by decide +kernel)⟩
theorem lw_p15 : lw_okq (⟨"StitchChart$ColorRuns", "lay", "(II)V"⟩, 9) := ⟨⟨by decide +kernel, by decide +kernel⟩, List.mem_of_getElem? (i := 69) (by decide +kernel), List.mem_of_getElem? (i := 421) (by decide +kernel), List.mem_of_getElem? (i := 422) (by decide +kernel)⟩
def lw_privs_1 : List (MethodName × Nat) := [(⟨"StitchChart$ChartText", "findMisplaced", "()I"⟩, 4), (⟨"StitchChart$ChartText", "startNumber", "()V"⟩, 4), (⟨"StitchChart$ChartText", "characterAt", "(I)C"⟩, 4), (⟨"StitchChart$ChartText", "addDigit", "(C)V"⟩, 4), (⟨"StitchChart$ChartText", "numberOfCells", "()I"⟩, 4), (⟨"StitchChart$ChartText", "fits", "(II)Z"⟩, 4), (⟨"StitchChart", "countOfColor", "(II)I"⟩, 6), (⟨"StitchChart", "runsOf", "(I)LStitchChart$ColorRuns;"⟩, 6), (⟨"StitchChart$ColorRuns", "addRun", "(II)V"⟩, 9), (⟨"StitchChart$ColorRuns", "nearestWithoutPlace", "(I)I"⟩, 9), (⟨"StitchChart$ColorRuns", "wayBetween", "(II)I"⟩, 9), (⟨"StitchChart$Grid", "neighborsOfColor", "(III)I"⟩, 5), (⟨"StitchChart$ColorRuns", "runAtPlace", "(I)I"⟩, 9), (⟨"StitchChart$ColorRuns", "costBetween", "(II)I"⟩, 9), (⟨"StitchChart$Grid", "colorAfterMerging", "(II)I"⟩, 5), (⟨"StitchChart$ColorRuns", "lay", "(II)V"⟩, 9)]
theorem lw_r1 : ∀ q ∈ lw_privs_1, lw_okq q := List.forall_mem_cons.mpr ⟨lw_p0, List.forall_mem_cons.mpr ⟨lw_p1, List.forall_mem_cons.mpr ⟨lw_p2, List.forall_mem_cons.mpr ⟨lw_p3, List.forall_mem_cons.mpr ⟨lw_p4, List.forall_mem_cons.mpr ⟨lw_p5, List.forall_mem_cons.mpr ⟨lw_p6, List.forall_mem_cons.mpr ⟨lw_p7, List.forall_mem_cons.mpr ⟨lw_p8, List.forall_mem_cons.mpr ⟨lw_p9, List.forall_mem_cons.mpr ⟨lw_p10, List.forall_mem_cons.mpr ⟨lw_p11, List.forall_mem_cons.mpr ⟨lw_p12, List.forall_mem_cons.mpr ⟨lw_p13, List.forall_mem_cons.mpr ⟨lw_p14, List.forall_mem_cons.mpr ⟨lw_p15, fun _ h => absurd h List.not_mem_nil⟩⟩⟩⟩⟩⟩⟩⟩⟩⟩⟩⟩⟩⟩⟩⟩
theorem lw_p16 : lw_okq (⟨"StitchChart$ColorRuns", "shortenOnce", "()I"⟩, 9) := ⟨⟨by decide +kernel, by decide +kernel⟩, List.mem_of_getElem? (i := 69) (by decide +kernel), List.mem_of_getElem? (i := 438) (by decide +kernel), List.mem_of_getElem? (i := 439) (by decide +kernel)⟩
theorem lw_p17 : lw_okq (⟨"StitchChart$ColorRuns", "savedByMove", "(II)I"⟩, 9) := ⟨⟨by decide +kernel, by decide +kernel⟩, List.mem_of_getElem? (i := 69) (by decide +kernel), List.mem_of_getElem? (i := 442) (by decide +kernel), List.mem_of_getElem? (i := 443) (by decide +kernel)⟩
theorem lw_p18 : lw_okq (⟨"StitchChart$BackStitches", "sumOverGroups", "(Z)I"⟩, 6) := ⟨⟨by decide +kernel, by decide +kernel⟩, List.mem_of_getElem? (i := 109) (by decide +kernel), List.mem_of_getElem? (i := 499) (by decide +kernel), List.mem_of_getElem? (i := 500) (by decide +kernel)⟩
theorem lw_p19 : lw_okq (⟨"StitchChart$BackStitches", "stitchesAtPoint", "(II)I"⟩, 6) := ⟨⟨by decide +kernel, by decide +kernel⟩, List.mem_of_getElem? (i := 109) (by decide +kernel), List.mem_of_getElem? (i := 503) (by decide +kernel), List.mem_of_getElem? (i := 504) (by decide +kernel)⟩
theorem lw_p20 : lw_okq (⟨"StitchChart$BackStitches", "reach", "(IIZ)Z"⟩, 6) := ⟨⟨by decide +kernel, by decide +kernel⟩, List.mem_of_getElem? (i := 109) (by decide +kernel), List.mem_of_getElem? (i := 507) (by decide +kernel), List.mem_of_getElem? (i := 508) (by decide +kernel)⟩
theorem lw_p21 : lw_okq (⟨"StitchChart$BackStitches", "oddPointsOfGroup", "()I"⟩, 6) := ⟨⟨by decide +kernel, by decide +kernel⟩, List.mem_of_getElem? (i := 109) (by decide +kernel), List.mem_of_getElem? (i := 512) (by decide +kernel), List.mem_of_getElem? (i := 513) (by decide +kernel)⟩
theorem lw_p22 : lw_okq (⟨"StitchChart$BackStitches", "reachNextPoints", "(II)V"⟩, 6) := ⟨⟨by decide +kernel, by decide +kernel⟩, List.mem_of_getElem? (i := 109) (by decide +kernel), List.mem_of_getElem? (i := 516) (by decide +kernel), List.mem_of_getElem? (i := 517) (by decide +kernel)⟩
theorem lw_p23 : lw_okq (⟨"StitchChart$PageLayout", "pagesAcross", "()I"⟩, 4) := ⟨⟨by decide +kernel, by decide +kernel⟩, List.mem_of_getElem? (i := 134) (by decide +kernel), List.mem_of_getElem? (i := 539) (by decide +kernel), List.mem_of_getElem? (i := 540) (by decide +kernel)⟩
theorem lw_p24 : lw_okq (⟨"StitchChart$PageLayout", "pagesAlong", "(II)I"⟩, 4) := ⟨⟨by decide +kernel, by decide +kernel⟩, List.mem_of_getElem? (i := 134) (by decide +kernel), List.mem_of_getElem? (i := 543) (by decide +kernel), List.mem_of_getElem? (i := 544) (by decide +kernel)⟩
theorem lw_p25 : lw_okq (⟨"StitchChart$PageLayout", "step", "(I)I"⟩, 4) := ⟨⟨by decide +kernel, by decide +kernel⟩, List.mem_of_getElem? (i := 134) (by decide +kernel), List.mem_of_getElem? (i := 547) (by decide +kernel), List.mem_of_getElem? (i := 548) (by decide +kernel)⟩
theorem lw_p26 : lw_okq (⟨"StitchChart$PageLayout", "firstShowing", "(II)I"⟩, 4) := ⟨⟨by decide +kernel, by decide +kernel⟩, List.mem_of_getElem? (i := 134) (by decide +kernel), List.mem_of_getElem? (i := 590) (by decide +kernel), List.mem_of_getElem? (i := 591) (by decide +kernel)⟩
theorem lw_p27 : lw_okq (⟨"StitchChart", "countOfColorOnPage", "(III)I"⟩, 6) := ⟨⟨by decide +kernel, by decide +kernel⟩, List.mem_of_getElem? (i := 11) (by decide +kernel), List.mem_of_getElem? (i := 599) (by decide +kernel), List.mem_of_getElem? (i := 600) (by decide +kernel)⟩
theorem lw_p28 : lw_okq (⟨"StitchChartModel", "begin", "(II)V"⟩, 28) := ⟨⟨by decide +kernel, by decide +kernel⟩, List.mem_of_getElem? (i := 621) (by decide +kernel), List.mem_of_getElem? (i := 627) (by decide +kernel), List.mem_of_getElem? (i := 628) (by decide +kernel)⟩
theorem lw_p29 : lw_okq (⟨"StitchChartModel", "lay", "(I)V"⟩, 28) := ⟨⟨by decide +kernel, by decide +kernel⟩, List.mem_of_getElem? (i := 621) (by decide +kernel), List.mem_of_getElem? (i := 631) (by decide +kernel), List.mem_of_getElem? (i := 632) (by decide +kernel)⟩
theorem lw_p30 : lw_okq (⟨"StitchChartModel", "at", "(II)I"⟩, 28) := ⟨⟨by decide +kernel, by decide +kernel⟩, List.mem_of_getElem? (i := 621) (by decide +kernel), List.mem_of_getElem? (i := 635) (by decide +kernel), List.mem_of_getElem? (i := 636) (by decide +kernel)⟩
theorem lw_p31 : lw_okq (⟨"StitchChartModel", "isCell", "(II)Z"⟩, 28) := ⟨⟨by decide +kernel, by decide +kernel⟩, List.mem_of_getElem? (i := 621) (by decide +kernel), List.mem_of_getElem? (i := 639) (by decide +kernel), List.mem_of_getElem? (i := 640) (by decide +kernel)⟩
def lw_privs_2 : List (MethodName × Nat) := [(⟨"StitchChart$ColorRuns", "shortenOnce", "()I"⟩, 9), (⟨"StitchChart$ColorRuns", "savedByMove", "(II)I"⟩, 9), (⟨"StitchChart$BackStitches", "sumOverGroups", "(Z)I"⟩, 6), (⟨"StitchChart$BackStitches", "stitchesAtPoint", "(II)I"⟩, 6), (⟨"StitchChart$BackStitches", "reach", "(IIZ)Z"⟩, 6), (⟨"StitchChart$BackStitches", "oddPointsOfGroup", "()I"⟩, 6), (⟨"StitchChart$BackStitches", "reachNextPoints", "(II)V"⟩, 6), (⟨"StitchChart$PageLayout", "pagesAcross", "()I"⟩, 4), (⟨"StitchChart$PageLayout", "pagesAlong", "(II)I"⟩, 4), (⟨"StitchChart$PageLayout", "step", "(I)I"⟩, 4), (⟨"StitchChart$PageLayout", "firstShowing", "(II)I"⟩, 4), (⟨"StitchChart", "countOfColorOnPage", "(III)I"⟩, 6), (⟨"StitchChartModel", "begin", "(II)V"⟩, 28), (⟨"StitchChartModel", "lay", "(I)V"⟩, 28), (⟨"StitchChartModel", "at", "(II)I"⟩, 28), (⟨"StitchChartModel", "isCell", "(II)Z"⟩, 28)]
theorem lw_r2 : ∀ q ∈ lw_privs_2, lw_okq q := List.forall_mem_cons.mpr ⟨lw_p16, List.forall_mem_cons.mpr ⟨lw_p17, List.forall_mem_cons.mpr ⟨lw_p18, List.forall_mem_cons.mpr ⟨lw_p19, List.forall_mem_cons.mpr ⟨lw_p20, List.forall_mem_cons.mpr ⟨lw_p21, List.forall_mem_cons.mpr ⟨lw_p22, List.forall_mem_cons.mpr ⟨lw_p23, List.forall_mem_cons.mpr ⟨lw_p24, List.forall_mem_cons.mpr ⟨lw_p25, List.forall_mem_cons.mpr ⟨lw_p26, List.forall_mem_cons.mpr ⟨lw_p27, List.forall_mem_cons.mpr ⟨lw_p28, List.forall_mem_cons.mpr ⟨lw_p29, List.forall_mem_cons.mpr ⟨lw_p30, List.forall_mem_cons.mpr ⟨lw_p31, fun _ h => absurd h List.not_mem_nil⟩⟩⟩⟩⟩⟩⟩⟩⟩⟩⟩⟩⟩⟩⟩⟩
theorem lw_p32 : lw_okq (⟨"StitchChartModel", "layOrder", "(I)V"⟩, 28) := ⟨⟨by decide +kernel, by decide +kernel⟩, List.mem_of_getElem? (i := 621) (by decide +kernel), List.mem_of_getElem? (i := 646) (by decide +kernel), List.mem_of_getElem? (i := 647) (by decide +kernel)⟩
theorem lw_p33 : lw_okq (⟨"StitchChartModel", "way", "(III)I"⟩, 28) := ⟨⟨by decide +kernel, by decide +kernel⟩, List.mem_of_getElem? (i := 621) (by decide +kernel), List.mem_of_getElem? (i := 650) (by decide +kernel), List.mem_of_getElem? (i := 651) (by decide +kernel)⟩
theorem lw_p34 : lw_okq (⟨"StitchChartModel", "takeOver", "()V"⟩, 28) := ⟨⟨by decide +kernel, by decide +kernel⟩, List.mem_of_getElem? (i := 621) (by decide +kernel), List.mem_of_getElem? (i := 755) (by decide +kernel), List.mem_of_getElem? (i := 756) (by decide +kernel)⟩
theorem lw_p35 : lw_okq (⟨"StitchChartModel", "readEntry", "()V"⟩, 28) := ⟨⟨by decide +kernel, by decide +kernel⟩, List.mem_of_getElem? (i := 621) (by decide +kernel), List.mem_of_getElem? (i := 759) (by decide +kernel), List.mem_of_getElem? (i := 760) (by decide +kernel)⟩
theorem lw_p36 : lw_okq (⟨"StitchChartModel", "readNumber", "()I"⟩, 28) := ⟨⟨by decide +kernel, by decide +kernel⟩, List.mem_of_getElem? (i := 621) (by decide +kernel), List.mem_of_getElem? (i := 763) (by decide +kernel), List.mem_of_getElem? (i := 764) (by decide +kernel)⟩
theorem lw_p37 : lw_okq (⟨"StitchChartModel", "isDigit", "()Z"⟩, 28) := ⟨⟨by decide +kernel, by decide +kernel⟩, List.mem_of_getElem? (i := 621) (by decide +kernel), List.mem_of_getElem? (i := 767) (by decide +kernel), List.mem_of_getElem? (i := 768) (by decide +kernel)⟩
theorem lw_p38 : lw_okq (⟨"StitchChartModel", "change", "()I"⟩, 28) := ⟨⟨by decide +kernel, by decide +kernel⟩, List.mem_of_getElem? (i := 621) (by decide +kernel), List.mem_of_getElem? (i := 771) (by decide +kernel), List.mem_of_getElem? (i := 772) (by decide +kernel)⟩
theorem lw_p39 : lw_okq (⟨"StitchChartModel", "stands", "(II)Z"⟩, 28) := ⟨⟨by decide +kernel, by decide +kernel⟩, List.mem_of_getElem? (i := 621) (by decide +kernel), List.mem_of_getElem? (i := 791) (by decide +kernel), List.mem_of_getElem? (i := 792) (by decide +kernel)⟩
theorem lw_p40 : lw_okq (⟨"StitchChartModel", "around", "(III)I"⟩, 28) := ⟨⟨by decide +kernel, by decide +kernel⟩, List.mem_of_getElem? (i := 621) (by decide +kernel), List.mem_of_getElem? (i := 795) (by decide +kernel), List.mem_of_getElem? (i := 796) (by decide +kernel)⟩
theorem lw_p41 : lw_okq (⟨"StitchChartModel", "threadOf", "(I)I"⟩, 28) := ⟨⟨by decide +kernel, by decide +kernel⟩, List.mem_of_getElem? (i := 621) (by decide +kernel), List.mem_of_getElem? (i := 803) (by decide +kernel), List.mem_of_getElem? (i := 804) (by decide +kernel)⟩
theorem lw_p42 : lw_okq (⟨"StitchChartModel", "placed", "(II)I"⟩, 28) := ⟨⟨by decide +kernel, by decide +kernel⟩, List.mem_of_getElem? (i := 621) (by decide +kernel), List.mem_of_getElem? (i := 807) (by decide +kernel), List.mem_of_getElem? (i := 808) (by decide +kernel)⟩
theorem lw_p43 : lw_okq (⟨"StitchChartModel", "costs", "(III)I"⟩, 28) := ⟨⟨by decide +kernel, by decide +kernel⟩, List.mem_of_getElem? (i := 621) (by decide +kernel), List.mem_of_getElem? (i := 811) (by decide +kernel), List.mem_of_getElem? (i := 812) (by decide +kernel)⟩
theorem lw_p44 : lw_okq (⟨"StitchChartModel", "startsOf", "(I)I"⟩, 28) := ⟨⟨by decide +kernel, by decide +kernel⟩, List.mem_of_getElem? (i := 621) (by decide +kernel), List.mem_of_getElem? (i := 815) (by decide +kernel), List.mem_of_getElem? (i := 816) (by decide +kernel)⟩
theorem lw_p45 : lw_okq (⟨"StitchChartModel", "merged", "(II)I"⟩, 28) := ⟨⟨by decide +kernel, by decide +kernel⟩, List.mem_of_getElem? (i := 621) (by decide +kernel), List.mem_of_getElem? (i := 823) (by decide +kernel), List.mem_of_getElem? (i := 824) (by decide +kernel)⟩
theorem lw_p46 : lw_okq (⟨"StitchChartModel", "whereIs", "(II)I"⟩, 28) := ⟨⟨by decide +kernel, by decide +kernel⟩, List.mem_of_getElem? (i := 621) (by decide +kernel), List.mem_of_getElem? (i := 834) (by decide +kernel), List.mem_of_getElem? (i := 835) (by decide +kernel)⟩
theorem lw_p47 : lw_okq (⟨"StitchChartModel", "shift", "(III)V"⟩, 28) := ⟨⟨by decide +kernel, by decide +kernel⟩, List.mem_of_getElem? (i := 621) (by decide +kernel), List.mem_of_getElem? (i := 846) (by decide +kernel), List.mem_of_getElem? (i := 847) (by decide +kernel)⟩
def lw_privs_3 : List (MethodName × Nat) := [(⟨"StitchChartModel", "layOrder", "(I)V"⟩, 28), (⟨"StitchChartModel", "way", "(III)I"⟩, 28), (⟨"StitchChartModel", "takeOver", "()V"⟩, 28), (⟨"StitchChartModel", "readEntry", "()V"⟩, 28), (⟨"StitchChartModel", "readNumber", "()I"⟩, 28), (⟨"StitchChartModel", "isDigit", "()Z"⟩, 28), (⟨"StitchChartModel", "change", "()I"⟩, 28), (⟨"StitchChartModel", "stands", "(II)Z"⟩, 28), (⟨"StitchChartModel", "around", "(III)I"⟩, 28), (⟨"StitchChartModel", "threadOf", "(I)I"⟩, 28), (⟨"StitchChartModel", "placed", "(II)I"⟩, 28), (⟨"StitchChartModel", "costs", "(III)I"⟩, 28), (⟨"StitchChartModel", "startsOf", "(I)I"⟩, 28), (⟨"StitchChartModel", "merged", "(II)I"⟩, 28), (⟨"StitchChartModel", "whereIs", "(II)I"⟩, 28), (⟨"StitchChartModel", "shift", "(III)V"⟩, 28)]
theorem lw_r3 : ∀ q ∈ lw_privs_3, lw_okq q := List.forall_mem_cons.mpr ⟨lw_p32, List.forall_mem_cons.mpr ⟨lw_p33, List.forall_mem_cons.mpr ⟨lw_p34, List.forall_mem_cons.mpr ⟨lw_p35, List.forall_mem_cons.mpr ⟨lw_p36, List.forall_mem_cons.mpr ⟨lw_p37, List.forall_mem_cons.mpr ⟨lw_p38, List.forall_mem_cons.mpr ⟨lw_p39, List.forall_mem_cons.mpr ⟨lw_p40, List.forall_mem_cons.mpr ⟨lw_p41, List.forall_mem_cons.mpr ⟨lw_p42, List.forall_mem_cons.mpr ⟨lw_p43, List.forall_mem_cons.mpr ⟨lw_p44, List.forall_mem_cons.mpr ⟨lw_p45, List.forall_mem_cons.mpr ⟨lw_p46, List.forall_mem_cons.mpr ⟨lw_p47, fun _ h => absurd h List.not_mem_nil⟩⟩⟩⟩⟩⟩⟩⟩⟩⟩⟩⟩⟩⟩⟩⟩
theorem lw_p48 : lw_okq (⟨"StitchChartModel", "isBetter", "(III)Z"⟩, 28) := ⟨⟨by decide +kernel, by decide +kernel⟩, List.mem_of_getElem? (i := 621) (by decide +kernel), List.mem_of_getElem? (i := 858) (by decide +kernel), List.mem_of_getElem? (i := 859) (by decide +kernel)⟩
theorem lw_p49 : lw_okq (⟨"StitchChartModel", "placedWithout", "(III)I"⟩, 28) := ⟨⟨by decide +kernel, by decide +kernel⟩, List.mem_of_getElem? (i := 621) (by decide +kernel), List.mem_of_getElem? (i := 862) (by decide +kernel), List.mem_of_getElem? (i := 863) (by decide +kernel)⟩
theorem lw_p50 : lw_okq (⟨"StitchChartModel", "gain", "(IIII)I"⟩, 28) := ⟨⟨by decide +kernel, by decide +kernel⟩, List.mem_of_getElem? (i := 621) (by decide +kernel), List.mem_of_getElem? (i := 866) (by decide +kernel), List.mem_of_getElem? (i := 867) (by decide +kernel)⟩
theorem lw_p51 : lw_okq (⟨"StitchChartModel", "costsIf", "(III)I"⟩, 28) := ⟨⟨by decide +kernel, by decide +kernel⟩, List.mem_of_getElem? (i := 621) (by decide +kernel), List.mem_of_getElem? (i := 870) (by decide +kernel), List.mem_of_getElem? (i := 871) (by decide +kernel)⟩
theorem lw_p52 : lw_okq (⟨"StitchChartModel", "noEdge", "(IIZ)Z"⟩, 28) := ⟨⟨by decide +kernel, by decide +kernel⟩, List.mem_of_getElem? (i := 621) (by decide +kernel), List.mem_of_getElem? (i := 882) (by decide +kernel), List.mem_of_getElem? (i := 883) (by decide +kernel)⟩
theorem lw_p53 : lw_okq (⟨"StitchChartModel", "putBack", "(IIZZ)I"⟩, 28) := ⟨⟨by decide +kernel, by decide +kernel⟩, List.mem_of_getElem? (i := 621) (by decide +kernel), List.mem_of_getElem? (i := 886) (by decide +kernel), List.mem_of_getElem? (i := 887) (by decide +kernel)⟩
theorem lw_p54 : lw_okq (⟨"StitchChartModel", "hasBack", "(IIZ)Z"⟩, 28) := ⟨⟨by decide +kernel, by decide +kernel⟩, List.mem_of_getElem? (i := 621) (by decide +kernel), List.mem_of_getElem? (i := 890) (by decide +kernel), List.mem_of_getElem? (i := 891) (by decide +kernel)⟩
theorem lw_p55 : lw_okq (⟨"StitchChartModel", "allBacks", "()I"⟩, 28) := ⟨⟨by decide +kernel, by decide +kernel⟩, List.mem_of_getElem? (i := 621) (by decide +kernel), List.mem_of_getElem? (i := 909) (by decide +kernel), List.mem_of_getElem? (i := 910) (by decide +kernel)⟩
theorem lw_p56 : lw_okq (⟨"StitchChartModel", "backsAt", "(II)I"⟩, 28) := ⟨⟨by decide +kernel, by decide +kernel⟩, List.mem_of_getElem? (i := 621) (by decide +kernel), List.mem_of_getElem? (i := 917) (by decide +kernel), List.mem_of_getElem? (i := 918) (by decide +kernel)⟩
theorem lw_p57 : lw_okq (⟨"StitchChartModel", "goThrough", "(II)I"⟩, 28) := ⟨⟨by decide +kernel, by decide +kernel⟩, List.mem_of_getElem? (i := 621) (by decide +kernel), List.mem_of_getElem? (i := 921) (by decide +kernel), List.mem_of_getElem? (i := 922) (by decide +kernel)⟩
theorem lw_p58 : lw_okq (⟨"StitchChartModel", "reachPoint", "(IIZ)V"⟩, 28) := ⟨⟨by decide +kernel, by decide +kernel⟩, List.mem_of_getElem? (i := 621) (by decide +kernel), List.mem_of_getElem? (i := 925) (by decide +kernel), List.mem_of_getElem? (i := 926) (by decide +kernel)⟩
theorem lw_p59 : lw_okq (⟨"StitchChartModel", "beside", "(II)I"⟩, 28) := ⟨⟨by decide +kernel, by decide +kernel⟩, List.mem_of_getElem? (i := 621) (by decide +kernel), List.mem_of_getElem? (i := 933) (by decide +kernel), List.mem_of_getElem? (i := 934) (by decide +kernel)⟩
theorem lw_p60 : lw_okq (⟨"StitchChartModel", "owner", "(II)I"⟩, 28) := ⟨⟨by decide +kernel, by decide +kernel⟩, List.mem_of_getElem? (i := 621) (by decide +kernel), List.mem_of_getElem? (i := 946) (by decide +kernel), List.mem_of_getElem? (i := 947) (by decide +kernel)⟩
theorem lw_p61 : lw_okq (⟨"StitchChartModel", "first", "(II)I"⟩, 28) := ⟨⟨by decide +kernel, by decide +kernel⟩, List.mem_of_getElem? (i := 621) (by decide +kernel), List.mem_of_getElem? (i := 950) (by decide +kernel), List.mem_of_getElem? (i := 951) (by decide +kernel)⟩
theorem lw_p62 : lw_okq (⟨"StitchChartModel", "stitchesOn", "(II)I"⟩, 28) := ⟨⟨by decide +kernel, by decide +kernel⟩, List.mem_of_getElem? (i := 621) (by decide +kernel), List.mem_of_getElem? (i := 958) (by decide +kernel), List.mem_of_getElem? (i := 959) (by decide +kernel)⟩
theorem lw_p63 : lw_okq (⟨"StitchChartModel", "runsOn", "(II)I"⟩, 28) := ⟨⟨by decide +kernel, by decide +kernel⟩, List.mem_of_getElem? (i := 621) (by decide +kernel), List.mem_of_getElem? (i := 962) (by decide +kernel), List.mem_of_getElem? (i := 963) (by decide +kernel)⟩
def lw_privs_4 : List (MethodName × Nat) := [(⟨"StitchChartModel", "isBetter", "(III)Z"⟩, 28), (⟨"StitchChartModel", "placedWithout", "(III)I"⟩, 28), (⟨"StitchChartModel", "gain", "(IIII)I"⟩, 28), (⟨"StitchChartModel", "costsIf", "(III)I"⟩, 28), (⟨"StitchChartModel", "noEdge", "(IIZ)Z"⟩, 28), (⟨"StitchChartModel", "putBack", "(IIZZ)I"⟩, 28), (⟨"StitchChartModel", "hasBack", "(IIZ)Z"⟩, 28), (⟨"StitchChartModel", "allBacks", "()I"⟩, 28), (⟨"StitchChartModel", "backsAt", "(II)I"⟩, 28), (⟨"StitchChartModel", "goThrough", "(II)I"⟩, 28), (⟨"StitchChartModel", "reachPoint", "(IIZ)V"⟩, 28), (⟨"StitchChartModel", "beside", "(II)I"⟩, 28), (⟨"StitchChartModel", "owner", "(II)I"⟩, 28), (⟨"StitchChartModel", "first", "(II)I"⟩, 28), (⟨"StitchChartModel", "stitchesOn", "(II)I"⟩, 28), (⟨"StitchChartModel", "runsOn", "(II)I"⟩, 28)]
theorem lw_r4 : ∀ q ∈ lw_privs_4, lw_okq q := List.forall_mem_cons.mpr ⟨lw_p48, List.forall_mem_cons.mpr ⟨lw_p49, List.forall_mem_cons.mpr ⟨lw_p50, List.forall_mem_cons.mpr ⟨lw_p51, List.forall_mem_cons.mpr ⟨lw_p52, List.forall_mem_cons.mpr ⟨lw_p53, List.forall_mem_cons.mpr ⟨lw_p54, List.forall_mem_cons.mpr ⟨lw_p55, List.forall_mem_cons.mpr ⟨lw_p56, List.forall_mem_cons.mpr ⟨lw_p57, List.forall_mem_cons.mpr ⟨lw_p58, List.forall_mem_cons.mpr ⟨lw_p59, List.forall_mem_cons.mpr ⟨lw_p60, List.forall_mem_cons.mpr ⟨lw_p61, List.forall_mem_cons.mpr ⟨lw_p62, List.forall_mem_cons.mpr ⟨lw_p63, fun _ h => absurd h List.not_mem_nil⟩⟩⟩⟩⟩⟩⟩⟩⟩⟩⟩⟩⟩⟩⟩⟩
theorem lw_p64 : lw_okq (⟨"StitchChartModel", "begins", "(III)Z"⟩, 28) := ⟨⟨by decide +kernel, by decide +kernel⟩, List.mem_of_getElem? (i := 621) (by decide +kernel), List.mem_of_getElem? (i := 966) (by decide +kernel), List.mem_of_getElem? (i := 967) (by decide +kernel)⟩
theorem lw_p65 : lw_okq (⟨"StitchChartModel", "threadOn", "(II)I"⟩, 28) := ⟨⟨by decide +kernel, by decide +kernel⟩, List.mem_of_getElem? (i := 621) (by decide +kernel), List.mem_of_getElem? (i := 970) (by decide +kernel), List.mem_of_getElem? (i := 971) (by decide +kernel)⟩
def lw_privs_5 : List (MethodName × Nat) := [(⟨"StitchChartModel", "begins", "(III)Z"⟩, 28), (⟨"StitchChartModel", "threadOn", "(II)I"⟩, 28)]
theorem lw_r5 : ∀ q ∈ lw_privs_5, lw_okq q := List.forall_mem_cons.mpr ⟨lw_p64, List.forall_mem_cons.mpr ⟨lw_p65, fun _ h => absurd h List.not_mem_nil⟩⟩
def lw_privs : List (MethodName × Nat) := lw_privs_1 ++ (lw_privs_2 ++ (lw_privs_3 ++ (lw_privs_4 ++ (lw_privs_5))))
def lw_tbl : List Cond := k2_sels lw_privs ++ tables_1
theorem lw_privs_ok : ∀ q ∈ lw_privs, lw_okq q := by
  show ∀ q ∈ lw_privs_1 ++ (lw_privs_2 ++ (lw_privs_3 ++ (lw_privs_4 ++ (lw_privs_5)))), lw_okq q
  exact List.forall_mem_append.mpr ⟨lw_r1, List.forall_mem_append.mpr ⟨lw_r2, List.forall_mem_append.mpr ⟨lw_r3, List.forall_mem_append.mpr ⟨lw_r4, lw_r5⟩⟩⟩⟩
-- ===== end of PART A; then your names; then what follows =====
end
section
/-! ===== BEGIN printed: names, fields, word lists, decode rows ===== -/
def RX0 : String := "StitchChart$BackStitches"
def TX0 : u_T := fun k => match k with
  | 0 => ("StitchChart$BackStitches", "grid", "LStitchChart$Grid;", true)
  | 1 => ("StitchChart$BackStitches", "upright", "[Z", true)
  | 2 => ("StitchChart$BackStitches", "flat", "[Z", true)
  | 3 => ("StitchChart$BackStitches", "reached", "[Z", true)
  | 4 => ("StitchChart$BackStitches", "waiting", "[I", true)
  | _ => ("StitchChart$BackStitches", "waitingCount", "I", false)
def tyX0 : Nat → FieldType := fun k => match k with
  | 0 => .object "StitchChart$Grid"
  | 1 => .array .boolean
  | 2 => .array .boolean
  | 3 => .array .boolean
  | 4 => .array .int
  | _ => .int
abbrev wsX00 : List Cond := u_ws RX0 TX0 6
theorem nmX0 : ∀ a, a < 6 → ∀ b, b < 6 → a ≠ b → (TX0 a).2.1 ≠ (TX0 b).2.1 := by decide +kernel
theorem tyX0_ok : ∀ k, k < 6 → parseFieldDescriptor (TX0 k).2.2.1 = some (tyX0 k) := by decide +kernel
abbrev cX0_init : ByteArray := prog_2_method_1_code
def yX0_init : MethodName := ⟨RX0, "<init>", "(LStitchChart$Grid;)V"⟩
abbrev cX0_removeAll : ByteArray := prog_2_method_2_code
def yX0_removeAll : MethodName := ⟨RX0, "removeAll", "()V"⟩
abbrev cX0_hasEdge : ByteArray := prog_2_method_3_code
def yX0_hasEdge : MethodName := ⟨RX0, "hasEdge", "(IIZ)Z"⟩
abbrev cX0_stitchesAt : ByteArray := prog_2_method_4_code
def yX0_stitchesAt : MethodName := ⟨RX0, "stitchesAt", "(IIZ)I"⟩
abbrev cX0_put : ByteArray := prog_2_method_5_code
def yX0_put : MethodName := ⟨RX0, "put", "(IIZZ)I"⟩
abbrev cX0_addOutline : ByteArray := prog_2_method_6_code
def yX0_addOutline : MethodName := ⟨RX0, "addOutline", "(I)I"⟩
abbrev cX0_edges : ByteArray := prog_2_method_7_code
def yX0_edges : MethodName := ⟨RX0, "edges", "()I"⟩
abbrev cX0_stitchesAtPoint : ByteArray := prog_2_method_8_code
def yX0_stitchesAtPoint : MethodName := ⟨RX0, "stitchesAtPoint", "(II)I"⟩
abbrev cX0_oddPoints : ByteArray := prog_2_method_9_code
def yX0_oddPoints : MethodName := ⟨RX0, "oddPoints", "()I"⟩
abbrev cX0_groups : ByteArray := prog_2_method_10_code
def yX0_groups : MethodName := ⟨RX0, "groups", "()I"⟩
abbrev cX0_strands : ByteArray := prog_2_method_11_code
def yX0_strands : MethodName := ⟨RX0, "strands", "()I"⟩
abbrev cX0_sumOverGroups : ByteArray := prog_2_method_12_code
def yX0_sumOverGroups : MethodName := ⟨RX0, "sumOverGroups", "(Z)I"⟩
abbrev cX0_reach : ByteArray := prog_2_method_13_code
def yX0_reach : MethodName := ⟨RX0, "reach", "(IIZ)Z"⟩
abbrev cX0_oddPointsOfGroup : ByteArray := prog_2_method_14_code
def yX0_oddPointsOfGroup : MethodName := ⟨RX0, "oddPointsOfGroup", "()I"⟩
abbrev cX0_reachNextPoints : ByteArray := prog_2_method_15_code
def yX0_reachNextPoints : MethodName := ⟨RX0, "reachNextPoints", "(II)V"⟩
def RX1 : String := "StitchChart$ChartText"
def TX1 : u_T := fun k => match k with
  | 0 => ("StitchChart$ChartText", "characters", "[C", true)
  | 1 => ("StitchChart$ChartText", "length", "I", false)
  | 2 => ("StitchChart$ChartText", "number", "I", false)
  | _ => ("StitchChart$ChartText", "digits", "I", false)
def tyX1 : Nat → FieldType := fun k => match k with
  | 0 => .array .char
  | 1 => .int
  | 2 => .int
  | _ => .int
abbrev wsX10 : List Cond := u_ws RX1 TX1 4
theorem nmX1 : ∀ a, a < 4 → ∀ b, b < 4 → a ≠ b → (TX1 a).2.1 ≠ (TX1 b).2.1 := by decide +kernel
theorem tyX1_ok : ∀ k, k < 4 → parseFieldDescriptor (TX1 k).2.2.1 = some (tyX1 k) := by decide +kernel
abbrev cX1_init : ByteArray := prog_3_method_1_code
def yX1_init : MethodName := ⟨RX1, "<init>", "()V"⟩
abbrev cX1_append : ByteArray := prog_3_method_2_code
def yX1_append : MethodName := ⟨RX1, "append", "(C)Z"⟩
abbrev cX1_characterAt : ByteArray := prog_3_method_3_code
def yX1_characterAt : MethodName := ⟨RX1, "characterAt", "(I)C"⟩
abbrev cX1_isDigit : ByteArray := prog_3_method_4_code
def yX1_isDigit : MethodName := ⟨RX1, "isDigit", "(C)Z"⟩
abbrev cX1_isEntry : ByteArray := prog_3_method_5_code
def yX1_isEntry : MethodName := ⟨RX1, "isEntry", "(C)Z"⟩
abbrev cX1_colorOf : ByteArray := prog_3_method_6_code
def yX1_colorOf : MethodName := ⟨RX1, "colorOf", "(C)I"⟩
abbrev cX1_startNumber : ByteArray := prog_3_method_7_code
def yX1_startNumber : MethodName := ⟨RX1, "startNumber", "()V"⟩
abbrev cX1_addDigit : ByteArray := prog_3_method_8_code
def yX1_addDigit : MethodName := ⟨RX1, "addDigit", "(C)V"⟩
abbrev cX1_numberOfCells : ByteArray := prog_3_method_9_code
def yX1_numberOfCells : MethodName := ⟨RX1, "numberOfCells", "()I"⟩
abbrev cX1_findFault : ByteArray := prog_3_method_10_code
def yX1_findFault : MethodName := ⟨RX1, "findFault", "(II)I"⟩
abbrev cX1_findMisplaced : ByteArray := prog_3_method_11_code
def yX1_findMisplaced : MethodName := ⟨RX1, "findMisplaced", "()I"⟩
abbrev cX1_fits : ByteArray := prog_3_method_12_code
def yX1_fits : MethodName := ⟨RX1, "fits", "(II)Z"⟩
abbrev cX1_drawOn : ByteArray := prog_3_method_13_code
def yX1_drawOn : MethodName := ⟨RX1, "drawOn", "(LStitchChart$Grid;)I"⟩
def RX2 : String := "StitchChart$ColorRuns"
def TX2 : u_T := fun k => match k with
  | 0 => ("StitchChart$ColorRuns", "grid", "LStitchChart$Grid;", true)
  | 1 => ("StitchChart$ColorRuns", "yarn", "LStitchChart$Yarn;", true)
  | 2 => ("StitchChart$ColorRuns", "color", "I", true)
  | 3 => ("StitchChart$ColorRuns", "count", "I", false)
  | 4 => ("StitchChart$ColorRuns", "xs", "[I", true)
  | 5 => ("StitchChart$ColorRuns", "ys", "[I", true)
  | 6 => ("StitchChart$ColorRuns", "lengths", "[I", true)
  | 7 => ("StitchChart$ColorRuns", "order", "[I", true)
  | _ => ("StitchChart$ColorRuns", "places", "[I", true)
def tyX2 : Nat → FieldType := fun k => match k with
  | 0 => .object "StitchChart$Grid"
  | 1 => .object "StitchChart$Yarn"
  | 2 => .int
  | 3 => .int
  | 4 => .array .int
  | 5 => .array .int
  | 6 => .array .int
  | 7 => .array .int
  | _ => .array .int
abbrev wsX20 : List Cond := u_ws RX2 TX2 9
theorem nmX2 : ∀ a, a < 9 → ∀ b, b < 9 → a ≠ b → (TX2 a).2.1 ≠ (TX2 b).2.1 := by decide +kernel
theorem tyX2_ok : ∀ k, k < 9 → parseFieldDescriptor (TX2 k).2.2.1 = some (tyX2 k) := by decide +kernel
abbrev cX2_init : ByteArray := prog_4_method_1_code
def yX2_init : MethodName := ⟨RX2, "<init>", "(LStitchChart$Grid;LStitchChart$Yarn;I)V"⟩
abbrev cX2_has : ByteArray := prog_4_method_2_code
def yX2_has : MethodName := ⟨RX2, "has", "(I)Z"⟩
abbrev cX2_findRuns : ByteArray := prog_4_method_3_code
def yX2_findRuns : MethodName := ⟨RX2, "findRuns", "()V"⟩
abbrev cX2_addRun : ByteArray := prog_4_method_4_code
def yX2_addRun : MethodName := ⟨RX2, "addRun", "(II)V"⟩
abbrev cX2_makeOrderFirst : ByteArray := prog_4_method_5_code
def yX2_makeOrderFirst : MethodName := ⟨RX2, "makeOrderFirst", "()V"⟩
abbrev cX2_nearestWithoutPlace : ByteArray := prog_4_method_6_code
def yX2_nearestWithoutPlace : MethodName := ⟨RX2, "nearestWithoutPlace", "(I)I"⟩
abbrev cX2_wayBetween : ByteArray := prog_4_method_7_code
def yX2_wayBetween : MethodName := ⟨RX2, "wayBetween", "(II)I"⟩
abbrev cX2_runAtPlace : ByteArray := prog_4_method_8_code
def yX2_runAtPlace : MethodName := ⟨RX2, "runAtPlace", "(I)I"⟩
abbrev cX2_costBetween : ByteArray := prog_4_method_9_code
def yX2_costBetween : MethodName := ⟨RX2, "costBetween", "(II)I"⟩
abbrev cX2_stitches : ByteArray := prog_4_method_10_code
def yX2_stitches : MethodName := ⟨RX2, "stitches", "()I"⟩
abbrev cX2_threadLength : ByteArray := prog_4_method_11_code
def yX2_threadLength : MethodName := ⟨RX2, "threadLength", "()I"⟩
abbrev cX2_starts : ByteArray := prog_4_method_12_code
def yX2_starts : MethodName := ⟨RX2, "starts", "()I"⟩
abbrev cX2_relocate : ByteArray := prog_4_method_13_code
def yX2_relocate : MethodName := ⟨RX2, "relocate", "(II)V"⟩
abbrev cX2_lay : ByteArray := prog_4_method_14_code
def yX2_lay : MethodName := ⟨RX2, "lay", "(II)V"⟩
abbrev cX2_shortenOrder : ByteArray := prog_4_method_15_code
def yX2_shortenOrder : MethodName := ⟨RX2, "shortenOrder", "()I"⟩
abbrev cX2_shortenOnce : ByteArray := prog_4_method_16_code
def yX2_shortenOnce : MethodName := ⟨RX2, "shortenOnce", "()I"⟩
abbrev cX2_savedByMove : ByteArray := prog_4_method_17_code
def yX2_savedByMove : MethodName := ⟨RX2, "savedByMove", "(II)I"⟩
abbrev cX2_runsOnPage : ByteArray := prog_4_method_18_code
def yX2_runsOnPage : MethodName := ⟨RX2, "runsOnPage", "(LStitchChart$PageLayout;I)I"⟩
abbrev cX2_startsOnPage : ByteArray := prog_4_method_19_code
def yX2_startsOnPage : MethodName := ⟨RX2, "startsOnPage", "(LStitchChart$PageLayout;I)I"⟩
def RX3 : String := "StitchChart$Grid"
def TX3 : u_T := fun k => match k with
  | 0 => ("StitchChart$Grid", "width", "I", false)
  | 1 => ("StitchChart$Grid", "height", "I", false)
  | 2 => ("StitchChart$Grid", "touched", "[Z", true)
  | 3 => ("StitchChart$Grid", "colors", "[I", true)
  | _ => ("StitchChart$Grid", "merged", "[I", true)
def tyX3 : Nat → FieldType := fun k => match k with
  | 0 => .int
  | 1 => .int
  | 2 => .array .boolean
  | 3 => .array .int
  | _ => .array .int
abbrev wsX30 : List Cond := u_ws RX3 TX3 5
theorem nmX3 : ∀ a, a < 5 → ∀ b, b < 5 → a ≠ b → (TX3 a).2.1 ≠ (TX3 b).2.1 := by decide +kernel
theorem tyX3_ok : ∀ k, k < 5 → parseFieldDescriptor (TX3 k).2.2.1 = some (tyX3 k) := by decide +kernel
abbrev cX3_init : ByteArray := prog_5_method_1_code
def yX3_init : MethodName := ⟨RX3, "<init>", "()V"⟩
abbrev cX3_startAnew : ByteArray := prog_5_method_2_code
def yX3_startAnew : MethodName := ⟨RX3, "startAnew", "(II)V"⟩
abbrev cX3_has : ByteArray := prog_5_method_3_code
def yX3_has : MethodName := ⟨RX3, "has", "(II)Z"⟩
abbrev cX3_colorAt : ByteArray := prog_5_method_4_code
def yX3_colorAt : MethodName := ⟨RX3, "colorAt", "(II)I"⟩
abbrev cX3_put : ByteArray := prog_5_method_5_code
def yX3_put : MethodName := ⟨RX3, "put", "(III)I"⟩
abbrev cX3_putRow : ByteArray := prog_5_method_6_code
def yX3_putRow : MethodName := ⟨RX3, "putRow", "(IIII)I"⟩
abbrev cX3_neighborsOfColor : ByteArray := prog_5_method_7_code
def yX3_neighborsOfColor : MethodName := ⟨RX3, "neighborsOfColor", "(III)I"⟩
abbrev cX3_standsAlone : ByteArray := prog_5_method_8_code
def yX3_standsAlone : MethodName := ⟨RX3, "standsAlone", "(II)Z"⟩
abbrev cX3_loneStitches : ByteArray := prog_5_method_9_code
def yX3_loneStitches : MethodName := ⟨RX3, "loneStitches", "(I)I"⟩
abbrev cX3_colorAfterMerging : ByteArray := prog_5_method_10_code
def yX3_colorAfterMerging : MethodName := ⟨RX3, "colorAfterMerging", "(II)I"⟩
abbrev cX3_mergeOnce : ByteArray := prog_5_method_11_code
def yX3_mergeOnce : MethodName := ⟨RX3, "mergeOnce", "()I"⟩
def RX4 : String := "StitchChart$PageLayout"
def TX4 : u_T := fun k => match k with
  | 0 => ("StitchChart$PageLayout", "grid", "LStitchChart$Grid;", true)
  | 1 => ("StitchChart$PageLayout", "columns", "I", false)
  | 2 => ("StitchChart$PageLayout", "lines", "I", false)
  | _ => ("StitchChart$PageLayout", "overlap", "I", false)
def tyX4 : Nat → FieldType := fun k => match k with
  | 0 => .object "StitchChart$Grid"
  | 1 => .int
  | 2 => .int
  | _ => .int
abbrev wsX40 : List Cond := u_ws RX4 TX4 4
theorem nmX4 : ∀ a, a < 4 → ∀ b, b < 4 → a ≠ b → (TX4 a).2.1 ≠ (TX4 b).2.1 := by decide +kernel
theorem tyX4_ok : ∀ k, k < 4 → parseFieldDescriptor (TX4 k).2.2.1 = some (tyX4 k) := by decide +kernel
abbrev cX4_init : ByteArray := prog_6_method_1_code
def yX4_init : MethodName := ⟨RX4, "<init>", "(LStitchChart$Grid;)V"⟩
abbrev cX4_step : ByteArray := prog_6_method_2_code
def yX4_step : MethodName := ⟨RX4, "step", "(I)I"⟩
abbrev cX4_pagesAlong : ByteArray := prog_6_method_3_code
def yX4_pagesAlong : MethodName := ⟨RX4, "pagesAlong", "(II)I"⟩
abbrev cX4_pagesAcross : ByteArray := prog_6_method_4_code
def yX4_pagesAcross : MethodName := ⟨RX4, "pagesAcross", "()I"⟩
abbrev cX4_total : ByteArray := prog_6_method_5_code
def yX4_total : MethodName := ⟨RX4, "total", "()I"⟩
abbrev cX4_has : ByteArray := prog_6_method_6_code
def yX4_has : MethodName := ⟨RX4, "has", "(I)Z"⟩
abbrev cX4_left : ByteArray := prog_6_method_7_code
def yX4_left : MethodName := ⟨RX4, "left", "(I)I"⟩
abbrev cX4_top : ByteArray := prog_6_method_8_code
def yX4_top : MethodName := ⟨RX4, "top", "(I)I"⟩
abbrev cX4_shownColumns : ByteArray := prog_6_method_9_code
def yX4_shownColumns : MethodName := ⟨RX4, "shownColumns", "(I)I"⟩
abbrev cX4_shownLines : ByteArray := prog_6_method_10_code
def yX4_shownLines : MethodName := ⟨RX4, "shownLines", "(I)I"⟩
abbrev cX4_firstShowing : ByteArray := prog_6_method_11_code
def yX4_firstShowing : MethodName := ⟨RX4, "firstShowing", "(II)I"⟩
abbrev cX4_owner : ByteArray := prog_6_method_12_code
def yX4_owner : MethodName := ⟨RX4, "owner", "(II)I"⟩
abbrev cX4_tally : ByteArray := prog_6_method_13_code
def yX4_tally : MethodName := ⟨RX4, "tally", "(IZII)I"⟩
def RX5 : String := "StitchChart$Yarn"
def TX5 : u_T := fun k => match k with
  | 0 => ("StitchChart$Yarn", "reach", "I", false)
  | _ => ("StitchChart$Yarn", "tail", "I", false)
def tyX5 : Nat → FieldType := fun k => match k with
  | 0 => .int
  | _ => .int
abbrev wsX50 : List Cond := u_ws RX5 TX5 2
theorem nmX5 : ∀ a, a < 2 → ∀ b, b < 2 → a ≠ b → (TX5 a).2.1 ≠ (TX5 b).2.1 := by decide +kernel
theorem tyX5_ok : ∀ k, k < 2 → parseFieldDescriptor (TX5 k).2.2.1 = some (tyX5 k) := by decide +kernel
abbrev cX5_init : ByteArray := prog_7_method_1_code
def yX5_init : MethodName := ⟨RX5, "<init>", "()V"⟩
abbrev cX5_carries : ByteArray := prog_7_method_2_code
def yX5_carries : MethodName := ⟨RX5, "carries", "(I)Z"⟩
abbrev cX5_cost : ByteArray := prog_7_method_3_code
def yX5_cost : MethodName := ⟨RX5, "cost", "(I)I"⟩
def RX6 : String := "StitchChart"
def TX6 : u_T := fun k => match k with
  | 0 => ("StitchChart", "grid", "LStitchChart$Grid;", true)
  | 1 => ("StitchChart", "yarn", "LStitchChart$Yarn;", true)
  | 2 => ("StitchChart", "runsByColor", "[LStitchChart$ColorRuns;", true)
  | 3 => ("StitchChart", "backStitches", "LStitchChart$BackStitches;", true)
  | 4 => ("StitchChart", "layout", "LStitchChart$PageLayout;", true)
  | _ => ("StitchChart", "text", "LStitchChart$ChartText;", true)
def tyX6 : Nat → FieldType := fun k => match k with
  | 0 => .object "StitchChart$Grid"
  | 1 => .object "StitchChart$Yarn"
  | 2 => .array (.object "StitchChart$ColorRuns")
  | 3 => .object "StitchChart$BackStitches"
  | 4 => .object "StitchChart$PageLayout"
  | _ => .object "StitchChart$ChartText"
abbrev wsX60 : List Cond := u_ws RX6 TX6 6
theorem nmX6 : ∀ a, a < 6 → ∀ b, b < 6 → a ≠ b → (TX6 a).2.1 ≠ (TX6 b).2.1 := by decide +kernel
theorem tyX6_ok : ∀ k, k < 6 → parseFieldDescriptor (TX6 k).2.2.1 = some (tyX6 k) := by decide +kernel
abbrev cX6_init : ByteArray := prog_1_method_1_code
def yX6_init : MethodName := ⟨RX6, "<init>", "()V"⟩
abbrev cX6_reset : ByteArray := prog_1_method_2_code
def yX6_reset : MethodName := ⟨RX6, "reset", "(II)I"⟩
abbrev cX6_type : ByteArray := prog_1_method_3_code
def yX6_type : MethodName := ⟨RX6, "type", "(C)I"⟩
abbrev cX6_clearText : ByteArray := prog_1_method_4_code
def yX6_clearText : MethodName := ⟨RX6, "clearText", "()I"⟩
abbrev cX6_readChart : ByteArray := prog_1_method_5_code
def yX6_readChart : MethodName := ⟨RX6, "readChart", "()I"⟩
abbrev cX6_setCell : ByteArray := prog_1_method_6_code
def yX6_setCell : MethodName := ⟨RX6, "setCell", "(III)I"⟩
abbrev cX6_fill : ByteArray := prog_1_method_7_code
def yX6_fill : MethodName := ⟨RX6, "fill", "(IIIII)I"⟩
abbrev cX6_cell : ByteArray := prog_1_method_8_code
def yX6_cell : MethodName := ⟨RX6, "cell", "(II)I"⟩
abbrev cX6_count : ByteArray := prog_1_method_9_code
def yX6_count : MethodName := ⟨RX6, "count", "(II)I"⟩
abbrev cX6_isLone : ByteArray := prog_1_method_10_code
def yX6_isLone : MethodName := ⟨RX6, "isLone", "(II)I"⟩
abbrev cX6_merge : ByteArray := prog_1_method_11_code
def yX6_merge : MethodName := ⟨RX6, "merge", "(I)I"⟩
abbrev cX6_run : ByteArray := prog_1_method_12_code
def yX6_run : MethodName := ⟨RX6, "run", "(III)I"⟩
abbrev cX6_runAt : ByteArray := prog_1_method_13_code
def yX6_runAt : MethodName := ⟨RX6, "runAt", "(II)I"⟩
abbrev cX6_moveRun : ByteArray := prog_1_method_14_code
def yX6_moveRun : MethodName := ⟨RX6, "moveRun", "(III)I"⟩
abbrev cX6_firstOrder : ByteArray := prog_1_method_15_code
def yX6_firstOrder : MethodName := ⟨RX6, "firstOrder", "(I)I"⟩
abbrev cX6_shorten : ByteArray := prog_1_method_16_code
def yX6_shorten : MethodName := ⟨RX6, "shorten", "(I)I"⟩
abbrev cX6_setThread : ByteArray := prog_1_method_17_code
def yX6_setThread : MethodName := ⟨RX6, "setThread", "(II)I"⟩
abbrev cX6_setBack : ByteArray := prog_1_method_18_code
def yX6_setBack : MethodName := ⟨RX6, "setBack", "(IIZZ)I"⟩
abbrev cX6_back : ByteArray := prog_1_method_19_code
def yX6_back : MethodName := ⟨RX6, "back", "(IIZ)I"⟩
abbrev cX6_outline : ByteArray := prog_1_method_20_code
def yX6_outline : MethodName := ⟨RX6, "outline", "(I)I"⟩
abbrev cX6_clearBack : ByteArray := prog_1_method_21_code
def yX6_clearBack : MethodName := ⟨RX6, "clearBack", "()I"⟩
abbrev cX6_backs : ByteArray := prog_1_method_22_code
def yX6_backs : MethodName := ⟨RX6, "backs", "(I)I"⟩
abbrev cX6_setPages : ByteArray := prog_1_method_23_code
def yX6_setPages : MethodName := ⟨RX6, "setPages", "(III)I"⟩
abbrev cX6_page : ByteArray := prog_1_method_24_code
def yX6_page : MethodName := ⟨RX6, "page", "(II)I"⟩
abbrev cX6_onPage : ByteArray := prog_1_method_25_code
def yX6_onPage : MethodName := ⟨RX6, "onPage", "(III)I"⟩
abbrev cX6_pages : ByteArray := prog_1_method_26_code
def yX6_pages : MethodName := ⟨RX6, "pages", "()I"⟩
abbrev cX6_pageOf : ByteArray := prog_1_method_27_code
def yX6_pageOf : MethodName := ⟨RX6, "pageOf", "(II)I"⟩
abbrev cX6_isWithin : ByteArray := prog_1_method_28_code
def yX6_isWithin : MethodName := ⟨RX6, "isWithin", "(III)Z"⟩
abbrev cX6_isColor : ByteArray := prog_1_method_29_code
def yX6_isColor : MethodName := ⟨RX6, "isColor", "(I)Z"⟩
abbrev cX6_runsOf : ByteArray := prog_1_method_30_code
def yX6_runsOf : MethodName := ⟨RX6, "runsOf", "(I)LStitchChart$ColorRuns;"⟩
abbrev cX6_countOfColor : ByteArray := prog_1_method_31_code
def yX6_countOfColor : MethodName := ⟨RX6, "countOfColor", "(II)I"⟩
abbrev cX6_countOfColorOnPage : ByteArray := prog_1_method_32_code
def yX6_countOfColorOnPage : MethodName := ⟨RX6, "countOfColorOnPage", "(III)I"⟩
def RX7 : String := "StitchChartModel"
def TX7 : u_T := fun k => match k with
  | 0 => ("StitchChartModel", "width", "I", false)
  | 1 => ("StitchChartModel", "height", "I", false)
  | 2 => ("StitchChartModel", "reach", "I", false)
  | 3 => ("StitchChartModel", "tail", "I", false)
  | 4 => ("StitchChartModel", "columns", "I", false)
  | 5 => ("StitchChartModel", "lines", "I", false)
  | 6 => ("StitchChartModel", "overlap", "I", false)
  | 7 => ("StitchChartModel", "colorOf", "[I", true)
  | 8 => ("StitchChartModel", "newColor", "[I", true)
  | 9 => ("StitchChartModel", "isFlat", "[Z", true)
  | 10 => ("StitchChartModel", "isUpright", "[Z", true)
  | 11 => ("StitchChartModel", "runsOf", "[I", true)
  | 12 => ("StitchChartModel", "runX", "[I", true)
  | 13 => ("StitchChartModel", "runY", "[I", true)
  | 14 => ("StitchChartModel", "runLong", "[I", true)
  | 15 => ("StitchChartModel", "orderOf", "[I", true)
  | 16 => ("StitchChartModel", "isPlaced", "[Z", true)
  | 17 => ("StitchChartModel", "typed", "I", false)
  | 18 => ("StitchChartModel", "text", "[C", true)
  | 19 => ("StitchChartModel", "place", "I", false)
  | 20 => ("StitchChartModel", "isGood", "Z", false)
  | 21 => ("StitchChartModel", "readX", "I", false)
  | 22 => ("StitchChartModel", "readY", "I", false)
  | 23 => ("StitchChartModel", "isWide", "Z", false)
  | 24 => ("StitchChartModel", "touched", "I", false)
  | 25 => ("StitchChartModel", "isFound", "[Z", true)
  | 26 => ("StitchChartModel", "queue", "[I", true)
  | _ => ("StitchChartModel", "queued", "I", false)
def tyX7 : Nat → FieldType := fun k => match k with
  | 0 => .int
  | 1 => .int
  | 2 => .int
  | 3 => .int
  | 4 => .int
  | 5 => .int
  | 6 => .int
  | 7 => .array .int
  | 8 => .array .int
  | 9 => .array .boolean
  | 10 => .array .boolean
  | 11 => .array .int
  | 12 => .array .int
  | 13 => .array .int
  | 14 => .array .int
  | 15 => .array .int
  | 16 => .array .boolean
  | 17 => .int
  | 18 => .array .char
  | 19 => .int
  | 20 => .boolean
  | 21 => .int
  | 22 => .int
  | 23 => .boolean
  | 24 => .int
  | 25 => .array .boolean
  | 26 => .array .int
  | _ => .int
abbrev wsX70 : List Cond := u_ws RX7 TX7 28
theorem nmX7 : ∀ a, a < 28 → ∀ b, b < 28 → a ≠ b → (TX7 a).2.1 ≠ (TX7 b).2.1 := by decide +kernel
theorem tyX7_ok : ∀ k, k < 28 → parseFieldDescriptor (TX7 k).2.2.1 = some (tyX7 k) := by decide +kernel
abbrev cX7_init : ByteArray := prog_9_method_1_code
def yX7_init : MethodName := ⟨RX7, "<init>", "()V"⟩
abbrev cX7_in : ByteArray := prog_9_method_2_code
def yX7_in : MethodName := ⟨RX7, "in", "(III)Z"⟩
abbrev cX7_begin : ByteArray := prog_9_method_3_code
def yX7_begin : MethodName := ⟨RX7, "begin", "(II)V"⟩
abbrev cX7_reset : ByteArray := prog_9_method_4_code
def yX7_reset : MethodName := ⟨RX7, "reset", "(II)I"⟩
abbrev cX7_isCell : ByteArray := prog_9_method_5_code
def yX7_isCell : MethodName := ⟨RX7, "isCell", "(II)Z"⟩
abbrev cX7_at : ByteArray := prog_9_method_6_code
def yX7_at : MethodName := ⟨RX7, "at", "(II)I"⟩
abbrev cX7_lay : ByteArray := prog_9_method_7_code
def yX7_lay : MethodName := ⟨RX7, "lay", "(I)V"⟩
abbrev cX7_way : ByteArray := prog_9_method_8_code
def yX7_way : MethodName := ⟨RX7, "way", "(III)I"⟩
abbrev cX7_costs : ByteArray := prog_9_method_9_code
def yX7_costs : MethodName := ⟨RX7, "costs", "(III)I"⟩
abbrev cX7_layOrder : ByteArray := prog_9_method_10_code
def yX7_layOrder : MethodName := ⟨RX7, "layOrder", "(I)V"⟩
abbrev cX7_placed : ByteArray := prog_9_method_11_code
def yX7_placed : MethodName := ⟨RX7, "placed", "(II)I"⟩
abbrev cX7_threadOf : ByteArray := prog_9_method_12_code
def yX7_threadOf : MethodName := ⟨RX7, "threadOf", "(I)I"⟩
abbrev cX7_startsOf : ByteArray := prog_9_method_13_code
def yX7_startsOf : MethodName := ⟨RX7, "startsOf", "(I)I"⟩
abbrev cX7_type : ByteArray := prog_9_method_14_code
def yX7_type : MethodName := ⟨RX7, "type", "(C)I"⟩
abbrev cX7_clearText : ByteArray := prog_9_method_15_code
def yX7_clearText : MethodName := ⟨RX7, "clearText", "()I"⟩
abbrev cX7_isDigit : ByteArray := prog_9_method_16_code
def yX7_isDigit : MethodName := ⟨RX7, "isDigit", "()Z"⟩
abbrev cX7_readNumber : ByteArray := prog_9_method_17_code
def yX7_readNumber : MethodName := ⟨RX7, "readNumber", "()I"⟩
abbrev cX7_readEntry : ByteArray := prog_9_method_18_code
def yX7_readEntry : MethodName := ⟨RX7, "readEntry", "()V"⟩
abbrev cX7_takeOver : ByteArray := prog_9_method_19_code
def yX7_takeOver : MethodName := ⟨RX7, "takeOver", "()V"⟩
abbrev cX7_change : ByteArray := prog_9_method_20_code
def yX7_change : MethodName := ⟨RX7, "change", "()I"⟩
abbrev cX7_readChart : ByteArray := prog_9_method_21_code
def yX7_readChart : MethodName := ⟨RX7, "readChart", "()I"⟩
abbrev cX7_isColor : ByteArray := prog_9_method_22_code
def yX7_isColor : MethodName := ⟨RX7, "isColor", "(I)Z"⟩
abbrev cX7_setCell : ByteArray := prog_9_method_23_code
def yX7_setCell : MethodName := ⟨RX7, "setCell", "(III)I"⟩
abbrev cX7_fill : ByteArray := prog_9_method_24_code
def yX7_fill : MethodName := ⟨RX7, "fill", "(IIIII)I"⟩
abbrev cX7_cell : ByteArray := prog_9_method_25_code
def yX7_cell : MethodName := ⟨RX7, "cell", "(II)I"⟩
abbrev cX7_around : ByteArray := prog_9_method_26_code
def yX7_around : MethodName := ⟨RX7, "around", "(III)I"⟩
abbrev cX7_stands : ByteArray := prog_9_method_27_code
def yX7_stands : MethodName := ⟨RX7, "stands", "(II)Z"⟩
abbrev cX7_isLone : ByteArray := prog_9_method_28_code
def yX7_isLone : MethodName := ⟨RX7, "isLone", "(II)I"⟩
abbrev cX7_count : ByteArray := prog_9_method_29_code
def yX7_count : MethodName := ⟨RX7, "count", "(II)I"⟩
abbrev cX7_merged : ByteArray := prog_9_method_30_code
def yX7_merged : MethodName := ⟨RX7, "merged", "(II)I"⟩
abbrev cX7_merge : ByteArray := prog_9_method_31_code
def yX7_merge : MethodName := ⟨RX7, "merge", "(I)I"⟩
abbrev cX7_whereIs : ByteArray := prog_9_method_32_code
def yX7_whereIs : MethodName := ⟨RX7, "whereIs", "(II)I"⟩
abbrev cX7_run : ByteArray := prog_9_method_33_code
def yX7_run : MethodName := ⟨RX7, "run", "(III)I"⟩
abbrev cX7_runAt : ByteArray := prog_9_method_34_code
def yX7_runAt : MethodName := ⟨RX7, "runAt", "(II)I"⟩
abbrev cX7_shift : ByteArray := prog_9_method_35_code
def yX7_shift : MethodName := ⟨RX7, "shift", "(III)V"⟩
abbrev cX7_moveRun : ByteArray := prog_9_method_36_code
def yX7_moveRun : MethodName := ⟨RX7, "moveRun", "(III)I"⟩
abbrev cX7_firstOrder : ByteArray := prog_9_method_37_code
def yX7_firstOrder : MethodName := ⟨RX7, "firstOrder", "(I)I"⟩
abbrev cX7_placedWithout : ByteArray := prog_9_method_38_code
def yX7_placedWithout : MethodName := ⟨RX7, "placedWithout", "(III)I"⟩
abbrev cX7_costsIf : ByteArray := prog_9_method_39_code
def yX7_costsIf : MethodName := ⟨RX7, "costsIf", "(III)I"⟩
abbrev cX7_gain : ByteArray := prog_9_method_40_code
def yX7_gain : MethodName := ⟨RX7, "gain", "(IIII)I"⟩
abbrev cX7_isBetter : ByteArray := prog_9_method_41_code
def yX7_isBetter : MethodName := ⟨RX7, "isBetter", "(III)Z"⟩
abbrev cX7_shorten : ByteArray := prog_9_method_42_code
def yX7_shorten : MethodName := ⟨RX7, "shorten", "(I)I"⟩
abbrev cX7_setThread : ByteArray := prog_9_method_43_code
def yX7_setThread : MethodName := ⟨RX7, "setThread", "(II)I"⟩
abbrev cX7_noEdge : ByteArray := prog_9_method_44_code
def yX7_noEdge : MethodName := ⟨RX7, "noEdge", "(IIZ)Z"⟩
abbrev cX7_edge : ByteArray := prog_9_method_45_code
def yX7_edge : MethodName := ⟨RX7, "edge", "(II)I"⟩
abbrev cX7_hasBack : ByteArray := prog_9_method_46_code
def yX7_hasBack : MethodName := ⟨RX7, "hasBack", "(IIZ)Z"⟩
abbrev cX7_putBack : ByteArray := prog_9_method_47_code
def yX7_putBack : MethodName := ⟨RX7, "putBack", "(IIZZ)I"⟩
abbrev cX7_setBack : ByteArray := prog_9_method_48_code
def yX7_setBack : MethodName := ⟨RX7, "setBack", "(IIZZ)I"⟩
abbrev cX7_back : ByteArray := prog_9_method_49_code
def yX7_back : MethodName := ⟨RX7, "back", "(IIZ)I"⟩
abbrev cX7_outline : ByteArray := prog_9_method_50_code
def yX7_outline : MethodName := ⟨RX7, "outline", "(I)I"⟩
abbrev cX7_allBacks : ByteArray := prog_9_method_51_code
def yX7_allBacks : MethodName := ⟨RX7, "allBacks", "()I"⟩
abbrev cX7_clearBack : ByteArray := prog_9_method_52_code
def yX7_clearBack : MethodName := ⟨RX7, "clearBack", "()I"⟩
abbrev cX7_backsAt : ByteArray := prog_9_method_53_code
def yX7_backsAt : MethodName := ⟨RX7, "backsAt", "(II)I"⟩
abbrev cX7_reachPoint : ByteArray := prog_9_method_54_code
def yX7_reachPoint : MethodName := ⟨RX7, "reachPoint", "(IIZ)V"⟩
abbrev cX7_goThrough : ByteArray := prog_9_method_55_code
def yX7_goThrough : MethodName := ⟨RX7, "goThrough", "(II)I"⟩
abbrev cX7_backs : ByteArray := prog_9_method_56_code
def yX7_backs : MethodName := ⟨RX7, "backs", "(I)I"⟩
abbrev cX7_beside : ByteArray := prog_9_method_57_code
def yX7_beside : MethodName := ⟨RX7, "beside", "(II)I"⟩
abbrev cX7_first : ByteArray := prog_9_method_58_code
def yX7_first : MethodName := ⟨RX7, "first", "(II)I"⟩
abbrev cX7_owner : ByteArray := prog_9_method_59_code
def yX7_owner : MethodName := ⟨RX7, "owner", "(II)I"⟩
abbrev cX7_pages : ByteArray := prog_9_method_60_code
def yX7_pages : MethodName := ⟨RX7, "pages", "()I"⟩
abbrev cX7_setPages : ByteArray := prog_9_method_61_code
def yX7_setPages : MethodName := ⟨RX7, "setPages", "(III)I"⟩
abbrev cX7_page : ByteArray := prog_9_method_62_code
def yX7_page : MethodName := ⟨RX7, "page", "(II)I"⟩
abbrev cX7_stitchesOn : ByteArray := prog_9_method_63_code
def yX7_stitchesOn : MethodName := ⟨RX7, "stitchesOn", "(II)I"⟩
abbrev cX7_begins : ByteArray := prog_9_method_64_code
def yX7_begins : MethodName := ⟨RX7, "begins", "(III)Z"⟩
abbrev cX7_runsOn : ByteArray := prog_9_method_65_code
def yX7_runsOn : MethodName := ⟨RX7, "runsOn", "(II)I"⟩
abbrev cX7_threadOn : ByteArray := prog_9_method_66_code
def yX7_threadOn : MethodName := ⟨RX7, "threadOn", "(II)I"⟩
abbrev cX7_onPage : ByteArray := prog_9_method_67_code
def yX7_onPage : MethodName := ⟨RX7, "onPage", "(III)I"⟩
abbrev cX7_pageOf : ByteArray := prog_9_method_68_code
def yX7_pageOf : MethodName := ⟨RX7, "pageOf", "(II)I"⟩
def RJ9 : String := "java/lang/Math"
def TJ9 : u_T := fun k => match k with
  | _ => ("", "", "", false)
def tyJ9 : Nat → FieldType := fun k => match k with
  | _ => .int
abbrev wsJ90 : List Cond := u_ws RJ9 TJ9 0
theorem nmJ9 : ∀ a, a < 0 → ∀ b, b < 0 → a ≠ b → (TJ9 a).2.1 ≠ (TJ9 b).2.1 := by decide +kernel
theorem tyJ9_ok : ∀ k, k < 0 → parseFieldDescriptor (TJ9 k).2.2.1 = some (tyJ9 k) := by decide +kernel
abbrev cJ9_abs_0f7a4 : ByteArray := prog_10_method_59_code
def yJ9_abs_0f7a4 : MethodName := ⟨RJ9, "abs", "(I)I"⟩
abbrev cJ9_max_7cf53 : ByteArray := prog_10_method_65_code
def yJ9_max_7cf53 : MethodName := ⟨RJ9, "max", "(II)I"⟩
abbrev cJ9_min_7cf53 : ByteArray := prog_10_method_69_code
def yJ9_min_7cf53 : MethodName := ⟨RJ9, "min", "(II)I"⟩
def RL : String := "StitchChartLaw"
abbrev cL_law : ByteArray := code
def yL_law : MethodName := ⟨RL, "law", "([I)Z"⟩
abbrev vwCl : List vw_C := [(RX0, TX0, 6), (RX1, TX1, 4), (RX2, TX2, 9), (RX3, TX3, 5), (RX4, TX4, 4), (RX5, TX5, 2), (RX6, TX6, 6), (RX7, TX7, 28)]
end
section
/-! A small machine of numbers: ints are whole numbers, cells have numbers 1, 2 .. (0: the script). What it answers the JVM answers too (part 06). -/
abbrev AV : Type := Int ⊕ Nat
abbrev LV : Type := List (Option AV)
abbrev AH : Type := List (Nat × Nat) × (Nat → Nat → Nat) × (Nat → Nat → Int)
abbrev AR : Type := Option AV × AH
abbrev AN : Type := Nat × LV × List AV × AH
abbrev AC : Type := Nat × LV × Nat × List AV
abbrev AT : Type := AN ⊕ (AC ⊕ Option AV)
def aNext (pc : Nat) (lv : LV) (st : List AV) (h : AH) : Option AT := some (.inl (pc, lv, st, h))
def bck {α : Type} (lo hi x : Int) (a : Option α) : Option α := if lo ≤ x ∧ x ≤ hi then a else none
def chk {α : Type} (x : Int) (a : Option α) : Option α := bck (-2147483648) 2147483647 x a
def setO (iv : Nat → Nat → Int) (a : Nat) (f : Nat → Int) : Nat → Nat → Int := fun k => if k = a then f else iv k
def upI (f : Nat → Int) (i : Nat) (x : Int) : Nat → Int := fun j => if j = i then x else f j
def setR (rf : Nat → Nat → Nat) (a i v : Nat) : Nat → Nat → Nat := fun k j => if k = a ∧ j = i then v else rf k j
def gI {α : Type} (lv : LV) (i : Nat) (K : Int → Option α) : Option α := match lv[i]? with
  | some (some (.inl x)) => K x
  | _ => none
def gR {α : Type} (lv : LV) (i : Nat) (K : Nat → Option α) : Option α := match lv[i]? with
  | some (some (.inr x)) => K x
  | _ => none
def sI {α : Type} (st : List AV) (K : Int → List AV → Option α) : Option α := match st with
  | .inl x :: st' => K x st'
  | _ => none
def sR {α : Type} (st : List AV) (K : Nat → List AV → Option α) : Option α := match st with
  | .inr x :: st' => K x st'
  | _ => none
def gd {α : Type} (b : Bool) (a : Option α) : Option α := match b with
  | true => a
  | false => none
def gO {α β : Type} (o : Option β) (K : β → Option α) : Option α := match o with
  | some x => K x
  | none => none
/-- a jump -/
def jmp {α : Type} (pc : Nat) (off : Int) (K : Nat → Option α) : Option α := if 0 ≤ (pc : Int) + off then K ((pc : Int) + off).toNat else none
def cmpB (c : Jvm.ClassFile.Cond) (x y : Int) : Bool := match c with
  | .eq => decide (x = y)
  | .ne => decide (x ≠ y)
  | .lt => decide (x < y)
  | .ge => decide (y ≤ x)
  | .gt => decide (y < x)
  | .le => decide (x ≤ y)
/-- the cell a is of kind k and length n -/
def isA {α : Type} (h : AH) (a k : Nat) (K : Nat → Option α) : Option α := match a with
  | 0 => none
  | b + 1 => match h.1[b]? with
    | some (k', n) => if k' = k then K n else none
    | none => none
def aSl (cs : List (Nat × Nat)) : Nat := (cs.map fun q => q.2).sum
def ent (n : Nat) (vs : List AV) : LV := vs.map some ++ List.replicate (n - vs.length) none
end
