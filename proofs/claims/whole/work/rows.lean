section
-- ===== PART A: goes FIRST, ahead of the names: the tables' words, and 'selects' of the private methods out of them =====
/-- a private method of a class that the tables say can be made, by its rows of tables_1 -/
def lw_okq (q : MethodName × Nat) : Prop := (q.1.cls ≠ "java/lang/invoke/MethodHandle" ∧ q.1.cls ≠ "java/lang/invoke/VarHandle") ∧ Cond.instantiable q.1.cls q.2 ∈ tables_1 ∧ Cond.privateMethod q.1 ∈ tables_1 ∧ Cond.instanceMethod q.1 ∈ tables_1
theorem lw_p0 : lw_okq (⟨"IceRoad", "refuse", "(I)I"⟩, 16) := ⟨⟨by decide +kernel, by decide +kernel⟩, List.mem_of_getElem? (i := 16) (by decide +kernel), List.mem_of_getElem? (i := 253) (by decide +kernel), List.mem_of_getElem? (i := 254) (by decide +kernel)⟩
theorem lw_p1 : lw_okq (⟨"IceRoad", "isCell", "(I)Z"⟩, 16) := ⟨⟨by decide +kernel, by decide +kernel⟩, List.mem_of_getElem? (i := 16) (by decide +kernel), List.mem_of_getElem? (i := 261) (by decide +kernel), List.mem_of_getElem? (i := 262) (by decide +kernel)⟩
theorem lw_p2 : lw_okq (⟨"IceRoad", "leastOf", "(I)I"⟩, 16) := ⟨⟨by decide +kernel, by decide +kernel⟩, List.mem_of_getElem? (i := 16) (by decide +kernel), List.mem_of_getElem? (i := 265) (by decide +kernel), List.mem_of_getElem? (i := 266) (by decide +kernel)⟩
theorem lw_p3 : lw_okq (⟨"IceRoad", "nearestKnown", "(II)I"⟩, 16) := ⟨⟨by decide +kernel, by decide +kernel⟩, List.mem_of_getElem? (i := 16) (by decide +kernel), List.mem_of_getElem? (i := 269) (by decide +kernel), List.mem_of_getElem? (i := 270) (by decide +kernel)⟩
theorem lw_p4 : lw_okq (⟨"IceRoad", "mostOf", "(I)I"⟩, 16) := ⟨⟨by decide +kernel, by decide +kernel⟩, List.mem_of_getElem? (i := 16) (by decide +kernel), List.mem_of_getElem? (i := 279) (by decide +kernel), List.mem_of_getElem? (i := 280) (by decide +kernel)⟩
theorem lw_p5 : lw_okq (⟨"IceRoad", "loadsOn", "(I)I"⟩, 16) := ⟨⟨by decide +kernel, by decide +kernel⟩, List.mem_of_getElem? (i := 16) (by decide +kernel), List.mem_of_getElem? (i := 283) (by decide +kernel), List.mem_of_getElem? (i := 284) (by decide +kernel)⟩
theorem lw_p6 : lw_okq (⟨"IceRoad$Weather", "nearest", "(II)I"⟩, 1) := ⟨⟨by decide +kernel, by decide +kernel⟩, List.mem_of_getElem? (i := 30) (by decide +kernel), List.mem_of_getElem? (i := 322) (by decide +kernel), List.mem_of_getElem? (i := 323) (by decide +kernel)⟩
theorem lw_p7 : lw_okq (⟨"IceRoad", "lineUp", "(LIceRoad$Load;)V"⟩, 16) := ⟨⟨by decide +kernel, by decide +kernel⟩, List.mem_of_getElem? (i := 16) (by decide +kernel), List.mem_of_getElem? (i := 357) (by decide +kernel), List.mem_of_getElem? (i := 358) (by decide +kernel)⟩
theorem lw_p8 : lw_okq (⟨"IceRoad", "isLoad", "(I)Z"⟩, 16) := ⟨⟨by decide +kernel, by decide +kernel⟩, List.mem_of_getElem? (i := 16) (by decide +kernel), List.mem_of_getElem? (i := 365) (by decide +kernel), List.mem_of_getElem? (i := 366) (by decide +kernel)⟩
theorem lw_p9 : lw_okq (⟨"IceRoad", "reasonAgainst", "(LIceRoad$Load;I)I"⟩, 16) := ⟨⟨by decide +kernel, by decide +kernel⟩, List.mem_of_getElem? (i := 16) (by decide +kernel), List.mem_of_getElem? (i := 373) (by decide +kernel), List.mem_of_getElem? (i := 374) (by decide +kernel)⟩
theorem lw_p10 : lw_okq (⟨"IceRoad", "gatherFacts", "(LIceRoad$Load;I)V"⟩, 16) := ⟨⟨by decide +kernel, by decide +kernel⟩, List.mem_of_getElem? (i := 16) (by decide +kernel), List.mem_of_getElem? (i := 377) (by decide +kernel), List.mem_of_getElem? (i := 378) (by decide +kernel)⟩
theorem lw_p11 : lw_okq (⟨"IceRoad", "numberFor", "(I)I"⟩, 16) := ⟨⟨by decide +kernel, by decide +kernel⟩, List.mem_of_getElem? (i := 16) (by decide +kernel), List.mem_of_getElem? (i := 381) (by decide +kernel), List.mem_of_getElem? (i := 382) (by decide +kernel)⟩
theorem lw_p12 : lw_okq (⟨"IceRoad", "loadsIn", "(I)I"⟩, 16) := ⟨⟨by decide +kernel, by decide +kernel⟩, List.mem_of_getElem? (i := 16) (by decide +kernel), List.mem_of_getElem? (i := 401) (by decide +kernel), List.mem_of_getElem? (i := 402) (by decide +kernel)⟩
theorem lw_p13 : lw_okq (⟨"IceRoad", "weatherCells", "()V"⟩, 16) := ⟨⟨by decide +kernel, by decide +kernel⟩, List.mem_of_getElem? (i := 16) (by decide +kernel), List.mem_of_getElem? (i := 409) (by decide +kernel), List.mem_of_getElem? (i := 410) (by decide +kernel)⟩
theorem lw_p14 : lw_okq (⟨"IceRoad$Cell", "growth", "(I)I"⟩, 10) := ⟨⟨by decide +kernel, by decide +kernel⟩, List.mem_of_getElem? (i := 70) (by decide +kernel), List.mem_of_getElem? (i := 417) (by decide +kernel), List.mem_of_getElem? (i := 418) (by decide +kernel)⟩
theorem lw_p15 : lw_okq (⟨"IceRoad$Cell", "healOneHour", "()V"⟩, 10) := ⟨⟨by decide +kernel, by decide +kernel⟩, List.mem_of_getElem? (i := 70) (by decide +kernel), List.mem_of_getElem? (i := 422) (by decide +kernel), List.mem_of_getElem? (i := 423) (by decide +kernel)⟩
def lw_privs_1 : List (MethodName × Nat) := [(⟨"IceRoad", "refuse", "(I)I"⟩, 16), (⟨"IceRoad", "isCell", "(I)Z"⟩, 16), (⟨"IceRoad", "leastOf", "(I)I"⟩, 16), (⟨"IceRoad", "nearestKnown", "(II)I"⟩, 16), (⟨"IceRoad", "mostOf", "(I)I"⟩, 16), (⟨"IceRoad", "loadsOn", "(I)I"⟩, 16), (⟨"IceRoad$Weather", "nearest", "(II)I"⟩, 1), (⟨"IceRoad", "lineUp", "(LIceRoad$Load;)V"⟩, 16), (⟨"IceRoad", "isLoad", "(I)Z"⟩, 16), (⟨"IceRoad", "reasonAgainst", "(LIceRoad$Load;I)I"⟩, 16), (⟨"IceRoad", "gatherFacts", "(LIceRoad$Load;I)V"⟩, 16), (⟨"IceRoad", "numberFor", "(I)I"⟩, 16), (⟨"IceRoad", "loadsIn", "(I)I"⟩, 16), (⟨"IceRoad", "weatherCells", "()V"⟩, 16), (⟨"IceRoad$Cell", "growth", "(I)I"⟩, 10), (⟨"IceRoad$Cell", "healOneHour", "()V"⟩, 10)]
theorem lw_r1 : ∀ q ∈ lw_privs_1, lw_okq q := List.forall_mem_cons.mpr ⟨lw_p0, List.forall_mem_cons.mpr ⟨lw_p1, List.forall_mem_cons.mpr ⟨lw_p2, List.forall_mem_cons.mpr ⟨lw_p3, List.forall_mem_cons.mpr ⟨lw_p4, List.forall_mem_cons.mpr ⟨lw_p5, List.forall_mem_cons.mpr ⟨lw_p6, List.forall_mem_cons.mpr ⟨lw_p7, List.forall_mem_cons.mpr ⟨lw_p8, List.forall_mem_cons.mpr ⟨lw_p9, List.forall_mem_cons.mpr ⟨lw_p10, List.forall_mem_cons.mpr ⟨lw_p11, List.forall_mem_cons.mpr ⟨lw_p12, List.forall_mem_cons.mpr ⟨lw_p13, List.forall_mem_cons.mpr ⟨lw_p14, List.forall_mem_cons.mpr ⟨lw_p15, fun _ h => absurd h List.not_mem_nil⟩⟩⟩⟩⟩⟩⟩⟩⟩⟩⟩⟩⟩⟩⟩⟩
theorem lw_p16 : lw_okq (⟨"IceRoad", "agePlaces", "()V"⟩, 16) := ⟨⟨by decide +kernel, by decide +kernel⟩, List.mem_of_getElem? (i := 16) (by decide +kernel), List.mem_of_getElem? (i := 426) (by decide +kernel), List.mem_of_getElem? (i := 427) (by decide +kernel)⟩
theorem lw_p17 : lw_okq (⟨"IceRoad", "moveLoadsOnCells", "()V"⟩, 16) := ⟨⟨by decide +kernel, by decide +kernel⟩, List.mem_of_getElem? (i := 16) (by decide +kernel), List.mem_of_getElem? (i := 430) (by decide +kernel), List.mem_of_getElem? (i := 431) (by decide +kernel)⟩
theorem lw_p18 : lw_okq (⟨"IceRoad", "lastPlace", "(I)I"⟩, 16) := ⟨⟨by decide +kernel, by decide +kernel⟩, List.mem_of_getElem? (i := 16) (by decide +kernel), List.mem_of_getElem? (i := 434) (by decide +kernel), List.mem_of_getElem? (i := 435) (by decide +kernel)⟩
theorem lw_p19 : lw_okq (⟨"IceRoad", "comeIfItCan", "(LIceRoad$Load;I)V"⟩, 16) := ⟨⟨by decide +kernel, by decide +kernel⟩, List.mem_of_getElem? (i := 16) (by decide +kernel), List.mem_of_getElem? (i := 442) (by decide +kernel), List.mem_of_getElem? (i := 443) (by decide +kernel)⟩
theorem lw_p20 : lw_okq (⟨"IceRoad", "isBarred", "(LIceRoad$Load;I)Z"⟩, 16) := ⟨⟨by decide +kernel, by decide +kernel⟩, List.mem_of_getElem? (i := 16) (by decide +kernel), List.mem_of_getElem? (i := 446) (by decide +kernel), List.mem_of_getElem? (i := 447) (by decide +kernel)⟩
theorem lw_p21 : lw_okq (⟨"IceRoad", "moveWaitingLoads", "()V"⟩, 16) := ⟨⟨by decide +kernel, by decide +kernel⟩, List.mem_of_getElem? (i := 16) (by decide +kernel), List.mem_of_getElem? (i := 467) (by decide +kernel), List.mem_of_getElem? (i := 468) (by decide +kernel)⟩
theorem lw_p22 : lw_okq (⟨"IceRoad", "hoursHeldUp", "(LIceRoad$Cell;III)I"⟩, 16) := ⟨⟨by decide +kernel, by decide +kernel⟩, List.mem_of_getElem? (i := 16) (by decide +kernel), List.mem_of_getElem? (i := 475) (by decide +kernel), List.mem_of_getElem? (i := 476) (by decide +kernel)⟩
theorem lw_p23 : lw_okq (⟨"IceRoad$RuleReader", "takeKey", "()I"⟩, 2) := ⟨⟨by decide +kernel, by decide +kernel⟩, List.mem_of_getElem? (i := 57) (by decide +kernel), List.mem_of_getElem? (i := 504) (by decide +kernel), List.mem_of_getElem? (i := 505) (by decide +kernel)⟩
theorem lw_p24 : lw_okq (⟨"IceRoad$RuleReader", "takeWord", "(Ljava/lang/String;)Z"⟩, 2) := ⟨⟨by decide +kernel, by decide +kernel⟩, List.mem_of_getElem? (i := 57) (by decide +kernel), List.mem_of_getElem? (i := 513) (by decide +kernel), List.mem_of_getElem? (i := 514) (by decide +kernel)⟩
theorem lw_p25 : lw_okq (⟨"IceRoad$RuleReader", "takeSign", "(C)Z"⟩, 2) := ⟨⟨by decide +kernel, by decide +kernel⟩, List.mem_of_getElem? (i := 57) (by decide +kernel), List.mem_of_getElem? (i := 567) (by decide +kernel), List.mem_of_getElem? (i := 568) (by decide +kernel)⟩
theorem lw_p26 : lw_okq (⟨"IceRoad$RuleReader", "takeNumber", "()I"⟩, 2) := ⟨⟨by decide +kernel, by decide +kernel⟩, List.mem_of_getElem? (i := 57) (by decide +kernel), List.mem_of_getElem? (i := 571) (by decide +kernel), List.mem_of_getElem? (i := 572) (by decide +kernel)⟩
theorem lw_p27 : lw_okq (⟨"IceRoad$RuleReader", "isAtEnd", "()Z"⟩, 2) := ⟨⟨by decide +kernel, by decide +kernel⟩, List.mem_of_getElem? (i := 57) (by decide +kernel), List.mem_of_getElem? (i := 575) (by decide +kernel), List.mem_of_getElem? (i := 576) (by decide +kernel)⟩
theorem lw_p28 : lw_okq (⟨"IceRoad$RuleReader", "takeTests", "(LIceRoad$Rule;)Z"⟩, 2) := ⟨⟨by decide +kernel, by decide +kernel⟩, List.mem_of_getElem? (i := 57) (by decide +kernel), List.mem_of_getElem? (i := 579) (by decide +kernel), List.mem_of_getElem? (i := 580) (by decide +kernel)⟩
theorem lw_p29 : lw_okq (⟨"IceRoad$RuleReader", "takeTest", "(LIceRoad$Rule;)Z"⟩, 2) := ⟨⟨by decide +kernel, by decide +kernel⟩, List.mem_of_getElem? (i := 57) (by decide +kernel), List.mem_of_getElem? (i := 584) (by decide +kernel), List.mem_of_getElem? (i := 585) (by decide +kernel)⟩
theorem lw_p30 : lw_okq (⟨"IceRoad$RuleReader", "takeField", "()I"⟩, 2) := ⟨⟨by decide +kernel, by decide +kernel⟩, List.mem_of_getElem? (i := 57) (by decide +kernel), List.mem_of_getElem? (i := 588) (by decide +kernel), List.mem_of_getElem? (i := 589) (by decide +kernel)⟩
theorem lw_p31 : lw_okq (⟨"IceRoad$RuleReader", "takeJoint", "(LIceRoad$Rule;)Z"⟩, 2) := ⟨⟨by decide +kernel, by decide +kernel⟩, List.mem_of_getElem? (i := 57) (by decide +kernel), List.mem_of_getElem? (i := 597) (by decide +kernel), List.mem_of_getElem? (i := 598) (by decide +kernel)⟩
def lw_privs_2 : List (MethodName × Nat) := [(⟨"IceRoad", "agePlaces", "()V"⟩, 16), (⟨"IceRoad", "moveLoadsOnCells", "()V"⟩, 16), (⟨"IceRoad", "lastPlace", "(I)I"⟩, 16), (⟨"IceRoad", "comeIfItCan", "(LIceRoad$Load;I)V"⟩, 16), (⟨"IceRoad", "isBarred", "(LIceRoad$Load;I)Z"⟩, 16), (⟨"IceRoad", "moveWaitingLoads", "()V"⟩, 16), (⟨"IceRoad", "hoursHeldUp", "(LIceRoad$Cell;III)I"⟩, 16), (⟨"IceRoad$RuleReader", "takeKey", "()I"⟩, 2), (⟨"IceRoad$RuleReader", "takeWord", "(Ljava/lang/String;)Z"⟩, 2), (⟨"IceRoad$RuleReader", "takeSign", "(C)Z"⟩, 2), (⟨"IceRoad$RuleReader", "takeNumber", "()I"⟩, 2), (⟨"IceRoad$RuleReader", "isAtEnd", "()Z"⟩, 2), (⟨"IceRoad$RuleReader", "takeTests", "(LIceRoad$Rule;)Z"⟩, 2), (⟨"IceRoad$RuleReader", "takeTest", "(LIceRoad$Rule;)Z"⟩, 2), (⟨"IceRoad$RuleReader", "takeField", "()I"⟩, 2), (⟨"IceRoad$RuleReader", "takeJoint", "(LIceRoad$Rule;)Z"⟩, 2)]
theorem lw_r2 : ∀ q ∈ lw_privs_2, lw_okq q := List.forall_mem_cons.mpr ⟨lw_p16, List.forall_mem_cons.mpr ⟨lw_p17, List.forall_mem_cons.mpr ⟨lw_p18, List.forall_mem_cons.mpr ⟨lw_p19, List.forall_mem_cons.mpr ⟨lw_p20, List.forall_mem_cons.mpr ⟨lw_p21, List.forall_mem_cons.mpr ⟨lw_p22, List.forall_mem_cons.mpr ⟨lw_p23, List.forall_mem_cons.mpr ⟨lw_p24, List.forall_mem_cons.mpr ⟨lw_p25, List.forall_mem_cons.mpr ⟨lw_p26, List.forall_mem_cons.mpr ⟨lw_p27, List.forall_mem_cons.mpr ⟨lw_p28, List.forall_mem_cons.mpr ⟨lw_p29, List.forall_mem_cons.mpr ⟨lw_p30, List.forall_mem_cons.mpr ⟨lw_p31, fun _ h => absurd h List.not_mem_nil⟩⟩⟩⟩⟩⟩⟩⟩⟩⟩⟩⟩⟩⟩⟩⟩
theorem lw_p32 : lw_okq (⟨"IceRoad", "tonsDelivered", "()I"⟩, 16) := ⟨⟨by decide +kernel, by decide +kernel⟩, List.mem_of_getElem? (i := 16) (by decide +kernel), List.mem_of_getElem? (i := 612) (by decide +kernel), List.mem_of_getElem? (i := 613) (by decide +kernel)⟩
theorem lw_p33 : lw_okq (⟨"IceRoadModel", "refuse", "(I)I"⟩, 34) := ⟨⟨by decide +kernel, by decide +kernel⟩, List.mem_of_getElem? (i := 639) (by decide +kernel), List.mem_of_getElem? (i := 756) (by decide +kernel), List.mem_of_getElem? (i := 757) (by decide +kernel)⟩
theorem lw_p34 : lw_okq (⟨"IceRoadModel", "isCell", "(I)Z"⟩, 34) := ⟨⟨by decide +kernel, by decide +kernel⟩, List.mem_of_getElem? (i := 639) (by decide +kernel), List.mem_of_getElem? (i := 764) (by decide +kernel), List.mem_of_getElem? (i := 765) (by decide +kernel)⟩
theorem lw_p35 : lw_okq (⟨"IceRoadModel", "least", "(I)I"⟩, 34) := ⟨⟨by decide +kernel, by decide +kernel⟩, List.mem_of_getElem? (i := 639) (by decide +kernel), List.mem_of_getElem? (i := 768) (by decide +kernel), List.mem_of_getElem? (i := 769) (by decide +kernel)⟩
theorem lw_p36 : lw_okq (⟨"IceRoadModel", "nearest", "(II)I"⟩, 34) := ⟨⟨by decide +kernel, by decide +kernel⟩, List.mem_of_getElem? (i := 639) (by decide +kernel), List.mem_of_getElem? (i := 772) (by decide +kernel), List.mem_of_getElem? (i := 773) (by decide +kernel)⟩
theorem lw_p37 : lw_okq (⟨"IceRoadModel", "most", "(I)I"⟩, 34) := ⟨⟨by decide +kernel, by decide +kernel⟩, List.mem_of_getElem? (i := 639) (by decide +kernel), List.mem_of_getElem? (i := 776) (by decide +kernel), List.mem_of_getElem? (i := 777) (by decide +kernel)⟩
theorem lw_p38 : lw_okq (⟨"IceRoadModel", "loadsOn", "(I)I"⟩, 34) := ⟨⟨by decide +kernel, by decide +kernel⟩, List.mem_of_getElem? (i := 639) (by decide +kernel), List.mem_of_getElem? (i := 780) (by decide +kernel), List.mem_of_getElem? (i := 781) (by decide +kernel)⟩
theorem lw_p39 : lw_okq (⟨"IceRoadModel", "isBorne", "(II)Z"⟩, 34) := ⟨⟨by decide +kernel, by decide +kernel⟩, List.mem_of_getElem? (i := 639) (by decide +kernel), List.mem_of_getElem? (i := 796) (by decide +kernel), List.mem_of_getElem? (i := 797) (by decide +kernel)⟩
theorem lw_p40 : lw_okq (⟨"IceRoadModel", "nought", "(I)I"⟩, 34) := ⟨⟨by decide +kernel, by decide +kernel⟩, List.mem_of_getElem? (i := 639) (by decide +kernel), List.mem_of_getElem? (i := 804) (by decide +kernel), List.mem_of_getElem? (i := 805) (by decide +kernel)⟩
theorem lw_p41 : lw_okq (⟨"IceRoadModel", "heatOf", "(I)I"⟩, 34) := ⟨⟨by decide +kernel, by decide +kernel⟩, List.mem_of_getElem? (i := 639) (by decide +kernel), List.mem_of_getElem? (i := 812) (by decide +kernel), List.mem_of_getElem? (i := 813) (by decide +kernel)⟩
theorem lw_p42 : lw_okq (⟨"IceRoadModel", "becomes", "(II)V"⟩, 34) := ⟨⟨by decide +kernel, by decide +kernel⟩, List.mem_of_getElem? (i := 639) (by decide +kernel), List.mem_of_getElem? (i := 820) (by decide +kernel), List.mem_of_getElem? (i := 821) (by decide +kernel)⟩
theorem lw_p43 : lw_okq (⟨"IceRoadModel", "isLoad", "(I)Z"⟩, 34) := ⟨⟨by decide +kernel, by decide +kernel⟩, List.mem_of_getElem? (i := 639) (by decide +kernel), List.mem_of_getElem? (i := 844) (by decide +kernel), List.mem_of_getElem? (i := 845) (by decide +kernel)⟩
theorem lw_p44 : lw_okq (⟨"IceRoadModel", "whyNot", "(II)I"⟩, 34) := ⟨⟨by decide +kernel, by decide +kernel⟩, List.mem_of_getElem? (i := 639) (by decide +kernel), List.mem_of_getElem? (i := 852) (by decide +kernel), List.mem_of_getElem? (i := 853) (by decide +kernel)⟩
theorem lw_p45 : lw_okq (⟨"IceRoadModel", "saidOf", "(III)I"⟩, 34) := ⟨⟨by decide +kernel, by decide +kernel⟩, List.mem_of_getElem? (i := 639) (by decide +kernel), List.mem_of_getElem? (i := 856) (by decide +kernel), List.mem_of_getElem? (i := 857) (by decide +kernel)⟩
theorem lw_p46 : lw_okq (⟨"IceRoadModel", "holds", "(III)Z"⟩, 34) := ⟨⟨by decide +kernel, by decide +kernel⟩, List.mem_of_getElem? (i := 639) (by decide +kernel), List.mem_of_getElem? (i := 860) (by decide +kernel), List.mem_of_getElem? (i := 861) (by decide +kernel)⟩
theorem lw_p47 : lw_okq (⟨"IceRoadModel", "field", "(III)I"⟩, 34) := ⟨⟨by decide +kernel, by decide +kernel⟩, List.mem_of_getElem? (i := 639) (by decide +kernel), List.mem_of_getElem? (i := 864) (by decide +kernel), List.mem_of_getElem? (i := 865) (by decide +kernel)⟩
def lw_privs_3 : List (MethodName × Nat) := [(⟨"IceRoad", "tonsDelivered", "()I"⟩, 16), (⟨"IceRoadModel", "refuse", "(I)I"⟩, 34), (⟨"IceRoadModel", "isCell", "(I)Z"⟩, 34), (⟨"IceRoadModel", "least", "(I)I"⟩, 34), (⟨"IceRoadModel", "nearest", "(II)I"⟩, 34), (⟨"IceRoadModel", "most", "(I)I"⟩, 34), (⟨"IceRoadModel", "loadsOn", "(I)I"⟩, 34), (⟨"IceRoadModel", "isBorne", "(II)Z"⟩, 34), (⟨"IceRoadModel", "nought", "(I)I"⟩, 34), (⟨"IceRoadModel", "heatOf", "(I)I"⟩, 34), (⟨"IceRoadModel", "becomes", "(II)V"⟩, 34), (⟨"IceRoadModel", "isLoad", "(I)Z"⟩, 34), (⟨"IceRoadModel", "whyNot", "(II)I"⟩, 34), (⟨"IceRoadModel", "saidOf", "(III)I"⟩, 34), (⟨"IceRoadModel", "holds", "(III)Z"⟩, 34), (⟨"IceRoadModel", "field", "(III)I"⟩, 34)]
theorem lw_r3 : ∀ q ∈ lw_privs_3, lw_okq q := List.forall_mem_cons.mpr ⟨lw_p32, List.forall_mem_cons.mpr ⟨lw_p33, List.forall_mem_cons.mpr ⟨lw_p34, List.forall_mem_cons.mpr ⟨lw_p35, List.forall_mem_cons.mpr ⟨lw_p36, List.forall_mem_cons.mpr ⟨lw_p37, List.forall_mem_cons.mpr ⟨lw_p38, List.forall_mem_cons.mpr ⟨lw_p39, List.forall_mem_cons.mpr ⟨lw_p40, List.forall_mem_cons.mpr ⟨lw_p41, List.forall_mem_cons.mpr ⟨lw_p42, List.forall_mem_cons.mpr ⟨lw_p43, List.forall_mem_cons.mpr ⟨lw_p44, List.forall_mem_cons.mpr ⟨lw_p45, List.forall_mem_cons.mpr ⟨lw_p46, List.forall_mem_cons.mpr ⟨lw_p47, fun _ h => absurd h List.not_mem_nil⟩⟩⟩⟩⟩⟩⟩⟩⟩⟩⟩⟩⟩⟩⟩⟩
theorem lw_p48 : lw_okq (⟨"IceRoadModel", "many", "(I)I"⟩, 34) := ⟨⟨by decide +kernel, by decide +kernel⟩, List.mem_of_getElem? (i := 639) (by decide +kernel), List.mem_of_getElem? (i := 876) (by decide +kernel), List.mem_of_getElem? (i := 877) (by decide +kernel)⟩
theorem lw_p49 : lw_okq (⟨"IceRoadModel", "goesBy", "()V"⟩, 34) := ⟨⟨by decide +kernel, by decide +kernel⟩, List.mem_of_getElem? (i := 639) (by decide +kernel), List.mem_of_getElem? (i := 884) (by decide +kernel), List.mem_of_getElem? (i := 885) (by decide +kernel)⟩
theorem lw_p50 : lw_okq (⟨"IceRoadModel", "grows", "(II)V"⟩, 34) := ⟨⟨by decide +kernel, by decide +kernel⟩, List.mem_of_getElem? (i := 639) (by decide +kernel), List.mem_of_getElem? (i := 888) (by decide +kernel), List.mem_of_getElem? (i := 889) (by decide +kernel)⟩
theorem lw_p51 : lw_okq (⟨"IceRoadModel", "next", "(I)I"⟩, 34) := ⟨⟨by decide +kernel, by decide +kernel⟩, List.mem_of_getElem? (i := 639) (by decide +kernel), List.mem_of_getElem? (i := 892) (by decide +kernel), List.mem_of_getElem? (i := 893) (by decide +kernel)⟩
theorem lw_p52 : lw_okq (⟨"IceRoadModel", "goesOn", "(I)V"⟩, 34) := ⟨⟨by decide +kernel, by decide +kernel⟩, List.mem_of_getElem? (i := 639) (by decide +kernel), List.mem_of_getElem? (i := 896) (by decide +kernel), List.mem_of_getElem? (i := 897) (by decide +kernel)⟩
theorem lw_p53 : lw_okq (⟨"IceRoadModel", "can", "(II)Z"⟩, 34) := ⟨⟨by decide +kernel, by decide +kernel⟩, List.mem_of_getElem? (i := 639) (by decide +kernel), List.mem_of_getElem? (i := 900) (by decide +kernel), List.mem_of_getElem? (i := 901) (by decide +kernel)⟩
theorem lw_p54 : lw_okq (⟨"IceRoadModel", "comes", "(II)V"⟩, 34) := ⟨⟨by decide +kernel, by decide +kernel⟩, List.mem_of_getElem? (i := 639) (by decide +kernel), List.mem_of_getElem? (i := 904) (by decide +kernel), List.mem_of_getElem? (i := 905) (by decide +kernel)⟩
theorem lw_p55 : lw_okq (⟨"IceRoadModel", "cracks", "(I)V"⟩, 34) := ⟨⟨by decide +kernel, by decide +kernel⟩, List.mem_of_getElem? (i := 639) (by decide +kernel), List.mem_of_getElem? (i := 908) (by decide +kernel), List.mem_of_getElem? (i := 909) (by decide +kernel)⟩
theorem lw_p56 : lw_okq (⟨"IceRoadModel", "allBear", "(I)Z"⟩, 34) := ⟨⟨by decide +kernel, by decide +kernel⟩, List.mem_of_getElem? (i := 639) (by decide +kernel), List.mem_of_getElem? (i := 916) (by decide +kernel), List.mem_of_getElem? (i := 917) (by decide +kernel)⟩
theorem lw_p57 : lw_okq (⟨"IceRoadModel", "reads", "()V"⟩, 34) := ⟨⟨by decide +kernel, by decide +kernel⟩, List.mem_of_getElem? (i := 639) (by decide +kernel), List.mem_of_getElem? (i := 933) (by decide +kernel), List.mem_of_getElem? (i := 934) (by decide +kernel)⟩
theorem lw_p58 : lw_okq (⟨"IceRoadModel", "key", "()I"⟩, 34) := ⟨⟨by decide +kernel, by decide +kernel⟩, List.mem_of_getElem? (i := 639) (by decide +kernel), List.mem_of_getElem? (i := 937) (by decide +kernel), List.mem_of_getElem? (i := 938) (by decide +kernel)⟩
theorem lw_p59 : lw_okq (⟨"IceRoadModel", "here", "()I"⟩, 34) := ⟨⟨by decide +kernel, by decide +kernel⟩, List.mem_of_getElem? (i := 639) (by decide +kernel), List.mem_of_getElem? (i := 941) (by decide +kernel), List.mem_of_getElem? (i := 942) (by decide +kernel)⟩
theorem lw_p60 : lw_okq (⟨"IceRoadModel", "eats3", "(III)V"⟩, 34) := ⟨⟨by decide +kernel, by decide +kernel⟩, List.mem_of_getElem? (i := 639) (by decide +kernel), List.mem_of_getElem? (i := 945) (by decide +kernel), List.mem_of_getElem? (i := 946) (by decide +kernel)⟩
theorem lw_p61 : lw_okq (⟨"IceRoadModel", "eats", "(I)V"⟩, 34) := ⟨⟨by decide +kernel, by decide +kernel⟩, List.mem_of_getElem? (i := 639) (by decide +kernel), List.mem_of_getElem? (i := 949) (by decide +kernel), List.mem_of_getElem? (i := 950) (by decide +kernel)⟩
theorem lw_p62 : lw_okq (⟨"IceRoadModel", "digits", "()V"⟩, 34) := ⟨⟨by decide +kernel, by decide +kernel⟩, List.mem_of_getElem? (i := 639) (by decide +kernel), List.mem_of_getElem? (i := 953) (by decide +kernel), List.mem_of_getElem? (i := 954) (by decide +kernel)⟩
theorem lw_p63 : lw_okq (⟨"IceRoadModel", "test", "(I)V"⟩, 34) := ⟨⟨by decide +kernel, by decide +kernel⟩, List.mem_of_getElem? (i := 639) (by decide +kernel), List.mem_of_getElem? (i := 957) (by decide +kernel), List.mem_of_getElem? (i := 958) (by decide +kernel)⟩
def lw_privs_4 : List (MethodName × Nat) := [(⟨"IceRoadModel", "many", "(I)I"⟩, 34), (⟨"IceRoadModel", "goesBy", "()V"⟩, 34), (⟨"IceRoadModel", "grows", "(II)V"⟩, 34), (⟨"IceRoadModel", "next", "(I)I"⟩, 34), (⟨"IceRoadModel", "goesOn", "(I)V"⟩, 34), (⟨"IceRoadModel", "can", "(II)Z"⟩, 34), (⟨"IceRoadModel", "comes", "(II)V"⟩, 34), (⟨"IceRoadModel", "cracks", "(I)V"⟩, 34), (⟨"IceRoadModel", "allBear", "(I)Z"⟩, 34), (⟨"IceRoadModel", "reads", "()V"⟩, 34), (⟨"IceRoadModel", "key", "()I"⟩, 34), (⟨"IceRoadModel", "here", "()I"⟩, 34), (⟨"IceRoadModel", "eats3", "(III)V"⟩, 34), (⟨"IceRoadModel", "eats", "(I)V"⟩, 34), (⟨"IceRoadModel", "digits", "()V"⟩, 34), (⟨"IceRoadModel", "test", "(I)V"⟩, 34)]
theorem lw_r4 : ∀ q ∈ lw_privs_4, lw_okq q := List.forall_mem_cons.mpr ⟨lw_p48, List.forall_mem_cons.mpr ⟨lw_p49, List.forall_mem_cons.mpr ⟨lw_p50, List.forall_mem_cons.mpr ⟨lw_p51, List.forall_mem_cons.mpr ⟨lw_p52, List.forall_mem_cons.mpr ⟨lw_p53, List.forall_mem_cons.mpr ⟨lw_p54, List.forall_mem_cons.mpr ⟨lw_p55, List.forall_mem_cons.mpr ⟨lw_p56, List.forall_mem_cons.mpr ⟨lw_p57, List.forall_mem_cons.mpr ⟨lw_p58, List.forall_mem_cons.mpr ⟨lw_p59, List.forall_mem_cons.mpr ⟨lw_p60, List.forall_mem_cons.mpr ⟨lw_p61, List.forall_mem_cons.mpr ⟨lw_p62, List.forall_mem_cons.mpr ⟨lw_p63, fun _ h => absurd h List.not_mem_nil⟩⟩⟩⟩⟩⟩⟩⟩⟩⟩⟩⟩⟩⟩⟩⟩
theorem lw_p64 : lw_okq (⟨"IceRoadModel", "fieldRead", "()I"⟩, 34) := ⟨⟨by decide +kernel, by decide +kernel⟩, List.mem_of_getElem? (i := 639) (by decide +kernel), List.mem_of_getElem? (i := 961) (by decide +kernel), List.mem_of_getElem? (i := 962) (by decide +kernel)⟩
def lw_privs_5 : List (MethodName × Nat) := [(⟨"IceRoadModel", "fieldRead", "()I"⟩, 34)]
theorem lw_r5 : ∀ q ∈ lw_privs_5, lw_okq q := List.forall_mem_cons.mpr ⟨lw_p64, fun _ h => absurd h List.not_mem_nil⟩
def lw_privs : List (MethodName × Nat) := lw_privs_1 ++ (lw_privs_2 ++ (lw_privs_3 ++ (lw_privs_4 ++ (lw_privs_5))))
def lw_tbl : List Cond := k2_sels lw_privs ++ tables_1
theorem lw_privs_ok : ∀ q ∈ lw_privs, lw_okq q := by
  show ∀ q ∈ lw_privs_1 ++ (lw_privs_2 ++ (lw_privs_3 ++ (lw_privs_4 ++ (lw_privs_5)))), lw_okq q
  exact List.forall_mem_append.mpr ⟨lw_r1, List.forall_mem_append.mpr ⟨lw_r2, List.forall_mem_append.mpr ⟨lw_r3, List.forall_mem_append.mpr ⟨lw_r4, lw_r5⟩⟩⟩⟩
end
section
def RX0 : String := "IceRoad$Cell"
def TX0 : u_T := fun k => match k with
  | 0 => ("IceRoad$Cell", "kind", "I", false)
  | 1 => ("IceRoad$Cell", "thickness", "I", false)
  | 2 => ("IceRoad$Cell", "snow", "I", false)
  | 3 => ("IceRoad$Cell", "depth", "I", false)
  | 4 => ("IceRoad$Cell", "length", "I", false)
  | 5 => ("IceRoad$Cell", "wear", "I", false)
  | 6 => ("IceRoad$Cell", "healing", "I", false)
  | 7 => ("IceRoad$Cell", "known", "I", false)
  | 8 => ("IceRoad$Cell", "cameUp", "I", false)
  | _ => ("IceRoad$Cell", "cameDown", "I", false)
def tyX0 : Nat → FieldType := fun k => match k with
  | 0 => .int
  | 1 => .int
  | 2 => .int
  | 3 => .int
  | 4 => .int
  | 5 => .int
  | 6 => .int
  | 7 => .int
  | 8 => .int
  | _ => .int
abbrev wsX00 : List Cond := u_ws RX0 TX0 10
theorem nmX0 : ∀ a, a < 10 → ∀ b, b < 10 → a ≠ b → (TX0 a).2.1 ≠ (TX0 b).2.1 := by decide +kernel
theorem tyX0_ok : ∀ k, k < 10 → parseFieldDescriptor (TX0 k).2.2.1 = some (tyX0 k) := by decide +kernel
abbrev cX0_init : ByteArray := prog_2_method_1_code
def yX0_init : MethodName := ⟨RX0, "<init>", "()V"⟩
abbrev cX0_lay : ByteArray := prog_2_method_2_code
def yX0_lay : MethodName := ⟨RX0, "lay", "(III)V"⟩
abbrev cX0_takeAfter : ByteArray := prog_2_method_3_code
def yX0_takeAfter : MethodName := ⟨RX0, "takeAfter", "(LIceRoad$Cell;)V"⟩
abbrev cX0_passHour : ByteArray := prog_2_method_4_code
def yX0_passHour : MethodName := ⟨RX0, "passHour", "(I)V"⟩
abbrev cX0_growth : ByteArray := prog_2_method_5_code
def yX0_growth : MethodName := ⟨RX0, "growth", "(I)I"⟩
abbrev cX0_healOneHour : ByteArray := prog_2_method_6_code
def yX0_healOneHour : MethodName := ⟨RX0, "healOneHour", "()V"⟩
abbrev cX0_holdsUp : ByteArray := prog_2_method_7_code
def yX0_holdsUp : MethodName := ⟨RX0, "holdsUp", "(I)Z"⟩
abbrev cX0_become : ByteArray := prog_2_method_8_code
def yX0_become : MethodName := ⟨RX0, "become", "(I)V"⟩
abbrev cX0_crack : ByteArray := prog_2_method_9_code
def yX0_crack : MethodName := ⟨RX0, "crack", "()V"⟩
abbrev cX0_wearDown : ByteArray := prog_2_method_10_code
def yX0_wearDown : MethodName := ⟨RX0, "wearDown", "(I)V"⟩
abbrev cX0_takeSnow : ByteArray := prog_2_method_11_code
def yX0_takeSnow : MethodName := ⟨RX0, "takeSnow", "(I)Z"⟩
abbrev cX0_lastCome : ByteArray := prog_2_method_12_code
def yX0_lastCome : MethodName := ⟨RX0, "lastCome", "(I)I"⟩
abbrev cX0_noteCome : ByteArray := prog_2_method_13_code
def yX0_noteCome : MethodName := ⟨RX0, "noteCome", "(II)V"⟩
def RX1 : String := "IceRoad$Load"
def TX1 : u_T := fun k => match k with
  | 0 => ("IceRoad$Load", "weight", "I", false)
  | 1 => ("IceRoad$Load", "rank", "I", false)
  | 2 => ("IceRoad$Load", "way", "I", false)
  | 3 => ("IceRoad$Load", "state", "I", false)
  | 4 => ("IceRoad$Load", "place", "I", false)
  | 5 => ("IceRoad$Load", "hoursThere", "I", false)
  | _ => ("IceRoad$Load", "endHour", "I", false)
def tyX1 : Nat → FieldType := fun k => match k with
  | 0 => .int
  | 1 => .int
  | 2 => .int
  | 3 => .int
  | 4 => .int
  | 5 => .int
  | _ => .int
abbrev wsX10 : List Cond := u_ws RX1 TX1 7
theorem nmX1 : ∀ a, a < 7 → ∀ b, b < 7 → a ≠ b → (TX1 a).2.1 ≠ (TX1 b).2.1 := by decide +kernel
theorem tyX1_ok : ∀ k, k < 7 → parseFieldDescriptor (TX1 k).2.2.1 = some (tyX1 k) := by decide +kernel
abbrev cX1_init : ByteArray := prog_3_method_1_code
def yX1_init : MethodName := ⟨RX1, "<init>", "()V"⟩
abbrev cX1_enter : ByteArray := prog_3_method_2_code
def yX1_enter : MethodName := ⟨RX1, "enter", "(I)V"⟩
abbrev cX1_end : ByteArray := prog_3_method_3_code
def yX1_end : MethodName := ⟨RX1, "end", "(II)V"⟩
def RX2 : String := "IceRoad$Rule"
def TX2 : u_T := fun k => match k with
  | 0 => ("IceRoad$Rule", "key", "I", false)
  | 1 => ("IceRoad$Rule", "number", "I", false)
  | 2 => ("IceRoad$Rule", "from", "I", false)
  | 3 => ("IceRoad$Rule", "to", "I", false)
  | 4 => ("IceRoad$Rule", "oneIsEnough", "Z", false)
  | 5 => ("IceRoad$Rule", "testCount", "I", false)
  | 6 => ("IceRoad$Rule", "fields", "[I", true)
  | 7 => ("IceRoad$Rule", "signs", "[I", true)
  | _ => ("IceRoad$Rule", "limits", "[I", true)
def tyX2 : Nat → FieldType := fun k => match k with
  | 0 => .int
  | 1 => .int
  | 2 => .int
  | 3 => .int
  | 4 => .boolean
  | 5 => .int
  | 6 => .array .int
  | 7 => .array .int
  | _ => .array .int
abbrev wsX20 : List Cond := u_ws RX2 TX2 9
theorem nmX2 : ∀ a, a < 9 → ∀ b, b < 9 → a ≠ b → (TX2 a).2.1 ≠ (TX2 b).2.1 := by decide +kernel
theorem tyX2_ok : ∀ k, k < 9 → parseFieldDescriptor (TX2 k).2.2.1 = some (tyX2 k) := by decide +kernel
abbrev cX2_init : ByteArray := prog_4_method_1_code
def yX2_init : MethodName := ⟨RX2, "<init>", "()V"⟩
abbrev cX2_applies : ByteArray := prog_4_method_2_code
def yX2_applies : MethodName := ⟨RX2, "applies", "(I[I)Z"⟩
def RX3 : String := "IceRoad$RuleReader"
def TX3 : u_T := fun k => match k with
  | 0 => ("IceRoad$RuleReader", "tape", "LIceRoad$Tape;", true)
  | _ => ("IceRoad$RuleReader", "place", "I", false)
def tyX3 : Nat → FieldType := fun k => match k with
  | 0 => .object "IceRoad$Tape"
  | _ => .int
abbrev wsX30 : List Cond := u_ws RX3 TX3 2
theorem nmX3 : ∀ a, a < 2 → ∀ b, b < 2 → a ≠ b → (TX3 a).2.1 ≠ (TX3 b).2.1 := by decide +kernel
theorem tyX3_ok : ∀ k, k < 2 → parseFieldDescriptor (TX3 k).2.2.1 = some (tyX3 k) := by decide +kernel
abbrev cX3_init : ByteArray := prog_5_method_1_code
def yX3_init : MethodName := ⟨RX3, "<init>", "(LIceRoad$Tape;)V"⟩
abbrev cX3_takeRule : ByteArray := prog_5_method_2_code
def yX3_takeRule : MethodName := ⟨RX3, "takeRule", "(LIceRoad$Rule;)Z"⟩
abbrev cX3_takeTests : ByteArray := prog_5_method_3_code
def yX3_takeTests : MethodName := ⟨RX3, "takeTests", "(LIceRoad$Rule;)Z"⟩
abbrev cX3_takeJoint : ByteArray := prog_5_method_4_code
def yX3_takeJoint : MethodName := ⟨RX3, "takeJoint", "(LIceRoad$Rule;)Z"⟩
abbrev cX3_takeTest : ByteArray := prog_5_method_5_code
def yX3_takeTest : MethodName := ⟨RX3, "takeTest", "(LIceRoad$Rule;)Z"⟩
abbrev cX3_takeKey : ByteArray := prog_5_method_6_code
def yX3_takeKey : MethodName := ⟨RX3, "takeKey", "()I"⟩
abbrev cX3_takeField : ByteArray := prog_5_method_7_code
def yX3_takeField : MethodName := ⟨RX3, "takeField", "()I"⟩
abbrev cX3_takeNumber : ByteArray := prog_5_method_8_code
def yX3_takeNumber : MethodName := ⟨RX3, "takeNumber", "()I"⟩
abbrev cX3_takeWord : ByteArray := prog_5_method_9_code
def yX3_takeWord : MethodName := ⟨RX3, "takeWord", "(Ljava/lang/String;)Z"⟩
abbrev cX3_takeSign : ByteArray := prog_5_method_10_code
def yX3_takeSign : MethodName := ⟨RX3, "takeSign", "(C)Z"⟩
abbrev cX3_isAtEnd : ByteArray := prog_5_method_11_code
def yX3_isAtEnd : MethodName := ⟨RX3, "isAtEnd", "()Z"⟩
def RX4 : String := "IceRoad$Tape"
def TX4 : u_T := fun k => match k with
  | 0 => ("IceRoad$Tape", "bytes", "[I", true)
  | _ => ("IceRoad$Tape", "length", "I", false)
def tyX4 : Nat → FieldType := fun k => match k with
  | 0 => .array .int
  | _ => .int
abbrev wsX40 : List Cond := u_ws RX4 TX4 2
theorem nmX4 : ∀ a, a < 2 → ∀ b, b < 2 → a ≠ b → (TX4 a).2.1 ≠ (TX4 b).2.1 := by decide +kernel
theorem tyX4_ok : ∀ k, k < 2 → parseFieldDescriptor (TX4 k).2.2.1 = some (tyX4 k) := by decide +kernel
abbrev cX4_init : ByteArray := prog_6_method_1_code
def yX4_init : MethodName := ⟨RX4, "<init>", "()V"⟩
abbrev cX4_put : ByteArray := prog_6_method_2_code
def yX4_put : MethodName := ⟨RX4, "put", "(I)V"⟩
abbrev cX4_at : ByteArray := prog_6_method_3_code
def yX4_at : MethodName := ⟨RX4, "at", "(I)I"⟩
def RX5 : String := "IceRoad$Weather"
def TX5 : u_T := fun k => match k with
  | _ => ("IceRoad$Weather", "heats", "[I", true)
def tyX5 : Nat → FieldType := fun k => match k with
  | _ => .array .int
abbrev wsX50 : List Cond := u_ws RX5 TX5 1
theorem nmX5 : ∀ a, a < 1 → ∀ b, b < 1 → a ≠ b → (TX5 a).2.1 ≠ (TX5 b).2.1 := by decide +kernel
theorem tyX5_ok : ∀ k, k < 1 → parseFieldDescriptor (TX5 k).2.2.1 = some (tyX5 k) := by decide +kernel
abbrev cX5_init : ByteArray := prog_7_method_1_code
def yX5_init : MethodName := ⟨RX5, "<init>", "()V"⟩
abbrev cX5_heatOf : ByteArray := prog_7_method_2_code
def yX5_heatOf : MethodName := ⟨RX5, "heatOf", "(I)I"⟩
abbrev cX5_nearest : ByteArray := prog_7_method_3_code
def yX5_nearest : MethodName := ⟨RX5, "nearest", "(II)I"⟩
def RX6 : String := "IceRoad"
def TX6 : u_T := fun k => match k with
  | 0 => ("IceRoad", "cells", "[LIceRoad$Cell;", true)
  | 1 => ("IceRoad", "loads", "[LIceRoad$Load;", true)
  | 2 => ("IceRoad", "moving", "[LIceRoad$Load;", true)
  | 3 => ("IceRoad", "rules", "[LIceRoad$Rule;", true)
  | 4 => ("IceRoad", "hours", "LIceRoad$Weather;", true)
  | 5 => ("IceRoad", "tape", "LIceRoad$Tape;", true)
  | 6 => ("IceRoad", "reader", "LIceRoad$RuleReader;", true)
  | 7 => ("IceRoad", "numbers", "[I", true)
  | 8 => ("IceRoad", "refusals", "[I", true)
  | 9 => ("IceRoad", "facts", "[I", true)
  | 10 => ("IceRoad", "trial", "LIceRoad$Cell;", true)
  | 11 => ("IceRoad", "rowThere", "Z", false)
  | 12 => ("IceRoad", "cellCount", "I", false)
  | 13 => ("IceRoad", "loadCount", "I", false)
  | 14 => ("IceRoad", "ruleCount", "I", false)
  | _ => ("IceRoad", "openHour", "I", false)
def tyX6 : Nat → FieldType := fun k => match k with
  | 0 => .array (.object "IceRoad$Cell")
  | 1 => .array (.object "IceRoad$Load")
  | 2 => .array (.object "IceRoad$Load")
  | 3 => .array (.object "IceRoad$Rule")
  | 4 => .object "IceRoad$Weather"
  | 5 => .object "IceRoad$Tape"
  | 6 => .object "IceRoad$RuleReader"
  | 7 => .array .int
  | 8 => .array .int
  | 9 => .array .int
  | 10 => .object "IceRoad$Cell"
  | 11 => .boolean
  | 12 => .int
  | 13 => .int
  | 14 => .int
  | _ => .int
abbrev wsX60 : List Cond := u_ws RX6 TX6 16
theorem nmX6 : ∀ a, a < 16 → ∀ b, b < 16 → a ≠ b → (TX6 a).2.1 ≠ (TX6 b).2.1 := by decide +kernel
theorem tyX6_ok : ∀ k, k < 16 → parseFieldDescriptor (TX6 k).2.2.1 = some (tyX6 k) := by decide +kernel
abbrev cX6_init : ByteArray := prog_1_method_1_code
def yX6_init : MethodName := ⟨RX6, "<init>", "()V"⟩
abbrev cX6_cell : ByteArray := prog_1_method_2_code
def yX6_cell : MethodName := ⟨RX6, "cell", "(IIZ)I"⟩
abbrev cX6_look : ByteArray := prog_1_method_3_code
def yX6_look : MethodName := ⟨RX6, "look", "(II)I"⟩
abbrev cX6_thick : ByteArray := prog_1_method_4_code
def yX6_thick : MethodName := ⟨RX6, "thick", "(II)I"⟩
abbrev cX6_read : ByteArray := prog_1_method_5_code
def yX6_read : MethodName := ⟨RX6, "read", "(I)I"⟩
abbrev cX6_bears : ByteArray := prog_1_method_6_code
def yX6_bears : MethodName := ⟨RX6, "bears", "(II)I"⟩
abbrev cX6_weather : ByteArray := prog_1_method_7_code
def yX6_weather : MethodName := ⟨RX6, "weather", "(II)I"⟩
abbrev cX6_cold : ByteArray := prog_1_method_8_code
def yX6_cold : MethodName := ⟨RX6, "cold", "()I"⟩
abbrev cX6_heat : ByteArray := prog_1_method_9_code
def yX6_heat : MethodName := ⟨RX6, "heat", "(I)I"⟩
abbrev cX6_sweep : ByteArray := prog_1_method_10_code
def yX6_sweep : MethodName := ⟨RX6, "sweep", "(I)I"⟩
abbrev cX6_flood : ByteArray := prog_1_method_11_code
def yX6_flood : MethodName := ⟨RX6, "flood", "(I)I"⟩
abbrev cX6_bypass : ByteArray := prog_1_method_12_code
def yX6_bypass : MethodName := ⟨RX6, "bypass", "(I)I"⟩
abbrev cX6_snow : ByteArray := prog_1_method_13_code
def yX6_snow : MethodName := ⟨RX6, "snow", "(I)I"⟩
abbrev cX6_load : ByteArray := prog_1_method_14_code
def yX6_load : MethodName := ⟨RX6, "load", "(III)I"⟩
abbrev cX6_of : ByteArray := prog_1_method_15_code
def yX6_of : MethodName := ⟨RX6, "of", "(II)I"⟩
abbrev cX6_may : ByteArray := prog_1_method_16_code
def yX6_may : MethodName := ⟨RX6, "may", "(II)I"⟩
abbrev cX6_why : ByteArray := prog_1_method_17_code
def yX6_why : MethodName := ⟨RX6, "why", "(II)I"⟩
abbrev cX6_turn : ByteArray := prog_1_method_18_code
def yX6_turn : MethodName := ⟨RX6, "turn", "(I)I"⟩
abbrev cX6_run : ByteArray := prog_1_method_19_code
def yX6_run : MethodName := ⟨RX6, "run", "(I)I"⟩
abbrev cX6_thaw : ByteArray := prog_1_method_20_code
def yX6_thaw : MethodName := ⟨RX6, "thaw", "(II)I"⟩
abbrev cX6_feed : ByteArray := prog_1_method_21_code
def yX6_feed : MethodName := ⟨RX6, "feed", "(II)I"⟩
abbrev cX6_wipe : ByteArray := prog_1_method_22_code
def yX6_wipe : MethodName := ⟨RX6, "wipe", "()I"⟩
abbrev cX6_rule : ByteArray := prog_1_method_23_code
def yX6_rule : MethodName := ⟨RX6, "rule", "(II)I"⟩
abbrev cX6_said : ByteArray := prog_1_method_24_code
def yX6_said : MethodName := ⟨RX6, "said", "(III)I"⟩
abbrev cX6_count : ByteArray := prog_1_method_25_code
def yX6_count : MethodName := ⟨RX6, "count", "(I)I"⟩
abbrev cX6_tell : ByteArray := prog_1_method_26_code
def yX6_tell : MethodName := ⟨RX6, "tell", "(II)I"⟩
abbrev cX6_tear : ByteArray := prog_1_method_27_code
def yX6_tear : MethodName := ⟨RX6, "tear", "()I"⟩
abbrev cX6_row : ByteArray := prog_1_method_28_code
def yX6_row : MethodName := ⟨RX6, "row", "(I)I"⟩
abbrev cX6_copy : ByteArray := prog_1_method_29_code
def yX6_copy : MethodName := ⟨RX6, "copy", "(III)I"⟩
abbrev cX6_status : ByteArray := prog_1_method_30_code
def yX6_status : MethodName := ⟨RX6, "status", "(I)I"⟩
abbrev cX6_refuse : ByteArray := prog_1_method_31_code
def yX6_refuse : MethodName := ⟨RX6, "refuse", "(I)I"⟩
abbrev cX6_isWithin : ByteArray := prog_1_method_32_code
def yX6_isWithin : MethodName := ⟨RX6, "isWithin", "(III)Z"⟩
abbrev cX6_isCell : ByteArray := prog_1_method_33_code
def yX6_isCell : MethodName := ⟨RX6, "isCell", "(I)Z"⟩
abbrev cX6_isLoad : ByteArray := prog_1_method_34_code
def yX6_isLoad : MethodName := ⟨RX6, "isLoad", "(I)Z"⟩
abbrev cX6_leastOf : ByteArray := prog_1_method_35_code
def yX6_leastOf : MethodName := ⟨RX6, "leastOf", "(I)I"⟩
abbrev cX6_mostOf : ByteArray := prog_1_method_36_code
def yX6_mostOf : MethodName := ⟨RX6, "mostOf", "(I)I"⟩
abbrev cX6_nearestKnown : ByteArray := prog_1_method_37_code
def yX6_nearestKnown : MethodName := ⟨RX6, "nearestKnown", "(II)I"⟩
abbrev cX6_gatherFacts : ByteArray := prog_1_method_38_code
def yX6_gatherFacts : MethodName := ⟨RX6, "gatherFacts", "(LIceRoad$Load;I)V"⟩
abbrev cX6_numberFor : ByteArray := prog_1_method_39_code
def yX6_numberFor : MethodName := ⟨RX6, "numberFor", "(I)I"⟩
abbrev cX6_reasonAgainst : ByteArray := prog_1_method_40_code
def yX6_reasonAgainst : MethodName := ⟨RX6, "reasonAgainst", "(LIceRoad$Load;I)I"⟩
abbrev cX6_weatherCells : ByteArray := prog_1_method_41_code
def yX6_weatherCells : MethodName := ⟨RX6, "weatherCells", "()V"⟩
abbrev cX6_agePlaces : ByteArray := prog_1_method_42_code
def yX6_agePlaces : MethodName := ⟨RX6, "agePlaces", "()V"⟩
abbrev cX6_moveLoadsOnCells : ByteArray := prog_1_method_43_code
def yX6_moveLoadsOnCells : MethodName := ⟨RX6, "moveLoadsOnCells", "()V"⟩
abbrev cX6_moveWaitingLoads : ByteArray := prog_1_method_44_code
def yX6_moveWaitingLoads : MethodName := ⟨RX6, "moveWaitingLoads", "()V"⟩
abbrev cX6_lastPlace : ByteArray := prog_1_method_45_code
def yX6_lastPlace : MethodName := ⟨RX6, "lastPlace", "(I)I"⟩
abbrev cX6_comeIfItCan : ByteArray := prog_1_method_46_code
def yX6_comeIfItCan : MethodName := ⟨RX6, "comeIfItCan", "(LIceRoad$Load;I)V"⟩
abbrev cX6_isBarred : ByteArray := prog_1_method_47_code
def yX6_isBarred : MethodName := ⟨RX6, "isBarred", "(LIceRoad$Load;I)Z"⟩
abbrev cX6_lineUp : ByteArray := prog_1_method_48_code
def yX6_lineUp : MethodName := ⟨RX6, "lineUp", "(LIceRoad$Load;)V"⟩
abbrev cX6_loadsIn : ByteArray := prog_1_method_49_code
def yX6_loadsIn : MethodName := ⟨RX6, "loadsIn", "(I)I"⟩
abbrev cX6_loadsOn : ByteArray := prog_1_method_50_code
def yX6_loadsOn : MethodName := ⟨RX6, "loadsOn", "(I)I"⟩
abbrev cX6_tonsDelivered : ByteArray := prog_1_method_51_code
def yX6_tonsDelivered : MethodName := ⟨RX6, "tonsDelivered", "()I"⟩
abbrev cX6_hoursHeldUp : ByteArray := prog_1_method_52_code
def yX6_hoursHeldUp : MethodName := ⟨RX6, "hoursHeldUp", "(LIceRoad$Cell;III)I"⟩
def RX7 : String := "IceRoadModel"
def TX7 : u_T := fun k => match k with
  | 0 => ("IceRoadModel", "refusals", "[I", true)
  | 1 => ("IceRoadModel", "hour", "I", false)
  | 2 => ("IceRoadModel", "cells", "I", false)
  | 3 => ("IceRoadModel", "kind", "[I", true)
  | 4 => ("IceRoadModel", "thickness", "[I", true)
  | 5 => ("IceRoadModel", "snow", "[I", true)
  | 6 => ("IceRoadModel", "depth", "[I", true)
  | 7 => ("IceRoadModel", "length", "[I", true)
  | 8 => ("IceRoadModel", "wear", "[I", true)
  | 9 => ("IceRoadModel", "healing", "[I", true)
  | 10 => ("IceRoadModel", "known", "[I", true)
  | 11 => ("IceRoadModel", "came", "[I", true)
  | 12 => ("IceRoadModel", "weather", "[I", true)
  | 13 => ("IceRoadModel", "loads", "I", false)
  | 14 => ("IceRoadModel", "weight", "[I", true)
  | 15 => ("IceRoadModel", "rank", "[I", true)
  | 16 => ("IceRoadModel", "way", "[I", true)
  | 17 => ("IceRoadModel", "state", "[I", true)
  | 18 => ("IceRoadModel", "on", "[I", true)
  | 19 => ("IceRoadModel", "there", "[I", true)
  | 20 => ("IceRoadModel", "ended", "[I", true)
  | 21 => ("IceRoadModel", "rules", "I", false)
  | 22 => ("IceRoadModel", "rule", "[I", true)
  | 23 => ("IceRoadModel", "isDone", "[Z", true)
  | 24 => ("IceRoadModel", "tons", "I", false)
  | 25 => ("IceRoadModel", "kept", "[I", true)
  | 26 => ("IceRoadModel", "tape", "[I", true)
  | 27 => ("IceRoadModel", "taped", "I", false)
  | 28 => ("IceRoadModel", "at", "I", false)
  | 29 => ("IceRoadModel", "isFaulty", "Z", false)
  | 30 => ("IceRoadModel", "number", "I", false)
  | 31 => ("IceRoadModel", "isThere", "Z", false)
  | 32 => ("IceRoadModel", "row", "[I", true)
  | _ => ("IceRoadModel", "moved", "[I", true)
def tyX7 : Nat → FieldType := fun k => match k with
  | 0 => .array .int
  | 1 => .int
  | 2 => .int
  | 3 => .array .int
  | 4 => .array .int
  | 5 => .array .int
  | 6 => .array .int
  | 7 => .array .int
  | 8 => .array .int
  | 9 => .array .int
  | 10 => .array .int
  | 11 => .array .int
  | 12 => .array .int
  | 13 => .int
  | 14 => .array .int
  | 15 => .array .int
  | 16 => .array .int
  | 17 => .array .int
  | 18 => .array .int
  | 19 => .array .int
  | 20 => .array .int
  | 21 => .int
  | 22 => .array .int
  | 23 => .array .boolean
  | 24 => .int
  | 25 => .array .int
  | 26 => .array .int
  | 27 => .int
  | 28 => .int
  | 29 => .boolean
  | 30 => .int
  | 31 => .boolean
  | 32 => .array .int
  | _ => .array .int
abbrev wsX70 : List Cond := u_ws RX7 TX7 34
theorem nmX7 : ∀ a, a < 34 → ∀ b, b < 34 → a ≠ b → (TX7 a).2.1 ≠ (TX7 b).2.1 := by decide +kernel
theorem tyX7_ok : ∀ k, k < 34 → parseFieldDescriptor (TX7 k).2.2.1 = some (tyX7 k) := by decide +kernel
abbrev cX7_init : ByteArray := prog_9_method_2_code
def yX7_init : MethodName := ⟨RX7, "<init>", "()V"⟩
abbrev cX7_in : ByteArray := prog_9_method_3_code
def yX7_in : MethodName := ⟨RX7, "in", "(III)Z"⟩
abbrev cX7_refuse : ByteArray := prog_9_method_4_code
def yX7_refuse : MethodName := ⟨RX7, "refuse", "(I)I"⟩
abbrev cX7_nought : ByteArray := prog_9_method_5_code
def yX7_nought : MethodName := ⟨RX7, "nought", "(I)I"⟩
abbrev cX7_isCell : ByteArray := prog_9_method_6_code
def yX7_isCell : MethodName := ⟨RX7, "isCell", "(I)Z"⟩
abbrev cX7_isLoad : ByteArray := prog_9_method_7_code
def yX7_isLoad : MethodName := ⟨RX7, "isLoad", "(I)Z"⟩
abbrev cX7_cell : ByteArray := prog_9_method_8_code
def yX7_cell : MethodName := ⟨RX7, "cell", "(IIZ)I"⟩
abbrev cX7_becomes : ByteArray := prog_9_method_9_code
def yX7_becomes : MethodName := ⟨RX7, "becomes", "(II)V"⟩
abbrev cX7_nearest : ByteArray := prog_9_method_10_code
def yX7_nearest : MethodName := ⟨RX7, "nearest", "(II)I"⟩
abbrev cX7_least : ByteArray := prog_9_method_11_code
def yX7_least : MethodName := ⟨RX7, "least", "(I)I"⟩
abbrev cX7_most : ByteArray := prog_9_method_12_code
def yX7_most : MethodName := ⟨RX7, "most", "(I)I"⟩
abbrev cX7_loadsOn : ByteArray := prog_9_method_13_code
def yX7_loadsOn : MethodName := ⟨RX7, "loadsOn", "(I)I"⟩
abbrev cX7_look : ByteArray := prog_9_method_14_code
def yX7_look : MethodName := ⟨RX7, "look", "(II)I"⟩
abbrev cX7_thick : ByteArray := prog_9_method_15_code
def yX7_thick : MethodName := ⟨RX7, "thick", "(II)I"⟩
abbrev cX7_read : ByteArray := prog_9_method_16_code
def yX7_read : MethodName := ⟨RX7, "read", "(I)I"⟩
abbrev cX7_isBorne : ByteArray := prog_9_method_17_code
def yX7_isBorne : MethodName := ⟨RX7, "isBorne", "(II)Z"⟩
abbrev cX7_bears : ByteArray := prog_9_method_18_code
def yX7_bears : MethodName := ⟨RX7, "bears", "(II)I"⟩
abbrev cX7_weather : ByteArray := prog_9_method_19_code
def yX7_weather : MethodName := ⟨RX7, "weather", "(II)I"⟩
abbrev cX7_heatOf : ByteArray := prog_9_method_20_code
def yX7_heatOf : MethodName := ⟨RX7, "heatOf", "(I)I"⟩
abbrev cX7_heat : ByteArray := prog_9_method_21_code
def yX7_heat : MethodName := ⟨RX7, "heat", "(I)I"⟩
abbrev cX7_sweep : ByteArray := prog_9_method_22_code
def yX7_sweep : MethodName := ⟨RX7, "sweep", "(I)I"⟩
abbrev cX7_flood : ByteArray := prog_9_method_23_code
def yX7_flood : MethodName := ⟨RX7, "flood", "(I)I"⟩
abbrev cX7_bypass : ByteArray := prog_9_method_24_code
def yX7_bypass : MethodName := ⟨RX7, "bypass", "(I)I"⟩
abbrev cX7_snow : ByteArray := prog_9_method_25_code
def yX7_snow : MethodName := ⟨RX7, "snow", "(I)I"⟩
abbrev cX7_grows : ByteArray := prog_9_method_26_code
def yX7_grows : MethodName := ⟨RX7, "grows", "(II)V"⟩
abbrev cX7_load : ByteArray := prog_9_method_27_code
def yX7_load : MethodName := ⟨RX7, "load", "(III)I"⟩
abbrev cX7_of : ByteArray := prog_9_method_28_code
def yX7_of : MethodName := ⟨RX7, "of", "(II)I"⟩
abbrev cX7_field : ByteArray := prog_9_method_29_code
def yX7_field : MethodName := ⟨RX7, "field", "(III)I"⟩
abbrev cX7_holds : ByteArray := prog_9_method_30_code
def yX7_holds : MethodName := ⟨RX7, "holds", "(III)Z"⟩
abbrev cX7_saidOf : ByteArray := prog_9_method_31_code
def yX7_saidOf : MethodName := ⟨RX7, "saidOf", "(III)I"⟩
abbrev cX7_whyNot : ByteArray := prog_9_method_32_code
def yX7_whyNot : MethodName := ⟨RX7, "whyNot", "(II)I"⟩
abbrev cX7_may : ByteArray := prog_9_method_33_code
def yX7_may : MethodName := ⟨RX7, "may", "(II)I"⟩
abbrev cX7_why : ByteArray := prog_9_method_34_code
def yX7_why : MethodName := ⟨RX7, "why", "(II)I"⟩
abbrev cX7_many : ByteArray := prog_9_method_35_code
def yX7_many : MethodName := ⟨RX7, "many", "(I)I"⟩
abbrev cX7_turn : ByteArray := prog_9_method_36_code
def yX7_turn : MethodName := ⟨RX7, "turn", "(I)I"⟩
abbrev cX7_can : ByteArray := prog_9_method_37_code
def yX7_can : MethodName := ⟨RX7, "can", "(II)Z"⟩
abbrev cX7_cracks : ByteArray := prog_9_method_38_code
def yX7_cracks : MethodName := ⟨RX7, "cracks", "(I)V"⟩
abbrev cX7_comes : ByteArray := prog_9_method_39_code
def yX7_comes : MethodName := ⟨RX7, "comes", "(II)V"⟩
abbrev cX7_next : ByteArray := prog_9_method_40_code
def yX7_next : MethodName := ⟨RX7, "next", "(I)I"⟩
abbrev cX7_goesOn : ByteArray := prog_9_method_41_code
def yX7_goesOn : MethodName := ⟨RX7, "goesOn", "(I)V"⟩
abbrev cX7_goesBy : ByteArray := prog_9_method_42_code
def yX7_goesBy : MethodName := ⟨RX7, "goesBy", "()V"⟩
abbrev cX7_run : ByteArray := prog_9_method_43_code
def yX7_run : MethodName := ⟨RX7, "run", "(I)I"⟩
abbrev cX7_allBear : ByteArray := prog_9_method_44_code
def yX7_allBear : MethodName := ⟨RX7, "allBear", "(I)Z"⟩
abbrev cX7_thaw : ByteArray := prog_9_method_45_code
def yX7_thaw : MethodName := ⟨RX7, "thaw", "(II)I"⟩
abbrev cX7_feed : ByteArray := prog_9_method_46_code
def yX7_feed : MethodName := ⟨RX7, "feed", "(II)I"⟩
abbrev cX7_wipe : ByteArray := prog_9_method_47_code
def yX7_wipe : MethodName := ⟨RX7, "wipe", "()I"⟩
abbrev cX7_here : ByteArray := prog_9_method_48_code
def yX7_here : MethodName := ⟨RX7, "here", "()I"⟩
abbrev cX7_eats : ByteArray := prog_9_method_49_code
def yX7_eats : MethodName := ⟨RX7, "eats", "(I)V"⟩
abbrev cX7_eats3 : ByteArray := prog_9_method_50_code
def yX7_eats3 : MethodName := ⟨RX7, "eats3", "(III)V"⟩
abbrev cX7_digits : ByteArray := prog_9_method_51_code
def yX7_digits : MethodName := ⟨RX7, "digits", "()V"⟩
abbrev cX7_key : ByteArray := prog_9_method_52_code
def yX7_key : MethodName := ⟨RX7, "key", "()I"⟩
abbrev cX7_fieldRead : ByteArray := prog_9_method_53_code
def yX7_fieldRead : MethodName := ⟨RX7, "fieldRead", "()I"⟩
abbrev cX7_test : ByteArray := prog_9_method_54_code
def yX7_test : MethodName := ⟨RX7, "test", "(I)V"⟩
abbrev cX7_reads : ByteArray := prog_9_method_55_code
def yX7_reads : MethodName := ⟨RX7, "reads", "()V"⟩
abbrev cX7_rule : ByteArray := prog_9_method_56_code
def yX7_rule : MethodName := ⟨RX7, "rule", "(II)I"⟩
abbrev cX7_said : ByteArray := prog_9_method_57_code
def yX7_said : MethodName := ⟨RX7, "said", "(III)I"⟩
abbrev cX7_count : ByteArray := prog_9_method_58_code
def yX7_count : MethodName := ⟨RX7, "count", "(I)I"⟩
abbrev cX7_cold : ByteArray := prog_9_method_59_code
def yX7_cold : MethodName := ⟨RX7, "cold", "()I"⟩
abbrev cX7_tell : ByteArray := prog_9_method_60_code
def yX7_tell : MethodName := ⟨RX7, "tell", "(II)I"⟩
abbrev cX7_tear : ByteArray := prog_9_method_61_code
def yX7_tear : MethodName := ⟨RX7, "tear", "()I"⟩
abbrev cX7_row : ByteArray := prog_9_method_62_code
def yX7_row : MethodName := ⟨RX7, "row", "(I)I"⟩
abbrev cX7_copy : ByteArray := prog_9_method_63_code
def yX7_copy : MethodName := ⟨RX7, "copy", "(III)I"⟩
abbrev cX7_status : ByteArray := prog_9_method_64_code
def yX7_status : MethodName := ⟨RX7, "status", "(I)I"⟩
def RJ9 : String := "java/lang/Math"
def TJ9 : u_T := fun k => match k with
  | _ => ("", "", "", false)
def tyJ9 : Nat → FieldType := fun k => match k with
  | _ => .int
abbrev wsJ90 : List Cond := u_ws RJ9 TJ9 0
theorem nmJ9 : ∀ a, a < 0 → ∀ b, b < 0 → a ≠ b → (TJ9 a).2.1 ≠ (TJ9 b).2.1 := by decide +kernel
theorem tyJ9_ok : ∀ k, k < 0 → parseFieldDescriptor (TJ9 k).2.2.1 = some (tyJ9 k) := by decide +kernel
abbrev cJ9_floorMod_7cf53 : ByteArray := prog_10_method_50_code
def yJ9_floorMod_7cf53 : MethodName := ⟨RJ9, "floorMod", "(II)I"⟩
abbrev cJ9_max_7cf53 : ByteArray := prog_10_method_65_code
def yJ9_max_7cf53 : MethodName := ⟨RJ9, "max", "(II)I"⟩
abbrev cJ9_min_7cf53 : ByteArray := prog_10_method_69_code
def yJ9_min_7cf53 : MethodName := ⟨RJ9, "min", "(II)I"⟩
def RJ0 : String := "java/lang/String"
def TJ0 : u_T := fun k => match k with
  | _ => ("", "", "", false)
def tyJ0 : Nat → FieldType := fun k => match k with
  | _ => .int
abbrev wsJ00 : List Cond := u_ws RJ0 TJ0 0
theorem nmJ0 : ∀ a, a < 0 → ∀ b, b < 0 → a ≠ b → (TJ0 a).2.1 ≠ (TJ0 b).2.1 := by decide +kernel
theorem tyJ0_ok : ∀ k, k < 0 → parseFieldDescriptor (TJ0 k).2.2.1 = some (tyJ0 k) := by decide +kernel
abbrev cJ0_length_8abf5 : ByteArray := prog_11_method_54_code
def yJ0_length_8abf5 : MethodName := ⟨RJ0, "length", "()I"⟩
abbrev cJ0_charAt_5068e : ByteArray := prog_11_method_56_code
def yJ0_charAt_5068e : MethodName := ⟨RJ0, "charAt", "(I)C"⟩
abbrev cJ0_coder_7d493 : ByteArray := prog_11_method_152_code
def yJ0_coder_7d493 : MethodName := ⟨RJ0, "coder", "()B"⟩
abbrev cJ0_isLatin1_aae02 : ByteArray := prog_11_method_154_code
def yJ0_isLatin1_aae02 : MethodName := ⟨RJ0, "isLatin1", "()Z"⟩
abbrev cJ0_checkIndex_df160 : ByteArray := prog_11_method_155_code
def yJ0_checkIndex_df160 : MethodName := ⟨RJ0, "checkIndex", "(II)V"⟩
def RJ1 : String := "java/lang/StringLatin1"
def TJ1 : u_T := fun k => match k with
  | _ => ("", "", "", false)
def tyJ1 : Nat → FieldType := fun k => match k with
  | _ => .int
abbrev wsJ10 : List Cond := u_ws RJ1 TJ1 0
theorem nmJ1 : ∀ a, a < 0 → ∀ b, b < 0 → a ≠ b → (TJ1 a).2.1 ≠ (TJ1 b).2.1 := by decide +kernel
theorem tyJ1_ok : ∀ k, k < 0 → parseFieldDescriptor (TJ1 k).2.2.1 = some (tyJ1 k) := by decide +kernel
abbrev cJ1_charAt_3b067 : ByteArray := prog_12_method_2_code
def yJ1_charAt_3b067 : MethodName := ⟨RJ1, "charAt", "([BI)C"⟩
def RJ2 : String := "java/lang/StringUTF16"
def TJ2 : u_T := fun k => match k with
  | _ => ("", "", "", false)
def tyJ2 : Nat → FieldType := fun k => match k with
  | _ => .int
abbrev wsJ20 : List Cond := u_ws RJ2 TJ2 0
theorem nmJ2 : ∀ a, a < 0 → ∀ b, b < 0 → a ≠ b → (TJ2 a).2.1 ≠ (TJ2 b).2.1 := by decide +kernel
theorem tyJ2_ok : ∀ k, k < 0 → parseFieldDescriptor (TJ2 k).2.2.1 = some (tyJ2 k) := by decide +kernel
abbrev cJ2_getChar_3b067 : ByteArray := prog_13_method_5_code
def yJ2_getChar_3b067 : MethodName := ⟨RJ2, "getChar", "([BI)C"⟩
abbrev cJ2_length_9d52b : ByteArray := prog_13_method_6_code
def yJ2_length_9d52b : MethodName := ⟨RJ2, "length", "([B)I"⟩
abbrev cJ2_charAt_3b067 : ByteArray := prog_13_method_83_code
def yJ2_charAt_3b067 : MethodName := ⟨RJ2, "charAt", "([BI)C"⟩
abbrev cJ2_checkIndex_2214a : ByteArray := prog_13_method_91_code
def yJ2_checkIndex_2214a : MethodName := ⟨RJ2, "checkIndex", "(I[B)V"⟩
def RJ10 : String := "java/lang/System"
def TJ10 : u_T := fun k => match k with
  | _ => ("", "", "", false)
def tyJ10 : Nat → FieldType := fun k => match k with
  | _ => .int
abbrev wsJ100 : List Cond := u_ws RJ10 TJ10 0
theorem nmJ10 : ∀ a, a < 0 → ∀ b, b < 0 → a ≠ b → (TJ10 a).2.1 ≠ (TJ10 b).2.1 := by decide +kernel
theorem tyJ10_ok : ∀ k, k < 0 → parseFieldDescriptor (TJ10 k).2.2.1 = some (tyJ10 k) := by decide +kernel
def RJ3 : String := "jdk/internal/util/Preconditions"
def TJ3 : u_T := fun k => match k with
  | _ => ("", "", "", false)
def tyJ3 : Nat → FieldType := fun k => match k with
  | _ => .int
abbrev wsJ30 : List Cond := u_ws RJ3 TJ3 0
theorem nmJ3 : ∀ a, a < 0 → ∀ b, b < 0 → a ≠ b → (TJ3 a).2.1 ≠ (TJ3 b).2.1 := by decide +kernel
theorem tyJ3_ok : ∀ k, k < 0 → parseFieldDescriptor (TJ3 k).2.2.1 = some (tyJ3 k) := by decide +kernel
abbrev cJ3_checkIndex_8e157 : ByteArray := prog_15_method_11_code
def yJ3_checkIndex_8e157 : MethodName := ⟨RJ3, "checkIndex", "(IILjava/util/function/BiFunction;)I"⟩
def RL : String := "IceRoadLaw"
abbrev cL_law : ByteArray := code
def yL_law : MethodName := ⟨RL, "law", "([I)Z"⟩
abbrev vwCl : List vw_C := [(RX0, TX0, 10), (RX1, TX1, 7), (RX2, TX2, 9), (RX3, TX3, 2), (RX4, TX4, 2), (RX5, TX5, 1), (RX6, TX6, 16), (RX7, TX7, 34)]
end
section
theorem dX0_init_0 : decode cX0_init 0 = .ok (.aload_n 0, 1) := by decide +kernel
theorem dX0_init_1 : decode cX0_init 1 = .ok (.invokespecial 3, 3) := by decide +kernel
theorem dX0_init_4 : decode cX0_init 4 = .ok (.aload_n 0, 1) := by decide +kernel
theorem dX0_init_5 : decode cX0_init 5 = .ok (.iconst 0, 1) := by decide +kernel
theorem dX0_init_6 : decode cX0_init 6 = .ok (.putfield 9, 3) := by decide +kernel
theorem dX0_init_9 : decode cX0_init 9 = .ok (.aload_n 0, 1) := by decide +kernel
theorem dX0_init_10 : decode cX0_init 10 = .ok (.iconst 0, 1) := by decide +kernel
theorem dX0_init_11 : decode cX0_init 11 = .ok (.putfield 15, 3) := by decide +kernel
theorem dX0_init_14 : decode cX0_init 14 = .ok (.aload_n 0, 1) := by decide +kernel
theorem dX0_init_15 : decode cX0_init 15 = .ok (.iconst 0, 1) := by decide +kernel
theorem dX0_init_16 : decode cX0_init 16 = .ok (.putfield 18, 3) := by decide +kernel
theorem dX0_init_19 : decode cX0_init 19 = .ok (.aload_n 0, 1) := by decide +kernel
theorem dX0_init_20 : decode cX0_init 20 = .ok (.iconst 1, 1) := by decide +kernel
theorem dX0_init_21 : decode cX0_init 21 = .ok (.putfield 21, 3) := by decide +kernel
theorem dX0_init_24 : decode cX0_init 24 = .ok (.aload_n 0, 1) := by decide +kernel
theorem dX0_init_25 : decode cX0_init 25 = .ok (.iconst 1, 1) := by decide +kernel
theorem dX0_init_26 : decode cX0_init 26 = .ok (.putfield 24, 3) := by decide +kernel
theorem dX0_init_29 : decode cX0_init 29 = .ok (.aload_n 0, 1) := by decide +kernel
theorem dX0_init_30 : decode cX0_init 30 = .ok (.iconst 0, 1) := by decide +kernel
theorem dX0_init_31 : decode cX0_init 31 = .ok (.putfield 27, 3) := by decide +kernel
theorem dX0_init_34 : decode cX0_init 34 = .ok (.aload_n 0, 1) := by decide +kernel
theorem dX0_init_35 : decode cX0_init 35 = .ok (.iconst 0, 1) := by decide +kernel
theorem dX0_init_36 : decode cX0_init 36 = .ok (.putfield 30, 3) := by decide +kernel
theorem dX0_init_39 : decode cX0_init 39 = .ok (.aload_n 0, 1) := by decide +kernel
theorem dX0_init_40 : decode cX0_init 40 = .ok (.iconst (-1), 1) := by decide +kernel
theorem dX0_init_41 : decode cX0_init 41 = .ok (.putfield 33, 3) := by decide +kernel
theorem dX0_init_44 : decode cX0_init 44 = .ok (.aload_n 0, 1) := by decide +kernel
theorem dX0_init_45 : decode cX0_init 45 = .ok (.iconst (-1), 1) := by decide +kernel
theorem dX0_init_46 : decode cX0_init 46 = .ok (.putfield 36, 3) := by decide +kernel
theorem dX0_init_49 : decode cX0_init 49 = .ok (.aload_n 0, 1) := by decide +kernel
theorem dX0_init_50 : decode cX0_init 50 = .ok (.iconst (-1), 1) := by decide +kernel
theorem dX0_init_51 : decode cX0_init 51 = .ok (.putfield 39, 3) := by decide +kernel
theorem dX0_init_54 : decode cX0_init 54 = .ok (.return_, 1) := by decide +kernel
theorem dX0_lay_0 : decode cX0_lay 0 = .ok (.aload_n 0, 1) := by decide +kernel
theorem dX0_lay_1 : decode cX0_lay 1 = .ok (.iload_n 1, 1) := by decide +kernel
theorem dX0_lay_2 : decode cX0_lay 2 = .ok (.putfield 21, 3) := by decide +kernel
theorem dX0_lay_5 : decode cX0_lay 5 = .ok (.aload_n 0, 1) := by decide +kernel
theorem dX0_lay_6 : decode cX0_lay 6 = .ok (.iload_n 2, 1) := by decide +kernel
theorem dX0_lay_7 : decode cX0_lay 7 = .ok (.putfield 24, 3) := by decide +kernel
theorem dX0_lay_10 : decode cX0_lay 10 = .ok (.aload_n 0, 1) := by decide +kernel
theorem dX0_lay_11 : decode cX0_lay 11 = .ok (.iload_n 3, 1) := by decide +kernel
theorem dX0_lay_12 : decode cX0_lay 12 = .ok (.putfield 9, 3) := by decide +kernel
theorem dX0_lay_15 : decode cX0_lay 15 = .ok (.return_, 1) := by decide +kernel
theorem dX0_takeAfter_0 : decode cX0_takeAfter 0 = .ok (.aload_n 0, 1) := by decide +kernel
theorem dX0_takeAfter_1 : decode cX0_takeAfter 1 = .ok (.aload_n 1, 1) := by decide +kernel
theorem dX0_takeAfter_2 : decode cX0_takeAfter 2 = .ok (.getfield 9, 3) := by decide +kernel
theorem dX0_takeAfter_5 : decode cX0_takeAfter 5 = .ok (.putfield 9, 3) := by decide +kernel
theorem dX0_takeAfter_8 : decode cX0_takeAfter 8 = .ok (.aload_n 0, 1) := by decide +kernel
theorem dX0_takeAfter_9 : decode cX0_takeAfter 9 = .ok (.aload_n 1, 1) := by decide +kernel
theorem dX0_takeAfter_10 : decode cX0_takeAfter 10 = .ok (.getfield 15, 3) := by decide +kernel
theorem dX0_takeAfter_13 : decode cX0_takeAfter 13 = .ok (.putfield 15, 3) := by decide +kernel
theorem dX0_takeAfter_16 : decode cX0_takeAfter 16 = .ok (.aload_n 0, 1) := by decide +kernel
theorem dX0_takeAfter_17 : decode cX0_takeAfter 17 = .ok (.aload_n 1, 1) := by decide +kernel
theorem dX0_takeAfter_18 : decode cX0_takeAfter 18 = .ok (.getfield 18, 3) := by decide +kernel
theorem dX0_takeAfter_21 : decode cX0_takeAfter 21 = .ok (.putfield 18, 3) := by decide +kernel
theorem dX0_takeAfter_24 : decode cX0_takeAfter 24 = .ok (.aload_n 0, 1) := by decide +kernel
theorem dX0_takeAfter_25 : decode cX0_takeAfter 25 = .ok (.aload_n 1, 1) := by decide +kernel
theorem dX0_takeAfter_26 : decode cX0_takeAfter 26 = .ok (.getfield 30, 3) := by decide +kernel
theorem dX0_takeAfter_29 : decode cX0_takeAfter 29 = .ok (.putfield 30, 3) := by decide +kernel
theorem dX0_takeAfter_32 : decode cX0_takeAfter 32 = .ok (.return_, 1) := by decide +kernel
theorem dX0_passHour_0 : decode cX0_passHour 0 = .ok (.aload_n 0, 1) := by decide +kernel
theorem dX0_passHour_1 : decode cX0_passHour 1 = .ok (.getfield 9, 3) := by decide +kernel
theorem dX0_passHour_4 : decode cX0_passHour 4 = .ok (.iconst 4, 1) := by decide +kernel
theorem dX0_passHour_5 : decode cX0_passHour 5 = .ok (.if_icmp .ne 4, 3) := by decide +kernel
theorem dX0_passHour_8 : decode cX0_passHour 8 = .ok (.return_, 1) := by decide +kernel
theorem dX0_passHour_9 : decode cX0_passHour 9 = .ok (.iload_n 1, 1) := by decide +kernel
theorem dX0_passHour_10 : decode cX0_passHour 10 = .ok (.ifCond .ge 26, 3) := by decide +kernel
theorem dX0_passHour_13 : decode cX0_passHour 13 = .ok (.aload_n 0, 1) := by decide +kernel
theorem dX0_passHour_14 : decode cX0_passHour 14 = .ok (.sipush 3000, 3) := by decide +kernel
theorem dX0_passHour_17 : decode cX0_passHour 17 = .ok (.aload_n 0, 1) := by decide +kernel
theorem dX0_passHour_18 : decode cX0_passHour 18 = .ok (.getfield 15, 3) := by decide +kernel
theorem dX0_passHour_21 : decode cX0_passHour 21 = .ok (.aload_n 0, 1) := by decide +kernel
theorem dX0_passHour_22 : decode cX0_passHour 22 = .ok (.iload_n 1, 1) := by decide +kernel
theorem dX0_passHour_23 : decode cX0_passHour 23 = .ok (.invokevirtual 42, 3) := by decide +kernel
theorem dX0_passHour_26 : decode cX0_passHour 26 = .ok (.iadd, 1) := by decide +kernel
theorem dX0_passHour_27 : decode cX0_passHour 27 = .ok (.invokestatic 46, 3) := by decide +kernel
theorem dX0_passHour_30 : decode cX0_passHour 30 = .ok (.putfield 15, 3) := by decide +kernel
theorem dX0_passHour_33 : decode cX0_passHour 33 = .ok (.goto 26, 3) := by decide +kernel
theorem dX0_passHour_36 : decode cX0_passHour 36 = .ok (.iload_n 1, 1) := by decide +kernel
theorem dX0_passHour_37 : decode cX0_passHour 37 = .ok (.ifCond .le 22, 3) := by decide +kernel
theorem dX0_passHour_40 : decode cX0_passHour 40 = .ok (.aload_n 0, 1) := by decide +kernel
theorem dX0_passHour_41 : decode cX0_passHour 41 = .ok (.iconst 0, 1) := by decide +kernel
theorem dX0_passHour_42 : decode cX0_passHour 42 = .ok (.aload_n 0, 1) := by decide +kernel
theorem dX0_passHour_43 : decode cX0_passHour 43 = .ok (.getfield 15, 3) := by decide +kernel
theorem dX0_passHour_46 : decode cX0_passHour 46 = .ok (.iload_n 1, 1) := by decide +kernel
theorem dX0_passHour_47 : decode cX0_passHour 47 = .ok (.bipush 10, 2) := by decide +kernel
theorem dX0_passHour_49 : decode cX0_passHour 49 = .ok (.idiv, 1) := by decide +kernel
theorem dX0_passHour_50 : decode cX0_passHour 50 = .ok (.iconst 1, 1) := by decide +kernel
theorem dX0_passHour_51 : decode cX0_passHour 51 = .ok (.iadd, 1) := by decide +kernel
theorem dX0_passHour_52 : decode cX0_passHour 52 = .ok (.isub, 1) := by decide +kernel
theorem dX0_passHour_53 : decode cX0_passHour 53 = .ok (.invokestatic 52, 3) := by decide +kernel
theorem dX0_passHour_56 : decode cX0_passHour 56 = .ok (.putfield 15, 3) := by decide +kernel
theorem dX0_passHour_59 : decode cX0_passHour 59 = .ok (.aload_n 0, 1) := by decide +kernel
theorem dX0_passHour_60 : decode cX0_passHour 60 = .ok (.getfield 9, 3) := by decide +kernel
theorem dX0_passHour_63 : decode cX0_passHour 63 = .ok (.iconst 3, 1) := by decide +kernel
theorem dX0_passHour_64 : decode cX0_passHour 64 = .ok (.if_icmp .ne 13, 3) := by decide +kernel
theorem dX0_passHour_67 : decode cX0_passHour 67 = .ok (.iload_n 1, 1) := by decide +kernel
theorem dX0_passHour_68 : decode cX0_passHour 68 = .ok (.bipush (-100), 2) := by decide +kernel
theorem dX0_passHour_70 : decode cX0_passHour 70 = .ok (.if_icmp .ge 7, 3) := by decide +kernel
theorem dX0_passHour_73 : decode cX0_passHour 73 = .ok (.aload_n 0, 1) := by decide +kernel
theorem dX0_passHour_74 : decode cX0_passHour 74 = .ok (.invokevirtual 55, 3) := by decide +kernel
theorem dX0_passHour_77 : decode cX0_passHour 77 = .ok (.return_, 1) := by decide +kernel
theorem dX0_growth_0 : decode cX0_growth 0 = .ok (.aload_n 0, 1) := by decide +kernel
theorem dX0_growth_1 : decode cX0_growth 1 = .ok (.getfield 9, 3) := by decide +kernel
theorem dX0_growth_4 : decode cX0_growth 4 = .ok (.iconst 1, 1) := by decide +kernel
theorem dX0_growth_5 : decode cX0_growth 5 = .ok (.if_icmp .eq 11, 3) := by decide +kernel
theorem dX0_growth_8 : decode cX0_growth 8 = .ok (.aload_n 0, 1) := by decide +kernel
theorem dX0_growth_9 : decode cX0_growth 9 = .ok (.getfield 9, 3) := by decide +kernel
theorem dX0_growth_12 : decode cX0_growth 12 = .ok (.iconst 2, 1) := by decide +kernel
theorem dX0_growth_13 : decode cX0_growth 13 = .ok (.if_icmp .ne 7, 3) := by decide +kernel
theorem dX0_growth_16 : decode cX0_growth 16 = .ok (.iconst 1, 1) := by decide +kernel
theorem dX0_growth_17 : decode cX0_growth 17 = .ok (.goto 4, 3) := by decide +kernel
theorem dX0_growth_20 : decode cX0_growth 20 = .ok (.iconst 0, 1) := by decide +kernel
theorem dX0_growth_21 : decode cX0_growth 21 = .ok (.istore_n 2, 1) := by decide +kernel
theorem dX0_growth_22 : decode cX0_growth 22 = .ok (.aload_n 0, 1) := by decide +kernel
theorem dX0_growth_23 : decode cX0_growth 23 = .ok (.getfield 9, 3) := by decide +kernel
theorem dX0_growth_26 : decode cX0_growth 26 = .ok (.iconst 2, 1) := by decide +kernel
theorem dX0_growth_27 : decode cX0_growth 27 = .ok (.if_icmp .ne 8, 3) := by decide +kernel
theorem dX0_growth_30 : decode cX0_growth 30 = .ok (.bipush 20, 2) := by decide +kernel
theorem dX0_growth_32 : decode cX0_growth 32 = .ok (.goto 17, 3) := by decide +kernel
theorem dX0_growth_35 : decode cX0_growth 35 = .ok (.aload_n 0, 1) := by decide +kernel
theorem dX0_growth_36 : decode cX0_growth 36 = .ok (.getfield 9, 3) := by decide +kernel
theorem dX0_growth_39 : decode cX0_growth 39 = .ok (.iconst 3, 1) := by decide +kernel
theorem dX0_growth_40 : decode cX0_growth 40 = .ok (.if_icmp .ne 7, 3) := by decide +kernel
theorem dX0_growth_43 : decode cX0_growth 43 = .ok (.iconst 5, 1) := by decide +kernel
theorem dX0_growth_44 : decode cX0_growth 44 = .ok (.goto 5, 3) := by decide +kernel
theorem dX0_growth_47 : decode cX0_growth 47 = .ok (.bipush 10, 2) := by decide +kernel
theorem dX0_growth_49 : decode cX0_growth 49 = .ok (.istore_n 3, 1) := by decide +kernel
theorem dX0_growth_50 : decode cX0_growth 50 = .ok (.bipush 100, 2) := by decide +kernel
theorem dX0_growth_52 : decode cX0_growth 52 = .ok (.aload_n 0, 1) := by decide +kernel
theorem dX0_growth_53 : decode cX0_growth 53 = .ok (.getfield 15, 3) := by decide +kernel
theorem dX0_growth_56 : decode cX0_growth 56 = .ok (.bipush 10, 2) := by decide +kernel
theorem dX0_growth_58 : decode cX0_growth 58 = .ok (.idiv, 1) := by decide +kernel
theorem dX0_growth_59 : decode cX0_growth 59 = .ok (.iadd, 1) := by decide +kernel
theorem dX0_growth_60 : decode cX0_growth 60 = .ok (.iload_n 2, 1) := by decide +kernel
theorem dX0_growth_61 : decode cX0_growth 61 = .ok (.ifCond .eq 7, 3) := by decide +kernel
theorem dX0_growth_64 : decode cX0_growth 64 = .ok (.iconst 0, 1) := by decide +kernel
theorem dX0_growth_65 : decode cX0_growth 65 = .ok (.goto 9, 3) := by decide +kernel
theorem dX0_growth_68 : decode cX0_growth 68 = .ok (.iconst 3, 1) := by decide +kernel
theorem dX0_growth_69 : decode cX0_growth 69 = .ok (.aload_n 0, 1) := by decide +kernel
theorem dX0_growth_70 : decode cX0_growth 70 = .ok (.getfield 18, 3) := by decide +kernel
theorem dX0_growth_73 : decode cX0_growth 73 = .ok (.imul, 1) := by decide +kernel
theorem dX0_growth_74 : decode cX0_growth 74 = .ok (.iadd, 1) := by decide +kernel
theorem dX0_growth_75 : decode cX0_growth 75 = .ok (.istore 4, 2) := by decide +kernel
theorem dX0_growth_77 : decode cX0_growth 77 = .ok (.iload 4, 2) := by decide +kernel
theorem dX0_growth_79 : decode cX0_growth 79 = .ok (.ifCond .le 13, 3) := by decide +kernel
theorem dX0_growth_82 : decode cX0_growth 82 = .ok (.iload_n 1, 1) := by decide +kernel
theorem dX0_growth_83 : decode cX0_growth 83 = .ok (.ineg, 1) := by decide +kernel
theorem dX0_growth_84 : decode cX0_growth 84 = .ok (.iload_n 3, 1) := by decide +kernel
theorem dX0_growth_85 : decode cX0_growth 85 = .ok (.imul, 1) := by decide +kernel
theorem dX0_growth_86 : decode cX0_growth 86 = .ok (.iload 4, 2) := by decide +kernel
theorem dX0_growth_88 : decode cX0_growth 88 = .ok (.idiv, 1) := by decide +kernel
theorem dX0_growth_89 : decode cX0_growth 89 = .ok (.goto 4, 3) := by decide +kernel
theorem dX0_growth_92 : decode cX0_growth 92 = .ok (.iconst 0, 1) := by decide +kernel
theorem dX0_growth_93 : decode cX0_growth 93 = .ok (.ireturn, 1) := by decide +kernel
theorem dX0_healOneHour_0 : decode cX0_healOneHour 0 = .ok (.aload_n 0, 1) := by decide +kernel
theorem dX0_healOneHour_1 : decode cX0_healOneHour 1 = .ok (.dup, 1) := by decide +kernel
theorem dX0_healOneHour_2 : decode cX0_healOneHour 2 = .ok (.getfield 30, 3) := by decide +kernel
theorem dX0_healOneHour_5 : decode cX0_healOneHour 5 = .ok (.iconst 1, 1) := by decide +kernel
theorem dX0_healOneHour_6 : decode cX0_healOneHour 6 = .ok (.iadd, 1) := by decide +kernel
theorem dX0_healOneHour_7 : decode cX0_healOneHour 7 = .ok (.putfield 30, 3) := by decide +kernel
theorem dX0_healOneHour_10 : decode cX0_healOneHour 10 = .ok (.aload_n 0, 1) := by decide +kernel
theorem dX0_healOneHour_11 : decode cX0_healOneHour 11 = .ok (.getfield 30, 3) := by decide +kernel
theorem dX0_healOneHour_14 : decode cX0_healOneHour 14 = .ok (.bipush 24, 2) := by decide +kernel
theorem dX0_healOneHour_16 : decode cX0_healOneHour 16 = .ok (.if_icmp .lt 13, 3) := by decide +kernel
theorem dX0_healOneHour_19 : decode cX0_healOneHour 19 = .ok (.aload_n 0, 1) := by decide +kernel
theorem dX0_healOneHour_20 : decode cX0_healOneHour 20 = .ok (.iconst 0, 1) := by decide +kernel
theorem dX0_healOneHour_21 : decode cX0_healOneHour 21 = .ok (.invokevirtual 58, 3) := by decide +kernel
theorem dX0_healOneHour_24 : decode cX0_healOneHour 24 = .ok (.aload_n 0, 1) := by decide +kernel
theorem dX0_healOneHour_25 : decode cX0_healOneHour 25 = .ok (.iconst 0, 1) := by decide +kernel
theorem dX0_healOneHour_26 : decode cX0_healOneHour 26 = .ok (.putfield 27, 3) := by decide +kernel
theorem dX0_healOneHour_29 : decode cX0_healOneHour 29 = .ok (.return_, 1) := by decide +kernel
theorem dX0_holdsUp_0 : decode cX0_holdsUp 0 = .ok (.aload_n 0, 1) := by decide +kernel
theorem dX0_holdsUp_1 : decode cX0_holdsUp 1 = .ok (.getfield 9, 3) := by decide +kernel
theorem dX0_holdsUp_4 : decode cX0_holdsUp 4 = .ok (.iconst 4, 1) := by decide +kernel
theorem dX0_holdsUp_5 : decode cX0_holdsUp 5 = .ok (.if_icmp .ne 5, 3) := by decide +kernel
theorem dX0_holdsUp_8 : decode cX0_holdsUp 8 = .ok (.iconst 1, 1) := by decide +kernel
theorem dX0_holdsUp_9 : decode cX0_holdsUp 9 = .ok (.ireturn, 1) := by decide +kernel
theorem dX0_holdsUp_10 : decode cX0_holdsUp 10 = .ok (.aload_n 0, 1) := by decide +kernel
theorem dX0_holdsUp_11 : decode cX0_holdsUp 11 = .ok (.getfield 9, 3) := by decide +kernel
theorem dX0_holdsUp_14 : decode cX0_holdsUp 14 = .ok (.iconst 3, 1) := by decide +kernel
theorem dX0_holdsUp_15 : decode cX0_holdsUp 15 = .ok (.if_icmp .ne 9, 3) := by decide +kernel
theorem dX0_holdsUp_18 : decode cX0_holdsUp 18 = .ok (.iconst 2, 1) := by decide +kernel
theorem dX0_holdsUp_19 : decode cX0_holdsUp 19 = .ok (.iload_n 1, 1) := by decide +kernel
theorem dX0_holdsUp_20 : decode cX0_holdsUp 20 = .ok (.imul, 1) := by decide +kernel
theorem dX0_holdsUp_21 : decode cX0_holdsUp 21 = .ok (.goto 4, 3) := by decide +kernel
theorem dX0_holdsUp_24 : decode cX0_holdsUp 24 = .ok (.iload_n 1, 1) := by decide +kernel
theorem dX0_holdsUp_25 : decode cX0_holdsUp 25 = .ok (.istore_n 2, 1) := by decide +kernel
theorem dX0_holdsUp_26 : decode cX0_holdsUp 26 = .ok (.aload_n 0, 1) := by decide +kernel
theorem dX0_holdsUp_27 : decode cX0_holdsUp 27 = .ok (.getfield 15, 3) := by decide +kernel
theorem dX0_holdsUp_30 : decode cX0_holdsUp 30 = .ok (.aload_n 0, 1) := by decide +kernel
theorem dX0_holdsUp_31 : decode cX0_holdsUp 31 = .ok (.getfield 15, 3) := by decide +kernel
theorem dX0_holdsUp_34 : decode cX0_holdsUp 34 = .ok (.imul, 1) := by decide +kernel
theorem dX0_holdsUp_35 : decode cX0_holdsUp 35 = .ok (.sipush 10000, 3) := by decide +kernel
theorem dX0_holdsUp_38 : decode cX0_holdsUp 38 = .ok (.idiv, 1) := by decide +kernel
theorem dX0_holdsUp_39 : decode cX0_holdsUp 39 = .ok (.iload_n 2, 1) := by decide +kernel
theorem dX0_holdsUp_40 : decode cX0_holdsUp 40 = .ok (.if_icmp .lt 7, 3) := by decide +kernel
theorem dX0_holdsUp_43 : decode cX0_holdsUp 43 = .ok (.iconst 1, 1) := by decide +kernel
theorem dX0_holdsUp_44 : decode cX0_holdsUp 44 = .ok (.goto 4, 3) := by decide +kernel
theorem dX0_holdsUp_47 : decode cX0_holdsUp 47 = .ok (.iconst 0, 1) := by decide +kernel
theorem dX0_holdsUp_48 : decode cX0_holdsUp 48 = .ok (.ireturn, 1) := by decide +kernel
theorem dX0_become_0 : decode cX0_become 0 = .ok (.aload_n 0, 1) := by decide +kernel
theorem dX0_become_1 : decode cX0_become 1 = .ok (.getfield 9, 3) := by decide +kernel
theorem dX0_become_4 : decode cX0_become 4 = .ok (.iload_n 1, 1) := by decide +kernel
theorem dX0_become_5 : decode cX0_become 5 = .ok (.if_icmp .eq 8, 3) := by decide +kernel
theorem dX0_become_8 : decode cX0_become 8 = .ok (.aload_n 0, 1) := by decide +kernel
theorem dX0_become_9 : decode cX0_become 9 = .ok (.iconst (-1), 1) := by decide +kernel
theorem dX0_become_10 : decode cX0_become 10 = .ok (.putfield 33, 3) := by decide +kernel
theorem dX0_become_13 : decode cX0_become 13 = .ok (.aload_n 0, 1) := by decide +kernel
theorem dX0_become_14 : decode cX0_become 14 = .ok (.iload_n 1, 1) := by decide +kernel
theorem dX0_become_15 : decode cX0_become 15 = .ok (.putfield 9, 3) := by decide +kernel
theorem dX0_become_18 : decode cX0_become 18 = .ok (.return_, 1) := by decide +kernel
theorem dX0_crack_0 : decode cX0_crack 0 = .ok (.aload_n 0, 1) := by decide +kernel
theorem dX0_crack_1 : decode cX0_crack 1 = .ok (.iconst 3, 1) := by decide +kernel
theorem dX0_crack_2 : decode cX0_crack 2 = .ok (.invokevirtual 58, 3) := by decide +kernel
theorem dX0_crack_5 : decode cX0_crack 5 = .ok (.aload_n 0, 1) := by decide +kernel
theorem dX0_crack_6 : decode cX0_crack 6 = .ok (.iconst 0, 1) := by decide +kernel
theorem dX0_crack_7 : decode cX0_crack 7 = .ok (.putfield 27, 3) := by decide +kernel
theorem dX0_crack_10 : decode cX0_crack 10 = .ok (.aload_n 0, 1) := by decide +kernel
theorem dX0_crack_11 : decode cX0_crack 11 = .ok (.iconst 0, 1) := by decide +kernel
theorem dX0_crack_12 : decode cX0_crack 12 = .ok (.putfield 30, 3) := by decide +kernel
theorem dX0_crack_15 : decode cX0_crack 15 = .ok (.return_, 1) := by decide +kernel
theorem dX0_wearDown_0 : decode cX0_wearDown 0 = .ok (.aload_n 0, 1) := by decide +kernel
theorem dX0_wearDown_1 : decode cX0_wearDown 1 = .ok (.dup, 1) := by decide +kernel
theorem dX0_wearDown_2 : decode cX0_wearDown 2 = .ok (.getfield 27, 3) := by decide +kernel
theorem dX0_wearDown_5 : decode cX0_wearDown 5 = .ok (.iload_n 1, 1) := by decide +kernel
theorem dX0_wearDown_6 : decode cX0_wearDown 6 = .ok (.iadd, 1) := by decide +kernel
theorem dX0_wearDown_7 : decode cX0_wearDown 7 = .ok (.putfield 27, 3) := by decide +kernel
theorem dX0_wearDown_10 : decode cX0_wearDown 10 = .ok (.aload_n 0, 1) := by decide +kernel
theorem dX0_wearDown_11 : decode cX0_wearDown 11 = .ok (.getfield 9, 3) := by decide +kernel
theorem dX0_wearDown_14 : decode cX0_wearDown 14 = .ok (.iconst 4, 1) := by decide +kernel
theorem dX0_wearDown_15 : decode cX0_wearDown 15 = .ok (.if_icmp .eq 18, 3) := by decide +kernel
theorem dX0_wearDown_18 : decode cX0_wearDown 18 = .ok (.aload_n 0, 1) := by decide +kernel
theorem dX0_wearDown_19 : decode cX0_wearDown 19 = .ok (.getfield 27, 3) := by decide +kernel
theorem dX0_wearDown_22 : decode cX0_wearDown 22 = .ok (.aload_n 0, 1) := by decide +kernel
theorem dX0_wearDown_23 : decode cX0_wearDown 23 = .ok (.getfield 15, 3) := by decide +kernel
theorem dX0_wearDown_26 : decode cX0_wearDown 26 = .ok (.if_icmp .lt 7, 3) := by decide +kernel
theorem dX0_wearDown_29 : decode cX0_wearDown 29 = .ok (.aload_n 0, 1) := by decide +kernel
theorem dX0_wearDown_30 : decode cX0_wearDown 30 = .ok (.invokevirtual 62, 3) := by decide +kernel
theorem dX0_wearDown_33 : decode cX0_wearDown 33 = .ok (.return_, 1) := by decide +kernel
theorem dX0_takeSnow_0 : decode cX0_takeSnow 0 = .ok (.aload_n 0, 1) := by decide +kernel
theorem dX0_takeSnow_1 : decode cX0_takeSnow 1 = .ok (.getfield 9, 3) := by decide +kernel
theorem dX0_takeSnow_4 : decode cX0_takeSnow 4 = .ok (.iconst 4, 1) := by decide +kernel
theorem dX0_takeSnow_5 : decode cX0_takeSnow 5 = .ok (.if_icmp .ne 5, 3) := by decide +kernel
theorem dX0_takeSnow_8 : decode cX0_takeSnow 8 = .ok (.iconst 0, 1) := by decide +kernel
theorem dX0_takeSnow_9 : decode cX0_takeSnow 9 = .ok (.ireturn, 1) := by decide +kernel
theorem dX0_takeSnow_10 : decode cX0_takeSnow 10 = .ok (.aload_n 0, 1) := by decide +kernel
theorem dX0_takeSnow_11 : decode cX0_takeSnow 11 = .ok (.sipush 200, 3) := by decide +kernel
theorem dX0_takeSnow_14 : decode cX0_takeSnow 14 = .ok (.aload_n 0, 1) := by decide +kernel
theorem dX0_takeSnow_15 : decode cX0_takeSnow 15 = .ok (.getfield 18, 3) := by decide +kernel
theorem dX0_takeSnow_18 : decode cX0_takeSnow 18 = .ok (.iload_n 1, 1) := by decide +kernel
theorem dX0_takeSnow_19 : decode cX0_takeSnow 19 = .ok (.iadd, 1) := by decide +kernel
theorem dX0_takeSnow_20 : decode cX0_takeSnow 20 = .ok (.invokestatic 46, 3) := by decide +kernel
theorem dX0_takeSnow_23 : decode cX0_takeSnow 23 = .ok (.putfield 18, 3) := by decide +kernel
theorem dX0_takeSnow_26 : decode cX0_takeSnow 26 = .ok (.aload_n 0, 1) := by decide +kernel
theorem dX0_takeSnow_27 : decode cX0_takeSnow 27 = .ok (.getfield 18, 3) := by decide +kernel
theorem dX0_takeSnow_30 : decode cX0_takeSnow 30 = .ok (.ifCond .le 26, 3) := by decide +kernel
theorem dX0_takeSnow_33 : decode cX0_takeSnow 33 = .ok (.aload_n 0, 1) := by decide +kernel
theorem dX0_takeSnow_34 : decode cX0_takeSnow 34 = .ok (.getfield 9, 3) := by decide +kernel
theorem dX0_takeSnow_37 : decode cX0_takeSnow 37 = .ok (.iconst 1, 1) := by decide +kernel
theorem dX0_takeSnow_38 : decode cX0_takeSnow 38 = .ok (.if_icmp .eq 11, 3) := by decide +kernel
theorem dX0_takeSnow_41 : decode cX0_takeSnow 41 = .ok (.aload_n 0, 1) := by decide +kernel
theorem dX0_takeSnow_42 : decode cX0_takeSnow 42 = .ok (.getfield 9, 3) := by decide +kernel
theorem dX0_takeSnow_45 : decode cX0_takeSnow 45 = .ok (.iconst 2, 1) := by decide +kernel
theorem dX0_takeSnow_46 : decode cX0_takeSnow 46 = .ok (.if_icmp .ne 10, 3) := by decide +kernel
theorem dX0_takeSnow_49 : decode cX0_takeSnow 49 = .ok (.aload_n 0, 1) := by decide +kernel
theorem dX0_takeSnow_50 : decode cX0_takeSnow 50 = .ok (.iconst 0, 1) := by decide +kernel
theorem dX0_takeSnow_51 : decode cX0_takeSnow 51 = .ok (.invokevirtual 58, 3) := by decide +kernel
theorem dX0_takeSnow_54 : decode cX0_takeSnow 54 = .ok (.iconst 1, 1) := by decide +kernel
theorem dX0_takeSnow_55 : decode cX0_takeSnow 55 = .ok (.ireturn, 1) := by decide +kernel
theorem dX0_takeSnow_56 : decode cX0_takeSnow 56 = .ok (.iconst 0, 1) := by decide +kernel
theorem dX0_takeSnow_57 : decode cX0_takeSnow 57 = .ok (.ireturn, 1) := by decide +kernel
theorem dX0_lastCome_0 : decode cX0_lastCome 0 = .ok (.iload_n 1, 1) := by decide +kernel
theorem dX0_lastCome_1 : decode cX0_lastCome 1 = .ok (.ifCond .ne 10, 3) := by decide +kernel
theorem dX0_lastCome_4 : decode cX0_lastCome 4 = .ok (.aload_n 0, 1) := by decide +kernel
theorem dX0_lastCome_5 : decode cX0_lastCome 5 = .ok (.getfield 36, 3) := by decide +kernel
theorem dX0_lastCome_8 : decode cX0_lastCome 8 = .ok (.goto 7, 3) := by decide +kernel
theorem dX0_lastCome_11 : decode cX0_lastCome 11 = .ok (.aload_n 0, 1) := by decide +kernel
theorem dX0_lastCome_12 : decode cX0_lastCome 12 = .ok (.getfield 39, 3) := by decide +kernel
theorem dX0_lastCome_15 : decode cX0_lastCome 15 = .ok (.ireturn, 1) := by decide +kernel
theorem dX0_noteCome_0 : decode cX0_noteCome 0 = .ok (.iload_n 1, 1) := by decide +kernel
theorem dX0_noteCome_1 : decode cX0_noteCome 1 = .ok (.ifCond .ne 11, 3) := by decide +kernel
theorem dX0_noteCome_4 : decode cX0_noteCome 4 = .ok (.aload_n 0, 1) := by decide +kernel
theorem dX0_noteCome_5 : decode cX0_noteCome 5 = .ok (.iload_n 2, 1) := by decide +kernel
theorem dX0_noteCome_6 : decode cX0_noteCome 6 = .ok (.putfield 36, 3) := by decide +kernel
theorem dX0_noteCome_9 : decode cX0_noteCome 9 = .ok (.goto 8, 3) := by decide +kernel
theorem dX0_noteCome_12 : decode cX0_noteCome 12 = .ok (.aload_n 0, 1) := by decide +kernel
theorem dX0_noteCome_13 : decode cX0_noteCome 13 = .ok (.iload_n 2, 1) := by decide +kernel
theorem dX0_noteCome_14 : decode cX0_noteCome 14 = .ok (.putfield 39, 3) := by decide +kernel
theorem dX0_noteCome_17 : decode cX0_noteCome 17 = .ok (.return_, 1) := by decide +kernel
theorem dX1_init_0 : decode cX1_init 0 = .ok (.aload_n 0, 1) := by decide +kernel
theorem dX1_init_1 : decode cX1_init 1 = .ok (.invokespecial 3, 3) := by decide +kernel
theorem dX1_init_4 : decode cX1_init 4 = .ok (.aload_n 0, 1) := by decide +kernel
theorem dX1_init_5 : decode cX1_init 5 = .ok (.iconst 0, 1) := by decide +kernel
theorem dX1_init_6 : decode cX1_init 6 = .ok (.putfield 9, 3) := by decide +kernel
theorem dX1_init_9 : decode cX1_init 9 = .ok (.aload_n 0, 1) := by decide +kernel
theorem dX1_init_10 : decode cX1_init 10 = .ok (.iconst 0, 1) := by decide +kernel
theorem dX1_init_11 : decode cX1_init 11 = .ok (.putfield 15, 3) := by decide +kernel
theorem dX1_init_14 : decode cX1_init 14 = .ok (.aload_n 0, 1) := by decide +kernel
theorem dX1_init_15 : decode cX1_init 15 = .ok (.iconst 0, 1) := by decide +kernel
theorem dX1_init_16 : decode cX1_init 16 = .ok (.putfield 18, 3) := by decide +kernel
theorem dX1_init_19 : decode cX1_init 19 = .ok (.aload_n 0, 1) := by decide +kernel
theorem dX1_init_20 : decode cX1_init 20 = .ok (.iconst 0, 1) := by decide +kernel
theorem dX1_init_21 : decode cX1_init 21 = .ok (.putfield 21, 3) := by decide +kernel
theorem dX1_init_24 : decode cX1_init 24 = .ok (.aload_n 0, 1) := by decide +kernel
theorem dX1_init_25 : decode cX1_init 25 = .ok (.iconst (-1), 1) := by decide +kernel
theorem dX1_init_26 : decode cX1_init 26 = .ok (.putfield 24, 3) := by decide +kernel
theorem dX1_init_29 : decode cX1_init 29 = .ok (.aload_n 0, 1) := by decide +kernel
theorem dX1_init_30 : decode cX1_init 30 = .ok (.iconst (-1), 1) := by decide +kernel
theorem dX1_init_31 : decode cX1_init 31 = .ok (.putfield 27, 3) := by decide +kernel
theorem dX1_init_34 : decode cX1_init 34 = .ok (.aload_n 0, 1) := by decide +kernel
theorem dX1_init_35 : decode cX1_init 35 = .ok (.iconst (-1), 1) := by decide +kernel
theorem dX1_init_36 : decode cX1_init 36 = .ok (.putfield 30, 3) := by decide +kernel
theorem dX1_init_39 : decode cX1_init 39 = .ok (.return_, 1) := by decide +kernel
theorem dX1_enter_0 : decode cX1_enter 0 = .ok (.aload_n 0, 1) := by decide +kernel
theorem dX1_enter_1 : decode cX1_enter 1 = .ok (.iconst 1, 1) := by decide +kernel
theorem dX1_enter_2 : decode cX1_enter 2 = .ok (.putfield 21, 3) := by decide +kernel
theorem dX1_enter_5 : decode cX1_enter 5 = .ok (.aload_n 0, 1) := by decide +kernel
theorem dX1_enter_6 : decode cX1_enter 6 = .ok (.iload_n 1, 1) := by decide +kernel
theorem dX1_enter_7 : decode cX1_enter 7 = .ok (.putfield 24, 3) := by decide +kernel
theorem dX1_enter_10 : decode cX1_enter 10 = .ok (.aload_n 0, 1) := by decide +kernel
theorem dX1_enter_11 : decode cX1_enter 11 = .ok (.iconst 0, 1) := by decide +kernel
theorem dX1_enter_12 : decode cX1_enter 12 = .ok (.putfield 27, 3) := by decide +kernel
theorem dX1_enter_15 : decode cX1_enter 15 = .ok (.return_, 1) := by decide +kernel
theorem dX1_end_0 : decode cX1_end 0 = .ok (.aload_n 0, 1) := by decide +kernel
theorem dX1_end_1 : decode cX1_end 1 = .ok (.iload_n 1, 1) := by decide +kernel
theorem dX1_end_2 : decode cX1_end 2 = .ok (.putfield 21, 3) := by decide +kernel
theorem dX1_end_5 : decode cX1_end 5 = .ok (.aload_n 0, 1) := by decide +kernel
theorem dX1_end_6 : decode cX1_end 6 = .ok (.iconst (-1), 1) := by decide +kernel
theorem dX1_end_7 : decode cX1_end 7 = .ok (.putfield 24, 3) := by decide +kernel
theorem dX1_end_10 : decode cX1_end 10 = .ok (.aload_n 0, 1) := by decide +kernel
theorem dX1_end_11 : decode cX1_end 11 = .ok (.iconst (-1), 1) := by decide +kernel
theorem dX1_end_12 : decode cX1_end 12 = .ok (.putfield 27, 3) := by decide +kernel
theorem dX1_end_15 : decode cX1_end 15 = .ok (.aload_n 0, 1) := by decide +kernel
theorem dX1_end_16 : decode cX1_end 16 = .ok (.iload_n 2, 1) := by decide +kernel
theorem dX1_end_17 : decode cX1_end 17 = .ok (.putfield 30, 3) := by decide +kernel
theorem dX1_end_20 : decode cX1_end 20 = .ok (.return_, 1) := by decide +kernel
theorem dX2_init_0 : decode cX2_init 0 = .ok (.aload_n 0, 1) := by decide +kernel
theorem dX2_init_1 : decode cX2_init 1 = .ok (.invokespecial 3, 3) := by decide +kernel
theorem dX2_init_4 : decode cX2_init 4 = .ok (.aload_n 0, 1) := by decide +kernel
theorem dX2_init_5 : decode cX2_init 5 = .ok (.iconst 0, 1) := by decide +kernel
theorem dX2_init_6 : decode cX2_init 6 = .ok (.putfield 9, 3) := by decide +kernel
theorem dX2_init_9 : decode cX2_init 9 = .ok (.aload_n 0, 1) := by decide +kernel
theorem dX2_init_10 : decode cX2_init 10 = .ok (.iconst 0, 1) := by decide +kernel
theorem dX2_init_11 : decode cX2_init 11 = .ok (.putfield 15, 3) := by decide +kernel
theorem dX2_init_14 : decode cX2_init 14 = .ok (.aload_n 0, 1) := by decide +kernel
theorem dX2_init_15 : decode cX2_init 15 = .ok (.iconst 0, 1) := by decide +kernel
theorem dX2_init_16 : decode cX2_init 16 = .ok (.putfield 18, 3) := by decide +kernel
theorem dX2_init_19 : decode cX2_init 19 = .ok (.aload_n 0, 1) := by decide +kernel
theorem dX2_init_20 : decode cX2_init 20 = .ok (.iconst 0, 1) := by decide +kernel
theorem dX2_init_21 : decode cX2_init 21 = .ok (.putfield 21, 3) := by decide +kernel
theorem dX2_init_24 : decode cX2_init 24 = .ok (.aload_n 0, 1) := by decide +kernel
theorem dX2_init_25 : decode cX2_init 25 = .ok (.iconst 0, 1) := by decide +kernel
theorem dX2_init_26 : decode cX2_init 26 = .ok (.putfield 24, 3) := by decide +kernel
theorem dX2_init_29 : decode cX2_init 29 = .ok (.aload_n 0, 1) := by decide +kernel
theorem dX2_init_30 : decode cX2_init 30 = .ok (.iconst 0, 1) := by decide +kernel
theorem dX2_init_31 : decode cX2_init 31 = .ok (.putfield 28, 3) := by decide +kernel
theorem dX2_init_34 : decode cX2_init 34 = .ok (.aload_n 0, 1) := by decide +kernel
theorem dX2_init_35 : decode cX2_init 35 = .ok (.iconst 3, 1) := by decide +kernel
theorem dX2_init_36 : decode cX2_init 36 = .ok (.newarray .int, 2) := by decide +kernel
theorem dX2_init_38 : decode cX2_init 38 = .ok (.putfield 31, 3) := by decide +kernel
theorem dX2_init_41 : decode cX2_init 41 = .ok (.aload_n 0, 1) := by decide +kernel
theorem dX2_init_42 : decode cX2_init 42 = .ok (.iconst 3, 1) := by decide +kernel
theorem dX2_init_43 : decode cX2_init 43 = .ok (.newarray .int, 2) := by decide +kernel
theorem dX2_init_45 : decode cX2_init 45 = .ok (.putfield 35, 3) := by decide +kernel
theorem dX2_init_48 : decode cX2_init 48 = .ok (.aload_n 0, 1) := by decide +kernel
theorem dX2_init_49 : decode cX2_init 49 = .ok (.iconst 3, 1) := by decide +kernel
theorem dX2_init_50 : decode cX2_init 50 = .ok (.newarray .int, 2) := by decide +kernel
theorem dX2_init_52 : decode cX2_init 52 = .ok (.putfield 38, 3) := by decide +kernel
theorem dX2_init_55 : decode cX2_init 55 = .ok (.return_, 1) := by decide +kernel
theorem dX2_applies_0 : decode cX2_applies 0 = .ok (.iload_n 1, 1) := by decide +kernel
theorem dX2_applies_1 : decode cX2_applies 1 = .ok (.aload_n 0, 1) := by decide +kernel
theorem dX2_applies_2 : decode cX2_applies 2 = .ok (.getfield 18, 3) := by decide +kernel
theorem dX2_applies_5 : decode cX2_applies 5 = .ok (.if_icmp .lt 11, 3) := by decide +kernel
theorem dX2_applies_8 : decode cX2_applies 8 = .ok (.iload_n 1, 1) := by decide +kernel
theorem dX2_applies_9 : decode cX2_applies 9 = .ok (.aload_n 0, 1) := by decide +kernel
theorem dX2_applies_10 : decode cX2_applies 10 = .ok (.getfield 21, 3) := by decide +kernel
theorem dX2_applies_13 : decode cX2_applies 13 = .ok (.if_icmp .lt 5, 3) := by decide +kernel
theorem dX2_applies_16 : decode cX2_applies 16 = .ok (.iconst 0, 1) := by decide +kernel
theorem dX2_applies_17 : decode cX2_applies 17 = .ok (.ireturn, 1) := by decide +kernel
theorem dX2_applies_18 : decode cX2_applies 18 = .ok (.iconst 0, 1) := by decide +kernel
theorem dX2_applies_19 : decode cX2_applies 19 = .ok (.istore_n 3, 1) := by decide +kernel
theorem dX2_applies_20 : decode cX2_applies 20 = .ok (.iconst 0, 1) := by decide +kernel
theorem dX2_applies_21 : decode cX2_applies 21 = .ok (.istore 4, 2) := by decide +kernel
theorem dX2_applies_23 : decode cX2_applies 23 = .ok (.iload 4, 2) := by decide +kernel
theorem dX2_applies_25 : decode cX2_applies 25 = .ok (.aload_n 0, 1) := by decide +kernel
theorem dX2_applies_26 : decode cX2_applies 26 = .ok (.getfield 28, 3) := by decide +kernel
theorem dX2_applies_29 : decode cX2_applies 29 = .ok (.if_icmp .ge 116, 3) := by decide +kernel
theorem dX2_applies_32 : decode cX2_applies 32 = .ok (.aload_n 2, 1) := by decide +kernel
theorem dX2_applies_33 : decode cX2_applies 33 = .ok (.aload_n 0, 1) := by decide +kernel
theorem dX2_applies_34 : decode cX2_applies 34 = .ok (.getfield 31, 3) := by decide +kernel
theorem dX2_applies_37 : decode cX2_applies 37 = .ok (.iload 4, 2) := by decide +kernel
theorem dX2_applies_39 : decode cX2_applies 39 = .ok (.iaload, 1) := by decide +kernel
theorem dX2_applies_40 : decode cX2_applies 40 = .ok (.iaload, 1) := by decide +kernel
theorem dX2_applies_41 : decode cX2_applies 41 = .ok (.istore 5, 2) := by decide +kernel
theorem dX2_applies_43 : decode cX2_applies 43 = .ok (.aload_n 0, 1) := by decide +kernel
theorem dX2_applies_44 : decode cX2_applies 44 = .ok (.getfield 35, 3) := by decide +kernel
theorem dX2_applies_47 : decode cX2_applies 47 = .ok (.iload 4, 2) := by decide +kernel
theorem dX2_applies_49 : decode cX2_applies 49 = .ok (.iaload, 1) := by decide +kernel
theorem dX2_applies_50 : decode cX2_applies 50 = .ok (.bipush 61, 2) := by decide +kernel
theorem dX2_applies_52 : decode cX2_applies 52 = .ok (.if_icmp .ne 23, 3) := by decide +kernel
theorem dX2_applies_55 : decode cX2_applies 55 = .ok (.iload 5, 2) := by decide +kernel
theorem dX2_applies_57 : decode cX2_applies 57 = .ok (.aload_n 0, 1) := by decide +kernel
theorem dX2_applies_58 : decode cX2_applies 58 = .ok (.getfield 38, 3) := by decide +kernel
theorem dX2_applies_61 : decode cX2_applies 61 = .ok (.iload 4, 2) := by decide +kernel
theorem dX2_applies_63 : decode cX2_applies 63 = .ok (.iaload, 1) := by decide +kernel
theorem dX2_applies_64 : decode cX2_applies 64 = .ok (.if_icmp .ne 7, 3) := by decide +kernel
theorem dX2_applies_67 : decode cX2_applies 67 = .ok (.iconst 1, 1) := by decide +kernel
theorem dX2_applies_68 : decode cX2_applies 68 = .ok (.goto 56, 3) := by decide +kernel
theorem dX2_applies_71 : decode cX2_applies 71 = .ok (.iconst 0, 1) := by decide +kernel
theorem dX2_applies_72 : decode cX2_applies 72 = .ok (.goto 52, 3) := by decide +kernel
theorem dX2_applies_75 : decode cX2_applies 75 = .ok (.aload_n 0, 1) := by decide +kernel
theorem dX2_applies_76 : decode cX2_applies 76 = .ok (.getfield 35, 3) := by decide +kernel
theorem dX2_applies_79 : decode cX2_applies 79 = .ok (.iload 4, 2) := by decide +kernel
theorem dX2_applies_81 : decode cX2_applies 81 = .ok (.iaload, 1) := by decide +kernel
theorem dX2_applies_82 : decode cX2_applies 82 = .ok (.bipush 60, 2) := by decide +kernel
theorem dX2_applies_84 : decode cX2_applies 84 = .ok (.if_icmp .ne 23, 3) := by decide +kernel
theorem dX2_applies_87 : decode cX2_applies 87 = .ok (.iload 5, 2) := by decide +kernel
theorem dX2_applies_89 : decode cX2_applies 89 = .ok (.aload_n 0, 1) := by decide +kernel
theorem dX2_applies_90 : decode cX2_applies 90 = .ok (.getfield 38, 3) := by decide +kernel
theorem dX2_applies_93 : decode cX2_applies 93 = .ok (.iload 4, 2) := by decide +kernel
theorem dX2_applies_95 : decode cX2_applies 95 = .ok (.iaload, 1) := by decide +kernel
theorem dX2_applies_96 : decode cX2_applies 96 = .ok (.if_icmp .ge 7, 3) := by decide +kernel
theorem dX2_applies_99 : decode cX2_applies 99 = .ok (.iconst 1, 1) := by decide +kernel
theorem dX2_applies_100 : decode cX2_applies 100 = .ok (.goto 24, 3) := by decide +kernel
theorem dX2_applies_103 : decode cX2_applies 103 = .ok (.iconst 0, 1) := by decide +kernel
theorem dX2_applies_104 : decode cX2_applies 104 = .ok (.goto 20, 3) := by decide +kernel
theorem dX2_applies_107 : decode cX2_applies 107 = .ok (.iload 5, 2) := by decide +kernel
theorem dX2_applies_109 : decode cX2_applies 109 = .ok (.aload_n 0, 1) := by decide +kernel
theorem dX2_applies_110 : decode cX2_applies 110 = .ok (.getfield 38, 3) := by decide +kernel
theorem dX2_applies_113 : decode cX2_applies 113 = .ok (.iload 4, 2) := by decide +kernel
theorem dX2_applies_115 : decode cX2_applies 115 = .ok (.iaload, 1) := by decide +kernel
theorem dX2_applies_116 : decode cX2_applies 116 = .ok (.if_icmp .le 7, 3) := by decide +kernel
theorem dX2_applies_119 : decode cX2_applies 119 = .ok (.iconst 1, 1) := by decide +kernel
theorem dX2_applies_120 : decode cX2_applies 120 = .ok (.goto 4, 3) := by decide +kernel
theorem dX2_applies_123 : decode cX2_applies 123 = .ok (.iconst 0, 1) := by decide +kernel
theorem dX2_applies_124 : decode cX2_applies 124 = .ok (.istore 6, 2) := by decide +kernel
theorem dX2_applies_126 : decode cX2_applies 126 = .ok (.iload_n 3, 1) := by decide +kernel
theorem dX2_applies_127 : decode cX2_applies 127 = .ok (.iload 6, 2) := by decide +kernel
theorem dX2_applies_129 : decode cX2_applies 129 = .ok (.ifCond .eq 7, 3) := by decide +kernel
theorem dX2_applies_132 : decode cX2_applies 132 = .ok (.iconst 1, 1) := by decide +kernel
theorem dX2_applies_133 : decode cX2_applies 133 = .ok (.goto 4, 3) := by decide +kernel
theorem dX2_applies_136 : decode cX2_applies 136 = .ok (.iconst 0, 1) := by decide +kernel
theorem dX2_applies_137 : decode cX2_applies 137 = .ok (.iadd, 1) := by decide +kernel
theorem dX2_applies_138 : decode cX2_applies 138 = .ok (.istore_n 3, 1) := by decide +kernel
theorem dX2_applies_139 : decode cX2_applies 139 = .ok (.iinc 4 1, 3) := by decide +kernel
theorem dX2_applies_142 : decode cX2_applies 142 = .ok (.goto (-119), 3) := by decide +kernel
theorem dX2_applies_145 : decode cX2_applies 145 = .ok (.aload_n 0, 1) := by decide +kernel
theorem dX2_applies_146 : decode cX2_applies 146 = .ok (.getfield 24, 3) := by decide +kernel
theorem dX2_applies_149 : decode cX2_applies 149 = .ok (.ifCond .eq 15, 3) := by decide +kernel
theorem dX2_applies_152 : decode cX2_applies 152 = .ok (.iload_n 3, 1) := by decide +kernel
theorem dX2_applies_153 : decode cX2_applies 153 = .ok (.ifCond .le 7, 3) := by decide +kernel
theorem dX2_applies_156 : decode cX2_applies 156 = .ok (.iconst 1, 1) := by decide +kernel
theorem dX2_applies_157 : decode cX2_applies 157 = .ok (.goto 20, 3) := by decide +kernel
theorem dX2_applies_160 : decode cX2_applies 160 = .ok (.iconst 0, 1) := by decide +kernel
theorem dX2_applies_161 : decode cX2_applies 161 = .ok (.goto 16, 3) := by decide +kernel
theorem dX2_applies_164 : decode cX2_applies 164 = .ok (.iload_n 3, 1) := by decide +kernel
theorem dX2_applies_165 : decode cX2_applies 165 = .ok (.aload_n 0, 1) := by decide +kernel
theorem dX2_applies_166 : decode cX2_applies 166 = .ok (.getfield 28, 3) := by decide +kernel
theorem dX2_applies_169 : decode cX2_applies 169 = .ok (.if_icmp .ne 7, 3) := by decide +kernel
theorem dX2_applies_172 : decode cX2_applies 172 = .ok (.iconst 1, 1) := by decide +kernel
theorem dX2_applies_173 : decode cX2_applies 173 = .ok (.goto 4, 3) := by decide +kernel
theorem dX2_applies_176 : decode cX2_applies 176 = .ok (.iconst 0, 1) := by decide +kernel
theorem dX2_applies_177 : decode cX2_applies 177 = .ok (.ireturn, 1) := by decide +kernel
theorem dX3_init_0 : decode cX3_init 0 = .ok (.aload_n 0, 1) := by decide +kernel
theorem dX3_init_1 : decode cX3_init 1 = .ok (.invokespecial 3, 3) := by decide +kernel
theorem dX3_init_4 : decode cX3_init 4 = .ok (.aload_n 0, 1) := by decide +kernel
theorem dX3_init_5 : decode cX3_init 5 = .ok (.iconst 0, 1) := by decide +kernel
theorem dX3_init_6 : decode cX3_init 6 = .ok (.putfield 9, 3) := by decide +kernel
theorem dX3_init_9 : decode cX3_init 9 = .ok (.aload_n 0, 1) := by decide +kernel
theorem dX3_init_10 : decode cX3_init 10 = .ok (.aload_n 1, 1) := by decide +kernel
theorem dX3_init_11 : decode cX3_init 11 = .ok (.putfield 15, 3) := by decide +kernel
theorem dX3_init_14 : decode cX3_init 14 = .ok (.return_, 1) := by decide +kernel
theorem dX3_takeRule_0 : decode cX3_takeRule 0 = .ok (.aload_n 0, 1) := by decide +kernel
theorem dX3_takeRule_1 : decode cX3_takeRule 1 = .ok (.iconst 0, 1) := by decide +kernel
theorem dX3_takeRule_2 : decode cX3_takeRule 2 = .ok (.putfield 9, 3) := by decide +kernel
theorem dX3_takeRule_5 : decode cX3_takeRule 5 = .ok (.aload_n 1, 1) := by decide +kernel
theorem dX3_takeRule_6 : decode cX3_takeRule 6 = .ok (.iconst 0, 1) := by decide +kernel
theorem dX3_takeRule_7 : decode cX3_takeRule 7 = .ok (.putfield 19, 3) := by decide +kernel
theorem dX3_takeRule_10 : decode cX3_takeRule 10 = .ok (.aload_n 1, 1) := by decide +kernel
theorem dX3_takeRule_11 : decode cX3_takeRule 11 = .ok (.iconst 0, 1) := by decide +kernel
theorem dX3_takeRule_12 : decode cX3_takeRule 12 = .ok (.putfield 25, 3) := by decide +kernel
theorem dX3_takeRule_15 : decode cX3_takeRule 15 = .ok (.aload_n 1, 1) := by decide +kernel
theorem dX3_takeRule_16 : decode cX3_takeRule 16 = .ok (.aload_n 0, 1) := by decide +kernel
theorem dX3_takeRule_17 : decode cX3_takeRule 17 = .ok (.invokevirtual 28, 3) := by decide +kernel
theorem dX3_takeRule_20 : decode cX3_takeRule 20 = .ok (.putfield 32, 3) := by decide +kernel
theorem dX3_takeRule_23 : decode cX3_takeRule 23 = .ok (.aload_n 1, 1) := by decide +kernel
theorem dX3_takeRule_24 : decode cX3_takeRule 24 = .ok (.getfield 32, 3) := by decide +kernel
theorem dX3_takeRule_27 : decode cX3_takeRule 27 = .ok (.iconst (-1), 1) := by decide +kernel
theorem dX3_takeRule_28 : decode cX3_takeRule 28 = .ok (.if_icmp .eq 12, 3) := by decide +kernel
theorem dX3_takeRule_31 : decode cX3_takeRule 31 = .ok (.aload_n 0, 1) := by decide +kernel
theorem dX3_takeRule_32 : decode cX3_takeRule 32 = .ok (.bipush 32, 2) := by decide +kernel
theorem dX3_takeRule_34 : decode cX3_takeRule 34 = .ok (.invokevirtual 35, 3) := by decide +kernel
theorem dX3_takeRule_37 : decode cX3_takeRule 37 = .ok (.ifCond .ne 5, 3) := by decide +kernel
theorem dX3_takeRule_40 : decode cX3_takeRule 40 = .ok (.iconst 0, 1) := by decide +kernel
theorem dX3_takeRule_41 : decode cX3_takeRule 41 = .ok (.ireturn, 1) := by decide +kernel
theorem dX3_takeRule_42 : decode cX3_takeRule 42 = .ok (.aload_n 1, 1) := by decide +kernel
theorem dX3_takeRule_43 : decode cX3_takeRule 43 = .ok (.aload_n 0, 1) := by decide +kernel
theorem dX3_takeRule_44 : decode cX3_takeRule 44 = .ok (.invokevirtual 39, 3) := by decide +kernel
theorem dX3_takeRule_47 : decode cX3_takeRule 47 = .ok (.putfield 42, 3) := by decide +kernel
theorem dX3_takeRule_50 : decode cX3_takeRule 50 = .ok (.aload_n 1, 1) := by decide +kernel
theorem dX3_takeRule_51 : decode cX3_takeRule 51 = .ok (.getfield 42, 3) := by decide +kernel
theorem dX3_takeRule_54 : decode cX3_takeRule 54 = .ok (.iconst (-1), 1) := by decide +kernel
theorem dX3_takeRule_55 : decode cX3_takeRule 55 = .ok (.if_icmp .ne 5, 3) := by decide +kernel
theorem dX3_takeRule_58 : decode cX3_takeRule 58 = .ok (.iconst 0, 1) := by decide +kernel
theorem dX3_takeRule_59 : decode cX3_takeRule 59 = .ok (.ireturn, 1) := by decide +kernel
theorem dX3_takeRule_60 : decode cX3_takeRule 60 = .ok (.aload_n 0, 1) := by decide +kernel
theorem dX3_takeRule_61 : decode cX3_takeRule 61 = .ok (.invokevirtual 45, 3) := by decide +kernel
theorem dX3_takeRule_64 : decode cX3_takeRule 64 = .ok (.ifCond .ne 11, 3) := by decide +kernel
theorem dX3_takeRule_67 : decode cX3_takeRule 67 = .ok (.aload_n 0, 1) := by decide +kernel
theorem dX3_takeRule_68 : decode cX3_takeRule 68 = .ok (.aload_n 1, 1) := by decide +kernel
theorem dX3_takeRule_69 : decode cX3_takeRule 69 = .ok (.invokevirtual 49, 3) := by decide +kernel
theorem dX3_takeRule_72 : decode cX3_takeRule 72 = .ok (.ifCond .eq 7, 3) := by decide +kernel
theorem dX3_takeRule_75 : decode cX3_takeRule 75 = .ok (.iconst 1, 1) := by decide +kernel
theorem dX3_takeRule_76 : decode cX3_takeRule 76 = .ok (.goto 4, 3) := by decide +kernel
theorem dX3_takeRule_79 : decode cX3_takeRule 79 = .ok (.iconst 0, 1) := by decide +kernel
theorem dX3_takeRule_80 : decode cX3_takeRule 80 = .ok (.ireturn, 1) := by decide +kernel
theorem dX3_takeTests_0 : decode cX3_takeTests 0 = .ok (.aload_n 0, 1) := by decide +kernel
theorem dX3_takeTests_1 : decode cX3_takeTests 1 = .ok (.ldc 53, 2) := by decide +kernel
theorem dX3_takeTests_3 : decode cX3_takeTests 3 = .ok (.invokevirtual 55, 3) := by decide +kernel
theorem dX3_takeTests_6 : decode cX3_takeTests 6 = .ok (.ifCond .eq 11, 3) := by decide +kernel
theorem dX3_takeTests_9 : decode cX3_takeTests 9 = .ok (.aload_n 0, 1) := by decide +kernel
theorem dX3_takeTests_10 : decode cX3_takeTests 10 = .ok (.aload_n 1, 1) := by decide +kernel
theorem dX3_takeTests_11 : decode cX3_takeTests 11 = .ok (.invokevirtual 59, 3) := by decide +kernel
theorem dX3_takeTests_14 : decode cX3_takeTests 14 = .ok (.ifCond .ne 5, 3) := by decide +kernel
theorem dX3_takeTests_17 : decode cX3_takeTests 17 = .ok (.iconst 0, 1) := by decide +kernel
theorem dX3_takeTests_18 : decode cX3_takeTests 18 = .ok (.ireturn, 1) := by decide +kernel
theorem dX3_takeTests_19 : decode cX3_takeTests 19 = .ok (.iconst 1, 1) := by decide +kernel
theorem dX3_takeTests_20 : decode cX3_takeTests 20 = .ok (.istore_n 2, 1) := by decide +kernel
theorem dX3_takeTests_21 : decode cX3_takeTests 21 = .ok (.iload_n 2, 1) := by decide +kernel
theorem dX3_takeTests_22 : decode cX3_takeTests 22 = .ok (.iconst 3, 1) := by decide +kernel
theorem dX3_takeTests_23 : decode cX3_takeTests 23 = .ok (.if_icmp .ge 52, 3) := by decide +kernel
theorem dX3_takeTests_26 : decode cX3_takeTests 26 = .ok (.aload_n 0, 1) := by decide +kernel
theorem dX3_takeTests_27 : decode cX3_takeTests 27 = .ok (.invokevirtual 45, 3) := by decide +kernel
theorem dX3_takeTests_30 : decode cX3_takeTests 30 = .ok (.ifCond .ne 45, 3) := by decide +kernel
theorem dX3_takeTests_33 : decode cX3_takeTests 33 = .ok (.aload_n 0, 1) := by decide +kernel
theorem dX3_takeTests_34 : decode cX3_takeTests 34 = .ok (.bipush 32, 2) := by decide +kernel
theorem dX3_takeTests_36 : decode cX3_takeTests 36 = .ok (.invokevirtual 35, 3) := by decide +kernel
theorem dX3_takeTests_39 : decode cX3_takeTests 39 = .ok (.ifCond .eq 28, 3) := by decide +kernel
theorem dX3_takeTests_42 : decode cX3_takeTests 42 = .ok (.aload_n 0, 1) := by decide +kernel
theorem dX3_takeTests_43 : decode cX3_takeTests 43 = .ok (.aload_n 1, 1) := by decide +kernel
theorem dX3_takeTests_44 : decode cX3_takeTests 44 = .ok (.invokevirtual 62, 3) := by decide +kernel
theorem dX3_takeTests_47 : decode cX3_takeTests 47 = .ok (.ifCond .eq 20, 3) := by decide +kernel
theorem dX3_takeTests_50 : decode cX3_takeTests 50 = .ok (.aload_n 0, 1) := by decide +kernel
theorem dX3_takeTests_51 : decode cX3_takeTests 51 = .ok (.bipush 32, 2) := by decide +kernel
theorem dX3_takeTests_53 : decode cX3_takeTests 53 = .ok (.invokevirtual 35, 3) := by decide +kernel
theorem dX3_takeTests_56 : decode cX3_takeTests 56 = .ok (.ifCond .eq 11, 3) := by decide +kernel
theorem dX3_takeTests_59 : decode cX3_takeTests 59 = .ok (.aload_n 0, 1) := by decide +kernel
theorem dX3_takeTests_60 : decode cX3_takeTests 60 = .ok (.aload_n 1, 1) := by decide +kernel
theorem dX3_takeTests_61 : decode cX3_takeTests 61 = .ok (.invokevirtual 59, 3) := by decide +kernel
theorem dX3_takeTests_64 : decode cX3_takeTests 64 = .ok (.ifCond .ne 5, 3) := by decide +kernel
theorem dX3_takeTests_67 : decode cX3_takeTests 67 = .ok (.iconst 0, 1) := by decide +kernel
theorem dX3_takeTests_68 : decode cX3_takeTests 68 = .ok (.ireturn, 1) := by decide +kernel
theorem dX3_takeTests_69 : decode cX3_takeTests 69 = .ok (.iinc 2 1, 3) := by decide +kernel
theorem dX3_takeTests_72 : decode cX3_takeTests 72 = .ok (.goto (-51), 3) := by decide +kernel
theorem dX3_takeTests_75 : decode cX3_takeTests 75 = .ok (.aload_n 0, 1) := by decide +kernel
theorem dX3_takeTests_76 : decode cX3_takeTests 76 = .ok (.invokevirtual 45, 3) := by decide +kernel
theorem dX3_takeTests_79 : decode cX3_takeTests 79 = .ok (.ireturn, 1) := by decide +kernel
theorem dX3_takeJoint_0 : decode cX3_takeJoint 0 = .ok (.aload_n 1, 1) := by decide +kernel
theorem dX3_takeJoint_1 : decode cX3_takeJoint 1 = .ok (.getfield 25, 3) := by decide +kernel
theorem dX3_takeJoint_4 : decode cX3_takeJoint 4 = .ok (.iconst 1, 1) := by decide +kernel
theorem dX3_takeJoint_5 : decode cX3_takeJoint 5 = .ok (.if_icmp .ne 28, 3) := by decide +kernel
theorem dX3_takeJoint_8 : decode cX3_takeJoint 8 = .ok (.aload_n 1, 1) := by decide +kernel
theorem dX3_takeJoint_9 : decode cX3_takeJoint 9 = .ok (.aload_n 0, 1) := by decide +kernel
theorem dX3_takeJoint_10 : decode cX3_takeJoint 10 = .ok (.getfield 15, 3) := by decide +kernel
theorem dX3_takeJoint_13 : decode cX3_takeJoint 13 = .ok (.aload_n 0, 1) := by decide +kernel
theorem dX3_takeJoint_14 : decode cX3_takeJoint 14 = .ok (.getfield 9, 3) := by decide +kernel
theorem dX3_takeJoint_17 : decode cX3_takeJoint 17 = .ok (.invokevirtual 65, 3) := by decide +kernel
theorem dX3_takeJoint_20 : decode cX3_takeJoint 20 = .ok (.bipush 111, 2) := by decide +kernel
theorem dX3_takeJoint_22 : decode cX3_takeJoint 22 = .ok (.if_icmp .ne 7, 3) := by decide +kernel
theorem dX3_takeJoint_25 : decode cX3_takeJoint 25 = .ok (.iconst 1, 1) := by decide +kernel
theorem dX3_takeJoint_26 : decode cX3_takeJoint 26 = .ok (.goto 4, 3) := by decide +kernel
theorem dX3_takeJoint_29 : decode cX3_takeJoint 29 = .ok (.iconst 0, 1) := by decide +kernel
theorem dX3_takeJoint_30 : decode cX3_takeJoint 30 = .ok (.putfield 19, 3) := by decide +kernel
theorem dX3_takeJoint_33 : decode cX3_takeJoint 33 = .ok (.aload_n 0, 1) := by decide +kernel
theorem dX3_takeJoint_34 : decode cX3_takeJoint 34 = .ok (.aload_n 1, 1) := by decide +kernel
theorem dX3_takeJoint_35 : decode cX3_takeJoint 35 = .ok (.getfield 19, 3) := by decide +kernel
theorem dX3_takeJoint_38 : decode cX3_takeJoint 38 = .ok (.ifCond .eq 8, 3) := by decide +kernel
theorem dX3_takeJoint_41 : decode cX3_takeJoint 41 = .ok (.ldc 71, 2) := by decide +kernel
theorem dX3_takeJoint_43 : decode cX3_takeJoint 43 = .ok (.goto 5, 3) := by decide +kernel
theorem dX3_takeJoint_46 : decode cX3_takeJoint 46 = .ok (.ldc 73, 2) := by decide +kernel
theorem dX3_takeJoint_48 : decode cX3_takeJoint 48 = .ok (.invokevirtual 55, 3) := by decide +kernel
theorem dX3_takeJoint_51 : decode cX3_takeJoint 51 = .ok (.ireturn, 1) := by decide +kernel
theorem dX3_takeTest_0 : decode cX3_takeTest 0 = .ok (.aload_n 0, 1) := by decide +kernel
theorem dX3_takeTest_1 : decode cX3_takeTest 1 = .ok (.invokevirtual 75, 3) := by decide +kernel
theorem dX3_takeTest_4 : decode cX3_takeTest 4 = .ok (.istore_n 2, 1) := by decide +kernel
theorem dX3_takeTest_5 : decode cX3_takeTest 5 = .ok (.iload_n 2, 1) := by decide +kernel
theorem dX3_takeTest_6 : decode cX3_takeTest 6 = .ok (.iconst (-1), 1) := by decide +kernel
theorem dX3_takeTest_7 : decode cX3_takeTest 7 = .ok (.if_icmp .ne 5, 3) := by decide +kernel
theorem dX3_takeTest_10 : decode cX3_takeTest 10 = .ok (.iconst 0, 1) := by decide +kernel
theorem dX3_takeTest_11 : decode cX3_takeTest 11 = .ok (.ireturn, 1) := by decide +kernel
theorem dX3_takeTest_12 : decode cX3_takeTest 12 = .ok (.aload_n 0, 1) := by decide +kernel
theorem dX3_takeTest_13 : decode cX3_takeTest 13 = .ok (.getfield 15, 3) := by decide +kernel
theorem dX3_takeTest_16 : decode cX3_takeTest 16 = .ok (.aload_n 0, 1) := by decide +kernel
theorem dX3_takeTest_17 : decode cX3_takeTest 17 = .ok (.getfield 9, 3) := by decide +kernel
theorem dX3_takeTest_20 : decode cX3_takeTest 20 = .ok (.invokevirtual 65, 3) := by decide +kernel
theorem dX3_takeTest_23 : decode cX3_takeTest 23 = .ok (.istore_n 3, 1) := by decide +kernel
theorem dX3_takeTest_24 : decode cX3_takeTest 24 = .ok (.iload_n 3, 1) := by decide +kernel
theorem dX3_takeTest_25 : decode cX3_takeTest 25 = .ok (.bipush 61, 2) := by decide +kernel
theorem dX3_takeTest_27 : decode cX3_takeTest 27 = .ok (.if_icmp .eq 17, 3) := by decide +kernel
theorem dX3_takeTest_30 : decode cX3_takeTest 30 = .ok (.iload_n 3, 1) := by decide +kernel
theorem dX3_takeTest_31 : decode cX3_takeTest 31 = .ok (.bipush 60, 2) := by decide +kernel
theorem dX3_takeTest_33 : decode cX3_takeTest 33 = .ok (.if_icmp .eq 11, 3) := by decide +kernel
theorem dX3_takeTest_36 : decode cX3_takeTest 36 = .ok (.iload_n 3, 1) := by decide +kernel
theorem dX3_takeTest_37 : decode cX3_takeTest 37 = .ok (.bipush 62, 2) := by decide +kernel
theorem dX3_takeTest_39 : decode cX3_takeTest 39 = .ok (.if_icmp .eq 5, 3) := by decide +kernel
theorem dX3_takeTest_42 : decode cX3_takeTest 42 = .ok (.iconst 0, 1) := by decide +kernel
theorem dX3_takeTest_43 : decode cX3_takeTest 43 = .ok (.ireturn, 1) := by decide +kernel
theorem dX3_takeTest_44 : decode cX3_takeTest 44 = .ok (.aload_n 0, 1) := by decide +kernel
theorem dX3_takeTest_45 : decode cX3_takeTest 45 = .ok (.dup, 1) := by decide +kernel
theorem dX3_takeTest_46 : decode cX3_takeTest 46 = .ok (.getfield 9, 3) := by decide +kernel
theorem dX3_takeTest_49 : decode cX3_takeTest 49 = .ok (.iconst 1, 1) := by decide +kernel
theorem dX3_takeTest_50 : decode cX3_takeTest 50 = .ok (.iadd, 1) := by decide +kernel
theorem dX3_takeTest_51 : decode cX3_takeTest 51 = .ok (.putfield 9, 3) := by decide +kernel
theorem dX3_takeTest_54 : decode cX3_takeTest 54 = .ok (.aload_n 0, 1) := by decide +kernel
theorem dX3_takeTest_55 : decode cX3_takeTest 55 = .ok (.bipush 45, 2) := by decide +kernel
theorem dX3_takeTest_57 : decode cX3_takeTest 57 = .ok (.invokevirtual 35, 3) := by decide +kernel
theorem dX3_takeTest_60 : decode cX3_takeTest 60 = .ok (.istore 4, 2) := by decide +kernel
theorem dX3_takeTest_62 : decode cX3_takeTest 62 = .ok (.aload_n 0, 1) := by decide +kernel
theorem dX3_takeTest_63 : decode cX3_takeTest 63 = .ok (.invokevirtual 39, 3) := by decide +kernel
theorem dX3_takeTest_66 : decode cX3_takeTest 66 = .ok (.istore 5, 2) := by decide +kernel
theorem dX3_takeTest_68 : decode cX3_takeTest 68 = .ok (.iload 5, 2) := by decide +kernel
theorem dX3_takeTest_70 : decode cX3_takeTest 70 = .ok (.iconst (-1), 1) := by decide +kernel
theorem dX3_takeTest_71 : decode cX3_takeTest 71 = .ok (.if_icmp .eq 11, 3) := by decide +kernel
theorem dX3_takeTest_74 : decode cX3_takeTest 74 = .ok (.aload_n 1, 1) := by decide +kernel
theorem dX3_takeTest_75 : decode cX3_takeTest 75 = .ok (.getfield 25, 3) := by decide +kernel
theorem dX3_takeTest_78 : decode cX3_takeTest 78 = .ok (.iconst 3, 1) := by decide +kernel
theorem dX3_takeTest_79 : decode cX3_takeTest 79 = .ok (.if_icmp .lt 5, 3) := by decide +kernel
theorem dX3_takeTest_82 : decode cX3_takeTest 82 = .ok (.iconst 0, 1) := by decide +kernel
theorem dX3_takeTest_83 : decode cX3_takeTest 83 = .ok (.ireturn, 1) := by decide +kernel
theorem dX3_takeTest_84 : decode cX3_takeTest 84 = .ok (.aload_n 1, 1) := by decide +kernel
theorem dX3_takeTest_85 : decode cX3_takeTest 85 = .ok (.getfield 78, 3) := by decide +kernel
theorem dX3_takeTest_88 : decode cX3_takeTest 88 = .ok (.aload_n 1, 1) := by decide +kernel
theorem dX3_takeTest_89 : decode cX3_takeTest 89 = .ok (.getfield 25, 3) := by decide +kernel
theorem dX3_takeTest_92 : decode cX3_takeTest 92 = .ok (.iload_n 2, 1) := by decide +kernel
theorem dX3_takeTest_93 : decode cX3_takeTest 93 = .ok (.iastore, 1) := by decide +kernel
theorem dX3_takeTest_94 : decode cX3_takeTest 94 = .ok (.aload_n 1, 1) := by decide +kernel
theorem dX3_takeTest_95 : decode cX3_takeTest 95 = .ok (.getfield 82, 3) := by decide +kernel
theorem dX3_takeTest_98 : decode cX3_takeTest 98 = .ok (.aload_n 1, 1) := by decide +kernel
theorem dX3_takeTest_99 : decode cX3_takeTest 99 = .ok (.getfield 25, 3) := by decide +kernel
theorem dX3_takeTest_102 : decode cX3_takeTest 102 = .ok (.iload_n 3, 1) := by decide +kernel
theorem dX3_takeTest_103 : decode cX3_takeTest 103 = .ok (.iastore, 1) := by decide +kernel
theorem dX3_takeTest_104 : decode cX3_takeTest 104 = .ok (.aload_n 1, 1) := by decide +kernel
theorem dX3_takeTest_105 : decode cX3_takeTest 105 = .ok (.getfield 85, 3) := by decide +kernel
theorem dX3_takeTest_108 : decode cX3_takeTest 108 = .ok (.aload_n 1, 1) := by decide +kernel
theorem dX3_takeTest_109 : decode cX3_takeTest 109 = .ok (.getfield 25, 3) := by decide +kernel
theorem dX3_takeTest_112 : decode cX3_takeTest 112 = .ok (.iload 4, 2) := by decide +kernel
theorem dX3_takeTest_114 : decode cX3_takeTest 114 = .ok (.ifCond .eq 9, 3) := by decide +kernel
theorem dX3_takeTest_117 : decode cX3_takeTest 117 = .ok (.iload 5, 2) := by decide +kernel
theorem dX3_takeTest_119 : decode cX3_takeTest 119 = .ok (.ineg, 1) := by decide +kernel
theorem dX3_takeTest_120 : decode cX3_takeTest 120 = .ok (.goto 5, 3) := by decide +kernel
theorem dX3_takeTest_123 : decode cX3_takeTest 123 = .ok (.iload 5, 2) := by decide +kernel
theorem dX3_takeTest_125 : decode cX3_takeTest 125 = .ok (.iastore, 1) := by decide +kernel
theorem dX3_takeTest_126 : decode cX3_takeTest 126 = .ok (.aload_n 1, 1) := by decide +kernel
theorem dX3_takeTest_127 : decode cX3_takeTest 127 = .ok (.dup, 1) := by decide +kernel
theorem dX3_takeTest_128 : decode cX3_takeTest 128 = .ok (.getfield 25, 3) := by decide +kernel
theorem dX3_takeTest_131 : decode cX3_takeTest 131 = .ok (.iconst 1, 1) := by decide +kernel
theorem dX3_takeTest_132 : decode cX3_takeTest 132 = .ok (.iadd, 1) := by decide +kernel
theorem dX3_takeTest_133 : decode cX3_takeTest 133 = .ok (.putfield 25, 3) := by decide +kernel
theorem dX3_takeTest_136 : decode cX3_takeTest 136 = .ok (.iconst 1, 1) := by decide +kernel
theorem dX3_takeTest_137 : decode cX3_takeTest 137 = .ok (.ireturn, 1) := by decide +kernel
theorem dX3_takeKey_0 : decode cX3_takeKey 0 = .ok (.aload_n 0, 1) := by decide +kernel
theorem dX3_takeKey_1 : decode cX3_takeKey 1 = .ok (.getfield 15, 3) := by decide +kernel
theorem dX3_takeKey_4 : decode cX3_takeKey 4 = .ok (.aload_n 0, 1) := by decide +kernel
theorem dX3_takeKey_5 : decode cX3_takeKey 5 = .ok (.getfield 9, 3) := by decide +kernel
theorem dX3_takeKey_8 : decode cX3_takeKey 8 = .ok (.invokevirtual 65, 3) := by decide +kernel
theorem dX3_takeKey_11 : decode cX3_takeKey 11 = .ok (.lookupswitch 78 #[(103, 48), (115, 63), (116, 33)], 33) := by decide +kernel
theorem dX3_takeKey_44 : decode cX3_takeKey 44 = .ok (.aload_n 0, 1) := by decide +kernel
theorem dX3_takeKey_45 : decode cX3_takeKey 45 = .ok (.ldc 88, 2) := by decide +kernel
theorem dX3_takeKey_47 : decode cX3_takeKey 47 = .ok (.invokevirtual 55, 3) := by decide +kernel
theorem dX3_takeKey_50 : decode cX3_takeKey 50 = .ok (.ifCond .eq 7, 3) := by decide +kernel
theorem dX3_takeKey_53 : decode cX3_takeKey 53 = .ok (.iconst 0, 1) := by decide +kernel
theorem dX3_takeKey_54 : decode cX3_takeKey 54 = .ok (.goto 4, 3) := by decide +kernel
theorem dX3_takeKey_57 : decode cX3_takeKey 57 = .ok (.iconst (-1), 1) := by decide +kernel
theorem dX3_takeKey_58 : decode cX3_takeKey 58 = .ok (.ireturn, 1) := by decide +kernel
theorem dX3_takeKey_59 : decode cX3_takeKey 59 = .ok (.aload_n 0, 1) := by decide +kernel
theorem dX3_takeKey_60 : decode cX3_takeKey 60 = .ok (.ldc 90, 2) := by decide +kernel
theorem dX3_takeKey_62 : decode cX3_takeKey 62 = .ok (.invokevirtual 55, 3) := by decide +kernel
theorem dX3_takeKey_65 : decode cX3_takeKey 65 = .ok (.ifCond .eq 7, 3) := by decide +kernel
theorem dX3_takeKey_68 : decode cX3_takeKey 68 = .ok (.iconst 1, 1) := by decide +kernel
theorem dX3_takeKey_69 : decode cX3_takeKey 69 = .ok (.goto 4, 3) := by decide +kernel
theorem dX3_takeKey_72 : decode cX3_takeKey 72 = .ok (.iconst (-1), 1) := by decide +kernel
theorem dX3_takeKey_73 : decode cX3_takeKey 73 = .ok (.ireturn, 1) := by decide +kernel
theorem dX3_takeKey_74 : decode cX3_takeKey 74 = .ok (.aload_n 0, 1) := by decide +kernel
theorem dX3_takeKey_75 : decode cX3_takeKey 75 = .ok (.ldc 92, 2) := by decide +kernel
theorem dX3_takeKey_77 : decode cX3_takeKey 77 = .ok (.invokevirtual 55, 3) := by decide +kernel
theorem dX3_takeKey_80 : decode cX3_takeKey 80 = .ok (.ifCond .eq 7, 3) := by decide +kernel
theorem dX3_takeKey_83 : decode cX3_takeKey 83 = .ok (.iconst 2, 1) := by decide +kernel
theorem dX3_takeKey_84 : decode cX3_takeKey 84 = .ok (.goto 4, 3) := by decide +kernel
theorem dX3_takeKey_87 : decode cX3_takeKey 87 = .ok (.iconst (-1), 1) := by decide +kernel
theorem dX3_takeKey_88 : decode cX3_takeKey 88 = .ok (.ireturn, 1) := by decide +kernel
theorem dX3_takeKey_89 : decode cX3_takeKey 89 = .ok (.iconst (-1), 1) := by decide +kernel
theorem dX3_takeKey_90 : decode cX3_takeKey 90 = .ok (.ireturn, 1) := by decide +kernel
theorem dX3_takeField_0 : decode cX3_takeField 0 = .ok (.aload_n 0, 1) := by decide +kernel
theorem dX3_takeField_1 : decode cX3_takeField 1 = .ok (.getfield 15, 3) := by decide +kernel
theorem dX3_takeField_4 : decode cX3_takeField 4 = .ok (.aload_n 0, 1) := by decide +kernel
theorem dX3_takeField_5 : decode cX3_takeField 5 = .ok (.getfield 9, 3) := by decide +kernel
theorem dX3_takeField_8 : decode cX3_takeField 8 = .ok (.invokevirtual 65, 3) := by decide +kernel
theorem dX3_takeField_11 : decode cX3_takeField 11 = .ok (.lookupswitch 124 #[(99, 79), (104, 94), (114, 64), (115, 109), (119, 49)], 49) := by decide +kernel
theorem dX3_takeField_60 : decode cX3_takeField 60 = .ok (.aload_n 0, 1) := by decide +kernel
theorem dX3_takeField_61 : decode cX3_takeField 61 = .ok (.ldc 94, 2) := by decide +kernel
theorem dX3_takeField_63 : decode cX3_takeField 63 = .ok (.invokevirtual 55, 3) := by decide +kernel
theorem dX3_takeField_66 : decode cX3_takeField 66 = .ok (.ifCond .eq 7, 3) := by decide +kernel
theorem dX3_takeField_69 : decode cX3_takeField 69 = .ok (.iconst 0, 1) := by decide +kernel
theorem dX3_takeField_70 : decode cX3_takeField 70 = .ok (.goto 4, 3) := by decide +kernel
theorem dX3_takeField_73 : decode cX3_takeField 73 = .ok (.iconst (-1), 1) := by decide +kernel
theorem dX3_takeField_74 : decode cX3_takeField 74 = .ok (.ireturn, 1) := by decide +kernel
theorem dX3_takeField_75 : decode cX3_takeField 75 = .ok (.aload_n 0, 1) := by decide +kernel
theorem dX3_takeField_76 : decode cX3_takeField 76 = .ok (.ldc 96, 2) := by decide +kernel
theorem dX3_takeField_78 : decode cX3_takeField 78 = .ok (.invokevirtual 55, 3) := by decide +kernel
theorem dX3_takeField_81 : decode cX3_takeField 81 = .ok (.ifCond .eq 7, 3) := by decide +kernel
theorem dX3_takeField_84 : decode cX3_takeField 84 = .ok (.iconst 1, 1) := by decide +kernel
theorem dX3_takeField_85 : decode cX3_takeField 85 = .ok (.goto 4, 3) := by decide +kernel
theorem dX3_takeField_88 : decode cX3_takeField 88 = .ok (.iconst (-1), 1) := by decide +kernel
theorem dX3_takeField_89 : decode cX3_takeField 89 = .ok (.ireturn, 1) := by decide +kernel
theorem dX3_takeField_90 : decode cX3_takeField 90 = .ok (.aload_n 0, 1) := by decide +kernel
theorem dX3_takeField_91 : decode cX3_takeField 91 = .ok (.ldc 98, 2) := by decide +kernel
theorem dX3_takeField_93 : decode cX3_takeField 93 = .ok (.invokevirtual 55, 3) := by decide +kernel
theorem dX3_takeField_96 : decode cX3_takeField 96 = .ok (.ifCond .eq 7, 3) := by decide +kernel
theorem dX3_takeField_99 : decode cX3_takeField 99 = .ok (.iconst 2, 1) := by decide +kernel
theorem dX3_takeField_100 : decode cX3_takeField 100 = .ok (.goto 4, 3) := by decide +kernel
theorem dX3_takeField_103 : decode cX3_takeField 103 = .ok (.iconst (-1), 1) := by decide +kernel
theorem dX3_takeField_104 : decode cX3_takeField 104 = .ok (.ireturn, 1) := by decide +kernel
theorem dX3_takeField_105 : decode cX3_takeField 105 = .ok (.aload_n 0, 1) := by decide +kernel
theorem dX3_takeField_106 : decode cX3_takeField 106 = .ok (.ldc 100, 2) := by decide +kernel
theorem dX3_takeField_108 : decode cX3_takeField 108 = .ok (.invokevirtual 55, 3) := by decide +kernel
theorem dX3_takeField_111 : decode cX3_takeField 111 = .ok (.ifCond .eq 7, 3) := by decide +kernel
theorem dX3_takeField_114 : decode cX3_takeField 114 = .ok (.iconst 3, 1) := by decide +kernel
theorem dX3_takeField_115 : decode cX3_takeField 115 = .ok (.goto 4, 3) := by decide +kernel
theorem dX3_takeField_118 : decode cX3_takeField 118 = .ok (.iconst (-1), 1) := by decide +kernel
theorem dX3_takeField_119 : decode cX3_takeField 119 = .ok (.ireturn, 1) := by decide +kernel
theorem dX3_takeField_120 : decode cX3_takeField 120 = .ok (.aload_n 0, 1) := by decide +kernel
theorem dX3_takeField_121 : decode cX3_takeField 121 = .ok (.ldc 102, 2) := by decide +kernel
theorem dX3_takeField_123 : decode cX3_takeField 123 = .ok (.invokevirtual 55, 3) := by decide +kernel
theorem dX3_takeField_126 : decode cX3_takeField 126 = .ok (.ifCond .eq 7, 3) := by decide +kernel
theorem dX3_takeField_129 : decode cX3_takeField 129 = .ok (.iconst 4, 1) := by decide +kernel
theorem dX3_takeField_130 : decode cX3_takeField 130 = .ok (.goto 4, 3) := by decide +kernel
theorem dX3_takeField_133 : decode cX3_takeField 133 = .ok (.iconst (-1), 1) := by decide +kernel
theorem dX3_takeField_134 : decode cX3_takeField 134 = .ok (.ireturn, 1) := by decide +kernel
theorem dX3_takeField_135 : decode cX3_takeField 135 = .ok (.iconst (-1), 1) := by decide +kernel
theorem dX3_takeField_136 : decode cX3_takeField 136 = .ok (.ireturn, 1) := by decide +kernel
theorem dX3_takeNumber_0 : decode cX3_takeNumber 0 = .ok (.iconst (-1), 1) := by decide +kernel
theorem dX3_takeNumber_1 : decode cX3_takeNumber 1 = .ok (.istore_n 1, 1) := by decide +kernel
theorem dX3_takeNumber_2 : decode cX3_takeNumber 2 = .ok (.iconst 0, 1) := by decide +kernel
theorem dX3_takeNumber_3 : decode cX3_takeNumber 3 = .ok (.istore_n 2, 1) := by decide +kernel
theorem dX3_takeNumber_4 : decode cX3_takeNumber 4 = .ok (.iload_n 2, 1) := by decide +kernel
theorem dX3_takeNumber_5 : decode cX3_takeNumber 5 = .ok (.iconst 4, 1) := by decide +kernel
theorem dX3_takeNumber_6 : decode cX3_takeNumber 6 = .ok (.if_icmp .ge 62, 3) := by decide +kernel
theorem dX3_takeNumber_9 : decode cX3_takeNumber 9 = .ok (.aload_n 0, 1) := by decide +kernel
theorem dX3_takeNumber_10 : decode cX3_takeNumber 10 = .ok (.getfield 15, 3) := by decide +kernel
theorem dX3_takeNumber_13 : decode cX3_takeNumber 13 = .ok (.aload_n 0, 1) := by decide +kernel
theorem dX3_takeNumber_14 : decode cX3_takeNumber 14 = .ok (.getfield 9, 3) := by decide +kernel
theorem dX3_takeNumber_17 : decode cX3_takeNumber 17 = .ok (.invokevirtual 65, 3) := by decide +kernel
theorem dX3_takeNumber_20 : decode cX3_takeNumber 20 = .ok (.bipush 48, 2) := by decide +kernel
theorem dX3_takeNumber_22 : decode cX3_takeNumber 22 = .ok (.isub, 1) := by decide +kernel
theorem dX3_takeNumber_23 : decode cX3_takeNumber 23 = .ok (.istore_n 3, 1) := by decide +kernel
theorem dX3_takeNumber_24 : decode cX3_takeNumber 24 = .ok (.iload_n 3, 1) := by decide +kernel
theorem dX3_takeNumber_25 : decode cX3_takeNumber 25 = .ok (.ifCond .lt 9, 3) := by decide +kernel
theorem dX3_takeNumber_28 : decode cX3_takeNumber 28 = .ok (.iload_n 3, 1) := by decide +kernel
theorem dX3_takeNumber_29 : decode cX3_takeNumber 29 = .ok (.bipush 9, 2) := by decide +kernel
theorem dX3_takeNumber_31 : decode cX3_takeNumber 31 = .ok (.if_icmp .le 5, 3) := by decide +kernel
theorem dX3_takeNumber_34 : decode cX3_takeNumber 34 = .ok (.iload_n 1, 1) := by decide +kernel
theorem dX3_takeNumber_35 : decode cX3_takeNumber 35 = .ok (.ireturn, 1) := by decide +kernel
theorem dX3_takeNumber_36 : decode cX3_takeNumber 36 = .ok (.iload_n 1, 1) := by decide +kernel
theorem dX3_takeNumber_37 : decode cX3_takeNumber 37 = .ok (.iconst (-1), 1) := by decide +kernel
theorem dX3_takeNumber_38 : decode cX3_takeNumber 38 = .ok (.if_icmp .ne 7, 3) := by decide +kernel
theorem dX3_takeNumber_41 : decode cX3_takeNumber 41 = .ok (.iload_n 3, 1) := by decide +kernel
theorem dX3_takeNumber_42 : decode cX3_takeNumber 42 = .ok (.goto 9, 3) := by decide +kernel
theorem dX3_takeNumber_45 : decode cX3_takeNumber 45 = .ok (.iload_n 1, 1) := by decide +kernel
theorem dX3_takeNumber_46 : decode cX3_takeNumber 46 = .ok (.bipush 10, 2) := by decide +kernel
theorem dX3_takeNumber_48 : decode cX3_takeNumber 48 = .ok (.imul, 1) := by decide +kernel
theorem dX3_takeNumber_49 : decode cX3_takeNumber 49 = .ok (.iload_n 3, 1) := by decide +kernel
theorem dX3_takeNumber_50 : decode cX3_takeNumber 50 = .ok (.iadd, 1) := by decide +kernel
theorem dX3_takeNumber_51 : decode cX3_takeNumber 51 = .ok (.istore_n 1, 1) := by decide +kernel
theorem dX3_takeNumber_52 : decode cX3_takeNumber 52 = .ok (.aload_n 0, 1) := by decide +kernel
theorem dX3_takeNumber_53 : decode cX3_takeNumber 53 = .ok (.dup, 1) := by decide +kernel
theorem dX3_takeNumber_54 : decode cX3_takeNumber 54 = .ok (.getfield 9, 3) := by decide +kernel
theorem dX3_takeNumber_57 : decode cX3_takeNumber 57 = .ok (.iconst 1, 1) := by decide +kernel
theorem dX3_takeNumber_58 : decode cX3_takeNumber 58 = .ok (.iadd, 1) := by decide +kernel
theorem dX3_takeNumber_59 : decode cX3_takeNumber 59 = .ok (.putfield 9, 3) := by decide +kernel
theorem dX3_takeNumber_62 : decode cX3_takeNumber 62 = .ok (.iinc 2 1, 3) := by decide +kernel
theorem dX3_takeNumber_65 : decode cX3_takeNumber 65 = .ok (.goto (-61), 3) := by decide +kernel
theorem dX3_takeNumber_68 : decode cX3_takeNumber 68 = .ok (.iload_n 1, 1) := by decide +kernel
theorem dX3_takeNumber_69 : decode cX3_takeNumber 69 = .ok (.ireturn, 1) := by decide +kernel
theorem dX3_takeWord_0 : decode cX3_takeWord 0 = .ok (.iconst 0, 1) := by decide +kernel
theorem dX3_takeWord_1 : decode cX3_takeWord 1 = .ok (.istore_n 2, 1) := by decide +kernel
theorem dX3_takeWord_2 : decode cX3_takeWord 2 = .ok (.iload_n 2, 1) := by decide +kernel
theorem dX3_takeWord_3 : decode cX3_takeWord 3 = .ok (.aload_n 1, 1) := by decide +kernel
theorem dX3_takeWord_4 : decode cX3_takeWord 4 = .ok (.invokevirtual 104, 3) := by decide +kernel
theorem dX3_takeWord_7 : decode cX3_takeWord 7 = .ok (.if_icmp .ge 40, 3) := by decide +kernel
theorem dX3_takeWord_10 : decode cX3_takeWord 10 = .ok (.aload_n 0, 1) := by decide +kernel
theorem dX3_takeWord_11 : decode cX3_takeWord 11 = .ok (.getfield 15, 3) := by decide +kernel
theorem dX3_takeWord_14 : decode cX3_takeWord 14 = .ok (.aload_n 0, 1) := by decide +kernel
theorem dX3_takeWord_15 : decode cX3_takeWord 15 = .ok (.getfield 9, 3) := by decide +kernel
theorem dX3_takeWord_18 : decode cX3_takeWord 18 = .ok (.invokevirtual 65, 3) := by decide +kernel
theorem dX3_takeWord_21 : decode cX3_takeWord 21 = .ok (.aload_n 1, 1) := by decide +kernel
theorem dX3_takeWord_22 : decode cX3_takeWord 22 = .ok (.iload_n 2, 1) := by decide +kernel
theorem dX3_takeWord_23 : decode cX3_takeWord 23 = .ok (.invokevirtual 109, 3) := by decide +kernel
theorem dX3_takeWord_26 : decode cX3_takeWord 26 = .ok (.if_icmp .eq 5, 3) := by decide +kernel
theorem dX3_takeWord_29 : decode cX3_takeWord 29 = .ok (.iconst 0, 1) := by decide +kernel
theorem dX3_takeWord_30 : decode cX3_takeWord 30 = .ok (.ireturn, 1) := by decide +kernel
theorem dX3_takeWord_31 : decode cX3_takeWord 31 = .ok (.aload_n 0, 1) := by decide +kernel
theorem dX3_takeWord_32 : decode cX3_takeWord 32 = .ok (.dup, 1) := by decide +kernel
theorem dX3_takeWord_33 : decode cX3_takeWord 33 = .ok (.getfield 9, 3) := by decide +kernel
theorem dX3_takeWord_36 : decode cX3_takeWord 36 = .ok (.iconst 1, 1) := by decide +kernel
theorem dX3_takeWord_37 : decode cX3_takeWord 37 = .ok (.iadd, 1) := by decide +kernel
theorem dX3_takeWord_38 : decode cX3_takeWord 38 = .ok (.putfield 9, 3) := by decide +kernel
theorem dX3_takeWord_41 : decode cX3_takeWord 41 = .ok (.iinc 2 1, 3) := by decide +kernel
theorem dX3_takeWord_44 : decode cX3_takeWord 44 = .ok (.goto (-42), 3) := by decide +kernel
theorem dX3_takeWord_47 : decode cX3_takeWord 47 = .ok (.iconst 1, 1) := by decide +kernel
theorem dX3_takeWord_48 : decode cX3_takeWord 48 = .ok (.ireturn, 1) := by decide +kernel
theorem dX3_takeSign_0 : decode cX3_takeSign 0 = .ok (.aload_n 0, 1) := by decide +kernel
theorem dX3_takeSign_1 : decode cX3_takeSign 1 = .ok (.getfield 15, 3) := by decide +kernel
theorem dX3_takeSign_4 : decode cX3_takeSign 4 = .ok (.aload_n 0, 1) := by decide +kernel
theorem dX3_takeSign_5 : decode cX3_takeSign 5 = .ok (.getfield 9, 3) := by decide +kernel
theorem dX3_takeSign_8 : decode cX3_takeSign 8 = .ok (.invokevirtual 65, 3) := by decide +kernel
theorem dX3_takeSign_11 : decode cX3_takeSign 11 = .ok (.iload_n 1, 1) := by decide +kernel
theorem dX3_takeSign_12 : decode cX3_takeSign 12 = .ok (.if_icmp .eq 5, 3) := by decide +kernel
theorem dX3_takeSign_15 : decode cX3_takeSign 15 = .ok (.iconst 0, 1) := by decide +kernel
theorem dX3_takeSign_16 : decode cX3_takeSign 16 = .ok (.ireturn, 1) := by decide +kernel
theorem dX3_takeSign_17 : decode cX3_takeSign 17 = .ok (.aload_n 0, 1) := by decide +kernel
theorem dX3_takeSign_18 : decode cX3_takeSign 18 = .ok (.dup, 1) := by decide +kernel
theorem dX3_takeSign_19 : decode cX3_takeSign 19 = .ok (.getfield 9, 3) := by decide +kernel
theorem dX3_takeSign_22 : decode cX3_takeSign 22 = .ok (.iconst 1, 1) := by decide +kernel
theorem dX3_takeSign_23 : decode cX3_takeSign 23 = .ok (.iadd, 1) := by decide +kernel
theorem dX3_takeSign_24 : decode cX3_takeSign 24 = .ok (.putfield 9, 3) := by decide +kernel
theorem dX3_takeSign_27 : decode cX3_takeSign 27 = .ok (.iconst 1, 1) := by decide +kernel
theorem dX3_takeSign_28 : decode cX3_takeSign 28 = .ok (.ireturn, 1) := by decide +kernel
theorem dX3_isAtEnd_0 : decode cX3_isAtEnd 0 = .ok (.aload_n 0, 1) := by decide +kernel
theorem dX3_isAtEnd_1 : decode cX3_isAtEnd 1 = .ok (.getfield 9, 3) := by decide +kernel
theorem dX3_isAtEnd_4 : decode cX3_isAtEnd 4 = .ok (.aload_n 0, 1) := by decide +kernel
theorem dX3_isAtEnd_5 : decode cX3_isAtEnd 5 = .ok (.getfield 15, 3) := by decide +kernel
theorem dX3_isAtEnd_8 : decode cX3_isAtEnd 8 = .ok (.getfield 113, 3) := by decide +kernel
theorem dX3_isAtEnd_11 : decode cX3_isAtEnd 11 = .ok (.if_icmp .lt 7, 3) := by decide +kernel
theorem dX3_isAtEnd_14 : decode cX3_isAtEnd 14 = .ok (.iconst 1, 1) := by decide +kernel
theorem dX3_isAtEnd_15 : decode cX3_isAtEnd 15 = .ok (.goto 4, 3) := by decide +kernel
theorem dX3_isAtEnd_18 : decode cX3_isAtEnd 18 = .ok (.iconst 0, 1) := by decide +kernel
theorem dX3_isAtEnd_19 : decode cX3_isAtEnd 19 = .ok (.ireturn, 1) := by decide +kernel
theorem dX4_init_0 : decode cX4_init 0 = .ok (.aload_n 0, 1) := by decide +kernel
theorem dX4_init_1 : decode cX4_init 1 = .ok (.invokespecial 3, 3) := by decide +kernel
theorem dX4_init_4 : decode cX4_init 4 = .ok (.aload_n 0, 1) := by decide +kernel
theorem dX4_init_5 : decode cX4_init 5 = .ok (.bipush 80, 2) := by decide +kernel
theorem dX4_init_7 : decode cX4_init 7 = .ok (.newarray .int, 2) := by decide +kernel
theorem dX4_init_9 : decode cX4_init 9 = .ok (.putfield 9, 3) := by decide +kernel
theorem dX4_init_12 : decode cX4_init 12 = .ok (.aload_n 0, 1) := by decide +kernel
theorem dX4_init_13 : decode cX4_init 13 = .ok (.iconst 0, 1) := by decide +kernel
theorem dX4_init_14 : decode cX4_init 14 = .ok (.putfield 15, 3) := by decide +kernel
theorem dX4_init_17 : decode cX4_init 17 = .ok (.return_, 1) := by decide +kernel
theorem dX4_put_0 : decode cX4_put 0 = .ok (.aload_n 0, 1) := by decide +kernel
theorem dX4_put_1 : decode cX4_put 1 = .ok (.getfield 15, 3) := by decide +kernel
theorem dX4_put_4 : decode cX4_put 4 = .ok (.bipush 80, 2) := by decide +kernel
theorem dX4_put_6 : decode cX4_put 6 = .ok (.if_icmp .ge 23, 3) := by decide +kernel
theorem dX4_put_9 : decode cX4_put 9 = .ok (.aload_n 0, 1) := by decide +kernel
theorem dX4_put_10 : decode cX4_put 10 = .ok (.getfield 9, 3) := by decide +kernel
theorem dX4_put_13 : decode cX4_put 13 = .ok (.aload_n 0, 1) := by decide +kernel
theorem dX4_put_14 : decode cX4_put 14 = .ok (.getfield 15, 3) := by decide +kernel
theorem dX4_put_17 : decode cX4_put 17 = .ok (.iload_n 1, 1) := by decide +kernel
theorem dX4_put_18 : decode cX4_put 18 = .ok (.iastore, 1) := by decide +kernel
theorem dX4_put_19 : decode cX4_put 19 = .ok (.aload_n 0, 1) := by decide +kernel
theorem dX4_put_20 : decode cX4_put 20 = .ok (.dup, 1) := by decide +kernel
theorem dX4_put_21 : decode cX4_put 21 = .ok (.getfield 15, 3) := by decide +kernel
theorem dX4_put_24 : decode cX4_put 24 = .ok (.iconst 1, 1) := by decide +kernel
theorem dX4_put_25 : decode cX4_put 25 = .ok (.iadd, 1) := by decide +kernel
theorem dX4_put_26 : decode cX4_put 26 = .ok (.putfield 15, 3) := by decide +kernel
theorem dX4_put_29 : decode cX4_put 29 = .ok (.return_, 1) := by decide +kernel
theorem dX4_at_0 : decode cX4_at 0 = .ok (.iload_n 1, 1) := by decide +kernel
theorem dX4_at_1 : decode cX4_at 1 = .ok (.ifCond .lt 20, 3) := by decide +kernel
theorem dX4_at_4 : decode cX4_at 4 = .ok (.iload_n 1, 1) := by decide +kernel
theorem dX4_at_5 : decode cX4_at 5 = .ok (.aload_n 0, 1) := by decide +kernel
theorem dX4_at_6 : decode cX4_at 6 = .ok (.getfield 15, 3) := by decide +kernel
theorem dX4_at_9 : decode cX4_at 9 = .ok (.if_icmp .ge 12, 3) := by decide +kernel
theorem dX4_at_12 : decode cX4_at 12 = .ok (.aload_n 0, 1) := by decide +kernel
theorem dX4_at_13 : decode cX4_at 13 = .ok (.getfield 9, 3) := by decide +kernel
theorem dX4_at_16 : decode cX4_at 16 = .ok (.iload_n 1, 1) := by decide +kernel
theorem dX4_at_17 : decode cX4_at 17 = .ok (.iaload, 1) := by decide +kernel
theorem dX4_at_18 : decode cX4_at 18 = .ok (.goto 4, 3) := by decide +kernel
theorem dX4_at_21 : decode cX4_at 21 = .ok (.iconst (-1), 1) := by decide +kernel
theorem dX4_at_22 : decode cX4_at 22 = .ok (.ireturn, 1) := by decide +kernel
theorem dX5_init_0 : decode cX5_init 0 = .ok (.aload_n 0, 1) := by decide +kernel
theorem dX5_init_1 : decode cX5_init 1 = .ok (.invokespecial 3, 3) := by decide +kernel
theorem dX5_init_4 : decode cX5_init 4 = .ok (.aload_n 0, 1) := by decide +kernel
theorem dX5_init_5 : decode cX5_init 5 = .ok (.bipush 48, 2) := by decide +kernel
theorem dX5_init_7 : decode cX5_init 7 = .ok (.newarray .int, 2) := by decide +kernel
theorem dX5_init_9 : decode cX5_init 9 = .ok (.putfield 9, 3) := by decide +kernel
theorem dX5_init_12 : decode cX5_init 12 = .ok (.iconst 0, 1) := by decide +kernel
theorem dX5_init_13 : decode cX5_init 13 = .ok (.istore_n 1, 1) := by decide +kernel
theorem dX5_init_14 : decode cX5_init 14 = .ok (.iload_n 1, 1) := by decide +kernel
theorem dX5_init_15 : decode cX5_init 15 = .ok (.bipush 48, 2) := by decide +kernel
theorem dX5_init_17 : decode cX5_init 17 = .ok (.if_icmp .ge 18, 3) := by decide +kernel
theorem dX5_init_20 : decode cX5_init 20 = .ok (.aload_n 0, 1) := by decide +kernel
theorem dX5_init_21 : decode cX5_init 21 = .ok (.getfield 9, 3) := by decide +kernel
theorem dX5_init_24 : decode cX5_init 24 = .ok (.iload_n 1, 1) := by decide +kernel
theorem dX5_init_25 : decode cX5_init 25 = .ok (.sipush (-9999), 3) := by decide +kernel
theorem dX5_init_28 : decode cX5_init 28 = .ok (.iastore, 1) := by decide +kernel
theorem dX5_init_29 : decode cX5_init 29 = .ok (.iinc 1 1, 3) := by decide +kernel
theorem dX5_init_32 : decode cX5_init 32 = .ok (.goto (-18), 3) := by decide +kernel
theorem dX5_init_35 : decode cX5_init 35 = .ok (.return_, 1) := by decide +kernel
theorem dX5_heatOf_0 : decode cX5_heatOf 0 = .ok (.iload_n 1, 1) := by decide +kernel
theorem dX5_heatOf_1 : decode cX5_heatOf 1 = .ok (.bipush 48, 2) := by decide +kernel
theorem dX5_heatOf_3 : decode cX5_heatOf 3 = .ok (.invokestatic 15, 3) := by decide +kernel
theorem dX5_heatOf_6 : decode cX5_heatOf 6 = .ok (.istore_n 2, 1) := by decide +kernel
theorem dX5_heatOf_7 : decode cX5_heatOf 7 = .ok (.aload_n 0, 1) := by decide +kernel
theorem dX5_heatOf_8 : decode cX5_heatOf 8 = .ok (.getfield 9, 3) := by decide +kernel
theorem dX5_heatOf_11 : decode cX5_heatOf 11 = .ok (.iload_n 2, 1) := by decide +kernel
theorem dX5_heatOf_12 : decode cX5_heatOf 12 = .ok (.iaload, 1) := by decide +kernel
theorem dX5_heatOf_13 : decode cX5_heatOf 13 = .ok (.sipush (-9999), 3) := by decide +kernel
theorem dX5_heatOf_16 : decode cX5_heatOf 16 = .ok (.if_icmp .eq 10, 3) := by decide +kernel
theorem dX5_heatOf_19 : decode cX5_heatOf 19 = .ok (.aload_n 0, 1) := by decide +kernel
theorem dX5_heatOf_20 : decode cX5_heatOf 20 = .ok (.getfield 9, 3) := by decide +kernel
theorem dX5_heatOf_23 : decode cX5_heatOf 23 = .ok (.iload_n 2, 1) := by decide +kernel
theorem dX5_heatOf_24 : decode cX5_heatOf 24 = .ok (.iaload, 1) := by decide +kernel
theorem dX5_heatOf_25 : decode cX5_heatOf 25 = .ok (.ireturn, 1) := by decide +kernel
theorem dX5_heatOf_26 : decode cX5_heatOf 26 = .ok (.aload_n 0, 1) := by decide +kernel
theorem dX5_heatOf_27 : decode cX5_heatOf 27 = .ok (.iload_n 2, 1) := by decide +kernel
theorem dX5_heatOf_28 : decode cX5_heatOf 28 = .ok (.bipush 47, 2) := by decide +kernel
theorem dX5_heatOf_30 : decode cX5_heatOf 30 = .ok (.invokevirtual 21, 3) := by decide +kernel
theorem dX5_heatOf_33 : decode cX5_heatOf 33 = .ok (.istore_n 3, 1) := by decide +kernel
theorem dX5_heatOf_34 : decode cX5_heatOf 34 = .ok (.aload_n 0, 1) := by decide +kernel
theorem dX5_heatOf_35 : decode cX5_heatOf 35 = .ok (.iload_n 2, 1) := by decide +kernel
theorem dX5_heatOf_36 : decode cX5_heatOf 36 = .ok (.iconst 1, 1) := by decide +kernel
theorem dX5_heatOf_37 : decode cX5_heatOf 37 = .ok (.invokevirtual 21, 3) := by decide +kernel
theorem dX5_heatOf_40 : decode cX5_heatOf 40 = .ok (.istore 4, 2) := by decide +kernel
theorem dX5_heatOf_42 : decode cX5_heatOf 42 = .ok (.iload_n 3, 1) := by decide +kernel
theorem dX5_heatOf_43 : decode cX5_heatOf 43 = .ok (.iload 4, 2) := by decide +kernel
theorem dX5_heatOf_45 : decode cX5_heatOf 45 = .ok (.invokestatic 24, 3) := by decide +kernel
theorem dX5_heatOf_48 : decode cX5_heatOf 48 = .ok (.istore 5, 2) := by decide +kernel
theorem dX5_heatOf_50 : decode cX5_heatOf 50 = .ok (.iload 5, 2) := by decide +kernel
theorem dX5_heatOf_52 : decode cX5_heatOf 52 = .ok (.sipush (-9999), 3) := by decide +kernel
theorem dX5_heatOf_55 : decode cX5_heatOf 55 = .ok (.if_icmp .ne 8, 3) := by decide +kernel
theorem dX5_heatOf_58 : decode cX5_heatOf 58 = .ok (.bipush (-100), 2) := by decide +kernel
theorem dX5_heatOf_60 : decode cX5_heatOf 60 = .ok (.goto 5, 3) := by decide +kernel
theorem dX5_heatOf_63 : decode cX5_heatOf 63 = .ok (.iload 5, 2) := by decide +kernel
theorem dX5_heatOf_65 : decode cX5_heatOf 65 = .ok (.ireturn, 1) := by decide +kernel
theorem dX5_nearest_0 : decode cX5_nearest 0 = .ok (.iload_n 1, 1) := by decide +kernel
theorem dX5_nearest_1 : decode cX5_nearest 1 = .ok (.istore_n 3, 1) := by decide +kernel
theorem dX5_nearest_2 : decode cX5_nearest 2 = .ok (.iconst 1, 1) := by decide +kernel
theorem dX5_nearest_3 : decode cX5_nearest 3 = .ok (.istore 4, 2) := by decide +kernel
theorem dX5_nearest_5 : decode cX5_nearest 5 = .ok (.iload 4, 2) := by decide +kernel
theorem dX5_nearest_7 : decode cX5_nearest 7 = .ok (.bipush 48, 2) := by decide +kernel
theorem dX5_nearest_9 : decode cX5_nearest 9 = .ok (.if_icmp .ge 35, 3) := by decide +kernel
theorem dX5_nearest_12 : decode cX5_nearest 12 = .ok (.iload_n 3, 1) := by decide +kernel
theorem dX5_nearest_13 : decode cX5_nearest 13 = .ok (.iload_n 2, 1) := by decide +kernel
theorem dX5_nearest_14 : decode cX5_nearest 14 = .ok (.iadd, 1) := by decide +kernel
theorem dX5_nearest_15 : decode cX5_nearest 15 = .ok (.bipush 48, 2) := by decide +kernel
theorem dX5_nearest_17 : decode cX5_nearest 17 = .ok (.irem, 1) := by decide +kernel
theorem dX5_nearest_18 : decode cX5_nearest 18 = .ok (.istore_n 3, 1) := by decide +kernel
theorem dX5_nearest_19 : decode cX5_nearest 19 = .ok (.aload_n 0, 1) := by decide +kernel
theorem dX5_nearest_20 : decode cX5_nearest 20 = .ok (.getfield 9, 3) := by decide +kernel
theorem dX5_nearest_23 : decode cX5_nearest 23 = .ok (.iload_n 3, 1) := by decide +kernel
theorem dX5_nearest_24 : decode cX5_nearest 24 = .ok (.iaload, 1) := by decide +kernel
theorem dX5_nearest_25 : decode cX5_nearest 25 = .ok (.sipush (-9999), 3) := by decide +kernel
theorem dX5_nearest_28 : decode cX5_nearest 28 = .ok (.if_icmp .eq 10, 3) := by decide +kernel
theorem dX5_nearest_31 : decode cX5_nearest 31 = .ok (.aload_n 0, 1) := by decide +kernel
theorem dX5_nearest_32 : decode cX5_nearest 32 = .ok (.getfield 9, 3) := by decide +kernel
theorem dX5_nearest_35 : decode cX5_nearest 35 = .ok (.iload_n 3, 1) := by decide +kernel
theorem dX5_nearest_36 : decode cX5_nearest 36 = .ok (.iaload, 1) := by decide +kernel
theorem dX5_nearest_37 : decode cX5_nearest 37 = .ok (.ireturn, 1) := by decide +kernel
theorem dX5_nearest_38 : decode cX5_nearest 38 = .ok (.iinc 4 1, 3) := by decide +kernel
theorem dX5_nearest_41 : decode cX5_nearest 41 = .ok (.goto (-36), 3) := by decide +kernel
theorem dX5_nearest_44 : decode cX5_nearest 44 = .ok (.sipush (-9999), 3) := by decide +kernel
theorem dX5_nearest_47 : decode cX5_nearest 47 = .ok (.ireturn, 1) := by decide +kernel
theorem dX6_init_0 : decode cX6_init 0 = .ok (.aload_n 0, 1) := by decide +kernel
theorem dX6_init_1 : decode cX6_init 1 = .ok (.invokespecial 1, 3) := by decide +kernel
theorem dX6_init_4 : decode cX6_init 4 = .ok (.aload_n 0, 1) := by decide +kernel
theorem dX6_init_5 : decode cX6_init 5 = .ok (.bipush 10, 2) := by decide +kernel
theorem dX6_init_7 : decode cX6_init 7 = .ok (.anewarray 9, 3) := by decide +kernel
theorem dX6_init_10 : decode cX6_init 10 = .ok (.putfield 11, 3) := by decide +kernel
theorem dX6_init_13 : decode cX6_init 13 = .ok (.aload_n 0, 1) := by decide +kernel
theorem dX6_init_14 : decode cX6_init 14 = .ok (.bipush 24, 2) := by decide +kernel
theorem dX6_init_16 : decode cX6_init 16 = .ok (.anewarray 15, 3) := by decide +kernel
theorem dX6_init_19 : decode cX6_init 19 = .ok (.putfield 17, 3) := by decide +kernel
theorem dX6_init_22 : decode cX6_init 22 = .ok (.aload_n 0, 1) := by decide +kernel
theorem dX6_init_23 : decode cX6_init 23 = .ok (.bipush 24, 2) := by decide +kernel
theorem dX6_init_25 : decode cX6_init 25 = .ok (.anewarray 15, 3) := by decide +kernel
theorem dX6_init_28 : decode cX6_init 28 = .ok (.putfield 21, 3) := by decide +kernel
theorem dX6_init_31 : decode cX6_init 31 = .ok (.aload_n 0, 1) := by decide +kernel
theorem dX6_init_32 : decode cX6_init 32 = .ok (.bipush 10, 2) := by decide +kernel
theorem dX6_init_34 : decode cX6_init 34 = .ok (.anewarray 24, 3) := by decide +kernel
theorem dX6_init_37 : decode cX6_init 37 = .ok (.putfield 26, 3) := by decide +kernel
theorem dX6_init_40 : decode cX6_init 40 = .ok (.aload_n 0, 1) := by decide +kernel
theorem dX6_init_41 : decode cX6_init 41 = .ok (.new 30, 3) := by decide +kernel
theorem dX6_init_44 : decode cX6_init 44 = .ok (.dup, 1) := by decide +kernel
theorem dX6_init_45 : decode cX6_init 45 = .ok (.invokespecial 32, 3) := by decide +kernel
theorem dX6_init_48 : decode cX6_init 48 = .ok (.putfield 33, 3) := by decide +kernel
theorem dX6_init_51 : decode cX6_init 51 = .ok (.aload_n 0, 1) := by decide +kernel
theorem dX6_init_52 : decode cX6_init 52 = .ok (.new 37, 3) := by decide +kernel
theorem dX6_init_55 : decode cX6_init 55 = .ok (.dup, 1) := by decide +kernel
theorem dX6_init_56 : decode cX6_init 56 = .ok (.invokespecial 39, 3) := by decide +kernel
theorem dX6_init_59 : decode cX6_init 59 = .ok (.putfield 40, 3) := by decide +kernel
theorem dX6_init_62 : decode cX6_init 62 = .ok (.aload_n 0, 1) := by decide +kernel
theorem dX6_init_63 : decode cX6_init 63 = .ok (.new 44, 3) := by decide +kernel
theorem dX6_init_66 : decode cX6_init 66 = .ok (.dup, 1) := by decide +kernel
theorem dX6_init_67 : decode cX6_init 67 = .ok (.aload_n 0, 1) := by decide +kernel
theorem dX6_init_68 : decode cX6_init 68 = .ok (.getfield 40, 3) := by decide +kernel
theorem dX6_init_71 : decode cX6_init 71 = .ok (.invokespecial 46, 3) := by decide +kernel
theorem dX6_init_74 : decode cX6_init 74 = .ok (.putfield 49, 3) := by decide +kernel
theorem dX6_init_77 : decode cX6_init 77 = .ok (.aload_n 0, 1) := by decide +kernel
theorem dX6_init_78 : decode cX6_init 78 = .ok (.bipush 48, 2) := by decide +kernel
theorem dX6_init_80 : decode cX6_init 80 = .ok (.newarray .int, 2) := by decide +kernel
theorem dX6_init_82 : decode cX6_init 82 = .ok (.putfield 53, 3) := by decide +kernel
theorem dX6_init_85 : decode cX6_init 85 = .ok (.aload_n 0, 1) := by decide +kernel
theorem dX6_init_86 : decode cX6_init 86 = .ok (.bipush 7, 2) := by decide +kernel
theorem dX6_init_88 : decode cX6_init 88 = .ok (.newarray .int, 2) := by decide +kernel
theorem dX6_init_90 : decode cX6_init 90 = .ok (.putfield 57, 3) := by decide +kernel
theorem dX6_init_93 : decode cX6_init 93 = .ok (.aload_n 0, 1) := by decide +kernel
theorem dX6_init_94 : decode cX6_init 94 = .ok (.iconst 5, 1) := by decide +kernel
theorem dX6_init_95 : decode cX6_init 95 = .ok (.newarray .int, 2) := by decide +kernel
theorem dX6_init_97 : decode cX6_init 97 = .ok (.putfield 60, 3) := by decide +kernel
theorem dX6_init_100 : decode cX6_init 100 = .ok (.aload_n 0, 1) := by decide +kernel
theorem dX6_init_101 : decode cX6_init 101 = .ok (.new 9, 3) := by decide +kernel
theorem dX6_init_104 : decode cX6_init 104 = .ok (.dup, 1) := by decide +kernel
theorem dX6_init_105 : decode cX6_init 105 = .ok (.invokespecial 63, 3) := by decide +kernel
theorem dX6_init_108 : decode cX6_init 108 = .ok (.putfield 64, 3) := by decide +kernel
theorem dX6_init_111 : decode cX6_init 111 = .ok (.aload_n 0, 1) := by decide +kernel
theorem dX6_init_112 : decode cX6_init 112 = .ok (.iconst 0, 1) := by decide +kernel
theorem dX6_init_113 : decode cX6_init 113 = .ok (.putfield 68, 3) := by decide +kernel
theorem dX6_init_116 : decode cX6_init 116 = .ok (.aload_n 0, 1) := by decide +kernel
theorem dX6_init_117 : decode cX6_init 117 = .ok (.iconst 0, 1) := by decide +kernel
theorem dX6_init_118 : decode cX6_init 118 = .ok (.putfield 72, 3) := by decide +kernel
theorem dX6_init_121 : decode cX6_init 121 = .ok (.aload_n 0, 1) := by decide +kernel
theorem dX6_init_122 : decode cX6_init 122 = .ok (.iconst 0, 1) := by decide +kernel
theorem dX6_init_123 : decode cX6_init 123 = .ok (.putfield 76, 3) := by decide +kernel
theorem dX6_init_126 : decode cX6_init 126 = .ok (.aload_n 0, 1) := by decide +kernel
theorem dX6_init_127 : decode cX6_init 127 = .ok (.iconst 0, 1) := by decide +kernel
theorem dX6_init_128 : decode cX6_init 128 = .ok (.putfield 79, 3) := by decide +kernel
theorem dX6_init_131 : decode cX6_init 131 = .ok (.aload_n 0, 1) := by decide +kernel
theorem dX6_init_132 : decode cX6_init 132 = .ok (.iconst 0, 1) := by decide +kernel
theorem dX6_init_133 : decode cX6_init 133 = .ok (.putfield 82, 3) := by decide +kernel
theorem dX6_init_136 : decode cX6_init 136 = .ok (.iconst 0, 1) := by decide +kernel
theorem dX6_init_137 : decode cX6_init 137 = .ok (.istore_n 1, 1) := by decide +kernel
theorem dX6_init_138 : decode cX6_init 138 = .ok (.iload_n 1, 1) := by decide +kernel
theorem dX6_init_139 : decode cX6_init 139 = .ok (.bipush 10, 2) := by decide +kernel
theorem dX6_init_141 : decode cX6_init 141 = .ok (.if_icmp .ge 22, 3) := by decide +kernel
theorem dX6_init_144 : decode cX6_init 144 = .ok (.aload_n 0, 1) := by decide +kernel
theorem dX6_init_145 : decode cX6_init 145 = .ok (.getfield 11, 3) := by decide +kernel
theorem dX6_init_148 : decode cX6_init 148 = .ok (.iload_n 1, 1) := by decide +kernel
theorem dX6_init_149 : decode cX6_init 149 = .ok (.new 9, 3) := by decide +kernel
theorem dX6_init_152 : decode cX6_init 152 = .ok (.dup, 1) := by decide +kernel
theorem dX6_init_153 : decode cX6_init 153 = .ok (.invokespecial 63, 3) := by decide +kernel
theorem dX6_init_156 : decode cX6_init 156 = .ok (.aastore, 1) := by decide +kernel
theorem dX6_init_157 : decode cX6_init 157 = .ok (.iinc 1 1, 3) := by decide +kernel
theorem dX6_init_160 : decode cX6_init 160 = .ok (.goto (-22), 3) := by decide +kernel
theorem dX6_init_163 : decode cX6_init 163 = .ok (.iconst 0, 1) := by decide +kernel
theorem dX6_init_164 : decode cX6_init 164 = .ok (.istore_n 1, 1) := by decide +kernel
theorem dX6_init_165 : decode cX6_init 165 = .ok (.iload_n 1, 1) := by decide +kernel
theorem dX6_init_166 : decode cX6_init 166 = .ok (.bipush 24, 2) := by decide +kernel
theorem dX6_init_168 : decode cX6_init 168 = .ok (.if_icmp .ge 34, 3) := by decide +kernel
theorem dX6_init_171 : decode cX6_init 171 = .ok (.aload_n 0, 1) := by decide +kernel
theorem dX6_init_172 : decode cX6_init 172 = .ok (.getfield 17, 3) := by decide +kernel
theorem dX6_init_175 : decode cX6_init 175 = .ok (.iload_n 1, 1) := by decide +kernel
theorem dX6_init_176 : decode cX6_init 176 = .ok (.new 15, 3) := by decide +kernel
theorem dX6_init_179 : decode cX6_init 179 = .ok (.dup, 1) := by decide +kernel
theorem dX6_init_180 : decode cX6_init 180 = .ok (.invokespecial 85, 3) := by decide +kernel
theorem dX6_init_183 : decode cX6_init 183 = .ok (.aastore, 1) := by decide +kernel
theorem dX6_init_184 : decode cX6_init 184 = .ok (.aload_n 0, 1) := by decide +kernel
theorem dX6_init_185 : decode cX6_init 185 = .ok (.getfield 21, 3) := by decide +kernel
theorem dX6_init_188 : decode cX6_init 188 = .ok (.iload_n 1, 1) := by decide +kernel
theorem dX6_init_189 : decode cX6_init 189 = .ok (.aload_n 0, 1) := by decide +kernel
theorem dX6_init_190 : decode cX6_init 190 = .ok (.getfield 17, 3) := by decide +kernel
theorem dX6_init_193 : decode cX6_init 193 = .ok (.iload_n 1, 1) := by decide +kernel
theorem dX6_init_194 : decode cX6_init 194 = .ok (.aaload, 1) := by decide +kernel
theorem dX6_init_195 : decode cX6_init 195 = .ok (.aastore, 1) := by decide +kernel
theorem dX6_init_196 : decode cX6_init 196 = .ok (.iinc 1 1, 3) := by decide +kernel
theorem dX6_init_199 : decode cX6_init 199 = .ok (.goto (-34), 3) := by decide +kernel
theorem dX6_init_202 : decode cX6_init 202 = .ok (.iconst 0, 1) := by decide +kernel
theorem dX6_init_203 : decode cX6_init 203 = .ok (.istore_n 1, 1) := by decide +kernel
theorem dX6_init_204 : decode cX6_init 204 = .ok (.iload_n 1, 1) := by decide +kernel
theorem dX6_init_205 : decode cX6_init 205 = .ok (.bipush 10, 2) := by decide +kernel
theorem dX6_init_207 : decode cX6_init 207 = .ok (.if_icmp .ge 22, 3) := by decide +kernel
theorem dX6_init_210 : decode cX6_init 210 = .ok (.aload_n 0, 1) := by decide +kernel
theorem dX6_init_211 : decode cX6_init 211 = .ok (.getfield 26, 3) := by decide +kernel
theorem dX6_init_214 : decode cX6_init 214 = .ok (.iload_n 1, 1) := by decide +kernel
theorem dX6_init_215 : decode cX6_init 215 = .ok (.new 24, 3) := by decide +kernel
theorem dX6_init_218 : decode cX6_init 218 = .ok (.dup, 1) := by decide +kernel
theorem dX6_init_219 : decode cX6_init 219 = .ok (.invokespecial 86, 3) := by decide +kernel
theorem dX6_init_222 : decode cX6_init 222 = .ok (.aastore, 1) := by decide +kernel
theorem dX6_init_223 : decode cX6_init 223 = .ok (.iinc 1 1, 3) := by decide +kernel
theorem dX6_init_226 : decode cX6_init 226 = .ok (.goto (-22), 3) := by decide +kernel
theorem dX6_init_229 : decode cX6_init 229 = .ok (.aload_n 0, 1) := by decide +kernel
theorem dX6_init_230 : decode cX6_init 230 = .ok (.getfield 11, 3) := by decide +kernel
theorem dX6_init_233 : decode cX6_init 233 = .ok (.iconst 0, 1) := by decide +kernel
theorem dX6_init_234 : decode cX6_init 234 = .ok (.aaload, 1) := by decide +kernel
theorem dX6_init_235 : decode cX6_init 235 = .ok (.bipush 20, 2) := by decide +kernel
theorem dX6_init_237 : decode cX6_init 237 = .ok (.iconst 1, 1) := by decide +kernel
theorem dX6_init_238 : decode cX6_init 238 = .ok (.iconst 0, 1) := by decide +kernel
theorem dX6_init_239 : decode cX6_init 239 = .ok (.invokevirtual 87, 3) := by decide +kernel
theorem dX6_init_242 : decode cX6_init 242 = .ok (.aload_n 0, 1) := by decide +kernel
theorem dX6_init_243 : decode cX6_init 243 = .ok (.getfield 11, 3) := by decide +kernel
theorem dX6_init_246 : decode cX6_init 246 = .ok (.iconst 1, 1) := by decide +kernel
theorem dX6_init_247 : decode cX6_init 247 = .ok (.aaload, 1) := by decide +kernel
theorem dX6_init_248 : decode cX6_init 248 = .ok (.bipush 20, 2) := by decide +kernel
theorem dX6_init_250 : decode cX6_init 250 = .ok (.iconst 1, 1) := by decide +kernel
theorem dX6_init_251 : decode cX6_init 251 = .ok (.iconst 0, 1) := by decide +kernel
theorem dX6_init_252 : decode cX6_init 252 = .ok (.invokevirtual 87, 3) := by decide +kernel
theorem dX6_init_255 : decode cX6_init 255 = .ok (.aload_n 0, 1) := by decide +kernel
theorem dX6_init_256 : decode cX6_init 256 = .ok (.iconst 2, 1) := by decide +kernel
theorem dX6_init_257 : decode cX6_init 257 = .ok (.putfield 72, 3) := by decide +kernel
theorem dX6_init_260 : decode cX6_init 260 = .ok (.return_, 1) := by decide +kernel
theorem dX6_cell_0 : decode cX6_cell 0 = .ok (.iload_n 1, 1) := by decide +kernel
theorem dX6_cell_1 : decode cX6_cell 1 = .ok (.iconst 1, 1) := by decide +kernel
theorem dX6_cell_2 : decode cX6_cell 2 = .ok (.bipush 60, 2) := by decide +kernel
theorem dX6_cell_4 : decode cX6_cell 4 = .ok (.invokestatic 91, 3) := by decide +kernel
theorem dX6_cell_7 : decode cX6_cell 7 = .ok (.ifCond .eq 19, 3) := by decide +kernel
theorem dX6_cell_10 : decode cX6_cell 10 = .ok (.iload_n 2, 1) := by decide +kernel
theorem dX6_cell_11 : decode cX6_cell 11 = .ok (.iconst 1, 1) := by decide +kernel
theorem dX6_cell_12 : decode cX6_cell 12 = .ok (.iconst 4, 1) := by decide +kernel
theorem dX6_cell_13 : decode cX6_cell 13 = .ok (.invokestatic 91, 3) := by decide +kernel
theorem dX6_cell_16 : decode cX6_cell 16 = .ok (.ifCond .eq 10, 3) := by decide +kernel
theorem dX6_cell_19 : decode cX6_cell 19 = .ok (.aload_n 0, 1) := by decide +kernel
theorem dX6_cell_20 : decode cX6_cell 20 = .ok (.getfield 76, 3) := by decide +kernel
theorem dX6_cell_23 : decode cX6_cell 23 = .ok (.ifCond .le 10, 3) := by decide +kernel
theorem dX6_cell_26 : decode cX6_cell 26 = .ok (.aload_n 0, 1) := by decide +kernel
theorem dX6_cell_27 : decode cX6_cell 27 = .ok (.bipush (-7), 2) := by decide +kernel
theorem dX6_cell_29 : decode cX6_cell 29 = .ok (.invokevirtual 95, 3) := by decide +kernel
theorem dX6_cell_32 : decode cX6_cell 32 = .ok (.ireturn, 1) := by decide +kernel
theorem dX6_cell_33 : decode cX6_cell 33 = .ok (.aload_n 0, 1) := by decide +kernel
theorem dX6_cell_34 : decode cX6_cell 34 = .ok (.getfield 72, 3) := by decide +kernel
theorem dX6_cell_37 : decode cX6_cell 37 = .ok (.bipush 10, 2) := by decide +kernel
theorem dX6_cell_39 : decode cX6_cell 39 = .ok (.if_icmp .lt 10, 3) := by decide +kernel
theorem dX6_cell_42 : decode cX6_cell 42 = .ok (.aload_n 0, 1) := by decide +kernel
theorem dX6_cell_43 : decode cX6_cell 43 = .ok (.bipush (-8), 2) := by decide +kernel
theorem dX6_cell_45 : decode cX6_cell 45 = .ok (.invokevirtual 95, 3) := by decide +kernel
theorem dX6_cell_48 : decode cX6_cell 48 = .ok (.ireturn, 1) := by decide +kernel
theorem dX6_cell_49 : decode cX6_cell 49 = .ok (.aload_n 0, 1) := by decide +kernel
theorem dX6_cell_50 : decode cX6_cell 50 = .ok (.getfield 11, 3) := by decide +kernel
theorem dX6_cell_53 : decode cX6_cell 53 = .ok (.aload_n 0, 1) := by decide +kernel
theorem dX6_cell_54 : decode cX6_cell 54 = .ok (.getfield 72, 3) := by decide +kernel
theorem dX6_cell_57 : decode cX6_cell 57 = .ok (.aaload, 1) := by decide +kernel
theorem dX6_cell_58 : decode cX6_cell 58 = .ok (.iload_n 1, 1) := by decide +kernel
theorem dX6_cell_59 : decode cX6_cell 59 = .ok (.iload_n 2, 1) := by decide +kernel
theorem dX6_cell_60 : decode cX6_cell 60 = .ok (.iload_n 3, 1) := by decide +kernel
theorem dX6_cell_61 : decode cX6_cell 61 = .ok (.ifCond .eq 7, 3) := by decide +kernel
theorem dX6_cell_64 : decode cX6_cell 64 = .ok (.iconst 4, 1) := by decide +kernel
theorem dX6_cell_65 : decode cX6_cell 65 = .ok (.goto 4, 3) := by decide +kernel
theorem dX6_cell_68 : decode cX6_cell 68 = .ok (.iconst 0, 1) := by decide +kernel
theorem dX6_cell_69 : decode cX6_cell 69 = .ok (.invokevirtual 87, 3) := by decide +kernel
theorem dX6_cell_72 : decode cX6_cell 72 = .ok (.aload_n 0, 1) := by decide +kernel
theorem dX6_cell_73 : decode cX6_cell 73 = .ok (.dup, 1) := by decide +kernel
theorem dX6_cell_74 : decode cX6_cell 74 = .ok (.getfield 72, 3) := by decide +kernel
theorem dX6_cell_77 : decode cX6_cell 77 = .ok (.iconst 1, 1) := by decide +kernel
theorem dX6_cell_78 : decode cX6_cell 78 = .ok (.iadd, 1) := by decide +kernel
theorem dX6_cell_79 : decode cX6_cell 79 = .ok (.putfield 72, 3) := by decide +kernel
theorem dX6_cell_82 : decode cX6_cell 82 = .ok (.aload_n 0, 1) := by decide +kernel
theorem dX6_cell_83 : decode cX6_cell 83 = .ok (.getfield 72, 3) := by decide +kernel
theorem dX6_cell_86 : decode cX6_cell 86 = .ok (.iconst 1, 1) := by decide +kernel
theorem dX6_cell_87 : decode cX6_cell 87 = .ok (.isub, 1) := by decide +kernel
theorem dX6_cell_88 : decode cX6_cell 88 = .ok (.ireturn, 1) := by decide +kernel
theorem dX6_look_0 : decode cX6_look 0 = .ok (.aload_n 0, 1) := by decide +kernel
theorem dX6_look_1 : decode cX6_look 1 = .ok (.iload_n 1, 1) := by decide +kernel
theorem dX6_look_2 : decode cX6_look 2 = .ok (.invokevirtual 99, 3) := by decide +kernel
theorem dX6_look_5 : decode cX6_look 5 = .ok (.ifCond .ne 10, 3) := by decide +kernel
theorem dX6_look_8 : decode cX6_look 8 = .ok (.aload_n 0, 1) := by decide +kernel
theorem dX6_look_9 : decode cX6_look 9 = .ok (.bipush (-3), 2) := by decide +kernel
theorem dX6_look_11 : decode cX6_look 11 = .ok (.invokevirtual 95, 3) := by decide +kernel
theorem dX6_look_14 : decode cX6_look 14 = .ok (.ireturn, 1) := by decide +kernel
theorem dX6_look_15 : decode cX6_look 15 = .ok (.aload_n 0, 1) := by decide +kernel
theorem dX6_look_16 : decode cX6_look 16 = .ok (.getfield 11, 3) := by decide +kernel
theorem dX6_look_19 : decode cX6_look 19 = .ok (.iload_n 1, 1) := by decide +kernel
theorem dX6_look_20 : decode cX6_look 20 = .ok (.aaload, 1) := by decide +kernel
theorem dX6_look_21 : decode cX6_look 21 = .ok (.astore_n 3, 1) := by decide +kernel
theorem dX6_look_22 : decode cX6_look 22 = .ok (.iload_n 2, 1) := by decide +kernel
theorem dX6_look_23 : decode cX6_look 23 = .ok (.tableswitch 118 0 9 #[53, 58, 63, 68, 73, 78, 83, 100, 106, 112], 53) := by decide +kernel
theorem dX6_look_76 : decode cX6_look 76 = .ok (.aload_n 3, 1) := by decide +kernel
theorem dX6_look_77 : decode cX6_look 77 = .ok (.getfield 103, 3) := by decide +kernel
theorem dX6_look_80 : decode cX6_look 80 = .ok (.ireturn, 1) := by decide +kernel
theorem dX6_look_81 : decode cX6_look 81 = .ok (.aload_n 3, 1) := by decide +kernel
theorem dX6_look_82 : decode cX6_look 82 = .ok (.getfield 106, 3) := by decide +kernel
theorem dX6_look_85 : decode cX6_look 85 = .ok (.ireturn, 1) := by decide +kernel
theorem dX6_look_86 : decode cX6_look 86 = .ok (.aload_n 3, 1) := by decide +kernel
theorem dX6_look_87 : decode cX6_look 87 = .ok (.getfield 109, 3) := by decide +kernel
theorem dX6_look_90 : decode cX6_look 90 = .ok (.ireturn, 1) := by decide +kernel
theorem dX6_look_91 : decode cX6_look 91 = .ok (.aload_n 3, 1) := by decide +kernel
theorem dX6_look_92 : decode cX6_look 92 = .ok (.getfield 112, 3) := by decide +kernel
theorem dX6_look_95 : decode cX6_look 95 = .ok (.ireturn, 1) := by decide +kernel
theorem dX6_look_96 : decode cX6_look 96 = .ok (.aload_n 3, 1) := by decide +kernel
theorem dX6_look_97 : decode cX6_look 97 = .ok (.getfield 115, 3) := by decide +kernel
theorem dX6_look_100 : decode cX6_look 100 = .ok (.ireturn, 1) := by decide +kernel
theorem dX6_look_101 : decode cX6_look 101 = .ok (.aload_n 3, 1) := by decide +kernel
theorem dX6_look_102 : decode cX6_look 102 = .ok (.getfield 118, 3) := by decide +kernel
theorem dX6_look_105 : decode cX6_look 105 = .ok (.ireturn, 1) := by decide +kernel
theorem dX6_look_106 : decode cX6_look 106 = .ok (.aload_n 3, 1) := by decide +kernel
theorem dX6_look_107 : decode cX6_look 107 = .ok (.getfield 103, 3) := by decide +kernel
theorem dX6_look_110 : decode cX6_look 110 = .ok (.iconst 3, 1) := by decide +kernel
theorem dX6_look_111 : decode cX6_look 111 = .ok (.if_icmp .ne 10, 3) := by decide +kernel
theorem dX6_look_114 : decode cX6_look 114 = .ok (.aload_n 3, 1) := by decide +kernel
theorem dX6_look_115 : decode cX6_look 115 = .ok (.getfield 121, 3) := by decide +kernel
theorem dX6_look_118 : decode cX6_look 118 = .ok (.goto 4, 3) := by decide +kernel
theorem dX6_look_121 : decode cX6_look 121 = .ok (.iconst (-1), 1) := by decide +kernel
theorem dX6_look_122 : decode cX6_look 122 = .ok (.ireturn, 1) := by decide +kernel
theorem dX6_look_123 : decode cX6_look 123 = .ok (.aload_n 0, 1) := by decide +kernel
theorem dX6_look_124 : decode cX6_look 124 = .ok (.iload_n 1, 1) := by decide +kernel
theorem dX6_look_125 : decode cX6_look 125 = .ok (.invokevirtual 124, 3) := by decide +kernel
theorem dX6_look_128 : decode cX6_look 128 = .ok (.ireturn, 1) := by decide +kernel
theorem dX6_look_129 : decode cX6_look 129 = .ok (.aload_n 0, 1) := by decide +kernel
theorem dX6_look_130 : decode cX6_look 130 = .ok (.iload_n 1, 1) := by decide +kernel
theorem dX6_look_131 : decode cX6_look 131 = .ok (.invokevirtual 127, 3) := by decide +kernel
theorem dX6_look_134 : decode cX6_look 134 = .ok (.ireturn, 1) := by decide +kernel
theorem dX6_look_135 : decode cX6_look 135 = .ok (.aload_n 0, 1) := by decide +kernel
theorem dX6_look_136 : decode cX6_look 136 = .ok (.iload_n 1, 1) := by decide +kernel
theorem dX6_look_137 : decode cX6_look 137 = .ok (.invokevirtual 130, 3) := by decide +kernel
theorem dX6_look_140 : decode cX6_look 140 = .ok (.ireturn, 1) := by decide +kernel
theorem dX6_look_141 : decode cX6_look 141 = .ok (.aload_n 0, 1) := by decide +kernel
theorem dX6_look_142 : decode cX6_look 142 = .ok (.bipush (-7), 2) := by decide +kernel
theorem dX6_look_144 : decode cX6_look 144 = .ok (.invokevirtual 95, 3) := by decide +kernel
theorem dX6_look_147 : decode cX6_look 147 = .ok (.ireturn, 1) := by decide +kernel
theorem dX6_thick_0 : decode cX6_thick 0 = .ok (.aload_n 0, 1) := by decide +kernel
theorem dX6_thick_1 : decode cX6_thick 1 = .ok (.iload_n 1, 1) := by decide +kernel
theorem dX6_thick_2 : decode cX6_thick 2 = .ok (.invokevirtual 99, 3) := by decide +kernel
theorem dX6_thick_5 : decode cX6_thick 5 = .ok (.ifCond .ne 10, 3) := by decide +kernel
theorem dX6_thick_8 : decode cX6_thick 8 = .ok (.aload_n 0, 1) := by decide +kernel
theorem dX6_thick_9 : decode cX6_thick 9 = .ok (.bipush (-3), 2) := by decide +kernel
theorem dX6_thick_11 : decode cX6_thick 11 = .ok (.invokevirtual 95, 3) := by decide +kernel
theorem dX6_thick_14 : decode cX6_thick 14 = .ok (.ireturn, 1) := by decide +kernel
theorem dX6_thick_15 : decode cX6_thick 15 = .ok (.aload_n 0, 1) := by decide +kernel
theorem dX6_thick_16 : decode cX6_thick 16 = .ok (.getfield 11, 3) := by decide +kernel
theorem dX6_thick_19 : decode cX6_thick 19 = .ok (.iload_n 1, 1) := by decide +kernel
theorem dX6_thick_20 : decode cX6_thick 20 = .ok (.aaload, 1) := by decide +kernel
theorem dX6_thick_21 : decode cX6_thick 21 = .ok (.astore_n 3, 1) := by decide +kernel
theorem dX6_thick_22 : decode cX6_thick 22 = .ok (.aload_n 3, 1) := by decide +kernel
theorem dX6_thick_23 : decode cX6_thick 23 = .ok (.getfield 103, 3) := by decide +kernel
theorem dX6_thick_26 : decode cX6_thick 26 = .ok (.iconst 4, 1) := by decide +kernel
theorem dX6_thick_27 : decode cX6_thick 27 = .ok (.if_icmp .ne 10, 3) := by decide +kernel
theorem dX6_thick_30 : decode cX6_thick 30 = .ok (.aload_n 0, 1) := by decide +kernel
theorem dX6_thick_31 : decode cX6_thick 31 = .ok (.bipush (-5), 2) := by decide +kernel
theorem dX6_thick_33 : decode cX6_thick 33 = .ok (.invokevirtual 95, 3) := by decide +kernel
theorem dX6_thick_36 : decode cX6_thick 36 = .ok (.ireturn, 1) := by decide +kernel
theorem dX6_thick_37 : decode cX6_thick 37 = .ok (.iload_n 2, 1) := by decide +kernel
theorem dX6_thick_38 : decode cX6_thick 38 = .ok (.iconst 0, 1) := by decide +kernel
theorem dX6_thick_39 : decode cX6_thick 39 = .ok (.sipush 3000, 3) := by decide +kernel
theorem dX6_thick_42 : decode cX6_thick 42 = .ok (.invokestatic 91, 3) := by decide +kernel
theorem dX6_thick_45 : decode cX6_thick 45 = .ok (.ifCond .ne 10, 3) := by decide +kernel
theorem dX6_thick_48 : decode cX6_thick 48 = .ok (.aload_n 0, 1) := by decide +kernel
theorem dX6_thick_49 : decode cX6_thick 49 = .ok (.bipush (-7), 2) := by decide +kernel
theorem dX6_thick_51 : decode cX6_thick 51 = .ok (.invokevirtual 95, 3) := by decide +kernel
theorem dX6_thick_54 : decode cX6_thick 54 = .ok (.ireturn, 1) := by decide +kernel
theorem dX6_thick_55 : decode cX6_thick 55 = .ok (.aload_n 3, 1) := by decide +kernel
theorem dX6_thick_56 : decode cX6_thick 56 = .ok (.getfield 106, 3) := by decide +kernel
theorem dX6_thick_59 : decode cX6_thick 59 = .ok (.istore 4, 2) := by decide +kernel
theorem dX6_thick_61 : decode cX6_thick 61 = .ok (.aload_n 3, 1) := by decide +kernel
theorem dX6_thick_62 : decode cX6_thick 62 = .ok (.iload_n 2, 1) := by decide +kernel
theorem dX6_thick_63 : decode cX6_thick 63 = .ok (.putfield 106, 3) := by decide +kernel
theorem dX6_thick_66 : decode cX6_thick 66 = .ok (.iload 4, 2) := by decide +kernel
theorem dX6_thick_68 : decode cX6_thick 68 = .ok (.ireturn, 1) := by decide +kernel
theorem dX6_read_0 : decode cX6_read 0 = .ok (.aload_n 0, 1) := by decide +kernel
theorem dX6_read_1 : decode cX6_read 1 = .ok (.iload_n 1, 1) := by decide +kernel
theorem dX6_read_2 : decode cX6_read 2 = .ok (.invokevirtual 99, 3) := by decide +kernel
theorem dX6_read_5 : decode cX6_read 5 = .ok (.ifCond .ne 10, 3) := by decide +kernel
theorem dX6_read_8 : decode cX6_read 8 = .ok (.aload_n 0, 1) := by decide +kernel
theorem dX6_read_9 : decode cX6_read 9 = .ok (.bipush (-3), 2) := by decide +kernel
theorem dX6_read_11 : decode cX6_read 11 = .ok (.invokevirtual 95, 3) := by decide +kernel
theorem dX6_read_14 : decode cX6_read 14 = .ok (.ireturn, 1) := by decide +kernel
theorem dX6_read_15 : decode cX6_read 15 = .ok (.aload_n 0, 1) := by decide +kernel
theorem dX6_read_16 : decode cX6_read 16 = .ok (.getfield 11, 3) := by decide +kernel
theorem dX6_read_19 : decode cX6_read 19 = .ok (.iload_n 1, 1) := by decide +kernel
theorem dX6_read_20 : decode cX6_read 20 = .ok (.aaload, 1) := by decide +kernel
theorem dX6_read_21 : decode cX6_read 21 = .ok (.astore_n 2, 1) := by decide +kernel
theorem dX6_read_22 : decode cX6_read 22 = .ok (.aload_n 2, 1) := by decide +kernel
theorem dX6_read_23 : decode cX6_read 23 = .ok (.getfield 103, 3) := by decide +kernel
theorem dX6_read_26 : decode cX6_read 26 = .ok (.iconst 4, 1) := by decide +kernel
theorem dX6_read_27 : decode cX6_read 27 = .ok (.if_icmp .ne 10, 3) := by decide +kernel
theorem dX6_read_30 : decode cX6_read 30 = .ok (.aload_n 0, 1) := by decide +kernel
theorem dX6_read_31 : decode cX6_read 31 = .ok (.bipush (-5), 2) := by decide +kernel
theorem dX6_read_33 : decode cX6_read 33 = .ok (.invokevirtual 95, 3) := by decide +kernel
theorem dX6_read_36 : decode cX6_read 36 = .ok (.ireturn, 1) := by decide +kernel
theorem dX6_read_37 : decode cX6_read 37 = .ok (.aload_n 2, 1) := by decide +kernel
theorem dX6_read_38 : decode cX6_read 38 = .ok (.aload_n 2, 1) := by decide +kernel
theorem dX6_read_39 : decode cX6_read 39 = .ok (.getfield 106, 3) := by decide +kernel
theorem dX6_read_42 : decode cX6_read 42 = .ok (.putfield 133, 3) := by decide +kernel
theorem dX6_read_45 : decode cX6_read 45 = .ok (.aload_n 2, 1) := by decide +kernel
theorem dX6_read_46 : decode cX6_read 46 = .ok (.getfield 106, 3) := by decide +kernel
theorem dX6_read_49 : decode cX6_read 49 = .ok (.ireturn, 1) := by decide +kernel
theorem dX6_bears_0 : decode cX6_bears 0 = .ok (.aload_n 0, 1) := by decide +kernel
theorem dX6_bears_1 : decode cX6_bears 1 = .ok (.iload_n 1, 1) := by decide +kernel
theorem dX6_bears_2 : decode cX6_bears 2 = .ok (.invokevirtual 99, 3) := by decide +kernel
theorem dX6_bears_5 : decode cX6_bears 5 = .ok (.ifCond .ne 10, 3) := by decide +kernel
theorem dX6_bears_8 : decode cX6_bears 8 = .ok (.aload_n 0, 1) := by decide +kernel
theorem dX6_bears_9 : decode cX6_bears 9 = .ok (.bipush (-3), 2) := by decide +kernel
theorem dX6_bears_11 : decode cX6_bears 11 = .ok (.invokevirtual 95, 3) := by decide +kernel
theorem dX6_bears_14 : decode cX6_bears 14 = .ok (.ireturn, 1) := by decide +kernel
theorem dX6_bears_15 : decode cX6_bears 15 = .ok (.iload_n 2, 1) := by decide +kernel
theorem dX6_bears_16 : decode cX6_bears 16 = .ok (.iconst 1, 1) := by decide +kernel
theorem dX6_bears_17 : decode cX6_bears 17 = .ok (.bipush 99, 2) := by decide +kernel
theorem dX6_bears_19 : decode cX6_bears 19 = .ok (.invokestatic 91, 3) := by decide +kernel
theorem dX6_bears_22 : decode cX6_bears 22 = .ok (.ifCond .ne 10, 3) := by decide +kernel
theorem dX6_bears_25 : decode cX6_bears 25 = .ok (.aload_n 0, 1) := by decide +kernel
theorem dX6_bears_26 : decode cX6_bears 26 = .ok (.bipush (-7), 2) := by decide +kernel
theorem dX6_bears_28 : decode cX6_bears 28 = .ok (.invokevirtual 95, 3) := by decide +kernel
theorem dX6_bears_31 : decode cX6_bears 31 = .ok (.ireturn, 1) := by decide +kernel
theorem dX6_bears_32 : decode cX6_bears 32 = .ok (.aload_n 0, 1) := by decide +kernel
theorem dX6_bears_33 : decode cX6_bears 33 = .ok (.getfield 11, 3) := by decide +kernel
theorem dX6_bears_36 : decode cX6_bears 36 = .ok (.iload_n 1, 1) := by decide +kernel
theorem dX6_bears_37 : decode cX6_bears 37 = .ok (.aaload, 1) := by decide +kernel
theorem dX6_bears_38 : decode cX6_bears 38 = .ok (.iload_n 2, 1) := by decide +kernel
theorem dX6_bears_39 : decode cX6_bears 39 = .ok (.invokevirtual 136, 3) := by decide +kernel
theorem dX6_bears_42 : decode cX6_bears 42 = .ok (.ifCond .eq 7, 3) := by decide +kernel
theorem dX6_bears_45 : decode cX6_bears 45 = .ok (.iconst 1, 1) := by decide +kernel
theorem dX6_bears_46 : decode cX6_bears 46 = .ok (.goto 4, 3) := by decide +kernel
theorem dX6_bears_49 : decode cX6_bears 49 = .ok (.iconst 0, 1) := by decide +kernel
theorem dX6_bears_50 : decode cX6_bears 50 = .ok (.ireturn, 1) := by decide +kernel
theorem dX6_weather_0 : decode cX6_weather 0 = .ok (.iload_n 1, 1) := by decide +kernel
theorem dX6_weather_1 : decode cX6_weather 1 = .ok (.iconst 0, 1) := by decide +kernel
theorem dX6_weather_2 : decode cX6_weather 2 = .ok (.bipush 47, 2) := by decide +kernel
theorem dX6_weather_4 : decode cX6_weather 4 = .ok (.invokestatic 91, 3) := by decide +kernel
theorem dX6_weather_7 : decode cX6_weather 7 = .ok (.ifCond .ne 12, 3) := by decide +kernel
theorem dX6_weather_10 : decode cX6_weather 10 = .ok (.aload_n 0, 1) := by decide +kernel
theorem dX6_weather_11 : decode cX6_weather 11 = .ok (.bipush (-3), 2) := by decide +kernel
theorem dX6_weather_13 : decode cX6_weather 13 = .ok (.invokevirtual 95, 3) := by decide +kernel
theorem dX6_weather_16 : decode cX6_weather 16 = .ok (.pop, 1) := by decide +kernel
theorem dX6_weather_17 : decode cX6_weather 17 = .ok (.iconst 0, 1) := by decide +kernel
theorem dX6_weather_18 : decode cX6_weather 18 = .ok (.ireturn, 1) := by decide +kernel
theorem dX6_weather_19 : decode cX6_weather 19 = .ok (.iload_n 2, 1) := by decide +kernel
theorem dX6_weather_20 : decode cX6_weather 20 = .ok (.sipush (-9999), 3) := by decide +kernel
theorem dX6_weather_23 : decode cX6_weather 23 = .ok (.if_icmp .eq 25, 3) := by decide +kernel
theorem dX6_weather_26 : decode cX6_weather 26 = .ok (.iload_n 2, 1) := by decide +kernel
theorem dX6_weather_27 : decode cX6_weather 27 = .ok (.sipush (-600), 3) := by decide +kernel
theorem dX6_weather_30 : decode cX6_weather 30 = .ok (.sipush 300, 3) := by decide +kernel
theorem dX6_weather_33 : decode cX6_weather 33 = .ok (.invokestatic 91, 3) := by decide +kernel
theorem dX6_weather_36 : decode cX6_weather 36 = .ok (.ifCond .ne 12, 3) := by decide +kernel
theorem dX6_weather_39 : decode cX6_weather 39 = .ok (.aload_n 0, 1) := by decide +kernel
theorem dX6_weather_40 : decode cX6_weather 40 = .ok (.bipush (-7), 2) := by decide +kernel
theorem dX6_weather_42 : decode cX6_weather 42 = .ok (.invokevirtual 95, 3) := by decide +kernel
theorem dX6_weather_45 : decode cX6_weather 45 = .ok (.pop, 1) := by decide +kernel
theorem dX6_weather_46 : decode cX6_weather 46 = .ok (.iconst 0, 1) := by decide +kernel
theorem dX6_weather_47 : decode cX6_weather 47 = .ok (.ireturn, 1) := by decide +kernel
theorem dX6_weather_48 : decode cX6_weather 48 = .ok (.aload_n 0, 1) := by decide +kernel
theorem dX6_weather_49 : decode cX6_weather 49 = .ok (.getfield 33, 3) := by decide +kernel
theorem dX6_weather_52 : decode cX6_weather 52 = .ok (.getfield 139, 3) := by decide +kernel
theorem dX6_weather_55 : decode cX6_weather 55 = .ok (.iload_n 1, 1) := by decide +kernel
theorem dX6_weather_56 : decode cX6_weather 56 = .ok (.iaload, 1) := by decide +kernel
theorem dX6_weather_57 : decode cX6_weather 57 = .ok (.istore_n 3, 1) := by decide +kernel
theorem dX6_weather_58 : decode cX6_weather 58 = .ok (.aload_n 0, 1) := by decide +kernel
theorem dX6_weather_59 : decode cX6_weather 59 = .ok (.getfield 33, 3) := by decide +kernel
theorem dX6_weather_62 : decode cX6_weather 62 = .ok (.getfield 139, 3) := by decide +kernel
theorem dX6_weather_65 : decode cX6_weather 65 = .ok (.iload_n 1, 1) := by decide +kernel
theorem dX6_weather_66 : decode cX6_weather 66 = .ok (.iload_n 2, 1) := by decide +kernel
theorem dX6_weather_67 : decode cX6_weather 67 = .ok (.iastore, 1) := by decide +kernel
theorem dX6_weather_68 : decode cX6_weather 68 = .ok (.iload_n 3, 1) := by decide +kernel
theorem dX6_weather_69 : decode cX6_weather 69 = .ok (.ireturn, 1) := by decide +kernel
theorem dX6_cold_0 : decode cX6_cold 0 = .ok (.aload_n 0, 1) := by decide +kernel
theorem dX6_cold_1 : decode cX6_cold 1 = .ok (.getfield 68, 3) := by decide +kernel
theorem dX6_cold_4 : decode cX6_cold 4 = .ok (.ifCond .ne 10, 3) := by decide +kernel
theorem dX6_cold_7 : decode cX6_cold 7 = .ok (.aload_n 0, 1) := by decide +kernel
theorem dX6_cold_8 : decode cX6_cold 8 = .ok (.bipush (-2), 2) := by decide +kernel
theorem dX6_cold_10 : decode cX6_cold 10 = .ok (.invokevirtual 95, 3) := by decide +kernel
theorem dX6_cold_13 : decode cX6_cold 13 = .ok (.ireturn, 1) := by decide +kernel
theorem dX6_cold_14 : decode cX6_cold 14 = .ok (.iconst 0, 1) := by decide +kernel
theorem dX6_cold_15 : decode cX6_cold 15 = .ok (.istore_n 1, 1) := by decide +kernel
theorem dX6_cold_16 : decode cX6_cold 16 = .ok (.iconst 0, 1) := by decide +kernel
theorem dX6_cold_17 : decode cX6_cold 17 = .ok (.istore_n 2, 1) := by decide +kernel
theorem dX6_cold_18 : decode cX6_cold 18 = .ok (.iload_n 2, 1) := by decide +kernel
theorem dX6_cold_19 : decode cX6_cold 19 = .ok (.bipush 48, 2) := by decide +kernel
theorem dX6_cold_21 : decode cX6_cold 21 = .ok (.if_icmp .ge 62, 3) := by decide +kernel
theorem dX6_cold_24 : decode cX6_cold 24 = .ok (.aload_n 0, 1) := by decide +kernel
theorem dX6_cold_25 : decode cX6_cold 25 = .ok (.getfield 53, 3) := by decide +kernel
theorem dX6_cold_28 : decode cX6_cold 28 = .ok (.iload_n 2, 1) := by decide +kernel
theorem dX6_cold_29 : decode cX6_cold 29 = .ok (.iaload, 1) := by decide +kernel
theorem dX6_cold_30 : decode cX6_cold 30 = .ok (.sipush (-600), 3) := by decide +kernel
theorem dX6_cold_33 : decode cX6_cold 33 = .ok (.sipush 300, 3) := by decide +kernel
theorem dX6_cold_36 : decode cX6_cold 36 = .ok (.invokestatic 91, 3) := by decide +kernel
theorem dX6_cold_39 : decode cX6_cold 39 = .ok (.istore_n 3, 1) := by decide +kernel
theorem dX6_cold_40 : decode cX6_cold 40 = .ok (.aload_n 0, 1) := by decide +kernel
theorem dX6_cold_41 : decode cX6_cold 41 = .ok (.getfield 33, 3) := by decide +kernel
theorem dX6_cold_44 : decode cX6_cold 44 = .ok (.getfield 139, 3) := by decide +kernel
theorem dX6_cold_47 : decode cX6_cold 47 = .ok (.iload_n 2, 1) := by decide +kernel
theorem dX6_cold_48 : decode cX6_cold 48 = .ok (.iload_n 3, 1) := by decide +kernel
theorem dX6_cold_49 : decode cX6_cold 49 = .ok (.ifCond .eq 12, 3) := by decide +kernel
theorem dX6_cold_52 : decode cX6_cold 52 = .ok (.aload_n 0, 1) := by decide +kernel
theorem dX6_cold_53 : decode cX6_cold 53 = .ok (.getfield 53, 3) := by decide +kernel
theorem dX6_cold_56 : decode cX6_cold 56 = .ok (.iload_n 2, 1) := by decide +kernel
theorem dX6_cold_57 : decode cX6_cold 57 = .ok (.iaload, 1) := by decide +kernel
theorem dX6_cold_58 : decode cX6_cold 58 = .ok (.goto 6, 3) := by decide +kernel
theorem dX6_cold_61 : decode cX6_cold 61 = .ok (.sipush (-9999), 3) := by decide +kernel
theorem dX6_cold_64 : decode cX6_cold 64 = .ok (.iastore, 1) := by decide +kernel
theorem dX6_cold_65 : decode cX6_cold 65 = .ok (.iload_n 1, 1) := by decide +kernel
theorem dX6_cold_66 : decode cX6_cold 66 = .ok (.iload_n 3, 1) := by decide +kernel
theorem dX6_cold_67 : decode cX6_cold 67 = .ok (.ifCond .eq 7, 3) := by decide +kernel
theorem dX6_cold_70 : decode cX6_cold 70 = .ok (.iconst 1, 1) := by decide +kernel
theorem dX6_cold_71 : decode cX6_cold 71 = .ok (.goto 4, 3) := by decide +kernel
theorem dX6_cold_74 : decode cX6_cold 74 = .ok (.iconst 0, 1) := by decide +kernel
theorem dX6_cold_75 : decode cX6_cold 75 = .ok (.iadd, 1) := by decide +kernel
theorem dX6_cold_76 : decode cX6_cold 76 = .ok (.istore_n 1, 1) := by decide +kernel
theorem dX6_cold_77 : decode cX6_cold 77 = .ok (.iinc 2 1, 3) := by decide +kernel
theorem dX6_cold_80 : decode cX6_cold 80 = .ok (.goto (-62), 3) := by decide +kernel
theorem dX6_cold_83 : decode cX6_cold 83 = .ok (.iload_n 1, 1) := by decide +kernel
theorem dX6_cold_84 : decode cX6_cold 84 = .ok (.ireturn, 1) := by decide +kernel
theorem dX6_heat_0 : decode cX6_heat 0 = .ok (.iload_n 1, 1) := by decide +kernel
theorem dX6_heat_1 : decode cX6_heat 1 = .ok (.ifCond .ge 12, 3) := by decide +kernel
theorem dX6_heat_4 : decode cX6_heat 4 = .ok (.aload_n 0, 1) := by decide +kernel
theorem dX6_heat_5 : decode cX6_heat 5 = .ok (.bipush (-3), 2) := by decide +kernel
theorem dX6_heat_7 : decode cX6_heat 7 = .ok (.invokevirtual 95, 3) := by decide +kernel
theorem dX6_heat_10 : decode cX6_heat 10 = .ok (.pop, 1) := by decide +kernel
theorem dX6_heat_11 : decode cX6_heat 11 = .ok (.iconst 0, 1) := by decide +kernel
theorem dX6_heat_12 : decode cX6_heat 12 = .ok (.ireturn, 1) := by decide +kernel
theorem dX6_heat_13 : decode cX6_heat 13 = .ok (.aload_n 0, 1) := by decide +kernel
theorem dX6_heat_14 : decode cX6_heat 14 = .ok (.getfield 33, 3) := by decide +kernel
theorem dX6_heat_17 : decode cX6_heat 17 = .ok (.iload_n 1, 1) := by decide +kernel
theorem dX6_heat_18 : decode cX6_heat 18 = .ok (.invokevirtual 142, 3) := by decide +kernel
theorem dX6_heat_21 : decode cX6_heat 21 = .ok (.ireturn, 1) := by decide +kernel
theorem dX6_sweep_0 : decode cX6_sweep 0 = .ok (.aload_n 0, 1) := by decide +kernel
theorem dX6_sweep_1 : decode cX6_sweep 1 = .ok (.iload_n 1, 1) := by decide +kernel
theorem dX6_sweep_2 : decode cX6_sweep 2 = .ok (.invokevirtual 99, 3) := by decide +kernel
theorem dX6_sweep_5 : decode cX6_sweep 5 = .ok (.ifCond .ne 10, 3) := by decide +kernel
theorem dX6_sweep_8 : decode cX6_sweep 8 = .ok (.aload_n 0, 1) := by decide +kernel
theorem dX6_sweep_9 : decode cX6_sweep 9 = .ok (.bipush (-3), 2) := by decide +kernel
theorem dX6_sweep_11 : decode cX6_sweep 11 = .ok (.invokevirtual 95, 3) := by decide +kernel
theorem dX6_sweep_14 : decode cX6_sweep 14 = .ok (.ireturn, 1) := by decide +kernel
theorem dX6_sweep_15 : decode cX6_sweep 15 = .ok (.aload_n 0, 1) := by decide +kernel
theorem dX6_sweep_16 : decode cX6_sweep 16 = .ok (.getfield 11, 3) := by decide +kernel
theorem dX6_sweep_19 : decode cX6_sweep 19 = .ok (.iload_n 1, 1) := by decide +kernel
theorem dX6_sweep_20 : decode cX6_sweep 20 = .ok (.aaload, 1) := by decide +kernel
theorem dX6_sweep_21 : decode cX6_sweep 21 = .ok (.astore_n 2, 1) := by decide +kernel
theorem dX6_sweep_22 : decode cX6_sweep 22 = .ok (.aload_n 2, 1) := by decide +kernel
theorem dX6_sweep_23 : decode cX6_sweep 23 = .ok (.getfield 103, 3) := by decide +kernel
theorem dX6_sweep_26 : decode cX6_sweep 26 = .ok (.ifCond .eq 18, 3) := by decide +kernel
theorem dX6_sweep_29 : decode cX6_sweep 29 = .ok (.aload_n 2, 1) := by decide +kernel
theorem dX6_sweep_30 : decode cX6_sweep 30 = .ok (.getfield 103, 3) := by decide +kernel
theorem dX6_sweep_33 : decode cX6_sweep 33 = .ok (.iconst 1, 1) := by decide +kernel
theorem dX6_sweep_34 : decode cX6_sweep 34 = .ok (.if_icmp .eq 10, 3) := by decide +kernel
theorem dX6_sweep_37 : decode cX6_sweep 37 = .ok (.aload_n 0, 1) := by decide +kernel
theorem dX6_sweep_38 : decode cX6_sweep 38 = .ok (.bipush (-5), 2) := by decide +kernel
theorem dX6_sweep_40 : decode cX6_sweep 40 = .ok (.invokevirtual 95, 3) := by decide +kernel
theorem dX6_sweep_43 : decode cX6_sweep 43 = .ok (.ireturn, 1) := by decide +kernel
theorem dX6_sweep_44 : decode cX6_sweep 44 = .ok (.aload_n 2, 1) := by decide +kernel
theorem dX6_sweep_45 : decode cX6_sweep 45 = .ok (.iconst 1, 1) := by decide +kernel
theorem dX6_sweep_46 : decode cX6_sweep 46 = .ok (.invokevirtual 145, 3) := by decide +kernel
theorem dX6_sweep_49 : decode cX6_sweep 49 = .ok (.aload_n 2, 1) := by decide +kernel
theorem dX6_sweep_50 : decode cX6_sweep 50 = .ok (.iconst 0, 1) := by decide +kernel
theorem dX6_sweep_51 : decode cX6_sweep 51 = .ok (.putfield 109, 3) := by decide +kernel
theorem dX6_sweep_54 : decode cX6_sweep 54 = .ok (.iconst 1, 1) := by decide +kernel
theorem dX6_sweep_55 : decode cX6_sweep 55 = .ok (.ireturn, 1) := by decide +kernel
theorem dX6_flood_0 : decode cX6_flood 0 = .ok (.aload_n 0, 1) := by decide +kernel
theorem dX6_flood_1 : decode cX6_flood 1 = .ok (.iload_n 1, 1) := by decide +kernel
theorem dX6_flood_2 : decode cX6_flood 2 = .ok (.invokevirtual 99, 3) := by decide +kernel
theorem dX6_flood_5 : decode cX6_flood 5 = .ok (.ifCond .ne 10, 3) := by decide +kernel
theorem dX6_flood_8 : decode cX6_flood 8 = .ok (.aload_n 0, 1) := by decide +kernel
theorem dX6_flood_9 : decode cX6_flood 9 = .ok (.bipush (-3), 2) := by decide +kernel
theorem dX6_flood_11 : decode cX6_flood 11 = .ok (.invokevirtual 95, 3) := by decide +kernel
theorem dX6_flood_14 : decode cX6_flood 14 = .ok (.ireturn, 1) := by decide +kernel
theorem dX6_flood_15 : decode cX6_flood 15 = .ok (.aload_n 0, 1) := by decide +kernel
theorem dX6_flood_16 : decode cX6_flood 16 = .ok (.getfield 11, 3) := by decide +kernel
theorem dX6_flood_19 : decode cX6_flood 19 = .ok (.iload_n 1, 1) := by decide +kernel
theorem dX6_flood_20 : decode cX6_flood 20 = .ok (.aaload, 1) := by decide +kernel
theorem dX6_flood_21 : decode cX6_flood 21 = .ok (.astore_n 2, 1) := by decide +kernel
theorem dX6_flood_22 : decode cX6_flood 22 = .ok (.aload_n 2, 1) := by decide +kernel
theorem dX6_flood_23 : decode cX6_flood 23 = .ok (.getfield 103, 3) := by decide +kernel
theorem dX6_flood_26 : decode cX6_flood 26 = .ok (.iconst 1, 1) := by decide +kernel
theorem dX6_flood_27 : decode cX6_flood 27 = .ok (.if_icmp .eq 18, 3) := by decide +kernel
theorem dX6_flood_30 : decode cX6_flood 30 = .ok (.aload_n 2, 1) := by decide +kernel
theorem dX6_flood_31 : decode cX6_flood 31 = .ok (.getfield 103, 3) := by decide +kernel
theorem dX6_flood_34 : decode cX6_flood 34 = .ok (.iconst 2, 1) := by decide +kernel
theorem dX6_flood_35 : decode cX6_flood 35 = .ok (.if_icmp .eq 10, 3) := by decide +kernel
theorem dX6_flood_38 : decode cX6_flood 38 = .ok (.aload_n 0, 1) := by decide +kernel
theorem dX6_flood_39 : decode cX6_flood 39 = .ok (.bipush (-5), 2) := by decide +kernel
theorem dX6_flood_41 : decode cX6_flood 41 = .ok (.invokevirtual 95, 3) := by decide +kernel
theorem dX6_flood_44 : decode cX6_flood 44 = .ok (.ireturn, 1) := by decide +kernel
theorem dX6_flood_45 : decode cX6_flood 45 = .ok (.aload_n 2, 1) := by decide +kernel
theorem dX6_flood_46 : decode cX6_flood 46 = .ok (.iconst 2, 1) := by decide +kernel
theorem dX6_flood_47 : decode cX6_flood 47 = .ok (.invokevirtual 145, 3) := by decide +kernel
theorem dX6_flood_50 : decode cX6_flood 50 = .ok (.iconst 1, 1) := by decide +kernel
theorem dX6_flood_51 : decode cX6_flood 51 = .ok (.ireturn, 1) := by decide +kernel
theorem dX6_bypass_0 : decode cX6_bypass 0 = .ok (.aload_n 0, 1) := by decide +kernel
theorem dX6_bypass_1 : decode cX6_bypass 1 = .ok (.iload_n 1, 1) := by decide +kernel
theorem dX6_bypass_2 : decode cX6_bypass 2 = .ok (.invokevirtual 99, 3) := by decide +kernel
theorem dX6_bypass_5 : decode cX6_bypass 5 = .ok (.ifCond .ne 10, 3) := by decide +kernel
theorem dX6_bypass_8 : decode cX6_bypass 8 = .ok (.aload_n 0, 1) := by decide +kernel
theorem dX6_bypass_9 : decode cX6_bypass 9 = .ok (.bipush (-3), 2) := by decide +kernel
theorem dX6_bypass_11 : decode cX6_bypass 11 = .ok (.invokevirtual 95, 3) := by decide +kernel
theorem dX6_bypass_14 : decode cX6_bypass 14 = .ok (.ireturn, 1) := by decide +kernel
theorem dX6_bypass_15 : decode cX6_bypass 15 = .ok (.aload_n 0, 1) := by decide +kernel
theorem dX6_bypass_16 : decode cX6_bypass 16 = .ok (.getfield 11, 3) := by decide +kernel
theorem dX6_bypass_19 : decode cX6_bypass 19 = .ok (.iload_n 1, 1) := by decide +kernel
theorem dX6_bypass_20 : decode cX6_bypass 20 = .ok (.aaload, 1) := by decide +kernel
theorem dX6_bypass_21 : decode cX6_bypass 21 = .ok (.astore_n 2, 1) := by decide +kernel
theorem dX6_bypass_22 : decode cX6_bypass 22 = .ok (.aload_n 2, 1) := by decide +kernel
theorem dX6_bypass_23 : decode cX6_bypass 23 = .ok (.getfield 103, 3) := by decide +kernel
theorem dX6_bypass_26 : decode cX6_bypass 26 = .ok (.iconst 3, 1) := by decide +kernel
theorem dX6_bypass_27 : decode cX6_bypass 27 = .ok (.if_icmp .eq 10, 3) := by decide +kernel
theorem dX6_bypass_30 : decode cX6_bypass 30 = .ok (.aload_n 0, 1) := by decide +kernel
theorem dX6_bypass_31 : decode cX6_bypass 31 = .ok (.bipush (-5), 2) := by decide +kernel
theorem dX6_bypass_33 : decode cX6_bypass 33 = .ok (.invokevirtual 95, 3) := by decide +kernel
theorem dX6_bypass_36 : decode cX6_bypass 36 = .ok (.ireturn, 1) := by decide +kernel
theorem dX6_bypass_37 : decode cX6_bypass 37 = .ok (.aload_n 0, 1) := by decide +kernel
theorem dX6_bypass_38 : decode cX6_bypass 38 = .ok (.iload_n 1, 1) := by decide +kernel
theorem dX6_bypass_39 : decode cX6_bypass 39 = .ok (.invokevirtual 130, 3) := by decide +kernel
theorem dX6_bypass_42 : decode cX6_bypass 42 = .ok (.ifCond .le 10, 3) := by decide +kernel
theorem dX6_bypass_45 : decode cX6_bypass 45 = .ok (.aload_n 0, 1) := by decide +kernel
theorem dX6_bypass_46 : decode cX6_bypass 46 = .ok (.bipush (-7), 2) := by decide +kernel
theorem dX6_bypass_48 : decode cX6_bypass 48 = .ok (.invokevirtual 95, 3) := by decide +kernel
theorem dX6_bypass_51 : decode cX6_bypass 51 = .ok (.ireturn, 1) := by decide +kernel
theorem dX6_bypass_52 : decode cX6_bypass 52 = .ok (.aload_n 2, 1) := by decide +kernel
theorem dX6_bypass_53 : decode cX6_bypass 53 = .ok (.iconst 1, 1) := by decide +kernel
theorem dX6_bypass_54 : decode cX6_bypass 54 = .ok (.invokevirtual 145, 3) := by decide +kernel
theorem dX6_bypass_57 : decode cX6_bypass 57 = .ok (.aload_n 2, 1) := by decide +kernel
theorem dX6_bypass_58 : decode cX6_bypass 58 = .ok (.iconst 0, 1) := by decide +kernel
theorem dX6_bypass_59 : decode cX6_bypass 59 = .ok (.putfield 109, 3) := by decide +kernel
theorem dX6_bypass_62 : decode cX6_bypass 62 = .ok (.aload_n 2, 1) := by decide +kernel
theorem dX6_bypass_63 : decode cX6_bypass 63 = .ok (.iconst 0, 1) := by decide +kernel
theorem dX6_bypass_64 : decode cX6_bypass 64 = .ok (.putfield 118, 3) := by decide +kernel
theorem dX6_bypass_67 : decode cX6_bypass 67 = .ok (.aload_n 2, 1) := by decide +kernel
theorem dX6_bypass_68 : decode cX6_bypass 68 = .ok (.aload_n 2, 1) := by decide +kernel
end
section
theorem dX6_bypass_69 : decode cX6_bypass 69 = .ok (.getfield 106, 3) := by decide +kernel
theorem dX6_bypass_72 : decode cX6_bypass 72 = .ok (.iconst 2, 1) := by decide +kernel
theorem dX6_bypass_73 : decode cX6_bypass 73 = .ok (.idiv, 1) := by decide +kernel
theorem dX6_bypass_74 : decode cX6_bypass 74 = .ok (.putfield 106, 3) := by decide +kernel
theorem dX6_bypass_77 : decode cX6_bypass 77 = .ok (.aload_n 2, 1) := by decide +kernel
theorem dX6_bypass_78 : decode cX6_bypass 78 = .ok (.getfield 106, 3) := by decide +kernel
theorem dX6_bypass_81 : decode cX6_bypass 81 = .ok (.ireturn, 1) := by decide +kernel
theorem dX6_snow_0 : decode cX6_snow 0 = .ok (.iload_n 1, 1) := by decide +kernel
theorem dX6_snow_1 : decode cX6_snow 1 = .ok (.iconst 1, 1) := by decide +kernel
theorem dX6_snow_2 : decode cX6_snow 2 = .ok (.bipush 100, 2) := by decide +kernel
theorem dX6_snow_4 : decode cX6_snow 4 = .ok (.invokestatic 91, 3) := by decide +kernel
theorem dX6_snow_7 : decode cX6_snow 7 = .ok (.ifCond .ne 10, 3) := by decide +kernel
theorem dX6_snow_10 : decode cX6_snow 10 = .ok (.aload_n 0, 1) := by decide +kernel
theorem dX6_snow_11 : decode cX6_snow 11 = .ok (.bipush (-7), 2) := by decide +kernel
theorem dX6_snow_13 : decode cX6_snow 13 = .ok (.invokevirtual 95, 3) := by decide +kernel
theorem dX6_snow_16 : decode cX6_snow 16 = .ok (.ireturn, 1) := by decide +kernel
theorem dX6_snow_17 : decode cX6_snow 17 = .ok (.iconst 0, 1) := by decide +kernel
theorem dX6_snow_18 : decode cX6_snow 18 = .ok (.istore_n 2, 1) := by decide +kernel
theorem dX6_snow_19 : decode cX6_snow 19 = .ok (.iconst 0, 1) := by decide +kernel
theorem dX6_snow_20 : decode cX6_snow 20 = .ok (.istore_n 3, 1) := by decide +kernel
theorem dX6_snow_21 : decode cX6_snow 21 = .ok (.iload_n 3, 1) := by decide +kernel
theorem dX6_snow_22 : decode cX6_snow 22 = .ok (.aload_n 0, 1) := by decide +kernel
theorem dX6_snow_23 : decode cX6_snow 23 = .ok (.getfield 72, 3) := by decide +kernel
theorem dX6_snow_26 : decode cX6_snow 26 = .ok (.if_icmp .ge 30, 3) := by decide +kernel
theorem dX6_snow_29 : decode cX6_snow 29 = .ok (.iload_n 2, 1) := by decide +kernel
theorem dX6_snow_30 : decode cX6_snow 30 = .ok (.aload_n 0, 1) := by decide +kernel
theorem dX6_snow_31 : decode cX6_snow 31 = .ok (.getfield 11, 3) := by decide +kernel
theorem dX6_snow_34 : decode cX6_snow 34 = .ok (.iload_n 3, 1) := by decide +kernel
theorem dX6_snow_35 : decode cX6_snow 35 = .ok (.aaload, 1) := by decide +kernel
theorem dX6_snow_36 : decode cX6_snow 36 = .ok (.iload_n 1, 1) := by decide +kernel
theorem dX6_snow_37 : decode cX6_snow 37 = .ok (.invokevirtual 149, 3) := by decide +kernel
theorem dX6_snow_40 : decode cX6_snow 40 = .ok (.ifCond .eq 7, 3) := by decide +kernel
theorem dX6_snow_43 : decode cX6_snow 43 = .ok (.iconst 1, 1) := by decide +kernel
theorem dX6_snow_44 : decode cX6_snow 44 = .ok (.goto 4, 3) := by decide +kernel
theorem dX6_snow_47 : decode cX6_snow 47 = .ok (.iconst 0, 1) := by decide +kernel
theorem dX6_snow_48 : decode cX6_snow 48 = .ok (.iadd, 1) := by decide +kernel
theorem dX6_snow_49 : decode cX6_snow 49 = .ok (.istore_n 2, 1) := by decide +kernel
theorem dX6_snow_50 : decode cX6_snow 50 = .ok (.iinc 3 1, 3) := by decide +kernel
theorem dX6_snow_53 : decode cX6_snow 53 = .ok (.goto (-32), 3) := by decide +kernel
theorem dX6_snow_56 : decode cX6_snow 56 = .ok (.iload_n 2, 1) := by decide +kernel
theorem dX6_snow_57 : decode cX6_snow 57 = .ok (.ireturn, 1) := by decide +kernel
theorem dX6_load_0 : decode cX6_load 0 = .ok (.iload_n 1, 1) := by decide +kernel
theorem dX6_load_1 : decode cX6_load 1 = .ok (.iconst 1, 1) := by decide +kernel
theorem dX6_load_2 : decode cX6_load 2 = .ok (.bipush 99, 2) := by decide +kernel
theorem dX6_load_4 : decode cX6_load 4 = .ok (.invokestatic 91, 3) := by decide +kernel
theorem dX6_load_7 : decode cX6_load 7 = .ok (.ifCond .eq 26, 3) := by decide +kernel
theorem dX6_load_10 : decode cX6_load 10 = .ok (.iload_n 2, 1) := by decide +kernel
theorem dX6_load_11 : decode cX6_load 11 = .ok (.iconst 0, 1) := by decide +kernel
theorem dX6_load_12 : decode cX6_load 12 = .ok (.bipush 9, 2) := by decide +kernel
theorem dX6_load_14 : decode cX6_load 14 = .ok (.invokestatic 91, 3) := by decide +kernel
theorem dX6_load_17 : decode cX6_load 17 = .ok (.ifCond .eq 16, 3) := by decide +kernel
theorem dX6_load_20 : decode cX6_load 20 = .ok (.iload_n 3, 1) := by decide +kernel
theorem dX6_load_21 : decode cX6_load 21 = .ok (.iconst 0, 1) := by decide +kernel
theorem dX6_load_22 : decode cX6_load 22 = .ok (.iconst 1, 1) := by decide +kernel
theorem dX6_load_23 : decode cX6_load 23 = .ok (.invokestatic 91, 3) := by decide +kernel
theorem dX6_load_26 : decode cX6_load 26 = .ok (.ifCond .eq 7, 3) := by decide +kernel
theorem dX6_load_29 : decode cX6_load 29 = .ok (.iconst 1, 1) := by decide +kernel
theorem dX6_load_30 : decode cX6_load 30 = .ok (.goto 4, 3) := by decide +kernel
theorem dX6_load_33 : decode cX6_load 33 = .ok (.iconst 0, 1) := by decide +kernel
theorem dX6_load_34 : decode cX6_load 34 = .ok (.istore 4, 2) := by decide +kernel
theorem dX6_load_36 : decode cX6_load 36 = .ok (.iload 4, 2) := by decide +kernel
theorem dX6_load_38 : decode cX6_load 38 = .ok (.ifCond .ne 10, 3) := by decide +kernel
theorem dX6_load_41 : decode cX6_load 41 = .ok (.aload_n 0, 1) := by decide +kernel
theorem dX6_load_42 : decode cX6_load 42 = .ok (.bipush (-7), 2) := by decide +kernel
theorem dX6_load_44 : decode cX6_load 44 = .ok (.invokevirtual 95, 3) := by decide +kernel
theorem dX6_load_47 : decode cX6_load 47 = .ok (.ireturn, 1) := by decide +kernel
theorem dX6_load_48 : decode cX6_load 48 = .ok (.aload_n 0, 1) := by decide +kernel
theorem dX6_load_49 : decode cX6_load 49 = .ok (.getfield 76, 3) := by decide +kernel
theorem dX6_load_52 : decode cX6_load 52 = .ok (.bipush 24, 2) := by decide +kernel
theorem dX6_load_54 : decode cX6_load 54 = .ok (.if_icmp .lt 10, 3) := by decide +kernel
theorem dX6_load_57 : decode cX6_load 57 = .ok (.aload_n 0, 1) := by decide +kernel
theorem dX6_load_58 : decode cX6_load 58 = .ok (.bipush (-8), 2) := by decide +kernel
theorem dX6_load_60 : decode cX6_load 60 = .ok (.invokevirtual 95, 3) := by decide +kernel
theorem dX6_load_63 : decode cX6_load 63 = .ok (.ireturn, 1) := by decide +kernel
theorem dX6_load_64 : decode cX6_load 64 = .ok (.aload_n 0, 1) := by decide +kernel
theorem dX6_load_65 : decode cX6_load 65 = .ok (.getfield 17, 3) := by decide +kernel
theorem dX6_load_68 : decode cX6_load 68 = .ok (.aload_n 0, 1) := by decide +kernel
theorem dX6_load_69 : decode cX6_load 69 = .ok (.getfield 76, 3) := by decide +kernel
theorem dX6_load_72 : decode cX6_load 72 = .ok (.aaload, 1) := by decide +kernel
theorem dX6_load_73 : decode cX6_load 73 = .ok (.astore 5, 2) := by decide +kernel
theorem dX6_load_75 : decode cX6_load 75 = .ok (.aload 5, 2) := by decide +kernel
theorem dX6_load_77 : decode cX6_load 77 = .ok (.iload_n 1, 1) := by decide +kernel
theorem dX6_load_78 : decode cX6_load 78 = .ok (.putfield 152, 3) := by decide +kernel
theorem dX6_load_81 : decode cX6_load 81 = .ok (.aload 5, 2) := by decide +kernel
theorem dX6_load_83 : decode cX6_load 83 = .ok (.iload_n 2, 1) := by decide +kernel
theorem dX6_load_84 : decode cX6_load 84 = .ok (.putfield 155, 3) := by decide +kernel
theorem dX6_load_87 : decode cX6_load 87 = .ok (.aload 5, 2) := by decide +kernel
theorem dX6_load_89 : decode cX6_load 89 = .ok (.iload_n 3, 1) := by decide +kernel
theorem dX6_load_90 : decode cX6_load 90 = .ok (.putfield 158, 3) := by decide +kernel
theorem dX6_load_93 : decode cX6_load 93 = .ok (.aload_n 0, 1) := by decide +kernel
theorem dX6_load_94 : decode cX6_load 94 = .ok (.aload 5, 2) := by decide +kernel
theorem dX6_load_96 : decode cX6_load 96 = .ok (.invokevirtual 161, 3) := by decide +kernel
theorem dX6_load_99 : decode cX6_load 99 = .ok (.aload_n 0, 1) := by decide +kernel
theorem dX6_load_100 : decode cX6_load 100 = .ok (.dup, 1) := by decide +kernel
theorem dX6_load_101 : decode cX6_load 101 = .ok (.getfield 76, 3) := by decide +kernel
theorem dX6_load_104 : decode cX6_load 104 = .ok (.iconst 1, 1) := by decide +kernel
theorem dX6_load_105 : decode cX6_load 105 = .ok (.iadd, 1) := by decide +kernel
theorem dX6_load_106 : decode cX6_load 106 = .ok (.putfield 76, 3) := by decide +kernel
theorem dX6_load_109 : decode cX6_load 109 = .ok (.aload_n 0, 1) := by decide +kernel
theorem dX6_load_110 : decode cX6_load 110 = .ok (.getfield 76, 3) := by decide +kernel
theorem dX6_load_113 : decode cX6_load 113 = .ok (.iconst 1, 1) := by decide +kernel
theorem dX6_load_114 : decode cX6_load 114 = .ok (.isub, 1) := by decide +kernel
theorem dX6_load_115 : decode cX6_load 115 = .ok (.ireturn, 1) := by decide +kernel
theorem dX6_of_0 : decode cX6_of 0 = .ok (.aload_n 0, 1) := by decide +kernel
theorem dX6_of_1 : decode cX6_of 1 = .ok (.iload_n 1, 1) := by decide +kernel
theorem dX6_of_2 : decode cX6_of 2 = .ok (.invokevirtual 165, 3) := by decide +kernel
theorem dX6_of_5 : decode cX6_of 5 = .ok (.ifCond .ne 10, 3) := by decide +kernel
theorem dX6_of_8 : decode cX6_of 8 = .ok (.aload_n 0, 1) := by decide +kernel
theorem dX6_of_9 : decode cX6_of 9 = .ok (.bipush (-3), 2) := by decide +kernel
theorem dX6_of_11 : decode cX6_of 11 = .ok (.invokevirtual 95, 3) := by decide +kernel
theorem dX6_of_14 : decode cX6_of 14 = .ok (.ireturn, 1) := by decide +kernel
theorem dX6_of_15 : decode cX6_of 15 = .ok (.aload_n 0, 1) := by decide +kernel
theorem dX6_of_16 : decode cX6_of 16 = .ok (.getfield 17, 3) := by decide +kernel
theorem dX6_of_19 : decode cX6_of 19 = .ok (.iload_n 1, 1) := by decide +kernel
theorem dX6_of_20 : decode cX6_of 20 = .ok (.aaload, 1) := by decide +kernel
theorem dX6_of_21 : decode cX6_of 21 = .ok (.astore_n 3, 1) := by decide +kernel
theorem dX6_of_22 : decode cX6_of 22 = .ok (.iload_n 2, 1) := by decide +kernel
theorem dX6_of_23 : decode cX6_of 23 = .ok (.tableswitch 76 0 6 #[41, 46, 51, 56, 61, 66, 71], 41) := by decide +kernel
theorem dX6_of_64 : decode cX6_of 64 = .ok (.aload_n 3, 1) := by decide +kernel
theorem dX6_of_65 : decode cX6_of 65 = .ok (.getfield 152, 3) := by decide +kernel
theorem dX6_of_68 : decode cX6_of 68 = .ok (.ireturn, 1) := by decide +kernel
theorem dX6_of_69 : decode cX6_of 69 = .ok (.aload_n 3, 1) := by decide +kernel
theorem dX6_of_70 : decode cX6_of 70 = .ok (.getfield 155, 3) := by decide +kernel
theorem dX6_of_73 : decode cX6_of 73 = .ok (.ireturn, 1) := by decide +kernel
theorem dX6_of_74 : decode cX6_of 74 = .ok (.aload_n 3, 1) := by decide +kernel
theorem dX6_of_75 : decode cX6_of 75 = .ok (.getfield 158, 3) := by decide +kernel
theorem dX6_of_78 : decode cX6_of 78 = .ok (.ireturn, 1) := by decide +kernel
theorem dX6_of_79 : decode cX6_of 79 = .ok (.aload_n 3, 1) := by decide +kernel
theorem dX6_of_80 : decode cX6_of 80 = .ok (.getfield 168, 3) := by decide +kernel
theorem dX6_of_83 : decode cX6_of 83 = .ok (.ireturn, 1) := by decide +kernel
theorem dX6_of_84 : decode cX6_of 84 = .ok (.aload_n 3, 1) := by decide +kernel
theorem dX6_of_85 : decode cX6_of 85 = .ok (.getfield 171, 3) := by decide +kernel
theorem dX6_of_88 : decode cX6_of 88 = .ok (.ireturn, 1) := by decide +kernel
theorem dX6_of_89 : decode cX6_of 89 = .ok (.aload_n 3, 1) := by decide +kernel
theorem dX6_of_90 : decode cX6_of 90 = .ok (.getfield 174, 3) := by decide +kernel
theorem dX6_of_93 : decode cX6_of 93 = .ok (.ireturn, 1) := by decide +kernel
theorem dX6_of_94 : decode cX6_of 94 = .ok (.aload_n 3, 1) := by decide +kernel
theorem dX6_of_95 : decode cX6_of 95 = .ok (.getfield 177, 3) := by decide +kernel
theorem dX6_of_98 : decode cX6_of 98 = .ok (.ireturn, 1) := by decide +kernel
theorem dX6_of_99 : decode cX6_of 99 = .ok (.aload_n 0, 1) := by decide +kernel
theorem dX6_of_100 : decode cX6_of 100 = .ok (.bipush (-7), 2) := by decide +kernel
theorem dX6_of_102 : decode cX6_of 102 = .ok (.invokevirtual 95, 3) := by decide +kernel
theorem dX6_of_105 : decode cX6_of 105 = .ok (.ireturn, 1) := by decide +kernel
theorem dX6_may_0 : decode cX6_may 0 = .ok (.aload_n 0, 1) := by decide +kernel
theorem dX6_may_1 : decode cX6_may 1 = .ok (.iload_n 1, 1) := by decide +kernel
theorem dX6_may_2 : decode cX6_may 2 = .ok (.invokevirtual 165, 3) := by decide +kernel
theorem dX6_may_5 : decode cX6_may 5 = .ok (.ifCond .eq 11, 3) := by decide +kernel
theorem dX6_may_8 : decode cX6_may 8 = .ok (.aload_n 0, 1) := by decide +kernel
theorem dX6_may_9 : decode cX6_may 9 = .ok (.iload_n 2, 1) := by decide +kernel
theorem dX6_may_10 : decode cX6_may 10 = .ok (.invokevirtual 99, 3) := by decide +kernel
theorem dX6_may_13 : decode cX6_may 13 = .ok (.ifCond .ne 10, 3) := by decide +kernel
theorem dX6_may_16 : decode cX6_may 16 = .ok (.aload_n 0, 1) := by decide +kernel
theorem dX6_may_17 : decode cX6_may 17 = .ok (.bipush (-3), 2) := by decide +kernel
theorem dX6_may_19 : decode cX6_may 19 = .ok (.invokevirtual 95, 3) := by decide +kernel
theorem dX6_may_22 : decode cX6_may 22 = .ok (.ireturn, 1) := by decide +kernel
theorem dX6_may_23 : decode cX6_may 23 = .ok (.aload_n 0, 1) := by decide +kernel
theorem dX6_may_24 : decode cX6_may 24 = .ok (.aload_n 0, 1) := by decide +kernel
theorem dX6_may_25 : decode cX6_may 25 = .ok (.getfield 17, 3) := by decide +kernel
theorem dX6_may_28 : decode cX6_may 28 = .ok (.iload_n 1, 1) := by decide +kernel
theorem dX6_may_29 : decode cX6_may 29 = .ok (.aaload, 1) := by decide +kernel
theorem dX6_may_30 : decode cX6_may 30 = .ok (.iload_n 2, 1) := by decide +kernel
theorem dX6_may_31 : decode cX6_may 31 = .ok (.invokevirtual 180, 3) := by decide +kernel
theorem dX6_may_34 : decode cX6_may 34 = .ok (.ifCond .ne 7, 3) := by decide +kernel
theorem dX6_may_37 : decode cX6_may 37 = .ok (.iconst 1, 1) := by decide +kernel
theorem dX6_may_38 : decode cX6_may 38 = .ok (.goto 4, 3) := by decide +kernel
theorem dX6_may_41 : decode cX6_may 41 = .ok (.iconst 0, 1) := by decide +kernel
theorem dX6_may_42 : decode cX6_may 42 = .ok (.ireturn, 1) := by decide +kernel
theorem dX6_why_0 : decode cX6_why 0 = .ok (.aload_n 0, 1) := by decide +kernel
theorem dX6_why_1 : decode cX6_why 1 = .ok (.iload_n 1, 1) := by decide +kernel
theorem dX6_why_2 : decode cX6_why 2 = .ok (.invokevirtual 165, 3) := by decide +kernel
theorem dX6_why_5 : decode cX6_why 5 = .ok (.ifCond .eq 11, 3) := by decide +kernel
theorem dX6_why_8 : decode cX6_why 8 = .ok (.aload_n 0, 1) := by decide +kernel
theorem dX6_why_9 : decode cX6_why 9 = .ok (.iload_n 2, 1) := by decide +kernel
theorem dX6_why_10 : decode cX6_why 10 = .ok (.invokevirtual 99, 3) := by decide +kernel
theorem dX6_why_13 : decode cX6_why 13 = .ok (.ifCond .ne 10, 3) := by decide +kernel
theorem dX6_why_16 : decode cX6_why 16 = .ok (.aload_n 0, 1) := by decide +kernel
theorem dX6_why_17 : decode cX6_why 17 = .ok (.bipush (-3), 2) := by decide +kernel
theorem dX6_why_19 : decode cX6_why 19 = .ok (.invokevirtual 95, 3) := by decide +kernel
theorem dX6_why_22 : decode cX6_why 22 = .ok (.ireturn, 1) := by decide +kernel
theorem dX6_why_23 : decode cX6_why 23 = .ok (.aload_n 0, 1) := by decide +kernel
theorem dX6_why_24 : decode cX6_why 24 = .ok (.aload_n 0, 1) := by decide +kernel
theorem dX6_why_25 : decode cX6_why 25 = .ok (.getfield 17, 3) := by decide +kernel
theorem dX6_why_28 : decode cX6_why 28 = .ok (.iload_n 1, 1) := by decide +kernel
theorem dX6_why_29 : decode cX6_why 29 = .ok (.aaload, 1) := by decide +kernel
theorem dX6_why_30 : decode cX6_why 30 = .ok (.iload_n 2, 1) := by decide +kernel
theorem dX6_why_31 : decode cX6_why 31 = .ok (.invokevirtual 180, 3) := by decide +kernel
theorem dX6_why_34 : decode cX6_why 34 = .ok (.ireturn, 1) := by decide +kernel
theorem dX6_turn_0 : decode cX6_turn 0 = .ok (.aload_n 0, 1) := by decide +kernel
theorem dX6_turn_1 : decode cX6_turn 1 = .ok (.iload_n 1, 1) := by decide +kernel
theorem dX6_turn_2 : decode cX6_turn 2 = .ok (.invokevirtual 165, 3) := by decide +kernel
theorem dX6_turn_5 : decode cX6_turn 5 = .ok (.ifCond .ne 10, 3) := by decide +kernel
theorem dX6_turn_8 : decode cX6_turn 8 = .ok (.aload_n 0, 1) := by decide +kernel
theorem dX6_turn_9 : decode cX6_turn 9 = .ok (.bipush (-3), 2) := by decide +kernel
theorem dX6_turn_11 : decode cX6_turn 11 = .ok (.invokevirtual 95, 3) := by decide +kernel
theorem dX6_turn_14 : decode cX6_turn 14 = .ok (.ireturn, 1) := by decide +kernel
theorem dX6_turn_15 : decode cX6_turn 15 = .ok (.aload_n 0, 1) := by decide +kernel
theorem dX6_turn_16 : decode cX6_turn 16 = .ok (.getfield 17, 3) := by decide +kernel
theorem dX6_turn_19 : decode cX6_turn 19 = .ok (.iload_n 1, 1) := by decide +kernel
theorem dX6_turn_20 : decode cX6_turn 20 = .ok (.aaload, 1) := by decide +kernel
theorem dX6_turn_21 : decode cX6_turn 21 = .ok (.getfield 168, 3) := by decide +kernel
theorem dX6_turn_24 : decode cX6_turn 24 = .ok (.ifCond .eq 10, 3) := by decide +kernel
theorem dX6_turn_27 : decode cX6_turn 27 = .ok (.aload_n 0, 1) := by decide +kernel
theorem dX6_turn_28 : decode cX6_turn 28 = .ok (.bipush (-7), 2) := by decide +kernel
theorem dX6_turn_30 : decode cX6_turn 30 = .ok (.invokevirtual 95, 3) := by decide +kernel
theorem dX6_turn_33 : decode cX6_turn 33 = .ok (.ireturn, 1) := by decide +kernel
theorem dX6_turn_34 : decode cX6_turn 34 = .ok (.aload_n 0, 1) := by decide +kernel
theorem dX6_turn_35 : decode cX6_turn 35 = .ok (.getfield 17, 3) := by decide +kernel
theorem dX6_turn_38 : decode cX6_turn 38 = .ok (.iload_n 1, 1) := by decide +kernel
theorem dX6_turn_39 : decode cX6_turn 39 = .ok (.aaload, 1) := by decide +kernel
theorem dX6_turn_40 : decode cX6_turn 40 = .ok (.iconst 4, 1) := by decide +kernel
theorem dX6_turn_41 : decode cX6_turn 41 = .ok (.putfield 168, 3) := by decide +kernel
theorem dX6_turn_44 : decode cX6_turn 44 = .ok (.aload_n 0, 1) := by decide +kernel
theorem dX6_turn_45 : decode cX6_turn 45 = .ok (.iconst 0, 1) := by decide +kernel
theorem dX6_turn_46 : decode cX6_turn 46 = .ok (.invokevirtual 184, 3) := by decide +kernel
theorem dX6_turn_49 : decode cX6_turn 49 = .ok (.ireturn, 1) := by decide +kernel
theorem dX6_run_0 : decode cX6_run 0 = .ok (.iload_n 1, 1) := by decide +kernel
theorem dX6_run_1 : decode cX6_run 1 = .ok (.ifCond .ge 10, 3) := by decide +kernel
theorem dX6_run_4 : decode cX6_run 4 = .ok (.aload_n 0, 1) := by decide +kernel
theorem dX6_run_5 : decode cX6_run 5 = .ok (.bipush (-4), 2) := by decide +kernel
theorem dX6_run_7 : decode cX6_run 7 = .ok (.invokevirtual 95, 3) := by decide +kernel
theorem dX6_run_10 : decode cX6_run 10 = .ok (.ireturn, 1) := by decide +kernel
theorem dX6_run_11 : decode cX6_run 11 = .ok (.iload_n 1, 1) := by decide +kernel
theorem dX6_run_12 : decode cX6_run 12 = .ok (.iconst 1, 1) := by decide +kernel
theorem dX6_run_13 : decode cX6_run 13 = .ok (.sipush 200, 3) := by decide +kernel
theorem dX6_run_16 : decode cX6_run 16 = .ok (.invokestatic 91, 3) := by decide +kernel
theorem dX6_run_19 : decode cX6_run 19 = .ok (.ifCond .ne 10, 3) := by decide +kernel
theorem dX6_run_22 : decode cX6_run 22 = .ok (.aload_n 0, 1) := by decide +kernel
theorem dX6_run_23 : decode cX6_run 23 = .ok (.bipush (-7), 2) := by decide +kernel
theorem dX6_run_25 : decode cX6_run 25 = .ok (.invokevirtual 95, 3) := by decide +kernel
theorem dX6_run_28 : decode cX6_run 28 = .ok (.ireturn, 1) := by decide +kernel
theorem dX6_run_29 : decode cX6_run 29 = .ok (.aload_n 0, 1) := by decide +kernel
theorem dX6_run_30 : decode cX6_run 30 = .ok (.iconst 2, 1) := by decide +kernel
theorem dX6_run_31 : decode cX6_run 31 = .ok (.invokevirtual 184, 3) := by decide +kernel
theorem dX6_run_34 : decode cX6_run 34 = .ok (.istore_n 2, 1) := by decide +kernel
theorem dX6_run_35 : decode cX6_run 35 = .ok (.iconst 0, 1) := by decide +kernel
theorem dX6_run_36 : decode cX6_run 36 = .ok (.istore_n 3, 1) := by decide +kernel
theorem dX6_run_37 : decode cX6_run 37 = .ok (.iload_n 3, 1) := by decide +kernel
theorem dX6_run_38 : decode cX6_run 38 = .ok (.iload_n 1, 1) := by decide +kernel
theorem dX6_run_39 : decode cX6_run 39 = .ok (.if_icmp .ge 35, 3) := by decide +kernel
theorem dX6_run_42 : decode cX6_run 42 = .ok (.aload_n 0, 1) := by decide +kernel
theorem dX6_run_43 : decode cX6_run 43 = .ok (.invokevirtual 187, 3) := by decide +kernel
theorem dX6_run_46 : decode cX6_run 46 = .ok (.aload_n 0, 1) := by decide +kernel
theorem dX6_run_47 : decode cX6_run 47 = .ok (.invokevirtual 190, 3) := by decide +kernel
theorem dX6_run_50 : decode cX6_run 50 = .ok (.aload_n 0, 1) := by decide +kernel
theorem dX6_run_51 : decode cX6_run 51 = .ok (.invokevirtual 193, 3) := by decide +kernel
theorem dX6_run_54 : decode cX6_run 54 = .ok (.aload_n 0, 1) := by decide +kernel
theorem dX6_run_55 : decode cX6_run 55 = .ok (.invokevirtual 196, 3) := by decide +kernel
theorem dX6_run_58 : decode cX6_run 58 = .ok (.aload_n 0, 1) := by decide +kernel
theorem dX6_run_59 : decode cX6_run 59 = .ok (.dup, 1) := by decide +kernel
theorem dX6_run_60 : decode cX6_run 60 = .ok (.getfield 82, 3) := by decide +kernel
theorem dX6_run_63 : decode cX6_run 63 = .ok (.iconst 1, 1) := by decide +kernel
theorem dX6_run_64 : decode cX6_run 64 = .ok (.iadd, 1) := by decide +kernel
theorem dX6_run_65 : decode cX6_run 65 = .ok (.putfield 82, 3) := by decide +kernel
theorem dX6_run_68 : decode cX6_run 68 = .ok (.iinc 3 1, 3) := by decide +kernel
theorem dX6_run_71 : decode cX6_run 71 = .ok (.goto (-34), 3) := by decide +kernel
theorem dX6_run_74 : decode cX6_run 74 = .ok (.aload_n 0, 1) := by decide +kernel
theorem dX6_run_75 : decode cX6_run 75 = .ok (.iconst 2, 1) := by decide +kernel
theorem dX6_run_76 : decode cX6_run 76 = .ok (.invokevirtual 184, 3) := by decide +kernel
theorem dX6_run_79 : decode cX6_run 79 = .ok (.iload_n 2, 1) := by decide +kernel
theorem dX6_run_80 : decode cX6_run 80 = .ok (.isub, 1) := by decide +kernel
theorem dX6_run_81 : decode cX6_run 81 = .ok (.ireturn, 1) := by decide +kernel
theorem dX6_thaw_0 : decode cX6_thaw 0 = .ok (.iload_n 1, 1) := by decide +kernel
theorem dX6_thaw_1 : decode cX6_thaw 1 = .ok (.iconst 1, 1) := by decide +kernel
theorem dX6_thaw_2 : decode cX6_thaw 2 = .ok (.bipush 99, 2) := by decide +kernel
theorem dX6_thaw_4 : decode cX6_thaw 4 = .ok (.invokestatic 91, 3) := by decide +kernel
theorem dX6_thaw_7 : decode cX6_thaw 7 = .ok (.ifCond .eq 16, 3) := by decide +kernel
theorem dX6_thaw_10 : decode cX6_thaw 10 = .ok (.iload_n 2, 1) := by decide +kernel
theorem dX6_thaw_11 : decode cX6_thaw 11 = .ok (.sipush (-600), 3) := by decide +kernel
theorem dX6_thaw_14 : decode cX6_thaw 14 = .ok (.sipush 300, 3) := by decide +kernel
theorem dX6_thaw_17 : decode cX6_thaw 17 = .ok (.invokestatic 91, 3) := by decide +kernel
theorem dX6_thaw_20 : decode cX6_thaw 20 = .ok (.ifCond .ne 10, 3) := by decide +kernel
theorem dX6_thaw_23 : decode cX6_thaw 23 = .ok (.aload_n 0, 1) := by decide +kernel
theorem dX6_thaw_24 : decode cX6_thaw 24 = .ok (.bipush (-7), 2) := by decide +kernel
theorem dX6_thaw_26 : decode cX6_thaw 26 = .ok (.invokevirtual 95, 3) := by decide +kernel
theorem dX6_thaw_29 : decode cX6_thaw 29 = .ok (.ireturn, 1) := by decide +kernel
theorem dX6_thaw_30 : decode cX6_thaw 30 = .ok (.sipush 500, 3) := by decide +kernel
theorem dX6_thaw_33 : decode cX6_thaw 33 = .ok (.istore_n 3, 1) := by decide +kernel
theorem dX6_thaw_34 : decode cX6_thaw 34 = .ok (.iconst 0, 1) := by decide +kernel
theorem dX6_thaw_35 : decode cX6_thaw 35 = .ok (.istore 4, 2) := by decide +kernel
theorem dX6_thaw_37 : decode cX6_thaw 37 = .ok (.iload 4, 2) := by decide +kernel
theorem dX6_thaw_39 : decode cX6_thaw 39 = .ok (.aload_n 0, 1) := by decide +kernel
theorem dX6_thaw_40 : decode cX6_thaw 40 = .ok (.getfield 72, 3) := by decide +kernel
theorem dX6_thaw_43 : decode cX6_thaw 43 = .ok (.if_icmp .ge 24, 3) := by decide +kernel
theorem dX6_thaw_46 : decode cX6_thaw 46 = .ok (.aload_n 0, 1) := by decide +kernel
theorem dX6_thaw_47 : decode cX6_thaw 47 = .ok (.aload_n 0, 1) := by decide +kernel
theorem dX6_thaw_48 : decode cX6_thaw 48 = .ok (.getfield 11, 3) := by decide +kernel
theorem dX6_thaw_51 : decode cX6_thaw 51 = .ok (.iload 4, 2) := by decide +kernel
theorem dX6_thaw_53 : decode cX6_thaw 53 = .ok (.aaload, 1) := by decide +kernel
theorem dX6_thaw_54 : decode cX6_thaw 54 = .ok (.iload_n 1, 1) := by decide +kernel
theorem dX6_thaw_55 : decode cX6_thaw 55 = .ok (.iload_n 2, 1) := by decide +kernel
theorem dX6_thaw_56 : decode cX6_thaw 56 = .ok (.iload_n 3, 1) := by decide +kernel
theorem dX6_thaw_57 : decode cX6_thaw 57 = .ok (.invokevirtual 199, 3) := by decide +kernel
theorem dX6_thaw_60 : decode cX6_thaw 60 = .ok (.istore_n 3, 1) := by decide +kernel
theorem dX6_thaw_61 : decode cX6_thaw 61 = .ok (.iinc 4 1, 3) := by decide +kernel
theorem dX6_thaw_64 : decode cX6_thaw 64 = .ok (.goto (-27), 3) := by decide +kernel
theorem dX6_thaw_67 : decode cX6_thaw 67 = .ok (.iload_n 3, 1) := by decide +kernel
theorem dX6_thaw_68 : decode cX6_thaw 68 = .ok (.ireturn, 1) := by decide +kernel
theorem dX6_feed_0 : decode cX6_feed 0 = .ok (.iload_n 2, 1) := by decide +kernel
theorem dX6_feed_1 : decode cX6_feed 1 = .ok (.ifCond .ge 10, 3) := by decide +kernel
theorem dX6_feed_4 : decode cX6_feed 4 = .ok (.aload_n 0, 1) := by decide +kernel
theorem dX6_feed_5 : decode cX6_feed 5 = .ok (.bipush (-4), 2) := by decide +kernel
theorem dX6_feed_7 : decode cX6_feed 7 = .ok (.invokevirtual 95, 3) := by decide +kernel
theorem dX6_feed_10 : decode cX6_feed 10 = .ok (.ireturn, 1) := by decide +kernel
theorem dX6_feed_11 : decode cX6_feed 11 = .ok (.iload_n 2, 1) := by decide +kernel
theorem dX6_feed_12 : decode cX6_feed 12 = .ok (.iconst 4, 1) := by decide +kernel
theorem dX6_feed_13 : decode cX6_feed 13 = .ok (.if_icmp .le 10, 3) := by decide +kernel
theorem dX6_feed_16 : decode cX6_feed 16 = .ok (.aload_n 0, 1) := by decide +kernel
theorem dX6_feed_17 : decode cX6_feed 17 = .ok (.bipush (-7), 2) := by decide +kernel
theorem dX6_feed_19 : decode cX6_feed 19 = .ok (.invokevirtual 95, 3) := by decide +kernel
theorem dX6_feed_22 : decode cX6_feed 22 = .ok (.ireturn, 1) := by decide +kernel
theorem dX6_feed_23 : decode cX6_feed 23 = .ok (.aload_n 0, 1) := by decide +kernel
theorem dX6_feed_24 : decode cX6_feed 24 = .ok (.getfield 40, 3) := by decide +kernel
theorem dX6_feed_27 : decode cX6_feed 27 = .ok (.getfield 203, 3) := by decide +kernel
theorem dX6_feed_30 : decode cX6_feed 30 = .ok (.iload_n 2, 1) := by decide +kernel
theorem dX6_feed_31 : decode cX6_feed 31 = .ok (.iadd, 1) := by decide +kernel
theorem dX6_feed_32 : decode cX6_feed 32 = .ok (.bipush 80, 2) := by decide +kernel
theorem dX6_feed_34 : decode cX6_feed 34 = .ok (.if_icmp .le 10, 3) := by decide +kernel
theorem dX6_feed_37 : decode cX6_feed 37 = .ok (.aload_n 0, 1) := by decide +kernel
theorem dX6_feed_38 : decode cX6_feed 38 = .ok (.bipush (-8), 2) := by decide +kernel
theorem dX6_feed_40 : decode cX6_feed 40 = .ok (.invokevirtual 95, 3) := by decide +kernel
theorem dX6_feed_43 : decode cX6_feed 43 = .ok (.ireturn, 1) := by decide +kernel
theorem dX6_feed_44 : decode cX6_feed 44 = .ok (.iload_n 2, 1) := by decide +kernel
theorem dX6_feed_45 : decode cX6_feed 45 = .ok (.iconst 1, 1) := by decide +kernel
theorem dX6_feed_46 : decode cX6_feed 46 = .ok (.isub, 1) := by decide +kernel
theorem dX6_feed_47 : decode cX6_feed 47 = .ok (.istore_n 3, 1) := by decide +kernel
theorem dX6_feed_48 : decode cX6_feed 48 = .ok (.iload_n 3, 1) := by decide +kernel
theorem dX6_feed_49 : decode cX6_feed 49 = .ok (.ifCond .lt 26, 3) := by decide +kernel
theorem dX6_feed_52 : decode cX6_feed 52 = .ok (.aload_n 0, 1) := by decide +kernel
theorem dX6_feed_53 : decode cX6_feed 53 = .ok (.getfield 40, 3) := by decide +kernel
theorem dX6_feed_56 : decode cX6_feed 56 = .ok (.iload_n 1, 1) := by decide +kernel
theorem dX6_feed_57 : decode cX6_feed 57 = .ok (.bipush 8, 2) := by decide +kernel
theorem dX6_feed_59 : decode cX6_feed 59 = .ok (.iload_n 3, 1) := by decide +kernel
theorem dX6_feed_60 : decode cX6_feed 60 = .ok (.imul, 1) := by decide +kernel
theorem dX6_feed_61 : decode cX6_feed 61 = .ok (.ishr, 1) := by decide +kernel
theorem dX6_feed_62 : decode cX6_feed 62 = .ok (.sipush 255, 3) := by decide +kernel
theorem dX6_feed_65 : decode cX6_feed 65 = .ok (.iand, 1) := by decide +kernel
theorem dX6_feed_66 : decode cX6_feed 66 = .ok (.invokevirtual 204, 3) := by decide +kernel
theorem dX6_feed_69 : decode cX6_feed 69 = .ok (.iinc 3 (-1), 3) := by decide +kernel
theorem dX6_feed_72 : decode cX6_feed 72 = .ok (.goto (-24), 3) := by decide +kernel
theorem dX6_feed_75 : decode cX6_feed 75 = .ok (.aload_n 0, 1) := by decide +kernel
theorem dX6_feed_76 : decode cX6_feed 76 = .ok (.getfield 40, 3) := by decide +kernel
theorem dX6_feed_79 : decode cX6_feed 79 = .ok (.getfield 203, 3) := by decide +kernel
theorem dX6_feed_82 : decode cX6_feed 82 = .ok (.ireturn, 1) := by decide +kernel
theorem dX6_wipe_0 : decode cX6_wipe 0 = .ok (.aload_n 0, 1) := by decide +kernel
theorem dX6_wipe_1 : decode cX6_wipe 1 = .ok (.getfield 40, 3) := by decide +kernel
theorem dX6_wipe_4 : decode cX6_wipe 4 = .ok (.getfield 203, 3) := by decide +kernel
theorem dX6_wipe_7 : decode cX6_wipe 7 = .ok (.istore_n 1, 1) := by decide +kernel
theorem dX6_wipe_8 : decode cX6_wipe 8 = .ok (.aload_n 0, 1) := by decide +kernel
theorem dX6_wipe_9 : decode cX6_wipe 9 = .ok (.getfield 40, 3) := by decide +kernel
theorem dX6_wipe_12 : decode cX6_wipe 12 = .ok (.iconst 0, 1) := by decide +kernel
theorem dX6_wipe_13 : decode cX6_wipe 13 = .ok (.putfield 203, 3) := by decide +kernel
theorem dX6_wipe_16 : decode cX6_wipe 16 = .ok (.iload_n 1, 1) := by decide +kernel
theorem dX6_wipe_17 : decode cX6_wipe 17 = .ok (.ireturn, 1) := by decide +kernel
theorem dX6_rule_0 : decode cX6_rule 0 = .ok (.iload_n 1, 1) := by decide +kernel
theorem dX6_rule_1 : decode cX6_rule 1 = .ok (.iconst 0, 1) := by decide +kernel
theorem dX6_rule_2 : decode cX6_rule 2 = .ok (.ldc 207, 2) := by decide +kernel
theorem dX6_rule_4 : decode cX6_rule 4 = .ok (.invokestatic 91, 3) := by decide +kernel
theorem dX6_rule_7 : decode cX6_rule 7 = .ok (.ifCond .eq 18, 3) := by decide +kernel
theorem dX6_rule_10 : decode cX6_rule 10 = .ok (.iload_n 2, 1) := by decide +kernel
theorem dX6_rule_11 : decode cX6_rule 11 = .ok (.iconst 0, 1) := by decide +kernel
theorem dX6_rule_12 : decode cX6_rule 12 = .ok (.ldc 207, 2) := by decide +kernel
theorem dX6_rule_14 : decode cX6_rule 14 = .ok (.invokestatic 91, 3) := by decide +kernel
theorem dX6_rule_17 : decode cX6_rule 17 = .ok (.ifCond .eq 8, 3) := by decide +kernel
theorem dX6_rule_20 : decode cX6_rule 20 = .ok (.iload_n 1, 1) := by decide +kernel
theorem dX6_rule_21 : decode cX6_rule 21 = .ok (.iload_n 2, 1) := by decide +kernel
theorem dX6_rule_22 : decode cX6_rule 22 = .ok (.if_icmp .lt 10, 3) := by decide +kernel
theorem dX6_rule_25 : decode cX6_rule 25 = .ok (.aload_n 0, 1) := by decide +kernel
theorem dX6_rule_26 : decode cX6_rule 26 = .ok (.bipush (-7), 2) := by decide +kernel
theorem dX6_rule_28 : decode cX6_rule 28 = .ok (.invokevirtual 95, 3) := by decide +kernel
theorem dX6_rule_31 : decode cX6_rule 31 = .ok (.ireturn, 1) := by decide +kernel
theorem dX6_rule_32 : decode cX6_rule 32 = .ok (.aload_n 0, 1) := by decide +kernel
theorem dX6_rule_33 : decode cX6_rule 33 = .ok (.getfield 79, 3) := by decide +kernel
theorem dX6_rule_36 : decode cX6_rule 36 = .ok (.bipush 10, 2) := by decide +kernel
theorem dX6_rule_38 : decode cX6_rule 38 = .ok (.if_icmp .lt 10, 3) := by decide +kernel
theorem dX6_rule_41 : decode cX6_rule 41 = .ok (.aload_n 0, 1) := by decide +kernel
theorem dX6_rule_42 : decode cX6_rule 42 = .ok (.bipush (-8), 2) := by decide +kernel
theorem dX6_rule_44 : decode cX6_rule 44 = .ok (.invokevirtual 95, 3) := by decide +kernel
theorem dX6_rule_47 : decode cX6_rule 47 = .ok (.ireturn, 1) := by decide +kernel
theorem dX6_rule_48 : decode cX6_rule 48 = .ok (.aload_n 0, 1) := by decide +kernel
theorem dX6_rule_49 : decode cX6_rule 49 = .ok (.getfield 26, 3) := by decide +kernel
theorem dX6_rule_52 : decode cX6_rule 52 = .ok (.aload_n 0, 1) := by decide +kernel
theorem dX6_rule_53 : decode cX6_rule 53 = .ok (.getfield 79, 3) := by decide +kernel
theorem dX6_rule_56 : decode cX6_rule 56 = .ok (.aaload, 1) := by decide +kernel
theorem dX6_rule_57 : decode cX6_rule 57 = .ok (.astore_n 3, 1) := by decide +kernel
theorem dX6_rule_58 : decode cX6_rule 58 = .ok (.aload_n 0, 1) := by decide +kernel
theorem dX6_rule_59 : decode cX6_rule 59 = .ok (.getfield 49, 3) := by decide +kernel
theorem dX6_rule_62 : decode cX6_rule 62 = .ok (.aload_n 3, 1) := by decide +kernel
theorem dX6_rule_63 : decode cX6_rule 63 = .ok (.invokevirtual 208, 3) := by decide +kernel
theorem dX6_rule_66 : decode cX6_rule 66 = .ok (.ifCond .ne 14, 3) := by decide +kernel
theorem dX6_rule_69 : decode cX6_rule 69 = .ok (.bipush (-10), 2) := by decide +kernel
theorem dX6_rule_71 : decode cX6_rule 71 = .ok (.aload_n 0, 1) := by decide +kernel
theorem dX6_rule_72 : decode cX6_rule 72 = .ok (.getfield 49, 3) := by decide +kernel
theorem dX6_rule_75 : decode cX6_rule 75 = .ok (.getfield 212, 3) := by decide +kernel
theorem dX6_rule_78 : decode cX6_rule 78 = .ok (.isub, 1) := by decide +kernel
theorem dX6_rule_79 : decode cX6_rule 79 = .ok (.ireturn, 1) := by decide +kernel
theorem dX6_rule_80 : decode cX6_rule 80 = .ok (.aload_n 3, 1) := by decide +kernel
theorem dX6_rule_81 : decode cX6_rule 81 = .ok (.iload_n 1, 1) := by decide +kernel
theorem dX6_rule_82 : decode cX6_rule 82 = .ok (.putfield 213, 3) := by decide +kernel
theorem dX6_rule_85 : decode cX6_rule 85 = .ok (.aload_n 3, 1) := by decide +kernel
theorem dX6_rule_86 : decode cX6_rule 86 = .ok (.iload_n 2, 1) := by decide +kernel
theorem dX6_rule_87 : decode cX6_rule 87 = .ok (.putfield 216, 3) := by decide +kernel
theorem dX6_rule_90 : decode cX6_rule 90 = .ok (.aload_n 0, 1) := by decide +kernel
theorem dX6_rule_91 : decode cX6_rule 91 = .ok (.getfield 40, 3) := by decide +kernel
theorem dX6_rule_94 : decode cX6_rule 94 = .ok (.iconst 0, 1) := by decide +kernel
theorem dX6_rule_95 : decode cX6_rule 95 = .ok (.putfield 203, 3) := by decide +kernel
theorem dX6_rule_98 : decode cX6_rule 98 = .ok (.aload_n 0, 1) := by decide +kernel
theorem dX6_rule_99 : decode cX6_rule 99 = .ok (.dup, 1) := by decide +kernel
theorem dX6_rule_100 : decode cX6_rule 100 = .ok (.getfield 79, 3) := by decide +kernel
theorem dX6_rule_103 : decode cX6_rule 103 = .ok (.iconst 1, 1) := by decide +kernel
theorem dX6_rule_104 : decode cX6_rule 104 = .ok (.iadd, 1) := by decide +kernel
theorem dX6_rule_105 : decode cX6_rule 105 = .ok (.putfield 79, 3) := by decide +kernel
theorem dX6_rule_108 : decode cX6_rule 108 = .ok (.aload_n 0, 1) := by decide +kernel
theorem dX6_rule_109 : decode cX6_rule 109 = .ok (.getfield 79, 3) := by decide +kernel
theorem dX6_rule_112 : decode cX6_rule 112 = .ok (.iconst 1, 1) := by decide +kernel
theorem dX6_rule_113 : decode cX6_rule 113 = .ok (.isub, 1) := by decide +kernel
theorem dX6_rule_114 : decode cX6_rule 114 = .ok (.ireturn, 1) := by decide +kernel
theorem dX6_said_0 : decode cX6_said 0 = .ok (.aload_n 0, 1) := by decide +kernel
theorem dX6_said_1 : decode cX6_said 1 = .ok (.iload_n 1, 1) := by decide +kernel
theorem dX6_said_2 : decode cX6_said 2 = .ok (.invokevirtual 165, 3) := by decide +kernel
theorem dX6_said_5 : decode cX6_said 5 = .ok (.ifCond .eq 11, 3) := by decide +kernel
theorem dX6_said_8 : decode cX6_said 8 = .ok (.aload_n 0, 1) := by decide +kernel
theorem dX6_said_9 : decode cX6_said 9 = .ok (.iload_n 2, 1) := by decide +kernel
theorem dX6_said_10 : decode cX6_said 10 = .ok (.invokevirtual 99, 3) := by decide +kernel
theorem dX6_said_13 : decode cX6_said 13 = .ok (.ifCond .ne 10, 3) := by decide +kernel
theorem dX6_said_16 : decode cX6_said 16 = .ok (.aload_n 0, 1) := by decide +kernel
theorem dX6_said_17 : decode cX6_said 17 = .ok (.bipush (-3), 2) := by decide +kernel
theorem dX6_said_19 : decode cX6_said 19 = .ok (.invokevirtual 95, 3) := by decide +kernel
theorem dX6_said_22 : decode cX6_said 22 = .ok (.ireturn, 1) := by decide +kernel
theorem dX6_said_23 : decode cX6_said 23 = .ok (.iload_n 3, 1) := by decide +kernel
theorem dX6_said_24 : decode cX6_said 24 = .ok (.iconst 0, 1) := by decide +kernel
theorem dX6_said_25 : decode cX6_said 25 = .ok (.iconst 2, 1) := by decide +kernel
theorem dX6_said_26 : decode cX6_said 26 = .ok (.invokestatic 91, 3) := by decide +kernel
theorem dX6_said_29 : decode cX6_said 29 = .ok (.ifCond .ne 10, 3) := by decide +kernel
theorem dX6_said_32 : decode cX6_said 32 = .ok (.aload_n 0, 1) := by decide +kernel
theorem dX6_said_33 : decode cX6_said 33 = .ok (.bipush (-7), 2) := by decide +kernel
theorem dX6_said_35 : decode cX6_said 35 = .ok (.invokevirtual 95, 3) := by decide +kernel
theorem dX6_said_38 : decode cX6_said 38 = .ok (.ireturn, 1) := by decide +kernel
theorem dX6_said_39 : decode cX6_said 39 = .ok (.aload_n 0, 1) := by decide +kernel
theorem dX6_said_40 : decode cX6_said 40 = .ok (.aload_n 0, 1) := by decide +kernel
theorem dX6_said_41 : decode cX6_said 41 = .ok (.getfield 17, 3) := by decide +kernel
theorem dX6_said_44 : decode cX6_said 44 = .ok (.iload_n 1, 1) := by decide +kernel
theorem dX6_said_45 : decode cX6_said 45 = .ok (.aaload, 1) := by decide +kernel
theorem dX6_said_46 : decode cX6_said 46 = .ok (.iload_n 2, 1) := by decide +kernel
theorem dX6_said_47 : decode cX6_said 47 = .ok (.invokevirtual 219, 3) := by decide +kernel
theorem dX6_said_50 : decode cX6_said 50 = .ok (.aload_n 0, 1) := by decide +kernel
theorem dX6_said_51 : decode cX6_said 51 = .ok (.iload_n 3, 1) := by decide +kernel
theorem dX6_said_52 : decode cX6_said 52 = .ok (.invokevirtual 223, 3) := by decide +kernel
theorem dX6_said_55 : decode cX6_said 55 = .ok (.ireturn, 1) := by decide +kernel
theorem dX6_count_0 : decode cX6_count 0 = .ok (.iload_n 1, 1) := by decide +kernel
theorem dX6_count_1 : decode cX6_count 1 = .ok (.tableswitch 122 0 10 #[59, 64, 69, 74, 79, 87, 93, 99, 105, 111, 117], 59) := by decide +kernel
theorem dX6_count_60 : decode cX6_count 60 = .ok (.aload_n 0, 1) := by decide +kernel
theorem dX6_count_61 : decode cX6_count 61 = .ok (.getfield 82, 3) := by decide +kernel
theorem dX6_count_64 : decode cX6_count 64 = .ok (.ireturn, 1) := by decide +kernel
theorem dX6_count_65 : decode cX6_count 65 = .ok (.aload_n 0, 1) := by decide +kernel
theorem dX6_count_66 : decode cX6_count 66 = .ok (.getfield 72, 3) := by decide +kernel
theorem dX6_count_69 : decode cX6_count 69 = .ok (.ireturn, 1) := by decide +kernel
theorem dX6_count_70 : decode cX6_count 70 = .ok (.aload_n 0, 1) := by decide +kernel
theorem dX6_count_71 : decode cX6_count 71 = .ok (.getfield 76, 3) := by decide +kernel
theorem dX6_count_74 : decode cX6_count 74 = .ok (.ireturn, 1) := by decide +kernel
theorem dX6_count_75 : decode cX6_count 75 = .ok (.aload_n 0, 1) := by decide +kernel
theorem dX6_count_76 : decode cX6_count 76 = .ok (.getfield 79, 3) := by decide +kernel
theorem dX6_count_79 : decode cX6_count 79 = .ok (.ireturn, 1) := by decide +kernel
theorem dX6_count_80 : decode cX6_count 80 = .ok (.aload_n 0, 1) := by decide +kernel
theorem dX6_count_81 : decode cX6_count 81 = .ok (.getfield 40, 3) := by decide +kernel
theorem dX6_count_84 : decode cX6_count 84 = .ok (.getfield 203, 3) := by decide +kernel
theorem dX6_count_87 : decode cX6_count 87 = .ok (.ireturn, 1) := by decide +kernel
theorem dX6_count_88 : decode cX6_count 88 = .ok (.aload_n 0, 1) := by decide +kernel
theorem dX6_count_89 : decode cX6_count 89 = .ok (.iconst 0, 1) := by decide +kernel
theorem dX6_count_90 : decode cX6_count 90 = .ok (.invokevirtual 184, 3) := by decide +kernel
theorem dX6_count_93 : decode cX6_count 93 = .ok (.ireturn, 1) := by decide +kernel
theorem dX6_count_94 : decode cX6_count 94 = .ok (.aload_n 0, 1) := by decide +kernel
theorem dX6_count_95 : decode cX6_count 95 = .ok (.iconst 1, 1) := by decide +kernel
theorem dX6_count_96 : decode cX6_count 96 = .ok (.invokevirtual 184, 3) := by decide +kernel
theorem dX6_count_99 : decode cX6_count 99 = .ok (.ireturn, 1) := by decide +kernel
theorem dX6_count_100 : decode cX6_count 100 = .ok (.aload_n 0, 1) := by decide +kernel
theorem dX6_count_101 : decode cX6_count 101 = .ok (.iconst 2, 1) := by decide +kernel
theorem dX6_count_102 : decode cX6_count 102 = .ok (.invokevirtual 184, 3) := by decide +kernel
theorem dX6_count_105 : decode cX6_count 105 = .ok (.ireturn, 1) := by decide +kernel
theorem dX6_count_106 : decode cX6_count 106 = .ok (.aload_n 0, 1) := by decide +kernel
theorem dX6_count_107 : decode cX6_count 107 = .ok (.iconst 3, 1) := by decide +kernel
theorem dX6_count_108 : decode cX6_count 108 = .ok (.invokevirtual 184, 3) := by decide +kernel
theorem dX6_count_111 : decode cX6_count 111 = .ok (.ireturn, 1) := by decide +kernel
theorem dX6_count_112 : decode cX6_count 112 = .ok (.aload_n 0, 1) := by decide +kernel
theorem dX6_count_113 : decode cX6_count 113 = .ok (.iconst 4, 1) := by decide +kernel
theorem dX6_count_114 : decode cX6_count 114 = .ok (.invokevirtual 184, 3) := by decide +kernel
theorem dX6_count_117 : decode cX6_count 117 = .ok (.ireturn, 1) := by decide +kernel
theorem dX6_count_118 : decode cX6_count 118 = .ok (.aload_n 0, 1) := by decide +kernel
theorem dX6_count_119 : decode cX6_count 119 = .ok (.invokevirtual 226, 3) := by decide +kernel
theorem dX6_count_122 : decode cX6_count 122 = .ok (.ireturn, 1) := by decide +kernel
theorem dX6_count_123 : decode cX6_count 123 = .ok (.aload_n 0, 1) := by decide +kernel
theorem dX6_count_124 : decode cX6_count 124 = .ok (.bipush (-7), 2) := by decide +kernel
theorem dX6_count_126 : decode cX6_count 126 = .ok (.invokevirtual 95, 3) := by decide +kernel
theorem dX6_count_129 : decode cX6_count 129 = .ok (.ireturn, 1) := by decide +kernel
theorem dX6_tell_0 : decode cX6_tell 0 = .ok (.iload_n 1, 1) := by decide +kernel
theorem dX6_tell_1 : decode cX6_tell 1 = .ok (.iconst 0, 1) := by decide +kernel
theorem dX6_tell_2 : decode cX6_tell 2 = .ok (.bipush 47, 2) := by decide +kernel
theorem dX6_tell_4 : decode cX6_tell 4 = .ok (.invokestatic 91, 3) := by decide +kernel
theorem dX6_tell_7 : decode cX6_tell 7 = .ok (.ifCond .ne 10, 3) := by decide +kernel
theorem dX6_tell_10 : decode cX6_tell 10 = .ok (.aload_n 0, 1) := by decide +kernel
theorem dX6_tell_11 : decode cX6_tell 11 = .ok (.bipush (-3), 2) := by decide +kernel
theorem dX6_tell_13 : decode cX6_tell 13 = .ok (.invokevirtual 95, 3) := by decide +kernel
theorem dX6_tell_16 : decode cX6_tell 16 = .ok (.ireturn, 1) := by decide +kernel
theorem dX6_tell_17 : decode cX6_tell 17 = .ok (.iload_n 2, 1) := by decide +kernel
theorem dX6_tell_18 : decode cX6_tell 18 = .ok (.sipush (-9999), 3) := by decide +kernel
theorem dX6_tell_21 : decode cX6_tell 21 = .ok (.sipush 9999, 3) := by decide +kernel
theorem dX6_tell_24 : decode cX6_tell 24 = .ok (.invokestatic 91, 3) := by decide +kernel
theorem dX6_tell_27 : decode cX6_tell 27 = .ok (.ifCond .ne 10, 3) := by decide +kernel
theorem dX6_tell_30 : decode cX6_tell 30 = .ok (.aload_n 0, 1) := by decide +kernel
theorem dX6_tell_31 : decode cX6_tell 31 = .ok (.bipush (-7), 2) := by decide +kernel
theorem dX6_tell_33 : decode cX6_tell 33 = .ok (.invokevirtual 95, 3) := by decide +kernel
theorem dX6_tell_36 : decode cX6_tell 36 = .ok (.ireturn, 1) := by decide +kernel
theorem dX6_tell_37 : decode cX6_tell 37 = .ok (.aload_n 0, 1) := by decide +kernel
theorem dX6_tell_38 : decode cX6_tell 38 = .ok (.iconst 1, 1) := by decide +kernel
theorem dX6_tell_39 : decode cX6_tell 39 = .ok (.putfield 68, 3) := by decide +kernel
theorem dX6_tell_42 : decode cX6_tell 42 = .ok (.aload_n 0, 1) := by decide +kernel
theorem dX6_tell_43 : decode cX6_tell 43 = .ok (.getfield 53, 3) := by decide +kernel
theorem dX6_tell_46 : decode cX6_tell 46 = .ok (.iload_n 1, 1) := by decide +kernel
theorem dX6_tell_47 : decode cX6_tell 47 = .ok (.iload_n 2, 1) := by decide +kernel
theorem dX6_tell_48 : decode cX6_tell 48 = .ok (.iastore, 1) := by decide +kernel
theorem dX6_tell_49 : decode cX6_tell 49 = .ok (.iconst 1, 1) := by decide +kernel
theorem dX6_tell_50 : decode cX6_tell 50 = .ok (.ireturn, 1) := by decide +kernel
theorem dX6_tear_0 : decode cX6_tear 0 = .ok (.aload_n 0, 1) := by decide +kernel
theorem dX6_tear_1 : decode cX6_tear 1 = .ok (.getfield 68, 3) := by decide +kernel
theorem dX6_tear_4 : decode cX6_tear 4 = .ok (.ifCond .ne 5, 3) := by decide +kernel
theorem dX6_tear_7 : decode cX6_tear 7 = .ok (.iconst 0, 1) := by decide +kernel
theorem dX6_tear_8 : decode cX6_tear 8 = .ok (.ireturn, 1) := by decide +kernel
theorem dX6_tear_9 : decode cX6_tear 9 = .ok (.aload_n 0, 1) := by decide +kernel
theorem dX6_tear_10 : decode cX6_tear 10 = .ok (.iconst 0, 1) := by decide +kernel
theorem dX6_tear_11 : decode cX6_tear 11 = .ok (.putfield 68, 3) := by decide +kernel
theorem dX6_tear_14 : decode cX6_tear 14 = .ok (.iconst 0, 1) := by decide +kernel
theorem dX6_tear_15 : decode cX6_tear 15 = .ok (.istore_n 1, 1) := by decide +kernel
theorem dX6_tear_16 : decode cX6_tear 16 = .ok (.iload_n 1, 1) := by decide +kernel
theorem dX6_tear_17 : decode cX6_tear 17 = .ok (.bipush 48, 2) := by decide +kernel
theorem dX6_tear_19 : decode cX6_tear 19 = .ok (.if_icmp .ge 16, 3) := by decide +kernel
theorem dX6_tear_22 : decode cX6_tear 22 = .ok (.aload_n 0, 1) := by decide +kernel
theorem dX6_tear_23 : decode cX6_tear 23 = .ok (.getfield 53, 3) := by decide +kernel
theorem dX6_tear_26 : decode cX6_tear 26 = .ok (.iload_n 1, 1) := by decide +kernel
theorem dX6_tear_27 : decode cX6_tear 27 = .ok (.iconst 0, 1) := by decide +kernel
theorem dX6_tear_28 : decode cX6_tear 28 = .ok (.iastore, 1) := by decide +kernel
theorem dX6_tear_29 : decode cX6_tear 29 = .ok (.iinc 1 1, 3) := by decide +kernel
theorem dX6_tear_32 : decode cX6_tear 32 = .ok (.goto (-16), 3) := by decide +kernel
theorem dX6_tear_35 : decode cX6_tear 35 = .ok (.iconst 1, 1) := by decide +kernel
theorem dX6_tear_36 : decode cX6_tear 36 = .ok (.ireturn, 1) := by decide +kernel
theorem dX6_row_0 : decode cX6_row 0 = .ok (.aload_n 0, 1) := by decide +kernel
theorem dX6_row_1 : decode cX6_row 1 = .ok (.getfield 68, 3) := by decide +kernel
theorem dX6_row_4 : decode cX6_row 4 = .ok (.ifCond .ne 12, 3) := by decide +kernel
theorem dX6_row_7 : decode cX6_row 7 = .ok (.aload_n 0, 1) := by decide +kernel
theorem dX6_row_8 : decode cX6_row 8 = .ok (.bipush (-2), 2) := by decide +kernel
theorem dX6_row_10 : decode cX6_row 10 = .ok (.invokevirtual 95, 3) := by decide +kernel
theorem dX6_row_13 : decode cX6_row 13 = .ok (.pop, 1) := by decide +kernel
theorem dX6_row_14 : decode cX6_row 14 = .ok (.iconst 0, 1) := by decide +kernel
theorem dX6_row_15 : decode cX6_row 15 = .ok (.ireturn, 1) := by decide +kernel
theorem dX6_row_16 : decode cX6_row 16 = .ok (.iload_n 1, 1) := by decide +kernel
theorem dX6_row_17 : decode cX6_row 17 = .ok (.iconst 0, 1) := by decide +kernel
theorem dX6_row_18 : decode cX6_row 18 = .ok (.bipush 47, 2) := by decide +kernel
theorem dX6_row_20 : decode cX6_row 20 = .ok (.invokestatic 91, 3) := by decide +kernel
theorem dX6_row_23 : decode cX6_row 23 = .ok (.ifCond .ne 12, 3) := by decide +kernel
theorem dX6_row_26 : decode cX6_row 26 = .ok (.aload_n 0, 1) := by decide +kernel
theorem dX6_row_27 : decode cX6_row 27 = .ok (.bipush (-3), 2) := by decide +kernel
theorem dX6_row_29 : decode cX6_row 29 = .ok (.invokevirtual 95, 3) := by decide +kernel
theorem dX6_row_32 : decode cX6_row 32 = .ok (.pop, 1) := by decide +kernel
theorem dX6_row_33 : decode cX6_row 33 = .ok (.iconst 0, 1) := by decide +kernel
theorem dX6_row_34 : decode cX6_row 34 = .ok (.ireturn, 1) := by decide +kernel
theorem dX6_row_35 : decode cX6_row 35 = .ok (.aload_n 0, 1) := by decide +kernel
theorem dX6_row_36 : decode cX6_row 36 = .ok (.getfield 53, 3) := by decide +kernel
theorem dX6_row_39 : decode cX6_row 39 = .ok (.iload_n 1, 1) := by decide +kernel
theorem dX6_row_40 : decode cX6_row 40 = .ok (.iaload, 1) := by decide +kernel
theorem dX6_row_41 : decode cX6_row 41 = .ok (.ireturn, 1) := by decide +kernel
theorem dX6_copy_0 : decode cX6_copy 0 = .ok (.aload_n 0, 1) := by decide +kernel
theorem dX6_copy_1 : decode cX6_copy 1 = .ok (.getfield 68, 3) := by decide +kernel
theorem dX6_copy_4 : decode cX6_copy 4 = .ok (.ifCond .ne 10, 3) := by decide +kernel
theorem dX6_copy_7 : decode cX6_copy 7 = .ok (.aload_n 0, 1) := by decide +kernel
theorem dX6_copy_8 : decode cX6_copy 8 = .ok (.bipush (-2), 2) := by decide +kernel
theorem dX6_copy_10 : decode cX6_copy 10 = .ok (.invokevirtual 95, 3) := by decide +kernel
theorem dX6_copy_13 : decode cX6_copy 13 = .ok (.ireturn, 1) := by decide +kernel
theorem dX6_copy_14 : decode cX6_copy 14 = .ok (.iload_n 3, 1) := by decide +kernel
theorem dX6_copy_15 : decode cX6_copy 15 = .ok (.ifCond .ge 10, 3) := by decide +kernel
theorem dX6_copy_18 : decode cX6_copy 18 = .ok (.aload_n 0, 1) := by decide +kernel
theorem dX6_copy_19 : decode cX6_copy 19 = .ok (.bipush (-4), 2) := by decide +kernel
theorem dX6_copy_21 : decode cX6_copy 21 = .ok (.invokevirtual 95, 3) := by decide +kernel
theorem dX6_copy_24 : decode cX6_copy 24 = .ok (.ireturn, 1) := by decide +kernel
theorem dX6_copy_25 : decode cX6_copy 25 = .ok (.iload_n 1, 1) := by decide +kernel
theorem dX6_copy_26 : decode cX6_copy 26 = .ok (.ifCond .lt 23, 3) := by decide +kernel
theorem dX6_copy_29 : decode cX6_copy 29 = .ok (.iload_n 2, 1) := by decide +kernel
theorem dX6_copy_30 : decode cX6_copy 30 = .ok (.ifCond .lt 19, 3) := by decide +kernel
theorem dX6_copy_33 : decode cX6_copy 33 = .ok (.iload_n 1, 1) := by decide +kernel
theorem dX6_copy_34 : decode cX6_copy 34 = .ok (.bipush 48, 2) := by decide +kernel
theorem dX6_copy_36 : decode cX6_copy 36 = .ok (.iload_n 3, 1) := by decide +kernel
theorem dX6_copy_37 : decode cX6_copy 37 = .ok (.isub, 1) := by decide +kernel
theorem dX6_copy_38 : decode cX6_copy 38 = .ok (.if_icmp .gt 11, 3) := by decide +kernel
theorem dX6_copy_41 : decode cX6_copy 41 = .ok (.iload_n 2, 1) := by decide +kernel
theorem dX6_copy_42 : decode cX6_copy 42 = .ok (.bipush 48, 2) := by decide +kernel
theorem dX6_copy_44 : decode cX6_copy 44 = .ok (.iload_n 3, 1) := by decide +kernel
theorem dX6_copy_45 : decode cX6_copy 45 = .ok (.isub, 1) := by decide +kernel
theorem dX6_copy_46 : decode cX6_copy 46 = .ok (.if_icmp .le 10, 3) := by decide +kernel
theorem dX6_copy_49 : decode cX6_copy 49 = .ok (.aload_n 0, 1) := by decide +kernel
theorem dX6_copy_50 : decode cX6_copy 50 = .ok (.bipush (-6), 2) := by decide +kernel
theorem dX6_copy_52 : decode cX6_copy 52 = .ok (.invokevirtual 95, 3) := by decide +kernel
theorem dX6_copy_55 : decode cX6_copy 55 = .ok (.ireturn, 1) := by decide +kernel
theorem dX6_copy_56 : decode cX6_copy 56 = .ok (.aload_n 0, 1) := by decide +kernel
theorem dX6_copy_57 : decode cX6_copy 57 = .ok (.getfield 53, 3) := by decide +kernel
theorem dX6_copy_60 : decode cX6_copy 60 = .ok (.iload_n 1, 1) := by decide +kernel
theorem dX6_copy_61 : decode cX6_copy 61 = .ok (.aload_n 0, 1) := by decide +kernel
theorem dX6_copy_62 : decode cX6_copy 62 = .ok (.getfield 53, 3) := by decide +kernel
theorem dX6_copy_65 : decode cX6_copy 65 = .ok (.iload_n 2, 1) := by decide +kernel
theorem dX6_copy_66 : decode cX6_copy 66 = .ok (.iload_n 3, 1) := by decide +kernel
theorem dX6_copy_67 : decode cX6_copy 67 = .ok (.invokestatic 230, 3) := by decide +kernel
theorem dX6_copy_70 : decode cX6_copy 70 = .ok (.iload_n 3, 1) := by decide +kernel
theorem dX6_copy_71 : decode cX6_copy 71 = .ok (.ireturn, 1) := by decide +kernel
theorem dX6_status_0 : decode cX6_status 0 = .ok (.iload_n 1, 1) := by decide +kernel
theorem dX6_status_1 : decode cX6_status 1 = .ok (.bipush (-8), 2) := by decide +kernel
theorem dX6_status_3 : decode cX6_status 3 = .ok (.bipush (-2), 2) := by decide +kernel
theorem dX6_status_5 : decode cX6_status 5 = .ok (.invokestatic 91, 3) := by decide +kernel
theorem dX6_status_8 : decode cX6_status 8 = .ok (.ifCond .ne 10, 3) := by decide +kernel
theorem dX6_status_11 : decode cX6_status 11 = .ok (.aload_n 0, 1) := by decide +kernel
theorem dX6_status_12 : decode cX6_status 12 = .ok (.bipush (-7), 2) := by decide +kernel
theorem dX6_status_14 : decode cX6_status 14 = .ok (.invokevirtual 95, 3) := by decide +kernel
theorem dX6_status_17 : decode cX6_status 17 = .ok (.ireturn, 1) := by decide +kernel
theorem dX6_status_18 : decode cX6_status 18 = .ok (.aload_n 0, 1) := by decide +kernel
theorem dX6_status_19 : decode cX6_status 19 = .ok (.getfield 57, 3) := by decide +kernel
theorem dX6_status_22 : decode cX6_status 22 = .ok (.bipush (-2), 2) := by decide +kernel
theorem dX6_status_24 : decode cX6_status 24 = .ok (.iload_n 1, 1) := by decide +kernel
theorem dX6_status_25 : decode cX6_status 25 = .ok (.isub, 1) := by decide +kernel
theorem dX6_status_26 : decode cX6_status 26 = .ok (.iaload, 1) := by decide +kernel
theorem dX6_status_27 : decode cX6_status 27 = .ok (.ireturn, 1) := by decide +kernel
theorem dX6_refuse_0 : decode cX6_refuse 0 = .ok (.iload_n 1, 1) := by decide +kernel
theorem dX6_refuse_1 : decode cX6_refuse 1 = .ok (.bipush (-8), 2) := by decide +kernel
theorem dX6_refuse_3 : decode cX6_refuse 3 = .ok (.bipush (-2), 2) := by decide +kernel
theorem dX6_refuse_5 : decode cX6_refuse 5 = .ok (.invokestatic 91, 3) := by decide +kernel
theorem dX6_refuse_8 : decode cX6_refuse 8 = .ok (.ifCond .eq 16, 3) := by decide +kernel
theorem dX6_refuse_11 : decode cX6_refuse 11 = .ok (.aload_n 0, 1) := by decide +kernel
theorem dX6_refuse_12 : decode cX6_refuse 12 = .ok (.getfield 57, 3) := by decide +kernel
theorem dX6_refuse_15 : decode cX6_refuse 15 = .ok (.bipush (-2), 2) := by decide +kernel
theorem dX6_refuse_17 : decode cX6_refuse 17 = .ok (.iload_n 1, 1) := by decide +kernel
theorem dX6_refuse_18 : decode cX6_refuse 18 = .ok (.isub, 1) := by decide +kernel
theorem dX6_refuse_19 : decode cX6_refuse 19 = .ok (.dup2, 1) := by decide +kernel
theorem dX6_refuse_20 : decode cX6_refuse 20 = .ok (.iaload, 1) := by decide +kernel
theorem dX6_refuse_21 : decode cX6_refuse 21 = .ok (.iconst 1, 1) := by decide +kernel
theorem dX6_refuse_22 : decode cX6_refuse 22 = .ok (.iadd, 1) := by decide +kernel
theorem dX6_refuse_23 : decode cX6_refuse 23 = .ok (.iastore, 1) := by decide +kernel
theorem dX6_refuse_24 : decode cX6_refuse 24 = .ok (.iload_n 1, 1) := by decide +kernel
theorem dX6_refuse_25 : decode cX6_refuse 25 = .ok (.ireturn, 1) := by decide +kernel
theorem dX6_isWithin_0 : decode cX6_isWithin 0 = .ok (.iload_n 0, 1) := by decide +kernel
theorem dX6_isWithin_1 : decode cX6_isWithin 1 = .ok (.iload_n 1, 1) := by decide +kernel
theorem dX6_isWithin_2 : decode cX6_isWithin 2 = .ok (.if_icmp .lt 12, 3) := by decide +kernel
theorem dX6_isWithin_5 : decode cX6_isWithin 5 = .ok (.iload_n 0, 1) := by decide +kernel
theorem dX6_isWithin_6 : decode cX6_isWithin 6 = .ok (.iload_n 2, 1) := by decide +kernel
theorem dX6_isWithin_7 : decode cX6_isWithin 7 = .ok (.if_icmp .gt 7, 3) := by decide +kernel
theorem dX6_isWithin_10 : decode cX6_isWithin 10 = .ok (.iconst 1, 1) := by decide +kernel
theorem dX6_isWithin_11 : decode cX6_isWithin 11 = .ok (.goto 4, 3) := by decide +kernel
theorem dX6_isWithin_14 : decode cX6_isWithin 14 = .ok (.iconst 0, 1) := by decide +kernel
theorem dX6_isWithin_15 : decode cX6_isWithin 15 = .ok (.ireturn, 1) := by decide +kernel
theorem dX6_isCell_0 : decode cX6_isCell 0 = .ok (.iload_n 1, 1) := by decide +kernel
theorem dX6_isCell_1 : decode cX6_isCell 1 = .ok (.ifCond .lt 15, 3) := by decide +kernel
theorem dX6_isCell_4 : decode cX6_isCell 4 = .ok (.iload_n 1, 1) := by decide +kernel
theorem dX6_isCell_5 : decode cX6_isCell 5 = .ok (.aload_n 0, 1) := by decide +kernel
theorem dX6_isCell_6 : decode cX6_isCell 6 = .ok (.getfield 72, 3) := by decide +kernel
theorem dX6_isCell_9 : decode cX6_isCell 9 = .ok (.if_icmp .ge 7, 3) := by decide +kernel
theorem dX6_isCell_12 : decode cX6_isCell 12 = .ok (.iconst 1, 1) := by decide +kernel
theorem dX6_isCell_13 : decode cX6_isCell 13 = .ok (.goto 4, 3) := by decide +kernel
theorem dX6_isCell_16 : decode cX6_isCell 16 = .ok (.iconst 0, 1) := by decide +kernel
theorem dX6_isCell_17 : decode cX6_isCell 17 = .ok (.ireturn, 1) := by decide +kernel
theorem dX6_isLoad_0 : decode cX6_isLoad 0 = .ok (.iload_n 1, 1) := by decide +kernel
theorem dX6_isLoad_1 : decode cX6_isLoad 1 = .ok (.ifCond .lt 15, 3) := by decide +kernel
theorem dX6_isLoad_4 : decode cX6_isLoad 4 = .ok (.iload_n 1, 1) := by decide +kernel
theorem dX6_isLoad_5 : decode cX6_isLoad 5 = .ok (.aload_n 0, 1) := by decide +kernel
theorem dX6_isLoad_6 : decode cX6_isLoad 6 = .ok (.getfield 76, 3) := by decide +kernel
theorem dX6_isLoad_9 : decode cX6_isLoad 9 = .ok (.if_icmp .ge 7, 3) := by decide +kernel
theorem dX6_isLoad_12 : decode cX6_isLoad 12 = .ok (.iconst 1, 1) := by decide +kernel
theorem dX6_isLoad_13 : decode cX6_isLoad 13 = .ok (.goto 4, 3) := by decide +kernel
theorem dX6_isLoad_16 : decode cX6_isLoad 16 = .ok (.iconst 0, 1) := by decide +kernel
theorem dX6_isLoad_17 : decode cX6_isLoad 17 = .ok (.ireturn, 1) := by decide +kernel
theorem dX6_leastOf_0 : decode cX6_leastOf 0 = .ok (.aload_n 0, 1) := by decide +kernel
theorem dX6_leastOf_1 : decode cX6_leastOf 1 = .ok (.getfield 11, 3) := by decide +kernel
theorem dX6_leastOf_4 : decode cX6_leastOf 4 = .ok (.iload_n 1, 1) := by decide +kernel
theorem dX6_leastOf_5 : decode cX6_leastOf 5 = .ok (.aaload, 1) := by decide +kernel
theorem dX6_leastOf_6 : decode cX6_leastOf 6 = .ok (.astore_n 2, 1) := by decide +kernel
theorem dX6_leastOf_7 : decode cX6_leastOf 7 = .ok (.aload_n 2, 1) := by decide +kernel
theorem dX6_leastOf_8 : decode cX6_leastOf 8 = .ok (.getfield 103, 3) := by decide +kernel
theorem dX6_leastOf_11 : decode cX6_leastOf 11 = .ok (.iconst 4, 1) := by decide +kernel
theorem dX6_leastOf_12 : decode cX6_leastOf 12 = .ok (.if_icmp .ne 7, 3) := by decide +kernel
theorem dX6_leastOf_15 : decode cX6_leastOf 15 = .ok (.sipush 3000, 3) := by decide +kernel
theorem dX6_leastOf_18 : decode cX6_leastOf 18 = .ok (.ireturn, 1) := by decide +kernel
theorem dX6_leastOf_19 : decode cX6_leastOf 19 = .ok (.aload_n 2, 1) := by decide +kernel
theorem dX6_leastOf_20 : decode cX6_leastOf 20 = .ok (.getfield 133, 3) := by decide +kernel
theorem dX6_leastOf_23 : decode cX6_leastOf 23 = .ok (.iconst (-1), 1) := by decide +kernel
theorem dX6_leastOf_24 : decode cX6_leastOf 24 = .ok (.if_icmp .eq 8, 3) := by decide +kernel
theorem dX6_leastOf_27 : decode cX6_leastOf 27 = .ok (.aload_n 2, 1) := by decide +kernel
theorem dX6_leastOf_28 : decode cX6_leastOf 28 = .ok (.getfield 133, 3) := by decide +kernel
theorem dX6_leastOf_31 : decode cX6_leastOf 31 = .ok (.ireturn, 1) := by decide +kernel
theorem dX6_leastOf_32 : decode cX6_leastOf 32 = .ok (.aload_n 0, 1) := by decide +kernel
theorem dX6_leastOf_33 : decode cX6_leastOf 33 = .ok (.iload_n 1, 1) := by decide +kernel
theorem dX6_leastOf_34 : decode cX6_leastOf 34 = .ok (.iconst (-1), 1) := by decide +kernel
theorem dX6_leastOf_35 : decode cX6_leastOf 35 = .ok (.invokevirtual 236, 3) := by decide +kernel
theorem dX6_leastOf_38 : decode cX6_leastOf 38 = .ok (.istore_n 3, 1) := by decide +kernel
theorem dX6_leastOf_39 : decode cX6_leastOf 39 = .ok (.aload_n 0, 1) := by decide +kernel
theorem dX6_leastOf_40 : decode cX6_leastOf 40 = .ok (.iload_n 1, 1) := by decide +kernel
theorem dX6_leastOf_41 : decode cX6_leastOf 41 = .ok (.iconst 1, 1) := by decide +kernel
theorem dX6_leastOf_42 : decode cX6_leastOf 42 = .ok (.invokevirtual 236, 3) := by decide +kernel
theorem dX6_leastOf_45 : decode cX6_leastOf 45 = .ok (.istore 4, 2) := by decide +kernel
theorem dX6_leastOf_47 : decode cX6_leastOf 47 = .ok (.iload_n 3, 1) := by decide +kernel
theorem dX6_leastOf_48 : decode cX6_leastOf 48 = .ok (.iconst (-1), 1) := by decide +kernel
theorem dX6_leastOf_49 : decode cX6_leastOf 49 = .ok (.if_icmp .ne 11, 3) := by decide +kernel
theorem dX6_leastOf_52 : decode cX6_leastOf 52 = .ok (.iload 4, 2) := by decide +kernel
theorem dX6_leastOf_54 : decode cX6_leastOf 54 = .ok (.iconst (-1), 1) := by decide +kernel
theorem dX6_leastOf_55 : decode cX6_leastOf 55 = .ok (.if_icmp .ne 5, 3) := by decide +kernel
theorem dX6_leastOf_58 : decode cX6_leastOf 58 = .ok (.iconst 0, 1) := by decide +kernel
theorem dX6_leastOf_59 : decode cX6_leastOf 59 = .ok (.ireturn, 1) := by decide +kernel
theorem dX6_leastOf_60 : decode cX6_leastOf 60 = .ok (.iload_n 3, 1) := by decide +kernel
theorem dX6_leastOf_61 : decode cX6_leastOf 61 = .ok (.iconst (-1), 1) := by decide +kernel
theorem dX6_leastOf_62 : decode cX6_leastOf 62 = .ok (.if_icmp .eq 9, 3) := by decide +kernel
theorem dX6_leastOf_65 : decode cX6_leastOf 65 = .ok (.iload 4, 2) := by decide +kernel
theorem dX6_leastOf_67 : decode cX6_leastOf 67 = .ok (.iconst (-1), 1) := by decide +kernel
theorem dX6_leastOf_68 : decode cX6_leastOf 68 = .ok (.if_icmp .ne 12, 3) := by decide +kernel
theorem dX6_leastOf_71 : decode cX6_leastOf 71 = .ok (.iload_n 3, 1) := by decide +kernel
theorem dX6_leastOf_72 : decode cX6_leastOf 72 = .ok (.iload 4, 2) := by decide +kernel
theorem dX6_leastOf_74 : decode cX6_leastOf 74 = .ok (.invokestatic 240, 3) := by decide +kernel
theorem dX6_leastOf_77 : decode cX6_leastOf 77 = .ok (.iconst 2, 1) := by decide +kernel
theorem dX6_leastOf_78 : decode cX6_leastOf 78 = .ok (.idiv, 1) := by decide +kernel
theorem dX6_leastOf_79 : decode cX6_leastOf 79 = .ok (.ireturn, 1) := by decide +kernel
theorem dX6_leastOf_80 : decode cX6_leastOf 80 = .ok (.iload_n 3, 1) := by decide +kernel
theorem dX6_leastOf_81 : decode cX6_leastOf 81 = .ok (.iload 4, 2) := by decide +kernel
theorem dX6_leastOf_83 : decode cX6_leastOf 83 = .ok (.invokestatic 245, 3) := by decide +kernel
theorem dX6_leastOf_86 : decode cX6_leastOf 86 = .ok (.ireturn, 1) := by decide +kernel
theorem dX6_mostOf_0 : decode cX6_mostOf 0 = .ok (.aload_n 0, 1) := by decide +kernel
theorem dX6_mostOf_1 : decode cX6_mostOf 1 = .ok (.getfield 11, 3) := by decide +kernel
theorem dX6_mostOf_4 : decode cX6_mostOf 4 = .ok (.iload_n 1, 1) := by decide +kernel
theorem dX6_mostOf_5 : decode cX6_mostOf 5 = .ok (.aaload, 1) := by decide +kernel
theorem dX6_mostOf_6 : decode cX6_mostOf 6 = .ok (.astore_n 2, 1) := by decide +kernel
theorem dX6_mostOf_7 : decode cX6_mostOf 7 = .ok (.aload_n 2, 1) := by decide +kernel
theorem dX6_mostOf_8 : decode cX6_mostOf 8 = .ok (.getfield 103, 3) := by decide +kernel
theorem dX6_mostOf_11 : decode cX6_mostOf 11 = .ok (.iconst 4, 1) := by decide +kernel
theorem dX6_mostOf_12 : decode cX6_mostOf 12 = .ok (.if_icmp .ne 7, 3) := by decide +kernel
theorem dX6_mostOf_15 : decode cX6_mostOf 15 = .ok (.sipush 3000, 3) := by decide +kernel
theorem dX6_mostOf_18 : decode cX6_mostOf 18 = .ok (.ireturn, 1) := by decide +kernel
theorem dX6_mostOf_19 : decode cX6_mostOf 19 = .ok (.aload_n 2, 1) := by decide +kernel
theorem dX6_mostOf_20 : decode cX6_mostOf 20 = .ok (.getfield 133, 3) := by decide +kernel
theorem dX6_mostOf_23 : decode cX6_mostOf 23 = .ok (.iconst (-1), 1) := by decide +kernel
theorem dX6_mostOf_24 : decode cX6_mostOf 24 = .ok (.if_icmp .eq 8, 3) := by decide +kernel
theorem dX6_mostOf_27 : decode cX6_mostOf 27 = .ok (.aload_n 2, 1) := by decide +kernel
theorem dX6_mostOf_28 : decode cX6_mostOf 28 = .ok (.getfield 133, 3) := by decide +kernel
theorem dX6_mostOf_31 : decode cX6_mostOf 31 = .ok (.ireturn, 1) := by decide +kernel
theorem dX6_mostOf_32 : decode cX6_mostOf 32 = .ok (.aload_n 0, 1) := by decide +kernel
theorem dX6_mostOf_33 : decode cX6_mostOf 33 = .ok (.iload_n 1, 1) := by decide +kernel
theorem dX6_mostOf_34 : decode cX6_mostOf 34 = .ok (.iconst (-1), 1) := by decide +kernel
theorem dX6_mostOf_35 : decode cX6_mostOf 35 = .ok (.invokevirtual 236, 3) := by decide +kernel
theorem dX6_mostOf_38 : decode cX6_mostOf 38 = .ok (.istore_n 3, 1) := by decide +kernel
theorem dX6_mostOf_39 : decode cX6_mostOf 39 = .ok (.aload_n 0, 1) := by decide +kernel
theorem dX6_mostOf_40 : decode cX6_mostOf 40 = .ok (.iload_n 1, 1) := by decide +kernel
theorem dX6_mostOf_41 : decode cX6_mostOf 41 = .ok (.iconst 1, 1) := by decide +kernel
theorem dX6_mostOf_42 : decode cX6_mostOf 42 = .ok (.invokevirtual 236, 3) := by decide +kernel
theorem dX6_mostOf_45 : decode cX6_mostOf 45 = .ok (.istore 4, 2) := by decide +kernel
theorem dX6_mostOf_47 : decode cX6_mostOf 47 = .ok (.iload_n 3, 1) := by decide +kernel
theorem dX6_mostOf_48 : decode cX6_mostOf 48 = .ok (.iconst (-1), 1) := by decide +kernel
theorem dX6_mostOf_49 : decode cX6_mostOf 49 = .ok (.if_icmp .ne 13, 3) := by decide +kernel
theorem dX6_mostOf_52 : decode cX6_mostOf 52 = .ok (.iload 4, 2) := by decide +kernel
theorem dX6_mostOf_54 : decode cX6_mostOf 54 = .ok (.iconst (-1), 1) := by decide +kernel
theorem dX6_mostOf_55 : decode cX6_mostOf 55 = .ok (.if_icmp .ne 7, 3) := by decide +kernel
theorem dX6_mostOf_58 : decode cX6_mostOf 58 = .ok (.sipush 3000, 3) := by decide +kernel
theorem dX6_mostOf_61 : decode cX6_mostOf 61 = .ok (.ireturn, 1) := by decide +kernel
theorem dX6_mostOf_62 : decode cX6_mostOf 62 = .ok (.iload_n 3, 1) := by decide +kernel
theorem dX6_mostOf_63 : decode cX6_mostOf 63 = .ok (.iload 4, 2) := by decide +kernel
theorem dX6_mostOf_65 : decode cX6_mostOf 65 = .ok (.invokestatic 240, 3) := by decide +kernel
theorem dX6_mostOf_68 : decode cX6_mostOf 68 = .ok (.ireturn, 1) := by decide +kernel
theorem dX6_nearestKnown_0 : decode cX6_nearestKnown 0 = .ok (.iload_n 1, 1) := by decide +kernel
theorem dX6_nearestKnown_1 : decode cX6_nearestKnown 1 = .ok (.iload_n 2, 1) := by decide +kernel
theorem dX6_nearestKnown_2 : decode cX6_nearestKnown 2 = .ok (.iadd, 1) := by decide +kernel
theorem dX6_nearestKnown_3 : decode cX6_nearestKnown 3 = .ok (.istore_n 3, 1) := by decide +kernel
theorem dX6_nearestKnown_4 : decode cX6_nearestKnown 4 = .ok (.iconst 0, 1) := by decide +kernel
theorem dX6_nearestKnown_5 : decode cX6_nearestKnown 5 = .ok (.istore 4, 2) := by decide +kernel
theorem dX6_nearestKnown_7 : decode cX6_nearestKnown 7 = .ok (.iload 4, 2) := by decide +kernel
theorem dX6_nearestKnown_9 : decode cX6_nearestKnown 9 = .ok (.bipush 10, 2) := by decide +kernel
theorem dX6_nearestKnown_11 : decode cX6_nearestKnown 11 = .ok (.if_icmp .ge 44, 3) := by decide +kernel
theorem dX6_nearestKnown_14 : decode cX6_nearestKnown 14 = .ok (.aload_n 0, 1) := by decide +kernel
theorem dX6_nearestKnown_15 : decode cX6_nearestKnown 15 = .ok (.iload_n 3, 1) := by decide +kernel
theorem dX6_nearestKnown_16 : decode cX6_nearestKnown 16 = .ok (.invokevirtual 99, 3) := by decide +kernel
theorem dX6_nearestKnown_19 : decode cX6_nearestKnown 19 = .ok (.ifCond .eq 36, 3) := by decide +kernel
theorem dX6_nearestKnown_22 : decode cX6_nearestKnown 22 = .ok (.aload_n 0, 1) := by decide +kernel
theorem dX6_nearestKnown_23 : decode cX6_nearestKnown 23 = .ok (.getfield 11, 3) := by decide +kernel
theorem dX6_nearestKnown_26 : decode cX6_nearestKnown 26 = .ok (.iload_n 3, 1) := by decide +kernel
theorem dX6_nearestKnown_27 : decode cX6_nearestKnown 27 = .ok (.aaload, 1) := by decide +kernel
theorem dX6_nearestKnown_28 : decode cX6_nearestKnown 28 = .ok (.getfield 133, 3) := by decide +kernel
theorem dX6_nearestKnown_31 : decode cX6_nearestKnown 31 = .ok (.iconst (-1), 1) := by decide +kernel
theorem dX6_nearestKnown_32 : decode cX6_nearestKnown 32 = .ok (.if_icmp .eq 13, 3) := by decide +kernel
theorem dX6_nearestKnown_35 : decode cX6_nearestKnown 35 = .ok (.aload_n 0, 1) := by decide +kernel
theorem dX6_nearestKnown_36 : decode cX6_nearestKnown 36 = .ok (.getfield 11, 3) := by decide +kernel
theorem dX6_nearestKnown_39 : decode cX6_nearestKnown 39 = .ok (.iload_n 3, 1) := by decide +kernel
theorem dX6_nearestKnown_40 : decode cX6_nearestKnown 40 = .ok (.aaload, 1) := by decide +kernel
theorem dX6_nearestKnown_41 : decode cX6_nearestKnown 41 = .ok (.getfield 133, 3) := by decide +kernel
theorem dX6_nearestKnown_44 : decode cX6_nearestKnown 44 = .ok (.ireturn, 1) := by decide +kernel
theorem dX6_nearestKnown_45 : decode cX6_nearestKnown 45 = .ok (.iload_n 3, 1) := by decide +kernel
theorem dX6_nearestKnown_46 : decode cX6_nearestKnown 46 = .ok (.iload_n 2, 1) := by decide +kernel
theorem dX6_nearestKnown_47 : decode cX6_nearestKnown 47 = .ok (.iadd, 1) := by decide +kernel
theorem dX6_nearestKnown_48 : decode cX6_nearestKnown 48 = .ok (.istore_n 3, 1) := by decide +kernel
theorem dX6_nearestKnown_49 : decode cX6_nearestKnown 49 = .ok (.iinc 4 1, 3) := by decide +kernel
theorem dX6_nearestKnown_52 : decode cX6_nearestKnown 52 = .ok (.goto (-45), 3) := by decide +kernel
theorem dX6_nearestKnown_55 : decode cX6_nearestKnown 55 = .ok (.iconst (-1), 1) := by decide +kernel
theorem dX6_nearestKnown_56 : decode cX6_nearestKnown 56 = .ok (.ireturn, 1) := by decide +kernel
theorem dX6_gatherFacts_0 : decode cX6_gatherFacts 0 = .ok (.aload_n 0, 1) := by decide +kernel
theorem dX6_gatherFacts_1 : decode cX6_gatherFacts 1 = .ok (.getfield 60, 3) := by decide +kernel
theorem dX6_gatherFacts_4 : decode cX6_gatherFacts 4 = .ok (.iconst 0, 1) := by decide +kernel
theorem dX6_gatherFacts_5 : decode cX6_gatherFacts 5 = .ok (.aload_n 1, 1) := by decide +kernel
theorem dX6_gatherFacts_6 : decode cX6_gatherFacts 6 = .ok (.getfield 152, 3) := by decide +kernel
theorem dX6_gatherFacts_9 : decode cX6_gatherFacts 9 = .ok (.iastore, 1) := by decide +kernel
theorem dX6_gatherFacts_10 : decode cX6_gatherFacts 10 = .ok (.aload_n 0, 1) := by decide +kernel
theorem dX6_gatherFacts_11 : decode cX6_gatherFacts 11 = .ok (.getfield 60, 3) := by decide +kernel
theorem dX6_gatherFacts_14 : decode cX6_gatherFacts 14 = .ok (.iconst 1, 1) := by decide +kernel
theorem dX6_gatherFacts_15 : decode cX6_gatherFacts 15 = .ok (.aload_n 1, 1) := by decide +kernel
theorem dX6_gatherFacts_16 : decode cX6_gatherFacts 16 = .ok (.getfield 155, 3) := by decide +kernel
theorem dX6_gatherFacts_19 : decode cX6_gatherFacts 19 = .ok (.iastore, 1) := by decide +kernel
theorem dX6_gatherFacts_20 : decode cX6_gatherFacts 20 = .ok (.aload_n 0, 1) := by decide +kernel
theorem dX6_gatherFacts_21 : decode cX6_gatherFacts 21 = .ok (.getfield 60, 3) := by decide +kernel
theorem dX6_gatherFacts_24 : decode cX6_gatherFacts 24 = .ok (.iconst 2, 1) := by decide +kernel
theorem dX6_gatherFacts_25 : decode cX6_gatherFacts 25 = .ok (.iload_n 2, 1) := by decide +kernel
theorem dX6_gatherFacts_26 : decode cX6_gatherFacts 26 = .ok (.iastore, 1) := by decide +kernel
theorem dX6_gatherFacts_27 : decode cX6_gatherFacts 27 = .ok (.aload_n 0, 1) := by decide +kernel
theorem dX6_gatherFacts_28 : decode cX6_gatherFacts 28 = .ok (.getfield 60, 3) := by decide +kernel
theorem dX6_gatherFacts_31 : decode cX6_gatherFacts 31 = .ok (.iconst 3, 1) := by decide +kernel
theorem dX6_gatherFacts_32 : decode cX6_gatherFacts 32 = .ok (.aload_n 0, 1) := by decide +kernel
theorem dX6_gatherFacts_33 : decode cX6_gatherFacts 33 = .ok (.getfield 33, 3) := by decide +kernel
theorem dX6_gatherFacts_36 : decode cX6_gatherFacts 36 = .ok (.aload_n 0, 1) := by decide +kernel
theorem dX6_gatherFacts_37 : decode cX6_gatherFacts 37 = .ok (.getfield 82, 3) := by decide +kernel
theorem dX6_gatherFacts_40 : decode cX6_gatherFacts 40 = .ok (.invokevirtual 142, 3) := by decide +kernel
theorem dX6_gatherFacts_43 : decode cX6_gatherFacts 43 = .ok (.iastore, 1) := by decide +kernel
theorem dX6_gatherFacts_44 : decode cX6_gatherFacts 44 = .ok (.aload_n 0, 1) := by decide +kernel
theorem dX6_gatherFacts_45 : decode cX6_gatherFacts 45 = .ok (.getfield 60, 3) := by decide +kernel
theorem dX6_gatherFacts_48 : decode cX6_gatherFacts 48 = .ok (.iconst 4, 1) := by decide +kernel
theorem dX6_gatherFacts_49 : decode cX6_gatherFacts 49 = .ok (.aload_n 0, 1) := by decide +kernel
theorem dX6_gatherFacts_50 : decode cX6_gatherFacts 50 = .ok (.getfield 11, 3) := by decide +kernel
theorem dX6_gatherFacts_53 : decode cX6_gatherFacts 53 = .ok (.iload_n 2, 1) := by decide +kernel
theorem dX6_gatherFacts_54 : decode cX6_gatherFacts 54 = .ok (.aaload, 1) := by decide +kernel
theorem dX6_gatherFacts_55 : decode cX6_gatherFacts 55 = .ok (.getfield 109, 3) := by decide +kernel
theorem dX6_gatherFacts_58 : decode cX6_gatherFacts 58 = .ok (.iastore, 1) := by decide +kernel
theorem dX6_gatherFacts_59 : decode cX6_gatherFacts 59 = .ok (.return_, 1) := by decide +kernel
theorem dX6_numberFor_0 : decode cX6_numberFor 0 = .ok (.aload_n 0, 1) := by decide +kernel
theorem dX6_numberFor_1 : decode cX6_numberFor 1 = .ok (.getfield 79, 3) := by decide +kernel
theorem dX6_numberFor_4 : decode cX6_numberFor 4 = .ok (.iconst 1, 1) := by decide +kernel
theorem dX6_numberFor_5 : decode cX6_numberFor 5 = .ok (.isub, 1) := by decide +kernel
theorem dX6_numberFor_6 : decode cX6_numberFor 6 = .ok (.istore_n 2, 1) := by decide +kernel
theorem dX6_numberFor_7 : decode cX6_numberFor 7 = .ok (.iload_n 2, 1) := by decide +kernel
theorem dX6_numberFor_8 : decode cX6_numberFor 8 = .ok (.ifCond .lt 52, 3) := by decide +kernel
theorem dX6_numberFor_11 : decode cX6_numberFor 11 = .ok (.aload_n 0, 1) := by decide +kernel
theorem dX6_numberFor_12 : decode cX6_numberFor 12 = .ok (.getfield 26, 3) := by decide +kernel
theorem dX6_numberFor_15 : decode cX6_numberFor 15 = .ok (.iload_n 2, 1) := by decide +kernel
theorem dX6_numberFor_16 : decode cX6_numberFor 16 = .ok (.aaload, 1) := by decide +kernel
theorem dX6_numberFor_17 : decode cX6_numberFor 17 = .ok (.getfield 248, 3) := by decide +kernel
theorem dX6_numberFor_20 : decode cX6_numberFor 20 = .ok (.iload_n 1, 1) := by decide +kernel
theorem dX6_numberFor_21 : decode cX6_numberFor 21 = .ok (.if_icmp .ne 33, 3) := by decide +kernel
theorem dX6_numberFor_24 : decode cX6_numberFor 24 = .ok (.aload_n 0, 1) := by decide +kernel
theorem dX6_numberFor_25 : decode cX6_numberFor 25 = .ok (.getfield 26, 3) := by decide +kernel
theorem dX6_numberFor_28 : decode cX6_numberFor 28 = .ok (.iload_n 2, 1) := by decide +kernel
theorem dX6_numberFor_29 : decode cX6_numberFor 29 = .ok (.aaload, 1) := by decide +kernel
theorem dX6_numberFor_30 : decode cX6_numberFor 30 = .ok (.aload_n 0, 1) := by decide +kernel
theorem dX6_numberFor_31 : decode cX6_numberFor 31 = .ok (.getfield 82, 3) := by decide +kernel
theorem dX6_numberFor_34 : decode cX6_numberFor 34 = .ok (.aload_n 0, 1) := by decide +kernel
theorem dX6_numberFor_35 : decode cX6_numberFor 35 = .ok (.getfield 60, 3) := by decide +kernel
theorem dX6_numberFor_38 : decode cX6_numberFor 38 = .ok (.invokevirtual 251, 3) := by decide +kernel
theorem dX6_numberFor_41 : decode cX6_numberFor 41 = .ok (.ifCond .eq 13, 3) := by decide +kernel
theorem dX6_numberFor_44 : decode cX6_numberFor 44 = .ok (.aload_n 0, 1) := by decide +kernel
theorem dX6_numberFor_45 : decode cX6_numberFor 45 = .ok (.getfield 26, 3) := by decide +kernel
theorem dX6_numberFor_48 : decode cX6_numberFor 48 = .ok (.iload_n 2, 1) := by decide +kernel
theorem dX6_numberFor_49 : decode cX6_numberFor 49 = .ok (.aaload, 1) := by decide +kernel
theorem dX6_numberFor_50 : decode cX6_numberFor 50 = .ok (.getfield 255, 3) := by decide +kernel
theorem dX6_numberFor_53 : decode cX6_numberFor 53 = .ok (.ireturn, 1) := by decide +kernel
theorem dX6_numberFor_54 : decode cX6_numberFor 54 = .ok (.iinc 2 (-1), 3) := by decide +kernel
theorem dX6_numberFor_57 : decode cX6_numberFor 57 = .ok (.goto (-50), 3) := by decide +kernel
theorem dX6_numberFor_60 : decode cX6_numberFor 60 = .ok (.iload_n 1, 1) := by decide +kernel
theorem dX6_numberFor_61 : decode cX6_numberFor 61 = .ok (.iconst 1, 1) := by decide +kernel
theorem dX6_numberFor_62 : decode cX6_numberFor 62 = .ok (.if_icmp .ne 7, 3) := by decide +kernel
theorem dX6_numberFor_65 : decode cX6_numberFor 65 = .ok (.iconst 1, 1) := by decide +kernel
theorem dX6_numberFor_66 : decode cX6_numberFor 66 = .ok (.goto 4, 3) := by decide +kernel
theorem dX6_numberFor_69 : decode cX6_numberFor 69 = .ok (.iconst 0, 1) := by decide +kernel
theorem dX6_numberFor_70 : decode cX6_numberFor 70 = .ok (.ireturn, 1) := by decide +kernel
theorem dX6_reasonAgainst_0 : decode cX6_reasonAgainst 0 = .ok (.aload_n 0, 1) := by decide +kernel
theorem dX6_reasonAgainst_1 : decode cX6_reasonAgainst 1 = .ok (.aload_n 1, 1) := by decide +kernel
theorem dX6_reasonAgainst_2 : decode cX6_reasonAgainst 2 = .ok (.iload_n 2, 1) := by decide +kernel
theorem dX6_reasonAgainst_3 : decode cX6_reasonAgainst 3 = .ok (.invokevirtual 219, 3) := by decide +kernel
theorem dX6_reasonAgainst_6 : decode cX6_reasonAgainst 6 = .ok (.aload_n 0, 1) := by decide +kernel
theorem dX6_reasonAgainst_7 : decode cX6_reasonAgainst 7 = .ok (.iconst 2, 1) := by decide +kernel
theorem dX6_reasonAgainst_8 : decode cX6_reasonAgainst 8 = .ok (.invokevirtual 223, 3) := by decide +kernel
theorem dX6_reasonAgainst_11 : decode cX6_reasonAgainst 11 = .ok (.ifCond .eq 5, 3) := by decide +kernel
theorem dX6_reasonAgainst_14 : decode cX6_reasonAgainst 14 = .ok (.iconst 1, 1) := by decide +kernel
theorem dX6_reasonAgainst_15 : decode cX6_reasonAgainst 15 = .ok (.ireturn, 1) := by decide +kernel
theorem dX6_reasonAgainst_16 : decode cX6_reasonAgainst 16 = .ok (.aload_n 0, 1) := by decide +kernel
theorem dX6_reasonAgainst_17 : decode cX6_reasonAgainst 17 = .ok (.iload_n 2, 1) := by decide +kernel
theorem dX6_reasonAgainst_18 : decode cX6_reasonAgainst 18 = .ok (.invokevirtual 124, 3) := by decide +kernel
theorem dX6_reasonAgainst_21 : decode cX6_reasonAgainst 21 = .ok (.aload_n 0, 1) := by decide +kernel
theorem dX6_reasonAgainst_22 : decode cX6_reasonAgainst 22 = .ok (.iconst 0, 1) := by decide +kernel
theorem dX6_reasonAgainst_23 : decode cX6_reasonAgainst 23 = .ok (.invokevirtual 223, 3) := by decide +kernel
theorem dX6_reasonAgainst_26 : decode cX6_reasonAgainst 26 = .ok (.if_icmp .ge 5, 3) := by decide +kernel
theorem dX6_reasonAgainst_29 : decode cX6_reasonAgainst 29 = .ok (.iconst 2, 1) := by decide +kernel
theorem dX6_reasonAgainst_30 : decode cX6_reasonAgainst 30 = .ok (.ireturn, 1) := by decide +kernel
theorem dX6_reasonAgainst_31 : decode cX6_reasonAgainst 31 = .ok (.aload_n 0, 1) := by decide +kernel
theorem dX6_reasonAgainst_32 : decode cX6_reasonAgainst 32 = .ok (.getfield 11, 3) := by decide +kernel
theorem dX6_reasonAgainst_35 : decode cX6_reasonAgainst 35 = .ok (.iload_n 2, 1) := by decide +kernel
theorem dX6_reasonAgainst_36 : decode cX6_reasonAgainst 36 = .ok (.aaload, 1) := by decide +kernel
theorem dX6_reasonAgainst_37 : decode cX6_reasonAgainst 37 = .ok (.aload_n 1, 1) := by decide +kernel
theorem dX6_reasonAgainst_38 : decode cX6_reasonAgainst 38 = .ok (.getfield 158, 3) := by decide +kernel
theorem dX6_reasonAgainst_41 : decode cX6_reasonAgainst 41 = .ok (.invokevirtual 258, 3) := by decide +kernel
theorem dX6_reasonAgainst_44 : decode cX6_reasonAgainst 44 = .ok (.istore_n 3, 1) := by decide +kernel
theorem dX6_reasonAgainst_45 : decode cX6_reasonAgainst 45 = .ok (.iload_n 3, 1) := by decide +kernel
theorem dX6_reasonAgainst_46 : decode cX6_reasonAgainst 46 = .ok (.iconst (-1), 1) := by decide +kernel
theorem dX6_reasonAgainst_47 : decode cX6_reasonAgainst 47 = .ok (.if_icmp .eq 19, 3) := by decide +kernel
theorem dX6_reasonAgainst_50 : decode cX6_reasonAgainst 50 = .ok (.aload_n 0, 1) := by decide +kernel
theorem dX6_reasonAgainst_51 : decode cX6_reasonAgainst 51 = .ok (.getfield 82, 3) := by decide +kernel
theorem dX6_reasonAgainst_54 : decode cX6_reasonAgainst 54 = .ok (.iload_n 3, 1) := by decide +kernel
theorem dX6_reasonAgainst_55 : decode cX6_reasonAgainst 55 = .ok (.isub, 1) := by decide +kernel
theorem dX6_reasonAgainst_56 : decode cX6_reasonAgainst 56 = .ok (.aload_n 0, 1) := by decide +kernel
theorem dX6_reasonAgainst_57 : decode cX6_reasonAgainst 57 = .ok (.iconst 1, 1) := by decide +kernel
theorem dX6_reasonAgainst_58 : decode cX6_reasonAgainst 58 = .ok (.invokevirtual 223, 3) := by decide +kernel
theorem dX6_reasonAgainst_61 : decode cX6_reasonAgainst 61 = .ok (.if_icmp .ge 5, 3) := by decide +kernel
theorem dX6_reasonAgainst_64 : decode cX6_reasonAgainst 64 = .ok (.iconst 3, 1) := by decide +kernel
theorem dX6_reasonAgainst_65 : decode cX6_reasonAgainst 65 = .ok (.ireturn, 1) := by decide +kernel
theorem dX6_reasonAgainst_66 : decode cX6_reasonAgainst 66 = .ok (.iconst 0, 1) := by decide +kernel
theorem dX6_reasonAgainst_67 : decode cX6_reasonAgainst 67 = .ok (.ireturn, 1) := by decide +kernel
theorem dX6_weatherCells_0 : decode cX6_weatherCells 0 = .ok (.aload_n 0, 1) := by decide +kernel
theorem dX6_weatherCells_1 : decode cX6_weatherCells 1 = .ok (.getfield 33, 3) := by decide +kernel
theorem dX6_weatherCells_4 : decode cX6_weatherCells 4 = .ok (.aload_n 0, 1) := by decide +kernel
theorem dX6_weatherCells_5 : decode cX6_weatherCells 5 = .ok (.getfield 82, 3) := by decide +kernel
theorem dX6_weatherCells_8 : decode cX6_weatherCells 8 = .ok (.invokevirtual 142, 3) := by decide +kernel
theorem dX6_weatherCells_11 : decode cX6_weatherCells 11 = .ok (.istore_n 1, 1) := by decide +kernel
theorem dX6_weatherCells_12 : decode cX6_weatherCells 12 = .ok (.iconst 0, 1) := by decide +kernel
theorem dX6_weatherCells_13 : decode cX6_weatherCells 13 = .ok (.istore_n 2, 1) := by decide +kernel
theorem dX6_weatherCells_14 : decode cX6_weatherCells 14 = .ok (.iload_n 2, 1) := by decide +kernel
theorem dX6_weatherCells_15 : decode cX6_weatherCells 15 = .ok (.aload_n 0, 1) := by decide +kernel
theorem dX6_weatherCells_16 : decode cX6_weatherCells 16 = .ok (.getfield 72, 3) := by decide +kernel
theorem dX6_weatherCells_19 : decode cX6_weatherCells 19 = .ok (.if_icmp .ge 19, 3) := by decide +kernel
theorem dX6_weatherCells_22 : decode cX6_weatherCells 22 = .ok (.aload_n 0, 1) := by decide +kernel
theorem dX6_weatherCells_23 : decode cX6_weatherCells 23 = .ok (.getfield 11, 3) := by decide +kernel
theorem dX6_weatherCells_26 : decode cX6_weatherCells 26 = .ok (.iload_n 2, 1) := by decide +kernel
theorem dX6_weatherCells_27 : decode cX6_weatherCells 27 = .ok (.aaload, 1) := by decide +kernel
theorem dX6_weatherCells_28 : decode cX6_weatherCells 28 = .ok (.iload_n 1, 1) := by decide +kernel
theorem dX6_weatherCells_29 : decode cX6_weatherCells 29 = .ok (.invokevirtual 261, 3) := by decide +kernel
theorem dX6_weatherCells_32 : decode cX6_weatherCells 32 = .ok (.iinc 2 1, 3) := by decide +kernel
theorem dX6_weatherCells_35 : decode cX6_weatherCells 35 = .ok (.goto (-21), 3) := by decide +kernel
theorem dX6_weatherCells_38 : decode cX6_weatherCells 38 = .ok (.return_, 1) := by decide +kernel
theorem dX6_agePlaces_0 : decode cX6_agePlaces 0 = .ok (.iconst 0, 1) := by decide +kernel
theorem dX6_agePlaces_1 : decode cX6_agePlaces 1 = .ok (.istore_n 1, 1) := by decide +kernel
theorem dX6_agePlaces_2 : decode cX6_agePlaces 2 = .ok (.iload_n 1, 1) := by decide +kernel
theorem dX6_agePlaces_3 : decode cX6_agePlaces 3 = .ok (.aload_n 0, 1) := by decide +kernel
theorem dX6_agePlaces_4 : decode cX6_agePlaces 4 = .ok (.getfield 76, 3) := by decide +kernel
theorem dX6_agePlaces_7 : decode cX6_agePlaces 7 = .ok (.if_icmp .ge 37, 3) := by decide +kernel
theorem dX6_agePlaces_10 : decode cX6_agePlaces 10 = .ok (.aload_n 0, 1) := by decide +kernel
theorem dX6_agePlaces_11 : decode cX6_agePlaces 11 = .ok (.getfield 17, 3) := by decide +kernel
theorem dX6_agePlaces_14 : decode cX6_agePlaces 14 = .ok (.iload_n 1, 1) := by decide +kernel
theorem dX6_agePlaces_15 : decode cX6_agePlaces 15 = .ok (.aaload, 1) := by decide +kernel
theorem dX6_agePlaces_16 : decode cX6_agePlaces 16 = .ok (.getfield 168, 3) := by decide +kernel
theorem dX6_agePlaces_19 : decode cX6_agePlaces 19 = .ok (.iconst 1, 1) := by decide +kernel
theorem dX6_agePlaces_20 : decode cX6_agePlaces 20 = .ok (.if_icmp .ne 18, 3) := by decide +kernel
theorem dX6_agePlaces_23 : decode cX6_agePlaces 23 = .ok (.aload_n 0, 1) := by decide +kernel
theorem dX6_agePlaces_24 : decode cX6_agePlaces 24 = .ok (.getfield 17, 3) := by decide +kernel
theorem dX6_agePlaces_27 : decode cX6_agePlaces 27 = .ok (.iload_n 1, 1) := by decide +kernel
theorem dX6_agePlaces_28 : decode cX6_agePlaces 28 = .ok (.aaload, 1) := by decide +kernel
theorem dX6_agePlaces_29 : decode cX6_agePlaces 29 = .ok (.dup, 1) := by decide +kernel
theorem dX6_agePlaces_30 : decode cX6_agePlaces 30 = .ok (.getfield 174, 3) := by decide +kernel
theorem dX6_agePlaces_33 : decode cX6_agePlaces 33 = .ok (.iconst 1, 1) := by decide +kernel
theorem dX6_agePlaces_34 : decode cX6_agePlaces 34 = .ok (.iadd, 1) := by decide +kernel
theorem dX6_agePlaces_35 : decode cX6_agePlaces 35 = .ok (.putfield 174, 3) := by decide +kernel
theorem dX6_agePlaces_38 : decode cX6_agePlaces 38 = .ok (.iinc 1 1, 3) := by decide +kernel
theorem dX6_agePlaces_41 : decode cX6_agePlaces 41 = .ok (.goto (-39), 3) := by decide +kernel
theorem dX6_agePlaces_44 : decode cX6_agePlaces 44 = .ok (.return_, 1) := by decide +kernel
theorem dX6_moveLoadsOnCells_0 : decode cX6_moveLoadsOnCells 0 = .ok (.iconst 0, 1) := by decide +kernel
theorem dX6_moveLoadsOnCells_1 : decode cX6_moveLoadsOnCells 1 = .ok (.istore_n 1, 1) := by decide +kernel
theorem dX6_moveLoadsOnCells_2 : decode cX6_moveLoadsOnCells 2 = .ok (.iload_n 1, 1) := by decide +kernel
theorem dX6_moveLoadsOnCells_3 : decode cX6_moveLoadsOnCells 3 = .ok (.aload_n 0, 1) := by decide +kernel
theorem dX6_moveLoadsOnCells_4 : decode cX6_moveLoadsOnCells 4 = .ok (.getfield 76, 3) := by decide +kernel
theorem dX6_moveLoadsOnCells_7 : decode cX6_moveLoadsOnCells 7 = .ok (.if_icmp .ge 108, 3) := by decide +kernel
theorem dX6_moveLoadsOnCells_10 : decode cX6_moveLoadsOnCells 10 = .ok (.aload_n 0, 1) := by decide +kernel
theorem dX6_moveLoadsOnCells_11 : decode cX6_moveLoadsOnCells 11 = .ok (.getfield 21, 3) := by decide +kernel
theorem dX6_moveLoadsOnCells_14 : decode cX6_moveLoadsOnCells 14 = .ok (.iload_n 1, 1) := by decide +kernel
theorem dX6_moveLoadsOnCells_15 : decode cX6_moveLoadsOnCells 15 = .ok (.aaload, 1) := by decide +kernel
theorem dX6_moveLoadsOnCells_16 : decode cX6_moveLoadsOnCells 16 = .ok (.astore_n 2, 1) := by decide +kernel
theorem dX6_moveLoadsOnCells_17 : decode cX6_moveLoadsOnCells 17 = .ok (.aload_n 2, 1) := by decide +kernel
theorem dX6_moveLoadsOnCells_18 : decode cX6_moveLoadsOnCells 18 = .ok (.getfield 168, 3) := by decide +kernel
theorem dX6_moveLoadsOnCells_21 : decode cX6_moveLoadsOnCells 21 = .ok (.iconst 1, 1) := by decide +kernel
theorem dX6_moveLoadsOnCells_22 : decode cX6_moveLoadsOnCells 22 = .ok (.if_icmp .ne 87, 3) := by decide +kernel
theorem dX6_moveLoadsOnCells_25 : decode cX6_moveLoadsOnCells 25 = .ok (.aload_n 0, 1) := by decide +kernel
theorem dX6_moveLoadsOnCells_26 : decode cX6_moveLoadsOnCells 26 = .ok (.aload_n 2, 1) := by decide +kernel
theorem dX6_moveLoadsOnCells_27 : decode cX6_moveLoadsOnCells 27 = .ok (.getfield 171, 3) := by decide +kernel
theorem dX6_moveLoadsOnCells_30 : decode cX6_moveLoadsOnCells 30 = .ok (.invokevirtual 99, 3) := by decide +kernel
theorem dX6_moveLoadsOnCells_33 : decode cX6_moveLoadsOnCells 33 = .ok (.ifCond .eq 76, 3) := by decide +kernel
theorem dX6_moveLoadsOnCells_36 : decode cX6_moveLoadsOnCells 36 = .ok (.aload_n 2, 1) := by decide +kernel
theorem dX6_moveLoadsOnCells_37 : decode cX6_moveLoadsOnCells 37 = .ok (.getfield 174, 3) := by decide +kernel
theorem dX6_moveLoadsOnCells_40 : decode cX6_moveLoadsOnCells 40 = .ok (.aload_n 0, 1) := by decide +kernel
theorem dX6_moveLoadsOnCells_41 : decode cX6_moveLoadsOnCells 41 = .ok (.getfield 11, 3) := by decide +kernel
theorem dX6_moveLoadsOnCells_44 : decode cX6_moveLoadsOnCells 44 = .ok (.aload_n 2, 1) := by decide +kernel
theorem dX6_moveLoadsOnCells_45 : decode cX6_moveLoadsOnCells 45 = .ok (.getfield 171, 3) := by decide +kernel
theorem dX6_moveLoadsOnCells_48 : decode cX6_moveLoadsOnCells 48 = .ok (.aaload, 1) := by decide +kernel
theorem dX6_moveLoadsOnCells_49 : decode cX6_moveLoadsOnCells 49 = .ok (.getfield 115, 3) := by decide +kernel
theorem dX6_moveLoadsOnCells_52 : decode cX6_moveLoadsOnCells 52 = .ok (.if_icmp .lt 57, 3) := by decide +kernel
theorem dX6_moveLoadsOnCells_55 : decode cX6_moveLoadsOnCells 55 = .ok (.aload_n 2, 1) := by decide +kernel
theorem dX6_moveLoadsOnCells_56 : decode cX6_moveLoadsOnCells 56 = .ok (.getfield 171, 3) := by decide +kernel
theorem dX6_moveLoadsOnCells_59 : decode cX6_moveLoadsOnCells 59 = .ok (.aload_n 0, 1) := by decide +kernel
theorem dX6_moveLoadsOnCells_60 : decode cX6_moveLoadsOnCells 60 = .ok (.aload_n 2, 1) := by decide +kernel
theorem dX6_moveLoadsOnCells_61 : decode cX6_moveLoadsOnCells 61 = .ok (.getfield 158, 3) := by decide +kernel
theorem dX6_moveLoadsOnCells_64 : decode cX6_moveLoadsOnCells 64 = .ok (.invokevirtual 264, 3) := by decide +kernel
theorem dX6_moveLoadsOnCells_67 : decode cX6_moveLoadsOnCells 67 = .ok (.if_icmp .ne 15, 3) := by decide +kernel
theorem dX6_moveLoadsOnCells_70 : decode cX6_moveLoadsOnCells 70 = .ok (.aload_n 2, 1) := by decide +kernel
theorem dX6_moveLoadsOnCells_71 : decode cX6_moveLoadsOnCells 71 = .ok (.iconst 2, 1) := by decide +kernel
theorem dX6_moveLoadsOnCells_72 : decode cX6_moveLoadsOnCells 72 = .ok (.aload_n 0, 1) := by decide +kernel
theorem dX6_moveLoadsOnCells_73 : decode cX6_moveLoadsOnCells 73 = .ok (.getfield 82, 3) := by decide +kernel
theorem dX6_moveLoadsOnCells_76 : decode cX6_moveLoadsOnCells 76 = .ok (.invokevirtual 267, 3) := by decide +kernel
theorem dX6_moveLoadsOnCells_79 : decode cX6_moveLoadsOnCells 79 = .ok (.goto 30, 3) := by decide +kernel
theorem dX6_moveLoadsOnCells_82 : decode cX6_moveLoadsOnCells 82 = .ok (.aload_n 0, 1) := by decide +kernel
theorem dX6_moveLoadsOnCells_83 : decode cX6_moveLoadsOnCells 83 = .ok (.aload_n 2, 1) := by decide +kernel
theorem dX6_moveLoadsOnCells_84 : decode cX6_moveLoadsOnCells 84 = .ok (.aload_n 2, 1) := by decide +kernel
theorem dX6_moveLoadsOnCells_85 : decode cX6_moveLoadsOnCells 85 = .ok (.getfield 158, 3) := by decide +kernel
theorem dX6_moveLoadsOnCells_88 : decode cX6_moveLoadsOnCells 88 = .ok (.ifCond .ne 12, 3) := by decide +kernel
theorem dX6_moveLoadsOnCells_91 : decode cX6_moveLoadsOnCells 91 = .ok (.aload_n 2, 1) := by decide +kernel
theorem dX6_moveLoadsOnCells_92 : decode cX6_moveLoadsOnCells 92 = .ok (.getfield 171, 3) := by decide +kernel
theorem dX6_moveLoadsOnCells_95 : decode cX6_moveLoadsOnCells 95 = .ok (.iconst 1, 1) := by decide +kernel
theorem dX6_moveLoadsOnCells_96 : decode cX6_moveLoadsOnCells 96 = .ok (.iadd, 1) := by decide +kernel
theorem dX6_moveLoadsOnCells_97 : decode cX6_moveLoadsOnCells 97 = .ok (.goto 9, 3) := by decide +kernel
theorem dX6_moveLoadsOnCells_100 : decode cX6_moveLoadsOnCells 100 = .ok (.aload_n 2, 1) := by decide +kernel
theorem dX6_moveLoadsOnCells_101 : decode cX6_moveLoadsOnCells 101 = .ok (.getfield 171, 3) := by decide +kernel
theorem dX6_moveLoadsOnCells_104 : decode cX6_moveLoadsOnCells 104 = .ok (.iconst 1, 1) := by decide +kernel
theorem dX6_moveLoadsOnCells_105 : decode cX6_moveLoadsOnCells 105 = .ok (.isub, 1) := by decide +kernel
theorem dX6_moveLoadsOnCells_106 : decode cX6_moveLoadsOnCells 106 = .ok (.invokevirtual 271, 3) := by decide +kernel
theorem dX6_moveLoadsOnCells_109 : decode cX6_moveLoadsOnCells 109 = .ok (.iinc 1 1, 3) := by decide +kernel
theorem dX6_moveLoadsOnCells_112 : decode cX6_moveLoadsOnCells 112 = .ok (.goto (-110), 3) := by decide +kernel
theorem dX6_moveLoadsOnCells_115 : decode cX6_moveLoadsOnCells 115 = .ok (.return_, 1) := by decide +kernel
theorem dX6_moveWaitingLoads_0 : decode cX6_moveWaitingLoads 0 = .ok (.iconst 0, 1) := by decide +kernel
theorem dX6_moveWaitingLoads_1 : decode cX6_moveWaitingLoads 1 = .ok (.istore_n 1, 1) := by decide +kernel
theorem dX6_moveWaitingLoads_2 : decode cX6_moveWaitingLoads 2 = .ok (.iload_n 1, 1) := by decide +kernel
theorem dX6_moveWaitingLoads_3 : decode cX6_moveWaitingLoads 3 = .ok (.aload_n 0, 1) := by decide +kernel
theorem dX6_moveWaitingLoads_4 : decode cX6_moveWaitingLoads 4 = .ok (.getfield 76, 3) := by decide +kernel
theorem dX6_moveWaitingLoads_7 : decode cX6_moveWaitingLoads 7 = .ok (.if_icmp .ge 45, 3) := by decide +kernel
theorem dX6_moveWaitingLoads_10 : decode cX6_moveWaitingLoads 10 = .ok (.aload_n 0, 1) := by decide +kernel
theorem dX6_moveWaitingLoads_11 : decode cX6_moveWaitingLoads 11 = .ok (.getfield 21, 3) := by decide +kernel
theorem dX6_moveWaitingLoads_14 : decode cX6_moveWaitingLoads 14 = .ok (.iload_n 1, 1) := by decide +kernel
theorem dX6_moveWaitingLoads_15 : decode cX6_moveWaitingLoads 15 = .ok (.aaload, 1) := by decide +kernel
theorem dX6_moveWaitingLoads_16 : decode cX6_moveWaitingLoads 16 = .ok (.astore_n 2, 1) := by decide +kernel
theorem dX6_moveWaitingLoads_17 : decode cX6_moveWaitingLoads 17 = .ok (.aload_n 2, 1) := by decide +kernel
theorem dX6_moveWaitingLoads_18 : decode cX6_moveWaitingLoads 18 = .ok (.getfield 168, 3) := by decide +kernel
theorem dX6_moveWaitingLoads_21 : decode cX6_moveWaitingLoads 21 = .ok (.ifCond .ne 25, 3) := by decide +kernel
theorem dX6_moveWaitingLoads_24 : decode cX6_moveWaitingLoads 24 = .ok (.aload_n 0, 1) := by decide +kernel
theorem dX6_moveWaitingLoads_25 : decode cX6_moveWaitingLoads 25 = .ok (.aload_n 2, 1) := by decide +kernel
theorem dX6_moveWaitingLoads_26 : decode cX6_moveWaitingLoads 26 = .ok (.aload_n 2, 1) := by decide +kernel
theorem dX6_moveWaitingLoads_27 : decode cX6_moveWaitingLoads 27 = .ok (.getfield 158, 3) := by decide +kernel
theorem dX6_moveWaitingLoads_30 : decode cX6_moveWaitingLoads 30 = .ok (.ifCond .ne 7, 3) := by decide +kernel
theorem dX6_moveWaitingLoads_33 : decode cX6_moveWaitingLoads 33 = .ok (.iconst 0, 1) := by decide +kernel
theorem dX6_moveWaitingLoads_34 : decode cX6_moveWaitingLoads 34 = .ok (.goto 9, 3) := by decide +kernel
theorem dX6_moveWaitingLoads_37 : decode cX6_moveWaitingLoads 37 = .ok (.aload_n 0, 1) := by decide +kernel
theorem dX6_moveWaitingLoads_38 : decode cX6_moveWaitingLoads 38 = .ok (.getfield 72, 3) := by decide +kernel
theorem dX6_moveWaitingLoads_41 : decode cX6_moveWaitingLoads 41 = .ok (.iconst 1, 1) := by decide +kernel
theorem dX6_moveWaitingLoads_42 : decode cX6_moveWaitingLoads 42 = .ok (.isub, 1) := by decide +kernel
theorem dX6_moveWaitingLoads_43 : decode cX6_moveWaitingLoads 43 = .ok (.invokevirtual 271, 3) := by decide +kernel
theorem dX6_moveWaitingLoads_46 : decode cX6_moveWaitingLoads 46 = .ok (.iinc 1 1, 3) := by decide +kernel
theorem dX6_moveWaitingLoads_49 : decode cX6_moveWaitingLoads 49 = .ok (.goto (-47), 3) := by decide +kernel
theorem dX6_moveWaitingLoads_52 : decode cX6_moveWaitingLoads 52 = .ok (.return_, 1) := by decide +kernel
theorem dX6_lastPlace_0 : decode cX6_lastPlace 0 = .ok (.iload_n 1, 1) := by decide +kernel
theorem dX6_lastPlace_1 : decode cX6_lastPlace 1 = .ok (.ifCond .ne 12, 3) := by decide +kernel
theorem dX6_lastPlace_4 : decode cX6_lastPlace 4 = .ok (.aload_n 0, 1) := by decide +kernel
theorem dX6_lastPlace_5 : decode cX6_lastPlace 5 = .ok (.getfield 72, 3) := by decide +kernel
theorem dX6_lastPlace_8 : decode cX6_lastPlace 8 = .ok (.iconst 1, 1) := by decide +kernel
theorem dX6_lastPlace_9 : decode cX6_lastPlace 9 = .ok (.isub, 1) := by decide +kernel
theorem dX6_lastPlace_10 : decode cX6_lastPlace 10 = .ok (.goto 4, 3) := by decide +kernel
theorem dX6_lastPlace_13 : decode cX6_lastPlace 13 = .ok (.iconst 0, 1) := by decide +kernel
theorem dX6_lastPlace_14 : decode cX6_lastPlace 14 = .ok (.ireturn, 1) := by decide +kernel
theorem dX6_comeIfItCan_0 : decode cX6_comeIfItCan 0 = .ok (.aload_n 0, 1) := by decide +kernel
theorem dX6_comeIfItCan_1 : decode cX6_comeIfItCan 1 = .ok (.iload_n 2, 1) := by decide +kernel
theorem dX6_comeIfItCan_2 : decode cX6_comeIfItCan 2 = .ok (.invokevirtual 99, 3) := by decide +kernel
theorem dX6_comeIfItCan_5 : decode cX6_comeIfItCan 5 = .ok (.ifCond .eq 21, 3) := by decide +kernel
theorem dX6_comeIfItCan_8 : decode cX6_comeIfItCan 8 = .ok (.aload_n 0, 1) := by decide +kernel
theorem dX6_comeIfItCan_9 : decode cX6_comeIfItCan 9 = .ok (.aload_n 1, 1) := by decide +kernel
theorem dX6_comeIfItCan_10 : decode cX6_comeIfItCan 10 = .ok (.iload_n 2, 1) := by decide +kernel
theorem dX6_comeIfItCan_11 : decode cX6_comeIfItCan 11 = .ok (.invokevirtual 274, 3) := by decide +kernel
theorem dX6_comeIfItCan_14 : decode cX6_comeIfItCan 14 = .ok (.ifCond .ne 12, 3) := by decide +kernel
theorem dX6_comeIfItCan_17 : decode cX6_comeIfItCan 17 = .ok (.aload_n 0, 1) := by decide +kernel
theorem dX6_comeIfItCan_18 : decode cX6_comeIfItCan 18 = .ok (.aload_n 1, 1) := by decide +kernel
theorem dX6_comeIfItCan_19 : decode cX6_comeIfItCan 19 = .ok (.iload_n 2, 1) := by decide +kernel
theorem dX6_comeIfItCan_20 : decode cX6_comeIfItCan 20 = .ok (.invokevirtual 180, 3) := by decide +kernel
theorem dX6_comeIfItCan_23 : decode cX6_comeIfItCan 23 = .ok (.ifCond .eq 4, 3) := by decide +kernel
theorem dX6_comeIfItCan_26 : decode cX6_comeIfItCan 26 = .ok (.return_, 1) := by decide +kernel
theorem dX6_comeIfItCan_27 : decode cX6_comeIfItCan 27 = .ok (.aload_n 0, 1) := by decide +kernel
theorem dX6_comeIfItCan_28 : decode cX6_comeIfItCan 28 = .ok (.getfield 11, 3) := by decide +kernel
theorem dX6_comeIfItCan_31 : decode cX6_comeIfItCan 31 = .ok (.iload_n 2, 1) := by decide +kernel
theorem dX6_comeIfItCan_32 : decode cX6_comeIfItCan 32 = .ok (.aaload, 1) := by decide +kernel
theorem dX6_comeIfItCan_33 : decode cX6_comeIfItCan 33 = .ok (.astore_n 3, 1) := by decide +kernel
theorem dX6_comeIfItCan_34 : decode cX6_comeIfItCan 34 = .ok (.aload_n 3, 1) := by decide +kernel
theorem dX6_comeIfItCan_35 : decode cX6_comeIfItCan 35 = .ok (.aload_n 1, 1) := by decide +kernel
theorem dX6_comeIfItCan_36 : decode cX6_comeIfItCan 36 = .ok (.getfield 158, 3) := by decide +kernel
theorem dX6_comeIfItCan_39 : decode cX6_comeIfItCan 39 = .ok (.aload_n 0, 1) := by decide +kernel
theorem dX6_comeIfItCan_40 : decode cX6_comeIfItCan 40 = .ok (.getfield 82, 3) := by decide +kernel
theorem dX6_comeIfItCan_43 : decode cX6_comeIfItCan 43 = .ok (.invokevirtual 278, 3) := by decide +kernel
theorem dX6_comeIfItCan_46 : decode cX6_comeIfItCan 46 = .ok (.aload_n 3, 1) := by decide +kernel
theorem dX6_comeIfItCan_47 : decode cX6_comeIfItCan 47 = .ok (.aload_n 1, 1) := by decide +kernel
theorem dX6_comeIfItCan_48 : decode cX6_comeIfItCan 48 = .ok (.getfield 152, 3) := by decide +kernel
theorem dX6_comeIfItCan_51 : decode cX6_comeIfItCan 51 = .ok (.invokevirtual 136, 3) := by decide +kernel
theorem dX6_comeIfItCan_54 : decode cX6_comeIfItCan 54 = .ok (.ifCond .eq 19, 3) := by decide +kernel
theorem dX6_comeIfItCan_57 : decode cX6_comeIfItCan 57 = .ok (.aload_n 1, 1) := by decide +kernel
theorem dX6_comeIfItCan_58 : decode cX6_comeIfItCan 58 = .ok (.iload_n 2, 1) := by decide +kernel
theorem dX6_comeIfItCan_59 : decode cX6_comeIfItCan 59 = .ok (.invokevirtual 281, 3) := by decide +kernel
theorem dX6_comeIfItCan_62 : decode cX6_comeIfItCan 62 = .ok (.aload_n 3, 1) := by decide +kernel
theorem dX6_comeIfItCan_63 : decode cX6_comeIfItCan 63 = .ok (.aload_n 1, 1) := by decide +kernel
theorem dX6_comeIfItCan_64 : decode cX6_comeIfItCan 64 = .ok (.getfield 152, 3) := by decide +kernel
theorem dX6_comeIfItCan_67 : decode cX6_comeIfItCan 67 = .ok (.invokevirtual 284, 3) := by decide +kernel
theorem dX6_comeIfItCan_70 : decode cX6_comeIfItCan 70 = .ok (.goto 16, 3) := by decide +kernel
theorem dX6_comeIfItCan_73 : decode cX6_comeIfItCan 73 = .ok (.aload_n 1, 1) := by decide +kernel
theorem dX6_comeIfItCan_74 : decode cX6_comeIfItCan 74 = .ok (.iconst 3, 1) := by decide +kernel
theorem dX6_comeIfItCan_75 : decode cX6_comeIfItCan 75 = .ok (.aload_n 0, 1) := by decide +kernel
theorem dX6_comeIfItCan_76 : decode cX6_comeIfItCan 76 = .ok (.getfield 82, 3) := by decide +kernel
theorem dX6_comeIfItCan_79 : decode cX6_comeIfItCan 79 = .ok (.invokevirtual 267, 3) := by decide +kernel
theorem dX6_comeIfItCan_82 : decode cX6_comeIfItCan 82 = .ok (.aload_n 3, 1) := by decide +kernel
theorem dX6_comeIfItCan_83 : decode cX6_comeIfItCan 83 = .ok (.invokevirtual 287, 3) := by decide +kernel
theorem dX6_comeIfItCan_86 : decode cX6_comeIfItCan 86 = .ok (.return_, 1) := by decide +kernel
theorem dX6_isBarred_0 : decode cX6_isBarred 0 = .ok (.aload_n 0, 1) := by decide +kernel
theorem dX6_isBarred_1 : decode cX6_isBarred 1 = .ok (.getfield 11, 3) := by decide +kernel
theorem dX6_isBarred_4 : decode cX6_isBarred 4 = .ok (.iload_n 2, 1) := by decide +kernel
theorem dX6_isBarred_5 : decode cX6_isBarred 5 = .ok (.aaload, 1) := by decide +kernel
theorem dX6_isBarred_6 : decode cX6_isBarred 6 = .ok (.getfield 112, 3) := by decide +kernel
theorem dX6_isBarred_9 : decode cX6_isBarred 9 = .ok (.bipush 10, 2) := by decide +kernel
theorem dX6_isBarred_11 : decode cX6_isBarred 11 = .ok (.if_icmp .ge 7, 3) := by decide +kernel
theorem dX6_isBarred_14 : decode cX6_isBarred 14 = .ok (.iconst 1, 1) := by decide +kernel
theorem dX6_isBarred_15 : decode cX6_isBarred 15 = .ok (.goto 4, 3) := by decide +kernel
theorem dX6_isBarred_18 : decode cX6_isBarred 18 = .ok (.iconst 0, 1) := by decide +kernel
theorem dX6_isBarred_19 : decode cX6_isBarred 19 = .ok (.istore_n 3, 1) := by decide +kernel
theorem dX6_isBarred_20 : decode cX6_isBarred 20 = .ok (.iconst 0, 1) := by decide +kernel
theorem dX6_isBarred_21 : decode cX6_isBarred 21 = .ok (.istore 4, 2) := by decide +kernel
theorem dX6_isBarred_23 : decode cX6_isBarred 23 = .ok (.iload 4, 2) := by decide +kernel
theorem dX6_isBarred_25 : decode cX6_isBarred 25 = .ok (.aload_n 0, 1) := by decide +kernel
theorem dX6_isBarred_26 : decode cX6_isBarred 26 = .ok (.getfield 76, 3) := by decide +kernel
theorem dX6_isBarred_29 : decode cX6_isBarred 29 = .ok (.if_icmp .ge 54, 3) := by decide +kernel
theorem dX6_isBarred_32 : decode cX6_isBarred 32 = .ok (.aload_n 0, 1) := by decide +kernel
theorem dX6_isBarred_33 : decode cX6_isBarred 33 = .ok (.getfield 17, 3) := by decide +kernel
theorem dX6_isBarred_36 : decode cX6_isBarred 36 = .ok (.iload 4, 2) := by decide +kernel
theorem dX6_isBarred_38 : decode cX6_isBarred 38 = .ok (.aaload, 1) := by decide +kernel
theorem dX6_isBarred_39 : decode cX6_isBarred 39 = .ok (.astore 5, 2) := by decide +kernel
theorem dX6_isBarred_41 : decode cX6_isBarred 41 = .ok (.aload 5, 2) := by decide +kernel
theorem dX6_isBarred_43 : decode cX6_isBarred 43 = .ok (.getfield 168, 3) := by decide +kernel
theorem dX6_isBarred_46 : decode cX6_isBarred 46 = .ok (.iconst 1, 1) := by decide +kernel
theorem dX6_isBarred_47 : decode cX6_isBarred 47 = .ok (.if_icmp .ne 30, 3) := by decide +kernel
theorem dX6_isBarred_50 : decode cX6_isBarred 50 = .ok (.aload 5, 2) := by decide +kernel
theorem dX6_isBarred_52 : decode cX6_isBarred 52 = .ok (.getfield 171, 3) := by decide +kernel
theorem dX6_isBarred_55 : decode cX6_isBarred 55 = .ok (.iload_n 2, 1) := by decide +kernel
theorem dX6_isBarred_56 : decode cX6_isBarred 56 = .ok (.if_icmp .ne 21, 3) := by decide +kernel
theorem dX6_isBarred_59 : decode cX6_isBarred 59 = .ok (.iload_n 3, 1) := by decide +kernel
theorem dX6_isBarred_60 : decode cX6_isBarred 60 = .ok (.ifCond .ne 15, 3) := by decide +kernel
theorem dX6_isBarred_63 : decode cX6_isBarred 63 = .ok (.aload 5, 2) := by decide +kernel
theorem dX6_isBarred_65 : decode cX6_isBarred 65 = .ok (.getfield 158, 3) := by decide +kernel
theorem dX6_isBarred_68 : decode cX6_isBarred 68 = .ok (.aload_n 1, 1) := by decide +kernel
theorem dX6_isBarred_69 : decode cX6_isBarred 69 = .ok (.getfield 158, 3) := by decide +kernel
theorem dX6_isBarred_72 : decode cX6_isBarred 72 = .ok (.if_icmp .ne 5, 3) := by decide +kernel
theorem dX6_isBarred_75 : decode cX6_isBarred 75 = .ok (.iconst 1, 1) := by decide +kernel
theorem dX6_isBarred_76 : decode cX6_isBarred 76 = .ok (.ireturn, 1) := by decide +kernel
theorem dX6_isBarred_77 : decode cX6_isBarred 77 = .ok (.iinc 4 1, 3) := by decide +kernel
theorem dX6_isBarred_80 : decode cX6_isBarred 80 = .ok (.goto (-57), 3) := by decide +kernel
theorem dX6_isBarred_83 : decode cX6_isBarred 83 = .ok (.iconst 0, 1) := by decide +kernel
theorem dX6_isBarred_84 : decode cX6_isBarred 84 = .ok (.ireturn, 1) := by decide +kernel
theorem dX6_lineUp_0 : decode cX6_lineUp 0 = .ok (.aload_n 0, 1) := by decide +kernel
theorem dX6_lineUp_1 : decode cX6_lineUp 1 = .ok (.getfield 76, 3) := by decide +kernel
theorem dX6_lineUp_4 : decode cX6_lineUp 4 = .ok (.istore_n 2, 1) := by decide +kernel
theorem dX6_lineUp_5 : decode cX6_lineUp 5 = .ok (.iload_n 2, 1) := by decide +kernel
theorem dX6_lineUp_6 : decode cX6_lineUp 6 = .ok (.ifCond .le 41, 3) := by decide +kernel
theorem dX6_lineUp_9 : decode cX6_lineUp 9 = .ok (.aload_n 0, 1) := by decide +kernel
theorem dX6_lineUp_10 : decode cX6_lineUp 10 = .ok (.getfield 21, 3) := by decide +kernel
theorem dX6_lineUp_13 : decode cX6_lineUp 13 = .ok (.iload_n 2, 1) := by decide +kernel
theorem dX6_lineUp_14 : decode cX6_lineUp 14 = .ok (.iconst 1, 1) := by decide +kernel
theorem dX6_lineUp_15 : decode cX6_lineUp 15 = .ok (.isub, 1) := by decide +kernel
theorem dX6_lineUp_16 : decode cX6_lineUp 16 = .ok (.aaload, 1) := by decide +kernel
theorem dX6_lineUp_17 : decode cX6_lineUp 17 = .ok (.getfield 155, 3) := by decide +kernel
theorem dX6_lineUp_20 : decode cX6_lineUp 20 = .ok (.aload_n 1, 1) := by decide +kernel
theorem dX6_lineUp_21 : decode cX6_lineUp 21 = .ok (.getfield 155, 3) := by decide +kernel
theorem dX6_lineUp_24 : decode cX6_lineUp 24 = .ok (.if_icmp .ge 23, 3) := by decide +kernel
theorem dX6_lineUp_27 : decode cX6_lineUp 27 = .ok (.aload_n 0, 1) := by decide +kernel
theorem dX6_lineUp_28 : decode cX6_lineUp 28 = .ok (.getfield 21, 3) := by decide +kernel
theorem dX6_lineUp_31 : decode cX6_lineUp 31 = .ok (.iload_n 2, 1) := by decide +kernel
theorem dX6_lineUp_32 : decode cX6_lineUp 32 = .ok (.aload_n 0, 1) := by decide +kernel
theorem dX6_lineUp_33 : decode cX6_lineUp 33 = .ok (.getfield 21, 3) := by decide +kernel
theorem dX6_lineUp_36 : decode cX6_lineUp 36 = .ok (.iload_n 2, 1) := by decide +kernel
theorem dX6_lineUp_37 : decode cX6_lineUp 37 = .ok (.iconst 1, 1) := by decide +kernel
theorem dX6_lineUp_38 : decode cX6_lineUp 38 = .ok (.isub, 1) := by decide +kernel
theorem dX6_lineUp_39 : decode cX6_lineUp 39 = .ok (.aaload, 1) := by decide +kernel
theorem dX6_lineUp_40 : decode cX6_lineUp 40 = .ok (.aastore, 1) := by decide +kernel
theorem dX6_lineUp_41 : decode cX6_lineUp 41 = .ok (.iinc 2 (-1), 3) := by decide +kernel
theorem dX6_lineUp_44 : decode cX6_lineUp 44 = .ok (.goto (-39), 3) := by decide +kernel
theorem dX6_lineUp_47 : decode cX6_lineUp 47 = .ok (.aload_n 0, 1) := by decide +kernel
theorem dX6_lineUp_48 : decode cX6_lineUp 48 = .ok (.getfield 21, 3) := by decide +kernel
theorem dX6_lineUp_51 : decode cX6_lineUp 51 = .ok (.iload_n 2, 1) := by decide +kernel
theorem dX6_lineUp_52 : decode cX6_lineUp 52 = .ok (.aload_n 1, 1) := by decide +kernel
theorem dX6_lineUp_53 : decode cX6_lineUp 53 = .ok (.aastore, 1) := by decide +kernel
theorem dX6_lineUp_54 : decode cX6_lineUp 54 = .ok (.return_, 1) := by decide +kernel
theorem dX6_loadsIn_0 : decode cX6_loadsIn 0 = .ok (.iconst 0, 1) := by decide +kernel
theorem dX6_loadsIn_1 : decode cX6_loadsIn 1 = .ok (.istore_n 2, 1) := by decide +kernel
theorem dX6_loadsIn_2 : decode cX6_loadsIn 2 = .ok (.iconst 0, 1) := by decide +kernel
theorem dX6_loadsIn_3 : decode cX6_loadsIn 3 = .ok (.istore_n 3, 1) := by decide +kernel
theorem dX6_loadsIn_4 : decode cX6_loadsIn 4 = .ok (.iload_n 3, 1) := by decide +kernel
theorem dX6_loadsIn_5 : decode cX6_loadsIn 5 = .ok (.aload_n 0, 1) := by decide +kernel
theorem dX6_loadsIn_6 : decode cX6_loadsIn 6 = .ok (.getfield 76, 3) := by decide +kernel
theorem dX6_loadsIn_9 : decode cX6_loadsIn 9 = .ok (.if_icmp .ge 30, 3) := by decide +kernel
theorem dX6_loadsIn_12 : decode cX6_loadsIn 12 = .ok (.iload_n 2, 1) := by decide +kernel
theorem dX6_loadsIn_13 : decode cX6_loadsIn 13 = .ok (.aload_n 0, 1) := by decide +kernel
theorem dX6_loadsIn_14 : decode cX6_loadsIn 14 = .ok (.getfield 17, 3) := by decide +kernel
theorem dX6_loadsIn_17 : decode cX6_loadsIn 17 = .ok (.iload_n 3, 1) := by decide +kernel
theorem dX6_loadsIn_18 : decode cX6_loadsIn 18 = .ok (.aaload, 1) := by decide +kernel
theorem dX6_loadsIn_19 : decode cX6_loadsIn 19 = .ok (.getfield 168, 3) := by decide +kernel
theorem dX6_loadsIn_22 : decode cX6_loadsIn 22 = .ok (.iload_n 1, 1) := by decide +kernel
theorem dX6_loadsIn_23 : decode cX6_loadsIn 23 = .ok (.if_icmp .ne 7, 3) := by decide +kernel
theorem dX6_loadsIn_26 : decode cX6_loadsIn 26 = .ok (.iconst 1, 1) := by decide +kernel
theorem dX6_loadsIn_27 : decode cX6_loadsIn 27 = .ok (.goto 4, 3) := by decide +kernel
theorem dX6_loadsIn_30 : decode cX6_loadsIn 30 = .ok (.iconst 0, 1) := by decide +kernel
theorem dX6_loadsIn_31 : decode cX6_loadsIn 31 = .ok (.iadd, 1) := by decide +kernel
theorem dX6_loadsIn_32 : decode cX6_loadsIn 32 = .ok (.istore_n 2, 1) := by decide +kernel
theorem dX6_loadsIn_33 : decode cX6_loadsIn 33 = .ok (.iinc 3 1, 3) := by decide +kernel
theorem dX6_loadsIn_36 : decode cX6_loadsIn 36 = .ok (.goto (-32), 3) := by decide +kernel
theorem dX6_loadsIn_39 : decode cX6_loadsIn 39 = .ok (.iload_n 2, 1) := by decide +kernel
theorem dX6_loadsIn_40 : decode cX6_loadsIn 40 = .ok (.ireturn, 1) := by decide +kernel
theorem dX6_loadsOn_0 : decode cX6_loadsOn 0 = .ok (.iconst 0, 1) := by decide +kernel
theorem dX6_loadsOn_1 : decode cX6_loadsOn 1 = .ok (.istore_n 2, 1) := by decide +kernel
theorem dX6_loadsOn_2 : decode cX6_loadsOn 2 = .ok (.iconst 0, 1) := by decide +kernel
theorem dX6_loadsOn_3 : decode cX6_loadsOn 3 = .ok (.istore_n 3, 1) := by decide +kernel
theorem dX6_loadsOn_4 : decode cX6_loadsOn 4 = .ok (.iload_n 3, 1) := by decide +kernel
theorem dX6_loadsOn_5 : decode cX6_loadsOn 5 = .ok (.aload_n 0, 1) := by decide +kernel
theorem dX6_loadsOn_6 : decode cX6_loadsOn 6 = .ok (.getfield 76, 3) := by decide +kernel
theorem dX6_loadsOn_9 : decode cX6_loadsOn 9 = .ok (.if_icmp .ge 43, 3) := by decide +kernel
theorem dX6_loadsOn_12 : decode cX6_loadsOn 12 = .ok (.iload_n 2, 1) := by decide +kernel
theorem dX6_loadsOn_13 : decode cX6_loadsOn 13 = .ok (.aload_n 0, 1) := by decide +kernel
theorem dX6_loadsOn_14 : decode cX6_loadsOn 14 = .ok (.getfield 17, 3) := by decide +kernel
theorem dX6_loadsOn_17 : decode cX6_loadsOn 17 = .ok (.iload_n 3, 1) := by decide +kernel
theorem dX6_loadsOn_18 : decode cX6_loadsOn 18 = .ok (.aaload, 1) := by decide +kernel
theorem dX6_loadsOn_19 : decode cX6_loadsOn 19 = .ok (.getfield 168, 3) := by decide +kernel
theorem dX6_loadsOn_22 : decode cX6_loadsOn 22 = .ok (.iconst 1, 1) := by decide +kernel
theorem dX6_loadsOn_23 : decode cX6_loadsOn 23 = .ok (.if_icmp .ne 20, 3) := by decide +kernel
theorem dX6_loadsOn_26 : decode cX6_loadsOn 26 = .ok (.aload_n 0, 1) := by decide +kernel
theorem dX6_loadsOn_27 : decode cX6_loadsOn 27 = .ok (.getfield 17, 3) := by decide +kernel
theorem dX6_loadsOn_30 : decode cX6_loadsOn 30 = .ok (.iload_n 3, 1) := by decide +kernel
theorem dX6_loadsOn_31 : decode cX6_loadsOn 31 = .ok (.aaload, 1) := by decide +kernel
theorem dX6_loadsOn_32 : decode cX6_loadsOn 32 = .ok (.getfield 171, 3) := by decide +kernel
theorem dX6_loadsOn_35 : decode cX6_loadsOn 35 = .ok (.iload_n 1, 1) := by decide +kernel
theorem dX6_loadsOn_36 : decode cX6_loadsOn 36 = .ok (.if_icmp .ne 7, 3) := by decide +kernel
theorem dX6_loadsOn_39 : decode cX6_loadsOn 39 = .ok (.iconst 1, 1) := by decide +kernel
theorem dX6_loadsOn_40 : decode cX6_loadsOn 40 = .ok (.goto 4, 3) := by decide +kernel
theorem dX6_loadsOn_43 : decode cX6_loadsOn 43 = .ok (.iconst 0, 1) := by decide +kernel
theorem dX6_loadsOn_44 : decode cX6_loadsOn 44 = .ok (.iadd, 1) := by decide +kernel
theorem dX6_loadsOn_45 : decode cX6_loadsOn 45 = .ok (.istore_n 2, 1) := by decide +kernel
theorem dX6_loadsOn_46 : decode cX6_loadsOn 46 = .ok (.iinc 3 1, 3) := by decide +kernel
theorem dX6_loadsOn_49 : decode cX6_loadsOn 49 = .ok (.goto (-45), 3) := by decide +kernel
theorem dX6_loadsOn_52 : decode cX6_loadsOn 52 = .ok (.iload_n 2, 1) := by decide +kernel
theorem dX6_loadsOn_53 : decode cX6_loadsOn 53 = .ok (.ireturn, 1) := by decide +kernel
theorem dX6_tonsDelivered_0 : decode cX6_tonsDelivered 0 = .ok (.iconst 0, 1) := by decide +kernel
theorem dX6_tonsDelivered_1 : decode cX6_tonsDelivered 1 = .ok (.istore_n 1, 1) := by decide +kernel
theorem dX6_tonsDelivered_2 : decode cX6_tonsDelivered 2 = .ok (.iconst 0, 1) := by decide +kernel
theorem dX6_tonsDelivered_3 : decode cX6_tonsDelivered 3 = .ok (.istore_n 2, 1) := by decide +kernel
theorem dX6_tonsDelivered_4 : decode cX6_tonsDelivered 4 = .ok (.iload_n 2, 1) := by decide +kernel
theorem dX6_tonsDelivered_5 : decode cX6_tonsDelivered 5 = .ok (.aload_n 0, 1) := by decide +kernel
theorem dX6_tonsDelivered_6 : decode cX6_tonsDelivered 6 = .ok (.getfield 76, 3) := by decide +kernel
theorem dX6_tonsDelivered_9 : decode cX6_tonsDelivered 9 = .ok (.if_icmp .ge 38, 3) := by decide +kernel
theorem dX6_tonsDelivered_12 : decode cX6_tonsDelivered 12 = .ok (.iload_n 1, 1) := by decide +kernel
theorem dX6_tonsDelivered_13 : decode cX6_tonsDelivered 13 = .ok (.aload_n 0, 1) := by decide +kernel
theorem dX6_tonsDelivered_14 : decode cX6_tonsDelivered 14 = .ok (.getfield 17, 3) := by decide +kernel
theorem dX6_tonsDelivered_17 : decode cX6_tonsDelivered 17 = .ok (.iload_n 2, 1) := by decide +kernel
theorem dX6_tonsDelivered_18 : decode cX6_tonsDelivered 18 = .ok (.aaload, 1) := by decide +kernel
theorem dX6_tonsDelivered_19 : decode cX6_tonsDelivered 19 = .ok (.getfield 168, 3) := by decide +kernel
theorem dX6_tonsDelivered_22 : decode cX6_tonsDelivered 22 = .ok (.iconst 2, 1) := by decide +kernel
theorem dX6_tonsDelivered_23 : decode cX6_tonsDelivered 23 = .ok (.if_icmp .ne 15, 3) := by decide +kernel
theorem dX6_tonsDelivered_26 : decode cX6_tonsDelivered 26 = .ok (.aload_n 0, 1) := by decide +kernel
theorem dX6_tonsDelivered_27 : decode cX6_tonsDelivered 27 = .ok (.getfield 17, 3) := by decide +kernel
theorem dX6_tonsDelivered_30 : decode cX6_tonsDelivered 30 = .ok (.iload_n 2, 1) := by decide +kernel
theorem dX6_tonsDelivered_31 : decode cX6_tonsDelivered 31 = .ok (.aaload, 1) := by decide +kernel
theorem dX6_tonsDelivered_32 : decode cX6_tonsDelivered 32 = .ok (.getfield 152, 3) := by decide +kernel
theorem dX6_tonsDelivered_35 : decode cX6_tonsDelivered 35 = .ok (.goto 4, 3) := by decide +kernel
theorem dX6_tonsDelivered_38 : decode cX6_tonsDelivered 38 = .ok (.iconst 0, 1) := by decide +kernel
theorem dX6_tonsDelivered_39 : decode cX6_tonsDelivered 39 = .ok (.iadd, 1) := by decide +kernel
theorem dX6_tonsDelivered_40 : decode cX6_tonsDelivered 40 = .ok (.istore_n 1, 1) := by decide +kernel
theorem dX6_tonsDelivered_41 : decode cX6_tonsDelivered 41 = .ok (.iinc 2 1, 3) := by decide +kernel
theorem dX6_tonsDelivered_44 : decode cX6_tonsDelivered 44 = .ok (.goto (-40), 3) := by decide +kernel
theorem dX6_tonsDelivered_47 : decode cX6_tonsDelivered 47 = .ok (.iload_n 1, 1) := by decide +kernel
theorem dX6_tonsDelivered_48 : decode cX6_tonsDelivered 48 = .ok (.ireturn, 1) := by decide +kernel
theorem dX6_hoursHeldUp_0 : decode cX6_hoursHeldUp 0 = .ok (.aload_n 1, 1) := by decide +kernel
theorem dX6_hoursHeldUp_1 : decode cX6_hoursHeldUp 1 = .ok (.iload_n 2, 1) := by decide +kernel
theorem dX6_hoursHeldUp_2 : decode cX6_hoursHeldUp 2 = .ok (.invokevirtual 136, 3) := by decide +kernel
theorem dX6_hoursHeldUp_5 : decode cX6_hoursHeldUp 5 = .ok (.ifCond .ne 5, 3) := by decide +kernel
theorem dX6_hoursHeldUp_8 : decode cX6_hoursHeldUp 8 = .ok (.iconst 0, 1) := by decide +kernel
theorem dX6_hoursHeldUp_9 : decode cX6_hoursHeldUp 9 = .ok (.ireturn, 1) := by decide +kernel
theorem dX6_hoursHeldUp_10 : decode cX6_hoursHeldUp 10 = .ok (.aload_n 0, 1) := by decide +kernel
theorem dX6_hoursHeldUp_11 : decode cX6_hoursHeldUp 11 = .ok (.getfield 64, 3) := by decide +kernel
theorem dX6_hoursHeldUp_14 : decode cX6_hoursHeldUp 14 = .ok (.aload_n 1, 1) := by decide +kernel
theorem dX6_hoursHeldUp_15 : decode cX6_hoursHeldUp 15 = .ok (.invokevirtual 290, 3) := by decide +kernel
theorem dX6_hoursHeldUp_18 : decode cX6_hoursHeldUp 18 = .ok (.iconst 0, 1) := by decide +kernel
theorem dX6_hoursHeldUp_19 : decode cX6_hoursHeldUp 19 = .ok (.istore 5, 2) := by decide +kernel
theorem dX6_hoursHeldUp_21 : decode cX6_hoursHeldUp 21 = .ok (.iload 5, 2) := by decide +kernel
theorem dX6_hoursHeldUp_23 : decode cX6_hoursHeldUp 23 = .ok (.iload 4, 2) := by decide +kernel
theorem dX6_hoursHeldUp_25 : decode cX6_hoursHeldUp 25 = .ok (.if_icmp .ge 31, 3) := by decide +kernel
theorem dX6_hoursHeldUp_28 : decode cX6_hoursHeldUp 28 = .ok (.aload_n 0, 1) := by decide +kernel
theorem dX6_hoursHeldUp_29 : decode cX6_hoursHeldUp 29 = .ok (.getfield 64, 3) := by decide +kernel
theorem dX6_hoursHeldUp_32 : decode cX6_hoursHeldUp 32 = .ok (.iload_n 3, 1) := by decide +kernel
theorem dX6_hoursHeldUp_33 : decode cX6_hoursHeldUp 33 = .ok (.invokevirtual 261, 3) := by decide +kernel
theorem dX6_hoursHeldUp_36 : decode cX6_hoursHeldUp 36 = .ok (.aload_n 0, 1) := by decide +kernel
theorem dX6_hoursHeldUp_37 : decode cX6_hoursHeldUp 37 = .ok (.getfield 64, 3) := by decide +kernel
theorem dX6_hoursHeldUp_40 : decode cX6_hoursHeldUp 40 = .ok (.iload_n 2, 1) := by decide +kernel
theorem dX6_hoursHeldUp_41 : decode cX6_hoursHeldUp 41 = .ok (.invokevirtual 136, 3) := by decide +kernel
theorem dX6_hoursHeldUp_44 : decode cX6_hoursHeldUp 44 = .ok (.ifCond .ne 6, 3) := by decide +kernel
theorem dX6_hoursHeldUp_47 : decode cX6_hoursHeldUp 47 = .ok (.iload 5, 2) := by decide +kernel
theorem dX6_hoursHeldUp_49 : decode cX6_hoursHeldUp 49 = .ok (.ireturn, 1) := by decide +kernel
theorem dX6_hoursHeldUp_50 : decode cX6_hoursHeldUp 50 = .ok (.iinc 5 1, 3) := by decide +kernel
theorem dX6_hoursHeldUp_53 : decode cX6_hoursHeldUp 53 = .ok (.goto (-32), 3) := by decide +kernel
theorem dX6_hoursHeldUp_56 : decode cX6_hoursHeldUp 56 = .ok (.iload 4, 2) := by decide +kernel
theorem dX6_hoursHeldUp_58 : decode cX6_hoursHeldUp 58 = .ok (.ireturn, 1) := by decide +kernel
theorem dX7_init_0 : decode cX7_init 0 = .ok (.aload_n 0, 1) := by decide +kernel
theorem dX7_init_1 : decode cX7_init 1 = .ok (.invokespecial 1, 3) := by decide +kernel
theorem dX7_init_4 : decode cX7_init 4 = .ok (.aload_n 0, 1) := by decide +kernel
theorem dX7_init_5 : decode cX7_init 5 = .ok (.bipush 9, 2) := by decide +kernel
theorem dX7_init_7 : decode cX7_init 7 = .ok (.newarray .int, 2) := by decide +kernel
theorem dX7_init_9 : decode cX7_init 9 = .ok (.putfield 7, 3) := by decide +kernel
theorem dX7_init_12 : decode cX7_init 12 = .ok (.aload_n 0, 1) := by decide +kernel
theorem dX7_init_13 : decode cX7_init 13 = .ok (.iconst 2, 1) := by decide +kernel
theorem dX7_init_14 : decode cX7_init 14 = .ok (.putfield 13, 3) := by decide +kernel
theorem dX7_init_17 : decode cX7_init 17 = .ok (.aload_n 0, 1) := by decide +kernel
theorem dX7_init_18 : decode cX7_init 18 = .ok (.bipush 10, 2) := by decide +kernel
theorem dX7_init_20 : decode cX7_init 20 = .ok (.newarray .int, 2) := by decide +kernel
theorem dX7_init_22 : decode cX7_init 22 = .ok (.putfield 17, 3) := by decide +kernel
theorem dX7_init_25 : decode cX7_init 25 = .ok (.aload_n 0, 1) := by decide +kernel
theorem dX7_init_26 : decode cX7_init 26 = .ok (.bipush 10, 2) := by decide +kernel
theorem dX7_init_28 : decode cX7_init 28 = .ok (.newarray .int, 2) := by decide +kernel
theorem dX7_init_30 : decode cX7_init 30 = .ok (.putfield 20, 3) := by decide +kernel
theorem dX7_init_33 : decode cX7_init 33 = .ok (.aload_n 0, 1) := by decide +kernel
theorem dX7_init_34 : decode cX7_init 34 = .ok (.bipush 10, 2) := by decide +kernel
theorem dX7_init_36 : decode cX7_init 36 = .ok (.newarray .int, 2) := by decide +kernel
theorem dX7_init_38 : decode cX7_init 38 = .ok (.putfield 23, 3) := by decide +kernel
theorem dX7_init_41 : decode cX7_init 41 = .ok (.aload_n 0, 1) := by decide +kernel
theorem dX7_init_42 : decode cX7_init 42 = .ok (.bipush 10, 2) := by decide +kernel
theorem dX7_init_44 : decode cX7_init 44 = .ok (.newarray .int, 2) := by decide +kernel
theorem dX7_init_46 : decode cX7_init 46 = .ok (.dup, 1) := by decide +kernel
theorem dX7_init_47 : decode cX7_init 47 = .ok (.iconst 0, 1) := by decide +kernel
theorem dX7_init_48 : decode cX7_init 48 = .ok (.bipush 20, 2) := by decide +kernel
theorem dX7_init_50 : decode cX7_init 50 = .ok (.iastore, 1) := by decide +kernel
theorem dX7_init_51 : decode cX7_init 51 = .ok (.dup, 1) := by decide +kernel
theorem dX7_init_52 : decode cX7_init 52 = .ok (.iconst 1, 1) := by decide +kernel
theorem dX7_init_53 : decode cX7_init 53 = .ok (.bipush 20, 2) := by decide +kernel
theorem dX7_init_55 : decode cX7_init 55 = .ok (.iastore, 1) := by decide +kernel
theorem dX7_init_56 : decode cX7_init 56 = .ok (.dup, 1) := by decide +kernel
theorem dX7_init_57 : decode cX7_init 57 = .ok (.iconst 2, 1) := by decide +kernel
theorem dX7_init_58 : decode cX7_init 58 = .ok (.iconst 0, 1) := by decide +kernel
theorem dX7_init_59 : decode cX7_init 59 = .ok (.iastore, 1) := by decide +kernel
theorem dX7_init_60 : decode cX7_init 60 = .ok (.dup, 1) := by decide +kernel
theorem dX7_init_61 : decode cX7_init 61 = .ok (.iconst 3, 1) := by decide +kernel
theorem dX7_init_62 : decode cX7_init 62 = .ok (.iconst 0, 1) := by decide +kernel
theorem dX7_init_63 : decode cX7_init 63 = .ok (.iastore, 1) := by decide +kernel
theorem dX7_init_64 : decode cX7_init 64 = .ok (.dup, 1) := by decide +kernel
theorem dX7_init_65 : decode cX7_init 65 = .ok (.iconst 4, 1) := by decide +kernel
theorem dX7_init_66 : decode cX7_init 66 = .ok (.iconst 0, 1) := by decide +kernel
theorem dX7_init_67 : decode cX7_init 67 = .ok (.iastore, 1) := by decide +kernel
theorem dX7_init_68 : decode cX7_init 68 = .ok (.dup, 1) := by decide +kernel
theorem dX7_init_69 : decode cX7_init 69 = .ok (.iconst 5, 1) := by decide +kernel
theorem dX7_init_70 : decode cX7_init 70 = .ok (.iconst 0, 1) := by decide +kernel
theorem dX7_init_71 : decode cX7_init 71 = .ok (.iastore, 1) := by decide +kernel
theorem dX7_init_72 : decode cX7_init 72 = .ok (.dup, 1) := by decide +kernel
theorem dX7_init_73 : decode cX7_init 73 = .ok (.bipush 6, 2) := by decide +kernel
theorem dX7_init_75 : decode cX7_init 75 = .ok (.iconst 0, 1) := by decide +kernel
theorem dX7_init_76 : decode cX7_init 76 = .ok (.iastore, 1) := by decide +kernel
theorem dX7_init_77 : decode cX7_init 77 = .ok (.dup, 1) := by decide +kernel
theorem dX7_init_78 : decode cX7_init 78 = .ok (.bipush 7, 2) := by decide +kernel
theorem dX7_init_80 : decode cX7_init 80 = .ok (.iconst 0, 1) := by decide +kernel
theorem dX7_init_81 : decode cX7_init 81 = .ok (.iastore, 1) := by decide +kernel
theorem dX7_init_82 : decode cX7_init 82 = .ok (.dup, 1) := by decide +kernel
theorem dX7_init_83 : decode cX7_init 83 = .ok (.bipush 8, 2) := by decide +kernel
theorem dX7_init_85 : decode cX7_init 85 = .ok (.iconst 0, 1) := by decide +kernel
theorem dX7_init_86 : decode cX7_init 86 = .ok (.iastore, 1) := by decide +kernel
theorem dX7_init_87 : decode cX7_init 87 = .ok (.dup, 1) := by decide +kernel
theorem dX7_init_88 : decode cX7_init 88 = .ok (.bipush 9, 2) := by decide +kernel
theorem dX7_init_90 : decode cX7_init 90 = .ok (.iconst 0, 1) := by decide +kernel
theorem dX7_init_91 : decode cX7_init 91 = .ok (.iastore, 1) := by decide +kernel
theorem dX7_init_92 : decode cX7_init 92 = .ok (.putfield 26, 3) := by decide +kernel
theorem dX7_init_95 : decode cX7_init 95 = .ok (.aload_n 0, 1) := by decide +kernel
theorem dX7_init_96 : decode cX7_init 96 = .ok (.bipush 10, 2) := by decide +kernel
theorem dX7_init_98 : decode cX7_init 98 = .ok (.newarray .int, 2) := by decide +kernel
theorem dX7_init_100 : decode cX7_init 100 = .ok (.dup, 1) := by decide +kernel
theorem dX7_init_101 : decode cX7_init 101 = .ok (.iconst 0, 1) := by decide +kernel
theorem dX7_init_102 : decode cX7_init 102 = .ok (.iconst 1, 1) := by decide +kernel
theorem dX7_init_103 : decode cX7_init 103 = .ok (.iastore, 1) := by decide +kernel
theorem dX7_init_104 : decode cX7_init 104 = .ok (.dup, 1) := by decide +kernel
theorem dX7_init_105 : decode cX7_init 105 = .ok (.iconst 1, 1) := by decide +kernel
theorem dX7_init_106 : decode cX7_init 106 = .ok (.iconst 1, 1) := by decide +kernel
theorem dX7_init_107 : decode cX7_init 107 = .ok (.iastore, 1) := by decide +kernel
theorem dX7_init_108 : decode cX7_init 108 = .ok (.dup, 1) := by decide +kernel
theorem dX7_init_109 : decode cX7_init 109 = .ok (.iconst 2, 1) := by decide +kernel
theorem dX7_init_110 : decode cX7_init 110 = .ok (.iconst 0, 1) := by decide +kernel
theorem dX7_init_111 : decode cX7_init 111 = .ok (.iastore, 1) := by decide +kernel
theorem dX7_init_112 : decode cX7_init 112 = .ok (.dup, 1) := by decide +kernel
theorem dX7_init_113 : decode cX7_init 113 = .ok (.iconst 3, 1) := by decide +kernel
theorem dX7_init_114 : decode cX7_init 114 = .ok (.iconst 0, 1) := by decide +kernel
theorem dX7_init_115 : decode cX7_init 115 = .ok (.iastore, 1) := by decide +kernel
theorem dX7_init_116 : decode cX7_init 116 = .ok (.dup, 1) := by decide +kernel
theorem dX7_init_117 : decode cX7_init 117 = .ok (.iconst 4, 1) := by decide +kernel
theorem dX7_init_118 : decode cX7_init 118 = .ok (.iconst 0, 1) := by decide +kernel
theorem dX7_init_119 : decode cX7_init 119 = .ok (.iastore, 1) := by decide +kernel
theorem dX7_init_120 : decode cX7_init 120 = .ok (.dup, 1) := by decide +kernel
theorem dX7_init_121 : decode cX7_init 121 = .ok (.iconst 5, 1) := by decide +kernel
theorem dX7_init_122 : decode cX7_init 122 = .ok (.iconst 0, 1) := by decide +kernel
theorem dX7_init_123 : decode cX7_init 123 = .ok (.iastore, 1) := by decide +kernel
theorem dX7_init_124 : decode cX7_init 124 = .ok (.dup, 1) := by decide +kernel
theorem dX7_init_125 : decode cX7_init 125 = .ok (.bipush 6, 2) := by decide +kernel
theorem dX7_init_127 : decode cX7_init 127 = .ok (.iconst 0, 1) := by decide +kernel
theorem dX7_init_128 : decode cX7_init 128 = .ok (.iastore, 1) := by decide +kernel
theorem dX7_init_129 : decode cX7_init 129 = .ok (.dup, 1) := by decide +kernel
theorem dX7_init_130 : decode cX7_init 130 = .ok (.bipush 7, 2) := by decide +kernel
theorem dX7_init_132 : decode cX7_init 132 = .ok (.iconst 0, 1) := by decide +kernel
theorem dX7_init_133 : decode cX7_init 133 = .ok (.iastore, 1) := by decide +kernel
theorem dX7_init_134 : decode cX7_init 134 = .ok (.dup, 1) := by decide +kernel
theorem dX7_init_135 : decode cX7_init 135 = .ok (.bipush 8, 2) := by decide +kernel
theorem dX7_init_137 : decode cX7_init 137 = .ok (.iconst 0, 1) := by decide +kernel
theorem dX7_init_138 : decode cX7_init 138 = .ok (.iastore, 1) := by decide +kernel
theorem dX7_init_139 : decode cX7_init 139 = .ok (.dup, 1) := by decide +kernel
theorem dX7_init_140 : decode cX7_init 140 = .ok (.bipush 9, 2) := by decide +kernel
theorem dX7_init_142 : decode cX7_init 142 = .ok (.iconst 0, 1) := by decide +kernel
theorem dX7_init_143 : decode cX7_init 143 = .ok (.iastore, 1) := by decide +kernel
theorem dX7_init_144 : decode cX7_init 144 = .ok (.putfield 29, 3) := by decide +kernel
theorem dX7_init_147 : decode cX7_init 147 = .ok (.aload_n 0, 1) := by decide +kernel
theorem dX7_init_148 : decode cX7_init 148 = .ok (.bipush 10, 2) := by decide +kernel
theorem dX7_init_150 : decode cX7_init 150 = .ok (.newarray .int, 2) := by decide +kernel
theorem dX7_init_152 : decode cX7_init 152 = .ok (.putfield 32, 3) := by decide +kernel
theorem dX7_init_155 : decode cX7_init 155 = .ok (.aload_n 0, 1) := by decide +kernel
theorem dX7_init_156 : decode cX7_init 156 = .ok (.bipush 10, 2) := by decide +kernel
theorem dX7_init_158 : decode cX7_init 158 = .ok (.newarray .int, 2) := by decide +kernel
theorem dX7_init_160 : decode cX7_init 160 = .ok (.putfield 35, 3) := by decide +kernel
theorem dX7_init_163 : decode cX7_init 163 = .ok (.aload_n 0, 1) := by decide +kernel
theorem dX7_init_164 : decode cX7_init 164 = .ok (.bipush 10, 2) := by decide +kernel
theorem dX7_init_166 : decode cX7_init 166 = .ok (.newarray .int, 2) := by decide +kernel
theorem dX7_init_168 : decode cX7_init 168 = .ok (.dup, 1) := by decide +kernel
theorem dX7_init_169 : decode cX7_init 169 = .ok (.iconst 0, 1) := by decide +kernel
theorem dX7_init_170 : decode cX7_init 170 = .ok (.iconst (-1), 1) := by decide +kernel
theorem dX7_init_171 : decode cX7_init 171 = .ok (.iastore, 1) := by decide +kernel
theorem dX7_init_172 : decode cX7_init 172 = .ok (.dup, 1) := by decide +kernel
theorem dX7_init_173 : decode cX7_init 173 = .ok (.iconst 1, 1) := by decide +kernel
theorem dX7_init_174 : decode cX7_init 174 = .ok (.iconst (-1), 1) := by decide +kernel
theorem dX7_init_175 : decode cX7_init 175 = .ok (.iastore, 1) := by decide +kernel
theorem dX7_init_176 : decode cX7_init 176 = .ok (.dup, 1) := by decide +kernel
theorem dX7_init_177 : decode cX7_init 177 = .ok (.iconst 2, 1) := by decide +kernel
theorem dX7_init_178 : decode cX7_init 178 = .ok (.iconst (-1), 1) := by decide +kernel
theorem dX7_init_179 : decode cX7_init 179 = .ok (.iastore, 1) := by decide +kernel
theorem dX7_init_180 : decode cX7_init 180 = .ok (.dup, 1) := by decide +kernel
theorem dX7_init_181 : decode cX7_init 181 = .ok (.iconst 3, 1) := by decide +kernel
theorem dX7_init_182 : decode cX7_init 182 = .ok (.iconst (-1), 1) := by decide +kernel
theorem dX7_init_183 : decode cX7_init 183 = .ok (.iastore, 1) := by decide +kernel
theorem dX7_init_184 : decode cX7_init 184 = .ok (.dup, 1) := by decide +kernel
theorem dX7_init_185 : decode cX7_init 185 = .ok (.iconst 4, 1) := by decide +kernel
theorem dX7_init_186 : decode cX7_init 186 = .ok (.iconst (-1), 1) := by decide +kernel
theorem dX7_init_187 : decode cX7_init 187 = .ok (.iastore, 1) := by decide +kernel
theorem dX7_init_188 : decode cX7_init 188 = .ok (.dup, 1) := by decide +kernel
theorem dX7_init_189 : decode cX7_init 189 = .ok (.iconst 5, 1) := by decide +kernel
theorem dX7_init_190 : decode cX7_init 190 = .ok (.iconst (-1), 1) := by decide +kernel
theorem dX7_init_191 : decode cX7_init 191 = .ok (.iastore, 1) := by decide +kernel
theorem dX7_init_192 : decode cX7_init 192 = .ok (.dup, 1) := by decide +kernel
theorem dX7_init_193 : decode cX7_init 193 = .ok (.bipush 6, 2) := by decide +kernel
theorem dX7_init_195 : decode cX7_init 195 = .ok (.iconst (-1), 1) := by decide +kernel
theorem dX7_init_196 : decode cX7_init 196 = .ok (.iastore, 1) := by decide +kernel
theorem dX7_init_197 : decode cX7_init 197 = .ok (.dup, 1) := by decide +kernel
theorem dX7_init_198 : decode cX7_init 198 = .ok (.bipush 7, 2) := by decide +kernel
theorem dX7_init_200 : decode cX7_init 200 = .ok (.iconst (-1), 1) := by decide +kernel
theorem dX7_init_201 : decode cX7_init 201 = .ok (.iastore, 1) := by decide +kernel
theorem dX7_init_202 : decode cX7_init 202 = .ok (.dup, 1) := by decide +kernel
theorem dX7_init_203 : decode cX7_init 203 = .ok (.bipush 8, 2) := by decide +kernel
theorem dX7_init_205 : decode cX7_init 205 = .ok (.iconst (-1), 1) := by decide +kernel
theorem dX7_init_206 : decode cX7_init 206 = .ok (.iastore, 1) := by decide +kernel
theorem dX7_init_207 : decode cX7_init 207 = .ok (.dup, 1) := by decide +kernel
theorem dX7_init_208 : decode cX7_init 208 = .ok (.bipush 9, 2) := by decide +kernel
theorem dX7_init_210 : decode cX7_init 210 = .ok (.iconst (-1), 1) := by decide +kernel
theorem dX7_init_211 : decode cX7_init 211 = .ok (.iastore, 1) := by decide +kernel
theorem dX7_init_212 : decode cX7_init 212 = .ok (.putfield 38, 3) := by decide +kernel
theorem dX7_init_215 : decode cX7_init 215 = .ok (.aload_n 0, 1) := by decide +kernel
theorem dX7_init_216 : decode cX7_init 216 = .ok (.bipush 20, 2) := by decide +kernel
theorem dX7_init_218 : decode cX7_init 218 = .ok (.newarray .int, 2) := by decide +kernel
theorem dX7_init_220 : decode cX7_init 220 = .ok (.dup, 1) := by decide +kernel
theorem dX7_init_221 : decode cX7_init 221 = .ok (.iconst 0, 1) := by decide +kernel
theorem dX7_init_222 : decode cX7_init 222 = .ok (.iconst (-1), 1) := by decide +kernel
theorem dX7_init_223 : decode cX7_init 223 = .ok (.iastore, 1) := by decide +kernel
theorem dX7_init_224 : decode cX7_init 224 = .ok (.dup, 1) := by decide +kernel
theorem dX7_init_225 : decode cX7_init 225 = .ok (.iconst 1, 1) := by decide +kernel
theorem dX7_init_226 : decode cX7_init 226 = .ok (.iconst (-1), 1) := by decide +kernel
theorem dX7_init_227 : decode cX7_init 227 = .ok (.iastore, 1) := by decide +kernel
theorem dX7_init_228 : decode cX7_init 228 = .ok (.dup, 1) := by decide +kernel
theorem dX7_init_229 : decode cX7_init 229 = .ok (.iconst 2, 1) := by decide +kernel
theorem dX7_init_230 : decode cX7_init 230 = .ok (.iconst (-1), 1) := by decide +kernel
theorem dX7_init_231 : decode cX7_init 231 = .ok (.iastore, 1) := by decide +kernel
theorem dX7_init_232 : decode cX7_init 232 = .ok (.dup, 1) := by decide +kernel
theorem dX7_init_233 : decode cX7_init 233 = .ok (.iconst 3, 1) := by decide +kernel
theorem dX7_init_234 : decode cX7_init 234 = .ok (.iconst (-1), 1) := by decide +kernel
theorem dX7_init_235 : decode cX7_init 235 = .ok (.iastore, 1) := by decide +kernel
theorem dX7_init_236 : decode cX7_init 236 = .ok (.dup, 1) := by decide +kernel
theorem dX7_init_237 : decode cX7_init 237 = .ok (.iconst 4, 1) := by decide +kernel
theorem dX7_init_238 : decode cX7_init 238 = .ok (.iconst (-1), 1) := by decide +kernel
theorem dX7_init_239 : decode cX7_init 239 = .ok (.iastore, 1) := by decide +kernel
theorem dX7_init_240 : decode cX7_init 240 = .ok (.dup, 1) := by decide +kernel
theorem dX7_init_241 : decode cX7_init 241 = .ok (.iconst 5, 1) := by decide +kernel
theorem dX7_init_242 : decode cX7_init 242 = .ok (.iconst (-1), 1) := by decide +kernel
theorem dX7_init_243 : decode cX7_init 243 = .ok (.iastore, 1) := by decide +kernel
theorem dX7_init_244 : decode cX7_init 244 = .ok (.dup, 1) := by decide +kernel
theorem dX7_init_245 : decode cX7_init 245 = .ok (.bipush 6, 2) := by decide +kernel
theorem dX7_init_247 : decode cX7_init 247 = .ok (.iconst (-1), 1) := by decide +kernel
theorem dX7_init_248 : decode cX7_init 248 = .ok (.iastore, 1) := by decide +kernel
theorem dX7_init_249 : decode cX7_init 249 = .ok (.dup, 1) := by decide +kernel
theorem dX7_init_250 : decode cX7_init 250 = .ok (.bipush 7, 2) := by decide +kernel
theorem dX7_init_252 : decode cX7_init 252 = .ok (.iconst (-1), 1) := by decide +kernel
theorem dX7_init_253 : decode cX7_init 253 = .ok (.iastore, 1) := by decide +kernel
theorem dX7_init_254 : decode cX7_init 254 = .ok (.dup, 1) := by decide +kernel
theorem dX7_init_255 : decode cX7_init 255 = .ok (.bipush 8, 2) := by decide +kernel
theorem dX7_init_257 : decode cX7_init 257 = .ok (.iconst (-1), 1) := by decide +kernel
theorem dX7_init_258 : decode cX7_init 258 = .ok (.iastore, 1) := by decide +kernel
theorem dX7_init_259 : decode cX7_init 259 = .ok (.dup, 1) := by decide +kernel
theorem dX7_init_260 : decode cX7_init 260 = .ok (.bipush 9, 2) := by decide +kernel
end
section
theorem dX7_init_262 : decode cX7_init 262 = .ok (.iconst (-1), 1) := by decide +kernel
theorem dX7_init_263 : decode cX7_init 263 = .ok (.iastore, 1) := by decide +kernel
theorem dX7_init_264 : decode cX7_init 264 = .ok (.dup, 1) := by decide +kernel
theorem dX7_init_265 : decode cX7_init 265 = .ok (.bipush 10, 2) := by decide +kernel
theorem dX7_init_267 : decode cX7_init 267 = .ok (.iconst (-1), 1) := by decide +kernel
theorem dX7_init_268 : decode cX7_init 268 = .ok (.iastore, 1) := by decide +kernel
theorem dX7_init_269 : decode cX7_init 269 = .ok (.dup, 1) := by decide +kernel
theorem dX7_init_270 : decode cX7_init 270 = .ok (.bipush 11, 2) := by decide +kernel
theorem dX7_init_272 : decode cX7_init 272 = .ok (.iconst (-1), 1) := by decide +kernel
theorem dX7_init_273 : decode cX7_init 273 = .ok (.iastore, 1) := by decide +kernel
theorem dX7_init_274 : decode cX7_init 274 = .ok (.dup, 1) := by decide +kernel
theorem dX7_init_275 : decode cX7_init 275 = .ok (.bipush 12, 2) := by decide +kernel
theorem dX7_init_277 : decode cX7_init 277 = .ok (.iconst (-1), 1) := by decide +kernel
theorem dX7_init_278 : decode cX7_init 278 = .ok (.iastore, 1) := by decide +kernel
theorem dX7_init_279 : decode cX7_init 279 = .ok (.dup, 1) := by decide +kernel
theorem dX7_init_280 : decode cX7_init 280 = .ok (.bipush 13, 2) := by decide +kernel
theorem dX7_init_282 : decode cX7_init 282 = .ok (.iconst (-1), 1) := by decide +kernel
theorem dX7_init_283 : decode cX7_init 283 = .ok (.iastore, 1) := by decide +kernel
theorem dX7_init_284 : decode cX7_init 284 = .ok (.dup, 1) := by decide +kernel
theorem dX7_init_285 : decode cX7_init 285 = .ok (.bipush 14, 2) := by decide +kernel
theorem dX7_init_287 : decode cX7_init 287 = .ok (.iconst (-1), 1) := by decide +kernel
theorem dX7_init_288 : decode cX7_init 288 = .ok (.iastore, 1) := by decide +kernel
theorem dX7_init_289 : decode cX7_init 289 = .ok (.dup, 1) := by decide +kernel
theorem dX7_init_290 : decode cX7_init 290 = .ok (.bipush 15, 2) := by decide +kernel
theorem dX7_init_292 : decode cX7_init 292 = .ok (.iconst (-1), 1) := by decide +kernel
theorem dX7_init_293 : decode cX7_init 293 = .ok (.iastore, 1) := by decide +kernel
theorem dX7_init_294 : decode cX7_init 294 = .ok (.dup, 1) := by decide +kernel
theorem dX7_init_295 : decode cX7_init 295 = .ok (.bipush 16, 2) := by decide +kernel
theorem dX7_init_297 : decode cX7_init 297 = .ok (.iconst (-1), 1) := by decide +kernel
theorem dX7_init_298 : decode cX7_init 298 = .ok (.iastore, 1) := by decide +kernel
theorem dX7_init_299 : decode cX7_init 299 = .ok (.dup, 1) := by decide +kernel
theorem dX7_init_300 : decode cX7_init 300 = .ok (.bipush 17, 2) := by decide +kernel
theorem dX7_init_302 : decode cX7_init 302 = .ok (.iconst (-1), 1) := by decide +kernel
theorem dX7_init_303 : decode cX7_init 303 = .ok (.iastore, 1) := by decide +kernel
theorem dX7_init_304 : decode cX7_init 304 = .ok (.dup, 1) := by decide +kernel
theorem dX7_init_305 : decode cX7_init 305 = .ok (.bipush 18, 2) := by decide +kernel
theorem dX7_init_307 : decode cX7_init 307 = .ok (.iconst (-1), 1) := by decide +kernel
theorem dX7_init_308 : decode cX7_init 308 = .ok (.iastore, 1) := by decide +kernel
theorem dX7_init_309 : decode cX7_init 309 = .ok (.dup, 1) := by decide +kernel
theorem dX7_init_310 : decode cX7_init 310 = .ok (.bipush 19, 2) := by decide +kernel
theorem dX7_init_312 : decode cX7_init 312 = .ok (.iconst (-1), 1) := by decide +kernel
theorem dX7_init_313 : decode cX7_init 313 = .ok (.iastore, 1) := by decide +kernel
theorem dX7_init_314 : decode cX7_init 314 = .ok (.putfield 41, 3) := by decide +kernel
theorem dX7_init_317 : decode cX7_init 317 = .ok (.aload_n 0, 1) := by decide +kernel
theorem dX7_init_318 : decode cX7_init 318 = .ok (.bipush 48, 2) := by decide +kernel
theorem dX7_init_320 : decode cX7_init 320 = .ok (.newarray .int, 2) := by decide +kernel
theorem dX7_init_322 : decode cX7_init 322 = .ok (.putfield 44, 3) := by decide +kernel
theorem dX7_init_325 : decode cX7_init 325 = .ok (.aload_n 0, 1) := by decide +kernel
theorem dX7_init_326 : decode cX7_init 326 = .ok (.bipush 24, 2) := by decide +kernel
theorem dX7_init_328 : decode cX7_init 328 = .ok (.newarray .int, 2) := by decide +kernel
theorem dX7_init_330 : decode cX7_init 330 = .ok (.putfield 47, 3) := by decide +kernel
theorem dX7_init_333 : decode cX7_init 333 = .ok (.aload_n 0, 1) := by decide +kernel
theorem dX7_init_334 : decode cX7_init 334 = .ok (.bipush 24, 2) := by decide +kernel
theorem dX7_init_336 : decode cX7_init 336 = .ok (.newarray .int, 2) := by decide +kernel
theorem dX7_init_338 : decode cX7_init 338 = .ok (.putfield 50, 3) := by decide +kernel
theorem dX7_init_341 : decode cX7_init 341 = .ok (.aload_n 0, 1) := by decide +kernel
theorem dX7_init_342 : decode cX7_init 342 = .ok (.bipush 24, 2) := by decide +kernel
theorem dX7_init_344 : decode cX7_init 344 = .ok (.newarray .int, 2) := by decide +kernel
theorem dX7_init_346 : decode cX7_init 346 = .ok (.putfield 53, 3) := by decide +kernel
theorem dX7_init_349 : decode cX7_init 349 = .ok (.aload_n 0, 1) := by decide +kernel
theorem dX7_init_350 : decode cX7_init 350 = .ok (.bipush 24, 2) := by decide +kernel
theorem dX7_init_352 : decode cX7_init 352 = .ok (.newarray .int, 2) := by decide +kernel
theorem dX7_init_354 : decode cX7_init 354 = .ok (.putfield 56, 3) := by decide +kernel
theorem dX7_init_357 : decode cX7_init 357 = .ok (.aload_n 0, 1) := by decide +kernel
theorem dX7_init_358 : decode cX7_init 358 = .ok (.bipush 24, 2) := by decide +kernel
theorem dX7_init_360 : decode cX7_init 360 = .ok (.newarray .int, 2) := by decide +kernel
theorem dX7_init_362 : decode cX7_init 362 = .ok (.putfield 59, 3) := by decide +kernel
theorem dX7_init_365 : decode cX7_init 365 = .ok (.aload_n 0, 1) := by decide +kernel
theorem dX7_init_366 : decode cX7_init 366 = .ok (.bipush 24, 2) := by decide +kernel
theorem dX7_init_368 : decode cX7_init 368 = .ok (.newarray .int, 2) := by decide +kernel
theorem dX7_init_370 : decode cX7_init 370 = .ok (.putfield 62, 3) := by decide +kernel
theorem dX7_init_373 : decode cX7_init 373 = .ok (.aload_n 0, 1) := by decide +kernel
theorem dX7_init_374 : decode cX7_init 374 = .ok (.bipush 24, 2) := by decide +kernel
theorem dX7_init_376 : decode cX7_init 376 = .ok (.newarray .int, 2) := by decide +kernel
theorem dX7_init_378 : decode cX7_init 378 = .ok (.putfield 65, 3) := by decide +kernel
theorem dX7_init_381 : decode cX7_init 381 = .ok (.aload_n 0, 1) := by decide +kernel
theorem dX7_init_382 : decode cX7_init 382 = .ok (.sipush 150, 3) := by decide +kernel
theorem dX7_init_385 : decode cX7_init 385 = .ok (.newarray .int, 2) := by decide +kernel
theorem dX7_init_387 : decode cX7_init 387 = .ok (.putfield 68, 3) := by decide +kernel
theorem dX7_init_390 : decode cX7_init 390 = .ok (.aload_n 0, 1) := by decide +kernel
theorem dX7_init_391 : decode cX7_init 391 = .ok (.bipush 24, 2) := by decide +kernel
theorem dX7_init_393 : decode cX7_init 393 = .ok (.newarray .boolean, 2) := by decide +kernel
theorem dX7_init_395 : decode cX7_init 395 = .ok (.putfield 71, 3) := by decide +kernel
theorem dX7_init_398 : decode cX7_init 398 = .ok (.aload_n 0, 1) := by decide +kernel
theorem dX7_init_399 : decode cX7_init 399 = .ok (.bipush 50, 2) := by decide +kernel
theorem dX7_init_401 : decode cX7_init 401 = .ok (.newarray .int, 2) := by decide +kernel
theorem dX7_init_403 : decode cX7_init 403 = .ok (.putfield 75, 3) := by decide +kernel
theorem dX7_init_406 : decode cX7_init 406 = .ok (.aload_n 0, 1) := by decide +kernel
theorem dX7_init_407 : decode cX7_init 407 = .ok (.bipush 80, 2) := by decide +kernel
theorem dX7_init_409 : decode cX7_init 409 = .ok (.newarray .int, 2) := by decide +kernel
theorem dX7_init_411 : decode cX7_init 411 = .ok (.putfield 78, 3) := by decide +kernel
theorem dX7_init_414 : decode cX7_init 414 = .ok (.aload_n 0, 1) := by decide +kernel
theorem dX7_init_415 : decode cX7_init 415 = .ok (.bipush 48, 2) := by decide +kernel
theorem dX7_init_417 : decode cX7_init 417 = .ok (.newarray .int, 2) := by decide +kernel
theorem dX7_init_419 : decode cX7_init 419 = .ok (.putfield 81, 3) := by decide +kernel
theorem dX7_init_422 : decode cX7_init 422 = .ok (.aload_n 0, 1) := by decide +kernel
theorem dX7_init_423 : decode cX7_init 423 = .ok (.bipush 48, 2) := by decide +kernel
theorem dX7_init_425 : decode cX7_init 425 = .ok (.newarray .int, 2) := by decide +kernel
theorem dX7_init_427 : decode cX7_init 427 = .ok (.putfield 84, 3) := by decide +kernel
theorem dX7_init_430 : decode cX7_init 430 = .ok (.iconst 0, 1) := by decide +kernel
theorem dX7_init_431 : decode cX7_init 431 = .ok (.istore_n 1, 1) := by decide +kernel
theorem dX7_init_432 : decode cX7_init 432 = .ok (.iload_n 1, 1) := by decide +kernel
theorem dX7_init_433 : decode cX7_init 433 = .ok (.bipush 48, 2) := by decide +kernel
theorem dX7_init_435 : decode cX7_init 435 = .ok (.if_icmp .ge 18, 3) := by decide +kernel
theorem dX7_init_438 : decode cX7_init 438 = .ok (.aload_n 0, 1) := by decide +kernel
theorem dX7_init_439 : decode cX7_init 439 = .ok (.getfield 44, 3) := by decide +kernel
theorem dX7_init_442 : decode cX7_init 442 = .ok (.iload_n 1, 1) := by decide +kernel
theorem dX7_init_443 : decode cX7_init 443 = .ok (.sipush (-9999), 3) := by decide +kernel
theorem dX7_init_446 : decode cX7_init 446 = .ok (.iastore, 1) := by decide +kernel
theorem dX7_init_447 : decode cX7_init 447 = .ok (.iinc 1 1, 3) := by decide +kernel
theorem dX7_init_450 : decode cX7_init 450 = .ok (.goto (-18), 3) := by decide +kernel
theorem dX7_init_453 : decode cX7_init 453 = .ok (.return_, 1) := by decide +kernel
theorem dX7_in_0 : decode cX7_in 0 = .ok (.iload_n 0, 1) := by decide +kernel
theorem dX7_in_1 : decode cX7_in 1 = .ok (.iload_n 1, 1) := by decide +kernel
theorem dX7_in_2 : decode cX7_in 2 = .ok (.if_icmp .lt 12, 3) := by decide +kernel
theorem dX7_in_5 : decode cX7_in 5 = .ok (.iload_n 0, 1) := by decide +kernel
theorem dX7_in_6 : decode cX7_in 6 = .ok (.iload_n 2, 1) := by decide +kernel
theorem dX7_in_7 : decode cX7_in 7 = .ok (.if_icmp .gt 7, 3) := by decide +kernel
theorem dX7_in_10 : decode cX7_in 10 = .ok (.iconst 1, 1) := by decide +kernel
theorem dX7_in_11 : decode cX7_in 11 = .ok (.goto 4, 3) := by decide +kernel
theorem dX7_in_14 : decode cX7_in 14 = .ok (.iconst 0, 1) := by decide +kernel
theorem dX7_in_15 : decode cX7_in 15 = .ok (.ireturn, 1) := by decide +kernel
theorem dX7_refuse_0 : decode cX7_refuse 0 = .ok (.aload_n 0, 1) := by decide +kernel
theorem dX7_refuse_1 : decode cX7_refuse 1 = .ok (.getfield 7, 3) := by decide +kernel
theorem dX7_refuse_4 : decode cX7_refuse 4 = .ok (.iload_n 1, 1) := by decide +kernel
theorem dX7_refuse_5 : decode cX7_refuse 5 = .ok (.ineg, 1) := by decide +kernel
theorem dX7_refuse_6 : decode cX7_refuse 6 = .ok (.dup2, 1) := by decide +kernel
theorem dX7_refuse_7 : decode cX7_refuse 7 = .ok (.iaload, 1) := by decide +kernel
theorem dX7_refuse_8 : decode cX7_refuse 8 = .ok (.iconst 1, 1) := by decide +kernel
theorem dX7_refuse_9 : decode cX7_refuse 9 = .ok (.iadd, 1) := by decide +kernel
theorem dX7_refuse_10 : decode cX7_refuse 10 = .ok (.iastore, 1) := by decide +kernel
theorem dX7_refuse_11 : decode cX7_refuse 11 = .ok (.iload_n 1, 1) := by decide +kernel
theorem dX7_refuse_12 : decode cX7_refuse 12 = .ok (.ireturn, 1) := by decide +kernel
theorem dX7_nought_0 : decode cX7_nought 0 = .ok (.aload_n 0, 1) := by decide +kernel
theorem dX7_nought_1 : decode cX7_nought 1 = .ok (.getfield 7, 3) := by decide +kernel
theorem dX7_nought_4 : decode cX7_nought 4 = .ok (.iload_n 1, 1) := by decide +kernel
theorem dX7_nought_5 : decode cX7_nought 5 = .ok (.ineg, 1) := by decide +kernel
theorem dX7_nought_6 : decode cX7_nought 6 = .ok (.dup2, 1) := by decide +kernel
theorem dX7_nought_7 : decode cX7_nought 7 = .ok (.iaload, 1) := by decide +kernel
theorem dX7_nought_8 : decode cX7_nought 8 = .ok (.iconst 1, 1) := by decide +kernel
theorem dX7_nought_9 : decode cX7_nought 9 = .ok (.iadd, 1) := by decide +kernel
theorem dX7_nought_10 : decode cX7_nought 10 = .ok (.iastore, 1) := by decide +kernel
theorem dX7_nought_11 : decode cX7_nought 11 = .ok (.iconst 0, 1) := by decide +kernel
theorem dX7_nought_12 : decode cX7_nought 12 = .ok (.ireturn, 1) := by decide +kernel
theorem dX7_isCell_0 : decode cX7_isCell 0 = .ok (.iload_n 1, 1) := by decide +kernel
theorem dX7_isCell_1 : decode cX7_isCell 1 = .ok (.iconst 0, 1) := by decide +kernel
theorem dX7_isCell_2 : decode cX7_isCell 2 = .ok (.aload_n 0, 1) := by decide +kernel
theorem dX7_isCell_3 : decode cX7_isCell 3 = .ok (.getfield 13, 3) := by decide +kernel
theorem dX7_isCell_6 : decode cX7_isCell 6 = .ok (.iconst 1, 1) := by decide +kernel
theorem dX7_isCell_7 : decode cX7_isCell 7 = .ok (.isub, 1) := by decide +kernel
theorem dX7_isCell_8 : decode cX7_isCell 8 = .ok (.invokestatic 87, 3) := by decide +kernel
theorem dX7_isCell_11 : decode cX7_isCell 11 = .ok (.ireturn, 1) := by decide +kernel
theorem dX7_isLoad_0 : decode cX7_isLoad 0 = .ok (.iload_n 1, 1) := by decide +kernel
theorem dX7_isLoad_1 : decode cX7_isLoad 1 = .ok (.iconst 0, 1) := by decide +kernel
theorem dX7_isLoad_2 : decode cX7_isLoad 2 = .ok (.aload_n 0, 1) := by decide +kernel
theorem dX7_isLoad_3 : decode cX7_isLoad 3 = .ok (.getfield 91, 3) := by decide +kernel
theorem dX7_isLoad_6 : decode cX7_isLoad 6 = .ok (.iconst 1, 1) := by decide +kernel
theorem dX7_isLoad_7 : decode cX7_isLoad 7 = .ok (.isub, 1) := by decide +kernel
theorem dX7_isLoad_8 : decode cX7_isLoad 8 = .ok (.invokestatic 87, 3) := by decide +kernel
theorem dX7_isLoad_11 : decode cX7_isLoad 11 = .ok (.ireturn, 1) := by decide +kernel
theorem dX7_cell_0 : decode cX7_cell 0 = .ok (.iload_n 1, 1) := by decide +kernel
theorem dX7_cell_1 : decode cX7_cell 1 = .ok (.iconst 1, 1) := by decide +kernel
theorem dX7_cell_2 : decode cX7_cell 2 = .ok (.bipush 60, 2) := by decide +kernel
theorem dX7_cell_4 : decode cX7_cell 4 = .ok (.invokestatic 87, 3) := by decide +kernel
theorem dX7_cell_7 : decode cX7_cell 7 = .ok (.ifCond .eq 19, 3) := by decide +kernel
theorem dX7_cell_10 : decode cX7_cell 10 = .ok (.iload_n 2, 1) := by decide +kernel
theorem dX7_cell_11 : decode cX7_cell 11 = .ok (.iconst 1, 1) := by decide +kernel
theorem dX7_cell_12 : decode cX7_cell 12 = .ok (.iconst 4, 1) := by decide +kernel
theorem dX7_cell_13 : decode cX7_cell 13 = .ok (.invokestatic 87, 3) := by decide +kernel
theorem dX7_cell_16 : decode cX7_cell 16 = .ok (.ifCond .eq 10, 3) := by decide +kernel
theorem dX7_cell_19 : decode cX7_cell 19 = .ok (.aload_n 0, 1) := by decide +kernel
theorem dX7_cell_20 : decode cX7_cell 20 = .ok (.getfield 91, 3) := by decide +kernel
theorem dX7_cell_23 : decode cX7_cell 23 = .ok (.ifCond .le 10, 3) := by decide +kernel
theorem dX7_cell_26 : decode cX7_cell 26 = .ok (.aload_n 0, 1) := by decide +kernel
theorem dX7_cell_27 : decode cX7_cell 27 = .ok (.bipush (-7), 2) := by decide +kernel
theorem dX7_cell_29 : decode cX7_cell 29 = .ok (.invokevirtual 94, 3) := by decide +kernel
theorem dX7_cell_32 : decode cX7_cell 32 = .ok (.ireturn, 1) := by decide +kernel
theorem dX7_cell_33 : decode cX7_cell 33 = .ok (.aload_n 0, 1) := by decide +kernel
theorem dX7_cell_34 : decode cX7_cell 34 = .ok (.getfield 13, 3) := by decide +kernel
theorem dX7_cell_37 : decode cX7_cell 37 = .ok (.bipush 10, 2) := by decide +kernel
theorem dX7_cell_39 : decode cX7_cell 39 = .ok (.if_icmp .ne 10, 3) := by decide +kernel
theorem dX7_cell_42 : decode cX7_cell 42 = .ok (.aload_n 0, 1) := by decide +kernel
theorem dX7_cell_43 : decode cX7_cell 43 = .ok (.bipush (-8), 2) := by decide +kernel
theorem dX7_cell_45 : decode cX7_cell 45 = .ok (.invokevirtual 94, 3) := by decide +kernel
theorem dX7_cell_48 : decode cX7_cell 48 = .ok (.ireturn, 1) := by decide +kernel
theorem dX7_cell_49 : decode cX7_cell 49 = .ok (.aload_n 0, 1) := by decide +kernel
theorem dX7_cell_50 : decode cX7_cell 50 = .ok (.getfield 26, 3) := by decide +kernel
theorem dX7_cell_53 : decode cX7_cell 53 = .ok (.aload_n 0, 1) := by decide +kernel
theorem dX7_cell_54 : decode cX7_cell 54 = .ok (.getfield 13, 3) := by decide +kernel
theorem dX7_cell_57 : decode cX7_cell 57 = .ok (.iload_n 1, 1) := by decide +kernel
theorem dX7_cell_58 : decode cX7_cell 58 = .ok (.iastore, 1) := by decide +kernel
theorem dX7_cell_59 : decode cX7_cell 59 = .ok (.aload_n 0, 1) := by decide +kernel
theorem dX7_cell_60 : decode cX7_cell 60 = .ok (.getfield 29, 3) := by decide +kernel
theorem dX7_cell_63 : decode cX7_cell 63 = .ok (.aload_n 0, 1) := by decide +kernel
theorem dX7_cell_64 : decode cX7_cell 64 = .ok (.getfield 13, 3) := by decide +kernel
theorem dX7_cell_67 : decode cX7_cell 67 = .ok (.iload_n 2, 1) := by decide +kernel
theorem dX7_cell_68 : decode cX7_cell 68 = .ok (.iastore, 1) := by decide +kernel
theorem dX7_cell_69 : decode cX7_cell 69 = .ok (.aload_n 0, 1) := by decide +kernel
theorem dX7_cell_70 : decode cX7_cell 70 = .ok (.getfield 17, 3) := by decide +kernel
theorem dX7_cell_73 : decode cX7_cell 73 = .ok (.aload_n 0, 1) := by decide +kernel
theorem dX7_cell_74 : decode cX7_cell 74 = .ok (.getfield 13, 3) := by decide +kernel
theorem dX7_cell_77 : decode cX7_cell 77 = .ok (.iload_n 3, 1) := by decide +kernel
theorem dX7_cell_78 : decode cX7_cell 78 = .ok (.ifCond .eq 7, 3) := by decide +kernel
theorem dX7_cell_81 : decode cX7_cell 81 = .ok (.iconst 4, 1) := by decide +kernel
theorem dX7_cell_82 : decode cX7_cell 82 = .ok (.goto 4, 3) := by decide +kernel
theorem dX7_cell_85 : decode cX7_cell 85 = .ok (.iconst 0, 1) := by decide +kernel
theorem dX7_cell_86 : decode cX7_cell 86 = .ok (.iastore, 1) := by decide +kernel
theorem dX7_cell_87 : decode cX7_cell 87 = .ok (.aload_n 0, 1) := by decide +kernel
theorem dX7_cell_88 : decode cX7_cell 88 = .ok (.dup, 1) := by decide +kernel
theorem dX7_cell_89 : decode cX7_cell 89 = .ok (.getfield 13, 3) := by decide +kernel
theorem dX7_cell_92 : decode cX7_cell 92 = .ok (.iconst 1, 1) := by decide +kernel
theorem dX7_cell_93 : decode cX7_cell 93 = .ok (.iadd, 1) := by decide +kernel
theorem dX7_cell_94 : decode cX7_cell 94 = .ok (.putfield 13, 3) := by decide +kernel
theorem dX7_cell_97 : decode cX7_cell 97 = .ok (.aload_n 0, 1) := by decide +kernel
theorem dX7_cell_98 : decode cX7_cell 98 = .ok (.getfield 13, 3) := by decide +kernel
theorem dX7_cell_101 : decode cX7_cell 101 = .ok (.iconst 1, 1) := by decide +kernel
theorem dX7_cell_102 : decode cX7_cell 102 = .ok (.isub, 1) := by decide +kernel
theorem dX7_cell_103 : decode cX7_cell 103 = .ok (.ireturn, 1) := by decide +kernel
theorem dX7_becomes_0 : decode cX7_becomes 0 = .ok (.aload_n 0, 1) := by decide +kernel
theorem dX7_becomes_1 : decode cX7_becomes 1 = .ok (.getfield 17, 3) := by decide +kernel
theorem dX7_becomes_4 : decode cX7_becomes 4 = .ok (.iload_n 1, 1) := by decide +kernel
theorem dX7_becomes_5 : decode cX7_becomes 5 = .ok (.iaload, 1) := by decide +kernel
theorem dX7_becomes_6 : decode cX7_becomes 6 = .ok (.iload_n 2, 1) := by decide +kernel
theorem dX7_becomes_7 : decode cX7_becomes 7 = .ok (.if_icmp .eq 10, 3) := by decide +kernel
theorem dX7_becomes_10 : decode cX7_becomes 10 = .ok (.aload_n 0, 1) := by decide +kernel
theorem dX7_becomes_11 : decode cX7_becomes 11 = .ok (.getfield 38, 3) := by decide +kernel
theorem dX7_becomes_14 : decode cX7_becomes 14 = .ok (.iload_n 1, 1) := by decide +kernel
theorem dX7_becomes_15 : decode cX7_becomes 15 = .ok (.iconst (-1), 1) := by decide +kernel
theorem dX7_becomes_16 : decode cX7_becomes 16 = .ok (.iastore, 1) := by decide +kernel
theorem dX7_becomes_17 : decode cX7_becomes 17 = .ok (.aload_n 0, 1) := by decide +kernel
theorem dX7_becomes_18 : decode cX7_becomes 18 = .ok (.getfield 17, 3) := by decide +kernel
theorem dX7_becomes_21 : decode cX7_becomes 21 = .ok (.iload_n 1, 1) := by decide +kernel
theorem dX7_becomes_22 : decode cX7_becomes 22 = .ok (.iload_n 2, 1) := by decide +kernel
theorem dX7_becomes_23 : decode cX7_becomes 23 = .ok (.iastore, 1) := by decide +kernel
theorem dX7_becomes_24 : decode cX7_becomes 24 = .ok (.return_, 1) := by decide +kernel
theorem dX7_nearest_0 : decode cX7_nearest 0 = .ok (.iload_n 1, 1) := by decide +kernel
theorem dX7_nearest_1 : decode cX7_nearest 1 = .ok (.iload_n 2, 1) := by decide +kernel
theorem dX7_nearest_2 : decode cX7_nearest 2 = .ok (.iadd, 1) := by decide +kernel
theorem dX7_nearest_3 : decode cX7_nearest 3 = .ok (.istore_n 3, 1) := by decide +kernel
theorem dX7_nearest_4 : decode cX7_nearest 4 = .ok (.aload_n 0, 1) := by decide +kernel
theorem dX7_nearest_5 : decode cX7_nearest 5 = .ok (.iload_n 3, 1) := by decide +kernel
theorem dX7_nearest_6 : decode cX7_nearest 6 = .ok (.invokevirtual 98, 3) := by decide +kernel
theorem dX7_nearest_9 : decode cX7_nearest 9 = .ok (.ifCond .eq 20, 3) := by decide +kernel
theorem dX7_nearest_12 : decode cX7_nearest 12 = .ok (.aload_n 0, 1) := by decide +kernel
theorem dX7_nearest_13 : decode cX7_nearest 13 = .ok (.getfield 38, 3) := by decide +kernel
theorem dX7_nearest_16 : decode cX7_nearest 16 = .ok (.iload_n 3, 1) := by decide +kernel
theorem dX7_nearest_17 : decode cX7_nearest 17 = .ok (.iaload, 1) := by decide +kernel
theorem dX7_nearest_18 : decode cX7_nearest 18 = .ok (.iconst (-1), 1) := by decide +kernel
theorem dX7_nearest_19 : decode cX7_nearest 19 = .ok (.if_icmp .ne 10, 3) := by decide +kernel
theorem dX7_nearest_22 : decode cX7_nearest 22 = .ok (.iload_n 3, 1) := by decide +kernel
theorem dX7_nearest_23 : decode cX7_nearest 23 = .ok (.iload_n 2, 1) := by decide +kernel
theorem dX7_nearest_24 : decode cX7_nearest 24 = .ok (.iadd, 1) := by decide +kernel
theorem dX7_nearest_25 : decode cX7_nearest 25 = .ok (.istore_n 3, 1) := by decide +kernel
theorem dX7_nearest_26 : decode cX7_nearest 26 = .ok (.goto (-22), 3) := by decide +kernel
theorem dX7_nearest_29 : decode cX7_nearest 29 = .ok (.aload_n 0, 1) := by decide +kernel
theorem dX7_nearest_30 : decode cX7_nearest 30 = .ok (.iload_n 3, 1) := by decide +kernel
theorem dX7_nearest_31 : decode cX7_nearest 31 = .ok (.invokevirtual 98, 3) := by decide +kernel
theorem dX7_nearest_34 : decode cX7_nearest 34 = .ok (.ifCond .eq 7, 3) := by decide +kernel
theorem dX7_nearest_37 : decode cX7_nearest 37 = .ok (.iload_n 3, 1) := by decide +kernel
theorem dX7_nearest_38 : decode cX7_nearest 38 = .ok (.goto 4, 3) := by decide +kernel
theorem dX7_nearest_41 : decode cX7_nearest 41 = .ok (.iconst (-1), 1) := by decide +kernel
theorem dX7_nearest_42 : decode cX7_nearest 42 = .ok (.ireturn, 1) := by decide +kernel
theorem dX7_least_0 : decode cX7_least 0 = .ok (.aload_n 0, 1) := by decide +kernel
theorem dX7_least_1 : decode cX7_least 1 = .ok (.getfield 17, 3) := by decide +kernel
theorem dX7_least_4 : decode cX7_least 4 = .ok (.iload_n 1, 1) := by decide +kernel
theorem dX7_least_5 : decode cX7_least 5 = .ok (.iaload, 1) := by decide +kernel
theorem dX7_least_6 : decode cX7_least 6 = .ok (.iconst 4, 1) := by decide +kernel
theorem dX7_least_7 : decode cX7_least 7 = .ok (.if_icmp .ne 7, 3) := by decide +kernel
theorem dX7_least_10 : decode cX7_least 10 = .ok (.sipush 3000, 3) := by decide +kernel
theorem dX7_least_13 : decode cX7_least 13 = .ok (.ireturn, 1) := by decide +kernel
theorem dX7_least_14 : decode cX7_least 14 = .ok (.aload_n 0, 1) := by decide +kernel
theorem dX7_least_15 : decode cX7_least 15 = .ok (.getfield 38, 3) := by decide +kernel
theorem dX7_least_18 : decode cX7_least 18 = .ok (.iload_n 1, 1) := by decide +kernel
theorem dX7_least_19 : decode cX7_least 19 = .ok (.iaload, 1) := by decide +kernel
theorem dX7_least_20 : decode cX7_least 20 = .ok (.iconst (-1), 1) := by decide +kernel
theorem dX7_least_21 : decode cX7_least 21 = .ok (.if_icmp .eq 10, 3) := by decide +kernel
theorem dX7_least_24 : decode cX7_least 24 = .ok (.aload_n 0, 1) := by decide +kernel
theorem dX7_least_25 : decode cX7_least 25 = .ok (.getfield 38, 3) := by decide +kernel
theorem dX7_least_28 : decode cX7_least 28 = .ok (.iload_n 1, 1) := by decide +kernel
theorem dX7_least_29 : decode cX7_least 29 = .ok (.iaload, 1) := by decide +kernel
theorem dX7_least_30 : decode cX7_least 30 = .ok (.ireturn, 1) := by decide +kernel
theorem dX7_least_31 : decode cX7_least 31 = .ok (.aload_n 0, 1) := by decide +kernel
theorem dX7_least_32 : decode cX7_least 32 = .ok (.iload_n 1, 1) := by decide +kernel
theorem dX7_least_33 : decode cX7_least 33 = .ok (.iconst (-1), 1) := by decide +kernel
theorem dX7_least_34 : decode cX7_least 34 = .ok (.invokevirtual 102, 3) := by decide +kernel
theorem dX7_least_37 : decode cX7_least 37 = .ok (.istore_n 2, 1) := by decide +kernel
theorem dX7_least_38 : decode cX7_least 38 = .ok (.aload_n 0, 1) := by decide +kernel
theorem dX7_least_39 : decode cX7_least 39 = .ok (.iload_n 1, 1) := by decide +kernel
theorem dX7_least_40 : decode cX7_least 40 = .ok (.iconst 1, 1) := by decide +kernel
theorem dX7_least_41 : decode cX7_least 41 = .ok (.invokevirtual 102, 3) := by decide +kernel
theorem dX7_least_44 : decode cX7_least 44 = .ok (.istore_n 3, 1) := by decide +kernel
theorem dX7_least_45 : decode cX7_least 45 = .ok (.iload_n 2, 1) := by decide +kernel
theorem dX7_least_46 : decode cX7_least 46 = .ok (.iconst (-1), 1) := by decide +kernel
theorem dX7_least_47 : decode cX7_least 47 = .ok (.if_icmp .eq 39, 3) := by decide +kernel
theorem dX7_least_50 : decode cX7_least 50 = .ok (.iload_n 3, 1) := by decide +kernel
theorem dX7_least_51 : decode cX7_least 51 = .ok (.iconst (-1), 1) := by decide +kernel
theorem dX7_least_52 : decode cX7_least 52 = .ok (.if_icmp .eq 34, 3) := by decide +kernel
theorem dX7_least_55 : decode cX7_least 55 = .ok (.aload_n 0, 1) := by decide +kernel
theorem dX7_least_56 : decode cX7_least 56 = .ok (.getfield 38, 3) := by decide +kernel
theorem dX7_least_59 : decode cX7_least 59 = .ok (.iload_n 2, 1) := by decide +kernel
theorem dX7_least_60 : decode cX7_least 60 = .ok (.iaload, 1) := by decide +kernel
theorem dX7_least_61 : decode cX7_least 61 = .ok (.aload_n 0, 1) := by decide +kernel
theorem dX7_least_62 : decode cX7_least 62 = .ok (.getfield 38, 3) := by decide +kernel
theorem dX7_least_65 : decode cX7_least 65 = .ok (.iload_n 3, 1) := by decide +kernel
theorem dX7_least_66 : decode cX7_least 66 = .ok (.iaload, 1) := by decide +kernel
theorem dX7_least_67 : decode cX7_least 67 = .ok (.if_icmp .ge 12, 3) := by decide +kernel
theorem dX7_least_70 : decode cX7_least 70 = .ok (.aload_n 0, 1) := by decide +kernel
theorem dX7_least_71 : decode cX7_least 71 = .ok (.getfield 38, 3) := by decide +kernel
theorem dX7_least_74 : decode cX7_least 74 = .ok (.iload_n 2, 1) := by decide +kernel
theorem dX7_least_75 : decode cX7_least 75 = .ok (.iaload, 1) := by decide +kernel
theorem dX7_least_76 : decode cX7_least 76 = .ok (.goto 9, 3) := by decide +kernel
theorem dX7_least_79 : decode cX7_least 79 = .ok (.aload_n 0, 1) := by decide +kernel
theorem dX7_least_80 : decode cX7_least 80 = .ok (.getfield 38, 3) := by decide +kernel
theorem dX7_least_83 : decode cX7_least 83 = .ok (.iload_n 3, 1) := by decide +kernel
theorem dX7_least_84 : decode cX7_least 84 = .ok (.iaload, 1) := by decide +kernel
theorem dX7_least_85 : decode cX7_least 85 = .ok (.ireturn, 1) := by decide +kernel
theorem dX7_least_86 : decode cX7_least 86 = .ok (.iload_n 2, 1) := by decide +kernel
theorem dX7_least_87 : decode cX7_least 87 = .ok (.iconst (-1), 1) := by decide +kernel
theorem dX7_least_88 : decode cX7_least 88 = .ok (.if_icmp .eq 14, 3) := by decide +kernel
theorem dX7_least_91 : decode cX7_least 91 = .ok (.aload_n 0, 1) := by decide +kernel
theorem dX7_least_92 : decode cX7_least 92 = .ok (.getfield 38, 3) := by decide +kernel
theorem dX7_least_95 : decode cX7_least 95 = .ok (.iload_n 2, 1) := by decide +kernel
theorem dX7_least_96 : decode cX7_least 96 = .ok (.iaload, 1) := by decide +kernel
theorem dX7_least_97 : decode cX7_least 97 = .ok (.iconst 2, 1) := by decide +kernel
theorem dX7_least_98 : decode cX7_least 98 = .ok (.idiv, 1) := by decide +kernel
theorem dX7_least_99 : decode cX7_least 99 = .ok (.goto 20, 3) := by decide +kernel
theorem dX7_least_102 : decode cX7_least 102 = .ok (.iload_n 3, 1) := by decide +kernel
theorem dX7_least_103 : decode cX7_least 103 = .ok (.iconst (-1), 1) := by decide +kernel
theorem dX7_least_104 : decode cX7_least 104 = .ok (.if_icmp .eq 14, 3) := by decide +kernel
theorem dX7_least_107 : decode cX7_least 107 = .ok (.aload_n 0, 1) := by decide +kernel
theorem dX7_least_108 : decode cX7_least 108 = .ok (.getfield 38, 3) := by decide +kernel
theorem dX7_least_111 : decode cX7_least 111 = .ok (.iload_n 3, 1) := by decide +kernel
theorem dX7_least_112 : decode cX7_least 112 = .ok (.iaload, 1) := by decide +kernel
theorem dX7_least_113 : decode cX7_least 113 = .ok (.iconst 2, 1) := by decide +kernel
theorem dX7_least_114 : decode cX7_least 114 = .ok (.idiv, 1) := by decide +kernel
theorem dX7_least_115 : decode cX7_least 115 = .ok (.goto 4, 3) := by decide +kernel
theorem dX7_least_118 : decode cX7_least 118 = .ok (.iconst 0, 1) := by decide +kernel
theorem dX7_least_119 : decode cX7_least 119 = .ok (.ireturn, 1) := by decide +kernel
theorem dX7_most_0 : decode cX7_most 0 = .ok (.aload_n 0, 1) := by decide +kernel
theorem dX7_most_1 : decode cX7_most 1 = .ok (.getfield 17, 3) := by decide +kernel
theorem dX7_most_4 : decode cX7_most 4 = .ok (.iload_n 1, 1) := by decide +kernel
theorem dX7_most_5 : decode cX7_most 5 = .ok (.iaload, 1) := by decide +kernel
theorem dX7_most_6 : decode cX7_most 6 = .ok (.iconst 4, 1) := by decide +kernel
theorem dX7_most_7 : decode cX7_most 7 = .ok (.if_icmp .ne 7, 3) := by decide +kernel
theorem dX7_most_10 : decode cX7_most 10 = .ok (.sipush 3000, 3) := by decide +kernel
theorem dX7_most_13 : decode cX7_most 13 = .ok (.ireturn, 1) := by decide +kernel
theorem dX7_most_14 : decode cX7_most 14 = .ok (.aload_n 0, 1) := by decide +kernel
theorem dX7_most_15 : decode cX7_most 15 = .ok (.getfield 38, 3) := by decide +kernel
theorem dX7_most_18 : decode cX7_most 18 = .ok (.iload_n 1, 1) := by decide +kernel
theorem dX7_most_19 : decode cX7_most 19 = .ok (.iaload, 1) := by decide +kernel
theorem dX7_most_20 : decode cX7_most 20 = .ok (.iconst (-1), 1) := by decide +kernel
theorem dX7_most_21 : decode cX7_most 21 = .ok (.if_icmp .eq 10, 3) := by decide +kernel
theorem dX7_most_24 : decode cX7_most 24 = .ok (.aload_n 0, 1) := by decide +kernel
theorem dX7_most_25 : decode cX7_most 25 = .ok (.getfield 38, 3) := by decide +kernel
theorem dX7_most_28 : decode cX7_most 28 = .ok (.iload_n 1, 1) := by decide +kernel
theorem dX7_most_29 : decode cX7_most 29 = .ok (.iaload, 1) := by decide +kernel
theorem dX7_most_30 : decode cX7_most 30 = .ok (.ireturn, 1) := by decide +kernel
theorem dX7_most_31 : decode cX7_most 31 = .ok (.aload_n 0, 1) := by decide +kernel
theorem dX7_most_32 : decode cX7_most 32 = .ok (.iload_n 1, 1) := by decide +kernel
theorem dX7_most_33 : decode cX7_most 33 = .ok (.iconst (-1), 1) := by decide +kernel
theorem dX7_most_34 : decode cX7_most 34 = .ok (.invokevirtual 102, 3) := by decide +kernel
theorem dX7_most_37 : decode cX7_most 37 = .ok (.istore_n 2, 1) := by decide +kernel
theorem dX7_most_38 : decode cX7_most 38 = .ok (.aload_n 0, 1) := by decide +kernel
theorem dX7_most_39 : decode cX7_most 39 = .ok (.iload_n 1, 1) := by decide +kernel
theorem dX7_most_40 : decode cX7_most 40 = .ok (.iconst 1, 1) := by decide +kernel
theorem dX7_most_41 : decode cX7_most 41 = .ok (.invokevirtual 102, 3) := by decide +kernel
theorem dX7_most_44 : decode cX7_most 44 = .ok (.istore_n 3, 1) := by decide +kernel
theorem dX7_most_45 : decode cX7_most 45 = .ok (.iload_n 2, 1) := by decide +kernel
theorem dX7_most_46 : decode cX7_most 46 = .ok (.iconst (-1), 1) := by decide +kernel
theorem dX7_most_47 : decode cX7_most 47 = .ok (.if_icmp .eq 39, 3) := by decide +kernel
theorem dX7_most_50 : decode cX7_most 50 = .ok (.iload_n 3, 1) := by decide +kernel
theorem dX7_most_51 : decode cX7_most 51 = .ok (.iconst (-1), 1) := by decide +kernel
theorem dX7_most_52 : decode cX7_most 52 = .ok (.if_icmp .eq 34, 3) := by decide +kernel
theorem dX7_most_55 : decode cX7_most 55 = .ok (.aload_n 0, 1) := by decide +kernel
theorem dX7_most_56 : decode cX7_most 56 = .ok (.getfield 38, 3) := by decide +kernel
theorem dX7_most_59 : decode cX7_most 59 = .ok (.iload_n 2, 1) := by decide +kernel
theorem dX7_most_60 : decode cX7_most 60 = .ok (.iaload, 1) := by decide +kernel
theorem dX7_most_61 : decode cX7_most 61 = .ok (.aload_n 0, 1) := by decide +kernel
theorem dX7_most_62 : decode cX7_most 62 = .ok (.getfield 38, 3) := by decide +kernel
theorem dX7_most_65 : decode cX7_most 65 = .ok (.iload_n 3, 1) := by decide +kernel
theorem dX7_most_66 : decode cX7_most 66 = .ok (.iaload, 1) := by decide +kernel
theorem dX7_most_67 : decode cX7_most 67 = .ok (.if_icmp .le 12, 3) := by decide +kernel
theorem dX7_most_70 : decode cX7_most 70 = .ok (.aload_n 0, 1) := by decide +kernel
theorem dX7_most_71 : decode cX7_most 71 = .ok (.getfield 38, 3) := by decide +kernel
theorem dX7_most_74 : decode cX7_most 74 = .ok (.iload_n 2, 1) := by decide +kernel
theorem dX7_most_75 : decode cX7_most 75 = .ok (.iaload, 1) := by decide +kernel
theorem dX7_most_76 : decode cX7_most 76 = .ok (.goto 9, 3) := by decide +kernel
theorem dX7_most_79 : decode cX7_most 79 = .ok (.aload_n 0, 1) := by decide +kernel
theorem dX7_most_80 : decode cX7_most 80 = .ok (.getfield 38, 3) := by decide +kernel
theorem dX7_most_83 : decode cX7_most 83 = .ok (.iload_n 3, 1) := by decide +kernel
theorem dX7_most_84 : decode cX7_most 84 = .ok (.iaload, 1) := by decide +kernel
theorem dX7_most_85 : decode cX7_most 85 = .ok (.ireturn, 1) := by decide +kernel
theorem dX7_most_86 : decode cX7_most 86 = .ok (.iload_n 2, 1) := by decide +kernel
theorem dX7_most_87 : decode cX7_most 87 = .ok (.iconst (-1), 1) := by decide +kernel
theorem dX7_most_88 : decode cX7_most 88 = .ok (.if_icmp .eq 12, 3) := by decide +kernel
theorem dX7_most_91 : decode cX7_most 91 = .ok (.aload_n 0, 1) := by decide +kernel
theorem dX7_most_92 : decode cX7_most 92 = .ok (.getfield 38, 3) := by decide +kernel
theorem dX7_most_95 : decode cX7_most 95 = .ok (.iload_n 2, 1) := by decide +kernel
theorem dX7_most_96 : decode cX7_most 96 = .ok (.iaload, 1) := by decide +kernel
theorem dX7_most_97 : decode cX7_most 97 = .ok (.goto 20, 3) := by decide +kernel
theorem dX7_most_100 : decode cX7_most 100 = .ok (.iload_n 3, 1) := by decide +kernel
theorem dX7_most_101 : decode cX7_most 101 = .ok (.iconst (-1), 1) := by decide +kernel
theorem dX7_most_102 : decode cX7_most 102 = .ok (.if_icmp .eq 12, 3) := by decide +kernel
theorem dX7_most_105 : decode cX7_most 105 = .ok (.aload_n 0, 1) := by decide +kernel
theorem dX7_most_106 : decode cX7_most 106 = .ok (.getfield 38, 3) := by decide +kernel
theorem dX7_most_109 : decode cX7_most 109 = .ok (.iload_n 3, 1) := by decide +kernel
theorem dX7_most_110 : decode cX7_most 110 = .ok (.iaload, 1) := by decide +kernel
theorem dX7_most_111 : decode cX7_most 111 = .ok (.goto 6, 3) := by decide +kernel
theorem dX7_most_114 : decode cX7_most 114 = .ok (.sipush 3000, 3) := by decide +kernel
theorem dX7_most_117 : decode cX7_most 117 = .ok (.ireturn, 1) := by decide +kernel
theorem dX7_loadsOn_0 : decode cX7_loadsOn 0 = .ok (.iconst 0, 1) := by decide +kernel
theorem dX7_loadsOn_1 : decode cX7_loadsOn 1 = .ok (.istore_n 2, 1) := by decide +kernel
theorem dX7_loadsOn_2 : decode cX7_loadsOn 2 = .ok (.iconst 0, 1) := by decide +kernel
theorem dX7_loadsOn_3 : decode cX7_loadsOn 3 = .ok (.istore_n 3, 1) := by decide +kernel
theorem dX7_loadsOn_4 : decode cX7_loadsOn 4 = .ok (.iload_n 3, 1) := by decide +kernel
theorem dX7_loadsOn_5 : decode cX7_loadsOn 5 = .ok (.aload_n 0, 1) := by decide +kernel
theorem dX7_loadsOn_6 : decode cX7_loadsOn 6 = .ok (.getfield 91, 3) := by decide +kernel
theorem dX7_loadsOn_9 : decode cX7_loadsOn 9 = .ok (.if_icmp .ge 37, 3) := by decide +kernel
theorem dX7_loadsOn_12 : decode cX7_loadsOn 12 = .ok (.iload_n 2, 1) := by decide +kernel
theorem dX7_loadsOn_13 : decode cX7_loadsOn 13 = .ok (.aload_n 0, 1) := by decide +kernel
theorem dX7_loadsOn_14 : decode cX7_loadsOn 14 = .ok (.getfield 56, 3) := by decide +kernel
theorem dX7_loadsOn_17 : decode cX7_loadsOn 17 = .ok (.iload_n 3, 1) := by decide +kernel
theorem dX7_loadsOn_18 : decode cX7_loadsOn 18 = .ok (.iaload, 1) := by decide +kernel
theorem dX7_loadsOn_19 : decode cX7_loadsOn 19 = .ok (.iconst 1, 1) := by decide +kernel
theorem dX7_loadsOn_20 : decode cX7_loadsOn 20 = .ok (.if_icmp .ne 17, 3) := by decide +kernel
theorem dX7_loadsOn_23 : decode cX7_loadsOn 23 = .ok (.aload_n 0, 1) := by decide +kernel
theorem dX7_loadsOn_24 : decode cX7_loadsOn 24 = .ok (.getfield 59, 3) := by decide +kernel
theorem dX7_loadsOn_27 : decode cX7_loadsOn 27 = .ok (.iload_n 3, 1) := by decide +kernel
theorem dX7_loadsOn_28 : decode cX7_loadsOn 28 = .ok (.iaload, 1) := by decide +kernel
theorem dX7_loadsOn_29 : decode cX7_loadsOn 29 = .ok (.iload_n 1, 1) := by decide +kernel
theorem dX7_loadsOn_30 : decode cX7_loadsOn 30 = .ok (.if_icmp .ne 7, 3) := by decide +kernel
theorem dX7_loadsOn_33 : decode cX7_loadsOn 33 = .ok (.iconst 1, 1) := by decide +kernel
theorem dX7_loadsOn_34 : decode cX7_loadsOn 34 = .ok (.goto 4, 3) := by decide +kernel
theorem dX7_loadsOn_37 : decode cX7_loadsOn 37 = .ok (.iconst 0, 1) := by decide +kernel
theorem dX7_loadsOn_38 : decode cX7_loadsOn 38 = .ok (.iadd, 1) := by decide +kernel
theorem dX7_loadsOn_39 : decode cX7_loadsOn 39 = .ok (.istore_n 2, 1) := by decide +kernel
theorem dX7_loadsOn_40 : decode cX7_loadsOn 40 = .ok (.iinc 3 1, 3) := by decide +kernel
theorem dX7_loadsOn_43 : decode cX7_loadsOn 43 = .ok (.goto (-39), 3) := by decide +kernel
theorem dX7_loadsOn_46 : decode cX7_loadsOn 46 = .ok (.iload_n 2, 1) := by decide +kernel
theorem dX7_loadsOn_47 : decode cX7_loadsOn 47 = .ok (.ireturn, 1) := by decide +kernel
theorem dX7_look_0 : decode cX7_look 0 = .ok (.aload_n 0, 1) := by decide +kernel
theorem dX7_look_1 : decode cX7_look 1 = .ok (.iload_n 1, 1) := by decide +kernel
theorem dX7_look_2 : decode cX7_look 2 = .ok (.invokevirtual 98, 3) := by decide +kernel
theorem dX7_look_5 : decode cX7_look 5 = .ok (.ifCond .ne 10, 3) := by decide +kernel
theorem dX7_look_8 : decode cX7_look 8 = .ok (.aload_n 0, 1) := by decide +kernel
theorem dX7_look_9 : decode cX7_look 9 = .ok (.bipush (-3), 2) := by decide +kernel
theorem dX7_look_11 : decode cX7_look 11 = .ok (.invokevirtual 94, 3) := by decide +kernel
theorem dX7_look_14 : decode cX7_look 14 = .ok (.ireturn, 1) := by decide +kernel
theorem dX7_look_15 : decode cX7_look 15 = .ok (.iload_n 2, 1) := by decide +kernel
theorem dX7_look_16 : decode cX7_look 16 = .ok (.tableswitch 137 0 9 #[56, 63, 70, 77, 84, 91, 98, 119, 125, 131], 56) := by decide +kernel
theorem dX7_look_72 : decode cX7_look 72 = .ok (.aload_n 0, 1) := by decide +kernel
theorem dX7_look_73 : decode cX7_look 73 = .ok (.getfield 17, 3) := by decide +kernel
theorem dX7_look_76 : decode cX7_look 76 = .ok (.iload_n 1, 1) := by decide +kernel
theorem dX7_look_77 : decode cX7_look 77 = .ok (.iaload, 1) := by decide +kernel
theorem dX7_look_78 : decode cX7_look 78 = .ok (.ireturn, 1) := by decide +kernel
theorem dX7_look_79 : decode cX7_look 79 = .ok (.aload_n 0, 1) := by decide +kernel
theorem dX7_look_80 : decode cX7_look 80 = .ok (.getfield 20, 3) := by decide +kernel
theorem dX7_look_83 : decode cX7_look 83 = .ok (.iload_n 1, 1) := by decide +kernel
theorem dX7_look_84 : decode cX7_look 84 = .ok (.iaload, 1) := by decide +kernel
theorem dX7_look_85 : decode cX7_look 85 = .ok (.ireturn, 1) := by decide +kernel
theorem dX7_look_86 : decode cX7_look 86 = .ok (.aload_n 0, 1) := by decide +kernel
theorem dX7_look_87 : decode cX7_look 87 = .ok (.getfield 23, 3) := by decide +kernel
theorem dX7_look_90 : decode cX7_look 90 = .ok (.iload_n 1, 1) := by decide +kernel
theorem dX7_look_91 : decode cX7_look 91 = .ok (.iaload, 1) := by decide +kernel
theorem dX7_look_92 : decode cX7_look 92 = .ok (.ireturn, 1) := by decide +kernel
theorem dX7_look_93 : decode cX7_look 93 = .ok (.aload_n 0, 1) := by decide +kernel
theorem dX7_look_94 : decode cX7_look 94 = .ok (.getfield 26, 3) := by decide +kernel
theorem dX7_look_97 : decode cX7_look 97 = .ok (.iload_n 1, 1) := by decide +kernel
theorem dX7_look_98 : decode cX7_look 98 = .ok (.iaload, 1) := by decide +kernel
theorem dX7_look_99 : decode cX7_look 99 = .ok (.ireturn, 1) := by decide +kernel
theorem dX7_look_100 : decode cX7_look 100 = .ok (.aload_n 0, 1) := by decide +kernel
theorem dX7_look_101 : decode cX7_look 101 = .ok (.getfield 29, 3) := by decide +kernel
theorem dX7_look_104 : decode cX7_look 104 = .ok (.iload_n 1, 1) := by decide +kernel
theorem dX7_look_105 : decode cX7_look 105 = .ok (.iaload, 1) := by decide +kernel
theorem dX7_look_106 : decode cX7_look 106 = .ok (.ireturn, 1) := by decide +kernel
theorem dX7_look_107 : decode cX7_look 107 = .ok (.aload_n 0, 1) := by decide +kernel
theorem dX7_look_108 : decode cX7_look 108 = .ok (.getfield 32, 3) := by decide +kernel
theorem dX7_look_111 : decode cX7_look 111 = .ok (.iload_n 1, 1) := by decide +kernel
theorem dX7_look_112 : decode cX7_look 112 = .ok (.iaload, 1) := by decide +kernel
theorem dX7_look_113 : decode cX7_look 113 = .ok (.ireturn, 1) := by decide +kernel
theorem dX7_look_114 : decode cX7_look 114 = .ok (.aload_n 0, 1) := by decide +kernel
theorem dX7_look_115 : decode cX7_look 115 = .ok (.getfield 17, 3) := by decide +kernel
theorem dX7_look_118 : decode cX7_look 118 = .ok (.iload_n 1, 1) := by decide +kernel
theorem dX7_look_119 : decode cX7_look 119 = .ok (.iaload, 1) := by decide +kernel
theorem dX7_look_120 : decode cX7_look 120 = .ok (.iconst 3, 1) := by decide +kernel
theorem dX7_look_121 : decode cX7_look 121 = .ok (.if_icmp .ne 12, 3) := by decide +kernel
theorem dX7_look_124 : decode cX7_look 124 = .ok (.aload_n 0, 1) := by decide +kernel
theorem dX7_look_125 : decode cX7_look 125 = .ok (.getfield 35, 3) := by decide +kernel
theorem dX7_look_128 : decode cX7_look 128 = .ok (.iload_n 1, 1) := by decide +kernel
theorem dX7_look_129 : decode cX7_look 129 = .ok (.iaload, 1) := by decide +kernel
theorem dX7_look_130 : decode cX7_look 130 = .ok (.goto 4, 3) := by decide +kernel
theorem dX7_look_133 : decode cX7_look 133 = .ok (.iconst (-1), 1) := by decide +kernel
theorem dX7_look_134 : decode cX7_look 134 = .ok (.ireturn, 1) := by decide +kernel
theorem dX7_look_135 : decode cX7_look 135 = .ok (.aload_n 0, 1) := by decide +kernel
theorem dX7_look_136 : decode cX7_look 136 = .ok (.iload_n 1, 1) := by decide +kernel
theorem dX7_look_137 : decode cX7_look 137 = .ok (.invokevirtual 106, 3) := by decide +kernel
theorem dX7_look_140 : decode cX7_look 140 = .ok (.ireturn, 1) := by decide +kernel
theorem dX7_look_141 : decode cX7_look 141 = .ok (.aload_n 0, 1) := by decide +kernel
theorem dX7_look_142 : decode cX7_look 142 = .ok (.iload_n 1, 1) := by decide +kernel
theorem dX7_look_143 : decode cX7_look 143 = .ok (.invokevirtual 109, 3) := by decide +kernel
theorem dX7_look_146 : decode cX7_look 146 = .ok (.ireturn, 1) := by decide +kernel
theorem dX7_look_147 : decode cX7_look 147 = .ok (.aload_n 0, 1) := by decide +kernel
theorem dX7_look_148 : decode cX7_look 148 = .ok (.iload_n 1, 1) := by decide +kernel
theorem dX7_look_149 : decode cX7_look 149 = .ok (.invokevirtual 112, 3) := by decide +kernel
theorem dX7_look_152 : decode cX7_look 152 = .ok (.ireturn, 1) := by decide +kernel
theorem dX7_look_153 : decode cX7_look 153 = .ok (.aload_n 0, 1) := by decide +kernel
theorem dX7_look_154 : decode cX7_look 154 = .ok (.bipush (-7), 2) := by decide +kernel
theorem dX7_look_156 : decode cX7_look 156 = .ok (.invokevirtual 94, 3) := by decide +kernel
theorem dX7_look_159 : decode cX7_look 159 = .ok (.ireturn, 1) := by decide +kernel
theorem dX7_thick_0 : decode cX7_thick 0 = .ok (.aload_n 0, 1) := by decide +kernel
theorem dX7_thick_1 : decode cX7_thick 1 = .ok (.iload_n 1, 1) := by decide +kernel
theorem dX7_thick_2 : decode cX7_thick 2 = .ok (.invokevirtual 98, 3) := by decide +kernel
theorem dX7_thick_5 : decode cX7_thick 5 = .ok (.ifCond .ne 10, 3) := by decide +kernel
theorem dX7_thick_8 : decode cX7_thick 8 = .ok (.aload_n 0, 1) := by decide +kernel
theorem dX7_thick_9 : decode cX7_thick 9 = .ok (.bipush (-3), 2) := by decide +kernel
theorem dX7_thick_11 : decode cX7_thick 11 = .ok (.invokevirtual 94, 3) := by decide +kernel
theorem dX7_thick_14 : decode cX7_thick 14 = .ok (.ireturn, 1) := by decide +kernel
theorem dX7_thick_15 : decode cX7_thick 15 = .ok (.aload_n 0, 1) := by decide +kernel
theorem dX7_thick_16 : decode cX7_thick 16 = .ok (.getfield 17, 3) := by decide +kernel
theorem dX7_thick_19 : decode cX7_thick 19 = .ok (.iload_n 1, 1) := by decide +kernel
theorem dX7_thick_20 : decode cX7_thick 20 = .ok (.iaload, 1) := by decide +kernel
theorem dX7_thick_21 : decode cX7_thick 21 = .ok (.iconst 4, 1) := by decide +kernel
theorem dX7_thick_22 : decode cX7_thick 22 = .ok (.if_icmp .ne 10, 3) := by decide +kernel
theorem dX7_thick_25 : decode cX7_thick 25 = .ok (.aload_n 0, 1) := by decide +kernel
theorem dX7_thick_26 : decode cX7_thick 26 = .ok (.bipush (-5), 2) := by decide +kernel
theorem dX7_thick_28 : decode cX7_thick 28 = .ok (.invokevirtual 94, 3) := by decide +kernel
theorem dX7_thick_31 : decode cX7_thick 31 = .ok (.ireturn, 1) := by decide +kernel
theorem dX7_thick_32 : decode cX7_thick 32 = .ok (.iload_n 2, 1) := by decide +kernel
theorem dX7_thick_33 : decode cX7_thick 33 = .ok (.iconst 0, 1) := by decide +kernel
theorem dX7_thick_34 : decode cX7_thick 34 = .ok (.sipush 3000, 3) := by decide +kernel
theorem dX7_thick_37 : decode cX7_thick 37 = .ok (.invokestatic 87, 3) := by decide +kernel
theorem dX7_thick_40 : decode cX7_thick 40 = .ok (.ifCond .ne 10, 3) := by decide +kernel
theorem dX7_thick_43 : decode cX7_thick 43 = .ok (.aload_n 0, 1) := by decide +kernel
theorem dX7_thick_44 : decode cX7_thick 44 = .ok (.bipush (-7), 2) := by decide +kernel
theorem dX7_thick_46 : decode cX7_thick 46 = .ok (.invokevirtual 94, 3) := by decide +kernel
theorem dX7_thick_49 : decode cX7_thick 49 = .ok (.ireturn, 1) := by decide +kernel
theorem dX7_thick_50 : decode cX7_thick 50 = .ok (.aload_n 0, 1) := by decide +kernel
theorem dX7_thick_51 : decode cX7_thick 51 = .ok (.getfield 20, 3) := by decide +kernel
theorem dX7_thick_54 : decode cX7_thick 54 = .ok (.iload_n 1, 1) := by decide +kernel
theorem dX7_thick_55 : decode cX7_thick 55 = .ok (.iaload, 1) := by decide +kernel
theorem dX7_thick_56 : decode cX7_thick 56 = .ok (.istore_n 3, 1) := by decide +kernel
theorem dX7_thick_57 : decode cX7_thick 57 = .ok (.aload_n 0, 1) := by decide +kernel
theorem dX7_thick_58 : decode cX7_thick 58 = .ok (.getfield 20, 3) := by decide +kernel
theorem dX7_thick_61 : decode cX7_thick 61 = .ok (.iload_n 1, 1) := by decide +kernel
theorem dX7_thick_62 : decode cX7_thick 62 = .ok (.iload_n 2, 1) := by decide +kernel
theorem dX7_thick_63 : decode cX7_thick 63 = .ok (.iastore, 1) := by decide +kernel
theorem dX7_thick_64 : decode cX7_thick 64 = .ok (.iload_n 3, 1) := by decide +kernel
theorem dX7_thick_65 : decode cX7_thick 65 = .ok (.ireturn, 1) := by decide +kernel
theorem dX7_read_0 : decode cX7_read 0 = .ok (.aload_n 0, 1) := by decide +kernel
theorem dX7_read_1 : decode cX7_read 1 = .ok (.iload_n 1, 1) := by decide +kernel
theorem dX7_read_2 : decode cX7_read 2 = .ok (.invokevirtual 98, 3) := by decide +kernel
theorem dX7_read_5 : decode cX7_read 5 = .ok (.ifCond .ne 10, 3) := by decide +kernel
theorem dX7_read_8 : decode cX7_read 8 = .ok (.aload_n 0, 1) := by decide +kernel
theorem dX7_read_9 : decode cX7_read 9 = .ok (.bipush (-3), 2) := by decide +kernel
theorem dX7_read_11 : decode cX7_read 11 = .ok (.invokevirtual 94, 3) := by decide +kernel
theorem dX7_read_14 : decode cX7_read 14 = .ok (.ireturn, 1) := by decide +kernel
theorem dX7_read_15 : decode cX7_read 15 = .ok (.aload_n 0, 1) := by decide +kernel
theorem dX7_read_16 : decode cX7_read 16 = .ok (.getfield 17, 3) := by decide +kernel
theorem dX7_read_19 : decode cX7_read 19 = .ok (.iload_n 1, 1) := by decide +kernel
theorem dX7_read_20 : decode cX7_read 20 = .ok (.iaload, 1) := by decide +kernel
theorem dX7_read_21 : decode cX7_read 21 = .ok (.iconst 4, 1) := by decide +kernel
theorem dX7_read_22 : decode cX7_read 22 = .ok (.if_icmp .ne 10, 3) := by decide +kernel
theorem dX7_read_25 : decode cX7_read 25 = .ok (.aload_n 0, 1) := by decide +kernel
theorem dX7_read_26 : decode cX7_read 26 = .ok (.bipush (-5), 2) := by decide +kernel
theorem dX7_read_28 : decode cX7_read 28 = .ok (.invokevirtual 94, 3) := by decide +kernel
theorem dX7_read_31 : decode cX7_read 31 = .ok (.ireturn, 1) := by decide +kernel
theorem dX7_read_32 : decode cX7_read 32 = .ok (.aload_n 0, 1) := by decide +kernel
theorem dX7_read_33 : decode cX7_read 33 = .ok (.getfield 38, 3) := by decide +kernel
theorem dX7_read_36 : decode cX7_read 36 = .ok (.iload_n 1, 1) := by decide +kernel
theorem dX7_read_37 : decode cX7_read 37 = .ok (.aload_n 0, 1) := by decide +kernel
theorem dX7_read_38 : decode cX7_read 38 = .ok (.getfield 20, 3) := by decide +kernel
theorem dX7_read_41 : decode cX7_read 41 = .ok (.iload_n 1, 1) := by decide +kernel
theorem dX7_read_42 : decode cX7_read 42 = .ok (.iaload, 1) := by decide +kernel
theorem dX7_read_43 : decode cX7_read 43 = .ok (.iastore, 1) := by decide +kernel
theorem dX7_read_44 : decode cX7_read 44 = .ok (.aload_n 0, 1) := by decide +kernel
theorem dX7_read_45 : decode cX7_read 45 = .ok (.getfield 38, 3) := by decide +kernel
theorem dX7_read_48 : decode cX7_read 48 = .ok (.iload_n 1, 1) := by decide +kernel
theorem dX7_read_49 : decode cX7_read 49 = .ok (.iaload, 1) := by decide +kernel
theorem dX7_read_50 : decode cX7_read 50 = .ok (.ireturn, 1) := by decide +kernel
theorem dX7_isBorne_0 : decode cX7_isBorne 0 = .ok (.aload_n 0, 1) := by decide +kernel
theorem dX7_isBorne_1 : decode cX7_isBorne 1 = .ok (.getfield 17, 3) := by decide +kernel
theorem dX7_isBorne_4 : decode cX7_isBorne 4 = .ok (.iload_n 1, 1) := by decide +kernel
theorem dX7_isBorne_5 : decode cX7_isBorne 5 = .ok (.iaload, 1) := by decide +kernel
theorem dX7_isBorne_6 : decode cX7_isBorne 6 = .ok (.iconst 4, 1) := by decide +kernel
theorem dX7_isBorne_7 : decode cX7_isBorne 7 = .ok (.if_icmp .eq 40, 3) := by decide +kernel
theorem dX7_isBorne_10 : decode cX7_isBorne 10 = .ok (.aload_n 0, 1) := by decide +kernel
theorem dX7_isBorne_11 : decode cX7_isBorne 11 = .ok (.getfield 20, 3) := by decide +kernel
theorem dX7_isBorne_14 : decode cX7_isBorne 14 = .ok (.iload_n 1, 1) := by decide +kernel
theorem dX7_isBorne_15 : decode cX7_isBorne 15 = .ok (.iaload, 1) := by decide +kernel
theorem dX7_isBorne_16 : decode cX7_isBorne 16 = .ok (.aload_n 0, 1) := by decide +kernel
theorem dX7_isBorne_17 : decode cX7_isBorne 17 = .ok (.getfield 20, 3) := by decide +kernel
theorem dX7_isBorne_20 : decode cX7_isBorne 20 = .ok (.iload_n 1, 1) := by decide +kernel
theorem dX7_isBorne_21 : decode cX7_isBorne 21 = .ok (.iaload, 1) := by decide +kernel
theorem dX7_isBorne_22 : decode cX7_isBorne 22 = .ok (.imul, 1) := by decide +kernel
theorem dX7_isBorne_23 : decode cX7_isBorne 23 = .ok (.sipush 10000, 3) := by decide +kernel
theorem dX7_isBorne_26 : decode cX7_isBorne 26 = .ok (.idiv, 1) := by decide +kernel
theorem dX7_isBorne_27 : decode cX7_isBorne 27 = .ok (.aload_n 0, 1) := by decide +kernel
theorem dX7_isBorne_28 : decode cX7_isBorne 28 = .ok (.getfield 17, 3) := by decide +kernel
theorem dX7_isBorne_31 : decode cX7_isBorne 31 = .ok (.iload_n 1, 1) := by decide +kernel
theorem dX7_isBorne_32 : decode cX7_isBorne 32 = .ok (.iaload, 1) := by decide +kernel
theorem dX7_isBorne_33 : decode cX7_isBorne 33 = .ok (.iconst 3, 1) := by decide +kernel
theorem dX7_isBorne_34 : decode cX7_isBorne 34 = .ok (.if_icmp .ne 9, 3) := by decide +kernel
theorem dX7_isBorne_37 : decode cX7_isBorne 37 = .ok (.iconst 2, 1) := by decide +kernel
theorem dX7_isBorne_38 : decode cX7_isBorne 38 = .ok (.iload_n 2, 1) := by decide +kernel
theorem dX7_isBorne_39 : decode cX7_isBorne 39 = .ok (.imul, 1) := by decide +kernel
theorem dX7_isBorne_40 : decode cX7_isBorne 40 = .ok (.goto 4, 3) := by decide +kernel
theorem dX7_isBorne_43 : decode cX7_isBorne 43 = .ok (.iload_n 2, 1) := by decide +kernel
theorem dX7_isBorne_44 : decode cX7_isBorne 44 = .ok (.if_icmp .lt 7, 3) := by decide +kernel
theorem dX7_isBorne_47 : decode cX7_isBorne 47 = .ok (.iconst 1, 1) := by decide +kernel
theorem dX7_isBorne_48 : decode cX7_isBorne 48 = .ok (.goto 4, 3) := by decide +kernel
theorem dX7_isBorne_51 : decode cX7_isBorne 51 = .ok (.iconst 0, 1) := by decide +kernel
theorem dX7_isBorne_52 : decode cX7_isBorne 52 = .ok (.ireturn, 1) := by decide +kernel
theorem dX7_bears_0 : decode cX7_bears 0 = .ok (.aload_n 0, 1) := by decide +kernel
theorem dX7_bears_1 : decode cX7_bears 1 = .ok (.iload_n 1, 1) := by decide +kernel
theorem dX7_bears_2 : decode cX7_bears 2 = .ok (.invokevirtual 98, 3) := by decide +kernel
theorem dX7_bears_5 : decode cX7_bears 5 = .ok (.ifCond .ne 10, 3) := by decide +kernel
theorem dX7_bears_8 : decode cX7_bears 8 = .ok (.aload_n 0, 1) := by decide +kernel
theorem dX7_bears_9 : decode cX7_bears 9 = .ok (.bipush (-3), 2) := by decide +kernel
theorem dX7_bears_11 : decode cX7_bears 11 = .ok (.invokevirtual 94, 3) := by decide +kernel
theorem dX7_bears_14 : decode cX7_bears 14 = .ok (.ireturn, 1) := by decide +kernel
theorem dX7_bears_15 : decode cX7_bears 15 = .ok (.iload_n 2, 1) := by decide +kernel
theorem dX7_bears_16 : decode cX7_bears 16 = .ok (.iconst 1, 1) := by decide +kernel
theorem dX7_bears_17 : decode cX7_bears 17 = .ok (.bipush 99, 2) := by decide +kernel
theorem dX7_bears_19 : decode cX7_bears 19 = .ok (.invokestatic 87, 3) := by decide +kernel
theorem dX7_bears_22 : decode cX7_bears 22 = .ok (.ifCond .ne 10, 3) := by decide +kernel
theorem dX7_bears_25 : decode cX7_bears 25 = .ok (.aload_n 0, 1) := by decide +kernel
theorem dX7_bears_26 : decode cX7_bears 26 = .ok (.bipush (-7), 2) := by decide +kernel
theorem dX7_bears_28 : decode cX7_bears 28 = .ok (.invokevirtual 94, 3) := by decide +kernel
theorem dX7_bears_31 : decode cX7_bears 31 = .ok (.ireturn, 1) := by decide +kernel
theorem dX7_bears_32 : decode cX7_bears 32 = .ok (.aload_n 0, 1) := by decide +kernel
theorem dX7_bears_33 : decode cX7_bears 33 = .ok (.iload_n 1, 1) := by decide +kernel
theorem dX7_bears_34 : decode cX7_bears 34 = .ok (.iload_n 2, 1) := by decide +kernel
theorem dX7_bears_35 : decode cX7_bears 35 = .ok (.invokevirtual 115, 3) := by decide +kernel
theorem dX7_bears_38 : decode cX7_bears 38 = .ok (.ifCond .eq 7, 3) := by decide +kernel
theorem dX7_bears_41 : decode cX7_bears 41 = .ok (.iconst 1, 1) := by decide +kernel
theorem dX7_bears_42 : decode cX7_bears 42 = .ok (.goto 4, 3) := by decide +kernel
theorem dX7_bears_45 : decode cX7_bears 45 = .ok (.iconst 0, 1) := by decide +kernel
theorem dX7_bears_46 : decode cX7_bears 46 = .ok (.ireturn, 1) := by decide +kernel
theorem dX7_weather_0 : decode cX7_weather 0 = .ok (.iload_n 1, 1) := by decide +kernel
theorem dX7_weather_1 : decode cX7_weather 1 = .ok (.iconst 0, 1) := by decide +kernel
theorem dX7_weather_2 : decode cX7_weather 2 = .ok (.bipush 47, 2) := by decide +kernel
theorem dX7_weather_4 : decode cX7_weather 4 = .ok (.invokestatic 87, 3) := by decide +kernel
theorem dX7_weather_7 : decode cX7_weather 7 = .ok (.ifCond .ne 10, 3) := by decide +kernel
theorem dX7_weather_10 : decode cX7_weather 10 = .ok (.aload_n 0, 1) := by decide +kernel
theorem dX7_weather_11 : decode cX7_weather 11 = .ok (.bipush (-3), 2) := by decide +kernel
theorem dX7_weather_13 : decode cX7_weather 13 = .ok (.invokevirtual 119, 3) := by decide +kernel
theorem dX7_weather_16 : decode cX7_weather 16 = .ok (.ireturn, 1) := by decide +kernel
theorem dX7_weather_17 : decode cX7_weather 17 = .ok (.iload_n 2, 1) := by decide +kernel
theorem dX7_weather_18 : decode cX7_weather 18 = .ok (.sipush (-9999), 3) := by decide +kernel
theorem dX7_weather_21 : decode cX7_weather 21 = .ok (.if_icmp .eq 23, 3) := by decide +kernel
theorem dX7_weather_24 : decode cX7_weather 24 = .ok (.iload_n 2, 1) := by decide +kernel
theorem dX7_weather_25 : decode cX7_weather 25 = .ok (.sipush (-600), 3) := by decide +kernel
theorem dX7_weather_28 : decode cX7_weather 28 = .ok (.sipush 300, 3) := by decide +kernel
theorem dX7_weather_31 : decode cX7_weather 31 = .ok (.invokestatic 87, 3) := by decide +kernel
theorem dX7_weather_34 : decode cX7_weather 34 = .ok (.ifCond .ne 10, 3) := by decide +kernel
theorem dX7_weather_37 : decode cX7_weather 37 = .ok (.aload_n 0, 1) := by decide +kernel
theorem dX7_weather_38 : decode cX7_weather 38 = .ok (.bipush (-7), 2) := by decide +kernel
theorem dX7_weather_40 : decode cX7_weather 40 = .ok (.invokevirtual 119, 3) := by decide +kernel
theorem dX7_weather_43 : decode cX7_weather 43 = .ok (.ireturn, 1) := by decide +kernel
theorem dX7_weather_44 : decode cX7_weather 44 = .ok (.aload_n 0, 1) := by decide +kernel
theorem dX7_weather_45 : decode cX7_weather 45 = .ok (.getfield 44, 3) := by decide +kernel
theorem dX7_weather_48 : decode cX7_weather 48 = .ok (.iload_n 1, 1) := by decide +kernel
theorem dX7_weather_49 : decode cX7_weather 49 = .ok (.iaload, 1) := by decide +kernel
theorem dX7_weather_50 : decode cX7_weather 50 = .ok (.istore_n 3, 1) := by decide +kernel
theorem dX7_weather_51 : decode cX7_weather 51 = .ok (.aload_n 0, 1) := by decide +kernel
theorem dX7_weather_52 : decode cX7_weather 52 = .ok (.getfield 44, 3) := by decide +kernel
theorem dX7_weather_55 : decode cX7_weather 55 = .ok (.iload_n 1, 1) := by decide +kernel
theorem dX7_weather_56 : decode cX7_weather 56 = .ok (.iload_n 2, 1) := by decide +kernel
theorem dX7_weather_57 : decode cX7_weather 57 = .ok (.iastore, 1) := by decide +kernel
theorem dX7_weather_58 : decode cX7_weather 58 = .ok (.iload_n 3, 1) := by decide +kernel
theorem dX7_weather_59 : decode cX7_weather 59 = .ok (.ireturn, 1) := by decide +kernel
theorem dX7_heatOf_0 : decode cX7_heatOf 0 = .ok (.iload_n 1, 1) := by decide +kernel
theorem dX7_heatOf_1 : decode cX7_heatOf 1 = .ok (.bipush 48, 2) := by decide +kernel
theorem dX7_heatOf_3 : decode cX7_heatOf 3 = .ok (.irem, 1) := by decide +kernel
theorem dX7_heatOf_4 : decode cX7_heatOf 4 = .ok (.istore_n 2, 1) := by decide +kernel
theorem dX7_heatOf_5 : decode cX7_heatOf 5 = .ok (.aload_n 0, 1) := by decide +kernel
theorem dX7_heatOf_6 : decode cX7_heatOf 6 = .ok (.getfield 44, 3) := by decide +kernel
theorem dX7_heatOf_9 : decode cX7_heatOf 9 = .ok (.iload_n 2, 1) := by decide +kernel
theorem dX7_heatOf_10 : decode cX7_heatOf 10 = .ok (.iaload, 1) := by decide +kernel
theorem dX7_heatOf_11 : decode cX7_heatOf 11 = .ok (.sipush (-9999), 3) := by decide +kernel
theorem dX7_heatOf_14 : decode cX7_heatOf 14 = .ok (.if_icmp .eq 10, 3) := by decide +kernel
theorem dX7_heatOf_17 : decode cX7_heatOf 17 = .ok (.aload_n 0, 1) := by decide +kernel
theorem dX7_heatOf_18 : decode cX7_heatOf 18 = .ok (.getfield 44, 3) := by decide +kernel
theorem dX7_heatOf_21 : decode cX7_heatOf 21 = .ok (.iload_n 2, 1) := by decide +kernel
theorem dX7_heatOf_22 : decode cX7_heatOf 22 = .ok (.iaload, 1) := by decide +kernel
theorem dX7_heatOf_23 : decode cX7_heatOf 23 = .ok (.ireturn, 1) := by decide +kernel
theorem dX7_heatOf_24 : decode cX7_heatOf 24 = .ok (.sipush (-9999), 3) := by decide +kernel
theorem dX7_heatOf_27 : decode cX7_heatOf 27 = .ok (.istore_n 3, 1) := by decide +kernel
theorem dX7_heatOf_28 : decode cX7_heatOf 28 = .ok (.sipush (-9999), 3) := by decide +kernel
theorem dX7_heatOf_31 : decode cX7_heatOf 31 = .ok (.istore 4, 2) := by decide +kernel
theorem dX7_heatOf_33 : decode cX7_heatOf 33 = .ok (.iconst 1, 1) := by decide +kernel
theorem dX7_heatOf_34 : decode cX7_heatOf 34 = .ok (.istore 5, 2) := by decide +kernel
theorem dX7_heatOf_36 : decode cX7_heatOf 36 = .ok (.iload 5, 2) := by decide +kernel
theorem dX7_heatOf_38 : decode cX7_heatOf 38 = .ok (.bipush 48, 2) := by decide +kernel
theorem dX7_heatOf_40 : decode cX7_heatOf 40 = .ok (.if_icmp .ge 71, 3) := by decide +kernel
theorem dX7_heatOf_43 : decode cX7_heatOf 43 = .ok (.aload_n 0, 1) := by decide +kernel
theorem dX7_heatOf_44 : decode cX7_heatOf 44 = .ok (.getfield 44, 3) := by decide +kernel
theorem dX7_heatOf_47 : decode cX7_heatOf 47 = .ok (.iload_n 2, 1) := by decide +kernel
theorem dX7_heatOf_48 : decode cX7_heatOf 48 = .ok (.bipush 48, 2) := by decide +kernel
theorem dX7_heatOf_50 : decode cX7_heatOf 50 = .ok (.iadd, 1) := by decide +kernel
theorem dX7_heatOf_51 : decode cX7_heatOf 51 = .ok (.iload 5, 2) := by decide +kernel
theorem dX7_heatOf_53 : decode cX7_heatOf 53 = .ok (.isub, 1) := by decide +kernel
theorem dX7_heatOf_54 : decode cX7_heatOf 54 = .ok (.bipush 48, 2) := by decide +kernel
theorem dX7_heatOf_56 : decode cX7_heatOf 56 = .ok (.irem, 1) := by decide +kernel
theorem dX7_heatOf_57 : decode cX7_heatOf 57 = .ok (.iaload, 1) := by decide +kernel
theorem dX7_heatOf_58 : decode cX7_heatOf 58 = .ok (.istore 6, 2) := by decide +kernel
theorem dX7_heatOf_60 : decode cX7_heatOf 60 = .ok (.aload_n 0, 1) := by decide +kernel
theorem dX7_heatOf_61 : decode cX7_heatOf 61 = .ok (.getfield 44, 3) := by decide +kernel
theorem dX7_heatOf_64 : decode cX7_heatOf 64 = .ok (.iload_n 2, 1) := by decide +kernel
theorem dX7_heatOf_65 : decode cX7_heatOf 65 = .ok (.iload 5, 2) := by decide +kernel
theorem dX7_heatOf_67 : decode cX7_heatOf 67 = .ok (.iadd, 1) := by decide +kernel
theorem dX7_heatOf_68 : decode cX7_heatOf 68 = .ok (.bipush 48, 2) := by decide +kernel
theorem dX7_heatOf_70 : decode cX7_heatOf 70 = .ok (.irem, 1) := by decide +kernel
theorem dX7_heatOf_71 : decode cX7_heatOf 71 = .ok (.iaload, 1) := by decide +kernel
theorem dX7_heatOf_72 : decode cX7_heatOf 72 = .ok (.istore 7, 2) := by decide +kernel
theorem dX7_heatOf_74 : decode cX7_heatOf 74 = .ok (.iload_n 3, 1) := by decide +kernel
theorem dX7_heatOf_75 : decode cX7_heatOf 75 = .ok (.sipush (-9999), 3) := by decide +kernel
theorem dX7_heatOf_78 : decode cX7_heatOf 78 = .ok (.if_icmp .ne 8, 3) := by decide +kernel
theorem dX7_heatOf_81 : decode cX7_heatOf 81 = .ok (.iload 6, 2) := by decide +kernel
theorem dX7_heatOf_83 : decode cX7_heatOf 83 = .ok (.goto 4, 3) := by decide +kernel
theorem dX7_heatOf_86 : decode cX7_heatOf 86 = .ok (.iload_n 3, 1) := by decide +kernel
theorem dX7_heatOf_87 : decode cX7_heatOf 87 = .ok (.istore_n 3, 1) := by decide +kernel
theorem dX7_heatOf_88 : decode cX7_heatOf 88 = .ok (.iload 4, 2) := by decide +kernel
theorem dX7_heatOf_90 : decode cX7_heatOf 90 = .ok (.sipush (-9999), 3) := by decide +kernel
theorem dX7_heatOf_93 : decode cX7_heatOf 93 = .ok (.if_icmp .ne 8, 3) := by decide +kernel
theorem dX7_heatOf_96 : decode cX7_heatOf 96 = .ok (.iload 7, 2) := by decide +kernel
theorem dX7_heatOf_98 : decode cX7_heatOf 98 = .ok (.goto 5, 3) := by decide +kernel
theorem dX7_heatOf_101 : decode cX7_heatOf 101 = .ok (.iload 4, 2) := by decide +kernel
theorem dX7_heatOf_103 : decode cX7_heatOf 103 = .ok (.istore 4, 2) := by decide +kernel
theorem dX7_heatOf_105 : decode cX7_heatOf 105 = .ok (.iinc 5 1, 3) := by decide +kernel
theorem dX7_heatOf_108 : decode cX7_heatOf 108 = .ok (.goto (-72), 3) := by decide +kernel
theorem dX7_heatOf_111 : decode cX7_heatOf 111 = .ok (.iload_n 3, 1) := by decide +kernel
theorem dX7_heatOf_112 : decode cX7_heatOf 112 = .ok (.sipush (-9999), 3) := by decide +kernel
theorem dX7_heatOf_115 : decode cX7_heatOf 115 = .ok (.if_icmp .ne 8, 3) := by decide +kernel
theorem dX7_heatOf_118 : decode cX7_heatOf 118 = .ok (.bipush (-100), 2) := by decide +kernel
theorem dX7_heatOf_120 : decode cX7_heatOf 120 = .ok (.goto 15, 3) := by decide +kernel
theorem dX7_heatOf_123 : decode cX7_heatOf 123 = .ok (.iload_n 3, 1) := by decide +kernel
theorem dX7_heatOf_124 : decode cX7_heatOf 124 = .ok (.iload 4, 2) := by decide +kernel
theorem dX7_heatOf_126 : decode cX7_heatOf 126 = .ok (.if_icmp .le 7, 3) := by decide +kernel
theorem dX7_heatOf_129 : decode cX7_heatOf 129 = .ok (.iload_n 3, 1) := by decide +kernel
theorem dX7_heatOf_130 : decode cX7_heatOf 130 = .ok (.goto 5, 3) := by decide +kernel
theorem dX7_heatOf_133 : decode cX7_heatOf 133 = .ok (.iload 4, 2) := by decide +kernel
theorem dX7_heatOf_135 : decode cX7_heatOf 135 = .ok (.ireturn, 1) := by decide +kernel
theorem dX7_heat_0 : decode cX7_heat 0 = .ok (.iload_n 1, 1) := by decide +kernel
theorem dX7_heat_1 : decode cX7_heat 1 = .ok (.ifCond .ge 12, 3) := by decide +kernel
theorem dX7_heat_4 : decode cX7_heat 4 = .ok (.aload_n 0, 1) := by decide +kernel
theorem dX7_heat_5 : decode cX7_heat 5 = .ok (.bipush (-3), 2) := by decide +kernel
theorem dX7_heat_7 : decode cX7_heat 7 = .ok (.invokevirtual 119, 3) := by decide +kernel
theorem dX7_heat_10 : decode cX7_heat 10 = .ok (.goto 8, 3) := by decide +kernel
theorem dX7_heat_13 : decode cX7_heat 13 = .ok (.aload_n 0, 1) := by decide +kernel
theorem dX7_heat_14 : decode cX7_heat 14 = .ok (.iload_n 1, 1) := by decide +kernel
theorem dX7_heat_15 : decode cX7_heat 15 = .ok (.invokevirtual 122, 3) := by decide +kernel
theorem dX7_heat_18 : decode cX7_heat 18 = .ok (.ireturn, 1) := by decide +kernel
theorem dX7_sweep_0 : decode cX7_sweep 0 = .ok (.aload_n 0, 1) := by decide +kernel
theorem dX7_sweep_1 : decode cX7_sweep 1 = .ok (.iload_n 1, 1) := by decide +kernel
theorem dX7_sweep_2 : decode cX7_sweep 2 = .ok (.invokevirtual 98, 3) := by decide +kernel
theorem dX7_sweep_5 : decode cX7_sweep 5 = .ok (.ifCond .ne 10, 3) := by decide +kernel
theorem dX7_sweep_8 : decode cX7_sweep 8 = .ok (.aload_n 0, 1) := by decide +kernel
theorem dX7_sweep_9 : decode cX7_sweep 9 = .ok (.bipush (-3), 2) := by decide +kernel
theorem dX7_sweep_11 : decode cX7_sweep 11 = .ok (.invokevirtual 94, 3) := by decide +kernel
theorem dX7_sweep_14 : decode cX7_sweep 14 = .ok (.ireturn, 1) := by decide +kernel
theorem dX7_sweep_15 : decode cX7_sweep 15 = .ok (.aload_n 0, 1) := by decide +kernel
theorem dX7_sweep_16 : decode cX7_sweep 16 = .ok (.getfield 17, 3) := by decide +kernel
theorem dX7_sweep_19 : decode cX7_sweep 19 = .ok (.iload_n 1, 1) := by decide +kernel
theorem dX7_sweep_20 : decode cX7_sweep 20 = .ok (.iaload, 1) := by decide +kernel
theorem dX7_sweep_21 : decode cX7_sweep 21 = .ok (.ifCond .eq 20, 3) := by decide +kernel
theorem dX7_sweep_24 : decode cX7_sweep 24 = .ok (.aload_n 0, 1) := by decide +kernel
theorem dX7_sweep_25 : decode cX7_sweep 25 = .ok (.getfield 17, 3) := by decide +kernel
theorem dX7_sweep_28 : decode cX7_sweep 28 = .ok (.iload_n 1, 1) := by decide +kernel
theorem dX7_sweep_29 : decode cX7_sweep 29 = .ok (.iaload, 1) := by decide +kernel
theorem dX7_sweep_30 : decode cX7_sweep 30 = .ok (.iconst 1, 1) := by decide +kernel
theorem dX7_sweep_31 : decode cX7_sweep 31 = .ok (.if_icmp .eq 10, 3) := by decide +kernel
theorem dX7_sweep_34 : decode cX7_sweep 34 = .ok (.aload_n 0, 1) := by decide +kernel
theorem dX7_sweep_35 : decode cX7_sweep 35 = .ok (.bipush (-5), 2) := by decide +kernel
theorem dX7_sweep_37 : decode cX7_sweep 37 = .ok (.invokevirtual 94, 3) := by decide +kernel
theorem dX7_sweep_40 : decode cX7_sweep 40 = .ok (.ireturn, 1) := by decide +kernel
theorem dX7_sweep_41 : decode cX7_sweep 41 = .ok (.aload_n 0, 1) := by decide +kernel
theorem dX7_sweep_42 : decode cX7_sweep 42 = .ok (.iload_n 1, 1) := by decide +kernel
theorem dX7_sweep_43 : decode cX7_sweep 43 = .ok (.iconst 1, 1) := by decide +kernel
theorem dX7_sweep_44 : decode cX7_sweep 44 = .ok (.invokevirtual 125, 3) := by decide +kernel
theorem dX7_sweep_47 : decode cX7_sweep 47 = .ok (.aload_n 0, 1) := by decide +kernel
theorem dX7_sweep_48 : decode cX7_sweep 48 = .ok (.getfield 23, 3) := by decide +kernel
theorem dX7_sweep_51 : decode cX7_sweep 51 = .ok (.iload_n 1, 1) := by decide +kernel
theorem dX7_sweep_52 : decode cX7_sweep 52 = .ok (.iconst 0, 1) := by decide +kernel
theorem dX7_sweep_53 : decode cX7_sweep 53 = .ok (.iastore, 1) := by decide +kernel
theorem dX7_sweep_54 : decode cX7_sweep 54 = .ok (.iconst 1, 1) := by decide +kernel
theorem dX7_sweep_55 : decode cX7_sweep 55 = .ok (.ireturn, 1) := by decide +kernel
theorem dX7_flood_0 : decode cX7_flood 0 = .ok (.aload_n 0, 1) := by decide +kernel
theorem dX7_flood_1 : decode cX7_flood 1 = .ok (.iload_n 1, 1) := by decide +kernel
theorem dX7_flood_2 : decode cX7_flood 2 = .ok (.invokevirtual 98, 3) := by decide +kernel
theorem dX7_flood_5 : decode cX7_flood 5 = .ok (.ifCond .ne 10, 3) := by decide +kernel
theorem dX7_flood_8 : decode cX7_flood 8 = .ok (.aload_n 0, 1) := by decide +kernel
theorem dX7_flood_9 : decode cX7_flood 9 = .ok (.bipush (-3), 2) := by decide +kernel
theorem dX7_flood_11 : decode cX7_flood 11 = .ok (.invokevirtual 94, 3) := by decide +kernel
theorem dX7_flood_14 : decode cX7_flood 14 = .ok (.ireturn, 1) := by decide +kernel
theorem dX7_flood_15 : decode cX7_flood 15 = .ok (.aload_n 0, 1) := by decide +kernel
theorem dX7_flood_16 : decode cX7_flood 16 = .ok (.getfield 17, 3) := by decide +kernel
theorem dX7_flood_19 : decode cX7_flood 19 = .ok (.iload_n 1, 1) := by decide +kernel
theorem dX7_flood_20 : decode cX7_flood 20 = .ok (.iaload, 1) := by decide +kernel
theorem dX7_flood_21 : decode cX7_flood 21 = .ok (.iconst 1, 1) := by decide +kernel
theorem dX7_flood_22 : decode cX7_flood 22 = .ok (.if_icmp .eq 20, 3) := by decide +kernel
theorem dX7_flood_25 : decode cX7_flood 25 = .ok (.aload_n 0, 1) := by decide +kernel
theorem dX7_flood_26 : decode cX7_flood 26 = .ok (.getfield 17, 3) := by decide +kernel
theorem dX7_flood_29 : decode cX7_flood 29 = .ok (.iload_n 1, 1) := by decide +kernel
theorem dX7_flood_30 : decode cX7_flood 30 = .ok (.iaload, 1) := by decide +kernel
theorem dX7_flood_31 : decode cX7_flood 31 = .ok (.iconst 2, 1) := by decide +kernel
theorem dX7_flood_32 : decode cX7_flood 32 = .ok (.if_icmp .eq 10, 3) := by decide +kernel
theorem dX7_flood_35 : decode cX7_flood 35 = .ok (.aload_n 0, 1) := by decide +kernel
theorem dX7_flood_36 : decode cX7_flood 36 = .ok (.bipush (-5), 2) := by decide +kernel
theorem dX7_flood_38 : decode cX7_flood 38 = .ok (.invokevirtual 94, 3) := by decide +kernel
theorem dX7_flood_41 : decode cX7_flood 41 = .ok (.ireturn, 1) := by decide +kernel
theorem dX7_flood_42 : decode cX7_flood 42 = .ok (.aload_n 0, 1) := by decide +kernel
theorem dX7_flood_43 : decode cX7_flood 43 = .ok (.iload_n 1, 1) := by decide +kernel
theorem dX7_flood_44 : decode cX7_flood 44 = .ok (.iconst 2, 1) := by decide +kernel
theorem dX7_flood_45 : decode cX7_flood 45 = .ok (.invokevirtual 125, 3) := by decide +kernel
theorem dX7_flood_48 : decode cX7_flood 48 = .ok (.iconst 1, 1) := by decide +kernel
theorem dX7_flood_49 : decode cX7_flood 49 = .ok (.ireturn, 1) := by decide +kernel
theorem dX7_bypass_0 : decode cX7_bypass 0 = .ok (.aload_n 0, 1) := by decide +kernel
theorem dX7_bypass_1 : decode cX7_bypass 1 = .ok (.iload_n 1, 1) := by decide +kernel
theorem dX7_bypass_2 : decode cX7_bypass 2 = .ok (.invokevirtual 98, 3) := by decide +kernel
theorem dX7_bypass_5 : decode cX7_bypass 5 = .ok (.ifCond .ne 10, 3) := by decide +kernel
theorem dX7_bypass_8 : decode cX7_bypass 8 = .ok (.aload_n 0, 1) := by decide +kernel
theorem dX7_bypass_9 : decode cX7_bypass 9 = .ok (.bipush (-3), 2) := by decide +kernel
theorem dX7_bypass_11 : decode cX7_bypass 11 = .ok (.invokevirtual 94, 3) := by decide +kernel
theorem dX7_bypass_14 : decode cX7_bypass 14 = .ok (.ireturn, 1) := by decide +kernel
theorem dX7_bypass_15 : decode cX7_bypass 15 = .ok (.aload_n 0, 1) := by decide +kernel
theorem dX7_bypass_16 : decode cX7_bypass 16 = .ok (.getfield 17, 3) := by decide +kernel
theorem dX7_bypass_19 : decode cX7_bypass 19 = .ok (.iload_n 1, 1) := by decide +kernel
theorem dX7_bypass_20 : decode cX7_bypass 20 = .ok (.iaload, 1) := by decide +kernel
theorem dX7_bypass_21 : decode cX7_bypass 21 = .ok (.iconst 3, 1) := by decide +kernel
theorem dX7_bypass_22 : decode cX7_bypass 22 = .ok (.if_icmp .eq 10, 3) := by decide +kernel
theorem dX7_bypass_25 : decode cX7_bypass 25 = .ok (.aload_n 0, 1) := by decide +kernel
theorem dX7_bypass_26 : decode cX7_bypass 26 = .ok (.bipush (-5), 2) := by decide +kernel
theorem dX7_bypass_28 : decode cX7_bypass 28 = .ok (.invokevirtual 94, 3) := by decide +kernel
theorem dX7_bypass_31 : decode cX7_bypass 31 = .ok (.ireturn, 1) := by decide +kernel
theorem dX7_bypass_32 : decode cX7_bypass 32 = .ok (.aload_n 0, 1) := by decide +kernel
theorem dX7_bypass_33 : decode cX7_bypass 33 = .ok (.iload_n 1, 1) := by decide +kernel
theorem dX7_bypass_34 : decode cX7_bypass 34 = .ok (.invokevirtual 112, 3) := by decide +kernel
theorem dX7_bypass_37 : decode cX7_bypass 37 = .ok (.ifCond .le 10, 3) := by decide +kernel
theorem dX7_bypass_40 : decode cX7_bypass 40 = .ok (.aload_n 0, 1) := by decide +kernel
theorem dX7_bypass_41 : decode cX7_bypass 41 = .ok (.bipush (-7), 2) := by decide +kernel
theorem dX7_bypass_43 : decode cX7_bypass 43 = .ok (.invokevirtual 94, 3) := by decide +kernel
theorem dX7_bypass_46 : decode cX7_bypass 46 = .ok (.ireturn, 1) := by decide +kernel
theorem dX7_bypass_47 : decode cX7_bypass 47 = .ok (.aload_n 0, 1) := by decide +kernel
theorem dX7_bypass_48 : decode cX7_bypass 48 = .ok (.iload_n 1, 1) := by decide +kernel
theorem dX7_bypass_49 : decode cX7_bypass 49 = .ok (.iconst 1, 1) := by decide +kernel
theorem dX7_bypass_50 : decode cX7_bypass 50 = .ok (.invokevirtual 125, 3) := by decide +kernel
theorem dX7_bypass_53 : decode cX7_bypass 53 = .ok (.aload_n 0, 1) := by decide +kernel
theorem dX7_bypass_54 : decode cX7_bypass 54 = .ok (.getfield 23, 3) := by decide +kernel
theorem dX7_bypass_57 : decode cX7_bypass 57 = .ok (.iload_n 1, 1) := by decide +kernel
theorem dX7_bypass_58 : decode cX7_bypass 58 = .ok (.iconst 0, 1) := by decide +kernel
theorem dX7_bypass_59 : decode cX7_bypass 59 = .ok (.iastore, 1) := by decide +kernel
theorem dX7_bypass_60 : decode cX7_bypass 60 = .ok (.aload_n 0, 1) := by decide +kernel
theorem dX7_bypass_61 : decode cX7_bypass 61 = .ok (.getfield 32, 3) := by decide +kernel
theorem dX7_bypass_64 : decode cX7_bypass 64 = .ok (.iload_n 1, 1) := by decide +kernel
theorem dX7_bypass_65 : decode cX7_bypass 65 = .ok (.iconst 0, 1) := by decide +kernel
theorem dX7_bypass_66 : decode cX7_bypass 66 = .ok (.iastore, 1) := by decide +kernel
theorem dX7_bypass_67 : decode cX7_bypass 67 = .ok (.aload_n 0, 1) := by decide +kernel
theorem dX7_bypass_68 : decode cX7_bypass 68 = .ok (.getfield 20, 3) := by decide +kernel
theorem dX7_bypass_71 : decode cX7_bypass 71 = .ok (.iload_n 1, 1) := by decide +kernel
theorem dX7_bypass_72 : decode cX7_bypass 72 = .ok (.dup2, 1) := by decide +kernel
theorem dX7_bypass_73 : decode cX7_bypass 73 = .ok (.iaload, 1) := by decide +kernel
theorem dX7_bypass_74 : decode cX7_bypass 74 = .ok (.iconst 2, 1) := by decide +kernel
theorem dX7_bypass_75 : decode cX7_bypass 75 = .ok (.idiv, 1) := by decide +kernel
theorem dX7_bypass_76 : decode cX7_bypass 76 = .ok (.iastore, 1) := by decide +kernel
theorem dX7_bypass_77 : decode cX7_bypass 77 = .ok (.aload_n 0, 1) := by decide +kernel
theorem dX7_bypass_78 : decode cX7_bypass 78 = .ok (.getfield 20, 3) := by decide +kernel
theorem dX7_bypass_81 : decode cX7_bypass 81 = .ok (.iload_n 1, 1) := by decide +kernel
theorem dX7_bypass_82 : decode cX7_bypass 82 = .ok (.iaload, 1) := by decide +kernel
theorem dX7_bypass_83 : decode cX7_bypass 83 = .ok (.ireturn, 1) := by decide +kernel
theorem dX7_snow_0 : decode cX7_snow 0 = .ok (.iload_n 1, 1) := by decide +kernel
theorem dX7_snow_1 : decode cX7_snow 1 = .ok (.iconst 1, 1) := by decide +kernel
theorem dX7_snow_2 : decode cX7_snow 2 = .ok (.bipush 100, 2) := by decide +kernel
theorem dX7_snow_4 : decode cX7_snow 4 = .ok (.invokestatic 87, 3) := by decide +kernel
theorem dX7_snow_7 : decode cX7_snow 7 = .ok (.ifCond .ne 10, 3) := by decide +kernel
theorem dX7_snow_10 : decode cX7_snow 10 = .ok (.aload_n 0, 1) := by decide +kernel
theorem dX7_snow_11 : decode cX7_snow 11 = .ok (.bipush (-7), 2) := by decide +kernel
theorem dX7_snow_13 : decode cX7_snow 13 = .ok (.invokevirtual 94, 3) := by decide +kernel
theorem dX7_snow_16 : decode cX7_snow 16 = .ok (.ireturn, 1) := by decide +kernel
theorem dX7_snow_17 : decode cX7_snow 17 = .ok (.iconst 0, 1) := by decide +kernel
theorem dX7_snow_18 : decode cX7_snow 18 = .ok (.istore_n 2, 1) := by decide +kernel
theorem dX7_snow_19 : decode cX7_snow 19 = .ok (.iconst 0, 1) := by decide +kernel
theorem dX7_snow_20 : decode cX7_snow 20 = .ok (.istore_n 3, 1) := by decide +kernel
theorem dX7_snow_21 : decode cX7_snow 21 = .ok (.iload_n 3, 1) := by decide +kernel
theorem dX7_snow_22 : decode cX7_snow 22 = .ok (.aload_n 0, 1) := by decide +kernel
theorem dX7_snow_23 : decode cX7_snow 23 = .ok (.getfield 13, 3) := by decide +kernel
theorem dX7_snow_26 : decode cX7_snow 26 = .ok (.if_icmp .ge 82, 3) := by decide +kernel
theorem dX7_snow_29 : decode cX7_snow 29 = .ok (.aload_n 0, 1) := by decide +kernel
theorem dX7_snow_30 : decode cX7_snow 30 = .ok (.getfield 17, 3) := by decide +kernel
theorem dX7_snow_33 : decode cX7_snow 33 = .ok (.iload_n 3, 1) := by decide +kernel
theorem dX7_snow_34 : decode cX7_snow 34 = .ok (.iaload, 1) := by decide +kernel
theorem dX7_snow_35 : decode cX7_snow 35 = .ok (.iconst 4, 1) := by decide +kernel
theorem dX7_snow_36 : decode cX7_snow 36 = .ok (.if_icmp .eq 66, 3) := by decide +kernel
theorem dX7_snow_39 : decode cX7_snow 39 = .ok (.aload_n 0, 1) := by decide +kernel
theorem dX7_snow_40 : decode cX7_snow 40 = .ok (.getfield 23, 3) := by decide +kernel
theorem dX7_snow_43 : decode cX7_snow 43 = .ok (.iload_n 3, 1) := by decide +kernel
theorem dX7_snow_44 : decode cX7_snow 44 = .ok (.aload_n 0, 1) := by decide +kernel
theorem dX7_snow_45 : decode cX7_snow 45 = .ok (.getfield 23, 3) := by decide +kernel
theorem dX7_snow_48 : decode cX7_snow 48 = .ok (.iload_n 3, 1) := by decide +kernel
theorem dX7_snow_49 : decode cX7_snow 49 = .ok (.iaload, 1) := by decide +kernel
theorem dX7_snow_50 : decode cX7_snow 50 = .ok (.iload_n 1, 1) := by decide +kernel
theorem dX7_snow_51 : decode cX7_snow 51 = .ok (.iadd, 1) := by decide +kernel
theorem dX7_snow_52 : decode cX7_snow 52 = .ok (.sipush 200, 3) := by decide +kernel
theorem dX7_snow_55 : decode cX7_snow 55 = .ok (.if_icmp .le 9, 3) := by decide +kernel
theorem dX7_snow_58 : decode cX7_snow 58 = .ok (.sipush 200, 3) := by decide +kernel
theorem dX7_snow_61 : decode cX7_snow 61 = .ok (.goto 11, 3) := by decide +kernel
theorem dX7_snow_64 : decode cX7_snow 64 = .ok (.aload_n 0, 1) := by decide +kernel
theorem dX7_snow_65 : decode cX7_snow 65 = .ok (.getfield 23, 3) := by decide +kernel
theorem dX7_snow_68 : decode cX7_snow 68 = .ok (.iload_n 3, 1) := by decide +kernel
theorem dX7_snow_69 : decode cX7_snow 69 = .ok (.iaload, 1) := by decide +kernel
theorem dX7_snow_70 : decode cX7_snow 70 = .ok (.iload_n 1, 1) := by decide +kernel
theorem dX7_snow_71 : decode cX7_snow 71 = .ok (.iadd, 1) := by decide +kernel
theorem dX7_snow_72 : decode cX7_snow 72 = .ok (.iastore, 1) := by decide +kernel
theorem dX7_snow_73 : decode cX7_snow 73 = .ok (.aload_n 0, 1) := by decide +kernel
theorem dX7_snow_74 : decode cX7_snow 74 = .ok (.getfield 17, 3) := by decide +kernel
theorem dX7_snow_77 : decode cX7_snow 77 = .ok (.iload_n 3, 1) := by decide +kernel
theorem dX7_snow_78 : decode cX7_snow 78 = .ok (.iaload, 1) := by decide +kernel
theorem dX7_snow_79 : decode cX7_snow 79 = .ok (.iconst 1, 1) := by decide +kernel
theorem dX7_snow_80 : decode cX7_snow 80 = .ok (.if_icmp .eq 13, 3) := by decide +kernel
theorem dX7_snow_83 : decode cX7_snow 83 = .ok (.aload_n 0, 1) := by decide +kernel
theorem dX7_snow_84 : decode cX7_snow 84 = .ok (.getfield 17, 3) := by decide +kernel
theorem dX7_snow_87 : decode cX7_snow 87 = .ok (.iload_n 3, 1) := by decide +kernel
theorem dX7_snow_88 : decode cX7_snow 88 = .ok (.iaload, 1) := by decide +kernel
theorem dX7_snow_89 : decode cX7_snow 89 = .ok (.iconst 2, 1) := by decide +kernel
theorem dX7_snow_90 : decode cX7_snow 90 = .ok (.if_icmp .ne 12, 3) := by decide +kernel
theorem dX7_snow_93 : decode cX7_snow 93 = .ok (.aload_n 0, 1) := by decide +kernel
theorem dX7_snow_94 : decode cX7_snow 94 = .ok (.iload_n 3, 1) := by decide +kernel
theorem dX7_snow_95 : decode cX7_snow 95 = .ok (.iconst 0, 1) := by decide +kernel
theorem dX7_snow_96 : decode cX7_snow 96 = .ok (.invokevirtual 125, 3) := by decide +kernel
theorem dX7_snow_99 : decode cX7_snow 99 = .ok (.iinc 2 1, 3) := by decide +kernel
theorem dX7_snow_102 : decode cX7_snow 102 = .ok (.iinc 3 1, 3) := by decide +kernel
theorem dX7_snow_105 : decode cX7_snow 105 = .ok (.goto (-84), 3) := by decide +kernel
theorem dX7_snow_108 : decode cX7_snow 108 = .ok (.iload_n 2, 1) := by decide +kernel
theorem dX7_snow_109 : decode cX7_snow 109 = .ok (.ireturn, 1) := by decide +kernel
theorem dX7_grows_0 : decode cX7_grows 0 = .ok (.aload_n 0, 1) := by decide +kernel
theorem dX7_grows_1 : decode cX7_grows 1 = .ok (.getfield 17, 3) := by decide +kernel
theorem dX7_grows_4 : decode cX7_grows 4 = .ok (.iload_n 1, 1) := by decide +kernel
theorem dX7_grows_5 : decode cX7_grows 5 = .ok (.iaload, 1) := by decide +kernel
theorem dX7_grows_6 : decode cX7_grows 6 = .ok (.iconst 4, 1) := by decide +kernel
theorem dX7_grows_7 : decode cX7_grows 7 = .ok (.if_icmp .ne 4, 3) := by decide +kernel
theorem dX7_grows_10 : decode cX7_grows 10 = .ok (.return_, 1) := by decide +kernel
theorem dX7_grows_11 : decode cX7_grows 11 = .ok (.iload_n 2, 1) := by decide +kernel
theorem dX7_grows_12 : decode cX7_grows 12 = .ok (.ifCond .ge 131, 3) := by decide +kernel
theorem dX7_grows_15 : decode cX7_grows 15 = .ok (.aload_n 0, 1) := by decide +kernel
theorem dX7_grows_16 : decode cX7_grows 16 = .ok (.getfield 17, 3) := by decide +kernel
theorem dX7_grows_19 : decode cX7_grows 19 = .ok (.iload_n 1, 1) := by decide +kernel
theorem dX7_grows_20 : decode cX7_grows 20 = .ok (.iaload, 1) := by decide +kernel
theorem dX7_grows_21 : decode cX7_grows 21 = .ok (.iconst 2, 1) := by decide +kernel
theorem dX7_grows_22 : decode cX7_grows 22 = .ok (.if_icmp .ne 8, 3) := by decide +kernel
theorem dX7_grows_25 : decode cX7_grows 25 = .ok (.bipush 20, 2) := by decide +kernel
theorem dX7_grows_27 : decode cX7_grows 27 = .ok (.goto 19, 3) := by decide +kernel
theorem dX7_grows_30 : decode cX7_grows 30 = .ok (.aload_n 0, 1) := by decide +kernel
theorem dX7_grows_31 : decode cX7_grows 31 = .ok (.getfield 17, 3) := by decide +kernel
theorem dX7_grows_34 : decode cX7_grows 34 = .ok (.iload_n 1, 1) := by decide +kernel
theorem dX7_grows_35 : decode cX7_grows 35 = .ok (.iaload, 1) := by decide +kernel
theorem dX7_grows_36 : decode cX7_grows 36 = .ok (.iconst 3, 1) := by decide +kernel
theorem dX7_grows_37 : decode cX7_grows 37 = .ok (.if_icmp .ne 7, 3) := by decide +kernel
theorem dX7_grows_40 : decode cX7_grows 40 = .ok (.iconst 5, 1) := by decide +kernel
theorem dX7_grows_41 : decode cX7_grows 41 = .ok (.goto 5, 3) := by decide +kernel
theorem dX7_grows_44 : decode cX7_grows 44 = .ok (.bipush 10, 2) := by decide +kernel
theorem dX7_grows_46 : decode cX7_grows 46 = .ok (.istore_n 3, 1) := by decide +kernel
theorem dX7_grows_47 : decode cX7_grows 47 = .ok (.aload_n 0, 1) := by decide +kernel
theorem dX7_grows_48 : decode cX7_grows 48 = .ok (.getfield 17, 3) := by decide +kernel
theorem dX7_grows_51 : decode cX7_grows 51 = .ok (.iload_n 1, 1) := by decide +kernel
theorem dX7_grows_52 : decode cX7_grows 52 = .ok (.iaload, 1) := by decide +kernel
theorem dX7_grows_53 : decode cX7_grows 53 = .ok (.iconst 1, 1) := by decide +kernel
theorem dX7_grows_54 : decode cX7_grows 54 = .ok (.if_icmp .eq 13, 3) := by decide +kernel
theorem dX7_grows_57 : decode cX7_grows 57 = .ok (.aload_n 0, 1) := by decide +kernel
theorem dX7_grows_58 : decode cX7_grows 58 = .ok (.getfield 17, 3) := by decide +kernel
theorem dX7_grows_61 : decode cX7_grows 61 = .ok (.iload_n 1, 1) := by decide +kernel
theorem dX7_grows_62 : decode cX7_grows 62 = .ok (.iaload, 1) := by decide +kernel
theorem dX7_grows_63 : decode cX7_grows 63 = .ok (.iconst 2, 1) := by decide +kernel
theorem dX7_grows_64 : decode cX7_grows 64 = .ok (.if_icmp .ne 7, 3) := by decide +kernel
theorem dX7_grows_67 : decode cX7_grows 67 = .ok (.iconst 0, 1) := by decide +kernel
theorem dX7_grows_68 : decode cX7_grows 68 = .ok (.goto 9, 3) := by decide +kernel
theorem dX7_grows_71 : decode cX7_grows 71 = .ok (.aload_n 0, 1) := by decide +kernel
theorem dX7_grows_72 : decode cX7_grows 72 = .ok (.getfield 23, 3) := by decide +kernel
theorem dX7_grows_75 : decode cX7_grows 75 = .ok (.iload_n 1, 1) := by decide +kernel
theorem dX7_grows_76 : decode cX7_grows 76 = .ok (.iaload, 1) := by decide +kernel
theorem dX7_grows_77 : decode cX7_grows 77 = .ok (.istore 4, 2) := by decide +kernel
theorem dX7_grows_79 : decode cX7_grows 79 = .ok (.aload_n 0, 1) := by decide +kernel
theorem dX7_grows_80 : decode cX7_grows 80 = .ok (.getfield 20, 3) := by decide +kernel
theorem dX7_grows_83 : decode cX7_grows 83 = .ok (.iload_n 1, 1) := by decide +kernel
theorem dX7_grows_84 : decode cX7_grows 84 = .ok (.dup2, 1) := by decide +kernel
theorem dX7_grows_85 : decode cX7_grows 85 = .ok (.iaload, 1) := by decide +kernel
theorem dX7_grows_86 : decode cX7_grows 86 = .ok (.iload_n 2, 1) := by decide +kernel
theorem dX7_grows_87 : decode cX7_grows 87 = .ok (.ineg, 1) := by decide +kernel
theorem dX7_grows_88 : decode cX7_grows 88 = .ok (.iload_n 3, 1) := by decide +kernel
theorem dX7_grows_89 : decode cX7_grows 89 = .ok (.imul, 1) := by decide +kernel
theorem dX7_grows_90 : decode cX7_grows 90 = .ok (.bipush 100, 2) := by decide +kernel
theorem dX7_grows_92 : decode cX7_grows 92 = .ok (.aload_n 0, 1) := by decide +kernel
theorem dX7_grows_93 : decode cX7_grows 93 = .ok (.getfield 20, 3) := by decide +kernel
theorem dX7_grows_96 : decode cX7_grows 96 = .ok (.iload_n 1, 1) := by decide +kernel
theorem dX7_grows_97 : decode cX7_grows 97 = .ok (.iaload, 1) := by decide +kernel
theorem dX7_grows_98 : decode cX7_grows 98 = .ok (.bipush 10, 2) := by decide +kernel
theorem dX7_grows_100 : decode cX7_grows 100 = .ok (.idiv, 1) := by decide +kernel
theorem dX7_grows_101 : decode cX7_grows 101 = .ok (.iadd, 1) := by decide +kernel
theorem dX7_grows_102 : decode cX7_grows 102 = .ok (.iconst 3, 1) := by decide +kernel
theorem dX7_grows_103 : decode cX7_grows 103 = .ok (.iload 4, 2) := by decide +kernel
theorem dX7_grows_105 : decode cX7_grows 105 = .ok (.imul, 1) := by decide +kernel
theorem dX7_grows_106 : decode cX7_grows 106 = .ok (.iadd, 1) := by decide +kernel
theorem dX7_grows_107 : decode cX7_grows 107 = .ok (.idiv, 1) := by decide +kernel
theorem dX7_grows_108 : decode cX7_grows 108 = .ok (.iadd, 1) := by decide +kernel
theorem dX7_grows_109 : decode cX7_grows 109 = .ok (.iastore, 1) := by decide +kernel
theorem dX7_grows_110 : decode cX7_grows 110 = .ok (.aload_n 0, 1) := by decide +kernel
theorem dX7_grows_111 : decode cX7_grows 111 = .ok (.getfield 20, 3) := by decide +kernel
theorem dX7_grows_114 : decode cX7_grows 114 = .ok (.iload_n 1, 1) := by decide +kernel
theorem dX7_grows_115 : decode cX7_grows 115 = .ok (.aload_n 0, 1) := by decide +kernel
theorem dX7_grows_116 : decode cX7_grows 116 = .ok (.getfield 20, 3) := by decide +kernel
theorem dX7_grows_119 : decode cX7_grows 119 = .ok (.iload_n 1, 1) := by decide +kernel
theorem dX7_grows_120 : decode cX7_grows 120 = .ok (.iaload, 1) := by decide +kernel
theorem dX7_grows_121 : decode cX7_grows 121 = .ok (.sipush 3000, 3) := by decide +kernel
theorem dX7_grows_124 : decode cX7_grows 124 = .ok (.if_icmp .le 9, 3) := by decide +kernel
theorem dX7_grows_127 : decode cX7_grows 127 = .ok (.sipush 3000, 3) := by decide +kernel
theorem dX7_grows_130 : decode cX7_grows 130 = .ok (.goto 9, 3) := by decide +kernel
theorem dX7_grows_133 : decode cX7_grows 133 = .ok (.aload_n 0, 1) := by decide +kernel
theorem dX7_grows_134 : decode cX7_grows 134 = .ok (.getfield 20, 3) := by decide +kernel
theorem dX7_grows_137 : decode cX7_grows 137 = .ok (.iload_n 1, 1) := by decide +kernel
theorem dX7_grows_138 : decode cX7_grows 138 = .ok (.iaload, 1) := by decide +kernel
theorem dX7_grows_139 : decode cX7_grows 139 = .ok (.iastore, 1) := by decide +kernel
theorem dX7_grows_140 : decode cX7_grows 140 = .ok (.goto 47, 3) := by decide +kernel
theorem dX7_grows_143 : decode cX7_grows 143 = .ok (.iload_n 2, 1) := by decide +kernel
theorem dX7_grows_144 : decode cX7_grows 144 = .ok (.ifCond .le 43, 3) := by decide +kernel
theorem dX7_grows_147 : decode cX7_grows 147 = .ok (.aload_n 0, 1) := by decide +kernel
theorem dX7_grows_148 : decode cX7_grows 148 = .ok (.getfield 20, 3) := by decide +kernel
theorem dX7_grows_151 : decode cX7_grows 151 = .ok (.iload_n 1, 1) := by decide +kernel
theorem dX7_grows_152 : decode cX7_grows 152 = .ok (.dup2, 1) := by decide +kernel
theorem dX7_grows_153 : decode cX7_grows 153 = .ok (.iaload, 1) := by decide +kernel
theorem dX7_grows_154 : decode cX7_grows 154 = .ok (.iload_n 2, 1) := by decide +kernel
theorem dX7_grows_155 : decode cX7_grows 155 = .ok (.bipush 10, 2) := by decide +kernel
theorem dX7_grows_157 : decode cX7_grows 157 = .ok (.idiv, 1) := by decide +kernel
theorem dX7_grows_158 : decode cX7_grows 158 = .ok (.iconst 1, 1) := by decide +kernel
theorem dX7_grows_159 : decode cX7_grows 159 = .ok (.iadd, 1) := by decide +kernel
theorem dX7_grows_160 : decode cX7_grows 160 = .ok (.isub, 1) := by decide +kernel
theorem dX7_grows_161 : decode cX7_grows 161 = .ok (.iastore, 1) := by decide +kernel
theorem dX7_grows_162 : decode cX7_grows 162 = .ok (.aload_n 0, 1) := by decide +kernel
theorem dX7_grows_163 : decode cX7_grows 163 = .ok (.getfield 20, 3) := by decide +kernel
theorem dX7_grows_166 : decode cX7_grows 166 = .ok (.iload_n 1, 1) := by decide +kernel
theorem dX7_grows_167 : decode cX7_grows 167 = .ok (.aload_n 0, 1) := by decide +kernel
theorem dX7_grows_168 : decode cX7_grows 168 = .ok (.getfield 20, 3) := by decide +kernel
theorem dX7_grows_171 : decode cX7_grows 171 = .ok (.iload_n 1, 1) := by decide +kernel
theorem dX7_grows_172 : decode cX7_grows 172 = .ok (.iaload, 1) := by decide +kernel
theorem dX7_grows_173 : decode cX7_grows 173 = .ok (.ifCond .ge 7, 3) := by decide +kernel
theorem dX7_grows_176 : decode cX7_grows 176 = .ok (.iconst 0, 1) := by decide +kernel
theorem dX7_grows_177 : decode cX7_grows 177 = .ok (.goto 9, 3) := by decide +kernel
theorem dX7_grows_180 : decode cX7_grows 180 = .ok (.aload_n 0, 1) := by decide +kernel
theorem dX7_grows_181 : decode cX7_grows 181 = .ok (.getfield 20, 3) := by decide +kernel
theorem dX7_grows_184 : decode cX7_grows 184 = .ok (.iload_n 1, 1) := by decide +kernel
theorem dX7_grows_185 : decode cX7_grows 185 = .ok (.iaload, 1) := by decide +kernel
theorem dX7_grows_186 : decode cX7_grows 186 = .ok (.iastore, 1) := by decide +kernel
theorem dX7_grows_187 : decode cX7_grows 187 = .ok (.aload_n 0, 1) := by decide +kernel
theorem dX7_grows_188 : decode cX7_grows 188 = .ok (.getfield 17, 3) := by decide +kernel
theorem dX7_grows_191 : decode cX7_grows 191 = .ok (.iload_n 1, 1) := by decide +kernel
theorem dX7_grows_192 : decode cX7_grows 192 = .ok (.iaload, 1) := by decide +kernel
theorem dX7_grows_193 : decode cX7_grows 193 = .ok (.iconst 3, 1) := by decide +kernel
theorem dX7_grows_194 : decode cX7_grows 194 = .ok (.if_icmp .ne 43, 3) := by decide +kernel
theorem dX7_grows_197 : decode cX7_grows 197 = .ok (.iload_n 2, 1) := by decide +kernel
theorem dX7_grows_198 : decode cX7_grows 198 = .ok (.bipush (-100), 2) := by decide +kernel
theorem dX7_grows_200 : decode cX7_grows 200 = .ok (.if_icmp .ge 37, 3) := by decide +kernel
theorem dX7_grows_203 : decode cX7_grows 203 = .ok (.aload_n 0, 1) := by decide +kernel
theorem dX7_grows_204 : decode cX7_grows 204 = .ok (.getfield 35, 3) := by decide +kernel
theorem dX7_grows_207 : decode cX7_grows 207 = .ok (.iload_n 1, 1) := by decide +kernel
theorem dX7_grows_208 : decode cX7_grows 208 = .ok (.dup2, 1) := by decide +kernel
theorem dX7_grows_209 : decode cX7_grows 209 = .ok (.iaload, 1) := by decide +kernel
theorem dX7_grows_210 : decode cX7_grows 210 = .ok (.iconst 1, 1) := by decide +kernel
theorem dX7_grows_211 : decode cX7_grows 211 = .ok (.iadd, 1) := by decide +kernel
theorem dX7_grows_212 : decode cX7_grows 212 = .ok (.iastore, 1) := by decide +kernel
theorem dX7_grows_213 : decode cX7_grows 213 = .ok (.aload_n 0, 1) := by decide +kernel
theorem dX7_grows_214 : decode cX7_grows 214 = .ok (.getfield 35, 3) := by decide +kernel
theorem dX7_grows_217 : decode cX7_grows 217 = .ok (.iload_n 1, 1) := by decide +kernel
theorem dX7_grows_218 : decode cX7_grows 218 = .ok (.iaload, 1) := by decide +kernel
theorem dX7_grows_219 : decode cX7_grows 219 = .ok (.bipush 24, 2) := by decide +kernel
theorem dX7_grows_221 : decode cX7_grows 221 = .ok (.if_icmp .ne 16, 3) := by decide +kernel
theorem dX7_grows_224 : decode cX7_grows 224 = .ok (.aload_n 0, 1) := by decide +kernel
theorem dX7_grows_225 : decode cX7_grows 225 = .ok (.iload_n 1, 1) := by decide +kernel
theorem dX7_grows_226 : decode cX7_grows 226 = .ok (.iconst 0, 1) := by decide +kernel
theorem dX7_grows_227 : decode cX7_grows 227 = .ok (.invokevirtual 125, 3) := by decide +kernel
theorem dX7_grows_230 : decode cX7_grows 230 = .ok (.aload_n 0, 1) := by decide +kernel
theorem dX7_grows_231 : decode cX7_grows 231 = .ok (.getfield 32, 3) := by decide +kernel
theorem dX7_grows_234 : decode cX7_grows 234 = .ok (.iload_n 1, 1) := by decide +kernel
theorem dX7_grows_235 : decode cX7_grows 235 = .ok (.iconst 0, 1) := by decide +kernel
theorem dX7_grows_236 : decode cX7_grows 236 = .ok (.iastore, 1) := by decide +kernel
theorem dX7_grows_237 : decode cX7_grows 237 = .ok (.return_, 1) := by decide +kernel
theorem dX7_load_0 : decode cX7_load 0 = .ok (.iload_n 1, 1) := by decide +kernel
theorem dX7_load_1 : decode cX7_load 1 = .ok (.iconst 1, 1) := by decide +kernel
theorem dX7_load_2 : decode cX7_load 2 = .ok (.bipush 99, 2) := by decide +kernel
theorem dX7_load_4 : decode cX7_load 4 = .ok (.invokestatic 87, 3) := by decide +kernel
theorem dX7_load_7 : decode cX7_load 7 = .ok (.ifCond .eq 22, 3) := by decide +kernel
theorem dX7_load_10 : decode cX7_load 10 = .ok (.iload_n 2, 1) := by decide +kernel
theorem dX7_load_11 : decode cX7_load 11 = .ok (.iconst 0, 1) := by decide +kernel
theorem dX7_load_12 : decode cX7_load 12 = .ok (.bipush 9, 2) := by decide +kernel
theorem dX7_load_14 : decode cX7_load 14 = .ok (.invokestatic 87, 3) := by decide +kernel
theorem dX7_load_17 : decode cX7_load 17 = .ok (.ifCond .eq 12, 3) := by decide +kernel
theorem dX7_load_20 : decode cX7_load 20 = .ok (.iload_n 3, 1) := by decide +kernel
theorem dX7_load_21 : decode cX7_load 21 = .ok (.iconst 0, 1) := by decide +kernel
theorem dX7_load_22 : decode cX7_load 22 = .ok (.iconst 1, 1) := by decide +kernel
theorem dX7_load_23 : decode cX7_load 23 = .ok (.invokestatic 87, 3) := by decide +kernel
theorem dX7_load_26 : decode cX7_load 26 = .ok (.ifCond .ne 10, 3) := by decide +kernel
theorem dX7_load_29 : decode cX7_load 29 = .ok (.aload_n 0, 1) := by decide +kernel
theorem dX7_load_30 : decode cX7_load 30 = .ok (.bipush (-7), 2) := by decide +kernel
theorem dX7_load_32 : decode cX7_load 32 = .ok (.invokevirtual 94, 3) := by decide +kernel
theorem dX7_load_35 : decode cX7_load 35 = .ok (.ireturn, 1) := by decide +kernel
theorem dX7_load_36 : decode cX7_load 36 = .ok (.aload_n 0, 1) := by decide +kernel
theorem dX7_load_37 : decode cX7_load 37 = .ok (.getfield 91, 3) := by decide +kernel
theorem dX7_load_40 : decode cX7_load 40 = .ok (.bipush 24, 2) := by decide +kernel
theorem dX7_load_42 : decode cX7_load 42 = .ok (.if_icmp .ne 10, 3) := by decide +kernel
theorem dX7_load_45 : decode cX7_load 45 = .ok (.aload_n 0, 1) := by decide +kernel
theorem dX7_load_46 : decode cX7_load 46 = .ok (.bipush (-8), 2) := by decide +kernel
theorem dX7_load_48 : decode cX7_load 48 = .ok (.invokevirtual 94, 3) := by decide +kernel
theorem dX7_load_51 : decode cX7_load 51 = .ok (.ireturn, 1) := by decide +kernel
theorem dX7_load_52 : decode cX7_load 52 = .ok (.aload_n 0, 1) := by decide +kernel
theorem dX7_load_53 : decode cX7_load 53 = .ok (.getfield 47, 3) := by decide +kernel
theorem dX7_load_56 : decode cX7_load 56 = .ok (.aload_n 0, 1) := by decide +kernel
theorem dX7_load_57 : decode cX7_load 57 = .ok (.getfield 91, 3) := by decide +kernel
theorem dX7_load_60 : decode cX7_load 60 = .ok (.iload_n 1, 1) := by decide +kernel
theorem dX7_load_61 : decode cX7_load 61 = .ok (.iastore, 1) := by decide +kernel
theorem dX7_load_62 : decode cX7_load 62 = .ok (.aload_n 0, 1) := by decide +kernel
theorem dX7_load_63 : decode cX7_load 63 = .ok (.getfield 50, 3) := by decide +kernel
theorem dX7_load_66 : decode cX7_load 66 = .ok (.aload_n 0, 1) := by decide +kernel
theorem dX7_load_67 : decode cX7_load 67 = .ok (.getfield 91, 3) := by decide +kernel
theorem dX7_load_70 : decode cX7_load 70 = .ok (.iload_n 2, 1) := by decide +kernel
theorem dX7_load_71 : decode cX7_load 71 = .ok (.iastore, 1) := by decide +kernel
theorem dX7_load_72 : decode cX7_load 72 = .ok (.aload_n 0, 1) := by decide +kernel
theorem dX7_load_73 : decode cX7_load 73 = .ok (.getfield 53, 3) := by decide +kernel
theorem dX7_load_76 : decode cX7_load 76 = .ok (.aload_n 0, 1) := by decide +kernel
theorem dX7_load_77 : decode cX7_load 77 = .ok (.getfield 91, 3) := by decide +kernel
theorem dX7_load_80 : decode cX7_load 80 = .ok (.iload_n 3, 1) := by decide +kernel
theorem dX7_load_81 : decode cX7_load 81 = .ok (.iastore, 1) := by decide +kernel
theorem dX7_load_82 : decode cX7_load 82 = .ok (.aload_n 0, 1) := by decide +kernel
theorem dX7_load_83 : decode cX7_load 83 = .ok (.getfield 56, 3) := by decide +kernel
theorem dX7_load_86 : decode cX7_load 86 = .ok (.aload_n 0, 1) := by decide +kernel
theorem dX7_load_87 : decode cX7_load 87 = .ok (.getfield 91, 3) := by decide +kernel
theorem dX7_load_90 : decode cX7_load 90 = .ok (.iconst 0, 1) := by decide +kernel
theorem dX7_load_91 : decode cX7_load 91 = .ok (.iastore, 1) := by decide +kernel
theorem dX7_load_92 : decode cX7_load 92 = .ok (.aload_n 0, 1) := by decide +kernel
theorem dX7_load_93 : decode cX7_load 93 = .ok (.getfield 65, 3) := by decide +kernel
theorem dX7_load_96 : decode cX7_load 96 = .ok (.aload_n 0, 1) := by decide +kernel
theorem dX7_load_97 : decode cX7_load 97 = .ok (.getfield 91, 3) := by decide +kernel
theorem dX7_load_100 : decode cX7_load 100 = .ok (.iconst (-1), 1) := by decide +kernel
theorem dX7_load_101 : decode cX7_load 101 = .ok (.iastore, 1) := by decide +kernel
theorem dX7_load_102 : decode cX7_load 102 = .ok (.aload_n 0, 1) := by decide +kernel
theorem dX7_load_103 : decode cX7_load 103 = .ok (.dup, 1) := by decide +kernel
theorem dX7_load_104 : decode cX7_load 104 = .ok (.getfield 91, 3) := by decide +kernel
theorem dX7_load_107 : decode cX7_load 107 = .ok (.iconst 1, 1) := by decide +kernel
theorem dX7_load_108 : decode cX7_load 108 = .ok (.iadd, 1) := by decide +kernel
theorem dX7_load_109 : decode cX7_load 109 = .ok (.putfield 91, 3) := by decide +kernel
theorem dX7_load_112 : decode cX7_load 112 = .ok (.aload_n 0, 1) := by decide +kernel
theorem dX7_load_113 : decode cX7_load 113 = .ok (.getfield 91, 3) := by decide +kernel
theorem dX7_load_116 : decode cX7_load 116 = .ok (.iconst 1, 1) := by decide +kernel
theorem dX7_load_117 : decode cX7_load 117 = .ok (.isub, 1) := by decide +kernel
theorem dX7_load_118 : decode cX7_load 118 = .ok (.ireturn, 1) := by decide +kernel
theorem dX7_of_0 : decode cX7_of 0 = .ok (.aload_n 0, 1) := by decide +kernel
theorem dX7_of_1 : decode cX7_of 1 = .ok (.iload_n 1, 1) := by decide +kernel
theorem dX7_of_2 : decode cX7_of 2 = .ok (.invokevirtual 129, 3) := by decide +kernel
theorem dX7_of_5 : decode cX7_of 5 = .ok (.ifCond .ne 10, 3) := by decide +kernel
theorem dX7_of_8 : decode cX7_of 8 = .ok (.aload_n 0, 1) := by decide +kernel
theorem dX7_of_9 : decode cX7_of 9 = .ok (.bipush (-3), 2) := by decide +kernel
theorem dX7_of_11 : decode cX7_of 11 = .ok (.invokevirtual 94, 3) := by decide +kernel
theorem dX7_of_14 : decode cX7_of 14 = .ok (.ireturn, 1) := by decide +kernel
theorem dX7_of_15 : decode cX7_of 15 = .ok (.iload_n 2, 1) := by decide +kernel
theorem dX7_of_16 : decode cX7_of 16 = .ok (.tableswitch 121 0 6 #[44, 51, 58, 65, 72, 93, 114], 44) := by decide +kernel
theorem dX7_of_60 : decode cX7_of 60 = .ok (.aload_n 0, 1) := by decide +kernel
theorem dX7_of_61 : decode cX7_of 61 = .ok (.getfield 47, 3) := by decide +kernel
theorem dX7_of_64 : decode cX7_of 64 = .ok (.iload_n 1, 1) := by decide +kernel
theorem dX7_of_65 : decode cX7_of 65 = .ok (.iaload, 1) := by decide +kernel
theorem dX7_of_66 : decode cX7_of 66 = .ok (.ireturn, 1) := by decide +kernel
theorem dX7_of_67 : decode cX7_of 67 = .ok (.aload_n 0, 1) := by decide +kernel
theorem dX7_of_68 : decode cX7_of 68 = .ok (.getfield 50, 3) := by decide +kernel
theorem dX7_of_71 : decode cX7_of 71 = .ok (.iload_n 1, 1) := by decide +kernel
theorem dX7_of_72 : decode cX7_of 72 = .ok (.iaload, 1) := by decide +kernel
theorem dX7_of_73 : decode cX7_of 73 = .ok (.ireturn, 1) := by decide +kernel
theorem dX7_of_74 : decode cX7_of 74 = .ok (.aload_n 0, 1) := by decide +kernel
theorem dX7_of_75 : decode cX7_of 75 = .ok (.getfield 53, 3) := by decide +kernel
theorem dX7_of_78 : decode cX7_of 78 = .ok (.iload_n 1, 1) := by decide +kernel
theorem dX7_of_79 : decode cX7_of 79 = .ok (.iaload, 1) := by decide +kernel
theorem dX7_of_80 : decode cX7_of 80 = .ok (.ireturn, 1) := by decide +kernel
theorem dX7_of_81 : decode cX7_of 81 = .ok (.aload_n 0, 1) := by decide +kernel
theorem dX7_of_82 : decode cX7_of 82 = .ok (.getfield 56, 3) := by decide +kernel
theorem dX7_of_85 : decode cX7_of 85 = .ok (.iload_n 1, 1) := by decide +kernel
theorem dX7_of_86 : decode cX7_of 86 = .ok (.iaload, 1) := by decide +kernel
theorem dX7_of_87 : decode cX7_of 87 = .ok (.ireturn, 1) := by decide +kernel
theorem dX7_of_88 : decode cX7_of 88 = .ok (.aload_n 0, 1) := by decide +kernel
theorem dX7_of_89 : decode cX7_of 89 = .ok (.getfield 56, 3) := by decide +kernel
theorem dX7_of_92 : decode cX7_of 92 = .ok (.iload_n 1, 1) := by decide +kernel
theorem dX7_of_93 : decode cX7_of 93 = .ok (.iaload, 1) := by decide +kernel
theorem dX7_of_94 : decode cX7_of 94 = .ok (.iconst 1, 1) := by decide +kernel
theorem dX7_of_95 : decode cX7_of 95 = .ok (.if_icmp .ne 12, 3) := by decide +kernel
theorem dX7_of_98 : decode cX7_of 98 = .ok (.aload_n 0, 1) := by decide +kernel
theorem dX7_of_99 : decode cX7_of 99 = .ok (.getfield 59, 3) := by decide +kernel
theorem dX7_of_102 : decode cX7_of 102 = .ok (.iload_n 1, 1) := by decide +kernel
theorem dX7_of_103 : decode cX7_of 103 = .ok (.iaload, 1) := by decide +kernel
theorem dX7_of_104 : decode cX7_of 104 = .ok (.goto 4, 3) := by decide +kernel
theorem dX7_of_107 : decode cX7_of 107 = .ok (.iconst (-1), 1) := by decide +kernel
theorem dX7_of_108 : decode cX7_of 108 = .ok (.ireturn, 1) := by decide +kernel
theorem dX7_of_109 : decode cX7_of 109 = .ok (.aload_n 0, 1) := by decide +kernel
theorem dX7_of_110 : decode cX7_of 110 = .ok (.getfield 56, 3) := by decide +kernel
theorem dX7_of_113 : decode cX7_of 113 = .ok (.iload_n 1, 1) := by decide +kernel
theorem dX7_of_114 : decode cX7_of 114 = .ok (.iaload, 1) := by decide +kernel
theorem dX7_of_115 : decode cX7_of 115 = .ok (.iconst 1, 1) := by decide +kernel
theorem dX7_of_116 : decode cX7_of 116 = .ok (.if_icmp .ne 12, 3) := by decide +kernel
theorem dX7_of_119 : decode cX7_of 119 = .ok (.aload_n 0, 1) := by decide +kernel
theorem dX7_of_120 : decode cX7_of 120 = .ok (.getfield 62, 3) := by decide +kernel
theorem dX7_of_123 : decode cX7_of 123 = .ok (.iload_n 1, 1) := by decide +kernel
theorem dX7_of_124 : decode cX7_of 124 = .ok (.iaload, 1) := by decide +kernel
theorem dX7_of_125 : decode cX7_of 125 = .ok (.goto 4, 3) := by decide +kernel
theorem dX7_of_128 : decode cX7_of 128 = .ok (.iconst (-1), 1) := by decide +kernel
theorem dX7_of_129 : decode cX7_of 129 = .ok (.ireturn, 1) := by decide +kernel
theorem dX7_of_130 : decode cX7_of 130 = .ok (.aload_n 0, 1) := by decide +kernel
theorem dX7_of_131 : decode cX7_of 131 = .ok (.getfield 65, 3) := by decide +kernel
theorem dX7_of_134 : decode cX7_of 134 = .ok (.iload_n 1, 1) := by decide +kernel
theorem dX7_of_135 : decode cX7_of 135 = .ok (.iaload, 1) := by decide +kernel
theorem dX7_of_136 : decode cX7_of 136 = .ok (.ireturn, 1) := by decide +kernel
theorem dX7_of_137 : decode cX7_of 137 = .ok (.aload_n 0, 1) := by decide +kernel
theorem dX7_of_138 : decode cX7_of 138 = .ok (.bipush (-7), 2) := by decide +kernel
theorem dX7_of_140 : decode cX7_of 140 = .ok (.invokevirtual 94, 3) := by decide +kernel
theorem dX7_of_143 : decode cX7_of 143 = .ok (.ireturn, 1) := by decide +kernel
theorem dX7_field_0 : decode cX7_field 0 = .ok (.iload_n 1, 1) := by decide +kernel
theorem dX7_field_1 : decode cX7_field 1 = .ok (.ifCond .ne 12, 3) := by decide +kernel
theorem dX7_field_4 : decode cX7_field 4 = .ok (.aload_n 0, 1) := by decide +kernel
theorem dX7_field_5 : decode cX7_field 5 = .ok (.getfield 47, 3) := by decide +kernel
theorem dX7_field_8 : decode cX7_field 8 = .ok (.iload_n 2, 1) := by decide +kernel
theorem dX7_field_9 : decode cX7_field 9 = .ok (.iaload, 1) := by decide +kernel
theorem dX7_field_10 : decode cX7_field 10 = .ok (.goto 48, 3) := by decide +kernel
theorem dX7_field_13 : decode cX7_field 13 = .ok (.iload_n 1, 1) := by decide +kernel
theorem dX7_field_14 : decode cX7_field 14 = .ok (.iconst 1, 1) := by decide +kernel
theorem dX7_field_15 : decode cX7_field 15 = .ok (.if_icmp .ne 12, 3) := by decide +kernel
theorem dX7_field_18 : decode cX7_field 18 = .ok (.aload_n 0, 1) := by decide +kernel
theorem dX7_field_19 : decode cX7_field 19 = .ok (.getfield 50, 3) := by decide +kernel
theorem dX7_field_22 : decode cX7_field 22 = .ok (.iload_n 2, 1) := by decide +kernel
theorem dX7_field_23 : decode cX7_field 23 = .ok (.iaload, 1) := by decide +kernel
theorem dX7_field_24 : decode cX7_field 24 = .ok (.goto 34, 3) := by decide +kernel
theorem dX7_field_27 : decode cX7_field 27 = .ok (.iload_n 1, 1) := by decide +kernel
theorem dX7_field_28 : decode cX7_field 28 = .ok (.iconst 2, 1) := by decide +kernel
theorem dX7_field_29 : decode cX7_field 29 = .ok (.if_icmp .ne 7, 3) := by decide +kernel
theorem dX7_field_32 : decode cX7_field 32 = .ok (.iload_n 3, 1) := by decide +kernel
theorem dX7_field_33 : decode cX7_field 33 = .ok (.goto 25, 3) := by decide +kernel
theorem dX7_field_36 : decode cX7_field 36 = .ok (.iload_n 1, 1) := by decide +kernel
theorem dX7_field_37 : decode cX7_field 37 = .ok (.iconst 3, 1) := by decide +kernel
theorem dX7_field_38 : decode cX7_field 38 = .ok (.if_icmp .ne 14, 3) := by decide +kernel
theorem dX7_field_41 : decode cX7_field 41 = .ok (.aload_n 0, 1) := by decide +kernel
theorem dX7_field_42 : decode cX7_field 42 = .ok (.aload_n 0, 1) := by decide +kernel
theorem dX7_field_43 : decode cX7_field 43 = .ok (.getfield 132, 3) := by decide +kernel
theorem dX7_field_46 : decode cX7_field 46 = .ok (.invokevirtual 122, 3) := by decide +kernel
theorem dX7_field_49 : decode cX7_field 49 = .ok (.goto 9, 3) := by decide +kernel
theorem dX7_field_52 : decode cX7_field 52 = .ok (.aload_n 0, 1) := by decide +kernel
theorem dX7_field_53 : decode cX7_field 53 = .ok (.getfield 23, 3) := by decide +kernel
theorem dX7_field_56 : decode cX7_field 56 = .ok (.iload_n 3, 1) := by decide +kernel
theorem dX7_field_57 : decode cX7_field 57 = .ok (.iaload, 1) := by decide +kernel
theorem dX7_field_58 : decode cX7_field 58 = .ok (.ireturn, 1) := by decide +kernel
theorem dX7_holds_0 : decode cX7_holds 0 = .ok (.bipush 15, 2) := by decide +kernel
theorem dX7_holds_2 : decode cX7_holds 2 = .ok (.iload_n 1, 1) := by decide +kernel
theorem dX7_holds_3 : decode cX7_holds 3 = .ok (.imul, 1) := by decide +kernel
theorem dX7_holds_4 : decode cX7_holds 4 = .ok (.istore 4, 2) := by decide +kernel
theorem dX7_holds_6 : decode cX7_holds 6 = .ok (.aload_n 0, 1) := by decide +kernel
theorem dX7_holds_7 : decode cX7_holds 7 = .ok (.getfield 132, 3) := by decide +kernel
theorem dX7_holds_10 : decode cX7_holds 10 = .ok (.aload_n 0, 1) := by decide +kernel
theorem dX7_holds_11 : decode cX7_holds 11 = .ok (.getfield 68, 3) := by decide +kernel
theorem dX7_holds_14 : decode cX7_holds 14 = .ok (.iload 4, 2) := by decide +kernel
theorem dX7_holds_16 : decode cX7_holds 16 = .ok (.iaload, 1) := by decide +kernel
theorem dX7_holds_17 : decode cX7_holds 17 = .ok (.aload_n 0, 1) := by decide +kernel
theorem dX7_holds_18 : decode cX7_holds 18 = .ok (.getfield 68, 3) := by decide +kernel
theorem dX7_holds_21 : decode cX7_holds 21 = .ok (.iload 4, 2) := by decide +kernel
theorem dX7_holds_23 : decode cX7_holds 23 = .ok (.iconst 1, 1) := by decide +kernel
theorem dX7_holds_24 : decode cX7_holds 24 = .ok (.iadd, 1) := by decide +kernel
theorem dX7_holds_25 : decode cX7_holds 25 = .ok (.iaload, 1) := by decide +kernel
theorem dX7_holds_26 : decode cX7_holds 26 = .ok (.iconst 1, 1) := by decide +kernel
theorem dX7_holds_27 : decode cX7_holds 27 = .ok (.isub, 1) := by decide +kernel
theorem dX7_holds_28 : decode cX7_holds 28 = .ok (.invokestatic 87, 3) := by decide +kernel
theorem dX7_holds_31 : decode cX7_holds 31 = .ok (.ifCond .ne 5, 3) := by decide +kernel
theorem dX7_holds_34 : decode cX7_holds 34 = .ok (.iconst 0, 1) := by decide +kernel
theorem dX7_holds_35 : decode cX7_holds 35 = .ok (.ireturn, 1) := by decide +kernel
theorem dX7_holds_36 : decode cX7_holds 36 = .ok (.aload_n 0, 1) := by decide +kernel
theorem dX7_holds_37 : decode cX7_holds 37 = .ok (.getfield 68, 3) := by decide +kernel
theorem dX7_holds_40 : decode cX7_holds 40 = .ok (.iload 4, 2) := by decide +kernel
theorem dX7_holds_42 : decode cX7_holds 42 = .ok (.iconst 4, 1) := by decide +kernel
theorem dX7_holds_43 : decode cX7_holds 43 = .ok (.iadd, 1) := by decide +kernel
theorem dX7_holds_44 : decode cX7_holds 44 = .ok (.iaload, 1) := by decide +kernel
theorem dX7_holds_45 : decode cX7_holds 45 = .ok (.istore 5, 2) := by decide +kernel
theorem dX7_holds_47 : decode cX7_holds 47 = .ok (.iconst 0, 1) := by decide +kernel
theorem dX7_holds_48 : decode cX7_holds 48 = .ok (.istore 6, 2) := by decide +kernel
theorem dX7_holds_50 : decode cX7_holds 50 = .ok (.iconst 0, 1) := by decide +kernel
theorem dX7_holds_51 : decode cX7_holds 51 = .ok (.istore 7, 2) := by decide +kernel
theorem dX7_holds_53 : decode cX7_holds 53 = .ok (.iload 7, 2) := by decide +kernel
theorem dX7_holds_55 : decode cX7_holds 55 = .ok (.iload 5, 2) := by decide +kernel
theorem dX7_holds_57 : decode cX7_holds 57 = .ok (.if_icmp .ge 117, 3) := by decide +kernel
theorem dX7_holds_60 : decode cX7_holds 60 = .ok (.aload_n 0, 1) := by decide +kernel
theorem dX7_holds_61 : decode cX7_holds 61 = .ok (.aload_n 0, 1) := by decide +kernel
theorem dX7_holds_62 : decode cX7_holds 62 = .ok (.getfield 68, 3) := by decide +kernel
theorem dX7_holds_65 : decode cX7_holds 65 = .ok (.iload 4, 2) := by decide +kernel
theorem dX7_holds_67 : decode cX7_holds 67 = .ok (.bipush 6, 2) := by decide +kernel
theorem dX7_holds_69 : decode cX7_holds 69 = .ok (.iadd, 1) := by decide +kernel
theorem dX7_holds_70 : decode cX7_holds 70 = .ok (.iconst 3, 1) := by decide +kernel
theorem dX7_holds_71 : decode cX7_holds 71 = .ok (.iload 7, 2) := by decide +kernel
theorem dX7_holds_73 : decode cX7_holds 73 = .ok (.imul, 1) := by decide +kernel
theorem dX7_holds_74 : decode cX7_holds 74 = .ok (.iadd, 1) := by decide +kernel
theorem dX7_holds_75 : decode cX7_holds 75 = .ok (.iaload, 1) := by decide +kernel
theorem dX7_holds_76 : decode cX7_holds 76 = .ok (.iload_n 2, 1) := by decide +kernel
theorem dX7_holds_77 : decode cX7_holds 77 = .ok (.iload_n 3, 1) := by decide +kernel
theorem dX7_holds_78 : decode cX7_holds 78 = .ok (.invokevirtual 135, 3) := by decide +kernel
theorem dX7_holds_81 : decode cX7_holds 81 = .ok (.istore 8, 2) := by decide +kernel
theorem dX7_holds_83 : decode cX7_holds 83 = .ok (.aload_n 0, 1) := by decide +kernel
theorem dX7_holds_84 : decode cX7_holds 84 = .ok (.getfield 68, 3) := by decide +kernel
theorem dX7_holds_87 : decode cX7_holds 87 = .ok (.iload 4, 2) := by decide +kernel
theorem dX7_holds_89 : decode cX7_holds 89 = .ok (.bipush 7, 2) := by decide +kernel
theorem dX7_holds_91 : decode cX7_holds 91 = .ok (.iadd, 1) := by decide +kernel
theorem dX7_holds_92 : decode cX7_holds 92 = .ok (.iconst 3, 1) := by decide +kernel
theorem dX7_holds_93 : decode cX7_holds 93 = .ok (.iload 7, 2) := by decide +kernel
theorem dX7_holds_95 : decode cX7_holds 95 = .ok (.imul, 1) := by decide +kernel
theorem dX7_holds_96 : decode cX7_holds 96 = .ok (.iadd, 1) := by decide +kernel
theorem dX7_holds_97 : decode cX7_holds 97 = .ok (.iaload, 1) := by decide +kernel
theorem dX7_holds_98 : decode cX7_holds 98 = .ok (.istore 9, 2) := by decide +kernel
theorem dX7_holds_100 : decode cX7_holds 100 = .ok (.aload_n 0, 1) := by decide +kernel
theorem dX7_holds_101 : decode cX7_holds 101 = .ok (.getfield 68, 3) := by decide +kernel
theorem dX7_holds_104 : decode cX7_holds 104 = .ok (.iload 4, 2) := by decide +kernel
theorem dX7_holds_106 : decode cX7_holds 106 = .ok (.bipush 8, 2) := by decide +kernel
theorem dX7_holds_108 : decode cX7_holds 108 = .ok (.iadd, 1) := by decide +kernel
theorem dX7_holds_109 : decode cX7_holds 109 = .ok (.iconst 3, 1) := by decide +kernel
theorem dX7_holds_110 : decode cX7_holds 110 = .ok (.iload 7, 2) := by decide +kernel
theorem dX7_holds_112 : decode cX7_holds 112 = .ok (.imul, 1) := by decide +kernel
theorem dX7_holds_113 : decode cX7_holds 113 = .ok (.iadd, 1) := by decide +kernel
theorem dX7_holds_114 : decode cX7_holds 114 = .ok (.iaload, 1) := by decide +kernel
theorem dX7_holds_115 : decode cX7_holds 115 = .ok (.istore 10, 2) := by decide +kernel
theorem dX7_holds_117 : decode cX7_holds 117 = .ok (.iload 6, 2) := by decide +kernel
theorem dX7_holds_119 : decode cX7_holds 119 = .ok (.iload 9, 2) := by decide +kernel
theorem dX7_holds_121 : decode cX7_holds 121 = .ok (.bipush 61, 2) := by decide +kernel
theorem dX7_holds_123 : decode cX7_holds 123 = .ok (.if_icmp .ne 13, 3) := by decide +kernel
theorem dX7_holds_126 : decode cX7_holds 126 = .ok (.iload 8, 2) := by decide +kernel
theorem dX7_holds_128 : decode cX7_holds 128 = .ok (.iload 10, 2) := by decide +kernel
theorem dX7_holds_130 : decode cX7_holds 130 = .ok (.if_icmp .ne 34, 3) := by decide +kernel
theorem dX7_holds_133 : decode cX7_holds 133 = .ok (.goto 27, 3) := by decide +kernel
theorem dX7_holds_136 : decode cX7_holds 136 = .ok (.iload 9, 2) := by decide +kernel
theorem dX7_holds_138 : decode cX7_holds 138 = .ok (.bipush 60, 2) := by decide +kernel
theorem dX7_holds_140 : decode cX7_holds 140 = .ok (.if_icmp .ne 13, 3) := by decide +kernel
theorem dX7_holds_143 : decode cX7_holds 143 = .ok (.iload 8, 2) := by decide +kernel
theorem dX7_holds_145 : decode cX7_holds 145 = .ok (.iload 10, 2) := by decide +kernel
theorem dX7_holds_147 : decode cX7_holds 147 = .ok (.if_icmp .ge 17, 3) := by decide +kernel
theorem dX7_holds_150 : decode cX7_holds 150 = .ok (.goto 10, 3) := by decide +kernel
theorem dX7_holds_153 : decode cX7_holds 153 = .ok (.iload 8, 2) := by decide +kernel
theorem dX7_holds_155 : decode cX7_holds 155 = .ok (.iload 10, 2) := by decide +kernel
theorem dX7_holds_157 : decode cX7_holds 157 = .ok (.if_icmp .le 7, 3) := by decide +kernel
theorem dX7_holds_160 : decode cX7_holds 160 = .ok (.iconst 1, 1) := by decide +kernel
theorem dX7_holds_161 : decode cX7_holds 161 = .ok (.goto 4, 3) := by decide +kernel
theorem dX7_holds_164 : decode cX7_holds 164 = .ok (.iconst 0, 1) := by decide +kernel
theorem dX7_holds_165 : decode cX7_holds 165 = .ok (.iadd, 1) := by decide +kernel
theorem dX7_holds_166 : decode cX7_holds 166 = .ok (.istore 6, 2) := by decide +kernel
theorem dX7_holds_168 : decode cX7_holds 168 = .ok (.iinc 7 1, 3) := by decide +kernel
theorem dX7_holds_171 : decode cX7_holds 171 = .ok (.goto (-118), 3) := by decide +kernel
theorem dX7_holds_174 : decode cX7_holds 174 = .ok (.aload_n 0, 1) := by decide +kernel
theorem dX7_holds_175 : decode cX7_holds 175 = .ok (.getfield 68, 3) := by decide +kernel
theorem dX7_holds_178 : decode cX7_holds 178 = .ok (.iload 4, 2) := by decide +kernel
theorem dX7_holds_180 : decode cX7_holds 180 = .ok (.iconst 5, 1) := by decide +kernel
theorem dX7_holds_181 : decode cX7_holds 181 = .ok (.iadd, 1) := by decide +kernel
theorem dX7_holds_182 : decode cX7_holds 182 = .ok (.iaload, 1) := by decide +kernel
theorem dX7_holds_183 : decode cX7_holds 183 = .ok (.iconst 1, 1) := by decide +kernel
theorem dX7_holds_184 : decode cX7_holds 184 = .ok (.if_icmp .ne 16, 3) := by decide +kernel
theorem dX7_holds_187 : decode cX7_holds 187 = .ok (.iload 6, 2) := by decide +kernel
theorem dX7_holds_189 : decode cX7_holds 189 = .ok (.ifCond .le 7, 3) := by decide +kernel
theorem dX7_holds_192 : decode cX7_holds 192 = .ok (.iconst 1, 1) := by decide +kernel
theorem dX7_holds_193 : decode cX7_holds 193 = .ok (.goto 19, 3) := by decide +kernel
theorem dX7_holds_196 : decode cX7_holds 196 = .ok (.iconst 0, 1) := by decide +kernel
theorem dX7_holds_197 : decode cX7_holds 197 = .ok (.goto 15, 3) := by decide +kernel
theorem dX7_holds_200 : decode cX7_holds 200 = .ok (.iload 6, 2) := by decide +kernel
theorem dX7_holds_202 : decode cX7_holds 202 = .ok (.iload 5, 2) := by decide +kernel
theorem dX7_holds_204 : decode cX7_holds 204 = .ok (.if_icmp .ne 7, 3) := by decide +kernel
theorem dX7_holds_207 : decode cX7_holds 207 = .ok (.iconst 1, 1) := by decide +kernel
theorem dX7_holds_208 : decode cX7_holds 208 = .ok (.goto 4, 3) := by decide +kernel
theorem dX7_holds_211 : decode cX7_holds 211 = .ok (.iconst 0, 1) := by decide +kernel
theorem dX7_holds_212 : decode cX7_holds 212 = .ok (.ireturn, 1) := by decide +kernel
theorem dX7_saidOf_0 : decode cX7_saidOf 0 = .ok (.aload_n 0, 1) := by decide +kernel
theorem dX7_saidOf_1 : decode cX7_saidOf 1 = .ok (.getfield 139, 3) := by decide +kernel
theorem dX7_saidOf_4 : decode cX7_saidOf 4 = .ok (.iconst 1, 1) := by decide +kernel
theorem dX7_saidOf_5 : decode cX7_saidOf 5 = .ok (.isub, 1) := by decide +kernel
theorem dX7_saidOf_6 : decode cX7_saidOf 6 = .ok (.istore 4, 2) := by decide +kernel
theorem dX7_saidOf_8 : decode cX7_saidOf 8 = .ok (.iload 4, 2) := by decide +kernel
theorem dX7_saidOf_10 : decode cX7_saidOf 10 = .ok (.ifCond .lt 49, 3) := by decide +kernel
theorem dX7_saidOf_13 : decode cX7_saidOf 13 = .ok (.aload_n 0, 1) := by decide +kernel
theorem dX7_saidOf_14 : decode cX7_saidOf 14 = .ok (.getfield 68, 3) := by decide +kernel
theorem dX7_saidOf_17 : decode cX7_saidOf 17 = .ok (.bipush 15, 2) := by decide +kernel
theorem dX7_saidOf_19 : decode cX7_saidOf 19 = .ok (.iload 4, 2) := by decide +kernel
theorem dX7_saidOf_21 : decode cX7_saidOf 21 = .ok (.imul, 1) := by decide +kernel
theorem dX7_saidOf_22 : decode cX7_saidOf 22 = .ok (.iconst 2, 1) := by decide +kernel
theorem dX7_saidOf_23 : decode cX7_saidOf 23 = .ok (.iadd, 1) := by decide +kernel
theorem dX7_saidOf_24 : decode cX7_saidOf 24 = .ok (.iaload, 1) := by decide +kernel
theorem dX7_saidOf_25 : decode cX7_saidOf 25 = .ok (.iload_n 3, 1) := by decide +kernel
theorem dX7_saidOf_26 : decode cX7_saidOf 26 = .ok (.if_icmp .ne 27, 3) := by decide +kernel
theorem dX7_saidOf_29 : decode cX7_saidOf 29 = .ok (.aload_n 0, 1) := by decide +kernel
theorem dX7_saidOf_30 : decode cX7_saidOf 30 = .ok (.iload 4, 2) := by decide +kernel
theorem dX7_saidOf_32 : decode cX7_saidOf 32 = .ok (.iload_n 1, 1) := by decide +kernel
theorem dX7_saidOf_33 : decode cX7_saidOf 33 = .ok (.iload_n 2, 1) := by decide +kernel
theorem dX7_saidOf_34 : decode cX7_saidOf 34 = .ok (.invokevirtual 142, 3) := by decide +kernel
theorem dX7_saidOf_37 : decode cX7_saidOf 37 = .ok (.ifCond .eq 16, 3) := by decide +kernel
theorem dX7_saidOf_40 : decode cX7_saidOf 40 = .ok (.aload_n 0, 1) := by decide +kernel
theorem dX7_saidOf_41 : decode cX7_saidOf 41 = .ok (.getfield 68, 3) := by decide +kernel
theorem dX7_saidOf_44 : decode cX7_saidOf 44 = .ok (.bipush 15, 2) := by decide +kernel
theorem dX7_saidOf_46 : decode cX7_saidOf 46 = .ok (.iload 4, 2) := by decide +kernel
theorem dX7_saidOf_48 : decode cX7_saidOf 48 = .ok (.imul, 1) := by decide +kernel
theorem dX7_saidOf_49 : decode cX7_saidOf 49 = .ok (.iconst 3, 1) := by decide +kernel
theorem dX7_saidOf_50 : decode cX7_saidOf 50 = .ok (.iadd, 1) := by decide +kernel
theorem dX7_saidOf_51 : decode cX7_saidOf 51 = .ok (.iaload, 1) := by decide +kernel
theorem dX7_saidOf_52 : decode cX7_saidOf 52 = .ok (.ireturn, 1) := by decide +kernel
theorem dX7_saidOf_53 : decode cX7_saidOf 53 = .ok (.iinc 4 (-1), 3) := by decide +kernel
theorem dX7_saidOf_56 : decode cX7_saidOf 56 = .ok (.goto (-48), 3) := by decide +kernel
theorem dX7_saidOf_59 : decode cX7_saidOf 59 = .ok (.iload_n 3, 1) := by decide +kernel
theorem dX7_saidOf_60 : decode cX7_saidOf 60 = .ok (.iconst 1, 1) := by decide +kernel
theorem dX7_saidOf_61 : decode cX7_saidOf 61 = .ok (.if_icmp .ne 7, 3) := by decide +kernel
theorem dX7_saidOf_64 : decode cX7_saidOf 64 = .ok (.iconst 1, 1) := by decide +kernel
theorem dX7_saidOf_65 : decode cX7_saidOf 65 = .ok (.goto 4, 3) := by decide +kernel
theorem dX7_saidOf_68 : decode cX7_saidOf 68 = .ok (.iconst 0, 1) := by decide +kernel
theorem dX7_saidOf_69 : decode cX7_saidOf 69 = .ok (.ireturn, 1) := by decide +kernel
theorem dX7_whyNot_0 : decode cX7_whyNot 0 = .ok (.aload_n 0, 1) := by decide +kernel
theorem dX7_whyNot_1 : decode cX7_whyNot 1 = .ok (.iload_n 1, 1) := by decide +kernel
theorem dX7_whyNot_2 : decode cX7_whyNot 2 = .ok (.iload_n 2, 1) := by decide +kernel
theorem dX7_whyNot_3 : decode cX7_whyNot 3 = .ok (.iconst 2, 1) := by decide +kernel
theorem dX7_whyNot_4 : decode cX7_whyNot 4 = .ok (.invokevirtual 145, 3) := by decide +kernel
theorem dX7_whyNot_7 : decode cX7_whyNot 7 = .ok (.ifCond .eq 5, 3) := by decide +kernel
theorem dX7_whyNot_10 : decode cX7_whyNot 10 = .ok (.iconst 1, 1) := by decide +kernel
theorem dX7_whyNot_11 : decode cX7_whyNot 11 = .ok (.ireturn, 1) := by decide +kernel
theorem dX7_whyNot_12 : decode cX7_whyNot 12 = .ok (.aload_n 0, 1) := by decide +kernel
theorem dX7_whyNot_13 : decode cX7_whyNot 13 = .ok (.iload_n 2, 1) := by decide +kernel
theorem dX7_whyNot_14 : decode cX7_whyNot 14 = .ok (.invokevirtual 106, 3) := by decide +kernel
theorem dX7_whyNot_17 : decode cX7_whyNot 17 = .ok (.aload_n 0, 1) := by decide +kernel
theorem dX7_whyNot_18 : decode cX7_whyNot 18 = .ok (.iload_n 1, 1) := by decide +kernel
theorem dX7_whyNot_19 : decode cX7_whyNot 19 = .ok (.iload_n 2, 1) := by decide +kernel
theorem dX7_whyNot_20 : decode cX7_whyNot 20 = .ok (.iconst 0, 1) := by decide +kernel
theorem dX7_whyNot_21 : decode cX7_whyNot 21 = .ok (.invokevirtual 145, 3) := by decide +kernel
theorem dX7_whyNot_24 : decode cX7_whyNot 24 = .ok (.if_icmp .ge 5, 3) := by decide +kernel
theorem dX7_whyNot_27 : decode cX7_whyNot 27 = .ok (.iconst 2, 1) := by decide +kernel
theorem dX7_whyNot_28 : decode cX7_whyNot 28 = .ok (.ireturn, 1) := by decide +kernel
theorem dX7_whyNot_29 : decode cX7_whyNot 29 = .ok (.aload_n 0, 1) := by decide +kernel
theorem dX7_whyNot_30 : decode cX7_whyNot 30 = .ok (.getfield 41, 3) := by decide +kernel
theorem dX7_whyNot_33 : decode cX7_whyNot 33 = .ok (.iconst 2, 1) := by decide +kernel
theorem dX7_whyNot_34 : decode cX7_whyNot 34 = .ok (.iload_n 2, 1) := by decide +kernel
theorem dX7_whyNot_35 : decode cX7_whyNot 35 = .ok (.imul, 1) := by decide +kernel
theorem dX7_whyNot_36 : decode cX7_whyNot 36 = .ok (.aload_n 0, 1) := by decide +kernel
theorem dX7_whyNot_37 : decode cX7_whyNot 37 = .ok (.getfield 53, 3) := by decide +kernel
theorem dX7_whyNot_40 : decode cX7_whyNot 40 = .ok (.iload_n 1, 1) := by decide +kernel
theorem dX7_whyNot_41 : decode cX7_whyNot 41 = .ok (.iaload, 1) := by decide +kernel
theorem dX7_whyNot_42 : decode cX7_whyNot 42 = .ok (.iadd, 1) := by decide +kernel
theorem dX7_whyNot_43 : decode cX7_whyNot 43 = .ok (.iaload, 1) := by decide +kernel
theorem dX7_whyNot_44 : decode cX7_whyNot 44 = .ok (.istore_n 3, 1) := by decide +kernel
theorem dX7_whyNot_45 : decode cX7_whyNot 45 = .ok (.iload_n 3, 1) := by decide +kernel
theorem dX7_whyNot_46 : decode cX7_whyNot 46 = .ok (.iconst (-1), 1) := by decide +kernel
theorem dX7_whyNot_47 : decode cX7_whyNot 47 = .ok (.if_icmp .eq 23, 3) := by decide +kernel
theorem dX7_whyNot_50 : decode cX7_whyNot 50 = .ok (.aload_n 0, 1) := by decide +kernel
theorem dX7_whyNot_51 : decode cX7_whyNot 51 = .ok (.getfield 132, 3) := by decide +kernel
theorem dX7_whyNot_54 : decode cX7_whyNot 54 = .ok (.iload_n 3, 1) := by decide +kernel
theorem dX7_whyNot_55 : decode cX7_whyNot 55 = .ok (.isub, 1) := by decide +kernel
theorem dX7_whyNot_56 : decode cX7_whyNot 56 = .ok (.aload_n 0, 1) := by decide +kernel
theorem dX7_whyNot_57 : decode cX7_whyNot 57 = .ok (.iload_n 1, 1) := by decide +kernel
theorem dX7_whyNot_58 : decode cX7_whyNot 58 = .ok (.iload_n 2, 1) := by decide +kernel
theorem dX7_whyNot_59 : decode cX7_whyNot 59 = .ok (.iconst 1, 1) := by decide +kernel
theorem dX7_whyNot_60 : decode cX7_whyNot 60 = .ok (.invokevirtual 145, 3) := by decide +kernel
theorem dX7_whyNot_63 : decode cX7_whyNot 63 = .ok (.if_icmp .ge 7, 3) := by decide +kernel
theorem dX7_whyNot_66 : decode cX7_whyNot 66 = .ok (.iconst 3, 1) := by decide +kernel
theorem dX7_whyNot_67 : decode cX7_whyNot 67 = .ok (.goto 4, 3) := by decide +kernel
theorem dX7_whyNot_70 : decode cX7_whyNot 70 = .ok (.iconst 0, 1) := by decide +kernel
theorem dX7_whyNot_71 : decode cX7_whyNot 71 = .ok (.ireturn, 1) := by decide +kernel
theorem dX7_may_0 : decode cX7_may 0 = .ok (.aload_n 0, 1) := by decide +kernel
theorem dX7_may_1 : decode cX7_may 1 = .ok (.iload_n 1, 1) := by decide +kernel
theorem dX7_may_2 : decode cX7_may 2 = .ok (.invokevirtual 129, 3) := by decide +kernel
theorem dX7_may_5 : decode cX7_may 5 = .ok (.ifCond .eq 11, 3) := by decide +kernel
theorem dX7_may_8 : decode cX7_may 8 = .ok (.aload_n 0, 1) := by decide +kernel
theorem dX7_may_9 : decode cX7_may 9 = .ok (.iload_n 2, 1) := by decide +kernel
theorem dX7_may_10 : decode cX7_may 10 = .ok (.invokevirtual 98, 3) := by decide +kernel
theorem dX7_may_13 : decode cX7_may 13 = .ok (.ifCond .ne 10, 3) := by decide +kernel
theorem dX7_may_16 : decode cX7_may 16 = .ok (.aload_n 0, 1) := by decide +kernel
theorem dX7_may_17 : decode cX7_may 17 = .ok (.bipush (-3), 2) := by decide +kernel
theorem dX7_may_19 : decode cX7_may 19 = .ok (.invokevirtual 94, 3) := by decide +kernel
theorem dX7_may_22 : decode cX7_may 22 = .ok (.ireturn, 1) := by decide +kernel
theorem dX7_may_23 : decode cX7_may 23 = .ok (.aload_n 0, 1) := by decide +kernel
theorem dX7_may_24 : decode cX7_may 24 = .ok (.iload_n 1, 1) := by decide +kernel
theorem dX7_may_25 : decode cX7_may 25 = .ok (.iload_n 2, 1) := by decide +kernel
theorem dX7_may_26 : decode cX7_may 26 = .ok (.invokevirtual 148, 3) := by decide +kernel
theorem dX7_may_29 : decode cX7_may 29 = .ok (.ifCond .ne 7, 3) := by decide +kernel
theorem dX7_may_32 : decode cX7_may 32 = .ok (.iconst 1, 1) := by decide +kernel
theorem dX7_may_33 : decode cX7_may 33 = .ok (.goto 4, 3) := by decide +kernel
theorem dX7_may_36 : decode cX7_may 36 = .ok (.iconst 0, 1) := by decide +kernel
theorem dX7_may_37 : decode cX7_may 37 = .ok (.ireturn, 1) := by decide +kernel
theorem dX7_why_0 : decode cX7_why 0 = .ok (.aload_n 0, 1) := by decide +kernel
theorem dX7_why_1 : decode cX7_why 1 = .ok (.iload_n 1, 1) := by decide +kernel
theorem dX7_why_2 : decode cX7_why 2 = .ok (.invokevirtual 129, 3) := by decide +kernel
theorem dX7_why_5 : decode cX7_why 5 = .ok (.ifCond .eq 20, 3) := by decide +kernel
theorem dX7_why_8 : decode cX7_why 8 = .ok (.aload_n 0, 1) := by decide +kernel
theorem dX7_why_9 : decode cX7_why 9 = .ok (.iload_n 2, 1) := by decide +kernel
theorem dX7_why_10 : decode cX7_why 10 = .ok (.invokevirtual 98, 3) := by decide +kernel
theorem dX7_why_13 : decode cX7_why 13 = .ok (.ifCond .eq 12, 3) := by decide +kernel
theorem dX7_why_16 : decode cX7_why 16 = .ok (.aload_n 0, 1) := by decide +kernel
theorem dX7_why_17 : decode cX7_why 17 = .ok (.iload_n 1, 1) := by decide +kernel
theorem dX7_why_18 : decode cX7_why 18 = .ok (.iload_n 2, 1) := by decide +kernel
theorem dX7_why_19 : decode cX7_why 19 = .ok (.invokevirtual 148, 3) := by decide +kernel
theorem dX7_why_22 : decode cX7_why 22 = .ok (.goto 9, 3) := by decide +kernel
theorem dX7_why_25 : decode cX7_why 25 = .ok (.aload_n 0, 1) := by decide +kernel
theorem dX7_why_26 : decode cX7_why 26 = .ok (.bipush (-3), 2) := by decide +kernel
theorem dX7_why_28 : decode cX7_why 28 = .ok (.invokevirtual 94, 3) := by decide +kernel
theorem dX7_why_31 : decode cX7_why 31 = .ok (.ireturn, 1) := by decide +kernel
theorem dX7_many_0 : decode cX7_many 0 = .ok (.iconst 0, 1) := by decide +kernel
theorem dX7_many_1 : decode cX7_many 1 = .ok (.istore_n 2, 1) := by decide +kernel
theorem dX7_many_2 : decode cX7_many 2 = .ok (.iconst 0, 1) := by decide +kernel
theorem dX7_many_3 : decode cX7_many 3 = .ok (.istore_n 3, 1) := by decide +kernel
theorem dX7_many_4 : decode cX7_many 4 = .ok (.iload_n 3, 1) := by decide +kernel
end
section
theorem dX7_many_5 : decode cX7_many 5 = .ok (.aload_n 0, 1) := by decide +kernel
theorem dX7_many_6 : decode cX7_many 6 = .ok (.getfield 91, 3) := by decide +kernel
theorem dX7_many_9 : decode cX7_many 9 = .ok (.if_icmp .ge 27, 3) := by decide +kernel
theorem dX7_many_12 : decode cX7_many 12 = .ok (.iload_n 2, 1) := by decide +kernel
theorem dX7_many_13 : decode cX7_many 13 = .ok (.aload_n 0, 1) := by decide +kernel
theorem dX7_many_14 : decode cX7_many 14 = .ok (.getfield 56, 3) := by decide +kernel
theorem dX7_many_17 : decode cX7_many 17 = .ok (.iload_n 3, 1) := by decide +kernel
theorem dX7_many_18 : decode cX7_many 18 = .ok (.iaload, 1) := by decide +kernel
theorem dX7_many_19 : decode cX7_many 19 = .ok (.iload_n 1, 1) := by decide +kernel
theorem dX7_many_20 : decode cX7_many 20 = .ok (.if_icmp .ne 7, 3) := by decide +kernel
theorem dX7_many_23 : decode cX7_many 23 = .ok (.iconst 1, 1) := by decide +kernel
theorem dX7_many_24 : decode cX7_many 24 = .ok (.goto 4, 3) := by decide +kernel
theorem dX7_many_27 : decode cX7_many 27 = .ok (.iconst 0, 1) := by decide +kernel
theorem dX7_many_28 : decode cX7_many 28 = .ok (.iadd, 1) := by decide +kernel
theorem dX7_many_29 : decode cX7_many 29 = .ok (.istore_n 2, 1) := by decide +kernel
theorem dX7_many_30 : decode cX7_many 30 = .ok (.iinc 3 1, 3) := by decide +kernel
theorem dX7_many_33 : decode cX7_many 33 = .ok (.goto (-29), 3) := by decide +kernel
theorem dX7_many_36 : decode cX7_many 36 = .ok (.iload_n 2, 1) := by decide +kernel
theorem dX7_many_37 : decode cX7_many 37 = .ok (.ireturn, 1) := by decide +kernel
theorem dX7_turn_0 : decode cX7_turn 0 = .ok (.aload_n 0, 1) := by decide +kernel
theorem dX7_turn_1 : decode cX7_turn 1 = .ok (.iload_n 1, 1) := by decide +kernel
theorem dX7_turn_2 : decode cX7_turn 2 = .ok (.invokevirtual 129, 3) := by decide +kernel
theorem dX7_turn_5 : decode cX7_turn 5 = .ok (.ifCond .ne 10, 3) := by decide +kernel
theorem dX7_turn_8 : decode cX7_turn 8 = .ok (.aload_n 0, 1) := by decide +kernel
theorem dX7_turn_9 : decode cX7_turn 9 = .ok (.bipush (-3), 2) := by decide +kernel
theorem dX7_turn_11 : decode cX7_turn 11 = .ok (.invokevirtual 94, 3) := by decide +kernel
theorem dX7_turn_14 : decode cX7_turn 14 = .ok (.ireturn, 1) := by decide +kernel
theorem dX7_turn_15 : decode cX7_turn 15 = .ok (.aload_n 0, 1) := by decide +kernel
theorem dX7_turn_16 : decode cX7_turn 16 = .ok (.getfield 56, 3) := by decide +kernel
theorem dX7_turn_19 : decode cX7_turn 19 = .ok (.iload_n 1, 1) := by decide +kernel
theorem dX7_turn_20 : decode cX7_turn 20 = .ok (.iaload, 1) := by decide +kernel
theorem dX7_turn_21 : decode cX7_turn 21 = .ok (.ifCond .eq 10, 3) := by decide +kernel
theorem dX7_turn_24 : decode cX7_turn 24 = .ok (.aload_n 0, 1) := by decide +kernel
theorem dX7_turn_25 : decode cX7_turn 25 = .ok (.bipush (-7), 2) := by decide +kernel
theorem dX7_turn_27 : decode cX7_turn 27 = .ok (.invokevirtual 94, 3) := by decide +kernel
theorem dX7_turn_30 : decode cX7_turn 30 = .ok (.ireturn, 1) := by decide +kernel
theorem dX7_turn_31 : decode cX7_turn 31 = .ok (.aload_n 0, 1) := by decide +kernel
theorem dX7_turn_32 : decode cX7_turn 32 = .ok (.getfield 56, 3) := by decide +kernel
theorem dX7_turn_35 : decode cX7_turn 35 = .ok (.iload_n 1, 1) := by decide +kernel
theorem dX7_turn_36 : decode cX7_turn 36 = .ok (.iconst 4, 1) := by decide +kernel
theorem dX7_turn_37 : decode cX7_turn 37 = .ok (.iastore, 1) := by decide +kernel
theorem dX7_turn_38 : decode cX7_turn 38 = .ok (.aload_n 0, 1) := by decide +kernel
theorem dX7_turn_39 : decode cX7_turn 39 = .ok (.iconst 0, 1) := by decide +kernel
theorem dX7_turn_40 : decode cX7_turn 40 = .ok (.invokevirtual 151, 3) := by decide +kernel
theorem dX7_turn_43 : decode cX7_turn 43 = .ok (.ireturn, 1) := by decide +kernel
theorem dX7_can_0 : decode cX7_can 0 = .ok (.aload_n 0, 1) := by decide +kernel
theorem dX7_can_1 : decode cX7_can 1 = .ok (.iload_n 1, 1) := by decide +kernel
theorem dX7_can_2 : decode cX7_can 2 = .ok (.iload_n 2, 1) := by decide +kernel
theorem dX7_can_3 : decode cX7_can 3 = .ok (.invokevirtual 148, 3) := by decide +kernel
theorem dX7_can_6 : decode cX7_can 6 = .ok (.ifCond .eq 5, 3) := by decide +kernel
theorem dX7_can_9 : decode cX7_can 9 = .ok (.iconst 0, 1) := by decide +kernel
theorem dX7_can_10 : decode cX7_can 10 = .ok (.ireturn, 1) := by decide +kernel
theorem dX7_can_11 : decode cX7_can 11 = .ok (.iconst 0, 1) := by decide +kernel
theorem dX7_can_12 : decode cX7_can 12 = .ok (.istore_n 3, 1) := by decide +kernel
theorem dX7_can_13 : decode cX7_can 13 = .ok (.iload_n 3, 1) := by decide +kernel
theorem dX7_can_14 : decode cX7_can 14 = .ok (.aload_n 0, 1) := by decide +kernel
theorem dX7_can_15 : decode cX7_can 15 = .ok (.getfield 91, 3) := by decide +kernel
theorem dX7_can_18 : decode cX7_can 18 = .ok (.if_icmp .ge 57, 3) := by decide +kernel
theorem dX7_can_21 : decode cX7_can 21 = .ok (.aload_n 0, 1) := by decide +kernel
theorem dX7_can_22 : decode cX7_can 22 = .ok (.getfield 56, 3) := by decide +kernel
theorem dX7_can_25 : decode cX7_can 25 = .ok (.iload_n 3, 1) := by decide +kernel
theorem dX7_can_26 : decode cX7_can 26 = .ok (.iaload, 1) := by decide +kernel
theorem dX7_can_27 : decode cX7_can 27 = .ok (.iconst 1, 1) := by decide +kernel
theorem dX7_can_28 : decode cX7_can 28 = .ok (.if_icmp .ne 41, 3) := by decide +kernel
theorem dX7_can_31 : decode cX7_can 31 = .ok (.aload_n 0, 1) := by decide +kernel
theorem dX7_can_32 : decode cX7_can 32 = .ok (.getfield 59, 3) := by decide +kernel
theorem dX7_can_35 : decode cX7_can 35 = .ok (.iload_n 3, 1) := by decide +kernel
theorem dX7_can_36 : decode cX7_can 36 = .ok (.iaload, 1) := by decide +kernel
theorem dX7_can_37 : decode cX7_can 37 = .ok (.iload_n 2, 1) := by decide +kernel
theorem dX7_can_38 : decode cX7_can 38 = .ok (.if_icmp .ne 31, 3) := by decide +kernel
theorem dX7_can_41 : decode cX7_can 41 = .ok (.aload_n 0, 1) := by decide +kernel
theorem dX7_can_42 : decode cX7_can 42 = .ok (.getfield 53, 3) := by decide +kernel
theorem dX7_can_45 : decode cX7_can 45 = .ok (.iload_n 3, 1) := by decide +kernel
theorem dX7_can_46 : decode cX7_can 46 = .ok (.iaload, 1) := by decide +kernel
theorem dX7_can_47 : decode cX7_can 47 = .ok (.aload_n 0, 1) := by decide +kernel
theorem dX7_can_48 : decode cX7_can 48 = .ok (.getfield 53, 3) := by decide +kernel
theorem dX7_can_51 : decode cX7_can 51 = .ok (.iload_n 1, 1) := by decide +kernel
theorem dX7_can_52 : decode cX7_can 52 = .ok (.iaload, 1) := by decide +kernel
theorem dX7_can_53 : decode cX7_can 53 = .ok (.if_icmp .eq 14, 3) := by decide +kernel
theorem dX7_can_56 : decode cX7_can 56 = .ok (.aload_n 0, 1) := by decide +kernel
theorem dX7_can_57 : decode cX7_can 57 = .ok (.getfield 26, 3) := by decide +kernel
theorem dX7_can_60 : decode cX7_can 60 = .ok (.iload_n 2, 1) := by decide +kernel
theorem dX7_can_61 : decode cX7_can 61 = .ok (.iaload, 1) := by decide +kernel
theorem dX7_can_62 : decode cX7_can 62 = .ok (.bipush 10, 2) := by decide +kernel
theorem dX7_can_64 : decode cX7_can 64 = .ok (.if_icmp .ge 5, 3) := by decide +kernel
theorem dX7_can_67 : decode cX7_can 67 = .ok (.iconst 0, 1) := by decide +kernel
theorem dX7_can_68 : decode cX7_can 68 = .ok (.ireturn, 1) := by decide +kernel
theorem dX7_can_69 : decode cX7_can 69 = .ok (.iinc 3 1, 3) := by decide +kernel
theorem dX7_can_72 : decode cX7_can 72 = .ok (.goto (-59), 3) := by decide +kernel
theorem dX7_can_75 : decode cX7_can 75 = .ok (.iconst 1, 1) := by decide +kernel
theorem dX7_can_76 : decode cX7_can 76 = .ok (.ireturn, 1) := by decide +kernel
theorem dX7_cracks_0 : decode cX7_cracks 0 = .ok (.aload_n 0, 1) := by decide +kernel
theorem dX7_cracks_1 : decode cX7_cracks 1 = .ok (.iload_n 1, 1) := by decide +kernel
theorem dX7_cracks_2 : decode cX7_cracks 2 = .ok (.iconst 3, 1) := by decide +kernel
theorem dX7_cracks_3 : decode cX7_cracks 3 = .ok (.invokevirtual 125, 3) := by decide +kernel
theorem dX7_cracks_6 : decode cX7_cracks 6 = .ok (.aload_n 0, 1) := by decide +kernel
theorem dX7_cracks_7 : decode cX7_cracks 7 = .ok (.getfield 32, 3) := by decide +kernel
theorem dX7_cracks_10 : decode cX7_cracks 10 = .ok (.iload_n 1, 1) := by decide +kernel
theorem dX7_cracks_11 : decode cX7_cracks 11 = .ok (.iconst 0, 1) := by decide +kernel
theorem dX7_cracks_12 : decode cX7_cracks 12 = .ok (.iastore, 1) := by decide +kernel
theorem dX7_cracks_13 : decode cX7_cracks 13 = .ok (.aload_n 0, 1) := by decide +kernel
theorem dX7_cracks_14 : decode cX7_cracks 14 = .ok (.getfield 35, 3) := by decide +kernel
theorem dX7_cracks_17 : decode cX7_cracks 17 = .ok (.iload_n 1, 1) := by decide +kernel
theorem dX7_cracks_18 : decode cX7_cracks 18 = .ok (.iconst 0, 1) := by decide +kernel
theorem dX7_cracks_19 : decode cX7_cracks 19 = .ok (.iastore, 1) := by decide +kernel
theorem dX7_cracks_20 : decode cX7_cracks 20 = .ok (.return_, 1) := by decide +kernel
theorem dX7_comes_0 : decode cX7_comes 0 = .ok (.aload_n 0, 1) := by decide +kernel
theorem dX7_comes_1 : decode cX7_comes 1 = .ok (.getfield 41, 3) := by decide +kernel
theorem dX7_comes_4 : decode cX7_comes 4 = .ok (.iconst 2, 1) := by decide +kernel
theorem dX7_comes_5 : decode cX7_comes 5 = .ok (.iload_n 2, 1) := by decide +kernel
theorem dX7_comes_6 : decode cX7_comes 6 = .ok (.imul, 1) := by decide +kernel
theorem dX7_comes_7 : decode cX7_comes 7 = .ok (.aload_n 0, 1) := by decide +kernel
theorem dX7_comes_8 : decode cX7_comes 8 = .ok (.getfield 53, 3) := by decide +kernel
theorem dX7_comes_11 : decode cX7_comes 11 = .ok (.iload_n 1, 1) := by decide +kernel
theorem dX7_comes_12 : decode cX7_comes 12 = .ok (.iaload, 1) := by decide +kernel
theorem dX7_comes_13 : decode cX7_comes 13 = .ok (.iadd, 1) := by decide +kernel
theorem dX7_comes_14 : decode cX7_comes 14 = .ok (.aload_n 0, 1) := by decide +kernel
theorem dX7_comes_15 : decode cX7_comes 15 = .ok (.getfield 132, 3) := by decide +kernel
theorem dX7_comes_18 : decode cX7_comes 18 = .ok (.iastore, 1) := by decide +kernel
theorem dX7_comes_19 : decode cX7_comes 19 = .ok (.aload_n 0, 1) := by decide +kernel
theorem dX7_comes_20 : decode cX7_comes 20 = .ok (.iload_n 2, 1) := by decide +kernel
theorem dX7_comes_21 : decode cX7_comes 21 = .ok (.aload_n 0, 1) := by decide +kernel
theorem dX7_comes_22 : decode cX7_comes 22 = .ok (.getfield 47, 3) := by decide +kernel
theorem dX7_comes_25 : decode cX7_comes 25 = .ok (.iload_n 1, 1) := by decide +kernel
theorem dX7_comes_26 : decode cX7_comes 26 = .ok (.iaload, 1) := by decide +kernel
theorem dX7_comes_27 : decode cX7_comes 27 = .ok (.invokevirtual 115, 3) := by decide +kernel
theorem dX7_comes_30 : decode cX7_comes 30 = .ok (.ifCond .ne 26, 3) := by decide +kernel
theorem dX7_comes_33 : decode cX7_comes 33 = .ok (.aload_n 0, 1) := by decide +kernel
theorem dX7_comes_34 : decode cX7_comes 34 = .ok (.getfield 56, 3) := by decide +kernel
theorem dX7_comes_37 : decode cX7_comes 37 = .ok (.iload_n 1, 1) := by decide +kernel
theorem dX7_comes_38 : decode cX7_comes 38 = .ok (.iconst 3, 1) := by decide +kernel
theorem dX7_comes_39 : decode cX7_comes 39 = .ok (.iastore, 1) := by decide +kernel
theorem dX7_comes_40 : decode cX7_comes 40 = .ok (.aload_n 0, 1) := by decide +kernel
theorem dX7_comes_41 : decode cX7_comes 41 = .ok (.getfield 65, 3) := by decide +kernel
theorem dX7_comes_44 : decode cX7_comes 44 = .ok (.iload_n 1, 1) := by decide +kernel
theorem dX7_comes_45 : decode cX7_comes 45 = .ok (.aload_n 0, 1) := by decide +kernel
theorem dX7_comes_46 : decode cX7_comes 46 = .ok (.getfield 132, 3) := by decide +kernel
theorem dX7_comes_49 : decode cX7_comes 49 = .ok (.iastore, 1) := by decide +kernel
theorem dX7_comes_50 : decode cX7_comes 50 = .ok (.aload_n 0, 1) := by decide +kernel
theorem dX7_comes_51 : decode cX7_comes 51 = .ok (.iload_n 2, 1) := by decide +kernel
theorem dX7_comes_52 : decode cX7_comes 52 = .ok (.invokevirtual 154, 3) := by decide +kernel
theorem dX7_comes_55 : decode cX7_comes 55 = .ok (.return_, 1) := by decide +kernel
theorem dX7_comes_56 : decode cX7_comes 56 = .ok (.aload_n 0, 1) := by decide +kernel
theorem dX7_comes_57 : decode cX7_comes 57 = .ok (.getfield 56, 3) := by decide +kernel
theorem dX7_comes_60 : decode cX7_comes 60 = .ok (.iload_n 1, 1) := by decide +kernel
theorem dX7_comes_61 : decode cX7_comes 61 = .ok (.iconst 1, 1) := by decide +kernel
theorem dX7_comes_62 : decode cX7_comes 62 = .ok (.iastore, 1) := by decide +kernel
theorem dX7_comes_63 : decode cX7_comes 63 = .ok (.aload_n 0, 1) := by decide +kernel
theorem dX7_comes_64 : decode cX7_comes 64 = .ok (.getfield 59, 3) := by decide +kernel
theorem dX7_comes_67 : decode cX7_comes 67 = .ok (.iload_n 1, 1) := by decide +kernel
theorem dX7_comes_68 : decode cX7_comes 68 = .ok (.iload_n 2, 1) := by decide +kernel
theorem dX7_comes_69 : decode cX7_comes 69 = .ok (.iastore, 1) := by decide +kernel
theorem dX7_comes_70 : decode cX7_comes 70 = .ok (.aload_n 0, 1) := by decide +kernel
theorem dX7_comes_71 : decode cX7_comes 71 = .ok (.getfield 62, 3) := by decide +kernel
theorem dX7_comes_74 : decode cX7_comes 74 = .ok (.iload_n 1, 1) := by decide +kernel
theorem dX7_comes_75 : decode cX7_comes 75 = .ok (.iconst 0, 1) := by decide +kernel
theorem dX7_comes_76 : decode cX7_comes 76 = .ok (.iastore, 1) := by decide +kernel
theorem dX7_comes_77 : decode cX7_comes 77 = .ok (.aload_n 0, 1) := by decide +kernel
theorem dX7_comes_78 : decode cX7_comes 78 = .ok (.getfield 32, 3) := by decide +kernel
theorem dX7_comes_81 : decode cX7_comes 81 = .ok (.iload_n 2, 1) := by decide +kernel
theorem dX7_comes_82 : decode cX7_comes 82 = .ok (.dup2, 1) := by decide +kernel
theorem dX7_comes_83 : decode cX7_comes 83 = .ok (.iaload, 1) := by decide +kernel
theorem dX7_comes_84 : decode cX7_comes 84 = .ok (.aload_n 0, 1) := by decide +kernel
theorem dX7_comes_85 : decode cX7_comes 85 = .ok (.getfield 47, 3) := by decide +kernel
theorem dX7_comes_88 : decode cX7_comes 88 = .ok (.iload_n 1, 1) := by decide +kernel
theorem dX7_comes_89 : decode cX7_comes 89 = .ok (.iaload, 1) := by decide +kernel
theorem dX7_comes_90 : decode cX7_comes 90 = .ok (.iadd, 1) := by decide +kernel
theorem dX7_comes_91 : decode cX7_comes 91 = .ok (.iastore, 1) := by decide +kernel
theorem dX7_comes_92 : decode cX7_comes 92 = .ok (.aload_n 0, 1) := by decide +kernel
theorem dX7_comes_93 : decode cX7_comes 93 = .ok (.getfield 17, 3) := by decide +kernel
theorem dX7_comes_96 : decode cX7_comes 96 = .ok (.iload_n 2, 1) := by decide +kernel
theorem dX7_comes_97 : decode cX7_comes 97 = .ok (.iaload, 1) := by decide +kernel
theorem dX7_comes_98 : decode cX7_comes 98 = .ok (.iconst 4, 1) := by decide +kernel
theorem dX7_comes_99 : decode cX7_comes 99 = .ok (.if_icmp .eq 23, 3) := by decide +kernel
theorem dX7_comes_102 : decode cX7_comes 102 = .ok (.aload_n 0, 1) := by decide +kernel
theorem dX7_comes_103 : decode cX7_comes 103 = .ok (.getfield 32, 3) := by decide +kernel
theorem dX7_comes_106 : decode cX7_comes 106 = .ok (.iload_n 2, 1) := by decide +kernel
theorem dX7_comes_107 : decode cX7_comes 107 = .ok (.iaload, 1) := by decide +kernel
theorem dX7_comes_108 : decode cX7_comes 108 = .ok (.aload_n 0, 1) := by decide +kernel
theorem dX7_comes_109 : decode cX7_comes 109 = .ok (.getfield 20, 3) := by decide +kernel
theorem dX7_comes_112 : decode cX7_comes 112 = .ok (.iload_n 2, 1) := by decide +kernel
theorem dX7_comes_113 : decode cX7_comes 113 = .ok (.iaload, 1) := by decide +kernel
theorem dX7_comes_114 : decode cX7_comes 114 = .ok (.if_icmp .lt 8, 3) := by decide +kernel
theorem dX7_comes_117 : decode cX7_comes 117 = .ok (.aload_n 0, 1) := by decide +kernel
theorem dX7_comes_118 : decode cX7_comes 118 = .ok (.iload_n 2, 1) := by decide +kernel
theorem dX7_comes_119 : decode cX7_comes 119 = .ok (.invokevirtual 154, 3) := by decide +kernel
theorem dX7_comes_122 : decode cX7_comes 122 = .ok (.return_, 1) := by decide +kernel
theorem dX7_next_0 : decode cX7_next 0 = .ok (.iconst (-1), 1) := by decide +kernel
theorem dX7_next_1 : decode cX7_next 1 = .ok (.istore_n 2, 1) := by decide +kernel
theorem dX7_next_2 : decode cX7_next 2 = .ok (.iconst 0, 1) := by decide +kernel
theorem dX7_next_3 : decode cX7_next 3 = .ok (.istore_n 3, 1) := by decide +kernel
theorem dX7_next_4 : decode cX7_next 4 = .ok (.iload_n 3, 1) := by decide +kernel
theorem dX7_next_5 : decode cX7_next 5 = .ok (.aload_n 0, 1) := by decide +kernel
theorem dX7_next_6 : decode cX7_next 6 = .ok (.getfield 91, 3) := by decide +kernel
theorem dX7_next_9 : decode cX7_next 9 = .ok (.if_icmp .ge 50, 3) := by decide +kernel
theorem dX7_next_12 : decode cX7_next 12 = .ok (.aload_n 0, 1) := by decide +kernel
theorem dX7_next_13 : decode cX7_next 13 = .ok (.getfield 71, 3) := by decide +kernel
theorem dX7_next_16 : decode cX7_next 16 = .ok (.iload_n 3, 1) := by decide +kernel
theorem dX7_next_17 : decode cX7_next 17 = .ok (.baload, 1) := by decide +kernel
theorem dX7_next_18 : decode cX7_next 18 = .ok (.ifCond .ne 35, 3) := by decide +kernel
theorem dX7_next_21 : decode cX7_next 21 = .ok (.aload_n 0, 1) := by decide +kernel
theorem dX7_next_22 : decode cX7_next 22 = .ok (.getfield 56, 3) := by decide +kernel
theorem dX7_next_25 : decode cX7_next 25 = .ok (.iload_n 3, 1) := by decide +kernel
theorem dX7_next_26 : decode cX7_next 26 = .ok (.iaload, 1) := by decide +kernel
theorem dX7_next_27 : decode cX7_next 27 = .ok (.iload_n 1, 1) := by decide +kernel
theorem dX7_next_28 : decode cX7_next 28 = .ok (.if_icmp .ne 25, 3) := by decide +kernel
theorem dX7_next_31 : decode cX7_next 31 = .ok (.iload_n 2, 1) := by decide +kernel
theorem dX7_next_32 : decode cX7_next 32 = .ok (.iconst (-1), 1) := by decide +kernel
theorem dX7_next_33 : decode cX7_next 33 = .ok (.if_icmp .eq 18, 3) := by decide +kernel
theorem dX7_next_36 : decode cX7_next 36 = .ok (.aload_n 0, 1) := by decide +kernel
theorem dX7_next_37 : decode cX7_next 37 = .ok (.getfield 50, 3) := by decide +kernel
theorem dX7_next_40 : decode cX7_next 40 = .ok (.iload_n 3, 1) := by decide +kernel
theorem dX7_next_41 : decode cX7_next 41 = .ok (.iaload, 1) := by decide +kernel
theorem dX7_next_42 : decode cX7_next 42 = .ok (.aload_n 0, 1) := by decide +kernel
theorem dX7_next_43 : decode cX7_next 43 = .ok (.getfield 50, 3) := by decide +kernel
theorem dX7_next_46 : decode cX7_next 46 = .ok (.iload_n 2, 1) := by decide +kernel
theorem dX7_next_47 : decode cX7_next 47 = .ok (.iaload, 1) := by decide +kernel
theorem dX7_next_48 : decode cX7_next 48 = .ok (.if_icmp .le 5, 3) := by decide +kernel
theorem dX7_next_51 : decode cX7_next 51 = .ok (.iload_n 3, 1) := by decide +kernel
theorem dX7_next_52 : decode cX7_next 52 = .ok (.istore_n 2, 1) := by decide +kernel
theorem dX7_next_53 : decode cX7_next 53 = .ok (.iinc 3 1, 3) := by decide +kernel
theorem dX7_next_56 : decode cX7_next 56 = .ok (.goto (-52), 3) := by decide +kernel
theorem dX7_next_59 : decode cX7_next 59 = .ok (.iload_n 2, 1) := by decide +kernel
theorem dX7_next_60 : decode cX7_next 60 = .ok (.ireturn, 1) := by decide +kernel
theorem dX7_goesOn_0 : decode cX7_goesOn 0 = .ok (.aload_n 0, 1) := by decide +kernel
theorem dX7_goesOn_1 : decode cX7_goesOn 1 = .ok (.getfield 59, 3) := by decide +kernel
theorem dX7_goesOn_4 : decode cX7_goesOn 4 = .ok (.iload_n 1, 1) := by decide +kernel
theorem dX7_goesOn_5 : decode cX7_goesOn 5 = .ok (.iaload, 1) := by decide +kernel
theorem dX7_goesOn_6 : decode cX7_goesOn 6 = .ok (.istore_n 2, 1) := by decide +kernel
theorem dX7_goesOn_7 : decode cX7_goesOn 7 = .ok (.aload_n 0, 1) := by decide +kernel
theorem dX7_goesOn_8 : decode cX7_goesOn 8 = .ok (.getfield 62, 3) := by decide +kernel
theorem dX7_goesOn_11 : decode cX7_goesOn 11 = .ok (.iload_n 1, 1) := by decide +kernel
theorem dX7_goesOn_12 : decode cX7_goesOn 12 = .ok (.iaload, 1) := by decide +kernel
theorem dX7_goesOn_13 : decode cX7_goesOn 13 = .ok (.aload_n 0, 1) := by decide +kernel
theorem dX7_goesOn_14 : decode cX7_goesOn 14 = .ok (.getfield 29, 3) := by decide +kernel
theorem dX7_goesOn_17 : decode cX7_goesOn 17 = .ok (.iload_n 2, 1) := by decide +kernel
theorem dX7_goesOn_18 : decode cX7_goesOn 18 = .ok (.iaload, 1) := by decide +kernel
theorem dX7_goesOn_19 : decode cX7_goesOn 19 = .ok (.if_icmp .ge 4, 3) := by decide +kernel
theorem dX7_goesOn_22 : decode cX7_goesOn 22 = .ok (.return_, 1) := by decide +kernel
theorem dX7_goesOn_23 : decode cX7_goesOn 23 = .ok (.aload_n 0, 1) := by decide +kernel
theorem dX7_goesOn_24 : decode cX7_goesOn 24 = .ok (.getfield 53, 3) := by decide +kernel
theorem dX7_goesOn_27 : decode cX7_goesOn 27 = .ok (.iload_n 1, 1) := by decide +kernel
theorem dX7_goesOn_28 : decode cX7_goesOn 28 = .ok (.iaload, 1) := by decide +kernel
theorem dX7_goesOn_29 : decode cX7_goesOn 29 = .ok (.ifCond .ne 12, 3) := by decide +kernel
theorem dX7_goesOn_32 : decode cX7_goesOn 32 = .ok (.aload_n 0, 1) := by decide +kernel
theorem dX7_goesOn_33 : decode cX7_goesOn 33 = .ok (.getfield 13, 3) := by decide +kernel
theorem dX7_goesOn_36 : decode cX7_goesOn 36 = .ok (.iconst 1, 1) := by decide +kernel
theorem dX7_goesOn_37 : decode cX7_goesOn 37 = .ok (.isub, 1) := by decide +kernel
theorem dX7_goesOn_38 : decode cX7_goesOn 38 = .ok (.goto 4, 3) := by decide +kernel
theorem dX7_goesOn_41 : decode cX7_goesOn 41 = .ok (.iconst 0, 1) := by decide +kernel
theorem dX7_goesOn_42 : decode cX7_goesOn 42 = .ok (.istore_n 3, 1) := by decide +kernel
theorem dX7_goesOn_43 : decode cX7_goesOn 43 = .ok (.iload_n 2, 1) := by decide +kernel
theorem dX7_goesOn_44 : decode cX7_goesOn 44 = .ok (.iload_n 3, 1) := by decide +kernel
theorem dX7_goesOn_45 : decode cX7_goesOn 45 = .ok (.if_icmp .ne 38, 3) := by decide +kernel
theorem dX7_goesOn_48 : decode cX7_goesOn 48 = .ok (.aload_n 0, 1) := by decide +kernel
theorem dX7_goesOn_49 : decode cX7_goesOn 49 = .ok (.getfield 56, 3) := by decide +kernel
theorem dX7_goesOn_52 : decode cX7_goesOn 52 = .ok (.iload_n 1, 1) := by decide +kernel
theorem dX7_goesOn_53 : decode cX7_goesOn 53 = .ok (.iconst 2, 1) := by decide +kernel
theorem dX7_goesOn_54 : decode cX7_goesOn 54 = .ok (.iastore, 1) := by decide +kernel
theorem dX7_goesOn_55 : decode cX7_goesOn 55 = .ok (.aload_n 0, 1) := by decide +kernel
theorem dX7_goesOn_56 : decode cX7_goesOn 56 = .ok (.getfield 65, 3) := by decide +kernel
theorem dX7_goesOn_59 : decode cX7_goesOn 59 = .ok (.iload_n 1, 1) := by decide +kernel
theorem dX7_goesOn_60 : decode cX7_goesOn 60 = .ok (.aload_n 0, 1) := by decide +kernel
theorem dX7_goesOn_61 : decode cX7_goesOn 61 = .ok (.getfield 132, 3) := by decide +kernel
theorem dX7_goesOn_64 : decode cX7_goesOn 64 = .ok (.iastore, 1) := by decide +kernel
theorem dX7_goesOn_65 : decode cX7_goesOn 65 = .ok (.aload_n 0, 1) := by decide +kernel
theorem dX7_goesOn_66 : decode cX7_goesOn 66 = .ok (.dup, 1) := by decide +kernel
theorem dX7_goesOn_67 : decode cX7_goesOn 67 = .ok (.getfield 158, 3) := by decide +kernel
theorem dX7_goesOn_70 : decode cX7_goesOn 70 = .ok (.aload_n 0, 1) := by decide +kernel
theorem dX7_goesOn_71 : decode cX7_goesOn 71 = .ok (.getfield 47, 3) := by decide +kernel
theorem dX7_goesOn_74 : decode cX7_goesOn 74 = .ok (.iload_n 1, 1) := by decide +kernel
theorem dX7_goesOn_75 : decode cX7_goesOn 75 = .ok (.iaload, 1) := by decide +kernel
theorem dX7_goesOn_76 : decode cX7_goesOn 76 = .ok (.iadd, 1) := by decide +kernel
theorem dX7_goesOn_77 : decode cX7_goesOn 77 = .ok (.putfield 158, 3) := by decide +kernel
theorem dX7_goesOn_80 : decode cX7_goesOn 80 = .ok (.goto 52, 3) := by decide +kernel
theorem dX7_goesOn_83 : decode cX7_goesOn 83 = .ok (.aload_n 0, 1) := by decide +kernel
theorem dX7_goesOn_84 : decode cX7_goesOn 84 = .ok (.iload_n 1, 1) := by decide +kernel
theorem dX7_goesOn_85 : decode cX7_goesOn 85 = .ok (.aload_n 0, 1) := by decide +kernel
theorem dX7_goesOn_86 : decode cX7_goesOn 86 = .ok (.getfield 53, 3) := by decide +kernel
theorem dX7_goesOn_89 : decode cX7_goesOn 89 = .ok (.iload_n 1, 1) := by decide +kernel
theorem dX7_goesOn_90 : decode cX7_goesOn 90 = .ok (.iaload, 1) := by decide +kernel
theorem dX7_goesOn_91 : decode cX7_goesOn 91 = .ok (.ifCond .ne 9, 3) := by decide +kernel
theorem dX7_goesOn_94 : decode cX7_goesOn 94 = .ok (.iload_n 2, 1) := by decide +kernel
theorem dX7_goesOn_95 : decode cX7_goesOn 95 = .ok (.iconst 1, 1) := by decide +kernel
theorem dX7_goesOn_96 : decode cX7_goesOn 96 = .ok (.iadd, 1) := by decide +kernel
theorem dX7_goesOn_97 : decode cX7_goesOn 97 = .ok (.goto 6, 3) := by decide +kernel
theorem dX7_goesOn_100 : decode cX7_goesOn 100 = .ok (.iload_n 2, 1) := by decide +kernel
theorem dX7_goesOn_101 : decode cX7_goesOn 101 = .ok (.iconst 1, 1) := by decide +kernel
theorem dX7_goesOn_102 : decode cX7_goesOn 102 = .ok (.isub, 1) := by decide +kernel
theorem dX7_goesOn_103 : decode cX7_goesOn 103 = .ok (.invokevirtual 161, 3) := by decide +kernel
theorem dX7_goesOn_106 : decode cX7_goesOn 106 = .ok (.ifCond .eq 26, 3) := by decide +kernel
theorem dX7_goesOn_109 : decode cX7_goesOn 109 = .ok (.aload_n 0, 1) := by decide +kernel
theorem dX7_goesOn_110 : decode cX7_goesOn 110 = .ok (.iload_n 1, 1) := by decide +kernel
theorem dX7_goesOn_111 : decode cX7_goesOn 111 = .ok (.aload_n 0, 1) := by decide +kernel
theorem dX7_goesOn_112 : decode cX7_goesOn 112 = .ok (.getfield 53, 3) := by decide +kernel
theorem dX7_goesOn_115 : decode cX7_goesOn 115 = .ok (.iload_n 1, 1) := by decide +kernel
theorem dX7_goesOn_116 : decode cX7_goesOn 116 = .ok (.iaload, 1) := by decide +kernel
theorem dX7_goesOn_117 : decode cX7_goesOn 117 = .ok (.ifCond .ne 9, 3) := by decide +kernel
theorem dX7_goesOn_120 : decode cX7_goesOn 120 = .ok (.iload_n 2, 1) := by decide +kernel
theorem dX7_goesOn_121 : decode cX7_goesOn 121 = .ok (.iconst 1, 1) := by decide +kernel
theorem dX7_goesOn_122 : decode cX7_goesOn 122 = .ok (.iadd, 1) := by decide +kernel
theorem dX7_goesOn_123 : decode cX7_goesOn 123 = .ok (.goto 6, 3) := by decide +kernel
theorem dX7_goesOn_126 : decode cX7_goesOn 126 = .ok (.iload_n 2, 1) := by decide +kernel
theorem dX7_goesOn_127 : decode cX7_goesOn 127 = .ok (.iconst 1, 1) := by decide +kernel
theorem dX7_goesOn_128 : decode cX7_goesOn 128 = .ok (.isub, 1) := by decide +kernel
theorem dX7_goesOn_129 : decode cX7_goesOn 129 = .ok (.invokevirtual 164, 3) := by decide +kernel
theorem dX7_goesOn_132 : decode cX7_goesOn 132 = .ok (.return_, 1) := by decide +kernel
theorem dX7_goesBy_0 : decode cX7_goesBy 0 = .ok (.aload_n 0, 1) := by decide +kernel
theorem dX7_goesBy_1 : decode cX7_goesBy 1 = .ok (.aload_n 0, 1) := by decide +kernel
theorem dX7_goesBy_2 : decode cX7_goesBy 2 = .ok (.getfield 132, 3) := by decide +kernel
theorem dX7_goesBy_5 : decode cX7_goesBy 5 = .ok (.invokevirtual 122, 3) := by decide +kernel
theorem dX7_goesBy_8 : decode cX7_goesBy 8 = .ok (.istore_n 1, 1) := by decide +kernel
theorem dX7_goesBy_9 : decode cX7_goesBy 9 = .ok (.iconst 0, 1) := by decide +kernel
theorem dX7_goesBy_10 : decode cX7_goesBy 10 = .ok (.istore_n 2, 1) := by decide +kernel
theorem dX7_goesBy_11 : decode cX7_goesBy 11 = .ok (.iload_n 2, 1) := by decide +kernel
theorem dX7_goesBy_12 : decode cX7_goesBy 12 = .ok (.aload_n 0, 1) := by decide +kernel
theorem dX7_goesBy_13 : decode cX7_goesBy 13 = .ok (.getfield 13, 3) := by decide +kernel
theorem dX7_goesBy_16 : decode cX7_goesBy 16 = .ok (.if_icmp .ge 15, 3) := by decide +kernel
theorem dX7_goesBy_19 : decode cX7_goesBy 19 = .ok (.aload_n 0, 1) := by decide +kernel
theorem dX7_goesBy_20 : decode cX7_goesBy 20 = .ok (.iload_n 2, 1) := by decide +kernel
theorem dX7_goesBy_21 : decode cX7_goesBy 21 = .ok (.iload_n 1, 1) := by decide +kernel
theorem dX7_goesBy_22 : decode cX7_goesBy 22 = .ok (.invokevirtual 167, 3) := by decide +kernel
theorem dX7_goesBy_25 : decode cX7_goesBy 25 = .ok (.iinc 2 1, 3) := by decide +kernel
theorem dX7_goesBy_28 : decode cX7_goesBy 28 = .ok (.goto (-17), 3) := by decide +kernel
theorem dX7_goesBy_31 : decode cX7_goesBy 31 = .ok (.iconst 0, 1) := by decide +kernel
theorem dX7_goesBy_32 : decode cX7_goesBy 32 = .ok (.istore_n 2, 1) := by decide +kernel
theorem dX7_goesBy_33 : decode cX7_goesBy 33 = .ok (.iload_n 2, 1) := by decide +kernel
theorem dX7_goesBy_34 : decode cX7_goesBy 34 = .ok (.aload_n 0, 1) := by decide +kernel
theorem dX7_goesBy_35 : decode cX7_goesBy 35 = .ok (.getfield 91, 3) := by decide +kernel
theorem dX7_goesBy_38 : decode cX7_goesBy 38 = .ok (.if_icmp .ge 40, 3) := by decide +kernel
theorem dX7_goesBy_41 : decode cX7_goesBy 41 = .ok (.aload_n 0, 1) := by decide +kernel
theorem dX7_goesBy_42 : decode cX7_goesBy 42 = .ok (.getfield 62, 3) := by decide +kernel
theorem dX7_goesBy_45 : decode cX7_goesBy 45 = .ok (.iload_n 2, 1) := by decide +kernel
theorem dX7_goesBy_46 : decode cX7_goesBy 46 = .ok (.dup2, 1) := by decide +kernel
theorem dX7_goesBy_47 : decode cX7_goesBy 47 = .ok (.iaload, 1) := by decide +kernel
theorem dX7_goesBy_48 : decode cX7_goesBy 48 = .ok (.aload_n 0, 1) := by decide +kernel
theorem dX7_goesBy_49 : decode cX7_goesBy 49 = .ok (.getfield 56, 3) := by decide +kernel
theorem dX7_goesBy_52 : decode cX7_goesBy 52 = .ok (.iload_n 2, 1) := by decide +kernel
theorem dX7_goesBy_53 : decode cX7_goesBy 53 = .ok (.iaload, 1) := by decide +kernel
theorem dX7_goesBy_54 : decode cX7_goesBy 54 = .ok (.iconst 1, 1) := by decide +kernel
theorem dX7_goesBy_55 : decode cX7_goesBy 55 = .ok (.if_icmp .ne 7, 3) := by decide +kernel
theorem dX7_goesBy_58 : decode cX7_goesBy 58 = .ok (.iconst 1, 1) := by decide +kernel
theorem dX7_goesBy_59 : decode cX7_goesBy 59 = .ok (.goto 4, 3) := by decide +kernel
theorem dX7_goesBy_62 : decode cX7_goesBy 62 = .ok (.iconst 0, 1) := by decide +kernel
theorem dX7_goesBy_63 : decode cX7_goesBy 63 = .ok (.iadd, 1) := by decide +kernel
theorem dX7_goesBy_64 : decode cX7_goesBy 64 = .ok (.iastore, 1) := by decide +kernel
theorem dX7_goesBy_65 : decode cX7_goesBy 65 = .ok (.aload_n 0, 1) := by decide +kernel
theorem dX7_goesBy_66 : decode cX7_goesBy 66 = .ok (.getfield 71, 3) := by decide +kernel
theorem dX7_goesBy_69 : decode cX7_goesBy 69 = .ok (.iload_n 2, 1) := by decide +kernel
theorem dX7_goesBy_70 : decode cX7_goesBy 70 = .ok (.iconst 0, 1) := by decide +kernel
theorem dX7_goesBy_71 : decode cX7_goesBy 71 = .ok (.bastore, 1) := by decide +kernel
theorem dX7_goesBy_72 : decode cX7_goesBy 72 = .ok (.iinc 2 1, 3) := by decide +kernel
theorem dX7_goesBy_75 : decode cX7_goesBy 75 = .ok (.goto (-42), 3) := by decide +kernel
theorem dX7_goesBy_78 : decode cX7_goesBy 78 = .ok (.aload_n 0, 1) := by decide +kernel
theorem dX7_goesBy_79 : decode cX7_goesBy 79 = .ok (.iconst 1, 1) := by decide +kernel
theorem dX7_goesBy_80 : decode cX7_goesBy 80 = .ok (.invokevirtual 170, 3) := by decide +kernel
theorem dX7_goesBy_83 : decode cX7_goesBy 83 = .ok (.istore_n 2, 1) := by decide +kernel
theorem dX7_goesBy_84 : decode cX7_goesBy 84 = .ok (.iload_n 2, 1) := by decide +kernel
theorem dX7_goesBy_85 : decode cX7_goesBy 85 = .ok (.iconst (-1), 1) := by decide +kernel
theorem dX7_goesBy_86 : decode cX7_goesBy 86 = .ok (.if_icmp .eq 24, 3) := by decide +kernel
theorem dX7_goesBy_89 : decode cX7_goesBy 89 = .ok (.aload_n 0, 1) := by decide +kernel
theorem dX7_goesBy_90 : decode cX7_goesBy 90 = .ok (.getfield 71, 3) := by decide +kernel
theorem dX7_goesBy_93 : decode cX7_goesBy 93 = .ok (.iload_n 2, 1) := by decide +kernel
theorem dX7_goesBy_94 : decode cX7_goesBy 94 = .ok (.iconst 1, 1) := by decide +kernel
theorem dX7_goesBy_95 : decode cX7_goesBy 95 = .ok (.bastore, 1) := by decide +kernel
theorem dX7_goesBy_96 : decode cX7_goesBy 96 = .ok (.aload_n 0, 1) := by decide +kernel
theorem dX7_goesBy_97 : decode cX7_goesBy 97 = .ok (.iload_n 2, 1) := by decide +kernel
theorem dX7_goesBy_98 : decode cX7_goesBy 98 = .ok (.invokevirtual 173, 3) := by decide +kernel
theorem dX7_goesBy_101 : decode cX7_goesBy 101 = .ok (.aload_n 0, 1) := by decide +kernel
theorem dX7_goesBy_102 : decode cX7_goesBy 102 = .ok (.iconst 1, 1) := by decide +kernel
theorem dX7_goesBy_103 : decode cX7_goesBy 103 = .ok (.invokevirtual 170, 3) := by decide +kernel
theorem dX7_goesBy_106 : decode cX7_goesBy 106 = .ok (.istore_n 2, 1) := by decide +kernel
theorem dX7_goesBy_107 : decode cX7_goesBy 107 = .ok (.goto (-23), 3) := by decide +kernel
theorem dX7_goesBy_110 : decode cX7_goesBy 110 = .ok (.aload_n 0, 1) := by decide +kernel
theorem dX7_goesBy_111 : decode cX7_goesBy 111 = .ok (.iconst 0, 1) := by decide +kernel
theorem dX7_goesBy_112 : decode cX7_goesBy 112 = .ok (.invokevirtual 170, 3) := by decide +kernel
theorem dX7_goesBy_115 : decode cX7_goesBy 115 = .ok (.istore_n 2, 1) := by decide +kernel
theorem dX7_goesBy_116 : decode cX7_goesBy 116 = .ok (.iload_n 2, 1) := by decide +kernel
theorem dX7_goesBy_117 : decode cX7_goesBy 117 = .ok (.iconst (-1), 1) := by decide +kernel
theorem dX7_goesBy_118 : decode cX7_goesBy 118 = .ok (.if_icmp .eq 54, 3) := by decide +kernel
theorem dX7_goesBy_121 : decode cX7_goesBy 121 = .ok (.aload_n 0, 1) := by decide +kernel
theorem dX7_goesBy_122 : decode cX7_goesBy 122 = .ok (.getfield 71, 3) := by decide +kernel
theorem dX7_goesBy_125 : decode cX7_goesBy 125 = .ok (.iload_n 2, 1) := by decide +kernel
theorem dX7_goesBy_126 : decode cX7_goesBy 126 = .ok (.iconst 1, 1) := by decide +kernel
theorem dX7_goesBy_127 : decode cX7_goesBy 127 = .ok (.bastore, 1) := by decide +kernel
theorem dX7_goesBy_128 : decode cX7_goesBy 128 = .ok (.aload_n 0, 1) := by decide +kernel
theorem dX7_goesBy_129 : decode cX7_goesBy 129 = .ok (.getfield 53, 3) := by decide +kernel
theorem dX7_goesBy_132 : decode cX7_goesBy 132 = .ok (.iload_n 2, 1) := by decide +kernel
theorem dX7_goesBy_133 : decode cX7_goesBy 133 = .ok (.iaload, 1) := by decide +kernel
theorem dX7_goesBy_134 : decode cX7_goesBy 134 = .ok (.ifCond .ne 7, 3) := by decide +kernel
theorem dX7_goesBy_137 : decode cX7_goesBy 137 = .ok (.iconst 0, 1) := by decide +kernel
theorem dX7_goesBy_138 : decode cX7_goesBy 138 = .ok (.goto 9, 3) := by decide +kernel
theorem dX7_goesBy_141 : decode cX7_goesBy 141 = .ok (.aload_n 0, 1) := by decide +kernel
theorem dX7_goesBy_142 : decode cX7_goesBy 142 = .ok (.getfield 13, 3) := by decide +kernel
theorem dX7_goesBy_145 : decode cX7_goesBy 145 = .ok (.iconst 1, 1) := by decide +kernel
theorem dX7_goesBy_146 : decode cX7_goesBy 146 = .ok (.isub, 1) := by decide +kernel
theorem dX7_goesBy_147 : decode cX7_goesBy 147 = .ok (.istore_n 3, 1) := by decide +kernel
theorem dX7_goesBy_148 : decode cX7_goesBy 148 = .ok (.aload_n 0, 1) := by decide +kernel
theorem dX7_goesBy_149 : decode cX7_goesBy 149 = .ok (.iload_n 2, 1) := by decide +kernel
theorem dX7_goesBy_150 : decode cX7_goesBy 150 = .ok (.iload_n 3, 1) := by decide +kernel
theorem dX7_goesBy_151 : decode cX7_goesBy 151 = .ok (.invokevirtual 161, 3) := by decide +kernel
theorem dX7_goesBy_154 : decode cX7_goesBy 154 = .ok (.ifCond .eq 9, 3) := by decide +kernel
theorem dX7_goesBy_157 : decode cX7_goesBy 157 = .ok (.aload_n 0, 1) := by decide +kernel
theorem dX7_goesBy_158 : decode cX7_goesBy 158 = .ok (.iload_n 2, 1) := by decide +kernel
theorem dX7_goesBy_159 : decode cX7_goesBy 159 = .ok (.iload_n 3, 1) := by decide +kernel
theorem dX7_goesBy_160 : decode cX7_goesBy 160 = .ok (.invokevirtual 164, 3) := by decide +kernel
theorem dX7_goesBy_163 : decode cX7_goesBy 163 = .ok (.aload_n 0, 1) := by decide +kernel
theorem dX7_goesBy_164 : decode cX7_goesBy 164 = .ok (.iconst 0, 1) := by decide +kernel
theorem dX7_goesBy_165 : decode cX7_goesBy 165 = .ok (.invokevirtual 170, 3) := by decide +kernel
theorem dX7_goesBy_168 : decode cX7_goesBy 168 = .ok (.istore_n 2, 1) := by decide +kernel
theorem dX7_goesBy_169 : decode cX7_goesBy 169 = .ok (.goto (-53), 3) := by decide +kernel
theorem dX7_goesBy_172 : decode cX7_goesBy 172 = .ok (.aload_n 0, 1) := by decide +kernel
theorem dX7_goesBy_173 : decode cX7_goesBy 173 = .ok (.dup, 1) := by decide +kernel
theorem dX7_goesBy_174 : decode cX7_goesBy 174 = .ok (.getfield 132, 3) := by decide +kernel
theorem dX7_goesBy_177 : decode cX7_goesBy 177 = .ok (.iconst 1, 1) := by decide +kernel
theorem dX7_goesBy_178 : decode cX7_goesBy 178 = .ok (.iadd, 1) := by decide +kernel
theorem dX7_goesBy_179 : decode cX7_goesBy 179 = .ok (.putfield 132, 3) := by decide +kernel
theorem dX7_goesBy_182 : decode cX7_goesBy 182 = .ok (.return_, 1) := by decide +kernel
theorem dX7_run_0 : decode cX7_run 0 = .ok (.iload_n 1, 1) := by decide +kernel
theorem dX7_run_1 : decode cX7_run 1 = .ok (.ifCond .ge 10, 3) := by decide +kernel
theorem dX7_run_4 : decode cX7_run 4 = .ok (.aload_n 0, 1) := by decide +kernel
theorem dX7_run_5 : decode cX7_run 5 = .ok (.bipush (-4), 2) := by decide +kernel
theorem dX7_run_7 : decode cX7_run 7 = .ok (.invokevirtual 94, 3) := by decide +kernel
theorem dX7_run_10 : decode cX7_run 10 = .ok (.ireturn, 1) := by decide +kernel
theorem dX7_run_11 : decode cX7_run 11 = .ok (.iload_n 1, 1) := by decide +kernel
theorem dX7_run_12 : decode cX7_run 12 = .ok (.iconst 1, 1) := by decide +kernel
theorem dX7_run_13 : decode cX7_run 13 = .ok (.sipush 200, 3) := by decide +kernel
theorem dX7_run_16 : decode cX7_run 16 = .ok (.invokestatic 87, 3) := by decide +kernel
theorem dX7_run_19 : decode cX7_run 19 = .ok (.ifCond .ne 10, 3) := by decide +kernel
theorem dX7_run_22 : decode cX7_run 22 = .ok (.aload_n 0, 1) := by decide +kernel
theorem dX7_run_23 : decode cX7_run 23 = .ok (.bipush (-7), 2) := by decide +kernel
theorem dX7_run_25 : decode cX7_run 25 = .ok (.invokevirtual 94, 3) := by decide +kernel
theorem dX7_run_28 : decode cX7_run 28 = .ok (.ireturn, 1) := by decide +kernel
theorem dX7_run_29 : decode cX7_run 29 = .ok (.aload_n 0, 1) := by decide +kernel
theorem dX7_run_30 : decode cX7_run 30 = .ok (.iconst 2, 1) := by decide +kernel
theorem dX7_run_31 : decode cX7_run 31 = .ok (.invokevirtual 151, 3) := by decide +kernel
theorem dX7_run_34 : decode cX7_run 34 = .ok (.istore_n 2, 1) := by decide +kernel
theorem dX7_run_35 : decode cX7_run 35 = .ok (.iconst 0, 1) := by decide +kernel
theorem dX7_run_36 : decode cX7_run 36 = .ok (.istore_n 3, 1) := by decide +kernel
theorem dX7_run_37 : decode cX7_run 37 = .ok (.iload_n 3, 1) := by decide +kernel
theorem dX7_run_38 : decode cX7_run 38 = .ok (.iload_n 1, 1) := by decide +kernel
theorem dX7_run_39 : decode cX7_run 39 = .ok (.if_icmp .ge 13, 3) := by decide +kernel
theorem dX7_run_42 : decode cX7_run 42 = .ok (.aload_n 0, 1) := by decide +kernel
theorem dX7_run_43 : decode cX7_run 43 = .ok (.invokevirtual 176, 3) := by decide +kernel
theorem dX7_run_46 : decode cX7_run 46 = .ok (.iinc 3 1, 3) := by decide +kernel
theorem dX7_run_49 : decode cX7_run 49 = .ok (.goto (-12), 3) := by decide +kernel
theorem dX7_run_52 : decode cX7_run 52 = .ok (.aload_n 0, 1) := by decide +kernel
theorem dX7_run_53 : decode cX7_run 53 = .ok (.iconst 2, 1) := by decide +kernel
theorem dX7_run_54 : decode cX7_run 54 = .ok (.invokevirtual 151, 3) := by decide +kernel
theorem dX7_run_57 : decode cX7_run 57 = .ok (.iload_n 2, 1) := by decide +kernel
theorem dX7_run_58 : decode cX7_run 58 = .ok (.isub, 1) := by decide +kernel
theorem dX7_run_59 : decode cX7_run 59 = .ok (.ireturn, 1) := by decide +kernel
theorem dX7_allBear_0 : decode cX7_allBear 0 = .ok (.iconst 0, 1) := by decide +kernel
theorem dX7_allBear_1 : decode cX7_allBear 1 = .ok (.istore_n 2, 1) := by decide +kernel
theorem dX7_allBear_2 : decode cX7_allBear 2 = .ok (.iload_n 2, 1) := by decide +kernel
theorem dX7_allBear_3 : decode cX7_allBear 3 = .ok (.aload_n 0, 1) := by decide +kernel
theorem dX7_allBear_4 : decode cX7_allBear 4 = .ok (.getfield 13, 3) := by decide +kernel
theorem dX7_allBear_7 : decode cX7_allBear 7 = .ok (.if_icmp .ge 20, 3) := by decide +kernel
theorem dX7_allBear_10 : decode cX7_allBear 10 = .ok (.aload_n 0, 1) := by decide +kernel
theorem dX7_allBear_11 : decode cX7_allBear 11 = .ok (.iload_n 2, 1) := by decide +kernel
theorem dX7_allBear_12 : decode cX7_allBear 12 = .ok (.iload_n 1, 1) := by decide +kernel
theorem dX7_allBear_13 : decode cX7_allBear 13 = .ok (.invokevirtual 115, 3) := by decide +kernel
theorem dX7_allBear_16 : decode cX7_allBear 16 = .ok (.ifCond .ne 5, 3) := by decide +kernel
theorem dX7_allBear_19 : decode cX7_allBear 19 = .ok (.iconst 0, 1) := by decide +kernel
theorem dX7_allBear_20 : decode cX7_allBear 20 = .ok (.ireturn, 1) := by decide +kernel
theorem dX7_allBear_21 : decode cX7_allBear 21 = .ok (.iinc 2 1, 3) := by decide +kernel
theorem dX7_allBear_24 : decode cX7_allBear 24 = .ok (.goto (-22), 3) := by decide +kernel
theorem dX7_allBear_27 : decode cX7_allBear 27 = .ok (.iconst 1, 1) := by decide +kernel
theorem dX7_allBear_28 : decode cX7_allBear 28 = .ok (.ireturn, 1) := by decide +kernel
theorem dX7_thaw_0 : decode cX7_thaw 0 = .ok (.iload_n 1, 1) := by decide +kernel
theorem dX7_thaw_1 : decode cX7_thaw 1 = .ok (.iconst 1, 1) := by decide +kernel
theorem dX7_thaw_2 : decode cX7_thaw 2 = .ok (.bipush 99, 2) := by decide +kernel
theorem dX7_thaw_4 : decode cX7_thaw 4 = .ok (.invokestatic 87, 3) := by decide +kernel
theorem dX7_thaw_7 : decode cX7_thaw 7 = .ok (.ifCond .eq 16, 3) := by decide +kernel
theorem dX7_thaw_10 : decode cX7_thaw 10 = .ok (.iload_n 2, 1) := by decide +kernel
theorem dX7_thaw_11 : decode cX7_thaw 11 = .ok (.sipush (-600), 3) := by decide +kernel
theorem dX7_thaw_14 : decode cX7_thaw 14 = .ok (.sipush 300, 3) := by decide +kernel
theorem dX7_thaw_17 : decode cX7_thaw 17 = .ok (.invokestatic 87, 3) := by decide +kernel
theorem dX7_thaw_20 : decode cX7_thaw 20 = .ok (.ifCond .ne 10, 3) := by decide +kernel
theorem dX7_thaw_23 : decode cX7_thaw 23 = .ok (.aload_n 0, 1) := by decide +kernel
theorem dX7_thaw_24 : decode cX7_thaw 24 = .ok (.bipush (-7), 2) := by decide +kernel
theorem dX7_thaw_26 : decode cX7_thaw 26 = .ok (.invokevirtual 94, 3) := by decide +kernel
theorem dX7_thaw_29 : decode cX7_thaw 29 = .ok (.ireturn, 1) := by decide +kernel
theorem dX7_thaw_30 : decode cX7_thaw 30 = .ok (.iconst 0, 1) := by decide +kernel
theorem dX7_thaw_31 : decode cX7_thaw 31 = .ok (.istore_n 3, 1) := by decide +kernel
theorem dX7_thaw_32 : decode cX7_thaw 32 = .ok (.iload_n 3, 1) := by decide +kernel
theorem dX7_thaw_33 : decode cX7_thaw 33 = .ok (.bipush 10, 2) := by decide +kernel
theorem dX7_thaw_35 : decode cX7_thaw 35 = .ok (.if_icmp .ge 87, 3) := by decide +kernel
theorem dX7_thaw_38 : decode cX7_thaw 38 = .ok (.aload_n 0, 1) := by decide +kernel
theorem dX7_thaw_39 : decode cX7_thaw 39 = .ok (.getfield 75, 3) := by decide +kernel
theorem dX7_thaw_42 : decode cX7_thaw 42 = .ok (.iconst 5, 1) := by decide +kernel
theorem dX7_thaw_43 : decode cX7_thaw 43 = .ok (.iload_n 3, 1) := by decide +kernel
theorem dX7_thaw_44 : decode cX7_thaw 44 = .ok (.imul, 1) := by decide +kernel
theorem dX7_thaw_45 : decode cX7_thaw 45 = .ok (.aload_n 0, 1) := by decide +kernel
theorem dX7_thaw_46 : decode cX7_thaw 46 = .ok (.getfield 17, 3) := by decide +kernel
theorem dX7_thaw_49 : decode cX7_thaw 49 = .ok (.iload_n 3, 1) := by decide +kernel
theorem dX7_thaw_50 : decode cX7_thaw 50 = .ok (.iaload, 1) := by decide +kernel
theorem dX7_thaw_51 : decode cX7_thaw 51 = .ok (.iastore, 1) := by decide +kernel
theorem dX7_thaw_52 : decode cX7_thaw 52 = .ok (.aload_n 0, 1) := by decide +kernel
theorem dX7_thaw_53 : decode cX7_thaw 53 = .ok (.getfield 75, 3) := by decide +kernel
theorem dX7_thaw_56 : decode cX7_thaw 56 = .ok (.iconst 5, 1) := by decide +kernel
theorem dX7_thaw_57 : decode cX7_thaw 57 = .ok (.iload_n 3, 1) := by decide +kernel
theorem dX7_thaw_58 : decode cX7_thaw 58 = .ok (.imul, 1) := by decide +kernel
theorem dX7_thaw_59 : decode cX7_thaw 59 = .ok (.iconst 1, 1) := by decide +kernel
theorem dX7_thaw_60 : decode cX7_thaw 60 = .ok (.iadd, 1) := by decide +kernel
theorem dX7_thaw_61 : decode cX7_thaw 61 = .ok (.aload_n 0, 1) := by decide +kernel
theorem dX7_thaw_62 : decode cX7_thaw 62 = .ok (.getfield 20, 3) := by decide +kernel
theorem dX7_thaw_65 : decode cX7_thaw 65 = .ok (.iload_n 3, 1) := by decide +kernel
theorem dX7_thaw_66 : decode cX7_thaw 66 = .ok (.iaload, 1) := by decide +kernel
theorem dX7_thaw_67 : decode cX7_thaw 67 = .ok (.iastore, 1) := by decide +kernel
theorem dX7_thaw_68 : decode cX7_thaw 68 = .ok (.aload_n 0, 1) := by decide +kernel
theorem dX7_thaw_69 : decode cX7_thaw 69 = .ok (.getfield 75, 3) := by decide +kernel
theorem dX7_thaw_72 : decode cX7_thaw 72 = .ok (.iconst 5, 1) := by decide +kernel
theorem dX7_thaw_73 : decode cX7_thaw 73 = .ok (.iload_n 3, 1) := by decide +kernel
theorem dX7_thaw_74 : decode cX7_thaw 74 = .ok (.imul, 1) := by decide +kernel
theorem dX7_thaw_75 : decode cX7_thaw 75 = .ok (.iconst 2, 1) := by decide +kernel
theorem dX7_thaw_76 : decode cX7_thaw 76 = .ok (.iadd, 1) := by decide +kernel
theorem dX7_thaw_77 : decode cX7_thaw 77 = .ok (.aload_n 0, 1) := by decide +kernel
theorem dX7_thaw_78 : decode cX7_thaw 78 = .ok (.getfield 32, 3) := by decide +kernel
theorem dX7_thaw_81 : decode cX7_thaw 81 = .ok (.iload_n 3, 1) := by decide +kernel
theorem dX7_thaw_82 : decode cX7_thaw 82 = .ok (.iaload, 1) := by decide +kernel
theorem dX7_thaw_83 : decode cX7_thaw 83 = .ok (.iastore, 1) := by decide +kernel
theorem dX7_thaw_84 : decode cX7_thaw 84 = .ok (.aload_n 0, 1) := by decide +kernel
theorem dX7_thaw_85 : decode cX7_thaw 85 = .ok (.getfield 75, 3) := by decide +kernel
theorem dX7_thaw_88 : decode cX7_thaw 88 = .ok (.iconst 5, 1) := by decide +kernel
theorem dX7_thaw_89 : decode cX7_thaw 89 = .ok (.iload_n 3, 1) := by decide +kernel
theorem dX7_thaw_90 : decode cX7_thaw 90 = .ok (.imul, 1) := by decide +kernel
theorem dX7_thaw_91 : decode cX7_thaw 91 = .ok (.iconst 3, 1) := by decide +kernel
theorem dX7_thaw_92 : decode cX7_thaw 92 = .ok (.iadd, 1) := by decide +kernel
theorem dX7_thaw_93 : decode cX7_thaw 93 = .ok (.aload_n 0, 1) := by decide +kernel
theorem dX7_thaw_94 : decode cX7_thaw 94 = .ok (.getfield 35, 3) := by decide +kernel
theorem dX7_thaw_97 : decode cX7_thaw 97 = .ok (.iload_n 3, 1) := by decide +kernel
theorem dX7_thaw_98 : decode cX7_thaw 98 = .ok (.iaload, 1) := by decide +kernel
theorem dX7_thaw_99 : decode cX7_thaw 99 = .ok (.iastore, 1) := by decide +kernel
theorem dX7_thaw_100 : decode cX7_thaw 100 = .ok (.aload_n 0, 1) := by decide +kernel
theorem dX7_thaw_101 : decode cX7_thaw 101 = .ok (.getfield 75, 3) := by decide +kernel
theorem dX7_thaw_104 : decode cX7_thaw 104 = .ok (.iconst 5, 1) := by decide +kernel
theorem dX7_thaw_105 : decode cX7_thaw 105 = .ok (.iload_n 3, 1) := by decide +kernel
theorem dX7_thaw_106 : decode cX7_thaw 106 = .ok (.imul, 1) := by decide +kernel
theorem dX7_thaw_107 : decode cX7_thaw 107 = .ok (.iconst 4, 1) := by decide +kernel
theorem dX7_thaw_108 : decode cX7_thaw 108 = .ok (.iadd, 1) := by decide +kernel
theorem dX7_thaw_109 : decode cX7_thaw 109 = .ok (.aload_n 0, 1) := by decide +kernel
theorem dX7_thaw_110 : decode cX7_thaw 110 = .ok (.getfield 38, 3) := by decide +kernel
theorem dX7_thaw_113 : decode cX7_thaw 113 = .ok (.iload_n 3, 1) := by decide +kernel
theorem dX7_thaw_114 : decode cX7_thaw 114 = .ok (.iaload, 1) := by decide +kernel
theorem dX7_thaw_115 : decode cX7_thaw 115 = .ok (.iastore, 1) := by decide +kernel
theorem dX7_thaw_116 : decode cX7_thaw 116 = .ok (.iinc 3 1, 3) := by decide +kernel
theorem dX7_thaw_119 : decode cX7_thaw 119 = .ok (.goto (-87), 3) := by decide +kernel
theorem dX7_thaw_122 : decode cX7_thaw 122 = .ok (.iconst 0, 1) := by decide +kernel
theorem dX7_thaw_123 : decode cX7_thaw 123 = .ok (.istore_n 3, 1) := by decide +kernel
theorem dX7_thaw_124 : decode cX7_thaw 124 = .ok (.aload_n 0, 1) := by decide +kernel
theorem dX7_thaw_125 : decode cX7_thaw 125 = .ok (.iload_n 1, 1) := by decide +kernel
theorem dX7_thaw_126 : decode cX7_thaw 126 = .ok (.invokevirtual 179, 3) := by decide +kernel
theorem dX7_thaw_129 : decode cX7_thaw 129 = .ok (.istore 4, 2) := by decide +kernel
theorem dX7_thaw_131 : decode cX7_thaw 131 = .ok (.iload 4, 2) := by decide +kernel
theorem dX7_thaw_133 : decode cX7_thaw 133 = .ok (.ifCond .eq 58, 3) := by decide +kernel
theorem dX7_thaw_136 : decode cX7_thaw 136 = .ok (.iload_n 3, 1) := by decide +kernel
theorem dX7_thaw_137 : decode cX7_thaw 137 = .ok (.sipush 500, 3) := by decide +kernel
theorem dX7_thaw_140 : decode cX7_thaw 140 = .ok (.if_icmp .ge 51, 3) := by decide +kernel
theorem dX7_thaw_143 : decode cX7_thaw 143 = .ok (.iconst 0, 1) := by decide +kernel
theorem dX7_thaw_144 : decode cX7_thaw 144 = .ok (.istore 5, 2) := by decide +kernel
theorem dX7_thaw_146 : decode cX7_thaw 146 = .ok (.iload 5, 2) := by decide +kernel
theorem dX7_thaw_148 : decode cX7_thaw 148 = .ok (.aload_n 0, 1) := by decide +kernel
theorem dX7_thaw_149 : decode cX7_thaw 149 = .ok (.getfield 13, 3) := by decide +kernel
theorem dX7_thaw_152 : decode cX7_thaw 152 = .ok (.if_icmp .ge 16, 3) := by decide +kernel
theorem dX7_thaw_155 : decode cX7_thaw 155 = .ok (.aload_n 0, 1) := by decide +kernel
theorem dX7_thaw_156 : decode cX7_thaw 156 = .ok (.iload 5, 2) := by decide +kernel
theorem dX7_thaw_158 : decode cX7_thaw 158 = .ok (.iload_n 2, 1) := by decide +kernel
theorem dX7_thaw_159 : decode cX7_thaw 159 = .ok (.invokevirtual 167, 3) := by decide +kernel
theorem dX7_thaw_162 : decode cX7_thaw 162 = .ok (.iinc 5 1, 3) := by decide +kernel
theorem dX7_thaw_165 : decode cX7_thaw 165 = .ok (.goto (-19), 3) := by decide +kernel
theorem dX7_thaw_168 : decode cX7_thaw 168 = .ok (.aload_n 0, 1) := by decide +kernel
theorem dX7_thaw_169 : decode cX7_thaw 169 = .ok (.iload_n 1, 1) := by decide +kernel
theorem dX7_thaw_170 : decode cX7_thaw 170 = .ok (.invokevirtual 179, 3) := by decide +kernel
theorem dX7_thaw_173 : decode cX7_thaw 173 = .ok (.istore 4, 2) := by decide +kernel
theorem dX7_thaw_175 : decode cX7_thaw 175 = .ok (.iload_n 3, 1) := by decide +kernel
theorem dX7_thaw_176 : decode cX7_thaw 176 = .ok (.iload 4, 2) := by decide +kernel
theorem dX7_thaw_178 : decode cX7_thaw 178 = .ok (.ifCond .eq 7, 3) := by decide +kernel
theorem dX7_thaw_181 : decode cX7_thaw 181 = .ok (.iconst 1, 1) := by decide +kernel
theorem dX7_thaw_182 : decode cX7_thaw 182 = .ok (.goto 4, 3) := by decide +kernel
theorem dX7_thaw_185 : decode cX7_thaw 185 = .ok (.iconst 0, 1) := by decide +kernel
theorem dX7_thaw_186 : decode cX7_thaw 186 = .ok (.iadd, 1) := by decide +kernel
theorem dX7_thaw_187 : decode cX7_thaw 187 = .ok (.istore_n 3, 1) := by decide +kernel
theorem dX7_thaw_188 : decode cX7_thaw 188 = .ok (.goto (-57), 3) := by decide +kernel
theorem dX7_thaw_191 : decode cX7_thaw 191 = .ok (.iconst 0, 1) := by decide +kernel
theorem dX7_thaw_192 : decode cX7_thaw 192 = .ok (.istore 5, 2) := by decide +kernel
theorem dX7_thaw_194 : decode cX7_thaw 194 = .ok (.iload 5, 2) := by decide +kernel
theorem dX7_thaw_196 : decode cX7_thaw 196 = .ok (.bipush 10, 2) := by decide +kernel
theorem dX7_thaw_198 : decode cX7_thaw 198 = .ok (.if_icmp .ge 97, 3) := by decide +kernel
theorem dX7_thaw_201 : decode cX7_thaw 201 = .ok (.aload_n 0, 1) := by decide +kernel
theorem dX7_thaw_202 : decode cX7_thaw 202 = .ok (.getfield 17, 3) := by decide +kernel
theorem dX7_thaw_205 : decode cX7_thaw 205 = .ok (.iload 5, 2) := by decide +kernel
theorem dX7_thaw_207 : decode cX7_thaw 207 = .ok (.aload_n 0, 1) := by decide +kernel
theorem dX7_thaw_208 : decode cX7_thaw 208 = .ok (.getfield 75, 3) := by decide +kernel
theorem dX7_thaw_211 : decode cX7_thaw 211 = .ok (.iconst 5, 1) := by decide +kernel
theorem dX7_thaw_212 : decode cX7_thaw 212 = .ok (.iload 5, 2) := by decide +kernel
theorem dX7_thaw_214 : decode cX7_thaw 214 = .ok (.imul, 1) := by decide +kernel
theorem dX7_thaw_215 : decode cX7_thaw 215 = .ok (.iaload, 1) := by decide +kernel
theorem dX7_thaw_216 : decode cX7_thaw 216 = .ok (.iastore, 1) := by decide +kernel
theorem dX7_thaw_217 : decode cX7_thaw 217 = .ok (.aload_n 0, 1) := by decide +kernel
theorem dX7_thaw_218 : decode cX7_thaw 218 = .ok (.getfield 20, 3) := by decide +kernel
theorem dX7_thaw_221 : decode cX7_thaw 221 = .ok (.iload 5, 2) := by decide +kernel
theorem dX7_thaw_223 : decode cX7_thaw 223 = .ok (.aload_n 0, 1) := by decide +kernel
theorem dX7_thaw_224 : decode cX7_thaw 224 = .ok (.getfield 75, 3) := by decide +kernel
theorem dX7_thaw_227 : decode cX7_thaw 227 = .ok (.iconst 5, 1) := by decide +kernel
theorem dX7_thaw_228 : decode cX7_thaw 228 = .ok (.iload 5, 2) := by decide +kernel
theorem dX7_thaw_230 : decode cX7_thaw 230 = .ok (.imul, 1) := by decide +kernel
theorem dX7_thaw_231 : decode cX7_thaw 231 = .ok (.iconst 1, 1) := by decide +kernel
theorem dX7_thaw_232 : decode cX7_thaw 232 = .ok (.iadd, 1) := by decide +kernel
theorem dX7_thaw_233 : decode cX7_thaw 233 = .ok (.iaload, 1) := by decide +kernel
theorem dX7_thaw_234 : decode cX7_thaw 234 = .ok (.iastore, 1) := by decide +kernel
theorem dX7_thaw_235 : decode cX7_thaw 235 = .ok (.aload_n 0, 1) := by decide +kernel
theorem dX7_thaw_236 : decode cX7_thaw 236 = .ok (.getfield 32, 3) := by decide +kernel
theorem dX7_thaw_239 : decode cX7_thaw 239 = .ok (.iload 5, 2) := by decide +kernel
theorem dX7_thaw_241 : decode cX7_thaw 241 = .ok (.aload_n 0, 1) := by decide +kernel
theorem dX7_thaw_242 : decode cX7_thaw 242 = .ok (.getfield 75, 3) := by decide +kernel
theorem dX7_thaw_245 : decode cX7_thaw 245 = .ok (.iconst 5, 1) := by decide +kernel
theorem dX7_thaw_246 : decode cX7_thaw 246 = .ok (.iload 5, 2) := by decide +kernel
theorem dX7_thaw_248 : decode cX7_thaw 248 = .ok (.imul, 1) := by decide +kernel
theorem dX7_thaw_249 : decode cX7_thaw 249 = .ok (.iconst 2, 1) := by decide +kernel
theorem dX7_thaw_250 : decode cX7_thaw 250 = .ok (.iadd, 1) := by decide +kernel
theorem dX7_thaw_251 : decode cX7_thaw 251 = .ok (.iaload, 1) := by decide +kernel
theorem dX7_thaw_252 : decode cX7_thaw 252 = .ok (.iastore, 1) := by decide +kernel
theorem dX7_thaw_253 : decode cX7_thaw 253 = .ok (.aload_n 0, 1) := by decide +kernel
theorem dX7_thaw_254 : decode cX7_thaw 254 = .ok (.getfield 35, 3) := by decide +kernel
theorem dX7_thaw_257 : decode cX7_thaw 257 = .ok (.iload 5, 2) := by decide +kernel
theorem dX7_thaw_259 : decode cX7_thaw 259 = .ok (.aload_n 0, 1) := by decide +kernel
theorem dX7_thaw_260 : decode cX7_thaw 260 = .ok (.getfield 75, 3) := by decide +kernel
theorem dX7_thaw_263 : decode cX7_thaw 263 = .ok (.iconst 5, 1) := by decide +kernel
theorem dX7_thaw_264 : decode cX7_thaw 264 = .ok (.iload 5, 2) := by decide +kernel
theorem dX7_thaw_266 : decode cX7_thaw 266 = .ok (.imul, 1) := by decide +kernel
theorem dX7_thaw_267 : decode cX7_thaw 267 = .ok (.iconst 3, 1) := by decide +kernel
theorem dX7_thaw_268 : decode cX7_thaw 268 = .ok (.iadd, 1) := by decide +kernel
theorem dX7_thaw_269 : decode cX7_thaw 269 = .ok (.iaload, 1) := by decide +kernel
theorem dX7_thaw_270 : decode cX7_thaw 270 = .ok (.iastore, 1) := by decide +kernel
theorem dX7_thaw_271 : decode cX7_thaw 271 = .ok (.aload_n 0, 1) := by decide +kernel
theorem dX7_thaw_272 : decode cX7_thaw 272 = .ok (.getfield 38, 3) := by decide +kernel
theorem dX7_thaw_275 : decode cX7_thaw 275 = .ok (.iload 5, 2) := by decide +kernel
theorem dX7_thaw_277 : decode cX7_thaw 277 = .ok (.aload_n 0, 1) := by decide +kernel
theorem dX7_thaw_278 : decode cX7_thaw 278 = .ok (.getfield 75, 3) := by decide +kernel
theorem dX7_thaw_281 : decode cX7_thaw 281 = .ok (.iconst 5, 1) := by decide +kernel
theorem dX7_thaw_282 : decode cX7_thaw 282 = .ok (.iload 5, 2) := by decide +kernel
theorem dX7_thaw_284 : decode cX7_thaw 284 = .ok (.imul, 1) := by decide +kernel
theorem dX7_thaw_285 : decode cX7_thaw 285 = .ok (.iconst 4, 1) := by decide +kernel
theorem dX7_thaw_286 : decode cX7_thaw 286 = .ok (.iadd, 1) := by decide +kernel
theorem dX7_thaw_287 : decode cX7_thaw 287 = .ok (.iaload, 1) := by decide +kernel
theorem dX7_thaw_288 : decode cX7_thaw 288 = .ok (.iastore, 1) := by decide +kernel
theorem dX7_thaw_289 : decode cX7_thaw 289 = .ok (.iinc 5 1, 3) := by decide +kernel
theorem dX7_thaw_292 : decode cX7_thaw 292 = .ok (.goto (-98), 3) := by decide +kernel
theorem dX7_thaw_295 : decode cX7_thaw 295 = .ok (.iload_n 3, 1) := by decide +kernel
theorem dX7_thaw_296 : decode cX7_thaw 296 = .ok (.ireturn, 1) := by decide +kernel
theorem dX7_feed_0 : decode cX7_feed 0 = .ok (.iload_n 2, 1) := by decide +kernel
theorem dX7_feed_1 : decode cX7_feed 1 = .ok (.ifCond .ge 10, 3) := by decide +kernel
theorem dX7_feed_4 : decode cX7_feed 4 = .ok (.aload_n 0, 1) := by decide +kernel
theorem dX7_feed_5 : decode cX7_feed 5 = .ok (.bipush (-4), 2) := by decide +kernel
theorem dX7_feed_7 : decode cX7_feed 7 = .ok (.invokevirtual 94, 3) := by decide +kernel
theorem dX7_feed_10 : decode cX7_feed 10 = .ok (.ireturn, 1) := by decide +kernel
theorem dX7_feed_11 : decode cX7_feed 11 = .ok (.iload_n 2, 1) := by decide +kernel
theorem dX7_feed_12 : decode cX7_feed 12 = .ok (.iconst 4, 1) := by decide +kernel
theorem dX7_feed_13 : decode cX7_feed 13 = .ok (.if_icmp .le 10, 3) := by decide +kernel
theorem dX7_feed_16 : decode cX7_feed 16 = .ok (.aload_n 0, 1) := by decide +kernel
theorem dX7_feed_17 : decode cX7_feed 17 = .ok (.bipush (-7), 2) := by decide +kernel
theorem dX7_feed_19 : decode cX7_feed 19 = .ok (.invokevirtual 94, 3) := by decide +kernel
theorem dX7_feed_22 : decode cX7_feed 22 = .ok (.ireturn, 1) := by decide +kernel
theorem dX7_feed_23 : decode cX7_feed 23 = .ok (.aload_n 0, 1) := by decide +kernel
theorem dX7_feed_24 : decode cX7_feed 24 = .ok (.getfield 182, 3) := by decide +kernel
theorem dX7_feed_27 : decode cX7_feed 27 = .ok (.iload_n 2, 1) := by decide +kernel
theorem dX7_feed_28 : decode cX7_feed 28 = .ok (.iadd, 1) := by decide +kernel
theorem dX7_feed_29 : decode cX7_feed 29 = .ok (.bipush 80, 2) := by decide +kernel
theorem dX7_feed_31 : decode cX7_feed 31 = .ok (.if_icmp .le 10, 3) := by decide +kernel
theorem dX7_feed_34 : decode cX7_feed 34 = .ok (.aload_n 0, 1) := by decide +kernel
theorem dX7_feed_35 : decode cX7_feed 35 = .ok (.bipush (-8), 2) := by decide +kernel
theorem dX7_feed_37 : decode cX7_feed 37 = .ok (.invokevirtual 94, 3) := by decide +kernel
theorem dX7_feed_40 : decode cX7_feed 40 = .ok (.ireturn, 1) := by decide +kernel
theorem dX7_feed_41 : decode cX7_feed 41 = .ok (.iload_n 2, 1) := by decide +kernel
theorem dX7_feed_42 : decode cX7_feed 42 = .ok (.iconst 1, 1) := by decide +kernel
theorem dX7_feed_43 : decode cX7_feed 43 = .ok (.isub, 1) := by decide +kernel
theorem dX7_feed_44 : decode cX7_feed 44 = .ok (.istore_n 3, 1) := by decide +kernel
theorem dX7_feed_45 : decode cX7_feed 45 = .ok (.iload_n 3, 1) := by decide +kernel
theorem dX7_feed_46 : decode cX7_feed 46 = .ok (.ifCond .lt 38, 3) := by decide +kernel
theorem dX7_feed_49 : decode cX7_feed 49 = .ok (.aload_n 0, 1) := by decide +kernel
theorem dX7_feed_50 : decode cX7_feed 50 = .ok (.getfield 78, 3) := by decide +kernel
theorem dX7_feed_53 : decode cX7_feed 53 = .ok (.aload_n 0, 1) := by decide +kernel
theorem dX7_feed_54 : decode cX7_feed 54 = .ok (.getfield 182, 3) := by decide +kernel
theorem dX7_feed_57 : decode cX7_feed 57 = .ok (.iload_n 1, 1) := by decide +kernel
theorem dX7_feed_58 : decode cX7_feed 58 = .ok (.bipush 8, 2) := by decide +kernel
theorem dX7_feed_60 : decode cX7_feed 60 = .ok (.iload_n 3, 1) := by decide +kernel
theorem dX7_feed_61 : decode cX7_feed 61 = .ok (.imul, 1) := by decide +kernel
theorem dX7_feed_62 : decode cX7_feed 62 = .ok (.ishr, 1) := by decide +kernel
theorem dX7_feed_63 : decode cX7_feed 63 = .ok (.sipush 255, 3) := by decide +kernel
theorem dX7_feed_66 : decode cX7_feed 66 = .ok (.iand, 1) := by decide +kernel
theorem dX7_feed_67 : decode cX7_feed 67 = .ok (.iastore, 1) := by decide +kernel
theorem dX7_feed_68 : decode cX7_feed 68 = .ok (.aload_n 0, 1) := by decide +kernel
theorem dX7_feed_69 : decode cX7_feed 69 = .ok (.dup, 1) := by decide +kernel
theorem dX7_feed_70 : decode cX7_feed 70 = .ok (.getfield 182, 3) := by decide +kernel
theorem dX7_feed_73 : decode cX7_feed 73 = .ok (.iconst 1, 1) := by decide +kernel
theorem dX7_feed_74 : decode cX7_feed 74 = .ok (.iadd, 1) := by decide +kernel
theorem dX7_feed_75 : decode cX7_feed 75 = .ok (.putfield 182, 3) := by decide +kernel
theorem dX7_feed_78 : decode cX7_feed 78 = .ok (.iinc 3 (-1), 3) := by decide +kernel
theorem dX7_feed_81 : decode cX7_feed 81 = .ok (.goto (-36), 3) := by decide +kernel
theorem dX7_feed_84 : decode cX7_feed 84 = .ok (.aload_n 0, 1) := by decide +kernel
theorem dX7_feed_85 : decode cX7_feed 85 = .ok (.getfield 182, 3) := by decide +kernel
theorem dX7_feed_88 : decode cX7_feed 88 = .ok (.ireturn, 1) := by decide +kernel
theorem dX7_wipe_0 : decode cX7_wipe 0 = .ok (.aload_n 0, 1) := by decide +kernel
theorem dX7_wipe_1 : decode cX7_wipe 1 = .ok (.getfield 182, 3) := by decide +kernel
theorem dX7_wipe_4 : decode cX7_wipe 4 = .ok (.istore_n 1, 1) := by decide +kernel
theorem dX7_wipe_5 : decode cX7_wipe 5 = .ok (.aload_n 0, 1) := by decide +kernel
theorem dX7_wipe_6 : decode cX7_wipe 6 = .ok (.iconst 0, 1) := by decide +kernel
theorem dX7_wipe_7 : decode cX7_wipe 7 = .ok (.putfield 182, 3) := by decide +kernel
theorem dX7_wipe_10 : decode cX7_wipe 10 = .ok (.iload_n 1, 1) := by decide +kernel
theorem dX7_wipe_11 : decode cX7_wipe 11 = .ok (.ireturn, 1) := by decide +kernel
theorem dX7_here_0 : decode cX7_here 0 = .ok (.aload_n 0, 1) := by decide +kernel
theorem dX7_here_1 : decode cX7_here 1 = .ok (.getfield 185, 3) := by decide +kernel
theorem dX7_here_4 : decode cX7_here 4 = .ok (.aload_n 0, 1) := by decide +kernel
theorem dX7_here_5 : decode cX7_here 5 = .ok (.getfield 182, 3) := by decide +kernel
theorem dX7_here_8 : decode cX7_here 8 = .ok (.if_icmp .ge 15, 3) := by decide +kernel
theorem dX7_here_11 : decode cX7_here 11 = .ok (.aload_n 0, 1) := by decide +kernel
theorem dX7_here_12 : decode cX7_here 12 = .ok (.getfield 78, 3) := by decide +kernel
theorem dX7_here_15 : decode cX7_here 15 = .ok (.aload_n 0, 1) := by decide +kernel
theorem dX7_here_16 : decode cX7_here 16 = .ok (.getfield 185, 3) := by decide +kernel
theorem dX7_here_19 : decode cX7_here 19 = .ok (.iaload, 1) := by decide +kernel
theorem dX7_here_20 : decode cX7_here 20 = .ok (.goto 4, 3) := by decide +kernel
theorem dX7_here_23 : decode cX7_here 23 = .ok (.iconst (-1), 1) := by decide +kernel
theorem dX7_here_24 : decode cX7_here 24 = .ok (.ireturn, 1) := by decide +kernel
theorem dX7_eats_0 : decode cX7_eats 0 = .ok (.aload_n 0, 1) := by decide +kernel
theorem dX7_eats_1 : decode cX7_eats 1 = .ok (.getfield 188, 3) := by decide +kernel
theorem dX7_eats_4 : decode cX7_eats 4 = .ok (.ifCond .ne 24, 3) := by decide +kernel
theorem dX7_eats_7 : decode cX7_eats 7 = .ok (.aload_n 0, 1) := by decide +kernel
theorem dX7_eats_8 : decode cX7_eats 8 = .ok (.invokevirtual 192, 3) := by decide +kernel
theorem dX7_eats_11 : decode cX7_eats 11 = .ok (.iload_n 1, 1) := by decide +kernel
theorem dX7_eats_12 : decode cX7_eats 12 = .ok (.if_icmp .ne 16, 3) := by decide +kernel
theorem dX7_eats_15 : decode cX7_eats 15 = .ok (.aload_n 0, 1) := by decide +kernel
theorem dX7_eats_16 : decode cX7_eats 16 = .ok (.dup, 1) := by decide +kernel
theorem dX7_eats_17 : decode cX7_eats 17 = .ok (.getfield 185, 3) := by decide +kernel
theorem dX7_eats_20 : decode cX7_eats 20 = .ok (.iconst 1, 1) := by decide +kernel
theorem dX7_eats_21 : decode cX7_eats 21 = .ok (.iadd, 1) := by decide +kernel
theorem dX7_eats_22 : decode cX7_eats 22 = .ok (.putfield 185, 3) := by decide +kernel
theorem dX7_eats_25 : decode cX7_eats 25 = .ok (.goto 8, 3) := by decide +kernel
theorem dX7_eats_28 : decode cX7_eats 28 = .ok (.aload_n 0, 1) := by decide +kernel
theorem dX7_eats_29 : decode cX7_eats 29 = .ok (.iconst 1, 1) := by decide +kernel
theorem dX7_eats_30 : decode cX7_eats 30 = .ok (.putfield 188, 3) := by decide +kernel
theorem dX7_eats_33 : decode cX7_eats 33 = .ok (.return_, 1) := by decide +kernel
theorem dX7_eats3_0 : decode cX7_eats3 0 = .ok (.aload_n 0, 1) := by decide +kernel
theorem dX7_eats3_1 : decode cX7_eats3 1 = .ok (.iload_n 1, 1) := by decide +kernel
theorem dX7_eats3_2 : decode cX7_eats3 2 = .ok (.invokevirtual 196, 3) := by decide +kernel
theorem dX7_eats3_5 : decode cX7_eats3 5 = .ok (.aload_n 0, 1) := by decide +kernel
theorem dX7_eats3_6 : decode cX7_eats3 6 = .ok (.iload_n 2, 1) := by decide +kernel
theorem dX7_eats3_7 : decode cX7_eats3 7 = .ok (.invokevirtual 196, 3) := by decide +kernel
theorem dX7_eats3_10 : decode cX7_eats3 10 = .ok (.aload_n 0, 1) := by decide +kernel
theorem dX7_eats3_11 : decode cX7_eats3 11 = .ok (.iload_n 3, 1) := by decide +kernel
theorem dX7_eats3_12 : decode cX7_eats3 12 = .ok (.invokevirtual 196, 3) := by decide +kernel
theorem dX7_eats3_15 : decode cX7_eats3 15 = .ok (.return_, 1) := by decide +kernel
theorem dX7_digits_0 : decode cX7_digits 0 = .ok (.aload_n 0, 1) := by decide +kernel
theorem dX7_digits_1 : decode cX7_digits 1 = .ok (.iconst 0, 1) := by decide +kernel
theorem dX7_digits_2 : decode cX7_digits 2 = .ok (.putfield 199, 3) := by decide +kernel
theorem dX7_digits_5 : decode cX7_digits 5 = .ok (.iconst 0, 1) := by decide +kernel
theorem dX7_digits_6 : decode cX7_digits 6 = .ok (.istore_n 1, 1) := by decide +kernel
theorem dX7_digits_7 : decode cX7_digits 7 = .ok (.aload_n 0, 1) := by decide +kernel
theorem dX7_digits_8 : decode cX7_digits 8 = .ok (.getfield 188, 3) := by decide +kernel
theorem dX7_digits_11 : decode cX7_digits 11 = .ok (.ifCond .ne 57, 3) := by decide +kernel
theorem dX7_digits_14 : decode cX7_digits 14 = .ok (.iload_n 1, 1) := by decide +kernel
theorem dX7_digits_15 : decode cX7_digits 15 = .ok (.iconst 4, 1) := by decide +kernel
theorem dX7_digits_16 : decode cX7_digits 16 = .ok (.if_icmp .ge 52, 3) := by decide +kernel
theorem dX7_digits_19 : decode cX7_digits 19 = .ok (.aload_n 0, 1) := by decide +kernel
theorem dX7_digits_20 : decode cX7_digits 20 = .ok (.invokevirtual 192, 3) := by decide +kernel
theorem dX7_digits_23 : decode cX7_digits 23 = .ok (.bipush 48, 2) := by decide +kernel
theorem dX7_digits_25 : decode cX7_digits 25 = .ok (.bipush 57, 2) := by decide +kernel
theorem dX7_digits_27 : decode cX7_digits 27 = .ok (.invokestatic 87, 3) := by decide +kernel
theorem dX7_digits_30 : decode cX7_digits 30 = .ok (.ifCond .eq 38, 3) := by decide +kernel
theorem dX7_digits_33 : decode cX7_digits 33 = .ok (.aload_n 0, 1) := by decide +kernel
theorem dX7_digits_34 : decode cX7_digits 34 = .ok (.bipush 10, 2) := by decide +kernel
theorem dX7_digits_36 : decode cX7_digits 36 = .ok (.aload_n 0, 1) := by decide +kernel
theorem dX7_digits_37 : decode cX7_digits 37 = .ok (.getfield 199, 3) := by decide +kernel
theorem dX7_digits_40 : decode cX7_digits 40 = .ok (.imul, 1) := by decide +kernel
theorem dX7_digits_41 : decode cX7_digits 41 = .ok (.aload_n 0, 1) := by decide +kernel
theorem dX7_digits_42 : decode cX7_digits 42 = .ok (.invokevirtual 192, 3) := by decide +kernel
theorem dX7_digits_45 : decode cX7_digits 45 = .ok (.iadd, 1) := by decide +kernel
theorem dX7_digits_46 : decode cX7_digits 46 = .ok (.bipush 48, 2) := by decide +kernel
theorem dX7_digits_48 : decode cX7_digits 48 = .ok (.isub, 1) := by decide +kernel
theorem dX7_digits_49 : decode cX7_digits 49 = .ok (.putfield 199, 3) := by decide +kernel
theorem dX7_digits_52 : decode cX7_digits 52 = .ok (.aload_n 0, 1) := by decide +kernel
theorem dX7_digits_53 : decode cX7_digits 53 = .ok (.dup, 1) := by decide +kernel
theorem dX7_digits_54 : decode cX7_digits 54 = .ok (.getfield 185, 3) := by decide +kernel
theorem dX7_digits_57 : decode cX7_digits 57 = .ok (.iconst 1, 1) := by decide +kernel
theorem dX7_digits_58 : decode cX7_digits 58 = .ok (.iadd, 1) := by decide +kernel
theorem dX7_digits_59 : decode cX7_digits 59 = .ok (.putfield 185, 3) := by decide +kernel
theorem dX7_digits_62 : decode cX7_digits 62 = .ok (.iinc 1 1, 3) := by decide +kernel
theorem dX7_digits_65 : decode cX7_digits 65 = .ok (.goto (-58), 3) := by decide +kernel
theorem dX7_digits_68 : decode cX7_digits 68 = .ok (.aload_n 0, 1) := by decide +kernel
theorem dX7_digits_69 : decode cX7_digits 69 = .ok (.aload_n 0, 1) := by decide +kernel
theorem dX7_digits_70 : decode cX7_digits 70 = .ok (.getfield 188, 3) := by decide +kernel
theorem dX7_digits_73 : decode cX7_digits 73 = .ok (.ifCond .ne 7, 3) := by decide +kernel
theorem dX7_digits_76 : decode cX7_digits 76 = .ok (.iload_n 1, 1) := by decide +kernel
theorem dX7_digits_77 : decode cX7_digits 77 = .ok (.ifCond .ne 7, 3) := by decide +kernel
theorem dX7_digits_80 : decode cX7_digits 80 = .ok (.iconst 1, 1) := by decide +kernel
theorem dX7_digits_81 : decode cX7_digits 81 = .ok (.goto 4, 3) := by decide +kernel
theorem dX7_digits_84 : decode cX7_digits 84 = .ok (.iconst 0, 1) := by decide +kernel
theorem dX7_digits_85 : decode cX7_digits 85 = .ok (.putfield 188, 3) := by decide +kernel
theorem dX7_digits_88 : decode cX7_digits 88 = .ok (.return_, 1) := by decide +kernel
theorem dX7_key_0 : decode cX7_key 0 = .ok (.aload_n 0, 1) := by decide +kernel
theorem dX7_key_1 : decode cX7_key 1 = .ok (.invokevirtual 192, 3) := by decide +kernel
theorem dX7_key_4 : decode cX7_key 4 = .ok (.istore_n 1, 1) := by decide +kernel
theorem dX7_key_5 : decode cX7_key 5 = .ok (.iload_n 1, 1) := by decide +kernel
theorem dX7_key_6 : decode cX7_key 6 = .ok (.bipush 116, 2) := by decide +kernel
theorem dX7_key_8 : decode cX7_key 8 = .ok (.if_icmp .ne 27, 3) := by decide +kernel
theorem dX7_key_11 : decode cX7_key 11 = .ok (.aload_n 0, 1) := by decide +kernel
theorem dX7_key_12 : decode cX7_key 12 = .ok (.bipush 116, 2) := by decide +kernel
theorem dX7_key_14 : decode cX7_key 14 = .ok (.bipush 104, 2) := by decide +kernel
theorem dX7_key_16 : decode cX7_key 16 = .ok (.bipush 105, 2) := by decide +kernel
theorem dX7_key_18 : decode cX7_key 18 = .ok (.invokevirtual 202, 3) := by decide +kernel
theorem dX7_key_21 : decode cX7_key 21 = .ok (.aload_n 0, 1) := by decide +kernel
theorem dX7_key_22 : decode cX7_key 22 = .ok (.bipush 99, 2) := by decide +kernel
theorem dX7_key_24 : decode cX7_key 24 = .ok (.invokevirtual 196, 3) := by decide +kernel
theorem dX7_key_27 : decode cX7_key 27 = .ok (.aload_n 0, 1) := by decide +kernel
theorem dX7_key_28 : decode cX7_key 28 = .ok (.bipush 107, 2) := by decide +kernel
theorem dX7_key_30 : decode cX7_key 30 = .ok (.invokevirtual 196, 3) := by decide +kernel
theorem dX7_key_33 : decode cX7_key 33 = .ok (.iconst 0, 1) := by decide +kernel
theorem dX7_key_34 : decode cX7_key 34 = .ok (.ireturn, 1) := by decide +kernel
theorem dX7_key_35 : decode cX7_key 35 = .ok (.iload_n 1, 1) := by decide +kernel
theorem dX7_key_36 : decode cX7_key 36 = .ok (.bipush 103, 2) := by decide +kernel
theorem dX7_key_38 : decode cX7_key 38 = .ok (.if_icmp .ne 15, 3) := by decide +kernel
theorem dX7_key_41 : decode cX7_key 41 = .ok (.aload_n 0, 1) := by decide +kernel
theorem dX7_key_42 : decode cX7_key 42 = .ok (.bipush 103, 2) := by decide +kernel
theorem dX7_key_44 : decode cX7_key 44 = .ok (.bipush 97, 2) := by decide +kernel
theorem dX7_key_46 : decode cX7_key 46 = .ok (.bipush 112, 2) := by decide +kernel
theorem dX7_key_48 : decode cX7_key 48 = .ok (.invokevirtual 202, 3) := by decide +kernel
theorem dX7_key_51 : decode cX7_key 51 = .ok (.iconst 1, 1) := by decide +kernel
theorem dX7_key_52 : decode cX7_key 52 = .ok (.ireturn, 1) := by decide +kernel
theorem dX7_key_53 : decode cX7_key 53 = .ok (.aload_n 0, 1) := by decide +kernel
theorem dX7_key_54 : decode cX7_key 54 = .ok (.bipush 115, 2) := by decide +kernel
theorem dX7_key_56 : decode cX7_key 56 = .ok (.bipush 116, 2) := by decide +kernel
theorem dX7_key_58 : decode cX7_key 58 = .ok (.bipush 111, 2) := by decide +kernel
theorem dX7_key_60 : decode cX7_key 60 = .ok (.invokevirtual 202, 3) := by decide +kernel
theorem dX7_key_63 : decode cX7_key 63 = .ok (.aload_n 0, 1) := by decide +kernel
theorem dX7_key_64 : decode cX7_key 64 = .ok (.bipush 112, 2) := by decide +kernel
theorem dX7_key_66 : decode cX7_key 66 = .ok (.invokevirtual 196, 3) := by decide +kernel
theorem dX7_key_69 : decode cX7_key 69 = .ok (.iconst 2, 1) := by decide +kernel
theorem dX7_key_70 : decode cX7_key 70 = .ok (.ireturn, 1) := by decide +kernel
theorem dX7_fieldRead_0 : decode cX7_fieldRead 0 = .ok (.aload_n 0, 1) := by decide +kernel
theorem dX7_fieldRead_1 : decode cX7_fieldRead 1 = .ok (.invokevirtual 192, 3) := by decide +kernel
theorem dX7_fieldRead_4 : decode cX7_fieldRead 4 = .ok (.istore_n 1, 1) := by decide +kernel
theorem dX7_fieldRead_5 : decode cX7_fieldRead 5 = .ok (.iload_n 1, 1) := by decide +kernel
theorem dX7_fieldRead_6 : decode cX7_fieldRead 6 = .ok (.lookupswitch 118 #[(99, 82), (104, 100), (114, 64), (119, 42)], 42) := by decide +kernel
theorem dX7_fieldRead_48 : decode cX7_fieldRead 48 = .ok (.aload_n 0, 1) := by decide +kernel
theorem dX7_fieldRead_49 : decode cX7_fieldRead 49 = .ok (.bipush 119, 2) := by decide +kernel
theorem dX7_fieldRead_51 : decode cX7_fieldRead 51 = .ok (.bipush 101, 2) := by decide +kernel
theorem dX7_fieldRead_53 : decode cX7_fieldRead 53 = .ok (.bipush 105, 2) := by decide +kernel
theorem dX7_fieldRead_55 : decode cX7_fieldRead 55 = .ok (.invokevirtual 202, 3) := by decide +kernel
theorem dX7_fieldRead_58 : decode cX7_fieldRead 58 = .ok (.aload_n 0, 1) := by decide +kernel
theorem dX7_fieldRead_59 : decode cX7_fieldRead 59 = .ok (.bipush 103, 2) := by decide +kernel
theorem dX7_fieldRead_61 : decode cX7_fieldRead 61 = .ok (.bipush 104, 2) := by decide +kernel
theorem dX7_fieldRead_63 : decode cX7_fieldRead 63 = .ok (.bipush 116, 2) := by decide +kernel
theorem dX7_fieldRead_65 : decode cX7_fieldRead 65 = .ok (.invokevirtual 202, 3) := by decide +kernel
theorem dX7_fieldRead_68 : decode cX7_fieldRead 68 = .ok (.iconst 0, 1) := by decide +kernel
theorem dX7_fieldRead_69 : decode cX7_fieldRead 69 = .ok (.ireturn, 1) := by decide +kernel
theorem dX7_fieldRead_70 : decode cX7_fieldRead 70 = .ok (.aload_n 0, 1) := by decide +kernel
theorem dX7_fieldRead_71 : decode cX7_fieldRead 71 = .ok (.bipush 114, 2) := by decide +kernel
theorem dX7_fieldRead_73 : decode cX7_fieldRead 73 = .ok (.bipush 97, 2) := by decide +kernel
theorem dX7_fieldRead_75 : decode cX7_fieldRead 75 = .ok (.bipush 110, 2) := by decide +kernel
theorem dX7_fieldRead_77 : decode cX7_fieldRead 77 = .ok (.invokevirtual 202, 3) := by decide +kernel
theorem dX7_fieldRead_80 : decode cX7_fieldRead 80 = .ok (.aload_n 0, 1) := by decide +kernel
theorem dX7_fieldRead_81 : decode cX7_fieldRead 81 = .ok (.bipush 107, 2) := by decide +kernel
theorem dX7_fieldRead_83 : decode cX7_fieldRead 83 = .ok (.invokevirtual 196, 3) := by decide +kernel
theorem dX7_fieldRead_86 : decode cX7_fieldRead 86 = .ok (.iconst 1, 1) := by decide +kernel
theorem dX7_fieldRead_87 : decode cX7_fieldRead 87 = .ok (.ireturn, 1) := by decide +kernel
theorem dX7_fieldRead_88 : decode cX7_fieldRead 88 = .ok (.aload_n 0, 1) := by decide +kernel
theorem dX7_fieldRead_89 : decode cX7_fieldRead 89 = .ok (.bipush 99, 2) := by decide +kernel
theorem dX7_fieldRead_91 : decode cX7_fieldRead 91 = .ok (.bipush 101, 2) := by decide +kernel
theorem dX7_fieldRead_93 : decode cX7_fieldRead 93 = .ok (.bipush 108, 2) := by decide +kernel
theorem dX7_fieldRead_95 : decode cX7_fieldRead 95 = .ok (.invokevirtual 202, 3) := by decide +kernel
theorem dX7_fieldRead_98 : decode cX7_fieldRead 98 = .ok (.aload_n 0, 1) := by decide +kernel
theorem dX7_fieldRead_99 : decode cX7_fieldRead 99 = .ok (.bipush 108, 2) := by decide +kernel
theorem dX7_fieldRead_101 : decode cX7_fieldRead 101 = .ok (.invokevirtual 196, 3) := by decide +kernel
theorem dX7_fieldRead_104 : decode cX7_fieldRead 104 = .ok (.iconst 2, 1) := by decide +kernel
theorem dX7_fieldRead_105 : decode cX7_fieldRead 105 = .ok (.ireturn, 1) := by decide +kernel
theorem dX7_fieldRead_106 : decode cX7_fieldRead 106 = .ok (.aload_n 0, 1) := by decide +kernel
theorem dX7_fieldRead_107 : decode cX7_fieldRead 107 = .ok (.bipush 104, 2) := by decide +kernel
theorem dX7_fieldRead_109 : decode cX7_fieldRead 109 = .ok (.bipush 101, 2) := by decide +kernel
theorem dX7_fieldRead_111 : decode cX7_fieldRead 111 = .ok (.bipush 97, 2) := by decide +kernel
theorem dX7_fieldRead_113 : decode cX7_fieldRead 113 = .ok (.invokevirtual 202, 3) := by decide +kernel
theorem dX7_fieldRead_116 : decode cX7_fieldRead 116 = .ok (.aload_n 0, 1) := by decide +kernel
theorem dX7_fieldRead_117 : decode cX7_fieldRead 117 = .ok (.bipush 116, 2) := by decide +kernel
theorem dX7_fieldRead_119 : decode cX7_fieldRead 119 = .ok (.invokevirtual 196, 3) := by decide +kernel
theorem dX7_fieldRead_122 : decode cX7_fieldRead 122 = .ok (.iconst 3, 1) := by decide +kernel
theorem dX7_fieldRead_123 : decode cX7_fieldRead 123 = .ok (.ireturn, 1) := by decide +kernel
theorem dX7_fieldRead_124 : decode cX7_fieldRead 124 = .ok (.aload_n 0, 1) := by decide +kernel
theorem dX7_fieldRead_125 : decode cX7_fieldRead 125 = .ok (.bipush 115, 2) := by decide +kernel
theorem dX7_fieldRead_127 : decode cX7_fieldRead 127 = .ok (.bipush 110, 2) := by decide +kernel
theorem dX7_fieldRead_129 : decode cX7_fieldRead 129 = .ok (.bipush 111, 2) := by decide +kernel
theorem dX7_fieldRead_131 : decode cX7_fieldRead 131 = .ok (.invokevirtual 202, 3) := by decide +kernel
theorem dX7_fieldRead_134 : decode cX7_fieldRead 134 = .ok (.aload_n 0, 1) := by decide +kernel
theorem dX7_fieldRead_135 : decode cX7_fieldRead 135 = .ok (.bipush 119, 2) := by decide +kernel
theorem dX7_fieldRead_137 : decode cX7_fieldRead 137 = .ok (.invokevirtual 196, 3) := by decide +kernel
theorem dX7_fieldRead_140 : decode cX7_fieldRead 140 = .ok (.iconst 4, 1) := by decide +kernel
theorem dX7_fieldRead_141 : decode cX7_fieldRead 141 = .ok (.ireturn, 1) := by decide +kernel
theorem dX7_test_0 : decode cX7_test 0 = .ok (.aload_n 0, 1) := by decide +kernel
theorem dX7_test_1 : decode cX7_test 1 = .ok (.getfield 68, 3) := by decide +kernel
theorem dX7_test_4 : decode cX7_test 4 = .ok (.iload_n 1, 1) := by decide +kernel
theorem dX7_test_5 : decode cX7_test 5 = .ok (.aload_n 0, 1) := by decide +kernel
theorem dX7_test_6 : decode cX7_test 6 = .ok (.getfield 188, 3) := by decide +kernel
theorem dX7_test_9 : decode cX7_test 9 = .ok (.ifCond .eq 7, 3) := by decide +kernel
theorem dX7_test_12 : decode cX7_test 12 = .ok (.iconst 0, 1) := by decide +kernel
theorem dX7_test_13 : decode cX7_test 13 = .ok (.goto 7, 3) := by decide +kernel
theorem dX7_test_16 : decode cX7_test 16 = .ok (.aload_n 0, 1) := by decide +kernel
theorem dX7_test_17 : decode cX7_test 17 = .ok (.invokevirtual 206, 3) := by decide +kernel
theorem dX7_test_20 : decode cX7_test 20 = .ok (.iastore, 1) := by decide +kernel
theorem dX7_test_21 : decode cX7_test 21 = .ok (.aload_n 0, 1) := by decide +kernel
theorem dX7_test_22 : decode cX7_test 22 = .ok (.invokevirtual 192, 3) := by decide +kernel
theorem dX7_test_25 : decode cX7_test 25 = .ok (.istore_n 2, 1) := by decide +kernel
theorem dX7_test_26 : decode cX7_test 26 = .ok (.aload_n 0, 1) := by decide +kernel
theorem dX7_test_27 : decode cX7_test 27 = .ok (.getfield 188, 3) := by decide +kernel
theorem dX7_test_30 : decode cX7_test 30 = .ok (.ifCond .ne 34, 3) := by decide +kernel
theorem dX7_test_33 : decode cX7_test 33 = .ok (.iload_n 2, 1) := by decide +kernel
theorem dX7_test_34 : decode cX7_test 34 = .ok (.bipush 61, 2) := by decide +kernel
theorem dX7_test_36 : decode cX7_test 36 = .ok (.if_icmp .eq 15, 3) := by decide +kernel
theorem dX7_test_39 : decode cX7_test 39 = .ok (.iload_n 2, 1) := by decide +kernel
theorem dX7_test_40 : decode cX7_test 40 = .ok (.bipush 60, 2) := by decide +kernel
theorem dX7_test_42 : decode cX7_test 42 = .ok (.if_icmp .eq 9, 3) := by decide +kernel
theorem dX7_test_45 : decode cX7_test 45 = .ok (.iload_n 2, 1) := by decide +kernel
theorem dX7_test_46 : decode cX7_test 46 = .ok (.bipush 62, 2) := by decide +kernel
theorem dX7_test_48 : decode cX7_test 48 = .ok (.if_icmp .ne 16, 3) := by decide +kernel
theorem dX7_test_51 : decode cX7_test 51 = .ok (.aload_n 0, 1) := by decide +kernel
theorem dX7_test_52 : decode cX7_test 52 = .ok (.dup, 1) := by decide +kernel
theorem dX7_test_53 : decode cX7_test 53 = .ok (.getfield 185, 3) := by decide +kernel
theorem dX7_test_56 : decode cX7_test 56 = .ok (.iconst 1, 1) := by decide +kernel
theorem dX7_test_57 : decode cX7_test 57 = .ok (.iadd, 1) := by decide +kernel
theorem dX7_test_58 : decode cX7_test 58 = .ok (.putfield 185, 3) := by decide +kernel
theorem dX7_test_61 : decode cX7_test 61 = .ok (.goto 8, 3) := by decide +kernel
theorem dX7_test_64 : decode cX7_test 64 = .ok (.aload_n 0, 1) := by decide +kernel
theorem dX7_test_65 : decode cX7_test 65 = .ok (.iconst 1, 1) := by decide +kernel
theorem dX7_test_66 : decode cX7_test 66 = .ok (.putfield 188, 3) := by decide +kernel
theorem dX7_test_69 : decode cX7_test 69 = .ok (.aload_n 0, 1) := by decide +kernel
theorem dX7_test_70 : decode cX7_test 70 = .ok (.getfield 188, 3) := by decide +kernel
theorem dX7_test_73 : decode cX7_test 73 = .ok (.ifCond .ne 16, 3) := by decide +kernel
theorem dX7_test_76 : decode cX7_test 76 = .ok (.aload_n 0, 1) := by decide +kernel
theorem dX7_test_77 : decode cX7_test 77 = .ok (.invokevirtual 192, 3) := by decide +kernel
theorem dX7_test_80 : decode cX7_test 80 = .ok (.bipush 45, 2) := by decide +kernel
theorem dX7_test_82 : decode cX7_test 82 = .ok (.if_icmp .ne 7, 3) := by decide +kernel
theorem dX7_test_85 : decode cX7_test 85 = .ok (.iconst 1, 1) := by decide +kernel
theorem dX7_test_86 : decode cX7_test 86 = .ok (.goto 4, 3) := by decide +kernel
theorem dX7_test_89 : decode cX7_test 89 = .ok (.iconst 0, 1) := by decide +kernel
theorem dX7_test_90 : decode cX7_test 90 = .ok (.istore_n 3, 1) := by decide +kernel
theorem dX7_test_91 : decode cX7_test 91 = .ok (.iload_n 3, 1) := by decide +kernel
theorem dX7_test_92 : decode cX7_test 92 = .ok (.ifCond .eq 13, 3) := by decide +kernel
theorem dX7_test_95 : decode cX7_test 95 = .ok (.aload_n 0, 1) := by decide +kernel
theorem dX7_test_96 : decode cX7_test 96 = .ok (.dup, 1) := by decide +kernel
theorem dX7_test_97 : decode cX7_test 97 = .ok (.getfield 185, 3) := by decide +kernel
theorem dX7_test_100 : decode cX7_test 100 = .ok (.iconst 1, 1) := by decide +kernel
theorem dX7_test_101 : decode cX7_test 101 = .ok (.iadd, 1) := by decide +kernel
theorem dX7_test_102 : decode cX7_test 102 = .ok (.putfield 185, 3) := by decide +kernel
theorem dX7_test_105 : decode cX7_test 105 = .ok (.aload_n 0, 1) := by decide +kernel
theorem dX7_test_106 : decode cX7_test 106 = .ok (.invokevirtual 209, 3) := by decide +kernel
theorem dX7_test_109 : decode cX7_test 109 = .ok (.aload_n 0, 1) := by decide +kernel
theorem dX7_test_110 : decode cX7_test 110 = .ok (.getfield 68, 3) := by decide +kernel
theorem dX7_test_113 : decode cX7_test 113 = .ok (.iload_n 1, 1) := by decide +kernel
theorem dX7_test_114 : decode cX7_test 114 = .ok (.iconst 1, 1) := by decide +kernel
theorem dX7_test_115 : decode cX7_test 115 = .ok (.iadd, 1) := by decide +kernel
theorem dX7_test_116 : decode cX7_test 116 = .ok (.iload_n 2, 1) := by decide +kernel
theorem dX7_test_117 : decode cX7_test 117 = .ok (.iastore, 1) := by decide +kernel
theorem dX7_test_118 : decode cX7_test 118 = .ok (.aload_n 0, 1) := by decide +kernel
theorem dX7_test_119 : decode cX7_test 119 = .ok (.getfield 68, 3) := by decide +kernel
theorem dX7_test_122 : decode cX7_test 122 = .ok (.iload_n 1, 1) := by decide +kernel
theorem dX7_test_123 : decode cX7_test 123 = .ok (.iconst 2, 1) := by decide +kernel
theorem dX7_test_124 : decode cX7_test 124 = .ok (.iadd, 1) := by decide +kernel
theorem dX7_test_125 : decode cX7_test 125 = .ok (.iload_n 3, 1) := by decide +kernel
theorem dX7_test_126 : decode cX7_test 126 = .ok (.ifCond .eq 11, 3) := by decide +kernel
theorem dX7_test_129 : decode cX7_test 129 = .ok (.aload_n 0, 1) := by decide +kernel
theorem dX7_test_130 : decode cX7_test 130 = .ok (.getfield 199, 3) := by decide +kernel
theorem dX7_test_133 : decode cX7_test 133 = .ok (.ineg, 1) := by decide +kernel
theorem dX7_test_134 : decode cX7_test 134 = .ok (.goto 7, 3) := by decide +kernel
theorem dX7_test_137 : decode cX7_test 137 = .ok (.aload_n 0, 1) := by decide +kernel
theorem dX7_test_138 : decode cX7_test 138 = .ok (.getfield 199, 3) := by decide +kernel
theorem dX7_test_141 : decode cX7_test 141 = .ok (.iastore, 1) := by decide +kernel
theorem dX7_test_142 : decode cX7_test 142 = .ok (.return_, 1) := by decide +kernel
theorem dX7_reads_0 : decode cX7_reads 0 = .ok (.bipush 15, 2) := by decide +kernel
theorem dX7_reads_2 : decode cX7_reads 2 = .ok (.aload_n 0, 1) := by decide +kernel
theorem dX7_reads_3 : decode cX7_reads 3 = .ok (.getfield 139, 3) := by decide +kernel
theorem dX7_reads_6 : decode cX7_reads 6 = .ok (.imul, 1) := by decide +kernel
theorem dX7_reads_7 : decode cX7_reads 7 = .ok (.istore_n 1, 1) := by decide +kernel
theorem dX7_reads_8 : decode cX7_reads 8 = .ok (.aload_n 0, 1) := by decide +kernel
theorem dX7_reads_9 : decode cX7_reads 9 = .ok (.iconst 0, 1) := by decide +kernel
theorem dX7_reads_10 : decode cX7_reads 10 = .ok (.putfield 185, 3) := by decide +kernel
theorem dX7_reads_13 : decode cX7_reads 13 = .ok (.aload_n 0, 1) := by decide +kernel
theorem dX7_reads_14 : decode cX7_reads 14 = .ok (.iconst 0, 1) := by decide +kernel
theorem dX7_reads_15 : decode cX7_reads 15 = .ok (.putfield 188, 3) := by decide +kernel
theorem dX7_reads_18 : decode cX7_reads 18 = .ok (.aload_n 0, 1) := by decide +kernel
theorem dX7_reads_19 : decode cX7_reads 19 = .ok (.getfield 68, 3) := by decide +kernel
theorem dX7_reads_22 : decode cX7_reads 22 = .ok (.iload_n 1, 1) := by decide +kernel
theorem dX7_reads_23 : decode cX7_reads 23 = .ok (.iconst 2, 1) := by decide +kernel
theorem dX7_reads_24 : decode cX7_reads 24 = .ok (.iadd, 1) := by decide +kernel
theorem dX7_reads_25 : decode cX7_reads 25 = .ok (.aload_n 0, 1) := by decide +kernel
theorem dX7_reads_26 : decode cX7_reads 26 = .ok (.invokevirtual 212, 3) := by decide +kernel
theorem dX7_reads_29 : decode cX7_reads 29 = .ok (.iastore, 1) := by decide +kernel
theorem dX7_reads_30 : decode cX7_reads 30 = .ok (.aload_n 0, 1) := by decide +kernel
theorem dX7_reads_31 : decode cX7_reads 31 = .ok (.bipush 32, 2) := by decide +kernel
theorem dX7_reads_33 : decode cX7_reads 33 = .ok (.invokevirtual 196, 3) := by decide +kernel
theorem dX7_reads_36 : decode cX7_reads 36 = .ok (.aload_n 0, 1) := by decide +kernel
theorem dX7_reads_37 : decode cX7_reads 37 = .ok (.invokevirtual 209, 3) := by decide +kernel
theorem dX7_reads_40 : decode cX7_reads 40 = .ok (.aload_n 0, 1) := by decide +kernel
theorem dX7_reads_41 : decode cX7_reads 41 = .ok (.getfield 68, 3) := by decide +kernel
theorem dX7_reads_44 : decode cX7_reads 44 = .ok (.iload_n 1, 1) := by decide +kernel
theorem dX7_reads_45 : decode cX7_reads 45 = .ok (.iconst 3, 1) := by decide +kernel
theorem dX7_reads_46 : decode cX7_reads 46 = .ok (.iadd, 1) := by decide +kernel
theorem dX7_reads_47 : decode cX7_reads 47 = .ok (.aload_n 0, 1) := by decide +kernel
theorem dX7_reads_48 : decode cX7_reads 48 = .ok (.getfield 199, 3) := by decide +kernel
theorem dX7_reads_51 : decode cX7_reads 51 = .ok (.iastore, 1) := by decide +kernel
theorem dX7_reads_52 : decode cX7_reads 52 = .ok (.aload_n 0, 1) := by decide +kernel
theorem dX7_reads_53 : decode cX7_reads 53 = .ok (.getfield 68, 3) := by decide +kernel
theorem dX7_reads_56 : decode cX7_reads 56 = .ok (.iload_n 1, 1) := by decide +kernel
theorem dX7_reads_57 : decode cX7_reads 57 = .ok (.iconst 4, 1) := by decide +kernel
theorem dX7_reads_58 : decode cX7_reads 58 = .ok (.iadd, 1) := by decide +kernel
theorem dX7_reads_59 : decode cX7_reads 59 = .ok (.iconst 0, 1) := by decide +kernel
theorem dX7_reads_60 : decode cX7_reads 60 = .ok (.iastore, 1) := by decide +kernel
theorem dX7_reads_61 : decode cX7_reads 61 = .ok (.aload_n 0, 1) := by decide +kernel
theorem dX7_reads_62 : decode cX7_reads 62 = .ok (.getfield 68, 3) := by decide +kernel
theorem dX7_reads_65 : decode cX7_reads 65 = .ok (.iload_n 1, 1) := by decide +kernel
theorem dX7_reads_66 : decode cX7_reads 66 = .ok (.iconst 5, 1) := by decide +kernel
theorem dX7_reads_67 : decode cX7_reads 67 = .ok (.iadd, 1) := by decide +kernel
theorem dX7_reads_68 : decode cX7_reads 68 = .ok (.iconst 0, 1) := by decide +kernel
theorem dX7_reads_69 : decode cX7_reads 69 = .ok (.iastore, 1) := by decide +kernel
theorem dX7_reads_70 : decode cX7_reads 70 = .ok (.aload_n 0, 1) := by decide +kernel
theorem dX7_reads_71 : decode cX7_reads 71 = .ok (.getfield 188, 3) := by decide +kernel
theorem dX7_reads_74 : decode cX7_reads 74 = .ok (.ifCond .ne 162, 3) := by decide +kernel
theorem dX7_reads_77 : decode cX7_reads 77 = .ok (.aload_n 0, 1) := by decide +kernel
theorem dX7_reads_78 : decode cX7_reads 78 = .ok (.getfield 185, 3) := by decide +kernel
theorem dX7_reads_81 : decode cX7_reads 81 = .ok (.aload_n 0, 1) := by decide +kernel
theorem dX7_reads_82 : decode cX7_reads 82 = .ok (.getfield 182, 3) := by decide +kernel
theorem dX7_reads_85 : decode cX7_reads 85 = .ok (.if_icmp .ge 151, 3) := by decide +kernel
theorem dX7_reads_88 : decode cX7_reads 88 = .ok (.aload_n 0, 1) := by decide +kernel
theorem dX7_reads_89 : decode cX7_reads 89 = .ok (.getfield 68, 3) := by decide +kernel
theorem dX7_reads_92 : decode cX7_reads 92 = .ok (.iload_n 1, 1) := by decide +kernel
theorem dX7_reads_93 : decode cX7_reads 93 = .ok (.iconst 4, 1) := by decide +kernel
theorem dX7_reads_94 : decode cX7_reads 94 = .ok (.iadd, 1) := by decide +kernel
theorem dX7_reads_95 : decode cX7_reads 95 = .ok (.iaload, 1) := by decide +kernel
theorem dX7_reads_96 : decode cX7_reads 96 = .ok (.istore_n 2, 1) := by decide +kernel
theorem dX7_reads_97 : decode cX7_reads 97 = .ok (.iload_n 2, 1) := by decide +kernel
theorem dX7_reads_98 : decode cX7_reads 98 = .ok (.iconst 3, 1) := by decide +kernel
theorem dX7_reads_99 : decode cX7_reads 99 = .ok (.if_icmp .ne 9, 3) := by decide +kernel
theorem dX7_reads_102 : decode cX7_reads 102 = .ok (.aload_n 0, 1) := by decide +kernel
theorem dX7_reads_103 : decode cX7_reads 103 = .ok (.iconst 1, 1) := by decide +kernel
theorem dX7_reads_104 : decode cX7_reads 104 = .ok (.putfield 188, 3) := by decide +kernel
theorem dX7_reads_107 : decode cX7_reads 107 = .ok (.return_, 1) := by decide +kernel
theorem dX7_reads_108 : decode cX7_reads 108 = .ok (.aload_n 0, 1) := by decide +kernel
theorem dX7_reads_109 : decode cX7_reads 109 = .ok (.bipush 32, 2) := by decide +kernel
theorem dX7_reads_111 : decode cX7_reads 111 = .ok (.invokevirtual 196, 3) := by decide +kernel
theorem dX7_reads_114 : decode cX7_reads 114 = .ok (.iload_n 2, 1) := by decide +kernel
theorem dX7_reads_115 : decode cX7_reads 115 = .ok (.ifCond .ne 18, 3) := by decide +kernel
theorem dX7_reads_118 : decode cX7_reads 118 = .ok (.aload_n 0, 1) := by decide +kernel
theorem dX7_reads_119 : decode cX7_reads 119 = .ok (.bipush 105, 2) := by decide +kernel
theorem dX7_reads_121 : decode cX7_reads 121 = .ok (.invokevirtual 196, 3) := by decide +kernel
theorem dX7_reads_124 : decode cX7_reads 124 = .ok (.aload_n 0, 1) := by decide +kernel
theorem dX7_reads_125 : decode cX7_reads 125 = .ok (.bipush 102, 2) := by decide +kernel
theorem dX7_reads_127 : decode cX7_reads 127 = .ok (.invokevirtual 196, 3) := by decide +kernel
theorem dX7_reads_130 : decode cX7_reads 130 = .ok (.goto 73, 3) := by decide +kernel
theorem dX7_reads_133 : decode cX7_reads 133 = .ok (.aload_n 0, 1) := by decide +kernel
theorem dX7_reads_134 : decode cX7_reads 134 = .ok (.getfield 188, 3) := by decide +kernel
theorem dX7_reads_137 : decode cX7_reads 137 = .ok (.ifCond .ne 56, 3) := by decide +kernel
theorem dX7_reads_140 : decode cX7_reads 140 = .ok (.iload_n 2, 1) := by decide +kernel
theorem dX7_reads_141 : decode cX7_reads 141 = .ok (.iconst 1, 1) := by decide +kernel
theorem dX7_reads_142 : decode cX7_reads 142 = .ok (.if_icmp .ne 15, 3) := by decide +kernel
theorem dX7_reads_145 : decode cX7_reads 145 = .ok (.aload_n 0, 1) := by decide +kernel
theorem dX7_reads_146 : decode cX7_reads 146 = .ok (.invokevirtual 192, 3) := by decide +kernel
theorem dX7_reads_149 : decode cX7_reads 149 = .ok (.bipush 111, 2) := by decide +kernel
theorem dX7_reads_151 : decode cX7_reads 151 = .ok (.if_icmp .ne 42, 3) := by decide +kernel
theorem dX7_reads_154 : decode cX7_reads 154 = .ok (.goto 15, 3) := by decide +kernel
theorem dX7_reads_157 : decode cX7_reads 157 = .ok (.aload_n 0, 1) := by decide +kernel
theorem dX7_reads_158 : decode cX7_reads 158 = .ok (.getfield 68, 3) := by decide +kernel
theorem dX7_reads_161 : decode cX7_reads 161 = .ok (.iload_n 1, 1) := by decide +kernel
theorem dX7_reads_162 : decode cX7_reads 162 = .ok (.iconst 5, 1) := by decide +kernel
theorem dX7_reads_163 : decode cX7_reads 163 = .ok (.iadd, 1) := by decide +kernel
theorem dX7_reads_164 : decode cX7_reads 164 = .ok (.iaload, 1) := by decide +kernel
theorem dX7_reads_165 : decode cX7_reads 165 = .ok (.iconst 1, 1) := by decide +kernel
theorem dX7_reads_166 : decode cX7_reads 166 = .ok (.if_icmp .ne 27, 3) := by decide +kernel
theorem dX7_reads_169 : decode cX7_reads 169 = .ok (.aload_n 0, 1) := by decide +kernel
theorem dX7_reads_170 : decode cX7_reads 170 = .ok (.getfield 68, 3) := by decide +kernel
theorem dX7_reads_173 : decode cX7_reads 173 = .ok (.iload_n 1, 1) := by decide +kernel
theorem dX7_reads_174 : decode cX7_reads 174 = .ok (.iconst 5, 1) := by decide +kernel
theorem dX7_reads_175 : decode cX7_reads 175 = .ok (.iadd, 1) := by decide +kernel
theorem dX7_reads_176 : decode cX7_reads 176 = .ok (.iconst 1, 1) := by decide +kernel
theorem dX7_reads_177 : decode cX7_reads 177 = .ok (.iastore, 1) := by decide +kernel
theorem dX7_reads_178 : decode cX7_reads 178 = .ok (.aload_n 0, 1) := by decide +kernel
theorem dX7_reads_179 : decode cX7_reads 179 = .ok (.bipush 111, 2) := by decide +kernel
theorem dX7_reads_181 : decode cX7_reads 181 = .ok (.invokevirtual 196, 3) := by decide +kernel
theorem dX7_reads_184 : decode cX7_reads 184 = .ok (.aload_n 0, 1) := by decide +kernel
theorem dX7_reads_185 : decode cX7_reads 185 = .ok (.bipush 114, 2) := by decide +kernel
theorem dX7_reads_187 : decode cX7_reads 187 = .ok (.invokevirtual 196, 3) := by decide +kernel
theorem dX7_reads_190 : decode cX7_reads 190 = .ok (.goto 13, 3) := by decide +kernel
theorem dX7_reads_193 : decode cX7_reads 193 = .ok (.aload_n 0, 1) := by decide +kernel
theorem dX7_reads_194 : decode cX7_reads 194 = .ok (.bipush 97, 2) := by decide +kernel
theorem dX7_reads_196 : decode cX7_reads 196 = .ok (.bipush 110, 2) := by decide +kernel
theorem dX7_reads_198 : decode cX7_reads 198 = .ok (.bipush 100, 2) := by decide +kernel
theorem dX7_reads_200 : decode cX7_reads 200 = .ok (.invokevirtual 202, 3) := by decide +kernel
theorem dX7_reads_203 : decode cX7_reads 203 = .ok (.aload_n 0, 1) := by decide +kernel
theorem dX7_reads_204 : decode cX7_reads 204 = .ok (.bipush 32, 2) := by decide +kernel
theorem dX7_reads_206 : decode cX7_reads 206 = .ok (.invokevirtual 196, 3) := by decide +kernel
theorem dX7_reads_209 : decode cX7_reads 209 = .ok (.aload_n 0, 1) := by decide +kernel
theorem dX7_reads_210 : decode cX7_reads 210 = .ok (.iload_n 1, 1) := by decide +kernel
theorem dX7_reads_211 : decode cX7_reads 211 = .ok (.bipush 6, 2) := by decide +kernel
theorem dX7_reads_213 : decode cX7_reads 213 = .ok (.iadd, 1) := by decide +kernel
theorem dX7_reads_214 : decode cX7_reads 214 = .ok (.iconst 3, 1) := by decide +kernel
theorem dX7_reads_215 : decode cX7_reads 215 = .ok (.iload_n 2, 1) := by decide +kernel
theorem dX7_reads_216 : decode cX7_reads 216 = .ok (.imul, 1) := by decide +kernel
theorem dX7_reads_217 : decode cX7_reads 217 = .ok (.iadd, 1) := by decide +kernel
theorem dX7_reads_218 : decode cX7_reads 218 = .ok (.invokevirtual 215, 3) := by decide +kernel
theorem dX7_reads_221 : decode cX7_reads 221 = .ok (.aload_n 0, 1) := by decide +kernel
theorem dX7_reads_222 : decode cX7_reads 222 = .ok (.getfield 68, 3) := by decide +kernel
theorem dX7_reads_225 : decode cX7_reads 225 = .ok (.iload_n 1, 1) := by decide +kernel
theorem dX7_reads_226 : decode cX7_reads 226 = .ok (.iconst 4, 1) := by decide +kernel
theorem dX7_reads_227 : decode cX7_reads 227 = .ok (.iadd, 1) := by decide +kernel
theorem dX7_reads_228 : decode cX7_reads 228 = .ok (.dup2, 1) := by decide +kernel
theorem dX7_reads_229 : decode cX7_reads 229 = .ok (.iaload, 1) := by decide +kernel
theorem dX7_reads_230 : decode cX7_reads 230 = .ok (.iconst 1, 1) := by decide +kernel
theorem dX7_reads_231 : decode cX7_reads 231 = .ok (.iadd, 1) := by decide +kernel
theorem dX7_reads_232 : decode cX7_reads 232 = .ok (.iastore, 1) := by decide +kernel
theorem dX7_reads_233 : decode cX7_reads 233 = .ok (.goto (-163), 3) := by decide +kernel
theorem dX7_reads_236 : decode cX7_reads 236 = .ok (.return_, 1) := by decide +kernel
theorem dX7_rule_0 : decode cX7_rule 0 = .ok (.iload_n 1, 1) := by decide +kernel
theorem dX7_rule_1 : decode cX7_rule 1 = .ok (.iconst 0, 1) := by decide +kernel
theorem dX7_rule_2 : decode cX7_rule 2 = .ok (.ldc 218, 2) := by decide +kernel
theorem dX7_rule_4 : decode cX7_rule 4 = .ok (.invokestatic 87, 3) := by decide +kernel
theorem dX7_rule_7 : decode cX7_rule 7 = .ok (.ifCond .eq 18, 3) := by decide +kernel
theorem dX7_rule_10 : decode cX7_rule 10 = .ok (.iload_n 2, 1) := by decide +kernel
theorem dX7_rule_11 : decode cX7_rule 11 = .ok (.iconst 0, 1) := by decide +kernel
theorem dX7_rule_12 : decode cX7_rule 12 = .ok (.ldc 218, 2) := by decide +kernel
theorem dX7_rule_14 : decode cX7_rule 14 = .ok (.invokestatic 87, 3) := by decide +kernel
theorem dX7_rule_17 : decode cX7_rule 17 = .ok (.ifCond .eq 8, 3) := by decide +kernel
theorem dX7_rule_20 : decode cX7_rule 20 = .ok (.iload_n 1, 1) := by decide +kernel
theorem dX7_rule_21 : decode cX7_rule 21 = .ok (.iload_n 2, 1) := by decide +kernel
theorem dX7_rule_22 : decode cX7_rule 22 = .ok (.if_icmp .lt 10, 3) := by decide +kernel
theorem dX7_rule_25 : decode cX7_rule 25 = .ok (.aload_n 0, 1) := by decide +kernel
theorem dX7_rule_26 : decode cX7_rule 26 = .ok (.bipush (-7), 2) := by decide +kernel
theorem dX7_rule_28 : decode cX7_rule 28 = .ok (.invokevirtual 94, 3) := by decide +kernel
theorem dX7_rule_31 : decode cX7_rule 31 = .ok (.ireturn, 1) := by decide +kernel
theorem dX7_rule_32 : decode cX7_rule 32 = .ok (.aload_n 0, 1) := by decide +kernel
theorem dX7_rule_33 : decode cX7_rule 33 = .ok (.getfield 139, 3) := by decide +kernel
theorem dX7_rule_36 : decode cX7_rule 36 = .ok (.bipush 10, 2) := by decide +kernel
theorem dX7_rule_38 : decode cX7_rule 38 = .ok (.if_icmp .ne 10, 3) := by decide +kernel
theorem dX7_rule_41 : decode cX7_rule 41 = .ok (.aload_n 0, 1) := by decide +kernel
theorem dX7_rule_42 : decode cX7_rule 42 = .ok (.bipush (-8), 2) := by decide +kernel
theorem dX7_rule_44 : decode cX7_rule 44 = .ok (.invokevirtual 94, 3) := by decide +kernel
theorem dX7_rule_47 : decode cX7_rule 47 = .ok (.ireturn, 1) := by decide +kernel
theorem dX7_rule_48 : decode cX7_rule 48 = .ok (.aload_n 0, 1) := by decide +kernel
theorem dX7_rule_49 : decode cX7_rule 49 = .ok (.invokevirtual 219, 3) := by decide +kernel
theorem dX7_rule_52 : decode cX7_rule 52 = .ok (.aload_n 0, 1) := by decide +kernel
theorem dX7_rule_53 : decode cX7_rule 53 = .ok (.getfield 188, 3) := by decide +kernel
theorem dX7_rule_56 : decode cX7_rule 56 = .ok (.ifCond .eq 11, 3) := by decide +kernel
theorem dX7_rule_59 : decode cX7_rule 59 = .ok (.bipush (-10), 2) := by decide +kernel
theorem dX7_rule_61 : decode cX7_rule 61 = .ok (.aload_n 0, 1) := by decide +kernel
theorem dX7_rule_62 : decode cX7_rule 62 = .ok (.getfield 185, 3) := by decide +kernel
theorem dX7_rule_65 : decode cX7_rule 65 = .ok (.isub, 1) := by decide +kernel
theorem dX7_rule_66 : decode cX7_rule 66 = .ok (.ireturn, 1) := by decide +kernel
theorem dX7_rule_67 : decode cX7_rule 67 = .ok (.aload_n 0, 1) := by decide +kernel
theorem dX7_rule_68 : decode cX7_rule 68 = .ok (.getfield 68, 3) := by decide +kernel
theorem dX7_rule_71 : decode cX7_rule 71 = .ok (.bipush 15, 2) := by decide +kernel
theorem dX7_rule_73 : decode cX7_rule 73 = .ok (.aload_n 0, 1) := by decide +kernel
theorem dX7_rule_74 : decode cX7_rule 74 = .ok (.getfield 139, 3) := by decide +kernel
theorem dX7_rule_77 : decode cX7_rule 77 = .ok (.imul, 1) := by decide +kernel
theorem dX7_rule_78 : decode cX7_rule 78 = .ok (.iload_n 1, 1) := by decide +kernel
theorem dX7_rule_79 : decode cX7_rule 79 = .ok (.iastore, 1) := by decide +kernel
theorem dX7_rule_80 : decode cX7_rule 80 = .ok (.aload_n 0, 1) := by decide +kernel
theorem dX7_rule_81 : decode cX7_rule 81 = .ok (.getfield 68, 3) := by decide +kernel
theorem dX7_rule_84 : decode cX7_rule 84 = .ok (.bipush 15, 2) := by decide +kernel
theorem dX7_rule_86 : decode cX7_rule 86 = .ok (.aload_n 0, 1) := by decide +kernel
theorem dX7_rule_87 : decode cX7_rule 87 = .ok (.getfield 139, 3) := by decide +kernel
theorem dX7_rule_90 : decode cX7_rule 90 = .ok (.imul, 1) := by decide +kernel
theorem dX7_rule_91 : decode cX7_rule 91 = .ok (.iconst 1, 1) := by decide +kernel
theorem dX7_rule_92 : decode cX7_rule 92 = .ok (.iadd, 1) := by decide +kernel
theorem dX7_rule_93 : decode cX7_rule 93 = .ok (.iload_n 2, 1) := by decide +kernel
theorem dX7_rule_94 : decode cX7_rule 94 = .ok (.iastore, 1) := by decide +kernel
theorem dX7_rule_95 : decode cX7_rule 95 = .ok (.aload_n 0, 1) := by decide +kernel
theorem dX7_rule_96 : decode cX7_rule 96 = .ok (.iconst 0, 1) := by decide +kernel
theorem dX7_rule_97 : decode cX7_rule 97 = .ok (.putfield 182, 3) := by decide +kernel
theorem dX7_rule_100 : decode cX7_rule 100 = .ok (.aload_n 0, 1) := by decide +kernel
theorem dX7_rule_101 : decode cX7_rule 101 = .ok (.dup, 1) := by decide +kernel
theorem dX7_rule_102 : decode cX7_rule 102 = .ok (.getfield 139, 3) := by decide +kernel
theorem dX7_rule_105 : decode cX7_rule 105 = .ok (.iconst 1, 1) := by decide +kernel
theorem dX7_rule_106 : decode cX7_rule 106 = .ok (.iadd, 1) := by decide +kernel
theorem dX7_rule_107 : decode cX7_rule 107 = .ok (.putfield 139, 3) := by decide +kernel
theorem dX7_rule_110 : decode cX7_rule 110 = .ok (.aload_n 0, 1) := by decide +kernel
theorem dX7_rule_111 : decode cX7_rule 111 = .ok (.getfield 139, 3) := by decide +kernel
theorem dX7_rule_114 : decode cX7_rule 114 = .ok (.iconst 1, 1) := by decide +kernel
theorem dX7_rule_115 : decode cX7_rule 115 = .ok (.isub, 1) := by decide +kernel
theorem dX7_rule_116 : decode cX7_rule 116 = .ok (.ireturn, 1) := by decide +kernel
theorem dX7_said_0 : decode cX7_said 0 = .ok (.aload_n 0, 1) := by decide +kernel
theorem dX7_said_1 : decode cX7_said 1 = .ok (.iload_n 1, 1) := by decide +kernel
theorem dX7_said_2 : decode cX7_said 2 = .ok (.invokevirtual 129, 3) := by decide +kernel
theorem dX7_said_5 : decode cX7_said 5 = .ok (.ifCond .eq 11, 3) := by decide +kernel
theorem dX7_said_8 : decode cX7_said 8 = .ok (.aload_n 0, 1) := by decide +kernel
theorem dX7_said_9 : decode cX7_said 9 = .ok (.iload_n 2, 1) := by decide +kernel
theorem dX7_said_10 : decode cX7_said 10 = .ok (.invokevirtual 98, 3) := by decide +kernel
theorem dX7_said_13 : decode cX7_said 13 = .ok (.ifCond .ne 10, 3) := by decide +kernel
theorem dX7_said_16 : decode cX7_said 16 = .ok (.aload_n 0, 1) := by decide +kernel
theorem dX7_said_17 : decode cX7_said 17 = .ok (.bipush (-3), 2) := by decide +kernel
theorem dX7_said_19 : decode cX7_said 19 = .ok (.invokevirtual 94, 3) := by decide +kernel
theorem dX7_said_22 : decode cX7_said 22 = .ok (.ireturn, 1) := by decide +kernel
theorem dX7_said_23 : decode cX7_said 23 = .ok (.iload_n 3, 1) := by decide +kernel
theorem dX7_said_24 : decode cX7_said 24 = .ok (.iconst 0, 1) := by decide +kernel
theorem dX7_said_25 : decode cX7_said 25 = .ok (.iconst 2, 1) := by decide +kernel
theorem dX7_said_26 : decode cX7_said 26 = .ok (.invokestatic 87, 3) := by decide +kernel
theorem dX7_said_29 : decode cX7_said 29 = .ok (.ifCond .eq 13, 3) := by decide +kernel
theorem dX7_said_32 : decode cX7_said 32 = .ok (.aload_n 0, 1) := by decide +kernel
theorem dX7_said_33 : decode cX7_said 33 = .ok (.iload_n 1, 1) := by decide +kernel
theorem dX7_said_34 : decode cX7_said 34 = .ok (.iload_n 2, 1) := by decide +kernel
theorem dX7_said_35 : decode cX7_said 35 = .ok (.iload_n 3, 1) := by decide +kernel
theorem dX7_said_36 : decode cX7_said 36 = .ok (.invokevirtual 145, 3) := by decide +kernel
theorem dX7_said_39 : decode cX7_said 39 = .ok (.goto 9, 3) := by decide +kernel
theorem dX7_said_42 : decode cX7_said 42 = .ok (.aload_n 0, 1) := by decide +kernel
theorem dX7_said_43 : decode cX7_said 43 = .ok (.bipush (-7), 2) := by decide +kernel
theorem dX7_said_45 : decode cX7_said 45 = .ok (.invokevirtual 94, 3) := by decide +kernel
theorem dX7_said_48 : decode cX7_said 48 = .ok (.ireturn, 1) := by decide +kernel
theorem dX7_count_0 : decode cX7_count 0 = .ok (.iload_n 1, 1) := by decide +kernel
theorem dX7_count_1 : decode cX7_count 1 = .ok (.iconst 5, 1) := by decide +kernel
theorem dX7_count_2 : decode cX7_count 2 = .ok (.bipush 9, 2) := by decide +kernel
theorem dX7_count_4 : decode cX7_count 4 = .ok (.invokestatic 87, 3) := by decide +kernel
theorem dX7_count_7 : decode cX7_count 7 = .ok (.ifCond .eq 11, 3) := by decide +kernel
theorem dX7_count_10 : decode cX7_count 10 = .ok (.aload_n 0, 1) := by decide +kernel
theorem dX7_count_11 : decode cX7_count 11 = .ok (.iload_n 1, 1) := by decide +kernel
theorem dX7_count_12 : decode cX7_count 12 = .ok (.iconst 5, 1) := by decide +kernel
theorem dX7_count_13 : decode cX7_count 13 = .ok (.isub, 1) := by decide +kernel
theorem dX7_count_14 : decode cX7_count 14 = .ok (.invokevirtual 151, 3) := by decide +kernel
theorem dX7_count_17 : decode cX7_count 17 = .ok (.ireturn, 1) := by decide +kernel
theorem dX7_count_18 : decode cX7_count 18 = .ok (.iload_n 1, 1) := by decide +kernel
theorem dX7_count_19 : decode cX7_count 19 = .ok (.tableswitch 87 0 10 #[57, 62, 67, 72, 77, 87, 87, 87, 87, 87, 82], 57) := by decide +kernel
theorem dX7_count_76 : decode cX7_count 76 = .ok (.aload_n 0, 1) := by decide +kernel
theorem dX7_count_77 : decode cX7_count 77 = .ok (.getfield 132, 3) := by decide +kernel
theorem dX7_count_80 : decode cX7_count 80 = .ok (.ireturn, 1) := by decide +kernel
theorem dX7_count_81 : decode cX7_count 81 = .ok (.aload_n 0, 1) := by decide +kernel
theorem dX7_count_82 : decode cX7_count 82 = .ok (.getfield 13, 3) := by decide +kernel
theorem dX7_count_85 : decode cX7_count 85 = .ok (.ireturn, 1) := by decide +kernel
theorem dX7_count_86 : decode cX7_count 86 = .ok (.aload_n 0, 1) := by decide +kernel
theorem dX7_count_87 : decode cX7_count 87 = .ok (.getfield 91, 3) := by decide +kernel
theorem dX7_count_90 : decode cX7_count 90 = .ok (.ireturn, 1) := by decide +kernel
theorem dX7_count_91 : decode cX7_count 91 = .ok (.aload_n 0, 1) := by decide +kernel
theorem dX7_count_92 : decode cX7_count 92 = .ok (.getfield 139, 3) := by decide +kernel
theorem dX7_count_95 : decode cX7_count 95 = .ok (.ireturn, 1) := by decide +kernel
theorem dX7_count_96 : decode cX7_count 96 = .ok (.aload_n 0, 1) := by decide +kernel
theorem dX7_count_97 : decode cX7_count 97 = .ok (.getfield 182, 3) := by decide +kernel
theorem dX7_count_100 : decode cX7_count 100 = .ok (.ireturn, 1) := by decide +kernel
theorem dX7_count_101 : decode cX7_count 101 = .ok (.aload_n 0, 1) := by decide +kernel
theorem dX7_count_102 : decode cX7_count 102 = .ok (.getfield 158, 3) := by decide +kernel
theorem dX7_count_105 : decode cX7_count 105 = .ok (.ireturn, 1) := by decide +kernel
theorem dX7_count_106 : decode cX7_count 106 = .ok (.aload_n 0, 1) := by decide +kernel
theorem dX7_count_107 : decode cX7_count 107 = .ok (.bipush (-7), 2) := by decide +kernel
theorem dX7_count_109 : decode cX7_count 109 = .ok (.invokevirtual 94, 3) := by decide +kernel
theorem dX7_count_112 : decode cX7_count 112 = .ok (.ireturn, 1) := by decide +kernel
theorem dX7_cold_0 : decode cX7_cold 0 = .ok (.aload_n 0, 1) := by decide +kernel
theorem dX7_cold_1 : decode cX7_cold 1 = .ok (.getfield 222, 3) := by decide +kernel
theorem dX7_cold_4 : decode cX7_cold 4 = .ok (.ifCond .ne 10, 3) := by decide +kernel
theorem dX7_cold_7 : decode cX7_cold 7 = .ok (.aload_n 0, 1) := by decide +kernel
theorem dX7_cold_8 : decode cX7_cold 8 = .ok (.bipush (-2), 2) := by decide +kernel
theorem dX7_cold_10 : decode cX7_cold 10 = .ok (.invokevirtual 94, 3) := by decide +kernel
theorem dX7_cold_13 : decode cX7_cold 13 = .ok (.ireturn, 1) := by decide +kernel
theorem dX7_cold_14 : decode cX7_cold 14 = .ok (.iconst 0, 1) := by decide +kernel
theorem dX7_cold_15 : decode cX7_cold 15 = .ok (.istore_n 1, 1) := by decide +kernel
theorem dX7_cold_16 : decode cX7_cold 16 = .ok (.iconst 0, 1) := by decide +kernel
theorem dX7_cold_17 : decode cX7_cold 17 = .ok (.istore_n 2, 1) := by decide +kernel
theorem dX7_cold_18 : decode cX7_cold 18 = .ok (.iload_n 2, 1) := by decide +kernel
theorem dX7_cold_19 : decode cX7_cold 19 = .ok (.bipush 48, 2) := by decide +kernel
theorem dX7_cold_21 : decode cX7_cold 21 = .ok (.if_icmp .ge 59, 3) := by decide +kernel
theorem dX7_cold_24 : decode cX7_cold 24 = .ok (.aload_n 0, 1) := by decide +kernel
theorem dX7_cold_25 : decode cX7_cold 25 = .ok (.getfield 81, 3) := by decide +kernel
theorem dX7_cold_28 : decode cX7_cold 28 = .ok (.iload_n 2, 1) := by decide +kernel
theorem dX7_cold_29 : decode cX7_cold 29 = .ok (.iaload, 1) := by decide +kernel
theorem dX7_cold_30 : decode cX7_cold 30 = .ok (.sipush (-600), 3) := by decide +kernel
theorem dX7_cold_33 : decode cX7_cold 33 = .ok (.sipush 300, 3) := by decide +kernel
theorem dX7_cold_36 : decode cX7_cold 36 = .ok (.invokestatic 87, 3) := by decide +kernel
theorem dX7_cold_39 : decode cX7_cold 39 = .ok (.istore_n 3, 1) := by decide +kernel
theorem dX7_cold_40 : decode cX7_cold 40 = .ok (.aload_n 0, 1) := by decide +kernel
theorem dX7_cold_41 : decode cX7_cold 41 = .ok (.getfield 44, 3) := by decide +kernel
theorem dX7_cold_44 : decode cX7_cold 44 = .ok (.iload_n 2, 1) := by decide +kernel
theorem dX7_cold_45 : decode cX7_cold 45 = .ok (.iload_n 3, 1) := by decide +kernel
theorem dX7_cold_46 : decode cX7_cold 46 = .ok (.ifCond .eq 12, 3) := by decide +kernel
theorem dX7_cold_49 : decode cX7_cold 49 = .ok (.aload_n 0, 1) := by decide +kernel
theorem dX7_cold_50 : decode cX7_cold 50 = .ok (.getfield 81, 3) := by decide +kernel
theorem dX7_cold_53 : decode cX7_cold 53 = .ok (.iload_n 2, 1) := by decide +kernel
theorem dX7_cold_54 : decode cX7_cold 54 = .ok (.iaload, 1) := by decide +kernel
theorem dX7_cold_55 : decode cX7_cold 55 = .ok (.goto 6, 3) := by decide +kernel
theorem dX7_cold_58 : decode cX7_cold 58 = .ok (.sipush (-9999), 3) := by decide +kernel
theorem dX7_cold_61 : decode cX7_cold 61 = .ok (.iastore, 1) := by decide +kernel
theorem dX7_cold_62 : decode cX7_cold 62 = .ok (.iload_n 1, 1) := by decide +kernel
theorem dX7_cold_63 : decode cX7_cold 63 = .ok (.iload_n 3, 1) := by decide +kernel
theorem dX7_cold_64 : decode cX7_cold 64 = .ok (.ifCond .eq 7, 3) := by decide +kernel
theorem dX7_cold_67 : decode cX7_cold 67 = .ok (.iconst 1, 1) := by decide +kernel
theorem dX7_cold_68 : decode cX7_cold 68 = .ok (.goto 4, 3) := by decide +kernel
theorem dX7_cold_71 : decode cX7_cold 71 = .ok (.iconst 0, 1) := by decide +kernel
theorem dX7_cold_72 : decode cX7_cold 72 = .ok (.iadd, 1) := by decide +kernel
theorem dX7_cold_73 : decode cX7_cold 73 = .ok (.istore_n 1, 1) := by decide +kernel
theorem dX7_cold_74 : decode cX7_cold 74 = .ok (.iinc 2 1, 3) := by decide +kernel
theorem dX7_cold_77 : decode cX7_cold 77 = .ok (.goto (-59), 3) := by decide +kernel
theorem dX7_cold_80 : decode cX7_cold 80 = .ok (.iload_n 1, 1) := by decide +kernel
theorem dX7_cold_81 : decode cX7_cold 81 = .ok (.ireturn, 1) := by decide +kernel
theorem dX7_tell_0 : decode cX7_tell 0 = .ok (.iload_n 1, 1) := by decide +kernel
theorem dX7_tell_1 : decode cX7_tell 1 = .ok (.iconst 0, 1) := by decide +kernel
theorem dX7_tell_2 : decode cX7_tell 2 = .ok (.bipush 47, 2) := by decide +kernel
theorem dX7_tell_4 : decode cX7_tell 4 = .ok (.invokestatic 87, 3) := by decide +kernel
theorem dX7_tell_7 : decode cX7_tell 7 = .ok (.ifCond .ne 10, 3) := by decide +kernel
theorem dX7_tell_10 : decode cX7_tell 10 = .ok (.aload_n 0, 1) := by decide +kernel
theorem dX7_tell_11 : decode cX7_tell 11 = .ok (.bipush (-3), 2) := by decide +kernel
theorem dX7_tell_13 : decode cX7_tell 13 = .ok (.invokevirtual 94, 3) := by decide +kernel
theorem dX7_tell_16 : decode cX7_tell 16 = .ok (.ireturn, 1) := by decide +kernel
theorem dX7_tell_17 : decode cX7_tell 17 = .ok (.iload_n 2, 1) := by decide +kernel
theorem dX7_tell_18 : decode cX7_tell 18 = .ok (.sipush (-9999), 3) := by decide +kernel
theorem dX7_tell_21 : decode cX7_tell 21 = .ok (.sipush 9999, 3) := by decide +kernel
theorem dX7_tell_24 : decode cX7_tell 24 = .ok (.invokestatic 87, 3) := by decide +kernel
theorem dX7_tell_27 : decode cX7_tell 27 = .ok (.ifCond .ne 10, 3) := by decide +kernel
theorem dX7_tell_30 : decode cX7_tell 30 = .ok (.aload_n 0, 1) := by decide +kernel
theorem dX7_tell_31 : decode cX7_tell 31 = .ok (.bipush (-7), 2) := by decide +kernel
theorem dX7_tell_33 : decode cX7_tell 33 = .ok (.invokevirtual 94, 3) := by decide +kernel
theorem dX7_tell_36 : decode cX7_tell 36 = .ok (.ireturn, 1) := by decide +kernel
theorem dX7_tell_37 : decode cX7_tell 37 = .ok (.iconst 0, 1) := by decide +kernel
theorem dX7_tell_38 : decode cX7_tell 38 = .ok (.istore_n 3, 1) := by decide +kernel
theorem dX7_tell_39 : decode cX7_tell 39 = .ok (.iload_n 3, 1) := by decide +kernel
theorem dX7_tell_40 : decode cX7_tell 40 = .ok (.bipush 48, 2) := by decide +kernel
theorem dX7_tell_42 : decode cX7_tell 42 = .ok (.if_icmp .ge 23, 3) := by decide +kernel
theorem dX7_tell_45 : decode cX7_tell 45 = .ok (.aload_n 0, 1) := by decide +kernel
theorem dX7_tell_46 : decode cX7_tell 46 = .ok (.getfield 222, 3) := by decide +kernel
theorem dX7_tell_49 : decode cX7_tell 49 = .ok (.ifCond .ne 16, 3) := by decide +kernel
theorem dX7_tell_52 : decode cX7_tell 52 = .ok (.aload_n 0, 1) := by decide +kernel
theorem dX7_tell_53 : decode cX7_tell 53 = .ok (.getfield 81, 3) := by decide +kernel
theorem dX7_tell_56 : decode cX7_tell 56 = .ok (.iload_n 3, 1) := by decide +kernel
theorem dX7_tell_57 : decode cX7_tell 57 = .ok (.iconst 0, 1) := by decide +kernel
theorem dX7_tell_58 : decode cX7_tell 58 = .ok (.iastore, 1) := by decide +kernel
theorem dX7_tell_59 : decode cX7_tell 59 = .ok (.iinc 3 1, 3) := by decide +kernel
theorem dX7_tell_62 : decode cX7_tell 62 = .ok (.goto (-23), 3) := by decide +kernel
theorem dX7_tell_65 : decode cX7_tell 65 = .ok (.aload_n 0, 1) := by decide +kernel
theorem dX7_tell_66 : decode cX7_tell 66 = .ok (.iconst 1, 1) := by decide +kernel
theorem dX7_tell_67 : decode cX7_tell 67 = .ok (.putfield 222, 3) := by decide +kernel
theorem dX7_tell_70 : decode cX7_tell 70 = .ok (.aload_n 0, 1) := by decide +kernel
theorem dX7_tell_71 : decode cX7_tell 71 = .ok (.getfield 81, 3) := by decide +kernel
theorem dX7_tell_74 : decode cX7_tell 74 = .ok (.iload_n 1, 1) := by decide +kernel
theorem dX7_tell_75 : decode cX7_tell 75 = .ok (.iload_n 2, 1) := by decide +kernel
theorem dX7_tell_76 : decode cX7_tell 76 = .ok (.iastore, 1) := by decide +kernel
theorem dX7_tell_77 : decode cX7_tell 77 = .ok (.iconst 1, 1) := by decide +kernel
theorem dX7_tell_78 : decode cX7_tell 78 = .ok (.ireturn, 1) := by decide +kernel
theorem dX7_tear_0 : decode cX7_tear 0 = .ok (.aload_n 0, 1) := by decide +kernel
theorem dX7_tear_1 : decode cX7_tear 1 = .ok (.getfield 222, 3) := by decide +kernel
theorem dX7_tear_4 : decode cX7_tear 4 = .ok (.istore_n 1, 1) := by decide +kernel
theorem dX7_tear_5 : decode cX7_tear 5 = .ok (.aload_n 0, 1) := by decide +kernel
theorem dX7_tear_6 : decode cX7_tear 6 = .ok (.iconst 0, 1) := by decide +kernel
theorem dX7_tear_7 : decode cX7_tear 7 = .ok (.putfield 222, 3) := by decide +kernel
theorem dX7_tear_10 : decode cX7_tear 10 = .ok (.iload_n 1, 1) := by decide +kernel
theorem dX7_tear_11 : decode cX7_tear 11 = .ok (.ifCond .eq 7, 3) := by decide +kernel
theorem dX7_tear_14 : decode cX7_tear 14 = .ok (.iconst 1, 1) := by decide +kernel
theorem dX7_tear_15 : decode cX7_tear 15 = .ok (.goto 4, 3) := by decide +kernel
theorem dX7_tear_18 : decode cX7_tear 18 = .ok (.iconst 0, 1) := by decide +kernel
theorem dX7_tear_19 : decode cX7_tear 19 = .ok (.ireturn, 1) := by decide +kernel
theorem dX7_row_0 : decode cX7_row 0 = .ok (.aload_n 0, 1) := by decide +kernel
theorem dX7_row_1 : decode cX7_row 1 = .ok (.getfield 222, 3) := by decide +kernel
theorem dX7_row_4 : decode cX7_row 4 = .ok (.ifCond .ne 10, 3) := by decide +kernel
theorem dX7_row_7 : decode cX7_row 7 = .ok (.aload_n 0, 1) := by decide +kernel
theorem dX7_row_8 : decode cX7_row 8 = .ok (.bipush (-2), 2) := by decide +kernel
theorem dX7_row_10 : decode cX7_row 10 = .ok (.invokevirtual 119, 3) := by decide +kernel
theorem dX7_row_13 : decode cX7_row 13 = .ok (.ireturn, 1) := by decide +kernel
theorem dX7_row_14 : decode cX7_row 14 = .ok (.iload_n 1, 1) := by decide +kernel
theorem dX7_row_15 : decode cX7_row 15 = .ok (.iconst 0, 1) := by decide +kernel
theorem dX7_row_16 : decode cX7_row 16 = .ok (.bipush 47, 2) := by decide +kernel
theorem dX7_row_18 : decode cX7_row 18 = .ok (.invokestatic 87, 3) := by decide +kernel
theorem dX7_row_21 : decode cX7_row 21 = .ok (.ifCond .eq 12, 3) := by decide +kernel
theorem dX7_row_24 : decode cX7_row 24 = .ok (.aload_n 0, 1) := by decide +kernel
theorem dX7_row_25 : decode cX7_row 25 = .ok (.getfield 81, 3) := by decide +kernel
theorem dX7_row_28 : decode cX7_row 28 = .ok (.iload_n 1, 1) := by decide +kernel
theorem dX7_row_29 : decode cX7_row 29 = .ok (.iaload, 1) := by decide +kernel
theorem dX7_row_30 : decode cX7_row 30 = .ok (.goto 9, 3) := by decide +kernel
theorem dX7_row_33 : decode cX7_row 33 = .ok (.aload_n 0, 1) := by decide +kernel
theorem dX7_row_34 : decode cX7_row 34 = .ok (.bipush (-3), 2) := by decide +kernel
theorem dX7_row_36 : decode cX7_row 36 = .ok (.invokevirtual 119, 3) := by decide +kernel
theorem dX7_row_39 : decode cX7_row 39 = .ok (.ireturn, 1) := by decide +kernel
theorem dX7_copy_0 : decode cX7_copy 0 = .ok (.aload_n 0, 1) := by decide +kernel
theorem dX7_copy_1 : decode cX7_copy 1 = .ok (.getfield 222, 3) := by decide +kernel
theorem dX7_copy_4 : decode cX7_copy 4 = .ok (.ifCond .ne 10, 3) := by decide +kernel
theorem dX7_copy_7 : decode cX7_copy 7 = .ok (.aload_n 0, 1) := by decide +kernel
theorem dX7_copy_8 : decode cX7_copy 8 = .ok (.bipush (-2), 2) := by decide +kernel
theorem dX7_copy_10 : decode cX7_copy 10 = .ok (.invokevirtual 94, 3) := by decide +kernel
theorem dX7_copy_13 : decode cX7_copy 13 = .ok (.ireturn, 1) := by decide +kernel
theorem dX7_copy_14 : decode cX7_copy 14 = .ok (.iload_n 3, 1) := by decide +kernel
theorem dX7_copy_15 : decode cX7_copy 15 = .ok (.ifCond .ge 10, 3) := by decide +kernel
theorem dX7_copy_18 : decode cX7_copy 18 = .ok (.aload_n 0, 1) := by decide +kernel
theorem dX7_copy_19 : decode cX7_copy 19 = .ok (.bipush (-4), 2) := by decide +kernel
theorem dX7_copy_21 : decode cX7_copy 21 = .ok (.invokevirtual 94, 3) := by decide +kernel
theorem dX7_copy_24 : decode cX7_copy 24 = .ok (.ireturn, 1) := by decide +kernel
theorem dX7_copy_25 : decode cX7_copy 25 = .ok (.iload_n 1, 1) := by decide +kernel
theorem dX7_copy_26 : decode cX7_copy 26 = .ok (.ifCond .lt 35, 3) := by decide +kernel
theorem dX7_copy_29 : decode cX7_copy 29 = .ok (.iload_n 2, 1) := by decide +kernel
theorem dX7_copy_30 : decode cX7_copy 30 = .ok (.ifCond .lt 31, 3) := by decide +kernel
theorem dX7_copy_33 : decode cX7_copy 33 = .ok (.iload_n 1, 1) := by decide +kernel
theorem dX7_copy_34 : decode cX7_copy 34 = .ok (.bipush 48, 2) := by decide +kernel
theorem dX7_copy_36 : decode cX7_copy 36 = .ok (.if_icmp .gt 25, 3) := by decide +kernel
theorem dX7_copy_39 : decode cX7_copy 39 = .ok (.iload_n 2, 1) := by decide +kernel
theorem dX7_copy_40 : decode cX7_copy 40 = .ok (.bipush 48, 2) := by decide +kernel
theorem dX7_copy_42 : decode cX7_copy 42 = .ok (.if_icmp .gt 19, 3) := by decide +kernel
theorem dX7_copy_45 : decode cX7_copy 45 = .ok (.iload_n 3, 1) := by decide +kernel
theorem dX7_copy_46 : decode cX7_copy 46 = .ok (.bipush 48, 2) := by decide +kernel
theorem dX7_copy_48 : decode cX7_copy 48 = .ok (.iload_n 1, 1) := by decide +kernel
theorem dX7_copy_49 : decode cX7_copy 49 = .ok (.isub, 1) := by decide +kernel
theorem dX7_copy_50 : decode cX7_copy 50 = .ok (.if_icmp .gt 11, 3) := by decide +kernel
theorem dX7_copy_53 : decode cX7_copy 53 = .ok (.iload_n 3, 1) := by decide +kernel
theorem dX7_copy_54 : decode cX7_copy 54 = .ok (.bipush 48, 2) := by decide +kernel
theorem dX7_copy_56 : decode cX7_copy 56 = .ok (.iload_n 2, 1) := by decide +kernel
theorem dX7_copy_57 : decode cX7_copy 57 = .ok (.isub, 1) := by decide +kernel
theorem dX7_copy_58 : decode cX7_copy 58 = .ok (.if_icmp .le 10, 3) := by decide +kernel
theorem dX7_copy_61 : decode cX7_copy 61 = .ok (.aload_n 0, 1) := by decide +kernel
theorem dX7_copy_62 : decode cX7_copy 62 = .ok (.bipush (-6), 2) := by decide +kernel
theorem dX7_copy_64 : decode cX7_copy 64 = .ok (.invokevirtual 94, 3) := by decide +kernel
theorem dX7_copy_67 : decode cX7_copy 67 = .ok (.ireturn, 1) := by decide +kernel
theorem dX7_copy_68 : decode cX7_copy 68 = .ok (.iconst 0, 1) := by decide +kernel
theorem dX7_copy_69 : decode cX7_copy 69 = .ok (.istore 4, 2) := by decide +kernel
theorem dX7_copy_71 : decode cX7_copy 71 = .ok (.iload 4, 2) := by decide +kernel
theorem dX7_copy_73 : decode cX7_copy 73 = .ok (.iload_n 3, 1) := by decide +kernel
theorem dX7_copy_74 : decode cX7_copy 74 = .ok (.if_icmp .ge 25, 3) := by decide +kernel
theorem dX7_copy_77 : decode cX7_copy 77 = .ok (.aload_n 0, 1) := by decide +kernel
theorem dX7_copy_78 : decode cX7_copy 78 = .ok (.getfield 84, 3) := by decide +kernel
theorem dX7_copy_81 : decode cX7_copy 81 = .ok (.iload 4, 2) := by decide +kernel
theorem dX7_copy_83 : decode cX7_copy 83 = .ok (.aload_n 0, 1) := by decide +kernel
theorem dX7_copy_84 : decode cX7_copy 84 = .ok (.getfield 81, 3) := by decide +kernel
theorem dX7_copy_87 : decode cX7_copy 87 = .ok (.iload_n 1, 1) := by decide +kernel
theorem dX7_copy_88 : decode cX7_copy 88 = .ok (.iload 4, 2) := by decide +kernel
theorem dX7_copy_90 : decode cX7_copy 90 = .ok (.iadd, 1) := by decide +kernel
theorem dX7_copy_91 : decode cX7_copy 91 = .ok (.iaload, 1) := by decide +kernel
theorem dX7_copy_92 : decode cX7_copy 92 = .ok (.iastore, 1) := by decide +kernel
theorem dX7_copy_93 : decode cX7_copy 93 = .ok (.iinc 4 1, 3) := by decide +kernel
theorem dX7_copy_96 : decode cX7_copy 96 = .ok (.goto (-25), 3) := by decide +kernel
theorem dX7_copy_99 : decode cX7_copy 99 = .ok (.iconst 0, 1) := by decide +kernel
theorem dX7_copy_100 : decode cX7_copy 100 = .ok (.istore 4, 2) := by decide +kernel
theorem dX7_copy_102 : decode cX7_copy 102 = .ok (.iload 4, 2) := by decide +kernel
theorem dX7_copy_104 : decode cX7_copy 104 = .ok (.iload_n 3, 1) := by decide +kernel
theorem dX7_copy_105 : decode cX7_copy 105 = .ok (.if_icmp .ge 25, 3) := by decide +kernel
theorem dX7_copy_108 : decode cX7_copy 108 = .ok (.aload_n 0, 1) := by decide +kernel
theorem dX7_copy_109 : decode cX7_copy 109 = .ok (.getfield 81, 3) := by decide +kernel
theorem dX7_copy_112 : decode cX7_copy 112 = .ok (.iload_n 2, 1) := by decide +kernel
theorem dX7_copy_113 : decode cX7_copy 113 = .ok (.iload 4, 2) := by decide +kernel
theorem dX7_copy_115 : decode cX7_copy 115 = .ok (.iadd, 1) := by decide +kernel
theorem dX7_copy_116 : decode cX7_copy 116 = .ok (.aload_n 0, 1) := by decide +kernel
theorem dX7_copy_117 : decode cX7_copy 117 = .ok (.getfield 84, 3) := by decide +kernel
theorem dX7_copy_120 : decode cX7_copy 120 = .ok (.iload 4, 2) := by decide +kernel
theorem dX7_copy_122 : decode cX7_copy 122 = .ok (.iaload, 1) := by decide +kernel
theorem dX7_copy_123 : decode cX7_copy 123 = .ok (.iastore, 1) := by decide +kernel
theorem dX7_copy_124 : decode cX7_copy 124 = .ok (.iinc 4 1, 3) := by decide +kernel
theorem dX7_copy_127 : decode cX7_copy 127 = .ok (.goto (-25), 3) := by decide +kernel
theorem dX7_copy_130 : decode cX7_copy 130 = .ok (.iload_n 3, 1) := by decide +kernel
theorem dX7_copy_131 : decode cX7_copy 131 = .ok (.ireturn, 1) := by decide +kernel
theorem dX7_status_0 : decode cX7_status 0 = .ok (.iload_n 1, 1) := by decide +kernel
theorem dX7_status_1 : decode cX7_status 1 = .ok (.bipush (-8), 2) := by decide +kernel
theorem dX7_status_3 : decode cX7_status 3 = .ok (.bipush (-2), 2) := by decide +kernel
theorem dX7_status_5 : decode cX7_status 5 = .ok (.invokestatic 87, 3) := by decide +kernel
theorem dX7_status_8 : decode cX7_status 8 = .ok (.ifCond .eq 13, 3) := by decide +kernel
theorem dX7_status_11 : decode cX7_status 11 = .ok (.aload_n 0, 1) := by decide +kernel
theorem dX7_status_12 : decode cX7_status 12 = .ok (.getfield 7, 3) := by decide +kernel
theorem dX7_status_15 : decode cX7_status 15 = .ok (.iload_n 1, 1) := by decide +kernel
theorem dX7_status_16 : decode cX7_status 16 = .ok (.ineg, 1) := by decide +kernel
theorem dX7_status_17 : decode cX7_status 17 = .ok (.iaload, 1) := by decide +kernel
theorem dX7_status_18 : decode cX7_status 18 = .ok (.goto 9, 3) := by decide +kernel
theorem dX7_status_21 : decode cX7_status 21 = .ok (.aload_n 0, 1) := by decide +kernel
theorem dX7_status_22 : decode cX7_status 22 = .ok (.bipush (-7), 2) := by decide +kernel
theorem dX7_status_24 : decode cX7_status 24 = .ok (.invokevirtual 94, 3) := by decide +kernel
theorem dX7_status_27 : decode cX7_status 27 = .ok (.ireturn, 1) := by decide +kernel
end
section
theorem dL_law_0 : decode cL_law 0 = .ok (.new 7, 3) := by decide +kernel
theorem dL_law_3 : decode cL_law 3 = .ok (.dup, 1) := by decide +kernel
theorem dL_law_4 : decode cL_law 4 = .ok (.invokespecial 9, 3) := by decide +kernel
theorem dL_law_7 : decode cL_law 7 = .ok (.astore_n 1, 1) := by decide +kernel
theorem dL_law_8 : decode cL_law 8 = .ok (.new 10, 3) := by decide +kernel
theorem dL_law_11 : decode cL_law 11 = .ok (.dup, 1) := by decide +kernel
theorem dL_law_12 : decode cL_law 12 = .ok (.invokespecial 12, 3) := by decide +kernel
theorem dL_law_15 : decode cL_law 15 = .ok (.astore_n 2, 1) := by decide +kernel
theorem dL_law_16 : decode cL_law 16 = .ok (.iconst 0, 1) := by decide +kernel
theorem dL_law_17 : decode cL_law 17 = .ok (.istore_n 3, 1) := by decide +kernel
theorem dL_law_18 : decode cL_law 18 = .ok (.iload_n 3, 1) := by decide +kernel
theorem dL_law_19 : decode cL_law 19 = .ok (.aload_n 0, 1) := by decide +kernel
theorem dL_law_20 : decode cL_law 20 = .ok (.arraylength, 1) := by decide +kernel
theorem dL_law_21 : decode cL_law 21 = .ok (.iconst 4, 1) := by decide +kernel
theorem dL_law_22 : decode cL_law 22 = .ok (.isub, 1) := by decide +kernel
theorem dL_law_23 : decode cL_law 23 = .ok (.if_icmp .gt 990, 3) := by decide +kernel
theorem dL_law_26 : decode cL_law 26 = .ok (.aload_n 0, 1) := by decide +kernel
theorem dL_law_27 : decode cL_law 27 = .ok (.iload_n 3, 1) := by decide +kernel
theorem dL_law_28 : decode cL_law 28 = .ok (.iaload, 1) := by decide +kernel
theorem dL_law_29 : decode cL_law 29 = .ok (.bipush 31, 2) := by decide +kernel
theorem dL_law_31 : decode cL_law 31 = .ok (.iand, 1) := by decide +kernel
theorem dL_law_32 : decode cL_law 32 = .ok (.tableswitch 975 0 28 #[132, 191, 224, 257, 280, 313, 346, 359, 382, 405, 428, 451, 474, 517, 550, 583, 616, 639, 662, 695, 728, 741, 774, 817, 840, 873, 886, 909, 952], 132) := by decide +kernel
theorem dL_law_164 : decode cL_law 164 = .ok (.aload_n 1, 1) := by decide +kernel
theorem dL_law_165 : decode cL_law 165 = .ok (.aload_n 0, 1) := by decide +kernel
theorem dL_law_166 : decode cL_law 166 = .ok (.iload_n 3, 1) := by decide +kernel
theorem dL_law_167 : decode cL_law 167 = .ok (.iconst 1, 1) := by decide +kernel
theorem dL_law_168 : decode cL_law 168 = .ok (.iadd, 1) := by decide +kernel
theorem dL_law_169 : decode cL_law 169 = .ok (.iaload, 1) := by decide +kernel
theorem dL_law_170 : decode cL_law 170 = .ok (.aload_n 0, 1) := by decide +kernel
theorem dL_law_171 : decode cL_law 171 = .ok (.iload_n 3, 1) := by decide +kernel
theorem dL_law_172 : decode cL_law 172 = .ok (.iconst 2, 1) := by decide +kernel
theorem dL_law_173 : decode cL_law 173 = .ok (.iadd, 1) := by decide +kernel
theorem dL_law_174 : decode cL_law 174 = .ok (.iaload, 1) := by decide +kernel
theorem dL_law_175 : decode cL_law 175 = .ok (.aload_n 0, 1) := by decide +kernel
theorem dL_law_176 : decode cL_law 176 = .ok (.iload_n 3, 1) := by decide +kernel
theorem dL_law_177 : decode cL_law 177 = .ok (.iconst 3, 1) := by decide +kernel
theorem dL_law_178 : decode cL_law 178 = .ok (.iadd, 1) := by decide +kernel
theorem dL_law_179 : decode cL_law 179 = .ok (.iaload, 1) := by decide +kernel
theorem dL_law_180 : decode cL_law 180 = .ok (.ifCond .eq 7, 3) := by decide +kernel
theorem dL_law_183 : decode cL_law 183 = .ok (.iconst 1, 1) := by decide +kernel
theorem dL_law_184 : decode cL_law 184 = .ok (.goto 4, 3) := by decide +kernel
theorem dL_law_187 : decode cL_law 187 = .ok (.iconst 0, 1) := by decide +kernel
theorem dL_law_188 : decode cL_law 188 = .ok (.invokevirtual 13, 3) := by decide +kernel
theorem dL_law_191 : decode cL_law 191 = .ok (.aload_n 2, 1) := by decide +kernel
theorem dL_law_192 : decode cL_law 192 = .ok (.aload_n 0, 1) := by decide +kernel
theorem dL_law_193 : decode cL_law 193 = .ok (.iload_n 3, 1) := by decide +kernel
theorem dL_law_194 : decode cL_law 194 = .ok (.iconst 1, 1) := by decide +kernel
theorem dL_law_195 : decode cL_law 195 = .ok (.iadd, 1) := by decide +kernel
theorem dL_law_196 : decode cL_law 196 = .ok (.iaload, 1) := by decide +kernel
theorem dL_law_197 : decode cL_law 197 = .ok (.aload_n 0, 1) := by decide +kernel
theorem dL_law_198 : decode cL_law 198 = .ok (.iload_n 3, 1) := by decide +kernel
theorem dL_law_199 : decode cL_law 199 = .ok (.iconst 2, 1) := by decide +kernel
theorem dL_law_200 : decode cL_law 200 = .ok (.iadd, 1) := by decide +kernel
theorem dL_law_201 : decode cL_law 201 = .ok (.iaload, 1) := by decide +kernel
theorem dL_law_202 : decode cL_law 202 = .ok (.aload_n 0, 1) := by decide +kernel
theorem dL_law_203 : decode cL_law 203 = .ok (.iload_n 3, 1) := by decide +kernel
theorem dL_law_204 : decode cL_law 204 = .ok (.iconst 3, 1) := by decide +kernel
theorem dL_law_205 : decode cL_law 205 = .ok (.iadd, 1) := by decide +kernel
theorem dL_law_206 : decode cL_law 206 = .ok (.iaload, 1) := by decide +kernel
theorem dL_law_207 : decode cL_law 207 = .ok (.ifCond .eq 7, 3) := by decide +kernel
theorem dL_law_210 : decode cL_law 210 = .ok (.iconst 1, 1) := by decide +kernel
theorem dL_law_211 : decode cL_law 211 = .ok (.goto 4, 3) := by decide +kernel
theorem dL_law_214 : decode cL_law 214 = .ok (.iconst 0, 1) := by decide +kernel
theorem dL_law_215 : decode cL_law 215 = .ok (.invokevirtual 17, 3) := by decide +kernel
theorem dL_law_218 : decode cL_law 218 = .ok (.if_icmp .eq 789, 3) := by decide +kernel
theorem dL_law_221 : decode cL_law 221 = .ok (.iconst 0, 1) := by decide +kernel
theorem dL_law_222 : decode cL_law 222 = .ok (.ireturn, 1) := by decide +kernel
theorem dL_law_223 : decode cL_law 223 = .ok (.aload_n 1, 1) := by decide +kernel
theorem dL_law_224 : decode cL_law 224 = .ok (.aload_n 0, 1) := by decide +kernel
theorem dL_law_225 : decode cL_law 225 = .ok (.iload_n 3, 1) := by decide +kernel
theorem dL_law_226 : decode cL_law 226 = .ok (.iconst 1, 1) := by decide +kernel
theorem dL_law_227 : decode cL_law 227 = .ok (.iadd, 1) := by decide +kernel
theorem dL_law_228 : decode cL_law 228 = .ok (.iaload, 1) := by decide +kernel
theorem dL_law_229 : decode cL_law 229 = .ok (.aload_n 0, 1) := by decide +kernel
theorem dL_law_230 : decode cL_law 230 = .ok (.iload_n 3, 1) := by decide +kernel
theorem dL_law_231 : decode cL_law 231 = .ok (.iconst 2, 1) := by decide +kernel
theorem dL_law_232 : decode cL_law 232 = .ok (.iadd, 1) := by decide +kernel
theorem dL_law_233 : decode cL_law 233 = .ok (.iaload, 1) := by decide +kernel
theorem dL_law_234 : decode cL_law 234 = .ok (.invokevirtual 18, 3) := by decide +kernel
theorem dL_law_237 : decode cL_law 237 = .ok (.aload_n 2, 1) := by decide +kernel
theorem dL_law_238 : decode cL_law 238 = .ok (.aload_n 0, 1) := by decide +kernel
theorem dL_law_239 : decode cL_law 239 = .ok (.iload_n 3, 1) := by decide +kernel
theorem dL_law_240 : decode cL_law 240 = .ok (.iconst 1, 1) := by decide +kernel
theorem dL_law_241 : decode cL_law 241 = .ok (.iadd, 1) := by decide +kernel
theorem dL_law_242 : decode cL_law 242 = .ok (.iaload, 1) := by decide +kernel
theorem dL_law_243 : decode cL_law 243 = .ok (.aload_n 0, 1) := by decide +kernel
theorem dL_law_244 : decode cL_law 244 = .ok (.iload_n 3, 1) := by decide +kernel
theorem dL_law_245 : decode cL_law 245 = .ok (.iconst 2, 1) := by decide +kernel
theorem dL_law_246 : decode cL_law 246 = .ok (.iadd, 1) := by decide +kernel
theorem dL_law_247 : decode cL_law 247 = .ok (.iaload, 1) := by decide +kernel
theorem dL_law_248 : decode cL_law 248 = .ok (.invokevirtual 22, 3) := by decide +kernel
theorem dL_law_251 : decode cL_law 251 = .ok (.if_icmp .eq 756, 3) := by decide +kernel
theorem dL_law_254 : decode cL_law 254 = .ok (.iconst 0, 1) := by decide +kernel
theorem dL_law_255 : decode cL_law 255 = .ok (.ireturn, 1) := by decide +kernel
theorem dL_law_256 : decode cL_law 256 = .ok (.aload_n 1, 1) := by decide +kernel
theorem dL_law_257 : decode cL_law 257 = .ok (.aload_n 0, 1) := by decide +kernel
theorem dL_law_258 : decode cL_law 258 = .ok (.iload_n 3, 1) := by decide +kernel
theorem dL_law_259 : decode cL_law 259 = .ok (.iconst 1, 1) := by decide +kernel
theorem dL_law_260 : decode cL_law 260 = .ok (.iadd, 1) := by decide +kernel
theorem dL_law_261 : decode cL_law 261 = .ok (.iaload, 1) := by decide +kernel
theorem dL_law_262 : decode cL_law 262 = .ok (.aload_n 0, 1) := by decide +kernel
theorem dL_law_263 : decode cL_law 263 = .ok (.iload_n 3, 1) := by decide +kernel
theorem dL_law_264 : decode cL_law 264 = .ok (.iconst 2, 1) := by decide +kernel
theorem dL_law_265 : decode cL_law 265 = .ok (.iadd, 1) := by decide +kernel
theorem dL_law_266 : decode cL_law 266 = .ok (.iaload, 1) := by decide +kernel
theorem dL_law_267 : decode cL_law 267 = .ok (.invokevirtual 23, 3) := by decide +kernel
theorem dL_law_270 : decode cL_law 270 = .ok (.aload_n 2, 1) := by decide +kernel
theorem dL_law_271 : decode cL_law 271 = .ok (.aload_n 0, 1) := by decide +kernel
theorem dL_law_272 : decode cL_law 272 = .ok (.iload_n 3, 1) := by decide +kernel
theorem dL_law_273 : decode cL_law 273 = .ok (.iconst 1, 1) := by decide +kernel
theorem dL_law_274 : decode cL_law 274 = .ok (.iadd, 1) := by decide +kernel
theorem dL_law_275 : decode cL_law 275 = .ok (.iaload, 1) := by decide +kernel
theorem dL_law_276 : decode cL_law 276 = .ok (.aload_n 0, 1) := by decide +kernel
theorem dL_law_277 : decode cL_law 277 = .ok (.iload_n 3, 1) := by decide +kernel
theorem dL_law_278 : decode cL_law 278 = .ok (.iconst 2, 1) := by decide +kernel
theorem dL_law_279 : decode cL_law 279 = .ok (.iadd, 1) := by decide +kernel
theorem dL_law_280 : decode cL_law 280 = .ok (.iaload, 1) := by decide +kernel
theorem dL_law_281 : decode cL_law 281 = .ok (.invokevirtual 26, 3) := by decide +kernel
theorem dL_law_284 : decode cL_law 284 = .ok (.if_icmp .eq 723, 3) := by decide +kernel
theorem dL_law_287 : decode cL_law 287 = .ok (.iconst 0, 1) := by decide +kernel
theorem dL_law_288 : decode cL_law 288 = .ok (.ireturn, 1) := by decide +kernel
theorem dL_law_289 : decode cL_law 289 = .ok (.aload_n 1, 1) := by decide +kernel
theorem dL_law_290 : decode cL_law 290 = .ok (.aload_n 0, 1) := by decide +kernel
theorem dL_law_291 : decode cL_law 291 = .ok (.iload_n 3, 1) := by decide +kernel
theorem dL_law_292 : decode cL_law 292 = .ok (.iconst 1, 1) := by decide +kernel
theorem dL_law_293 : decode cL_law 293 = .ok (.iadd, 1) := by decide +kernel
theorem dL_law_294 : decode cL_law 294 = .ok (.iaload, 1) := by decide +kernel
theorem dL_law_295 : decode cL_law 295 = .ok (.invokevirtual 27, 3) := by decide +kernel
theorem dL_law_298 : decode cL_law 298 = .ok (.aload_n 2, 1) := by decide +kernel
theorem dL_law_299 : decode cL_law 299 = .ok (.aload_n 0, 1) := by decide +kernel
theorem dL_law_300 : decode cL_law 300 = .ok (.iload_n 3, 1) := by decide +kernel
theorem dL_law_301 : decode cL_law 301 = .ok (.iconst 1, 1) := by decide +kernel
theorem dL_law_302 : decode cL_law 302 = .ok (.iadd, 1) := by decide +kernel
theorem dL_law_303 : decode cL_law 303 = .ok (.iaload, 1) := by decide +kernel
theorem dL_law_304 : decode cL_law 304 = .ok (.invokevirtual 31, 3) := by decide +kernel
theorem dL_law_307 : decode cL_law 307 = .ok (.if_icmp .eq 700, 3) := by decide +kernel
theorem dL_law_310 : decode cL_law 310 = .ok (.iconst 0, 1) := by decide +kernel
theorem dL_law_311 : decode cL_law 311 = .ok (.ireturn, 1) := by decide +kernel
theorem dL_law_312 : decode cL_law 312 = .ok (.aload_n 1, 1) := by decide +kernel
theorem dL_law_313 : decode cL_law 313 = .ok (.aload_n 0, 1) := by decide +kernel
theorem dL_law_314 : decode cL_law 314 = .ok (.iload_n 3, 1) := by decide +kernel
theorem dL_law_315 : decode cL_law 315 = .ok (.iconst 1, 1) := by decide +kernel
theorem dL_law_316 : decode cL_law 316 = .ok (.iadd, 1) := by decide +kernel
theorem dL_law_317 : decode cL_law 317 = .ok (.iaload, 1) := by decide +kernel
theorem dL_law_318 : decode cL_law 318 = .ok (.aload_n 0, 1) := by decide +kernel
theorem dL_law_319 : decode cL_law 319 = .ok (.iload_n 3, 1) := by decide +kernel
theorem dL_law_320 : decode cL_law 320 = .ok (.iconst 2, 1) := by decide +kernel
theorem dL_law_321 : decode cL_law 321 = .ok (.iadd, 1) := by decide +kernel
theorem dL_law_322 : decode cL_law 322 = .ok (.iaload, 1) := by decide +kernel
theorem dL_law_323 : decode cL_law 323 = .ok (.invokevirtual 32, 3) := by decide +kernel
theorem dL_law_326 : decode cL_law 326 = .ok (.aload_n 2, 1) := by decide +kernel
theorem dL_law_327 : decode cL_law 327 = .ok (.aload_n 0, 1) := by decide +kernel
theorem dL_law_328 : decode cL_law 328 = .ok (.iload_n 3, 1) := by decide +kernel
theorem dL_law_329 : decode cL_law 329 = .ok (.iconst 1, 1) := by decide +kernel
theorem dL_law_330 : decode cL_law 330 = .ok (.iadd, 1) := by decide +kernel
theorem dL_law_331 : decode cL_law 331 = .ok (.iaload, 1) := by decide +kernel
theorem dL_law_332 : decode cL_law 332 = .ok (.aload_n 0, 1) := by decide +kernel
theorem dL_law_333 : decode cL_law 333 = .ok (.iload_n 3, 1) := by decide +kernel
theorem dL_law_334 : decode cL_law 334 = .ok (.iconst 2, 1) := by decide +kernel
theorem dL_law_335 : decode cL_law 335 = .ok (.iadd, 1) := by decide +kernel
theorem dL_law_336 : decode cL_law 336 = .ok (.iaload, 1) := by decide +kernel
theorem dL_law_337 : decode cL_law 337 = .ok (.invokevirtual 35, 3) := by decide +kernel
theorem dL_law_340 : decode cL_law 340 = .ok (.if_icmp .eq 667, 3) := by decide +kernel
theorem dL_law_343 : decode cL_law 343 = .ok (.iconst 0, 1) := by decide +kernel
theorem dL_law_344 : decode cL_law 344 = .ok (.ireturn, 1) := by decide +kernel
theorem dL_law_345 : decode cL_law 345 = .ok (.aload_n 1, 1) := by decide +kernel
theorem dL_law_346 : decode cL_law 346 = .ok (.aload_n 0, 1) := by decide +kernel
theorem dL_law_347 : decode cL_law 347 = .ok (.iload_n 3, 1) := by decide +kernel
theorem dL_law_348 : decode cL_law 348 = .ok (.iconst 1, 1) := by decide +kernel
theorem dL_law_349 : decode cL_law 349 = .ok (.iadd, 1) := by decide +kernel
theorem dL_law_350 : decode cL_law 350 = .ok (.iaload, 1) := by decide +kernel
theorem dL_law_351 : decode cL_law 351 = .ok (.aload_n 0, 1) := by decide +kernel
theorem dL_law_352 : decode cL_law 352 = .ok (.iload_n 3, 1) := by decide +kernel
theorem dL_law_353 : decode cL_law 353 = .ok (.iconst 2, 1) := by decide +kernel
theorem dL_law_354 : decode cL_law 354 = .ok (.iadd, 1) := by decide +kernel
theorem dL_law_355 : decode cL_law 355 = .ok (.iaload, 1) := by decide +kernel
theorem dL_law_356 : decode cL_law 356 = .ok (.invokevirtual 36, 3) := by decide +kernel
theorem dL_law_359 : decode cL_law 359 = .ok (.aload_n 2, 1) := by decide +kernel
theorem dL_law_360 : decode cL_law 360 = .ok (.aload_n 0, 1) := by decide +kernel
theorem dL_law_361 : decode cL_law 361 = .ok (.iload_n 3, 1) := by decide +kernel
theorem dL_law_362 : decode cL_law 362 = .ok (.iconst 1, 1) := by decide +kernel
theorem dL_law_363 : decode cL_law 363 = .ok (.iadd, 1) := by decide +kernel
theorem dL_law_364 : decode cL_law 364 = .ok (.iaload, 1) := by decide +kernel
theorem dL_law_365 : decode cL_law 365 = .ok (.aload_n 0, 1) := by decide +kernel
theorem dL_law_366 : decode cL_law 366 = .ok (.iload_n 3, 1) := by decide +kernel
theorem dL_law_367 : decode cL_law 367 = .ok (.iconst 2, 1) := by decide +kernel
theorem dL_law_368 : decode cL_law 368 = .ok (.iadd, 1) := by decide +kernel
theorem dL_law_369 : decode cL_law 369 = .ok (.iaload, 1) := by decide +kernel
theorem dL_law_370 : decode cL_law 370 = .ok (.invokevirtual 39, 3) := by decide +kernel
theorem dL_law_373 : decode cL_law 373 = .ok (.if_icmp .eq 634, 3) := by decide +kernel
theorem dL_law_376 : decode cL_law 376 = .ok (.iconst 0, 1) := by decide +kernel
theorem dL_law_377 : decode cL_law 377 = .ok (.ireturn, 1) := by decide +kernel
theorem dL_law_378 : decode cL_law 378 = .ok (.aload_n 1, 1) := by decide +kernel
theorem dL_law_379 : decode cL_law 379 = .ok (.invokevirtual 40, 3) := by decide +kernel
theorem dL_law_382 : decode cL_law 382 = .ok (.aload_n 2, 1) := by decide +kernel
theorem dL_law_383 : decode cL_law 383 = .ok (.invokevirtual 44, 3) := by decide +kernel
theorem dL_law_386 : decode cL_law 386 = .ok (.if_icmp .eq 621, 3) := by decide +kernel
theorem dL_law_389 : decode cL_law 389 = .ok (.iconst 0, 1) := by decide +kernel
theorem dL_law_390 : decode cL_law 390 = .ok (.ireturn, 1) := by decide +kernel
theorem dL_law_391 : decode cL_law 391 = .ok (.aload_n 1, 1) := by decide +kernel
theorem dL_law_392 : decode cL_law 392 = .ok (.aload_n 0, 1) := by decide +kernel
theorem dL_law_393 : decode cL_law 393 = .ok (.iload_n 3, 1) := by decide +kernel
theorem dL_law_394 : decode cL_law 394 = .ok (.iconst 1, 1) := by decide +kernel
theorem dL_law_395 : decode cL_law 395 = .ok (.iadd, 1) := by decide +kernel
theorem dL_law_396 : decode cL_law 396 = .ok (.iaload, 1) := by decide +kernel
theorem dL_law_397 : decode cL_law 397 = .ok (.invokevirtual 45, 3) := by decide +kernel
theorem dL_law_400 : decode cL_law 400 = .ok (.aload_n 2, 1) := by decide +kernel
theorem dL_law_401 : decode cL_law 401 = .ok (.aload_n 0, 1) := by decide +kernel
theorem dL_law_402 : decode cL_law 402 = .ok (.iload_n 3, 1) := by decide +kernel
theorem dL_law_403 : decode cL_law 403 = .ok (.iconst 1, 1) := by decide +kernel
theorem dL_law_404 : decode cL_law 404 = .ok (.iadd, 1) := by decide +kernel
theorem dL_law_405 : decode cL_law 405 = .ok (.iaload, 1) := by decide +kernel
theorem dL_law_406 : decode cL_law 406 = .ok (.invokevirtual 48, 3) := by decide +kernel
theorem dL_law_409 : decode cL_law 409 = .ok (.if_icmp .eq 598, 3) := by decide +kernel
theorem dL_law_412 : decode cL_law 412 = .ok (.iconst 0, 1) := by decide +kernel
theorem dL_law_413 : decode cL_law 413 = .ok (.ireturn, 1) := by decide +kernel
theorem dL_law_414 : decode cL_law 414 = .ok (.aload_n 1, 1) := by decide +kernel
theorem dL_law_415 : decode cL_law 415 = .ok (.aload_n 0, 1) := by decide +kernel
theorem dL_law_416 : decode cL_law 416 = .ok (.iload_n 3, 1) := by decide +kernel
theorem dL_law_417 : decode cL_law 417 = .ok (.iconst 1, 1) := by decide +kernel
theorem dL_law_418 : decode cL_law 418 = .ok (.iadd, 1) := by decide +kernel
theorem dL_law_419 : decode cL_law 419 = .ok (.iaload, 1) := by decide +kernel
theorem dL_law_420 : decode cL_law 420 = .ok (.invokevirtual 49, 3) := by decide +kernel
theorem dL_law_423 : decode cL_law 423 = .ok (.aload_n 2, 1) := by decide +kernel
theorem dL_law_424 : decode cL_law 424 = .ok (.aload_n 0, 1) := by decide +kernel
theorem dL_law_425 : decode cL_law 425 = .ok (.iload_n 3, 1) := by decide +kernel
theorem dL_law_426 : decode cL_law 426 = .ok (.iconst 1, 1) := by decide +kernel
theorem dL_law_427 : decode cL_law 427 = .ok (.iadd, 1) := by decide +kernel
theorem dL_law_428 : decode cL_law 428 = .ok (.iaload, 1) := by decide +kernel
theorem dL_law_429 : decode cL_law 429 = .ok (.invokevirtual 52, 3) := by decide +kernel
theorem dL_law_432 : decode cL_law 432 = .ok (.if_icmp .eq 575, 3) := by decide +kernel
theorem dL_law_435 : decode cL_law 435 = .ok (.iconst 0, 1) := by decide +kernel
theorem dL_law_436 : decode cL_law 436 = .ok (.ireturn, 1) := by decide +kernel
theorem dL_law_437 : decode cL_law 437 = .ok (.aload_n 1, 1) := by decide +kernel
theorem dL_law_438 : decode cL_law 438 = .ok (.aload_n 0, 1) := by decide +kernel
theorem dL_law_439 : decode cL_law 439 = .ok (.iload_n 3, 1) := by decide +kernel
theorem dL_law_440 : decode cL_law 440 = .ok (.iconst 1, 1) := by decide +kernel
theorem dL_law_441 : decode cL_law 441 = .ok (.iadd, 1) := by decide +kernel
theorem dL_law_442 : decode cL_law 442 = .ok (.iaload, 1) := by decide +kernel
theorem dL_law_443 : decode cL_law 443 = .ok (.invokevirtual 53, 3) := by decide +kernel
theorem dL_law_446 : decode cL_law 446 = .ok (.aload_n 2, 1) := by decide +kernel
theorem dL_law_447 : decode cL_law 447 = .ok (.aload_n 0, 1) := by decide +kernel
theorem dL_law_448 : decode cL_law 448 = .ok (.iload_n 3, 1) := by decide +kernel
theorem dL_law_449 : decode cL_law 449 = .ok (.iconst 1, 1) := by decide +kernel
theorem dL_law_450 : decode cL_law 450 = .ok (.iadd, 1) := by decide +kernel
theorem dL_law_451 : decode cL_law 451 = .ok (.iaload, 1) := by decide +kernel
theorem dL_law_452 : decode cL_law 452 = .ok (.invokevirtual 56, 3) := by decide +kernel
theorem dL_law_455 : decode cL_law 455 = .ok (.if_icmp .eq 552, 3) := by decide +kernel
theorem dL_law_458 : decode cL_law 458 = .ok (.iconst 0, 1) := by decide +kernel
theorem dL_law_459 : decode cL_law 459 = .ok (.ireturn, 1) := by decide +kernel
theorem dL_law_460 : decode cL_law 460 = .ok (.aload_n 1, 1) := by decide +kernel
theorem dL_law_461 : decode cL_law 461 = .ok (.aload_n 0, 1) := by decide +kernel
theorem dL_law_462 : decode cL_law 462 = .ok (.iload_n 3, 1) := by decide +kernel
theorem dL_law_463 : decode cL_law 463 = .ok (.iconst 1, 1) := by decide +kernel
theorem dL_law_464 : decode cL_law 464 = .ok (.iadd, 1) := by decide +kernel
theorem dL_law_465 : decode cL_law 465 = .ok (.iaload, 1) := by decide +kernel
theorem dL_law_466 : decode cL_law 466 = .ok (.invokevirtual 57, 3) := by decide +kernel
theorem dL_law_469 : decode cL_law 469 = .ok (.aload_n 2, 1) := by decide +kernel
theorem dL_law_470 : decode cL_law 470 = .ok (.aload_n 0, 1) := by decide +kernel
theorem dL_law_471 : decode cL_law 471 = .ok (.iload_n 3, 1) := by decide +kernel
theorem dL_law_472 : decode cL_law 472 = .ok (.iconst 1, 1) := by decide +kernel
theorem dL_law_473 : decode cL_law 473 = .ok (.iadd, 1) := by decide +kernel
theorem dL_law_474 : decode cL_law 474 = .ok (.iaload, 1) := by decide +kernel
theorem dL_law_475 : decode cL_law 475 = .ok (.invokevirtual 60, 3) := by decide +kernel
theorem dL_law_478 : decode cL_law 478 = .ok (.if_icmp .eq 529, 3) := by decide +kernel
theorem dL_law_481 : decode cL_law 481 = .ok (.iconst 0, 1) := by decide +kernel
theorem dL_law_482 : decode cL_law 482 = .ok (.ireturn, 1) := by decide +kernel
theorem dL_law_483 : decode cL_law 483 = .ok (.aload_n 1, 1) := by decide +kernel
theorem dL_law_484 : decode cL_law 484 = .ok (.aload_n 0, 1) := by decide +kernel
theorem dL_law_485 : decode cL_law 485 = .ok (.iload_n 3, 1) := by decide +kernel
theorem dL_law_486 : decode cL_law 486 = .ok (.iconst 1, 1) := by decide +kernel
theorem dL_law_487 : decode cL_law 487 = .ok (.iadd, 1) := by decide +kernel
theorem dL_law_488 : decode cL_law 488 = .ok (.iaload, 1) := by decide +kernel
theorem dL_law_489 : decode cL_law 489 = .ok (.invokevirtual 61, 3) := by decide +kernel
theorem dL_law_492 : decode cL_law 492 = .ok (.aload_n 2, 1) := by decide +kernel
theorem dL_law_493 : decode cL_law 493 = .ok (.aload_n 0, 1) := by decide +kernel
theorem dL_law_494 : decode cL_law 494 = .ok (.iload_n 3, 1) := by decide +kernel
theorem dL_law_495 : decode cL_law 495 = .ok (.iconst 1, 1) := by decide +kernel
theorem dL_law_496 : decode cL_law 496 = .ok (.iadd, 1) := by decide +kernel
theorem dL_law_497 : decode cL_law 497 = .ok (.iaload, 1) := by decide +kernel
theorem dL_law_498 : decode cL_law 498 = .ok (.invokevirtual 64, 3) := by decide +kernel
theorem dL_law_501 : decode cL_law 501 = .ok (.if_icmp .eq 506, 3) := by decide +kernel
theorem dL_law_504 : decode cL_law 504 = .ok (.iconst 0, 1) := by decide +kernel
theorem dL_law_505 : decode cL_law 505 = .ok (.ireturn, 1) := by decide +kernel
theorem dL_law_506 : decode cL_law 506 = .ok (.aload_n 1, 1) := by decide +kernel
theorem dL_law_507 : decode cL_law 507 = .ok (.aload_n 0, 1) := by decide +kernel
theorem dL_law_508 : decode cL_law 508 = .ok (.iload_n 3, 1) := by decide +kernel
theorem dL_law_509 : decode cL_law 509 = .ok (.iconst 1, 1) := by decide +kernel
theorem dL_law_510 : decode cL_law 510 = .ok (.iadd, 1) := by decide +kernel
theorem dL_law_511 : decode cL_law 511 = .ok (.iaload, 1) := by decide +kernel
theorem dL_law_512 : decode cL_law 512 = .ok (.aload_n 0, 1) := by decide +kernel
theorem dL_law_513 : decode cL_law 513 = .ok (.iload_n 3, 1) := by decide +kernel
theorem dL_law_514 : decode cL_law 514 = .ok (.iconst 2, 1) := by decide +kernel
theorem dL_law_515 : decode cL_law 515 = .ok (.iadd, 1) := by decide +kernel
theorem dL_law_516 : decode cL_law 516 = .ok (.iaload, 1) := by decide +kernel
theorem dL_law_517 : decode cL_law 517 = .ok (.aload_n 0, 1) := by decide +kernel
theorem dL_law_518 : decode cL_law 518 = .ok (.iload_n 3, 1) := by decide +kernel
theorem dL_law_519 : decode cL_law 519 = .ok (.iconst 3, 1) := by decide +kernel
theorem dL_law_520 : decode cL_law 520 = .ok (.iadd, 1) := by decide +kernel
theorem dL_law_521 : decode cL_law 521 = .ok (.iaload, 1) := by decide +kernel
theorem dL_law_522 : decode cL_law 522 = .ok (.invokevirtual 65, 3) := by decide +kernel
theorem dL_law_525 : decode cL_law 525 = .ok (.aload_n 2, 1) := by decide +kernel
theorem dL_law_526 : decode cL_law 526 = .ok (.aload_n 0, 1) := by decide +kernel
theorem dL_law_527 : decode cL_law 527 = .ok (.iload_n 3, 1) := by decide +kernel
theorem dL_law_528 : decode cL_law 528 = .ok (.iconst 1, 1) := by decide +kernel
theorem dL_law_529 : decode cL_law 529 = .ok (.iadd, 1) := by decide +kernel
theorem dL_law_530 : decode cL_law 530 = .ok (.iaload, 1) := by decide +kernel
theorem dL_law_531 : decode cL_law 531 = .ok (.aload_n 0, 1) := by decide +kernel
theorem dL_law_532 : decode cL_law 532 = .ok (.iload_n 3, 1) := by decide +kernel
theorem dL_law_533 : decode cL_law 533 = .ok (.iconst 2, 1) := by decide +kernel
theorem dL_law_534 : decode cL_law 534 = .ok (.iadd, 1) := by decide +kernel
theorem dL_law_535 : decode cL_law 535 = .ok (.iaload, 1) := by decide +kernel
theorem dL_law_536 : decode cL_law 536 = .ok (.aload_n 0, 1) := by decide +kernel
theorem dL_law_537 : decode cL_law 537 = .ok (.iload_n 3, 1) := by decide +kernel
theorem dL_law_538 : decode cL_law 538 = .ok (.iconst 3, 1) := by decide +kernel
theorem dL_law_539 : decode cL_law 539 = .ok (.iadd, 1) := by decide +kernel
theorem dL_law_540 : decode cL_law 540 = .ok (.iaload, 1) := by decide +kernel
theorem dL_law_541 : decode cL_law 541 = .ok (.invokevirtual 69, 3) := by decide +kernel
theorem dL_law_544 : decode cL_law 544 = .ok (.if_icmp .eq 463, 3) := by decide +kernel
theorem dL_law_547 : decode cL_law 547 = .ok (.iconst 0, 1) := by decide +kernel
theorem dL_law_548 : decode cL_law 548 = .ok (.ireturn, 1) := by decide +kernel
theorem dL_law_549 : decode cL_law 549 = .ok (.aload_n 1, 1) := by decide +kernel
theorem dL_law_550 : decode cL_law 550 = .ok (.aload_n 0, 1) := by decide +kernel
theorem dL_law_551 : decode cL_law 551 = .ok (.iload_n 3, 1) := by decide +kernel
theorem dL_law_552 : decode cL_law 552 = .ok (.iconst 1, 1) := by decide +kernel
theorem dL_law_553 : decode cL_law 553 = .ok (.iadd, 1) := by decide +kernel
theorem dL_law_554 : decode cL_law 554 = .ok (.iaload, 1) := by decide +kernel
theorem dL_law_555 : decode cL_law 555 = .ok (.aload_n 0, 1) := by decide +kernel
theorem dL_law_556 : decode cL_law 556 = .ok (.iload_n 3, 1) := by decide +kernel
theorem dL_law_557 : decode cL_law 557 = .ok (.iconst 2, 1) := by decide +kernel
theorem dL_law_558 : decode cL_law 558 = .ok (.iadd, 1) := by decide +kernel
theorem dL_law_559 : decode cL_law 559 = .ok (.iaload, 1) := by decide +kernel
theorem dL_law_560 : decode cL_law 560 = .ok (.invokevirtual 70, 3) := by decide +kernel
theorem dL_law_563 : decode cL_law 563 = .ok (.aload_n 2, 1) := by decide +kernel
theorem dL_law_564 : decode cL_law 564 = .ok (.aload_n 0, 1) := by decide +kernel
theorem dL_law_565 : decode cL_law 565 = .ok (.iload_n 3, 1) := by decide +kernel
theorem dL_law_566 : decode cL_law 566 = .ok (.iconst 1, 1) := by decide +kernel
theorem dL_law_567 : decode cL_law 567 = .ok (.iadd, 1) := by decide +kernel
theorem dL_law_568 : decode cL_law 568 = .ok (.iaload, 1) := by decide +kernel
theorem dL_law_569 : decode cL_law 569 = .ok (.aload_n 0, 1) := by decide +kernel
theorem dL_law_570 : decode cL_law 570 = .ok (.iload_n 3, 1) := by decide +kernel
theorem dL_law_571 : decode cL_law 571 = .ok (.iconst 2, 1) := by decide +kernel
theorem dL_law_572 : decode cL_law 572 = .ok (.iadd, 1) := by decide +kernel
theorem dL_law_573 : decode cL_law 573 = .ok (.iaload, 1) := by decide +kernel
theorem dL_law_574 : decode cL_law 574 = .ok (.invokevirtual 73, 3) := by decide +kernel
theorem dL_law_577 : decode cL_law 577 = .ok (.if_icmp .eq 430, 3) := by decide +kernel
theorem dL_law_580 : decode cL_law 580 = .ok (.iconst 0, 1) := by decide +kernel
theorem dL_law_581 : decode cL_law 581 = .ok (.ireturn, 1) := by decide +kernel
theorem dL_law_582 : decode cL_law 582 = .ok (.aload_n 1, 1) := by decide +kernel
theorem dL_law_583 : decode cL_law 583 = .ok (.aload_n 0, 1) := by decide +kernel
end
section
theorem dL_law_584 : decode cL_law 584 = .ok (.iload_n 3, 1) := by decide +kernel
theorem dL_law_585 : decode cL_law 585 = .ok (.iconst 1, 1) := by decide +kernel
theorem dL_law_586 : decode cL_law 586 = .ok (.iadd, 1) := by decide +kernel
theorem dL_law_587 : decode cL_law 587 = .ok (.iaload, 1) := by decide +kernel
theorem dL_law_588 : decode cL_law 588 = .ok (.aload_n 0, 1) := by decide +kernel
theorem dL_law_589 : decode cL_law 589 = .ok (.iload_n 3, 1) := by decide +kernel
theorem dL_law_590 : decode cL_law 590 = .ok (.iconst 2, 1) := by decide +kernel
theorem dL_law_591 : decode cL_law 591 = .ok (.iadd, 1) := by decide +kernel
theorem dL_law_592 : decode cL_law 592 = .ok (.iaload, 1) := by decide +kernel
theorem dL_law_593 : decode cL_law 593 = .ok (.invokevirtual 74, 3) := by decide +kernel
theorem dL_law_596 : decode cL_law 596 = .ok (.aload_n 2, 1) := by decide +kernel
theorem dL_law_597 : decode cL_law 597 = .ok (.aload_n 0, 1) := by decide +kernel
theorem dL_law_598 : decode cL_law 598 = .ok (.iload_n 3, 1) := by decide +kernel
theorem dL_law_599 : decode cL_law 599 = .ok (.iconst 1, 1) := by decide +kernel
theorem dL_law_600 : decode cL_law 600 = .ok (.iadd, 1) := by decide +kernel
theorem dL_law_601 : decode cL_law 601 = .ok (.iaload, 1) := by decide +kernel
theorem dL_law_602 : decode cL_law 602 = .ok (.aload_n 0, 1) := by decide +kernel
theorem dL_law_603 : decode cL_law 603 = .ok (.iload_n 3, 1) := by decide +kernel
theorem dL_law_604 : decode cL_law 604 = .ok (.iconst 2, 1) := by decide +kernel
theorem dL_law_605 : decode cL_law 605 = .ok (.iadd, 1) := by decide +kernel
theorem dL_law_606 : decode cL_law 606 = .ok (.iaload, 1) := by decide +kernel
theorem dL_law_607 : decode cL_law 607 = .ok (.invokevirtual 77, 3) := by decide +kernel
theorem dL_law_610 : decode cL_law 610 = .ok (.if_icmp .eq 397, 3) := by decide +kernel
theorem dL_law_613 : decode cL_law 613 = .ok (.iconst 0, 1) := by decide +kernel
theorem dL_law_614 : decode cL_law 614 = .ok (.ireturn, 1) := by decide +kernel
theorem dL_law_615 : decode cL_law 615 = .ok (.aload_n 1, 1) := by decide +kernel
theorem dL_law_616 : decode cL_law 616 = .ok (.aload_n 0, 1) := by decide +kernel
theorem dL_law_617 : decode cL_law 617 = .ok (.iload_n 3, 1) := by decide +kernel
theorem dL_law_618 : decode cL_law 618 = .ok (.iconst 1, 1) := by decide +kernel
theorem dL_law_619 : decode cL_law 619 = .ok (.iadd, 1) := by decide +kernel
theorem dL_law_620 : decode cL_law 620 = .ok (.iaload, 1) := by decide +kernel
theorem dL_law_621 : decode cL_law 621 = .ok (.aload_n 0, 1) := by decide +kernel
theorem dL_law_622 : decode cL_law 622 = .ok (.iload_n 3, 1) := by decide +kernel
theorem dL_law_623 : decode cL_law 623 = .ok (.iconst 2, 1) := by decide +kernel
theorem dL_law_624 : decode cL_law 624 = .ok (.iadd, 1) := by decide +kernel
theorem dL_law_625 : decode cL_law 625 = .ok (.iaload, 1) := by decide +kernel
theorem dL_law_626 : decode cL_law 626 = .ok (.invokevirtual 78, 3) := by decide +kernel
theorem dL_law_629 : decode cL_law 629 = .ok (.aload_n 2, 1) := by decide +kernel
theorem dL_law_630 : decode cL_law 630 = .ok (.aload_n 0, 1) := by decide +kernel
theorem dL_law_631 : decode cL_law 631 = .ok (.iload_n 3, 1) := by decide +kernel
theorem dL_law_632 : decode cL_law 632 = .ok (.iconst 1, 1) := by decide +kernel
theorem dL_law_633 : decode cL_law 633 = .ok (.iadd, 1) := by decide +kernel
theorem dL_law_634 : decode cL_law 634 = .ok (.iaload, 1) := by decide +kernel
theorem dL_law_635 : decode cL_law 635 = .ok (.aload_n 0, 1) := by decide +kernel
theorem dL_law_636 : decode cL_law 636 = .ok (.iload_n 3, 1) := by decide +kernel
theorem dL_law_637 : decode cL_law 637 = .ok (.iconst 2, 1) := by decide +kernel
theorem dL_law_638 : decode cL_law 638 = .ok (.iadd, 1) := by decide +kernel
theorem dL_law_639 : decode cL_law 639 = .ok (.iaload, 1) := by decide +kernel
theorem dL_law_640 : decode cL_law 640 = .ok (.invokevirtual 81, 3) := by decide +kernel
theorem dL_law_643 : decode cL_law 643 = .ok (.if_icmp .eq 364, 3) := by decide +kernel
theorem dL_law_646 : decode cL_law 646 = .ok (.iconst 0, 1) := by decide +kernel
theorem dL_law_647 : decode cL_law 647 = .ok (.ireturn, 1) := by decide +kernel
theorem dL_law_648 : decode cL_law 648 = .ok (.aload_n 1, 1) := by decide +kernel
theorem dL_law_649 : decode cL_law 649 = .ok (.aload_n 0, 1) := by decide +kernel
theorem dL_law_650 : decode cL_law 650 = .ok (.iload_n 3, 1) := by decide +kernel
theorem dL_law_651 : decode cL_law 651 = .ok (.iconst 1, 1) := by decide +kernel
theorem dL_law_652 : decode cL_law 652 = .ok (.iadd, 1) := by decide +kernel
theorem dL_law_653 : decode cL_law 653 = .ok (.iaload, 1) := by decide +kernel
theorem dL_law_654 : decode cL_law 654 = .ok (.invokevirtual 82, 3) := by decide +kernel
theorem dL_law_657 : decode cL_law 657 = .ok (.aload_n 2, 1) := by decide +kernel
theorem dL_law_658 : decode cL_law 658 = .ok (.aload_n 0, 1) := by decide +kernel
theorem dL_law_659 : decode cL_law 659 = .ok (.iload_n 3, 1) := by decide +kernel
theorem dL_law_660 : decode cL_law 660 = .ok (.iconst 1, 1) := by decide +kernel
theorem dL_law_661 : decode cL_law 661 = .ok (.iadd, 1) := by decide +kernel
theorem dL_law_662 : decode cL_law 662 = .ok (.iaload, 1) := by decide +kernel
theorem dL_law_663 : decode cL_law 663 = .ok (.invokevirtual 85, 3) := by decide +kernel
theorem dL_law_666 : decode cL_law 666 = .ok (.if_icmp .eq 341, 3) := by decide +kernel
theorem dL_law_669 : decode cL_law 669 = .ok (.iconst 0, 1) := by decide +kernel
theorem dL_law_670 : decode cL_law 670 = .ok (.ireturn, 1) := by decide +kernel
theorem dL_law_671 : decode cL_law 671 = .ok (.aload_n 1, 1) := by decide +kernel
theorem dL_law_672 : decode cL_law 672 = .ok (.aload_n 0, 1) := by decide +kernel
theorem dL_law_673 : decode cL_law 673 = .ok (.iload_n 3, 1) := by decide +kernel
theorem dL_law_674 : decode cL_law 674 = .ok (.iconst 1, 1) := by decide +kernel
theorem dL_law_675 : decode cL_law 675 = .ok (.iadd, 1) := by decide +kernel
theorem dL_law_676 : decode cL_law 676 = .ok (.iaload, 1) := by decide +kernel
theorem dL_law_677 : decode cL_law 677 = .ok (.invokevirtual 86, 3) := by decide +kernel
theorem dL_law_680 : decode cL_law 680 = .ok (.aload_n 2, 1) := by decide +kernel
theorem dL_law_681 : decode cL_law 681 = .ok (.aload_n 0, 1) := by decide +kernel
theorem dL_law_682 : decode cL_law 682 = .ok (.iload_n 3, 1) := by decide +kernel
theorem dL_law_683 : decode cL_law 683 = .ok (.iconst 1, 1) := by decide +kernel
theorem dL_law_684 : decode cL_law 684 = .ok (.iadd, 1) := by decide +kernel
theorem dL_law_685 : decode cL_law 685 = .ok (.iaload, 1) := by decide +kernel
theorem dL_law_686 : decode cL_law 686 = .ok (.invokevirtual 89, 3) := by decide +kernel
theorem dL_law_689 : decode cL_law 689 = .ok (.if_icmp .eq 318, 3) := by decide +kernel
theorem dL_law_692 : decode cL_law 692 = .ok (.iconst 0, 1) := by decide +kernel
theorem dL_law_693 : decode cL_law 693 = .ok (.ireturn, 1) := by decide +kernel
theorem dL_law_694 : decode cL_law 694 = .ok (.aload_n 1, 1) := by decide +kernel
theorem dL_law_695 : decode cL_law 695 = .ok (.aload_n 0, 1) := by decide +kernel
theorem dL_law_696 : decode cL_law 696 = .ok (.iload_n 3, 1) := by decide +kernel
theorem dL_law_697 : decode cL_law 697 = .ok (.iconst 1, 1) := by decide +kernel
theorem dL_law_698 : decode cL_law 698 = .ok (.iadd, 1) := by decide +kernel
theorem dL_law_699 : decode cL_law 699 = .ok (.iaload, 1) := by decide +kernel
theorem dL_law_700 : decode cL_law 700 = .ok (.aload_n 0, 1) := by decide +kernel
theorem dL_law_701 : decode cL_law 701 = .ok (.iload_n 3, 1) := by decide +kernel
theorem dL_law_702 : decode cL_law 702 = .ok (.iconst 2, 1) := by decide +kernel
theorem dL_law_703 : decode cL_law 703 = .ok (.iadd, 1) := by decide +kernel
theorem dL_law_704 : decode cL_law 704 = .ok (.iaload, 1) := by decide +kernel
theorem dL_law_705 : decode cL_law 705 = .ok (.invokevirtual 90, 3) := by decide +kernel
theorem dL_law_708 : decode cL_law 708 = .ok (.aload_n 2, 1) := by decide +kernel
theorem dL_law_709 : decode cL_law 709 = .ok (.aload_n 0, 1) := by decide +kernel
theorem dL_law_710 : decode cL_law 710 = .ok (.iload_n 3, 1) := by decide +kernel
theorem dL_law_711 : decode cL_law 711 = .ok (.iconst 1, 1) := by decide +kernel
theorem dL_law_712 : decode cL_law 712 = .ok (.iadd, 1) := by decide +kernel
theorem dL_law_713 : decode cL_law 713 = .ok (.iaload, 1) := by decide +kernel
theorem dL_law_714 : decode cL_law 714 = .ok (.aload_n 0, 1) := by decide +kernel
theorem dL_law_715 : decode cL_law 715 = .ok (.iload_n 3, 1) := by decide +kernel
theorem dL_law_716 : decode cL_law 716 = .ok (.iconst 2, 1) := by decide +kernel
theorem dL_law_717 : decode cL_law 717 = .ok (.iadd, 1) := by decide +kernel
theorem dL_law_718 : decode cL_law 718 = .ok (.iaload, 1) := by decide +kernel
theorem dL_law_719 : decode cL_law 719 = .ok (.invokevirtual 93, 3) := by decide +kernel
theorem dL_law_722 : decode cL_law 722 = .ok (.if_icmp .eq 285, 3) := by decide +kernel
theorem dL_law_725 : decode cL_law 725 = .ok (.iconst 0, 1) := by decide +kernel
theorem dL_law_726 : decode cL_law 726 = .ok (.ireturn, 1) := by decide +kernel
theorem dL_law_727 : decode cL_law 727 = .ok (.aload_n 1, 1) := by decide +kernel
theorem dL_law_728 : decode cL_law 728 = .ok (.aload_n 0, 1) := by decide +kernel
theorem dL_law_729 : decode cL_law 729 = .ok (.iload_n 3, 1) := by decide +kernel
theorem dL_law_730 : decode cL_law 730 = .ok (.iconst 1, 1) := by decide +kernel
theorem dL_law_731 : decode cL_law 731 = .ok (.iadd, 1) := by decide +kernel
theorem dL_law_732 : decode cL_law 732 = .ok (.iaload, 1) := by decide +kernel
theorem dL_law_733 : decode cL_law 733 = .ok (.aload_n 0, 1) := by decide +kernel
theorem dL_law_734 : decode cL_law 734 = .ok (.iload_n 3, 1) := by decide +kernel
theorem dL_law_735 : decode cL_law 735 = .ok (.iconst 2, 1) := by decide +kernel
theorem dL_law_736 : decode cL_law 736 = .ok (.iadd, 1) := by decide +kernel
theorem dL_law_737 : decode cL_law 737 = .ok (.iaload, 1) := by decide +kernel
theorem dL_law_738 : decode cL_law 738 = .ok (.invokevirtual 94, 3) := by decide +kernel
theorem dL_law_741 : decode cL_law 741 = .ok (.aload_n 2, 1) := by decide +kernel
theorem dL_law_742 : decode cL_law 742 = .ok (.aload_n 0, 1) := by decide +kernel
theorem dL_law_743 : decode cL_law 743 = .ok (.iload_n 3, 1) := by decide +kernel
theorem dL_law_744 : decode cL_law 744 = .ok (.iconst 1, 1) := by decide +kernel
theorem dL_law_745 : decode cL_law 745 = .ok (.iadd, 1) := by decide +kernel
theorem dL_law_746 : decode cL_law 746 = .ok (.iaload, 1) := by decide +kernel
theorem dL_law_747 : decode cL_law 747 = .ok (.aload_n 0, 1) := by decide +kernel
theorem dL_law_748 : decode cL_law 748 = .ok (.iload_n 3, 1) := by decide +kernel
theorem dL_law_749 : decode cL_law 749 = .ok (.iconst 2, 1) := by decide +kernel
theorem dL_law_750 : decode cL_law 750 = .ok (.iadd, 1) := by decide +kernel
theorem dL_law_751 : decode cL_law 751 = .ok (.iaload, 1) := by decide +kernel
theorem dL_law_752 : decode cL_law 752 = .ok (.invokevirtual 97, 3) := by decide +kernel
theorem dL_law_755 : decode cL_law 755 = .ok (.if_icmp .eq 252, 3) := by decide +kernel
theorem dL_law_758 : decode cL_law 758 = .ok (.iconst 0, 1) := by decide +kernel
theorem dL_law_759 : decode cL_law 759 = .ok (.ireturn, 1) := by decide +kernel
theorem dL_law_760 : decode cL_law 760 = .ok (.aload_n 1, 1) := by decide +kernel
theorem dL_law_761 : decode cL_law 761 = .ok (.invokevirtual 98, 3) := by decide +kernel
theorem dL_law_764 : decode cL_law 764 = .ok (.aload_n 2, 1) := by decide +kernel
theorem dL_law_765 : decode cL_law 765 = .ok (.invokevirtual 101, 3) := by decide +kernel
theorem dL_law_768 : decode cL_law 768 = .ok (.if_icmp .eq 239, 3) := by decide +kernel
theorem dL_law_771 : decode cL_law 771 = .ok (.iconst 0, 1) := by decide +kernel
theorem dL_law_772 : decode cL_law 772 = .ok (.ireturn, 1) := by decide +kernel
theorem dL_law_773 : decode cL_law 773 = .ok (.aload_n 1, 1) := by decide +kernel
theorem dL_law_774 : decode cL_law 774 = .ok (.aload_n 0, 1) := by decide +kernel
theorem dL_law_775 : decode cL_law 775 = .ok (.iload_n 3, 1) := by decide +kernel
theorem dL_law_776 : decode cL_law 776 = .ok (.iconst 1, 1) := by decide +kernel
theorem dL_law_777 : decode cL_law 777 = .ok (.iadd, 1) := by decide +kernel
theorem dL_law_778 : decode cL_law 778 = .ok (.iaload, 1) := by decide +kernel
theorem dL_law_779 : decode cL_law 779 = .ok (.aload_n 0, 1) := by decide +kernel
theorem dL_law_780 : decode cL_law 780 = .ok (.iload_n 3, 1) := by decide +kernel
theorem dL_law_781 : decode cL_law 781 = .ok (.iconst 2, 1) := by decide +kernel
theorem dL_law_782 : decode cL_law 782 = .ok (.iadd, 1) := by decide +kernel
theorem dL_law_783 : decode cL_law 783 = .ok (.iaload, 1) := by decide +kernel
theorem dL_law_784 : decode cL_law 784 = .ok (.invokevirtual 102, 3) := by decide +kernel
theorem dL_law_787 : decode cL_law 787 = .ok (.aload_n 2, 1) := by decide +kernel
theorem dL_law_788 : decode cL_law 788 = .ok (.aload_n 0, 1) := by decide +kernel
theorem dL_law_789 : decode cL_law 789 = .ok (.iload_n 3, 1) := by decide +kernel
theorem dL_law_790 : decode cL_law 790 = .ok (.iconst 1, 1) := by decide +kernel
theorem dL_law_791 : decode cL_law 791 = .ok (.iadd, 1) := by decide +kernel
theorem dL_law_792 : decode cL_law 792 = .ok (.iaload, 1) := by decide +kernel
theorem dL_law_793 : decode cL_law 793 = .ok (.aload_n 0, 1) := by decide +kernel
theorem dL_law_794 : decode cL_law 794 = .ok (.iload_n 3, 1) := by decide +kernel
theorem dL_law_795 : decode cL_law 795 = .ok (.iconst 2, 1) := by decide +kernel
theorem dL_law_796 : decode cL_law 796 = .ok (.iadd, 1) := by decide +kernel
theorem dL_law_797 : decode cL_law 797 = .ok (.iaload, 1) := by decide +kernel
theorem dL_law_798 : decode cL_law 798 = .ok (.invokevirtual 105, 3) := by decide +kernel
theorem dL_law_801 : decode cL_law 801 = .ok (.if_icmp .eq 206, 3) := by decide +kernel
theorem dL_law_804 : decode cL_law 804 = .ok (.iconst 0, 1) := by decide +kernel
theorem dL_law_805 : decode cL_law 805 = .ok (.ireturn, 1) := by decide +kernel
theorem dL_law_806 : decode cL_law 806 = .ok (.aload_n 1, 1) := by decide +kernel
theorem dL_law_807 : decode cL_law 807 = .ok (.aload_n 0, 1) := by decide +kernel
theorem dL_law_808 : decode cL_law 808 = .ok (.iload_n 3, 1) := by decide +kernel
theorem dL_law_809 : decode cL_law 809 = .ok (.iconst 1, 1) := by decide +kernel
theorem dL_law_810 : decode cL_law 810 = .ok (.iadd, 1) := by decide +kernel
theorem dL_law_811 : decode cL_law 811 = .ok (.iaload, 1) := by decide +kernel
theorem dL_law_812 : decode cL_law 812 = .ok (.aload_n 0, 1) := by decide +kernel
theorem dL_law_813 : decode cL_law 813 = .ok (.iload_n 3, 1) := by decide +kernel
theorem dL_law_814 : decode cL_law 814 = .ok (.iconst 2, 1) := by decide +kernel
theorem dL_law_815 : decode cL_law 815 = .ok (.iadd, 1) := by decide +kernel
theorem dL_law_816 : decode cL_law 816 = .ok (.iaload, 1) := by decide +kernel
theorem dL_law_817 : decode cL_law 817 = .ok (.aload_n 0, 1) := by decide +kernel
theorem dL_law_818 : decode cL_law 818 = .ok (.iload_n 3, 1) := by decide +kernel
theorem dL_law_819 : decode cL_law 819 = .ok (.iconst 3, 1) := by decide +kernel
theorem dL_law_820 : decode cL_law 820 = .ok (.iadd, 1) := by decide +kernel
theorem dL_law_821 : decode cL_law 821 = .ok (.iaload, 1) := by decide +kernel
theorem dL_law_822 : decode cL_law 822 = .ok (.invokevirtual 106, 3) := by decide +kernel
theorem dL_law_825 : decode cL_law 825 = .ok (.aload_n 2, 1) := by decide +kernel
theorem dL_law_826 : decode cL_law 826 = .ok (.aload_n 0, 1) := by decide +kernel
theorem dL_law_827 : decode cL_law 827 = .ok (.iload_n 3, 1) := by decide +kernel
theorem dL_law_828 : decode cL_law 828 = .ok (.iconst 1, 1) := by decide +kernel
theorem dL_law_829 : decode cL_law 829 = .ok (.iadd, 1) := by decide +kernel
theorem dL_law_830 : decode cL_law 830 = .ok (.iaload, 1) := by decide +kernel
theorem dL_law_831 : decode cL_law 831 = .ok (.aload_n 0, 1) := by decide +kernel
theorem dL_law_832 : decode cL_law 832 = .ok (.iload_n 3, 1) := by decide +kernel
theorem dL_law_833 : decode cL_law 833 = .ok (.iconst 2, 1) := by decide +kernel
theorem dL_law_834 : decode cL_law 834 = .ok (.iadd, 1) := by decide +kernel
theorem dL_law_835 : decode cL_law 835 = .ok (.iaload, 1) := by decide +kernel
theorem dL_law_836 : decode cL_law 836 = .ok (.aload_n 0, 1) := by decide +kernel
theorem dL_law_837 : decode cL_law 837 = .ok (.iload_n 3, 1) := by decide +kernel
theorem dL_law_838 : decode cL_law 838 = .ok (.iconst 3, 1) := by decide +kernel
theorem dL_law_839 : decode cL_law 839 = .ok (.iadd, 1) := by decide +kernel
theorem dL_law_840 : decode cL_law 840 = .ok (.iaload, 1) := by decide +kernel
theorem dL_law_841 : decode cL_law 841 = .ok (.invokevirtual 109, 3) := by decide +kernel
theorem dL_law_844 : decode cL_law 844 = .ok (.if_icmp .eq 163, 3) := by decide +kernel
theorem dL_law_847 : decode cL_law 847 = .ok (.iconst 0, 1) := by decide +kernel
theorem dL_law_848 : decode cL_law 848 = .ok (.ireturn, 1) := by decide +kernel
theorem dL_law_849 : decode cL_law 849 = .ok (.aload_n 1, 1) := by decide +kernel
theorem dL_law_850 : decode cL_law 850 = .ok (.aload_n 0, 1) := by decide +kernel
theorem dL_law_851 : decode cL_law 851 = .ok (.iload_n 3, 1) := by decide +kernel
theorem dL_law_852 : decode cL_law 852 = .ok (.iconst 1, 1) := by decide +kernel
theorem dL_law_853 : decode cL_law 853 = .ok (.iadd, 1) := by decide +kernel
theorem dL_law_854 : decode cL_law 854 = .ok (.iaload, 1) := by decide +kernel
theorem dL_law_855 : decode cL_law 855 = .ok (.invokevirtual 110, 3) := by decide +kernel
theorem dL_law_858 : decode cL_law 858 = .ok (.aload_n 2, 1) := by decide +kernel
theorem dL_law_859 : decode cL_law 859 = .ok (.aload_n 0, 1) := by decide +kernel
theorem dL_law_860 : decode cL_law 860 = .ok (.iload_n 3, 1) := by decide +kernel
theorem dL_law_861 : decode cL_law 861 = .ok (.iconst 1, 1) := by decide +kernel
theorem dL_law_862 : decode cL_law 862 = .ok (.iadd, 1) := by decide +kernel
theorem dL_law_863 : decode cL_law 863 = .ok (.iaload, 1) := by decide +kernel
theorem dL_law_864 : decode cL_law 864 = .ok (.invokevirtual 113, 3) := by decide +kernel
theorem dL_law_867 : decode cL_law 867 = .ok (.if_icmp .eq 140, 3) := by decide +kernel
theorem dL_law_870 : decode cL_law 870 = .ok (.iconst 0, 1) := by decide +kernel
theorem dL_law_871 : decode cL_law 871 = .ok (.ireturn, 1) := by decide +kernel
theorem dL_law_872 : decode cL_law 872 = .ok (.aload_n 1, 1) := by decide +kernel
theorem dL_law_873 : decode cL_law 873 = .ok (.aload_n 0, 1) := by decide +kernel
theorem dL_law_874 : decode cL_law 874 = .ok (.iload_n 3, 1) := by decide +kernel
theorem dL_law_875 : decode cL_law 875 = .ok (.iconst 1, 1) := by decide +kernel
theorem dL_law_876 : decode cL_law 876 = .ok (.iadd, 1) := by decide +kernel
theorem dL_law_877 : decode cL_law 877 = .ok (.iaload, 1) := by decide +kernel
theorem dL_law_878 : decode cL_law 878 = .ok (.aload_n 0, 1) := by decide +kernel
theorem dL_law_879 : decode cL_law 879 = .ok (.iload_n 3, 1) := by decide +kernel
theorem dL_law_880 : decode cL_law 880 = .ok (.iconst 2, 1) := by decide +kernel
theorem dL_law_881 : decode cL_law 881 = .ok (.iadd, 1) := by decide +kernel
theorem dL_law_882 : decode cL_law 882 = .ok (.iaload, 1) := by decide +kernel
theorem dL_law_883 : decode cL_law 883 = .ok (.invokevirtual 114, 3) := by decide +kernel
theorem dL_law_886 : decode cL_law 886 = .ok (.aload_n 2, 1) := by decide +kernel
theorem dL_law_887 : decode cL_law 887 = .ok (.aload_n 0, 1) := by decide +kernel
theorem dL_law_888 : decode cL_law 888 = .ok (.iload_n 3, 1) := by decide +kernel
theorem dL_law_889 : decode cL_law 889 = .ok (.iconst 1, 1) := by decide +kernel
theorem dL_law_890 : decode cL_law 890 = .ok (.iadd, 1) := by decide +kernel
theorem dL_law_891 : decode cL_law 891 = .ok (.iaload, 1) := by decide +kernel
theorem dL_law_892 : decode cL_law 892 = .ok (.aload_n 0, 1) := by decide +kernel
theorem dL_law_893 : decode cL_law 893 = .ok (.iload_n 3, 1) := by decide +kernel
theorem dL_law_894 : decode cL_law 894 = .ok (.iconst 2, 1) := by decide +kernel
theorem dL_law_895 : decode cL_law 895 = .ok (.iadd, 1) := by decide +kernel
theorem dL_law_896 : decode cL_law 896 = .ok (.iaload, 1) := by decide +kernel
theorem dL_law_897 : decode cL_law 897 = .ok (.invokevirtual 117, 3) := by decide +kernel
theorem dL_law_900 : decode cL_law 900 = .ok (.if_icmp .eq 107, 3) := by decide +kernel
theorem dL_law_903 : decode cL_law 903 = .ok (.iconst 0, 1) := by decide +kernel
theorem dL_law_904 : decode cL_law 904 = .ok (.ireturn, 1) := by decide +kernel
theorem dL_law_905 : decode cL_law 905 = .ok (.aload_n 1, 1) := by decide +kernel
theorem dL_law_906 : decode cL_law 906 = .ok (.invokevirtual 118, 3) := by decide +kernel
theorem dL_law_909 : decode cL_law 909 = .ok (.aload_n 2, 1) := by decide +kernel
theorem dL_law_910 : decode cL_law 910 = .ok (.invokevirtual 121, 3) := by decide +kernel
theorem dL_law_913 : decode cL_law 913 = .ok (.if_icmp .eq 94, 3) := by decide +kernel
theorem dL_law_916 : decode cL_law 916 = .ok (.iconst 0, 1) := by decide +kernel
theorem dL_law_917 : decode cL_law 917 = .ok (.ireturn, 1) := by decide +kernel
theorem dL_law_918 : decode cL_law 918 = .ok (.aload_n 1, 1) := by decide +kernel
theorem dL_law_919 : decode cL_law 919 = .ok (.aload_n 0, 1) := by decide +kernel
theorem dL_law_920 : decode cL_law 920 = .ok (.iload_n 3, 1) := by decide +kernel
theorem dL_law_921 : decode cL_law 921 = .ok (.iconst 1, 1) := by decide +kernel
theorem dL_law_922 : decode cL_law 922 = .ok (.iadd, 1) := by decide +kernel
theorem dL_law_923 : decode cL_law 923 = .ok (.iaload, 1) := by decide +kernel
theorem dL_law_924 : decode cL_law 924 = .ok (.invokevirtual 122, 3) := by decide +kernel
theorem dL_law_927 : decode cL_law 927 = .ok (.aload_n 2, 1) := by decide +kernel
theorem dL_law_928 : decode cL_law 928 = .ok (.aload_n 0, 1) := by decide +kernel
theorem dL_law_929 : decode cL_law 929 = .ok (.iload_n 3, 1) := by decide +kernel
theorem dL_law_930 : decode cL_law 930 = .ok (.iconst 1, 1) := by decide +kernel
theorem dL_law_931 : decode cL_law 931 = .ok (.iadd, 1) := by decide +kernel
theorem dL_law_932 : decode cL_law 932 = .ok (.iaload, 1) := by decide +kernel
theorem dL_law_933 : decode cL_law 933 = .ok (.invokevirtual 125, 3) := by decide +kernel
theorem dL_law_936 : decode cL_law 936 = .ok (.if_icmp .eq 71, 3) := by decide +kernel
theorem dL_law_939 : decode cL_law 939 = .ok (.iconst 0, 1) := by decide +kernel
theorem dL_law_940 : decode cL_law 940 = .ok (.ireturn, 1) := by decide +kernel
theorem dL_law_941 : decode cL_law 941 = .ok (.aload_n 1, 1) := by decide +kernel
theorem dL_law_942 : decode cL_law 942 = .ok (.aload_n 0, 1) := by decide +kernel
theorem dL_law_943 : decode cL_law 943 = .ok (.iload_n 3, 1) := by decide +kernel
theorem dL_law_944 : decode cL_law 944 = .ok (.iconst 1, 1) := by decide +kernel
theorem dL_law_945 : decode cL_law 945 = .ok (.iadd, 1) := by decide +kernel
theorem dL_law_946 : decode cL_law 946 = .ok (.iaload, 1) := by decide +kernel
theorem dL_law_947 : decode cL_law 947 = .ok (.aload_n 0, 1) := by decide +kernel
theorem dL_law_948 : decode cL_law 948 = .ok (.iload_n 3, 1) := by decide +kernel
theorem dL_law_949 : decode cL_law 949 = .ok (.iconst 2, 1) := by decide +kernel
theorem dL_law_950 : decode cL_law 950 = .ok (.iadd, 1) := by decide +kernel
theorem dL_law_951 : decode cL_law 951 = .ok (.iaload, 1) := by decide +kernel
theorem dL_law_952 : decode cL_law 952 = .ok (.aload_n 0, 1) := by decide +kernel
theorem dL_law_953 : decode cL_law 953 = .ok (.iload_n 3, 1) := by decide +kernel
theorem dL_law_954 : decode cL_law 954 = .ok (.iconst 3, 1) := by decide +kernel
theorem dL_law_955 : decode cL_law 955 = .ok (.iadd, 1) := by decide +kernel
theorem dL_law_956 : decode cL_law 956 = .ok (.iaload, 1) := by decide +kernel
theorem dL_law_957 : decode cL_law 957 = .ok (.invokevirtual 126, 3) := by decide +kernel
theorem dL_law_960 : decode cL_law 960 = .ok (.aload_n 2, 1) := by decide +kernel
theorem dL_law_961 : decode cL_law 961 = .ok (.aload_n 0, 1) := by decide +kernel
theorem dL_law_962 : decode cL_law 962 = .ok (.iload_n 3, 1) := by decide +kernel
theorem dL_law_963 : decode cL_law 963 = .ok (.iconst 1, 1) := by decide +kernel
theorem dL_law_964 : decode cL_law 964 = .ok (.iadd, 1) := by decide +kernel
theorem dL_law_965 : decode cL_law 965 = .ok (.iaload, 1) := by decide +kernel
theorem dL_law_966 : decode cL_law 966 = .ok (.aload_n 0, 1) := by decide +kernel
theorem dL_law_967 : decode cL_law 967 = .ok (.iload_n 3, 1) := by decide +kernel
theorem dL_law_968 : decode cL_law 968 = .ok (.iconst 2, 1) := by decide +kernel
theorem dL_law_969 : decode cL_law 969 = .ok (.iadd, 1) := by decide +kernel
theorem dL_law_970 : decode cL_law 970 = .ok (.iaload, 1) := by decide +kernel
theorem dL_law_971 : decode cL_law 971 = .ok (.aload_n 0, 1) := by decide +kernel
theorem dL_law_972 : decode cL_law 972 = .ok (.iload_n 3, 1) := by decide +kernel
theorem dL_law_973 : decode cL_law 973 = .ok (.iconst 3, 1) := by decide +kernel
theorem dL_law_974 : decode cL_law 974 = .ok (.iadd, 1) := by decide +kernel
theorem dL_law_975 : decode cL_law 975 = .ok (.iaload, 1) := by decide +kernel
theorem dL_law_976 : decode cL_law 976 = .ok (.invokevirtual 129, 3) := by decide +kernel
theorem dL_law_979 : decode cL_law 979 = .ok (.if_icmp .eq 28, 3) := by decide +kernel
theorem dL_law_982 : decode cL_law 982 = .ok (.iconst 0, 1) := by decide +kernel
theorem dL_law_983 : decode cL_law 983 = .ok (.ireturn, 1) := by decide +kernel
theorem dL_law_984 : decode cL_law 984 = .ok (.aload_n 1, 1) := by decide +kernel
theorem dL_law_985 : decode cL_law 985 = .ok (.aload_n 0, 1) := by decide +kernel
theorem dL_law_986 : decode cL_law 986 = .ok (.iload_n 3, 1) := by decide +kernel
theorem dL_law_987 : decode cL_law 987 = .ok (.iconst 1, 1) := by decide +kernel
theorem dL_law_988 : decode cL_law 988 = .ok (.iadd, 1) := by decide +kernel
theorem dL_law_989 : decode cL_law 989 = .ok (.iaload, 1) := by decide +kernel
theorem dL_law_990 : decode cL_law 990 = .ok (.invokevirtual 130, 3) := by decide +kernel
theorem dL_law_993 : decode cL_law 993 = .ok (.aload_n 2, 1) := by decide +kernel
theorem dL_law_994 : decode cL_law 994 = .ok (.aload_n 0, 1) := by decide +kernel
theorem dL_law_995 : decode cL_law 995 = .ok (.iload_n 3, 1) := by decide +kernel
theorem dL_law_996 : decode cL_law 996 = .ok (.iconst 1, 1) := by decide +kernel
theorem dL_law_997 : decode cL_law 997 = .ok (.iadd, 1) := by decide +kernel
theorem dL_law_998 : decode cL_law 998 = .ok (.iaload, 1) := by decide +kernel
theorem dL_law_999 : decode cL_law 999 = .ok (.invokevirtual 133, 3) := by decide +kernel
theorem dL_law_1002 : decode cL_law 1002 = .ok (.if_icmp .eq 5, 3) := by decide +kernel
theorem dL_law_1005 : decode cL_law 1005 = .ok (.iconst 0, 1) := by decide +kernel
theorem dL_law_1006 : decode cL_law 1006 = .ok (.ireturn, 1) := by decide +kernel
theorem dL_law_1007 : decode cL_law 1007 = .ok (.iinc 3 4, 3) := by decide +kernel
theorem dL_law_1010 : decode cL_law 1010 = .ok (.goto (-992), 3) := by decide +kernel
theorem dL_law_1013 : decode cL_law 1013 = .ok (.iconst 1, 1) := by decide +kernel
theorem dL_law_1014 : decode cL_law 1014 = .ok (.ireturn, 1) := by decide +kernel
end
section
/-! the mini world: one list of cells, by regions; ints in f (region, index, slot), references in g -/
abbrev F3 : Type := Nat → Nat → Nat → Int32
abbrev G3 : Type := Nat → Nat → Nat → Nat × Nat
/-- ghosts: launch, class numbers and slots, array classes, the first new address, the strings' addresses -/
abbrev mmG : Type := Launch × va_G × (Nat → ClassId) × Nat × (Nat → Nat) × (Nat → Nat)
abbrev mm_n0 (G : mmG) : Nat := G.2.2.2.1
abbrev mm_t (G : mmG) : List (ClassId × FieldType) := [(G.2.2.1 0, .int), (G.2.2.1 1, .boolean), (G.2.2.1 2, .object "IceRoad$Cell"), (G.2.2.1 3, .object "IceRoad$Load"), (G.2.2.1 4, .object "IceRoad$Rule")]
def mm_A (G : mmG) : Nat → Prop := fun q => mm_n0 G ≤ q
def AD (r i : Nat) : Nat := match r with
  | 0 => 0 | 1 => if i = 10 then 13 else 14 + i | 2 => 24 + i | 3 => 48 + 4 * i | 4 => 9 | 5 => 7 | 6 => 5 | 7 => 1 | 8 => 2 | 9 => 3 | 10 => 4
  | 11 => 10 | 12 => 11 | 13 => 12 | 14 => 6 | 15 => 8 | 16 => 49 + 4 * i | 17 => 50 + 4 * i | 18 => 51 + 4 * i | 20 => 88 | 21 => 89 | 22 => 99 | 23 => 107 | 24 => 108 | 25 => 109 | 26 => 110 | 27 => 111 | 28 => 112
  | 38 => 98 | r => if 40 ≤ r then 60 + r else 60 + r
def mm_cnt (r : Nat) : Nat := match r with
  | 1 => 11 | 2 => 24 | 3 => 10 | 16 => 10 | 17 => 10 | 18 => 10 | 19 => 0 | 29 => 0 | 39 => 0 | r => if r < 47 then 1 else 0
def mm_len (r : Nat) : Nat := match r with
  | 7 => 10 | 8 => 24 | 9 => 24 | 10 => 10 | 11 => 48 | 12 => 7 | 13 => 5 | 14 => 48 | 15 => 80 | 16 => 3 | 17 => 3 | 18 => 3 | 21 => 9 | 22 => 48 | 23 => 150 | 24 => 24 | 25 => 50 | 26 => 80 | 27 => 48 | 28 => 48 | 38 => 20
  | r => if 40 ≤ r then 24 else 10
def mm_locs : List (Nat × Nat) := [(0,0),(7,0),(8,0),(9,0),(10,0),(6,0),(14,0),(5,0),(15,0),(4,0),(11,0),(12,0),(13,0),(1,10)] ++ ((List.range 10).map (fun i => (1, i))) ++ ((List.range 24).map (fun i => (2, i))) ++ ((List.range 10).flatMap (fun i => [(3, i), (16, i), (17, i), (18, i)])) ++ [(20,0),(21,0),(30,0),(31,0),(32,0),(33,0),(34,0),(35,0),(36,0),(37,0),(38,0),(22,0),(40,0),(41,0),(42,0),(43,0),(44,0),(45,0),(46,0),(23,0),(24,0),(25,0),(26,0),(27,0),(28,0)]
def mm_loc (j : Nat) : Nat × Nat := mm_locs.getD j (99, 0)
abbrev mm_NT : Nat := 113
theorem mm_vld : ∀ r, r < 47 → ∀ i, i < mm_cnt r → AD r i < mm_NT ∧ mm_loc (AD r i) = (r, i) := by decide +kernel
theorem mm_inv : ∀ j, j < mm_NT → AD (mm_loc j).1 (mm_loc j).2 = j := by decide +kernel
def mm_ro (G : mmG) (q : Nat × Nat) : Option Nat := if q.1 = 99 then none else some (mm_n0 G + AD q.1 q.2)
abbrev ra (G : mmG) (r i : Nat) : Nat := mm_n0 G + AD r i
def mm_ent (G : mmG) (r : Nat) (fv : Nat → Int32) (gv : Nat → Nat × Nat) : va_E := match r with
  | 0 => .inr (6, [va_rf (mm_ro G (gv 0)), va_rf (mm_ro G (gv 1)), va_rf (mm_ro G (gv 2)), va_rf (mm_ro G (gv 3)), va_rf (mm_ro G (gv 4)), va_rf (mm_ro G (gv 5)), va_rf (mm_ro G (gv 6)), va_rf (mm_ro G (gv 7)), va_rf (mm_ro G (gv 8)), va_rf (mm_ro G (gv 9)), va_rf (mm_ro G (gv 10)), .int (fv 11), .int (fv 12), .int (fv 13), .int (fv 14), .int (fv 15)])
  | 1 => .inr (0, [.int (fv 0), .int (fv 1), .int (fv 2), .int (fv 3), .int (fv 4), .int (fv 5), .int (fv 6), .int (fv 7), .int (fv 8), .int (fv 9)])
  | 2 => .inr (1, [.int (fv 0), .int (fv 1), .int (fv 2), .int (fv 3), .int (fv 4), .int (fv 5), .int (fv 6)])
  | 3 => .inr (2, [.int (fv 0), .int (fv 1), .int (fv 2), .int (fv 3), .int (fv 4), .int (fv 5), va_rf (mm_ro G (gv 6)), va_rf (mm_ro G (gv 7)), va_rf (mm_ro G (gv 8))])
  | 4 => .inr (3, [va_rf (mm_ro G (gv 0)), .int (fv 1)])
  | 5 => .inr (4, [va_rf (mm_ro G (gv 0)), .int (fv 1)])
  | 6 => .inr (5, [va_rf (mm_ro G (gv 0))])
  | 7 => .inl (G.2.2.1 2, 10, .inr (.inr (.inr (.inr (fun k => mm_ro G (gv k))))))
  | 8 => .inl (G.2.2.1 3, 24, .inr (.inr (.inr (.inr (fun k => mm_ro G (gv k))))))
  | 9 => .inl (G.2.2.1 3, 24, .inr (.inr (.inr (.inr (fun k => mm_ro G (gv k))))))
  | 10 => .inl (G.2.2.1 4, 10, .inr (.inr (.inr (.inr (fun k => mm_ro G (gv k))))))
  | 20 => .inr (7, [va_rf (mm_ro G (gv 0)), .int (fv 1), .int (fv 2), va_rf (mm_ro G (gv 3)), va_rf (mm_ro G (gv 4)), va_rf (mm_ro G (gv 5)), va_rf (mm_ro G (gv 6)), va_rf (mm_ro G (gv 7)), va_rf (mm_ro G (gv 8)), va_rf (mm_ro G (gv 9)), va_rf (mm_ro G (gv 10)), va_rf (mm_ro G (gv 11)), va_rf (mm_ro G (gv 12)), .int (fv 13), va_rf (mm_ro G (gv 14)), va_rf (mm_ro G (gv 15)), va_rf (mm_ro G (gv 16)), va_rf (mm_ro G (gv 17)), va_rf (mm_ro G (gv 18)), va_rf (mm_ro G (gv 19)), va_rf (mm_ro G (gv 20)), .int (fv 21), va_rf (mm_ro G (gv 22)), va_rf (mm_ro G (gv 23)), .int (fv 24), va_rf (mm_ro G (gv 25)), va_rf (mm_ro G (gv 26)), .int (fv 27), .int (fv 28), .int (fv 29), .int (fv 30), .int (fv 31), va_rf (mm_ro G (gv 32)), va_rf (mm_ro G (gv 33))])
  | 24 => .inl (G.2.2.1 1, 24, .inl fv)
  | r => .inl (G.2.2.1 0, mm_len r, .inl fv)
def GG (f : F3) : G3 := fun r i k => match r with
  | 0 => (match k with | 0 => (7,0) | 1 => (8,0) | 2 => (9,0) | 3 => (10,0) | 4 => (6,0) | 5 => (5,0) | 6 => (4,0) | 7 => (11,0) | 8 => (12,0) | 9 => (13,0) | _ => (1,10))
  | 3 => (match k with | 6 => (16,i) | 7 => (17,i) | _ => (18,i))
  | 4 => (5,0) | 5 => (15,0) | 6 => (14,0) | 7 => (1,k) | 8 => (2,k) | 9 => (2,(f 9 i k).toNatClampNeg) | 10 => (3,k)
  | 20 => (match k with | 0 => (21,0) | 3 => (30,0) | 4 => (31,0) | 5 => (32,0) | 6 => (33,0) | 7 => (34,0) | 8 => (35,0) | 9 => (36,0) | 10 => (37,0) | 11 => (38,0) | 12 => (22,0) | 14 => (40,0) | 15 => (41,0) | 16 => (42,0) | 17 => (43,0) | 18 => (44,0) | 19 => (45,0) | 20 => (46,0) | 22 => (23,0) | 23 => (24,0) | 25 => (25,0) | 26 => (26,0) | 32 => (27,0) | _ => (28,0))
  | _ => (99,0)
def mm_wl (G : mmG) (n : Nat) (f : F3) (g : G3) : va_W := (List.range n).map (fun j => (mm_n0 G + j, mm_ent G (mm_loc j).1 (f (mm_loc j).1 (mm_loc j).2) (g (mm_loc j).1 (mm_loc j).2)))
theorem mm_wl_at {G : mmG} {n : Nat} {f : F3} {g : G3} {r i : Nat} (h1 : AD r i < n) (h2 : mm_loc (AD r i) = (r, i)) : (mm_wl G n f g)[AD r i]? = some (ra G r i, mm_ent G r (f r i) (g r i)) := by
  unfold mm_wl
  rw [List.getElem?_map, List.getElem?_range h1]
  simp [h2]
theorem mm_wl_D (G : mmG) (n : Nat) (f : F3) (g : G3) : va_D (mm_A G) (mm_wl G n f g) := by
  have key : ∀ (k : Nat) (q : Nat × va_E), (mm_wl G n f g)[k]? = some q → q.1 = mm_n0 G + k := by
    intro k q h
    unfold mm_wl at h
    rw [List.getElem?_map] at h
    cases hr : (List.range n)[k]? with
    | none => rw [hr] at h; cases h
    | some j =>
      rw [hr] at h
      have hj : j = k := by
        have h1 := List.getElem?_eq_some_iff.mp hr
        obtain ⟨h2, h3⟩ := h1
        rw [List.getElem_range] at h3
        exact h3.symm
      subst hj
      cases h
      rfl
  refine ⟨fun i j p q hp hq e => ?_, fun k q h => ?_⟩
  · have e1 := key i p hp
    have e2 := key j q hq
    omega
  · have e1 := key k q h
    unfold mm_A
    omega
/-- a cell of the list takes other contents, the rest stays -/
theorem mm_wl_set {G : mmG} {n : Nat} {f f' : F3} {g g' : G3} {r i : Nat} {e : va_E} (hn : n ≤ mm_NT) (h2 : mm_loc (AD r i) = (r, i))
    (ho : ∀ r' i', ¬ (r' = r ∧ i' = i) → f' r' i' = f r' i' ∧ g' r' i' = g r' i') (he : e = mm_ent G r (f' r i) (g' r i)) :
    (mm_wl G n f g).set (AD r i) (ra G r i, e) = mm_wl G n f' g' := by
  subst he
  apply List.ext_getElem?
  intro k
  rw [List.getElem?_set]
  unfold mm_wl
  by_cases hk : k < n
  · by_cases hj : AD r i = k
    · subst hj
      simp [hk, h2]
    · have hne : ¬ ((mm_loc k).1 = r ∧ (mm_loc k).2 = i) := by
        intro hq
        have := mm_inv k (Nat.lt_of_lt_of_le hk hn)
        rw [hq.1, hq.2] at this
        exact hj this
      obtain ⟨o1, o2⟩ := ho _ _ hne
      simp [hk, hj, o1, o2]
  · by_cases hj : AD r i = k
    · subst hj
      simp [hk]
    · simp [hk, hj]
def up (f : F3) (r i k : Nat) (x : Int32) : F3 := fun r' i' k' => if r' = r ∧ i' = i ∧ k' = k then x else f r' i' k'
theorem up_self (f : F3) (r i k : Nat) (x : Int32) : up f r i k x r i = upd (f r i) k x := by
  funext j
  simp [up, upd]
theorem up_other (f : F3) (r i k : Nat) (x : Int32) {r' i' : Nat} (h : ¬ (r' = r ∧ i' = i)) : up f r i k x r' i' = f r' i' := by
  funext j
  unfold up
  rw [if_neg (fun q => h ⟨q.1, q.2.1⟩)]
theorem GG_up {f : F3} {r i k : Nat} {x : Int32} (h : r ≠ 9) : GG (up f r i k x) = GG f := by
  funext r' i' k'
  unfold GG
  split <;> try rfl
  have : up f r i k x 9 i' k' = f 9 i' k' := by
    unfold up
    rw [if_neg (fun q => h q.1.symm)]
  simp only [this]
def BIG : List Cond := lw_tbl.filter goodWord
theorem mm_big {w : Cond} (h : w ∈ lw_tbl) (hg : goodWord w = true) : w ∈ BIG := List.mem_filter.mpr ⟨h, hg⟩
theorem mm_goodB {c : Cond} {hd : List Cond} (h : ∀ w ∈ hd, w ∈ BIG) : GoodIn (c :: BIG) hd := fun w hw => ⟨List.mem_cons_of_mem _ (h w hw), good_of_word (List.mem_filter.mp (h w hw)).2⟩
theorem mm_goodBB {hd : List Cond} (h : ∀ w ∈ hd, w ∈ BIG) : GoodIn lw_tbl hd := fun w hw => ⟨(List.mem_filter.mp (h w hw)).1, good_of_word (List.mem_filter.mp (h w hw)).2⟩
def mm_sx : List (Nat × String) := [(88, "thick"), (90, "gap"), (92, "stop"), (53, " if "), (71, "or"), (73, "and"), (94, "weight"), (96, "rank"), (98, "cell"), (100, "heat"), (102, "snow")]
def mm_sb : List (List Int32) := [[116, 104, 105, 99, 107], [103, 97, 112], [115, 116, 111, 112], [32, 105, 102, 32], [111, 114], [97, 110, 100], [119, 101, 105, 103, 104, 116], [114, 97, 110, 107], [99, 101, 108, 108], [104, 101, 97, 116], [115, 110, 111, 119]]
def mm_sl : List Nat := [5, 3, 4, 4, 2, 3, 6, 4, 4, 4, 4]
/-- the strings: their cells, and that each ldc finds its own -/
def mm_S (G : mmG) (U : State) : Prop := vk_S 11 mm_sl mm_sb G.2.2.2.2.1 G.2.2.2.2.2 (mm_A G) U U.heap ∧ (∀ i : Nat, i < 11 → vk_R RX3 (mm_sx.getD i (0, "")).1 (mm_sx.getD i (0, "")).2 (G.2.2.2.2.1 i) U) ∧ va_Z "java/lang/String" "COMPACT_STRINGS" "Z" (.int 1) (mm_A G) U U.heap ∧ ∃ v : Value, (v = .null ∨ ∃ a : Nat, v = .ref a) ∧ va_Z "jdk/internal/util/Preconditions" "SIOOBE_FORMATTER" "Ljava/util/function/BiFunction;" v (mm_A G) U U.heap
/-- what holds of a state at a method's start and end -/
def mm_B (G : mmG) (n : Nat) (f : F3) (g : G3) (U : State) : Prop := va_P G.2.1 vwCl (mm_wl G n f g) U.heap ∧ va_K G.2.1 vwCl (mm_t G) U ∧ mm_S G U
/-- what holds within a method: s its start, H the heap now -/
def mm_R (G : mmG) (n : Nat) (f : F3) (g : G3) (s : State) (H : Heap) (locs : List Loc) : Prop := va_P G.2.1 vwCl (mm_wl G n f g) H ∧ va_K G.2.1 vwCl (mm_t G) s ∧ va_S (mm_A G) s.heap H locs ∧ mm_S G s
theorem mm_S.at {G : mmG} {s U : State} {H : Heap} {locs : List Loc} (h : mm_S G s) (hS : va_S (mm_A G) s.heap H locs) (hU : U.heap = H) (hW : s.WarmedH U.vm) : mm_S G U :=
  ⟨by rw [hU]; exact vk_S.kept (vk_S.moved hW.alike h.1) hS.2.1, fun i hi => vk_R.warm hW (h.2.1 i hi), by rw [hU]; exact va_Z.kept (va_Z.moved hW.alike h.2.2.1) hS.2.1, by
    obtain ⟨v, hv, hz⟩ := h.2.2.2
    exact ⟨v, hv, by rw [hU]; exact va_Z.kept (va_Z.moved hW.alike hz) hS.2.1⟩⟩
theorem mm_R.B {G : mmG} {n : Nat} {f : F3} {g : G3} {s U : State} {H : Heap} {locs : List Loc} (h : mm_R G n f g s H locs) (hU : U.heap = H) (hW : s.WarmedH U.vm) : mm_B G n f g U := by
  obtain ⟨h2, h3, h4, h5⟩ := h
  exact ⟨by rw [hU]; exact h2, va_K.moved hW.alike h3, h5.at h4 hU hW⟩
def mm_Pc (G : mmG) (n : Nat) (as : List Value) (f : F3) (g : G3) : Array Value → State → Prop := va_Pc as (mm_B G n f g)
def mm_Q (G : mmG) (n : Nat) (r : Option Value) (f : F3) (g : G3) : Array Value → State → Outcome → State → Prop := fun _ st o t => o = .returned r ∧ mm_B G n f g t ∧ va_F (mm_A G) st t
def mm_rm (d : Nat) : Room := { frames := d, cells := 0, slots := 0, locals := 36 * d }
/-- a method's contract, nothing made: arguments, the ints before, the answer, the ints behind -/
def mmM (G : mmG) (y : MethodName) (cc : ByteArray) (nL : Nat) (ret : Option FieldType) (d : Nat) (as : List Value) (f : F3) (r : Option Value) (f' : F3) : Prop :=
  Met G.1 y (.code y cc nL ret :: BIG) (mm_rm d) (mm_Pc G mm_NT as f (GG f)) (mm_Q G mm_NT r f' (GG f')) 0 0 (mm_A G)
theorem mm_blind {G : mmG} {n : Nat} {as : List Value} {f : F3} {g : G3} : FrameBlind (mm_Pc G n as f g) := by
  intro a U gg mk h
  obtain ⟨h0, h2, h3, h4⟩ := h
  exact ⟨h0, h2, va_K.moved (u := U) (U := U.calling gg mk a) (Vm.Alike.refl U.vm) h3, h4.1, fun i hi => vk_R.same (u := U) rfl (h4.2.1 i hi), h4.2.2⟩
theorem mm_bind {α β : Type} {o : Option α} {k : α → Option β} {z : β} (h : o.bind k = some z) : ∃ q, o = some q ∧ k q = some z := by
  cases o with
  | none => cases h
  | some q => exact ⟨q, rfl, h⟩
theorem mm_if {α : Type} {c : Prop} {hd : Decidable c} {A : Option α} {z : α} (h : (if c then A else none) = some z) : c ∧ A = some z := by
  by_cases hc : c
  · rw [if_pos hc] at h; exact ⟨hc, h⟩
  · rw [if_neg hc] at h; cases h
def okI (i : Int32) (n : Nat) : Bool := decide (0 ≤ i.toInt) && decide (i.toInt < n)
theorem okI_in {i : Int32} {n : Nat} (h : okI i n = true) : vp_in i n := by
  rw [vp_in_iff]
  simpa [okI] using h
theorem okI_lt {i : Int32} {n : Nat} (h : okI i n = true) : i.toNatClampNeg < n := by
  have h1 := okI_in h
  exact Nat.not_le.mp fun q => h1 (Or.inr q)
end
section
section MMR
variable {p : Program} {e : Env} {R : Room} {s : State} {m : MethodId} {args : Array Value} {below : List Frame} {meth : Method} {c : Code} {H : Heap} {locs : List Loc} {cells slots : Nat} {Q : State → Prop}
variable {cc : ByteArray} {pc nL : Nat} {ls : Array Slot} {rest : List Value} {G : mmG} {n : Nat} {f f1 : F3} {g : G3} {own : String} {index : Nat}
/-- getfield of a cell of the world -/
theorem mm_get {l : Launch} (hx : p.tables.exec = Jvm.exec) (hb : c.code = cc) (hts : ∀ w ∈ BIG, w.before args s = true) (hown : s.vm.findClass own = some m.cls) (hR : mm_R G n f g s H locs) (r i k : Nat) (hv : AD r i < n ∧ mm_loc (AD r i) = (r, i))
    {ci N : Nat} {C : String} {T : u_T} {fs : List Value} {v : Value} (he : mm_ent G r (f r i) (g r i) = .inr (ci, fs)) (hc : vwCl[ci]? = some (C, T, N)) (hin : ∀ w ∈ u_ws C T N, w ∈ BIG) (hk : k < N) (hlink : Cond.fieldLink own index (T k).1 (T k).2.1 (T k).2.2.1 ∈ BIG) (hval : fs[k]? = some v) (hdg : decode cc pc = .ok (.getfield index, 3))
    (kk : W p l e R s m args below meth c H locs cells slots Q (F0 m (pc + 3) ls (v :: rest))) : W p l e R s m args below meth c H locs cells slots Q (F0 m pc ls (.ref (ra G r i) :: rest)) := by
  obtain ⟨hP, hK, hS, hT⟩ := hR
  exact va_get hx hb hts hin hown hK hP (AD r i) (by rw [mm_wl_at hv.1 hv.2, he]) hc k hk (hts _ hlink) (fun _ h => h) hval hdg kk
/-- putfield of an int (or a boolean 0, 1) into a cell of the world -/
theorem mm_put {l : Launch} (hx : p.tables.exec = Jvm.exec) (hb : c.code = cc) (hts : ∀ w ∈ BIG, w.before args s = true) (hown : s.vm.findClass own = some m.cls) (hR : mm_R G mm_NT f (GG f) s H locs) (r i k : Nat) (hr9 : r ≠ 9) (hv : AD r i < mm_NT ∧ mm_loc (AD r i) = (r, i))
    {ci N : Nat} {C : String} {T : u_T} {fs : List Value} {x : Int32} (he : mm_ent G r (f r i) (GG f r i) = .inr (ci, fs)) (hc : vwCl[ci]? = some (C, T, N)) (hin : ∀ w ∈ u_ws C T N, w ∈ BIG) (ty0 : Nat → FieldType) (hty : ∀ k, k < N → parseFieldDescriptor (T k).2.2.1 = some (ty0 k)) (hnm : ∀ a, a < N → ∀ b, b < N → a ≠ b → (T a).2.1 ≠ (T b).2.1) (hk : k < N) (hlink : Cond.fieldLink own index (T k).1 (T k).2.1 (T k).2.2.1 ∈ BIG) (hfin : (T k).2.2.2 = false)
    (hn : narrow (ty0 k) (.int x) = .int x) (hfit : fits (ty0 k) (.int x) = true) (hl : k < fs.length) (hset : (Sum.inr (ci, fs.set k (.int x)) : va_E) = mm_ent G r (upd (f r i) k x) (GG f r i)) (hdg : decode cc pc = .ok (.putfield index, 3))
    (kk : ∀ (H1 : Heap) (locs1 : List Loc), mm_R G mm_NT (up f r i k x) (GG (up f r i k x)) s H1 locs1 → W p l e R s m args below meth c H1 locs1 cells slots Q (F0 m (pc + 3) ls rest)) : W p l e R s m args below meth c H locs cells slots Q (F0 m pc ls (.int x :: .ref (ra G r i) :: rest)) := by
  obtain ⟨hP, hK, hS, hT⟩ := hR
  refine va_put hx hb hts hin ty0 hty hnm hown hK hP (mm_wl_D G mm_NT f (GG f)) hS (AD r i) (by rw [mm_wl_at hv.1 hv.2, he]) hc k hk (hts _ hlink) (fun _ h => h) hfin (hty k hk) hn hfit hl hdg (fun H1 locs1 hP1 hD1 hS1 => kk H1 locs1 ⟨?_, hK, hS1, hT⟩)
  rw [mm_wl_set (f' := up f r i k x) (g' := GG (up f r i k x)) (Nat.le_refl _) hv.2 (fun r' i' h => ⟨up_other f r i k x h, by rw [GG_up hr9]⟩) (by rw [up_self, GG_up hr9]; exact hset)] at hP1
  exact hP1
/-- iaload -/
theorem mm_ild {l : Launch} (hx : p.tables.exec = Jvm.exec) (hb : c.code = cc) (hR : mm_R G n f g s H locs) (r i : Nat) (hv : AD r i < n ∧ mm_loc (AD r i) = (r, i)) {L : Nat} (he : mm_ent G r (f r i) (g r i) = .inl (G.2.2.1 0, L, .inl (f r i))) {j : Int32} (hin : vp_in j L) (hdg : decode cc pc = .ok (.iaload, 1))
    (kk : W p l e R s m args below meth c H locs cells slots Q (F0 m (pc + 1) ls (.int (f r i j.toNatClampNeg) :: rest))) : W p l e R s m args below meth c H locs cells slots Q (F0 m pc ls (.int j :: .ref (ra G r i) :: rest)) := by
  obtain ⟨hP, hK, hS, hT⟩ := hR
  exact va_iald hx hb hK hP (AD r i) 0 (by rw [mm_wl_at hv.1 hv.2, he]) rfl hin hdg kk
theorem mm_zld {l : Launch} (hx : p.tables.exec = Jvm.exec) (hb : c.code = cc) (hR : mm_R G n f g s H locs) (r i : Nat) (hv : AD r i < n ∧ mm_loc (AD r i) = (r, i)) {L : Nat} (he : mm_ent G r (f r i) (g r i) = .inl (G.2.2.1 1, L, .inl (f r i))) {j : Int32} (hin : vp_in j L) (hdg : decode cc pc = .ok (.baload, 1))
    (kk : W p l e R s m args below meth c H locs cells slots Q (F0 m (pc + 1) ls (.int (f r i j.toNatClampNeg) :: rest))) : W p l e R s m args below meth c H locs cells slots Q (F0 m pc ls (.int j :: .ref (ra G r i) :: rest)) := by
  obtain ⟨hP, hK, hS, hT⟩ := hR
  exact va_zald hx hb hK hP (AD r i) 1 (by rw [mm_wl_at hv.1 hv.2, he]) rfl hin hdg kk
/-- iastore -/
theorem mm_ist {l : Launch} (hx : p.tables.exec = Jvm.exec) (hb : c.code = cc) (hR : mm_R G mm_NT f (GG f) s H locs) (r i : Nat) (hr9 : r ≠ 9) (hv : AD r i < mm_NT ∧ mm_loc (AD r i) = (r, i)) {L : Nat} (he : ∀ z : Nat → Int32, mm_ent G r z (GG f r i) = .inl (G.2.2.1 0, L, .inl z)) {j x : Int32} (hin : vp_in j L) (hdg : decode cc pc = .ok (.iastore, 1))
    (kk : ∀ (H1 : Heap) (locs1 : List Loc), mm_R G mm_NT (up f r i j.toNatClampNeg x) (GG (up f r i j.toNatClampNeg x)) s H1 locs1 → W p l e R s m args below meth c H1 locs1 cells slots Q (F0 m (pc + 1) ls rest)) : W p l e R s m args below meth c H locs cells slots Q (F0 m pc ls (.int x :: .int j :: .ref (ra G r i) :: rest)) := by
  obtain ⟨hP, hK, hS, hT⟩ := hR
  refine va_iast hx hb hK hP (mm_wl_D G mm_NT f (GG f)) hS (AD r i) 0 (by rw [mm_wl_at hv.1 hv.2, he]) rfl hin hdg (fun H1 locs1 hP1 hD1 hS1 => kk H1 locs1 ⟨?_, hK, hS1, hT⟩)
  rw [mm_wl_set (f' := up f r i j.toNatClampNeg x) (g' := GG (up f r i j.toNatClampNeg x)) (Nat.le_refl _) hv.2 (fun r' i' h => ⟨up_other f r i _ x h, by rw [GG_up hr9]⟩) (by rw [up_self, GG_up hr9]; exact (he _).symm)] at hP1
  exact hP1
theorem mm_zst {l : Launch} (hx : p.tables.exec = Jvm.exec) (hb : c.code = cc) (hR : mm_R G mm_NT f (GG f) s H locs) (r i : Nat) (hr9 : r ≠ 9) (hv : AD r i < mm_NT ∧ mm_loc (AD r i) = (r, i)) {L : Nat} (he : ∀ z : Nat → Int32, mm_ent G r z (GG f r i) = .inl (G.2.2.1 1, L, .inl z)) {j x : Int32} (hin : vp_in j L) (hz : vp_nar .boolean x = x) (hdg : decode cc pc = .ok (.bastore, 1))
    (kk : ∀ (H1 : Heap) (locs1 : List Loc), mm_R G mm_NT (up f r i j.toNatClampNeg x) (GG (up f r i j.toNatClampNeg x)) s H1 locs1 → W p l e R s m args below meth c H1 locs1 cells slots Q (F0 m (pc + 1) ls rest)) : W p l e R s m args below meth c H locs cells slots Q (F0 m pc ls (.int x :: .int j :: .ref (ra G r i) :: rest)) := by
  obtain ⟨hP, hK, hS, hT⟩ := hR
  refine va_zast hx hb hK hP (mm_wl_D G mm_NT f (GG f)) hS (AD r i) 1 (by rw [mm_wl_at hv.1 hv.2, he]) rfl hin hdg (fun H1 locs1 hP1 hD1 hS1 => kk H1 locs1 ⟨?_, hK, hS1, hT⟩)
  rw [hz, mm_wl_set (f' := up f r i j.toNatClampNeg x) (g' := GG (up f r i j.toNatClampNeg x)) (Nat.le_refl _) hv.2 (fun r' i' h => ⟨up_other f r i _ x h, by rw [GG_up hr9]⟩) (by rw [up_self, GG_up hr9]; exact (he _).symm)] at hP1
  exact hP1
/-- aaload: a cell's reference out of an array of references -/
theorem mm_ald {l : Launch} (hx : p.tables.exec = Jvm.exec) (hb : c.code = cc) (hR : mm_R G n f g s H locs) (r i t : Nat) (hv : AD r i < n ∧ mm_loc (AD r i) = (r, i)) {L : Nat} {C : String} (he : mm_ent G r (f r i) (g r i) = .inl (G.2.2.1 t, L, .inr (.inr (.inr (.inr (fun k => mm_ro G (g r i k))))))) (ht : (mm_t G)[t]? = some (G.2.2.1 t, .object C)) {j : Int32} (hin : vp_in j L) {r2 i2 : Nat} (hq : g r i j.toNatClampNeg = (r2, i2)) (h99 : r2 ≠ 99) (hdg : decode cc pc = .ok (.aaload, 1))
    (kk : W p l e R s m args below meth c H locs cells slots Q (F0 m (pc + 1) ls (.ref (ra G r2 i2) :: rest))) : W p l e R s m args below meth c H locs cells slots Q (F0 m pc ls (.int j :: .ref (ra G r i) :: rest)) := by
  obtain ⟨hP, hK, hS, hT⟩ := hR
  refine va_aldq hx hb hK hP (AD r i) t (by rw [mm_wl_at hv.1 hv.2, he]) ht hin hdg ?_
  try dsimp only
  rw [hq]
  unfold mm_ro
  rw [if_neg h99]
  exact kk
/-- moving[j] = load i2 -/
theorem mm_ast {l : Launch} (hx : p.tables.exec = Jvm.exec) (hb : c.code = cc) (hR : mm_R G mm_NT f (GG f) s H locs) {j : Int32} (hin : vp_in j 24) {i2 : Nat} (hi2 : i2 < 24) (hdg : decode cc pc = .ok (.aastore, 1))
    (kk : ∀ (H1 : Heap) (locs1 : List Loc), mm_R G mm_NT (up f 9 0 j.toNatClampNeg (nI i2)) (GG (up f 9 0 j.toNatClampNeg (nI i2))) s H1 locs1 → W p l e R s m args below meth c H1 locs1 cells slots Q (F0 m (pc + 1) ls rest)) : W p l e R s m args below meth c H locs cells slots Q (F0 m pc ls (.ref (ra G 2 i2) :: .int j :: .ref (ra G 9 0) :: rest)) := by
  obtain ⟨hP, hK, hS, hT⟩ := hR
  have hv := mm_vld 9 (by decide) 0 (by decide)
  have hw := mm_vld 2 (by decide) i2 hi2
  refine va_astq hx hb hK hP (mm_wl_D G mm_NT f (GG f)) hS (AD 9 0) 3 (AD 2 i2) 1 (r := (RX1, TX1, 7)) (by rw [mm_wl_at hv.1 hv.2]; rfl) rfl (by rw [mm_wl_at hw.1 hw.2]; rfl) rfl hin hdg (fun H1 locs1 hP1 hD1 hS1 => kk H1 locs1 ⟨?_, hK, hS1, hT⟩)
  rw [mm_wl_set (f' := up f 9 0 j.toNatClampNeg (nI i2)) (g' := GG (up f 9 0 j.toNatClampNeg (nI i2))) (Nat.le_refl _) hv.2 ?_ ?_] at hP1
  · exact hP1
  · intro r' i' h
    refine ⟨up_other f 9 0 _ _ h, ?_⟩
    funext k'
    unfold GG
    split <;> try rfl
    have h2 : up f 9 0 j.toNatClampNeg (nI i2) 9 i' k' = f 9 i' k' := by rw [up_other f 9 0 _ _ h]
    simp only [h2]
  · have key : ∀ gv : Nat → Nat × Nat, (fun k => mm_ro G (gv k)) = va_up (fun k => mm_ro G (GG f 9 0 k)) j.toNatClampNeg (some (ra G 2 i2)) → (Sum.inl (G.2.2.1 3, 24, .inr (.inr (.inr (.inr (va_up (fun k => mm_ro G (GG f 9 0 k)) j.toNatClampNeg (some (ra G 2 i2))))))) : va_E) = mm_ent G 9 (up f 9 0 j.toNatClampNeg (nI i2) 9 0) gv := by
      intro gv h
      rw [← h]
      rfl
    refine key _ ?_
    funext k
    by_cases hk : k = j.toNatClampNeg
    · subst hk
      simp [va_up, GG, up, mm_ro, nI_clamp (show i2 < 2 ^ 31 by omega)]
    · simp [va_up, GG, up, mm_ro, hk]
/-- where a method stands: the machine, its code, the tables' words -/
def mmC (y : MethodName) (cc : ByteArray) (nL : Nat) (ret : Option FieldType) (p : Program) (s : State) (m : MethodId) (args : Array Value) (meth : Method) (c : Code) : Prop :=
  p.tables.exec = Jvm.exec ∧ c.code = cc ∧ c.maxLocals = nL ∧ meth.sig.returnType = ret ∧ s.vm.findClass y.cls = some m.cls ∧ (∀ w ∈ BIG, w.before args s = true) ∧ meth.locks = false
theorem mm_ofW {l : Launch} {y : MethodName} {ws' : List Cond} {rm : Room} {Pc : Array Value → State → Prop} {Qc : Array Value → State → Outcome → State → Prop} {mc ms : Nat} {free : Addr → Prop} {maxL : Nat} {ret : Option FieldType} (hy : plainFor y = true)
    (body : ∀ p e s m args below meth c s₁, BodyLoose p l y (headSpec (Cond.code y cc maxL ret :: ws') rm) cc maxL ret e s m args below meth c s₁ → c.maxLocals = maxL → Pc args s →
      W p l e rm s m args below meth c s.heap [] 0 0 (MQ below Qc args s mc ms free) (entryFrame m args maxL)) : Met l y (Cond.code y cc maxL ret :: ws') rm Pc Qc mc ms free := by
  refine MetFree.of_bodySF (code := cc) (maxLocals := maxL) (ret := ret) hy ?_ ?_
  · intro args s m h hn
    obtain ⟨meth, c, h1, h2, h3, h4, h5, h6, -, -⟩ := Cond.code_spec hn (atoms_spec (ws := Cond.code y cc maxL ret :: ws') h _ List.mem_cons_self)
    exact ⟨meth, c, h1, h2, h3, h4, h5, h6⟩
  · intro p e s m args below meth c s₁ B hml hP _
    have hh0 : s₁.heap = s.heap := by rw [B.state]; rfl
    obtain ⟨t, a1, o, b1, b2, b3⟩ := body p e s m args below meth c s₁ B hml hP s₁ hh0 (Stand.of_body B)
    exact ⟨t, o, a1, b1, b2, ⟨b3.1, b3.2⟩⟩
theorem mm_start {y : MethodName} {ret : Option FieldType} {d : Nat} {as : List Value} {r : Option Value} {f' : F3} (hy : plainFor y = true) (hlen : (lg_sl as).length ≤ nL)
    (body : ∀ (p : Program) (e : Env) (s : State) (m : MethodId) (args : Array Value) (below : List Frame) (meth : Method) (c : Code) (ls : Array Slot), mmC y cc nL ret p s m args meth c → mm_R G mm_NT f (GG f) s s.heap [] → lv_has ls nL (lv_args 0 as) →
      W p G.1 e (mm_rm d) s m args below meth c s.heap [] 0 0 (MQ below (mm_Q G mm_NT r f' (GG f')) args s 0 0 (mm_A G)) (F0 m 0 ls [])) : mmM G y cc nL ret d as f r f' := by
  refine mm_ofW (cc := cc) (maxL := nL) (ret := ret) hy ?_
  intro p e s m args below meth c s₁ B hml hv
  obtain ⟨rfl, hP, hK, hT⟩ := hv
  have hts := atoms_spec (ws := .code y cc nL ret :: BIG) B.pre
  have hl := lv_entry as (n := nL) hlen
  rw [lg_entry_eq]
  generalize (lg_sl as ++ List.replicate (nL - (lg_sl as).length) Slot.unset).toArray = ls at hl ⊢
  exact body p e s m _ below meth c ls ⟨B.exec, B.bytes, hml, B.returns, findClass_of_methodNamed B.named, fun w hw => hts w (List.mem_cons_of_mem _ hw), B.notSynchronized⟩ ⟨hP, hK, va_S.rf, hT⟩ hl
theorem mm_iret {l : Launch} {y : MethodName} {v : Int32} (C0 : mmC y cc nL (some .int) p s m args meth c) (hR : mm_R G mm_NT f (GG f) s H locs) (hdg : decode cc pc = .ok (.ireturn, 1)) :
    W p l e R s m args below meth c H locs 0 0 (MQ below (mm_Q G mm_NT (some (.int v)) f (GG f)) args s 0 0 (mm_A G)) (F0 m pc ls [.int v]) := by
  obtain ⟨hx, hb, hml, hr, hown, hts, hlocks⟩ := C0
  exact W.iret hx hb hr (fun t ht hW => ⟨rfl, hR.B ht hW, hR.2.2.1.F ht⟩) hR.2.2.1.2.2 hdg
theorem mm_zret {l : Launch} {y : MethodName} {v : Int32} (C0 : mmC y cc nL (some .boolean) p s m args meth c) (hn : narrow .boolean (.int v) = .int v) (hR : mm_R G mm_NT f (GG f) s H locs) (hdg : decode cc pc = .ok (.ireturn, 1)) :
    W p l e R s m args below meth c H locs 0 0 (MQ below (mm_Q G mm_NT (some (.int v)) f (GG f)) args s 0 0 (mm_A G)) (F0 m pc ls [.int v]) := by
  obtain ⟨hx, hb, hml, hr, hown, hts, hlocks⟩ := C0
  exact W.zret hx hb hr hn (fun t ht hW => ⟨rfl, hR.B ht hW, hR.2.2.1.F ht⟩) hR.2.2.1.2.2 hdg
theorem mm_vret {l : Launch} {y : MethodName} (C0 : mmC y cc nL none p s m args meth c) (hR : mm_R G mm_NT f (GG f) s H locs) (hdg : decode cc pc = .ok (.return_, 1)) :
    W p l e R s m args below meth c H locs 0 0 (MQ below (mm_Q G mm_NT none f (GG f)) args s 0 0 (mm_A G)) (F0 m pc ls []) := by
  obtain ⟨hx, hb, hml, hr, hown, hts, hlocks⟩ := C0
  exact W.vret hx hb hr (fun t ht hW => ⟨rfl, hR.B ht hW, hR.2.2.1.F ht⟩) hR.2.2.1.2.2 hdg
theorem mm_call {l : Launch} {st0 : List Value} {v : Option Value} {f1 : F3} {a : Array Value} (hR : mm_R G mm_NT f (GG f) s H locs) (hr : va_Run p l e R s m args below meth c H locs cells slots 0 0 (F0 m pc ls st0) rest (mm_Q G mm_NT v f1 (GG f1) a) (mm_A G))
    (kk : ∀ (H1 : Heap) (locs1 : List Loc), mm_R G mm_NT f1 (GG f1) s H1 locs1 → W p l e R s m args below meth c H1 locs1 cells slots Q (F0 m (pc + 3) ls (v.toList ++ rest))) : W p l e R s m args below meth c H locs cells slots Q (F0 m pc ls st0) := by
  obtain ⟨hP, hK, hS, hT⟩ := hR
  intro T hTH X
  obtain ⟨v', st₀, t, T', L, h0, X', hL, e1, e2, ⟨hv, ⟨hP1, hK1, hT1⟩, hz, hk⟩, st⟩ := hr T hTH X
  cases hv
  rw [h0] at hz hk
  obtain ⟨t2, a1, b1⟩ := kk T'.heap (locs ++ L) ⟨by rw [e1]; exact hP1, hK, ⟨Nat.le_trans hS.1 (by rw [e1]; exact hz), fun q h1 h2 => by rw [e1, hk q (Nat.lt_of_lt_of_le h1 hS.1) h2]; exact hS.2.1 q h1 h2, fun q hq => by
      rcases List.mem_append.mp hq with h | h
      · exact hS.2.2 q h
      · exact hL q h⟩, hT⟩ T' rfl X'
  exact ⟨t2, st t2 a1, b1⟩
theorem mm_good {hd : List Cond} (h : ∀ w ∈ hd, w ∈ BIG) : GoodIn BIG hd := fun w hw => ⟨h w hw, good_of_word (List.mem_filter.mp (h w hw)).2⟩
/-- a callee's own words -/
def mmW (y : MethodName) (cc : ByteArray) (nL : Nat) (ret : Option FieldType) : Prop := Cond.instanceMethod y ∈ BIG ∧ Cond.selects y.cls y y ∈ BIG ∧ Cond.initialized y.cls ∈ BIG ∧ Cond.code y cc nL ret ∈ BIG
def mmWs (y : MethodName) (cc : ByteArray) (nL : Nat) (ret : Option FieldType) : Prop := Cond.static y ∈ BIG ∧ Cond.initialized y.cls ∈ BIG ∧ Cond.code y cc nL ret ∈ BIG
theorem mm_callV {l : Launch} {y y0 : MethodName} {ret ret0 : Option FieldType} {cc0 : ByteArray} {nL0 d d0 : Nat} {v : Option Value} {f1 : F3} (As : List Value) {st0 : List Value} (C0 : mmC y cc nL ret p s m args meth c) (hl : l = G.1) (hR : mm_R G mm_NT f (GG f) s H locs) (r i : Nat) (hM : mmM G y0 cc0 nL0 ret0 d0 (.ref (ra G r i) :: As) f v f1) (hw : mmW y0 cc0 nL0 ret0) (hlk : Cond.methodLink y.cls index y0 ∈ BIG)
    (hd : y0.cls ≠ "java/lang/invoke/MethodHandle" ∧ y0.cls ≠ "java/lang/invoke/VarHandle" ∧ (parseMethodDescriptor y0.desc).map (fun d => d.parameters.length) = some As.length) (hRm : d0 + 1 ≤ d ∧ 8 + (nL0 + 11) + 36 * d0 ≤ 36 * d)
    (hv : AD r i < mm_NT ∧ mm_loc (AD r i) = (r, i)) {ci : Nat} {fs : List Value} {q : vw_C} (he : mm_ent G r (f r i) (GG f r i) = .inr (ci, fs)) (hc : vwCl[ci]? = some q) (hq : q.1 = y0.cls) (hls : ls.size = nL) (hst : st0 = As.reverse ++ .ref (ra G r i) :: rest) (hroom : (rest.map fun v => v.category).sum ≤ 8) (hdg : decode cc pc = .ok (.invokevirtual index, 3))
    (kk : ∀ (H1 : Heap) (locs1 : List Loc), mm_R G mm_NT f1 (GG f1) s H1 locs1 → W p l e (mm_rm d) s m args below meth c H1 locs1 0 0 Q (F0 m (pc + 3) ls (v.toList ++ rest))) : W p l e (mm_rm d) s m args below meth c H locs 0 0 Q (F0 m pc ls st0) := by
  obtain ⟨hx, hb, hml, hr, hown, hts, hlocks⟩ := C0
  subst hl
  have hgood : GoodIn BIG (wsV y.cls index y0.cls y0 (.code y0 cc0 nL0 ret0 :: BIG)) := mm_good (fun w hw' => by
    unfold wsV at hw'
    rcases List.mem_append.mp hw' with h | h
    · simp only [List.mem_cons, List.not_mem_nil, or_false] at h
      rcases h with rfl | rfl | rfl | rfl
      · exact hlk
      · exact hw.1
      · exact hw.2.1
      · exact hw.2.2.1
    · rcases List.mem_cons.mp h with rfl | h
      · exact hw.2.2.2
      · exact h)
  have hrecv := va_recv hR.2.1 hR.1 (ci := ci) (q := q) (fs := fs) (q0 := AD r i) (a := ra G r i) hc (by rw [mm_wl_at hv.1 hv.2, he])
  rw [hq] at hrecv
  exact mm_call hR (va_runV (As := As) (rest := rest) (C := y0.cls) (own := y.cls) ⟨hx, hb, hml, hown, hts⟩ hM (cwV As.length hts hgood rfl rfl rfl ⟨rfl, hd.1, hd.2.1, hd.2.2⟩ ⟨hRm.1, hRm.2⟩) ⟨mm_blind, hrecv, fun U hU hW => ⟨rfl, hR.B hU hW⟩⟩ rfl rfl hls hst (lv_room hroom) hdg ⟨Nat.le_refl _, Nat.le_refl _⟩) kk
theorem mm_callS {l : Launch} {y y0 : MethodName} {ret ret0 : Option FieldType} {cc0 : ByteArray} {nL0 d d0 : Nat} {v : Option Value} {f1 : F3} (As : List Value) {st0 : List Value} (C0 : mmC y cc nL ret p s m args meth c) (hl : l = G.1) (hR : mm_R G mm_NT f (GG f) s H locs) (hM : mmM G y0 cc0 nL0 ret0 d0 As f v f1) (hw : mmWs y0 cc0 nL0 ret0) (hlk : Cond.methodLink y.cls index y0 ∈ BIG)
    (hd : y0.cls ≠ "java/lang/invoke/MethodHandle" ∧ y0.cls ≠ "java/lang/invoke/VarHandle" ∧ (parseMethodDescriptor y0.desc).map (fun d => d.parameters.length) = some As.length) (hRm : d0 + 1 ≤ d ∧ 8 + (nL0 + 11) + 36 * d0 ≤ 36 * d)
    (hls : ls.size = nL) (hst : st0 = As.reverse ++ rest) (hroom : (rest.map fun v => v.category).sum ≤ 8) (hdg : decode cc pc = .ok (.invokestatic index, 3))
    (kk : ∀ (H1 : Heap) (locs1 : List Loc), mm_R G mm_NT f1 (GG f1) s H1 locs1 → W p l e (mm_rm d) s m args below meth c H1 locs1 0 0 Q (F0 m (pc + 3) ls (v.toList ++ rest))) : W p l e (mm_rm d) s m args below meth c H locs 0 0 Q (F0 m pc ls st0) := by
  obtain ⟨hx, hb, hml, hr, hown, hts, hlocks⟩ := C0
  subst hl
  have hgood : GoodIn BIG (.code y0 cc0 nL0 ret0 :: BIG) := mm_good (fun w hw' => by
    rcases List.mem_cons.mp hw' with rfl | h
    · exact hw.2.2
    · exact h)
  exact mm_call hR (va_runS (As := As) (rest := rest) (own := y.cls) ⟨hx, hb, hml, hown, hts⟩ hM ⟨callB_of As.length hts hgood rfl rfl rfl (hts _ hw.2.1) (hts _ hlk) ⟨hd.1, hd.2.1, hd.2.2⟩ ⟨hRm.1, hRm.2⟩, hts _ hw.1⟩ ⟨mm_blind, fun U hU hW => ⟨rfl, hR.B hU hW⟩⟩ rfl rfl hls hst (lv_room hroom) hdg ⟨Nat.le_refl _, Nat.le_refl _⟩) kk
end MMR
end
section
theorem mm_bigI {w : Cond} (i : Nat) (h : lw_tbl[i]? = some w) (hg : goodWord w = true) : w ∈ BIG := mm_big (List.mem_of_getElem? h) hg
def mm_let {α β : Type} (x : α) (k : α → β) : β := k x
theorem mm_lt {α β : Type} {x : α} {k : α → Option β} {z : β} (h : mm_let x k = some z) : ∃ y, y = x ∧ k y = some z := ⟨x, rfl, h⟩
def mm_b2 {β : Type} (o : Option (Int32 × F3)) (k : Int32 → F3 → Option β) : Option β := match o with
  | none => none
  | some q => k q.1 q.2
theorem mm_b2e {β : Type} {o : Option (Int32 × F3)} {k : Int32 → F3 → Option β} {z : β} (h : mm_b2 o k = some z) : ∃ r f, o = some (r, f) ∧ k r f = some z := by
  cases o with
  | none => cases h
  | some q => exact ⟨q.1, q.2, rfl, h⟩
def okB (v : Int32) : Bool := v == 0 || v == 1
theorem okB_or {v : Int32} (h : okB v = true) : v = 0 ∨ v = 1 := by
  simpa [okB] using h
theorem okB_n {v : Int32} (h : okB v = true) : narrow .boolean (.int v) = .int v := by
  rcases okB_or h with rfl | rfl <;> rfl
theorem okB_f {v : Int32} (h : okB v = true) : fits .boolean (.int v) = true := by
  rcases okB_or h with rfl | rfl <;> rfl
def slenI (k : Nat) : Int32 := nI (mm_sl.getD k 0)
def scharI (k : Nat) (j : Int32) : Int32 := (mm_sb.getD k []).getD j.toNatClampNeg 0
def okC (sp dp n : Int32) : Bool := decide (0 ≤ sp.toInt) && decide (0 ≤ dp.toInt) && decide (0 ≤ n.toInt) && decide (sp.toInt + n.toInt ≤ 48) && decide (dp.toInt + n.toInt ≤ 48)
def cpy11 (f : F3) (sp dp n : Int32) : F3 := fun r i k => if r = 11 ∧ i = 0 then va_cpy (f 11 0) (f 11 0) sp.toNatClampNeg dp.toNatClampNeg n.toNatClampNeg k else f r i k
theorem vl_0 : AD 0 0 < mm_NT ∧ mm_loc (AD 0 0) = (0, 0) := mm_vld 0 (by decide) 0 (by decide)
theorem vl_4 : AD 4 0 < mm_NT ∧ mm_loc (AD 4 0) = (4, 0) := mm_vld 4 (by decide) 0 (by decide)
theorem vl_5 : AD 5 0 < mm_NT ∧ mm_loc (AD 5 0) = (5, 0) := mm_vld 5 (by decide) 0 (by decide)
theorem vl_6 : AD 6 0 < mm_NT ∧ mm_loc (AD 6 0) = (6, 0) := mm_vld 6 (by decide) 0 (by decide)
theorem vl_7 : AD 7 0 < mm_NT ∧ mm_loc (AD 7 0) = (7, 0) := mm_vld 7 (by decide) 0 (by decide)
theorem vl_8 : AD 8 0 < mm_NT ∧ mm_loc (AD 8 0) = (8, 0) := mm_vld 8 (by decide) 0 (by decide)
theorem vl_9 : AD 9 0 < mm_NT ∧ mm_loc (AD 9 0) = (9, 0) := mm_vld 9 (by decide) 0 (by decide)
theorem vl_10 : AD 10 0 < mm_NT ∧ mm_loc (AD 10 0) = (10, 0) := mm_vld 10 (by decide) 0 (by decide)
theorem vl_11 : AD 11 0 < mm_NT ∧ mm_loc (AD 11 0) = (11, 0) := mm_vld 11 (by decide) 0 (by decide)
theorem vl_12 : AD 12 0 < mm_NT ∧ mm_loc (AD 12 0) = (12, 0) := mm_vld 12 (by decide) 0 (by decide)
theorem vl_13 : AD 13 0 < mm_NT ∧ mm_loc (AD 13 0) = (13, 0) := mm_vld 13 (by decide) 0 (by decide)
theorem vl_14 : AD 14 0 < mm_NT ∧ mm_loc (AD 14 0) = (14, 0) := mm_vld 14 (by decide) 0 (by decide)
theorem vl_15 : AD 15 0 < mm_NT ∧ mm_loc (AD 15 0) = (15, 0) := mm_vld 15 (by decide) 0 (by decide)
theorem vl_20 : AD 20 0 < mm_NT ∧ mm_loc (AD 20 0) = (20, 0) := mm_vld 20 (by decide) 0 (by decide)
theorem vl_21 : AD 21 0 < mm_NT ∧ mm_loc (AD 21 0) = (21, 0) := mm_vld 21 (by decide) 0 (by decide)
theorem vl_22 : AD 22 0 < mm_NT ∧ mm_loc (AD 22 0) = (22, 0) := mm_vld 22 (by decide) 0 (by decide)
theorem vl_23 : AD 23 0 < mm_NT ∧ mm_loc (AD 23 0) = (23, 0) := mm_vld 23 (by decide) 0 (by decide)
theorem vl_24 : AD 24 0 < mm_NT ∧ mm_loc (AD 24 0) = (24, 0) := mm_vld 24 (by decide) 0 (by decide)
theorem vl_25 : AD 25 0 < mm_NT ∧ mm_loc (AD 25 0) = (25, 0) := mm_vld 25 (by decide) 0 (by decide)
theorem vl_26 : AD 26 0 < mm_NT ∧ mm_loc (AD 26 0) = (26, 0) := mm_vld 26 (by decide) 0 (by decide)
theorem vl_27 : AD 27 0 < mm_NT ∧ mm_loc (AD 27 0) = (27, 0) := mm_vld 27 (by decide) 0 (by decide)
theorem vl_28 : AD 28 0 < mm_NT ∧ mm_loc (AD 28 0) = (28, 0) := mm_vld 28 (by decide) 0 (by decide)
theorem vl_30 : AD 30 0 < mm_NT ∧ mm_loc (AD 30 0) = (30, 0) := mm_vld 30 (by decide) 0 (by decide)
theorem vl_31 : AD 31 0 < mm_NT ∧ mm_loc (AD 31 0) = (31, 0) := mm_vld 31 (by decide) 0 (by decide)
theorem vl_32 : AD 32 0 < mm_NT ∧ mm_loc (AD 32 0) = (32, 0) := mm_vld 32 (by decide) 0 (by decide)
theorem vl_33 : AD 33 0 < mm_NT ∧ mm_loc (AD 33 0) = (33, 0) := mm_vld 33 (by decide) 0 (by decide)
theorem vl_34 : AD 34 0 < mm_NT ∧ mm_loc (AD 34 0) = (34, 0) := mm_vld 34 (by decide) 0 (by decide)
theorem vl_35 : AD 35 0 < mm_NT ∧ mm_loc (AD 35 0) = (35, 0) := mm_vld 35 (by decide) 0 (by decide)
theorem vl_36 : AD 36 0 < mm_NT ∧ mm_loc (AD 36 0) = (36, 0) := mm_vld 36 (by decide) 0 (by decide)
theorem vl_37 : AD 37 0 < mm_NT ∧ mm_loc (AD 37 0) = (37, 0) := mm_vld 37 (by decide) 0 (by decide)
theorem vl_38 : AD 38 0 < mm_NT ∧ mm_loc (AD 38 0) = (38, 0) := mm_vld 38 (by decide) 0 (by decide)
theorem vl_40 : AD 40 0 < mm_NT ∧ mm_loc (AD 40 0) = (40, 0) := mm_vld 40 (by decide) 0 (by decide)
theorem vl_41 : AD 41 0 < mm_NT ∧ mm_loc (AD 41 0) = (41, 0) := mm_vld 41 (by decide) 0 (by decide)
theorem vl_42 : AD 42 0 < mm_NT ∧ mm_loc (AD 42 0) = (42, 0) := mm_vld 42 (by decide) 0 (by decide)
theorem vl_43 : AD 43 0 < mm_NT ∧ mm_loc (AD 43 0) = (43, 0) := mm_vld 43 (by decide) 0 (by decide)
theorem vl_44 : AD 44 0 < mm_NT ∧ mm_loc (AD 44 0) = (44, 0) := mm_vld 44 (by decide) 0 (by decide)
theorem vl_45 : AD 45 0 < mm_NT ∧ mm_loc (AD 45 0) = (45, 0) := mm_vld 45 (by decide) 0 (by decide)
theorem vl_46 : AD 46 0 < mm_NT ∧ mm_loc (AD 46 0) = (46, 0) := mm_vld 46 (by decide) 0 (by decide)
theorem iX0 : ∀ w ∈ wsX00, w ∈ BIG := by decide +kernel
theorem iX1 : ∀ w ∈ wsX10, w ∈ BIG := by decide +kernel
theorem iX2 : ∀ w ∈ wsX20, w ∈ BIG := by decide +kernel
theorem iX3 : ∀ w ∈ wsX30, w ∈ BIG := by decide +kernel
theorem iX4 : ∀ w ∈ wsX40, w ∈ BIG := by decide +kernel
theorem iX5 : ∀ w ∈ wsX50, w ∈ BIG := by decide +kernel
theorem iX6 : ∀ w ∈ wsX60, w ∈ BIG := by decide +kernel
theorem iX7 : ∀ w ∈ wsX70, w ∈ BIG := by decide +kernel
theorem lk_0 : Cond.fieldLink RX0 9 "IceRoad$Cell" "kind" "I" ∈ BIG := mm_bigI 140 (by decide +kernel) rfl
theorem lk_1 : Cond.fieldLink RX0 33 "IceRoad$Cell" "known" "I" ∈ BIG := mm_bigI 154 (by decide +kernel) rfl
theorem lk_2 : Cond.methodLink RX0 58 yX0_become ∈ BIG := mm_bigI 416 (by decide +kernel) rfl
theorem lk_3 : Cond.fieldLink RX0 27 "IceRoad$Cell" "wear" "I" ∈ BIG := mm_bigI 150 (by decide +kernel) rfl
theorem lk_4 : Cond.fieldLink RX0 30 "IceRoad$Cell" "healing" "I" ∈ BIG := mm_bigI 152 (by decide +kernel) rfl
theorem lk_5 : Cond.fieldLink RX0 15 "IceRoad$Cell" "thickness" "I" ∈ BIG := mm_bigI 142 (by decide +kernel) rfl
theorem lk_6 : Cond.fieldLink RX0 18 "IceRoad$Cell" "snow" "I" ∈ BIG := mm_bigI 144 (by decide +kernel) rfl
theorem lk_7 : Cond.fieldLink RX0 39 "IceRoad$Cell" "cameDown" "I" ∈ BIG := mm_bigI 157 (by decide +kernel) rfl
theorem lk_8 : Cond.fieldLink RX0 36 "IceRoad$Cell" "cameUp" "I" ∈ BIG := mm_bigI 156 (by decide +kernel) rfl
theorem lk_9 : Cond.fieldLink RX0 21 "IceRoad$Cell" "depth" "I" ∈ BIG := mm_bigI 146 (by decide +kernel) rfl
theorem lk_10 : Cond.fieldLink RX0 24 "IceRoad$Cell" "length" "I" ∈ BIG := mm_bigI 148 (by decide +kernel) rfl
theorem lk_11 : Cond.methodLink RX0 52 Lib.Math.max.name ∈ BIG := mm_bigI 485 (by decide +kernel) rfl
theorem lk_12 : Cond.static Lib.Math.max.name ∈ BIG := mm_bigI 338 (by decide +kernel) rfl
theorem lk_13 : Cond.initialized "java/lang/Math" ∈ BIG := mm_bigI 74 (by decide +kernel) rfl
theorem lk_14 : Cond.code Lib.Math.max.name Lib.Math.max.code 2 (some .int) ∈ BIG := mm_bigI 339 (by decide +kernel) rfl
theorem lk_15 : Cond.methodLink RX0 42 yX0_growth ∈ BIG := mm_bigI 481 (by decide +kernel) rfl
theorem lk_16 : Cond.methodLink RX0 46 Lib.Math.min.name ∈ BIG := mm_bigI 415 (by decide +kernel) rfl
theorem lk_17 : Cond.static Lib.Math.min.name ∈ BIG := mm_bigI 341 (by decide +kernel) rfl
theorem lk_18 : Cond.code Lib.Math.min.name Lib.Math.min.code 2 (some .int) ∈ BIG := mm_bigI 342 (by decide +kernel) rfl
theorem lk_19 : Cond.methodLink RX0 55 yX0_healOneHour ∈ BIG := mm_bigI 486 (by decide +kernel) rfl
theorem lk_20 : Cond.methodLink RX0 62 yX0_crack ∈ BIG := mm_bigI 526 (by decide +kernel) rfl
theorem lk_21 : Cond.fieldLink RX1 21 "IceRoad$Load" "state" "I" ∈ BIG := mm_bigI 190 (by decide +kernel) rfl
theorem lk_22 : Cond.fieldLink RX1 24 "IceRoad$Load" "place" "I" ∈ BIG := mm_bigI 192 (by decide +kernel) rfl
theorem lk_23 : Cond.fieldLink RX1 27 "IceRoad$Load" "hoursThere" "I" ∈ BIG := mm_bigI 194 (by decide +kernel) rfl
theorem lk_24 : Cond.fieldLink RX1 30 "IceRoad$Load" "endHour" "I" ∈ BIG := mm_bigI 196 (by decide +kernel) rfl
theorem lk_25 : Cond.fieldLink RX2 18 "IceRoad$Rule" "from" "I" ∈ BIG := mm_bigI 224 (by decide +kernel) rfl
theorem lk_26 : Cond.fieldLink RX2 21 "IceRoad$Rule" "to" "I" ∈ BIG := mm_bigI 226 (by decide +kernel) rfl
theorem lk_27 : Cond.fieldLink RX2 28 "IceRoad$Rule" "testCount" "I" ∈ BIG := mm_bigI 230 (by decide +kernel) rfl
theorem lk_28 : Cond.fieldLink RX2 24 "IceRoad$Rule" "oneIsEnough" "Z" ∈ BIG := mm_bigI 228 (by decide +kernel) rfl
theorem lk_29 : Cond.fieldLink RX2 31 "IceRoad$Rule" "fields" "[I" ∈ BIG := mm_bigI 232 (by decide +kernel) rfl
theorem lk_30 : Cond.fieldLink RX2 35 "IceRoad$Rule" "signs" "[I" ∈ BIG := mm_bigI 234 (by decide +kernel) rfl
theorem lk_31 : Cond.fieldLink RX2 38 "IceRoad$Rule" "limits" "[I" ∈ BIG := mm_bigI 236 (by decide +kernel) rfl
theorem lk_32 : Cond.fieldLink RX3 9 "IceRoad$RuleReader" "place" "I" ∈ BIG := mm_bigI 128 (by decide +kernel) rfl
theorem lk_33 : Cond.fieldLink RX3 15 "IceRoad$RuleReader" "tape" "LIceRoad$Tape;" ∈ BIG := mm_bigI 127 (by decide +kernel) rfl
theorem lk_34 : Cond.fieldLink RX3 113 "IceRoad$Tape" "length" "I" ∈ BIG := mm_bigI 114 (by decide +kernel) rfl
theorem lk_35 : Cond.fieldLink RX4 15 "IceRoad$Tape" "length" "I" ∈ BIG := mm_bigI 113 (by decide +kernel) rfl
theorem lk_36 : Cond.fieldLink RX4 9 "IceRoad$Tape" "bytes" "[I" ∈ BIG := mm_bigI 112 (by decide +kernel) rfl
theorem lk_37 : Cond.methodLink RX3 104 yJ0_length_8abf5 ∈ BIG := mm_bigI 581 (by decide +kernel) rfl
theorem lk_38 : Cond.methodLink RX3 65 yX4_at ∈ BIG := mm_bigI 572 (by decide +kernel) rfl
theorem lk_39 : Cond.methodLink RX3 109 yJ0_charAt_5068e ∈ BIG := mm_bigI 591 (by decide +kernel) rfl
theorem lk_40 : Cond.methodLink RX3 55 yX3_takeWord ∈ BIG := mm_bigI 577 (by decide +kernel) rfl
theorem lk_41 : Cond.fieldLink RX3 25 "IceRoad$Rule" "testCount" "I" ∈ BIG := mm_bigI 231 (by decide +kernel) rfl
theorem lk_42 : Cond.fieldLink RX3 19 "IceRoad$Rule" "oneIsEnough" "Z" ∈ BIG := mm_bigI 229 (by decide +kernel) rfl
theorem lk_43 : Cond.methodLink RX3 75 yX3_takeField ∈ BIG := mm_bigI 652 (by decide +kernel) rfl
theorem lk_44 : Cond.methodLink RX3 35 yX3_takeSign ∈ BIG := mm_bigI 631 (by decide +kernel) rfl
theorem lk_45 : Cond.methodLink RX3 39 yX3_takeNumber ∈ BIG := mm_bigI 635 (by decide +kernel) rfl
theorem lk_46 : Cond.fieldLink RX3 78 "IceRoad$Rule" "fields" "[I" ∈ BIG := mm_bigI 233 (by decide +kernel) rfl
theorem lk_47 : Cond.fieldLink RX3 82 "IceRoad$Rule" "signs" "[I" ∈ BIG := mm_bigI 235 (by decide +kernel) rfl
theorem lk_48 : Cond.fieldLink RX3 85 "IceRoad$Rule" "limits" "[I" ∈ BIG := mm_bigI 237 (by decide +kernel) rfl
theorem lk_49 : Cond.methodLink RX3 59 yX3_takeTest ∈ BIG := mm_bigI 648 (by decide +kernel) rfl
theorem lk_50 : Cond.methodLink RX3 45 yX3_isAtEnd ∈ BIG := mm_bigI 639 (by decide +kernel) rfl
theorem lk_51 : Cond.methodLink RX3 62 yX3_takeJoint ∈ BIG := mm_bigI 661 (by decide +kernel) rfl
theorem lk_52 : Cond.methodLink RX3 28 yX3_takeKey ∈ BIG := mm_bigI 568 (by decide +kernel) rfl
theorem lk_53 : Cond.fieldLink RX3 32 "IceRoad$Rule" "key" "I" ∈ BIG := mm_bigI 219 (by decide +kernel) rfl
theorem lk_54 : Cond.fieldLink RX3 42 "IceRoad$Rule" "number" "I" ∈ BIG := mm_bigI 222 (by decide +kernel) rfl
theorem lk_55 : Cond.methodLink RX3 49 yX3_takeTests ∈ BIG := mm_bigI 643 (by decide +kernel) rfl
theorem lk_56 : Cond.fieldLink RX5 9 "IceRoad$Weather" "heats" "[I" ∈ BIG := mm_bigI 100 (by decide +kernel) rfl
theorem lk_57 : Cond.methodLink RX5 15 yJ9_floorMod_7cf53 ∈ BIG := mm_bigI 383 (by decide +kernel) rfl
theorem lk_58 : Cond.methodLink RX5 21 yX5_nearest ∈ BIG := mm_bigI 386 (by decide +kernel) rfl
theorem lk_59 : Cond.methodLink RX5 24 Lib.Math.max.name ∈ BIG := mm_bigI 390 (by decide +kernel) rfl
theorem lk_60 : Cond.fieldLink RX6 76 "IceRoad" "loadCount" "I" ∈ BIG := mm_bigI 274 (by decide +kernel) rfl
theorem lk_61 : Cond.fieldLink RX6 17 "IceRoad" "loads" "[LIceRoad$Load;" ∈ BIG := mm_bigI 262 (by decide +kernel) rfl
theorem lk_62 : Cond.fieldLink RX6 168 "IceRoad$Load" "state" "I" ∈ BIG := mm_bigI 191 (by decide +kernel) rfl
theorem lk_63 : Cond.fieldLink RX6 174 "IceRoad$Load" "hoursThere" "I" ∈ BIG := mm_bigI 195 (by decide +kernel) rfl
theorem lk_64 : Cond.fieldLink RX6 72 "IceRoad" "cellCount" "I" ∈ BIG := mm_bigI 273 (by decide +kernel) rfl
theorem lk_65 : Cond.methodLink RX6 91 yX6_isWithin ∈ BIG := mm_bigI 314 (by decide +kernel) rfl
theorem lk_66 : Cond.fieldLink RX6 57 "IceRoad" "refusals" "[I" ∈ BIG := mm_bigI 269 (by decide +kernel) rfl
theorem lk_67 : Cond.methodLink RX6 99 yX6_isCell ∈ BIG := mm_bigI 325 (by decide +kernel) rfl
theorem lk_68 : Cond.fieldLink RX6 11 "IceRoad" "cells" "[LIceRoad$Cell;" ∈ BIG := mm_bigI 261 (by decide +kernel) rfl
theorem lk_69 : Cond.methodLink RX6 136 yX0_holdsUp ∈ BIG := mm_bigI 363 (by decide +kernel) rfl
theorem lk_70 : Cond.methodLink RX6 95 yX6_refuse ∈ BIG := mm_bigI 317 (by decide +kernel) rfl
theorem lk_71 : Cond.fieldLink RX6 171 "IceRoad$Load" "place" "I" ∈ BIG := mm_bigI 193 (by decide +kernel) rfl
theorem lk_72 : Cond.fieldLink RX6 103 "IceRoad$Cell" "kind" "I" ∈ BIG := mm_bigI 141 (by decide +kernel) rfl
theorem lk_73 : Cond.methodLink RX6 130 yX6_loadsOn ∈ BIG := mm_bigI 347 (by decide +kernel) rfl
theorem lk_74 : Cond.methodLink RX6 145 yX0_become ∈ BIG := mm_bigI 395 (by decide +kernel) rfl
theorem lk_75 : Cond.fieldLink RX6 109 "IceRoad$Cell" "snow" "I" ∈ BIG := mm_bigI 145 (by decide +kernel) rfl
theorem lk_76 : Cond.fieldLink RX6 118 "IceRoad$Cell" "wear" "I" ∈ BIG := mm_bigI 151 (by decide +kernel) rfl
theorem lk_77 : Cond.fieldLink RX6 106 "IceRoad$Cell" "thickness" "I" ∈ BIG := mm_bigI 143 (by decide +kernel) rfl
theorem lk_78 : Cond.methodLink RX6 87 yX0_lay ∈ BIG := mm_bigI 257 (by decide +kernel) rfl
theorem lk_79 : Cond.fieldLink RX6 68 "IceRoad" "rowThere" "Z" ∈ BIG := mm_bigI 272 (by decide +kernel) rfl
theorem lk_80 : Cond.fieldLink RX6 53 "IceRoad" "numbers" "[I" ∈ BIG := mm_bigI 268 (by decide +kernel) rfl
theorem lk_81 : Cond.fieldLink RX6 33 "IceRoad" "hours" "LIceRoad$Weather;" ∈ BIG := mm_bigI 265 (by decide +kernel) rfl
theorem lk_82 : Cond.fieldLink RX6 139 "IceRoad$Weather" "heats" "[I" ∈ BIG := mm_bigI 101 (by decide +kernel) rfl
theorem lk_83 : Cond.fieldLink RX6 112 "IceRoad$Cell" "depth" "I" ∈ BIG := mm_bigI 147 (by decide +kernel) rfl
theorem lk_84 : Cond.fieldLink RX6 158 "IceRoad$Load" "way" "I" ∈ BIG := mm_bigI 189 (by decide +kernel) rfl
theorem lk_85 : Cond.fieldLink RX6 60 "IceRoad" "facts" "[I" ∈ BIG := mm_bigI 270 (by decide +kernel) rfl
theorem lk_86 : Cond.fieldLink RX6 152 "IceRoad$Load" "weight" "I" ∈ BIG := mm_bigI 185 (by decide +kernel) rfl
theorem lk_87 : Cond.fieldLink RX6 155 "IceRoad$Load" "rank" "I" ∈ BIG := mm_bigI 187 (by decide +kernel) rfl
theorem lk_88 : Cond.fieldLink RX6 82 "IceRoad" "openHour" "I" ∈ BIG := mm_bigI 276 (by decide +kernel) rfl
theorem lk_89 : Cond.methodLink RX6 142 yX5_heatOf ∈ BIG := mm_bigI 379 (by decide +kernel) rfl
theorem lk_90 : Cond.fieldLink RX6 79 "IceRoad" "ruleCount" "I" ∈ BIG := mm_bigI 275 (by decide +kernel) rfl
theorem lk_91 : Cond.fieldLink RX6 26 "IceRoad" "rules" "[LIceRoad$Rule;" ∈ BIG := mm_bigI 264 (by decide +kernel) rfl
theorem lk_92 : Cond.fieldLink RX6 248 "IceRoad$Rule" "key" "I" ∈ BIG := mm_bigI 220 (by decide +kernel) rfl
theorem lk_93 : Cond.methodLink RX6 251 yX2_applies ∈ BIG := mm_bigI 449 (by decide +kernel) rfl
theorem lk_94 : Cond.fieldLink RX6 255 "IceRoad$Rule" "number" "I" ∈ BIG := mm_bigI 223 (by decide +kernel) rfl
theorem lk_95 : Cond.fieldLink RX6 133 "IceRoad$Cell" "known" "I" ∈ BIG := mm_bigI 155 (by decide +kernel) rfl
theorem lk_96 : Cond.methodLink RX6 236 yX6_nearestKnown ∈ BIG := mm_bigI 333 (by decide +kernel) rfl
theorem lk_97 : Cond.methodLink RX6 245 Lib.Math.min.name ∈ BIG := mm_bigI 340 (by decide +kernel) rfl
theorem lk_98 : Cond.methodLink RX6 240 Lib.Math.max.name ∈ BIG := mm_bigI 337 (by decide +kernel) rfl
theorem lk_99 : Cond.methodLink RX6 219 yX6_gatherFacts ∈ BIG := mm_bigI 441 (by decide +kernel) rfl
theorem lk_100 : Cond.methodLink RX6 223 yX6_numberFor ∈ BIG := mm_bigI 445 (by decide +kernel) rfl
theorem lk_101 : Cond.methodLink RX6 124 yX6_leastOf ∈ BIG := mm_bigI 329 (by decide +kernel) rfl
theorem lk_102 : Cond.methodLink RX6 258 yX0_lastCome ∈ BIG := mm_bigI 453 (by decide +kernel) rfl
theorem lk_103 : Cond.methodLink RX6 274 yX6_isBarred ∈ BIG := mm_bigI 510 (by decide +kernel) rfl
theorem lk_104 : Cond.methodLink RX6 180 yX6_reasonAgainst ∈ BIG := mm_bigI 437 (by decide +kernel) rfl
theorem lk_105 : Cond.methodLink RX6 278 yX0_noteCome ∈ BIG := mm_bigI 514 (by decide +kernel) rfl
theorem lk_106 : Cond.methodLink RX6 267 yX1_end ∈ BIG := mm_bigI 502 (by decide +kernel) rfl
theorem lk_107 : Cond.methodLink RX6 287 yX0_crack ∈ BIG := mm_bigI 530 (by decide +kernel) rfl
theorem lk_108 : Cond.methodLink RX6 281 yX1_enter ∈ BIG := mm_bigI 518 (by decide +kernel) rfl
theorem lk_109 : Cond.methodLink RX6 284 yX0_wearDown ∈ BIG := mm_bigI 522 (by decide +kernel) rfl
theorem lk_110 : Cond.methodLink RX6 230 arraycopyName ∈ BIG := mm_bigI 696 (by decide +kernel) rfl
theorem lk_111 : Cond.fieldLink RX6 40 "IceRoad" "tape" "LIceRoad$Tape;" ∈ BIG := mm_bigI 266 (by decide +kernel) rfl
theorem lk_112 : Cond.fieldLink RX6 203 "IceRoad$Tape" "length" "I" ∈ BIG := mm_bigI 115 (by decide +kernel) rfl
theorem lk_113 : Cond.methodLink RX6 184 yX6_loadsIn ∈ BIG := mm_bigI 465 (by decide +kernel) rfl
theorem lk_114 : Cond.methodLink RX6 226 yX6_tonsDelivered ∈ BIG := mm_bigI 676 (by decide +kernel) rfl
theorem lk_115 : Cond.methodLink RX6 204 yX4_put ∈ BIG := mm_bigI 551 (by decide +kernel) rfl
theorem lk_116 : Cond.fieldLink RX6 64 "IceRoad" "trial" "LIceRoad$Cell;" ∈ BIG := mm_bigI 271 (by decide +kernel) rfl
theorem lk_117 : Cond.methodLink RX6 290 yX0_takeAfter ∈ BIG := mm_bigI 543 (by decide +kernel) rfl
theorem lk_118 : Cond.methodLink RX6 261 yX0_passHour ∈ BIG := mm_bigI 477 (by decide +kernel) rfl
theorem lk_119 : Cond.fieldLink RX6 21 "IceRoad" "moving" "[LIceRoad$Load;" ∈ BIG := mm_bigI 263 (by decide +kernel) rfl
theorem lk_120 : Cond.methodLink RX6 161 yX6_lineUp ∈ BIG := mm_bigI 421 (by decide +kernel) rfl
theorem lk_121 : Cond.fieldLink RX6 115 "IceRoad$Cell" "length" "I" ∈ BIG := mm_bigI 149 (by decide +kernel) rfl
theorem lk_122 : Cond.fieldLink RX6 121 "IceRoad$Cell" "healing" "I" ∈ BIG := mm_bigI 153 (by decide +kernel) rfl
theorem lk_123 : Cond.methodLink RX6 127 yX6_mostOf ∈ BIG := mm_bigI 343 (by decide +kernel) rfl
theorem lk_124 : Cond.methodLink RX6 165 yX6_isLoad ∈ BIG := mm_bigI 429 (by decide +kernel) rfl
theorem lk_125 : Cond.methodLink RX6 264 yX6_lastPlace ∈ BIG := mm_bigI 498 (by decide +kernel) rfl
theorem lk_126 : Cond.methodLink RX6 271 yX6_comeIfItCan ∈ BIG := mm_bigI 506 (by decide +kernel) rfl
theorem lk_127 : Cond.fieldLink RX6 177 "IceRoad$Load" "endHour" "I" ∈ BIG := mm_bigI 197 (by decide +kernel) rfl
theorem lk_128 : Cond.constant RX6 207 100000 ∈ BIG := mm_bigI 563 (by decide +kernel) rfl
theorem lk_129 : Cond.fieldLink RX6 49 "IceRoad" "reader" "LIceRoad$RuleReader;" ∈ BIG := mm_bigI 267 (by decide +kernel) rfl
theorem lk_130 : Cond.methodLink RX6 208 yX3_takeRule ∈ BIG := mm_bigI 564 (by decide +kernel) rfl
theorem lk_131 : Cond.fieldLink RX6 213 "IceRoad$Rule" "from" "I" ∈ BIG := mm_bigI 225 (by decide +kernel) rfl
theorem lk_132 : Cond.fieldLink RX6 216 "IceRoad$Rule" "to" "I" ∈ BIG := mm_bigI 227 (by decide +kernel) rfl
theorem lk_133 : Cond.fieldLink RX6 212 "IceRoad$RuleReader" "place" "I" ∈ BIG := mm_bigI 129 (by decide +kernel) rfl
theorem lk_134 : Cond.methodLink RX6 187 yX6_weatherCells ∈ BIG := mm_bigI 473 (by decide +kernel) rfl
theorem lk_135 : Cond.methodLink RX6 190 yX6_agePlaces ∈ BIG := mm_bigI 490 (by decide +kernel) rfl
theorem lk_136 : Cond.methodLink RX6 193 yX6_moveLoadsOnCells ∈ BIG := mm_bigI 494 (by decide +kernel) rfl
theorem lk_137 : Cond.methodLink RX6 196 yX6_moveWaitingLoads ∈ BIG := mm_bigI 531 (by decide +kernel) rfl
theorem lk_138 : Cond.methodLink RX6 149 yX0_takeSnow ∈ BIG := mm_bigI 411 (by decide +kernel) rfl
theorem lk_139 : Cond.methodLink RX6 199 yX6_hoursHeldUp ∈ BIG := mm_bigI 539 (by decide +kernel) rfl
theorem lk_140 : Cond.fieldLink RX7 17 "IceRoadModel" "kind" "[I" ∈ BIG := mm_bigI 712 (by decide +kernel) rfl
theorem lk_141 : Cond.fieldLink RX7 20 "IceRoadModel" "thickness" "[I" ∈ BIG := mm_bigI 713 (by decide +kernel) rfl
theorem lk_142 : Cond.fieldLink RX7 13 "IceRoadModel" "cells" "I" ∈ BIG := mm_bigI 711 (by decide +kernel) rfl
theorem lk_143 : Cond.methodLink RX7 115 yX7_isBorne ∈ BIG := mm_bigI 860 (by decide +kernel) rfl
theorem lk_144 : Cond.methodLink RX7 87 yX7_in ∈ BIG := mm_bigI 817 (by decide +kernel) rfl
theorem lk_145 : Cond.fieldLink RX7 7 "IceRoadModel" "refusals" "[I" ∈ BIG := mm_bigI 709 (by decide +kernel) rfl
theorem lk_146 : Cond.methodLink RX7 98 yX7_isCell ∈ BIG := mm_bigI 828 (by decide +kernel) rfl
theorem lk_147 : Cond.methodLink RX7 94 yX7_refuse ∈ BIG := mm_bigI 820 (by decide +kernel) rfl
theorem lk_148 : Cond.fieldLink RX7 38 "IceRoadModel" "known" "[I" ∈ BIG := mm_bigI 719 (by decide +kernel) rfl
theorem lk_149 : Cond.fieldLink RX7 91 "IceRoadModel" "loads" "I" ∈ BIG := mm_bigI 722 (by decide +kernel) rfl
theorem lk_150 : Cond.fieldLink RX7 56 "IceRoadModel" "state" "[I" ∈ BIG := mm_bigI 726 (by decide +kernel) rfl
theorem lk_151 : Cond.fieldLink RX7 59 "IceRoadModel" "on" "[I" ∈ BIG := mm_bigI 727 (by decide +kernel) rfl
theorem lk_152 : Cond.methodLink RX7 112 yX7_loadsOn ∈ BIG := mm_bigI 844 (by decide +kernel) rfl
theorem lk_153 : Cond.methodLink RX7 125 yX7_becomes ∈ BIG := mm_bigI 884 (by decide +kernel) rfl
theorem lk_154 : Cond.fieldLink RX7 23 "IceRoadModel" "snow" "[I" ∈ BIG := mm_bigI 714 (by decide +kernel) rfl
theorem lk_155 : Cond.fieldLink RX7 32 "IceRoadModel" "wear" "[I" ∈ BIG := mm_bigI 717 (by decide +kernel) rfl
theorem lk_156 : Cond.fieldLink RX7 44 "IceRoadModel" "weather" "[I" ∈ BIG := mm_bigI 721 (by decide +kernel) rfl
theorem lk_157 : Cond.fieldLink RX7 132 "IceRoadModel" "hour" "I" ∈ BIG := mm_bigI 710 (by decide +kernel) rfl
theorem lk_158 : Cond.methodLink RX7 122 yX7_heatOf ∈ BIG := mm_bigI 876 (by decide +kernel) rfl
theorem lk_159 : Cond.fieldLink RX7 50 "IceRoadModel" "rank" "[I" ∈ BIG := mm_bigI 724 (by decide +kernel) rfl
theorem lk_160 : Cond.fieldLink RX7 47 "IceRoadModel" "weight" "[I" ∈ BIG := mm_bigI 723 (by decide +kernel) rfl
theorem lk_161 : Cond.fieldLink RX7 68 "IceRoadModel" "rule" "[I" ∈ BIG := mm_bigI 731 (by decide +kernel) rfl
theorem lk_162 : Cond.methodLink RX7 135 yX7_field ∈ BIG := mm_bigI 928 (by decide +kernel) rfl
theorem lk_163 : Cond.fieldLink RX7 139 "IceRoadModel" "rules" "I" ∈ BIG := mm_bigI 730 (by decide +kernel) rfl
theorem lk_164 : Cond.methodLink RX7 142 yX7_holds ∈ BIG := mm_bigI 924 (by decide +kernel) rfl
theorem lk_165 : Cond.methodLink RX7 102 yX7_nearest ∈ BIG := mm_bigI 836 (by decide +kernel) rfl
theorem lk_166 : Cond.methodLink RX7 145 yX7_saidOf ∈ BIG := mm_bigI 920 (by decide +kernel) rfl
theorem lk_167 : Cond.methodLink RX7 106 yX7_least ∈ BIG := mm_bigI 832 (by decide +kernel) rfl
theorem lk_168 : Cond.fieldLink RX7 41 "IceRoadModel" "came" "[I" ∈ BIG := mm_bigI 720 (by decide +kernel) rfl
theorem lk_169 : Cond.fieldLink RX7 53 "IceRoadModel" "way" "[I" ∈ BIG := mm_bigI 725 (by decide +kernel) rfl
theorem lk_170 : Cond.methodLink RX7 148 yX7_whyNot ∈ BIG := mm_bigI 916 (by decide +kernel) rfl
theorem lk_171 : Cond.fieldLink RX7 26 "IceRoadModel" "depth" "[I" ∈ BIG := mm_bigI 715 (by decide +kernel) rfl
theorem lk_172 : Cond.fieldLink RX7 29 "IceRoadModel" "length" "[I" ∈ BIG := mm_bigI 716 (by decide +kernel) rfl
theorem lk_173 : Cond.fieldLink RX7 222 "IceRoadModel" "isThere" "Z" ∈ BIG := mm_bigI 740 (by decide +kernel) rfl
theorem lk_174 : Cond.fieldLink RX7 81 "IceRoadModel" "row" "[I" ∈ BIG := mm_bigI 741 (by decide +kernel) rfl
theorem lk_175 : Cond.fieldLink RX7 35 "IceRoadModel" "healing" "[I" ∈ BIG := mm_bigI 718 (by decide +kernel) rfl
theorem lk_176 : Cond.fieldLink RX7 62 "IceRoadModel" "there" "[I" ∈ BIG := mm_bigI 728 (by decide +kernel) rfl
theorem lk_177 : Cond.methodLink RX7 154 yX7_cracks ∈ BIG := mm_bigI 972 (by decide +kernel) rfl
theorem lk_178 : Cond.fieldLink RX7 65 "IceRoadModel" "ended" "[I" ∈ BIG := mm_bigI 729 (by decide +kernel) rfl
theorem lk_179 : Cond.fieldLink RX7 84 "IceRoadModel" "moved" "[I" ∈ BIG := mm_bigI 742 (by decide +kernel) rfl
theorem lk_180 : Cond.fieldLink RX7 182 "IceRoadModel" "taped" "I" ∈ BIG := mm_bigI 736 (by decide +kernel) rfl
theorem lk_181 : Cond.fieldLink RX7 158 "IceRoadModel" "tons" "I" ∈ BIG := mm_bigI 733 (by decide +kernel) rfl
theorem lk_182 : Cond.methodLink RX7 151 yX7_many ∈ BIG := mm_bigI 940 (by decide +kernel) rfl
theorem lk_183 : Cond.fieldLink RX7 185 "IceRoadModel" "at" "I" ∈ BIG := mm_bigI 737 (by decide +kernel) rfl
theorem lk_184 : Cond.fieldLink RX7 78 "IceRoadModel" "tape" "[I" ∈ BIG := mm_bigI 735 (by decide +kernel) rfl
theorem lk_185 : Cond.fieldLink RX7 199 "IceRoadModel" "number" "I" ∈ BIG := mm_bigI 739 (by decide +kernel) rfl
theorem lk_186 : Cond.fieldLink RX7 188 "IceRoadModel" "isFaulty" "Z" ∈ BIG := mm_bigI 738 (by decide +kernel) rfl
theorem lk_187 : Cond.methodLink RX7 192 yX7_here ∈ BIG := mm_bigI 1005 (by decide +kernel) rfl
theorem lk_188 : Cond.methodLink RX7 196 yX7_eats ∈ BIG := mm_bigI 1013 (by decide +kernel) rfl
theorem lk_189 : Cond.methodLink RX7 202 yX7_eats3 ∈ BIG := mm_bigI 1009 (by decide +kernel) rfl
theorem lk_190 : Cond.fieldLink RX7 71 "IceRoadModel" "isDone" "[Z" ∈ BIG := mm_bigI 732 (by decide +kernel) rfl
theorem lk_191 : Cond.methodLink RX7 161 yX7_can ∈ BIG := mm_bigI 964 (by decide +kernel) rfl
theorem lk_192 : Cond.methodLink RX7 164 yX7_comes ∈ BIG := mm_bigI 968 (by decide +kernel) rfl
theorem lk_193 : Cond.methodLink RX7 167 yX7_grows ∈ BIG := mm_bigI 952 (by decide +kernel) rfl
theorem lk_194 : Cond.methodLink RX7 170 yX7_next ∈ BIG := mm_bigI 956 (by decide +kernel) rfl
theorem lk_195 : Cond.methodLink RX7 173 yX7_goesOn ∈ BIG := mm_bigI 960 (by decide +kernel) rfl
theorem lk_196 : Cond.methodLink RX7 119 yX7_nought ∈ BIG := mm_bigI 868 (by decide +kernel) rfl
theorem lk_197 : Cond.methodLink RX7 109 yX7_most ∈ BIG := mm_bigI 840 (by decide +kernel) rfl
theorem lk_198 : Cond.methodLink RX7 129 yX7_isLoad ∈ BIG := mm_bigI 908 (by decide +kernel) rfl
theorem lk_199 : Cond.methodLink RX7 206 yX7_fieldRead ∈ BIG := mm_bigI 1025 (by decide +kernel) rfl
theorem lk_200 : Cond.methodLink RX7 209 yX7_digits ∈ BIG := mm_bigI 1017 (by decide +kernel) rfl
theorem lk_201 : Cond.methodLink RX7 212 yX7_key ∈ BIG := mm_bigI 1001 (by decide +kernel) rfl
theorem lk_202 : Cond.methodLink RX7 215 yX7_test ∈ BIG := mm_bigI 1021 (by decide +kernel) rfl
theorem lk_203 : Cond.constant RX7 218 100000 ∈ BIG := mm_bigI 996 (by decide +kernel) rfl
theorem lk_204 : Cond.methodLink RX7 219 yX7_reads ∈ BIG := mm_bigI 997 (by decide +kernel) rfl
theorem lk_205 : Cond.methodLink RX7 176 yX7_goesBy ∈ BIG := mm_bigI 948 (by decide +kernel) rfl
theorem lk_206 : Cond.methodLink RX7 179 yX7_allBear ∈ BIG := mm_bigI 980 (by decide +kernel) rfl
theorem lk_207 : Cond.fieldLink RX7 75 "IceRoadModel" "kept" "[I" ∈ BIG := mm_bigI 734 (by decide +kernel) rfl
theorem ws_J9_floorMod_7cf53 : mmWs yJ9_floorMod_7cf53 cJ9_floorMod_7cf53 3 (some .int) := ⟨mm_bigI 384 (by decide +kernel) rfl, mm_bigI 74 (by decide +kernel) rfl, mm_bigI 385 (by decide +kernel) rfl⟩
theorem hd_J9_floorMod_7cf53 : yJ9_floorMod_7cf53.cls ≠ "java/lang/invoke/MethodHandle" ∧ yJ9_floorMod_7cf53.cls ≠ "java/lang/invoke/VarHandle" ∧ (parseMethodDescriptor yJ9_floorMod_7cf53.desc).map (fun d => d.parameters.length) = some 2 := by decide +kernel
theorem ws_X0_become : mmW yX0_become cX0_become 2 none := ⟨mm_bigI 396 (by decide +kernel) rfl, mm_bigI 397 (by decide +kernel) rfl, mm_bigI 70 (by decide +kernel) rfl, mm_bigI 398 (by decide +kernel) rfl⟩
theorem hd_X0_become : yX0_become.cls ≠ "java/lang/invoke/MethodHandle" ∧ yX0_become.cls ≠ "java/lang/invoke/VarHandle" ∧ (parseMethodDescriptor yX0_become.desc).map (fun d => d.parameters.length) = some 1 := by decide +kernel
theorem ws_X0_crack : mmW yX0_crack cX0_crack 1 none := ⟨mm_bigI 527 (by decide +kernel) rfl, mm_bigI 528 (by decide +kernel) rfl, mm_bigI 70 (by decide +kernel) rfl, mm_bigI 529 (by decide +kernel) rfl⟩
theorem hd_X0_crack : yX0_crack.cls ≠ "java/lang/invoke/MethodHandle" ∧ yX0_crack.cls ≠ "java/lang/invoke/VarHandle" ∧ (parseMethodDescriptor yX0_crack.desc).map (fun d => d.parameters.length) = some 0 := by decide +kernel
theorem ws_X0_growth : mmW yX0_growth cX0_growth 5 (some .int) := ⟨mm_bigI 483 (by decide +kernel) rfl, mm_bigI 14 (by decide +kernel) rfl, mm_bigI 70 (by decide +kernel) rfl, mm_bigI 484 (by decide +kernel) rfl⟩
theorem hd_X0_growth : yX0_growth.cls ≠ "java/lang/invoke/MethodHandle" ∧ yX0_growth.cls ≠ "java/lang/invoke/VarHandle" ∧ (parseMethodDescriptor yX0_growth.desc).map (fun d => d.parameters.length) = some 1 := by decide +kernel
theorem ws_X0_healOneHour : mmW yX0_healOneHour cX0_healOneHour 1 none := ⟨mm_bigI 488 (by decide +kernel) rfl, mm_bigI 15 (by decide +kernel) rfl, mm_bigI 70 (by decide +kernel) rfl, mm_bigI 489 (by decide +kernel) rfl⟩
theorem hd_X0_healOneHour : yX0_healOneHour.cls ≠ "java/lang/invoke/MethodHandle" ∧ yX0_healOneHour.cls ≠ "java/lang/invoke/VarHandle" ∧ (parseMethodDescriptor yX0_healOneHour.desc).map (fun d => d.parameters.length) = some 0 := by decide +kernel
theorem ws_X0_holdsUp : mmW yX0_holdsUp cX0_holdsUp 3 (some .boolean) := ⟨mm_bigI 364 (by decide +kernel) rfl, mm_bigI 365 (by decide +kernel) rfl, mm_bigI 70 (by decide +kernel) rfl, mm_bigI 366 (by decide +kernel) rfl⟩
theorem hd_X0_holdsUp : yX0_holdsUp.cls ≠ "java/lang/invoke/MethodHandle" ∧ yX0_holdsUp.cls ≠ "java/lang/invoke/VarHandle" ∧ (parseMethodDescriptor yX0_holdsUp.desc).map (fun d => d.parameters.length) = some 1 := by decide +kernel
theorem ws_X0_lastCome : mmW yX0_lastCome cX0_lastCome 2 (some .int) := ⟨mm_bigI 454 (by decide +kernel) rfl, mm_bigI 455 (by decide +kernel) rfl, mm_bigI 70 (by decide +kernel) rfl, mm_bigI 456 (by decide +kernel) rfl⟩
theorem hd_X0_lastCome : yX0_lastCome.cls ≠ "java/lang/invoke/MethodHandle" ∧ yX0_lastCome.cls ≠ "java/lang/invoke/VarHandle" ∧ (parseMethodDescriptor yX0_lastCome.desc).map (fun d => d.parameters.length) = some 1 := by decide +kernel
theorem ws_X0_lay : mmW yX0_lay cX0_lay 4 none := ⟨mm_bigI 258 (by decide +kernel) rfl, mm_bigI 259 (by decide +kernel) rfl, mm_bigI 70 (by decide +kernel) rfl, mm_bigI 260 (by decide +kernel) rfl⟩
theorem hd_X0_lay : yX0_lay.cls ≠ "java/lang/invoke/MethodHandle" ∧ yX0_lay.cls ≠ "java/lang/invoke/VarHandle" ∧ (parseMethodDescriptor yX0_lay.desc).map (fun d => d.parameters.length) = some 3 := by decide +kernel
theorem ws_X0_noteCome : mmW yX0_noteCome cX0_noteCome 3 none := ⟨mm_bigI 515 (by decide +kernel) rfl, mm_bigI 516 (by decide +kernel) rfl, mm_bigI 70 (by decide +kernel) rfl, mm_bigI 517 (by decide +kernel) rfl⟩
theorem hd_X0_noteCome : yX0_noteCome.cls ≠ "java/lang/invoke/MethodHandle" ∧ yX0_noteCome.cls ≠ "java/lang/invoke/VarHandle" ∧ (parseMethodDescriptor yX0_noteCome.desc).map (fun d => d.parameters.length) = some 2 := by decide +kernel
theorem ws_X0_passHour : mmW yX0_passHour cX0_passHour 2 none := ⟨mm_bigI 478 (by decide +kernel) rfl, mm_bigI 479 (by decide +kernel) rfl, mm_bigI 70 (by decide +kernel) rfl, mm_bigI 480 (by decide +kernel) rfl⟩
theorem hd_X0_passHour : yX0_passHour.cls ≠ "java/lang/invoke/MethodHandle" ∧ yX0_passHour.cls ≠ "java/lang/invoke/VarHandle" ∧ (parseMethodDescriptor yX0_passHour.desc).map (fun d => d.parameters.length) = some 1 := by decide +kernel
theorem ws_X0_takeAfter : mmW yX0_takeAfter cX0_takeAfter 2 none := ⟨mm_bigI 544 (by decide +kernel) rfl, mm_bigI 545 (by decide +kernel) rfl, mm_bigI 70 (by decide +kernel) rfl, mm_bigI 546 (by decide +kernel) rfl⟩
theorem hd_X0_takeAfter : yX0_takeAfter.cls ≠ "java/lang/invoke/MethodHandle" ∧ yX0_takeAfter.cls ≠ "java/lang/invoke/VarHandle" ∧ (parseMethodDescriptor yX0_takeAfter.desc).map (fun d => d.parameters.length) = some 1 := by decide +kernel
theorem ws_X0_takeSnow : mmW yX0_takeSnow cX0_takeSnow 2 (some .boolean) := ⟨mm_bigI 412 (by decide +kernel) rfl, mm_bigI 413 (by decide +kernel) rfl, mm_bigI 70 (by decide +kernel) rfl, mm_bigI 414 (by decide +kernel) rfl⟩
theorem hd_X0_takeSnow : yX0_takeSnow.cls ≠ "java/lang/invoke/MethodHandle" ∧ yX0_takeSnow.cls ≠ "java/lang/invoke/VarHandle" ∧ (parseMethodDescriptor yX0_takeSnow.desc).map (fun d => d.parameters.length) = some 1 := by decide +kernel
theorem ws_X0_wearDown : mmW yX0_wearDown cX0_wearDown 2 none := ⟨mm_bigI 523 (by decide +kernel) rfl, mm_bigI 524 (by decide +kernel) rfl, mm_bigI 70 (by decide +kernel) rfl, mm_bigI 525 (by decide +kernel) rfl⟩
theorem hd_X0_wearDown : yX0_wearDown.cls ≠ "java/lang/invoke/MethodHandle" ∧ yX0_wearDown.cls ≠ "java/lang/invoke/VarHandle" ∧ (parseMethodDescriptor yX0_wearDown.desc).map (fun d => d.parameters.length) = some 1 := by decide +kernel
theorem ws_X1_end : mmW yX1_end cX1_end 3 none := ⟨mm_bigI 503 (by decide +kernel) rfl, mm_bigI 504 (by decide +kernel) rfl, mm_bigI 71 (by decide +kernel) rfl, mm_bigI 505 (by decide +kernel) rfl⟩
theorem hd_X1_end : yX1_end.cls ≠ "java/lang/invoke/MethodHandle" ∧ yX1_end.cls ≠ "java/lang/invoke/VarHandle" ∧ (parseMethodDescriptor yX1_end.desc).map (fun d => d.parameters.length) = some 2 := by decide +kernel
theorem ws_X1_enter : mmW yX1_enter cX1_enter 2 none := ⟨mm_bigI 519 (by decide +kernel) rfl, mm_bigI 520 (by decide +kernel) rfl, mm_bigI 71 (by decide +kernel) rfl, mm_bigI 521 (by decide +kernel) rfl⟩
theorem hd_X1_enter : yX1_enter.cls ≠ "java/lang/invoke/MethodHandle" ∧ yX1_enter.cls ≠ "java/lang/invoke/VarHandle" ∧ (parseMethodDescriptor yX1_enter.desc).map (fun d => d.parameters.length) = some 1 := by decide +kernel
theorem ws_X2_applies : mmW yX2_applies cX2_applies 7 (some .boolean) := ⟨mm_bigI 450 (by decide +kernel) rfl, mm_bigI 451 (by decide +kernel) rfl, mm_bigI 72 (by decide +kernel) rfl, mm_bigI 452 (by decide +kernel) rfl⟩
theorem hd_X2_applies : yX2_applies.cls ≠ "java/lang/invoke/MethodHandle" ∧ yX2_applies.cls ≠ "java/lang/invoke/VarHandle" ∧ (parseMethodDescriptor yX2_applies.desc).map (fun d => d.parameters.length) = some 2 := by decide +kernel
theorem ws_X3_isAtEnd : mmW yX3_isAtEnd cX3_isAtEnd 1 (some .boolean) := ⟨mm_bigI 641 (by decide +kernel) rfl, mm_bigI 27 (by decide +kernel) rfl, mm_bigI 69 (by decide +kernel) rfl, mm_bigI 642 (by decide +kernel) rfl⟩
theorem hd_X3_isAtEnd : yX3_isAtEnd.cls ≠ "java/lang/invoke/MethodHandle" ∧ yX3_isAtEnd.cls ≠ "java/lang/invoke/VarHandle" ∧ (parseMethodDescriptor yX3_isAtEnd.desc).map (fun d => d.parameters.length) = some 0 := by decide +kernel
theorem ws_X4_at : mmW yX4_at cX4_at 2 (some .int) := ⟨mm_bigI 573 (by decide +kernel) rfl, mm_bigI 574 (by decide +kernel) rfl, mm_bigI 68 (by decide +kernel) rfl, mm_bigI 575 (by decide +kernel) rfl⟩
theorem hd_X4_at : yX4_at.cls ≠ "java/lang/invoke/MethodHandle" ∧ yX4_at.cls ≠ "java/lang/invoke/VarHandle" ∧ (parseMethodDescriptor yX4_at.desc).map (fun d => d.parameters.length) = some 1 := by decide +kernel
theorem ws_X3_takeWord : mmW yX3_takeWord cX3_takeWord 3 (some .boolean) := ⟨mm_bigI 579 (by decide +kernel) rfl, mm_bigI 24 (by decide +kernel) rfl, mm_bigI 69 (by decide +kernel) rfl, mm_bigI 580 (by decide +kernel) rfl⟩
theorem hd_X3_takeWord : yX3_takeWord.cls ≠ "java/lang/invoke/MethodHandle" ∧ yX3_takeWord.cls ≠ "java/lang/invoke/VarHandle" ∧ (parseMethodDescriptor yX3_takeWord.desc).map (fun d => d.parameters.length) = some 1 := by decide +kernel
theorem ws_X3_takeField : mmW yX3_takeField cX3_takeField 1 (some .int) := ⟨mm_bigI 654 (by decide +kernel) rfl, mm_bigI 30 (by decide +kernel) rfl, mm_bigI 69 (by decide +kernel) rfl, mm_bigI 655 (by decide +kernel) rfl⟩
theorem hd_X3_takeField : yX3_takeField.cls ≠ "java/lang/invoke/MethodHandle" ∧ yX3_takeField.cls ≠ "java/lang/invoke/VarHandle" ∧ (parseMethodDescriptor yX3_takeField.desc).map (fun d => d.parameters.length) = some 0 := by decide +kernel
theorem ws_X3_takeJoint : mmW yX3_takeJoint cX3_takeJoint 2 (some .boolean) := ⟨mm_bigI 663 (by decide +kernel) rfl, mm_bigI 31 (by decide +kernel) rfl, mm_bigI 69 (by decide +kernel) rfl, mm_bigI 664 (by decide +kernel) rfl⟩
theorem hd_X3_takeJoint : yX3_takeJoint.cls ≠ "java/lang/invoke/MethodHandle" ∧ yX3_takeJoint.cls ≠ "java/lang/invoke/VarHandle" ∧ (parseMethodDescriptor yX3_takeJoint.desc).map (fun d => d.parameters.length) = some 1 := by decide +kernel
theorem ws_X3_takeKey : mmW yX3_takeKey cX3_takeKey 1 (some .int) := ⟨mm_bigI 570 (by decide +kernel) rfl, mm_bigI 23 (by decide +kernel) rfl, mm_bigI 69 (by decide +kernel) rfl, mm_bigI 571 (by decide +kernel) rfl⟩
theorem hd_X3_takeKey : yX3_takeKey.cls ≠ "java/lang/invoke/MethodHandle" ∧ yX3_takeKey.cls ≠ "java/lang/invoke/VarHandle" ∧ (parseMethodDescriptor yX3_takeKey.desc).map (fun d => d.parameters.length) = some 0 := by decide +kernel
theorem ws_X3_takeNumber : mmW yX3_takeNumber cX3_takeNumber 4 (some .int) := ⟨mm_bigI 637 (by decide +kernel) rfl, mm_bigI 26 (by decide +kernel) rfl, mm_bigI 69 (by decide +kernel) rfl, mm_bigI 638 (by decide +kernel) rfl⟩
theorem hd_X3_takeNumber : yX3_takeNumber.cls ≠ "java/lang/invoke/MethodHandle" ∧ yX3_takeNumber.cls ≠ "java/lang/invoke/VarHandle" ∧ (parseMethodDescriptor yX3_takeNumber.desc).map (fun d => d.parameters.length) = some 0 := by decide +kernel
theorem ws_X3_takeSign : mmW yX3_takeSign cX3_takeSign 2 (some .boolean) := ⟨mm_bigI 633 (by decide +kernel) rfl, mm_bigI 25 (by decide +kernel) rfl, mm_bigI 69 (by decide +kernel) rfl, mm_bigI 634 (by decide +kernel) rfl⟩
theorem hd_X3_takeSign : yX3_takeSign.cls ≠ "java/lang/invoke/MethodHandle" ∧ yX3_takeSign.cls ≠ "java/lang/invoke/VarHandle" ∧ (parseMethodDescriptor yX3_takeSign.desc).map (fun d => d.parameters.length) = some 1 := by decide +kernel
theorem ws_X3_takeTest : mmW yX3_takeTest cX3_takeTest 6 (some .boolean) := ⟨mm_bigI 650 (by decide +kernel) rfl, mm_bigI 29 (by decide +kernel) rfl, mm_bigI 69 (by decide +kernel) rfl, mm_bigI 651 (by decide +kernel) rfl⟩
theorem hd_X3_takeTest : yX3_takeTest.cls ≠ "java/lang/invoke/MethodHandle" ∧ yX3_takeTest.cls ≠ "java/lang/invoke/VarHandle" ∧ (parseMethodDescriptor yX3_takeTest.desc).map (fun d => d.parameters.length) = some 1 := by decide +kernel
theorem ws_X3_takeTests : mmW yX3_takeTests cX3_takeTests 3 (some .boolean) := ⟨mm_bigI 645 (by decide +kernel) rfl, mm_bigI 28 (by decide +kernel) rfl, mm_bigI 69 (by decide +kernel) rfl, mm_bigI 646 (by decide +kernel) rfl⟩
theorem hd_X3_takeTests : yX3_takeTests.cls ≠ "java/lang/invoke/MethodHandle" ∧ yX3_takeTests.cls ≠ "java/lang/invoke/VarHandle" ∧ (parseMethodDescriptor yX3_takeTests.desc).map (fun d => d.parameters.length) = some 1 := by decide +kernel
theorem ws_X3_takeRule : mmW yX3_takeRule cX3_takeRule 2 (some .boolean) := ⟨mm_bigI 565 (by decide +kernel) rfl, mm_bigI 566 (by decide +kernel) rfl, mm_bigI 69 (by decide +kernel) rfl, mm_bigI 567 (by decide +kernel) rfl⟩
theorem hd_X3_takeRule : yX3_takeRule.cls ≠ "java/lang/invoke/MethodHandle" ∧ yX3_takeRule.cls ≠ "java/lang/invoke/VarHandle" ∧ (parseMethodDescriptor yX3_takeRule.desc).map (fun d => d.parameters.length) = some 1 := by decide +kernel
theorem ws_X4_put : mmW yX4_put cX4_put 2 none := ⟨mm_bigI 552 (by decide +kernel) rfl, mm_bigI 553 (by decide +kernel) rfl, mm_bigI 68 (by decide +kernel) rfl, mm_bigI 554 (by decide +kernel) rfl⟩
theorem hd_X4_put : yX4_put.cls ≠ "java/lang/invoke/MethodHandle" ∧ yX4_put.cls ≠ "java/lang/invoke/VarHandle" ∧ (parseMethodDescriptor yX4_put.desc).map (fun d => d.parameters.length) = some 1 := by decide +kernel
theorem ws_X5_nearest : mmW yX5_nearest cX5_nearest 5 (some .int) := ⟨mm_bigI 388 (by decide +kernel) rfl, mm_bigI 6 (by decide +kernel) rfl, mm_bigI 67 (by decide +kernel) rfl, mm_bigI 389 (by decide +kernel) rfl⟩
theorem hd_X5_nearest : yX5_nearest.cls ≠ "java/lang/invoke/MethodHandle" ∧ yX5_nearest.cls ≠ "java/lang/invoke/VarHandle" ∧ (parseMethodDescriptor yX5_nearest.desc).map (fun d => d.parameters.length) = some 2 := by decide +kernel
theorem ws_X5_heatOf : mmW yX5_heatOf cX5_heatOf 6 (some .int) := ⟨mm_bigI 380 (by decide +kernel) rfl, mm_bigI 381 (by decide +kernel) rfl, mm_bigI 67 (by decide +kernel) rfl, mm_bigI 382 (by decide +kernel) rfl⟩
theorem hd_X5_heatOf : yX5_heatOf.cls ≠ "java/lang/invoke/MethodHandle" ∧ yX5_heatOf.cls ≠ "java/lang/invoke/VarHandle" ∧ (parseMethodDescriptor yX5_heatOf.desc).map (fun d => d.parameters.length) = some 1 := by decide +kernel
theorem ws_X6_agePlaces : mmW yX6_agePlaces cX6_agePlaces 2 none := ⟨mm_bigI 492 (by decide +kernel) rfl, mm_bigI 16 (by decide +kernel) rfl, mm_bigI 66 (by decide +kernel) rfl, mm_bigI 493 (by decide +kernel) rfl⟩
theorem hd_X6_agePlaces : yX6_agePlaces.cls ≠ "java/lang/invoke/MethodHandle" ∧ yX6_agePlaces.cls ≠ "java/lang/invoke/VarHandle" ∧ (parseMethodDescriptor yX6_agePlaces.desc).map (fun d => d.parameters.length) = some 0 := by decide +kernel
theorem ws_X6_isCell : mmW yX6_isCell cX6_isCell 2 (some .boolean) := ⟨mm_bigI 327 (by decide +kernel) rfl, mm_bigI 1 (by decide +kernel) rfl, mm_bigI 66 (by decide +kernel) rfl, mm_bigI 328 (by decide +kernel) rfl⟩
theorem hd_X6_isCell : yX6_isCell.cls ≠ "java/lang/invoke/MethodHandle" ∧ yX6_isCell.cls ≠ "java/lang/invoke/VarHandle" ∧ (parseMethodDescriptor yX6_isCell.desc).map (fun d => d.parameters.length) = some 1 := by decide +kernel
theorem ws_X6_isWithin : mmWs yX6_isWithin cX6_isWithin 3 (some .boolean) := ⟨mm_bigI 315 (by decide +kernel) rfl, mm_bigI 66 (by decide +kernel) rfl, mm_bigI 316 (by decide +kernel) rfl⟩
theorem hd_X6_isWithin : yX6_isWithin.cls ≠ "java/lang/invoke/MethodHandle" ∧ yX6_isWithin.cls ≠ "java/lang/invoke/VarHandle" ∧ (parseMethodDescriptor yX6_isWithin.desc).map (fun d => d.parameters.length) = some 3 := by decide +kernel
theorem ws_X6_refuse : mmW yX6_refuse cX6_refuse 2 (some .int) := ⟨mm_bigI 319 (by decide +kernel) rfl, mm_bigI 0 (by decide +kernel) rfl, mm_bigI 66 (by decide +kernel) rfl, mm_bigI 320 (by decide +kernel) rfl⟩
theorem hd_X6_refuse : yX6_refuse.cls ≠ "java/lang/invoke/MethodHandle" ∧ yX6_refuse.cls ≠ "java/lang/invoke/VarHandle" ∧ (parseMethodDescriptor yX6_refuse.desc).map (fun d => d.parameters.length) = some 1 := by decide +kernel
theorem ws_X6_bears : mmW yX6_bears cX6_bears 3 (some .int) := ⟨mm_bigI 360 (by decide +kernel) rfl, mm_bigI 361 (by decide +kernel) rfl, mm_bigI 66 (by decide +kernel) rfl, mm_bigI 362 (by decide +kernel) rfl⟩
theorem hd_X6_bears : yX6_bears.cls ≠ "java/lang/invoke/MethodHandle" ∧ yX6_bears.cls ≠ "java/lang/invoke/VarHandle" ∧ (parseMethodDescriptor yX6_bears.desc).map (fun d => d.parameters.length) = some 2 := by decide +kernel
theorem ws_X6_loadsOn : mmW yX6_loadsOn cX6_loadsOn 4 (some .int) := ⟨mm_bigI 349 (by decide +kernel) rfl, mm_bigI 5 (by decide +kernel) rfl, mm_bigI 66 (by decide +kernel) rfl, mm_bigI 350 (by decide +kernel) rfl⟩
theorem hd_X6_loadsOn : yX6_loadsOn.cls ≠ "java/lang/invoke/MethodHandle" ∧ yX6_loadsOn.cls ≠ "java/lang/invoke/VarHandle" ∧ (parseMethodDescriptor yX6_loadsOn.desc).map (fun d => d.parameters.length) = some 1 := by decide +kernel
theorem ws_X6_bypass : mmW yX6_bypass cX6_bypass 3 (some .int) := ⟨mm_bigI 404 (by decide +kernel) rfl, mm_bigI 405 (by decide +kernel) rfl, mm_bigI 66 (by decide +kernel) rfl, mm_bigI 406 (by decide +kernel) rfl⟩
theorem hd_X6_bypass : yX6_bypass.cls ≠ "java/lang/invoke/MethodHandle" ∧ yX6_bypass.cls ≠ "java/lang/invoke/VarHandle" ∧ (parseMethodDescriptor yX6_bypass.desc).map (fun d => d.parameters.length) = some 1 := by decide +kernel
theorem ws_X6_cell : mmW yX6_cell cX6_cell 4 (some .int) := ⟨mm_bigI 311 (by decide +kernel) rfl, mm_bigI 312 (by decide +kernel) rfl, mm_bigI 66 (by decide +kernel) rfl, mm_bigI 313 (by decide +kernel) rfl⟩
theorem hd_X6_cell : yX6_cell.cls ≠ "java/lang/invoke/MethodHandle" ∧ yX6_cell.cls ≠ "java/lang/invoke/VarHandle" ∧ (parseMethodDescriptor yX6_cell.desc).map (fun d => d.parameters.length) = some 3 := by decide +kernel
theorem ws_X6_cold : mmW yX6_cold cX6_cold 4 (some .int) := ⟨mm_bigI 372 (by decide +kernel) rfl, mm_bigI 373 (by decide +kernel) rfl, mm_bigI 66 (by decide +kernel) rfl, mm_bigI 374 (by decide +kernel) rfl⟩
theorem hd_X6_cold : yX6_cold.cls ≠ "java/lang/invoke/MethodHandle" ∧ yX6_cold.cls ≠ "java/lang/invoke/VarHandle" ∧ (parseMethodDescriptor yX6_cold.desc).map (fun d => d.parameters.length) = some 0 := by decide +kernel
theorem ws_X6_isBarred : mmW yX6_isBarred cX6_isBarred 6 (some .boolean) := ⟨mm_bigI 512 (by decide +kernel) rfl, mm_bigI 20 (by decide +kernel) rfl, mm_bigI 66 (by decide +kernel) rfl, mm_bigI 513 (by decide +kernel) rfl⟩
theorem hd_X6_isBarred : yX6_isBarred.cls ≠ "java/lang/invoke/MethodHandle" ∧ yX6_isBarred.cls ≠ "java/lang/invoke/VarHandle" ∧ (parseMethodDescriptor yX6_isBarred.desc).map (fun d => d.parameters.length) = some 2 := by decide +kernel
theorem ws_X6_gatherFacts : mmW yX6_gatherFacts cX6_gatherFacts 3 none := ⟨mm_bigI 443 (by decide +kernel) rfl, mm_bigI 10 (by decide +kernel) rfl, mm_bigI 66 (by decide +kernel) rfl, mm_bigI 444 (by decide +kernel) rfl⟩
theorem hd_X6_gatherFacts : yX6_gatherFacts.cls ≠ "java/lang/invoke/MethodHandle" ∧ yX6_gatherFacts.cls ≠ "java/lang/invoke/VarHandle" ∧ (parseMethodDescriptor yX6_gatherFacts.desc).map (fun d => d.parameters.length) = some 2 := by decide +kernel
theorem ws_X6_numberFor : mmW yX6_numberFor cX6_numberFor 3 (some .int) := ⟨mm_bigI 447 (by decide +kernel) rfl, mm_bigI 11 (by decide +kernel) rfl, mm_bigI 66 (by decide +kernel) rfl, mm_bigI 448 (by decide +kernel) rfl⟩
theorem hd_X6_numberFor : yX6_numberFor.cls ≠ "java/lang/invoke/MethodHandle" ∧ yX6_numberFor.cls ≠ "java/lang/invoke/VarHandle" ∧ (parseMethodDescriptor yX6_numberFor.desc).map (fun d => d.parameters.length) = some 1 := by decide +kernel
theorem ws_X6_nearestKnown : mmW yX6_nearestKnown cX6_nearestKnown 5 (some .int) := ⟨mm_bigI 335 (by decide +kernel) rfl, mm_bigI 3 (by decide +kernel) rfl, mm_bigI 66 (by decide +kernel) rfl, mm_bigI 336 (by decide +kernel) rfl⟩
theorem hd_X6_nearestKnown : yX6_nearestKnown.cls ≠ "java/lang/invoke/MethodHandle" ∧ yX6_nearestKnown.cls ≠ "java/lang/invoke/VarHandle" ∧ (parseMethodDescriptor yX6_nearestKnown.desc).map (fun d => d.parameters.length) = some 2 := by decide +kernel
theorem ws_X6_leastOf : mmW yX6_leastOf cX6_leastOf 5 (some .int) := ⟨mm_bigI 331 (by decide +kernel) rfl, mm_bigI 2 (by decide +kernel) rfl, mm_bigI 66 (by decide +kernel) rfl, mm_bigI 332 (by decide +kernel) rfl⟩
theorem hd_X6_leastOf : yX6_leastOf.cls ≠ "java/lang/invoke/MethodHandle" ∧ yX6_leastOf.cls ≠ "java/lang/invoke/VarHandle" ∧ (parseMethodDescriptor yX6_leastOf.desc).map (fun d => d.parameters.length) = some 1 := by decide +kernel
theorem ws_X6_reasonAgainst : mmW yX6_reasonAgainst cX6_reasonAgainst 4 (some .int) := ⟨mm_bigI 439 (by decide +kernel) rfl, mm_bigI 9 (by decide +kernel) rfl, mm_bigI 66 (by decide +kernel) rfl, mm_bigI 440 (by decide +kernel) rfl⟩
theorem hd_X6_reasonAgainst : yX6_reasonAgainst.cls ≠ "java/lang/invoke/MethodHandle" ∧ yX6_reasonAgainst.cls ≠ "java/lang/invoke/VarHandle" ∧ (parseMethodDescriptor yX6_reasonAgainst.desc).map (fun d => d.parameters.length) = some 2 := by decide +kernel
theorem ws_X6_comeIfItCan : mmW yX6_comeIfItCan cX6_comeIfItCan 4 none := ⟨mm_bigI 508 (by decide +kernel) rfl, mm_bigI 19 (by decide +kernel) rfl, mm_bigI 66 (by decide +kernel) rfl, mm_bigI 509 (by decide +kernel) rfl⟩
theorem hd_X6_comeIfItCan : yX6_comeIfItCan.cls ≠ "java/lang/invoke/MethodHandle" ∧ yX6_comeIfItCan.cls ≠ "java/lang/invoke/VarHandle" ∧ (parseMethodDescriptor yX6_comeIfItCan.desc).map (fun d => d.parameters.length) = some 2 := by decide +kernel
theorem ws_X6_copy : mmW yX6_copy cX6_copy 4 (some .int) := ⟨mm_bigI 693 (by decide +kernel) rfl, mm_bigI 694 (by decide +kernel) rfl, mm_bigI 66 (by decide +kernel) rfl, mm_bigI 695 (by decide +kernel) rfl⟩
theorem hd_X6_copy : yX6_copy.cls ≠ "java/lang/invoke/MethodHandle" ∧ yX6_copy.cls ≠ "java/lang/invoke/VarHandle" ∧ (parseMethodDescriptor yX6_copy.desc).map (fun d => d.parameters.length) = some 3 := by decide +kernel
theorem ws_X6_loadsIn : mmW yX6_loadsIn cX6_loadsIn 4 (some .int) := ⟨mm_bigI 467 (by decide +kernel) rfl, mm_bigI 12 (by decide +kernel) rfl, mm_bigI 66 (by decide +kernel) rfl, mm_bigI 468 (by decide +kernel) rfl⟩
theorem hd_X6_loadsIn : yX6_loadsIn.cls ≠ "java/lang/invoke/MethodHandle" ∧ yX6_loadsIn.cls ≠ "java/lang/invoke/VarHandle" ∧ (parseMethodDescriptor yX6_loadsIn.desc).map (fun d => d.parameters.length) = some 1 := by decide +kernel
theorem ws_X6_tonsDelivered : mmW yX6_tonsDelivered cX6_tonsDelivered 3 (some .int) := ⟨mm_bigI 678 (by decide +kernel) rfl, mm_bigI 32 (by decide +kernel) rfl, mm_bigI 66 (by decide +kernel) rfl, mm_bigI 679 (by decide +kernel) rfl⟩
theorem hd_X6_tonsDelivered : yX6_tonsDelivered.cls ≠ "java/lang/invoke/MethodHandle" ∧ yX6_tonsDelivered.cls ≠ "java/lang/invoke/VarHandle" ∧ (parseMethodDescriptor yX6_tonsDelivered.desc).map (fun d => d.parameters.length) = some 0 := by decide +kernel
theorem ws_X6_count : mmW yX6_count cX6_count 2 (some .int) := ⟨mm_bigI 673 (by decide +kernel) rfl, mm_bigI 674 (by decide +kernel) rfl, mm_bigI 66 (by decide +kernel) rfl, mm_bigI 675 (by decide +kernel) rfl⟩
theorem hd_X6_count : yX6_count.cls ≠ "java/lang/invoke/MethodHandle" ∧ yX6_count.cls ≠ "java/lang/invoke/VarHandle" ∧ (parseMethodDescriptor yX6_count.desc).map (fun d => d.parameters.length) = some 1 := by decide +kernel
theorem ws_X6_feed : mmW yX6_feed cX6_feed 4 (some .int) := ⟨mm_bigI 548 (by decide +kernel) rfl, mm_bigI 549 (by decide +kernel) rfl, mm_bigI 66 (by decide +kernel) rfl, mm_bigI 550 (by decide +kernel) rfl⟩
theorem hd_X6_feed : yX6_feed.cls ≠ "java/lang/invoke/MethodHandle" ∧ yX6_feed.cls ≠ "java/lang/invoke/VarHandle" ∧ (parseMethodDescriptor yX6_feed.desc).map (fun d => d.parameters.length) = some 2 := by decide +kernel
theorem ws_X6_flood : mmW yX6_flood cX6_flood 3 (some .int) := ⟨mm_bigI 400 (by decide +kernel) rfl, mm_bigI 401 (by decide +kernel) rfl, mm_bigI 66 (by decide +kernel) rfl, mm_bigI 402 (by decide +kernel) rfl⟩
theorem hd_X6_flood : yX6_flood.cls ≠ "java/lang/invoke/MethodHandle" ∧ yX6_flood.cls ≠ "java/lang/invoke/VarHandle" ∧ (parseMethodDescriptor yX6_flood.desc).map (fun d => d.parameters.length) = some 1 := by decide +kernel
theorem ws_X6_heat : mmW yX6_heat cX6_heat 2 (some .int) := ⟨mm_bigI 376 (by decide +kernel) rfl, mm_bigI 377 (by decide +kernel) rfl, mm_bigI 66 (by decide +kernel) rfl, mm_bigI 378 (by decide +kernel) rfl⟩
theorem hd_X6_heat : yX6_heat.cls ≠ "java/lang/invoke/MethodHandle" ∧ yX6_heat.cls ≠ "java/lang/invoke/VarHandle" ∧ (parseMethodDescriptor yX6_heat.desc).map (fun d => d.parameters.length) = some 1 := by decide +kernel
theorem ws_X6_hoursHeldUp : mmW yX6_hoursHeldUp cX6_hoursHeldUp 6 (some .int) := ⟨mm_bigI 541 (by decide +kernel) rfl, mm_bigI 22 (by decide +kernel) rfl, mm_bigI 66 (by decide +kernel) rfl, mm_bigI 542 (by decide +kernel) rfl⟩
theorem hd_X6_hoursHeldUp : yX6_hoursHeldUp.cls ≠ "java/lang/invoke/MethodHandle" ∧ yX6_hoursHeldUp.cls ≠ "java/lang/invoke/VarHandle" ∧ (parseMethodDescriptor yX6_hoursHeldUp.desc).map (fun d => d.parameters.length) = some 4 := by decide +kernel
theorem ws_X6_isLoad : mmW yX6_isLoad cX6_isLoad 2 (some .boolean) := ⟨mm_bigI 431 (by decide +kernel) rfl, mm_bigI 8 (by decide +kernel) rfl, mm_bigI 66 (by decide +kernel) rfl, mm_bigI 432 (by decide +kernel) rfl⟩
theorem hd_X6_isLoad : yX6_isLoad.cls ≠ "java/lang/invoke/MethodHandle" ∧ yX6_isLoad.cls ≠ "java/lang/invoke/VarHandle" ∧ (parseMethodDescriptor yX6_isLoad.desc).map (fun d => d.parameters.length) = some 1 := by decide +kernel
theorem ws_X6_lastPlace : mmW yX6_lastPlace cX6_lastPlace 2 (some .int) := ⟨mm_bigI 500 (by decide +kernel) rfl, mm_bigI 18 (by decide +kernel) rfl, mm_bigI 66 (by decide +kernel) rfl, mm_bigI 501 (by decide +kernel) rfl⟩
theorem hd_X6_lastPlace : yX6_lastPlace.cls ≠ "java/lang/invoke/MethodHandle" ∧ yX6_lastPlace.cls ≠ "java/lang/invoke/VarHandle" ∧ (parseMethodDescriptor yX6_lastPlace.desc).map (fun d => d.parameters.length) = some 1 := by decide +kernel
theorem ws_X6_lineUp : mmW yX6_lineUp cX6_lineUp 3 none := ⟨mm_bigI 423 (by decide +kernel) rfl, mm_bigI 7 (by decide +kernel) rfl, mm_bigI 66 (by decide +kernel) rfl, mm_bigI 424 (by decide +kernel) rfl⟩
theorem hd_X6_lineUp : yX6_lineUp.cls ≠ "java/lang/invoke/MethodHandle" ∧ yX6_lineUp.cls ≠ "java/lang/invoke/VarHandle" ∧ (parseMethodDescriptor yX6_lineUp.desc).map (fun d => d.parameters.length) = some 1 := by decide +kernel
theorem ws_X6_load : mmW yX6_load cX6_load 6 (some .int) := ⟨mm_bigI 418 (by decide +kernel) rfl, mm_bigI 419 (by decide +kernel) rfl, mm_bigI 66 (by decide +kernel) rfl, mm_bigI 420 (by decide +kernel) rfl⟩
theorem hd_X6_load : yX6_load.cls ≠ "java/lang/invoke/MethodHandle" ∧ yX6_load.cls ≠ "java/lang/invoke/VarHandle" ∧ (parseMethodDescriptor yX6_load.desc).map (fun d => d.parameters.length) = some 3 := by decide +kernel
theorem ws_X6_mostOf : mmW yX6_mostOf cX6_mostOf 5 (some .int) := ⟨mm_bigI 345 (by decide +kernel) rfl, mm_bigI 4 (by decide +kernel) rfl, mm_bigI 66 (by decide +kernel) rfl, mm_bigI 346 (by decide +kernel) rfl⟩
theorem hd_X6_mostOf : yX6_mostOf.cls ≠ "java/lang/invoke/MethodHandle" ∧ yX6_mostOf.cls ≠ "java/lang/invoke/VarHandle" ∧ (parseMethodDescriptor yX6_mostOf.desc).map (fun d => d.parameters.length) = some 1 := by decide +kernel
theorem ws_X6_look : mmW yX6_look cX6_look 4 (some .int) := ⟨mm_bigI 322 (by decide +kernel) rfl, mm_bigI 323 (by decide +kernel) rfl, mm_bigI 66 (by decide +kernel) rfl, mm_bigI 324 (by decide +kernel) rfl⟩
theorem hd_X6_look : yX6_look.cls ≠ "java/lang/invoke/MethodHandle" ∧ yX6_look.cls ≠ "java/lang/invoke/VarHandle" ∧ (parseMethodDescriptor yX6_look.desc).map (fun d => d.parameters.length) = some 2 := by decide +kernel
theorem ws_X6_may : mmW yX6_may cX6_may 3 (some .int) := ⟨mm_bigI 434 (by decide +kernel) rfl, mm_bigI 435 (by decide +kernel) rfl, mm_bigI 66 (by decide +kernel) rfl, mm_bigI 436 (by decide +kernel) rfl⟩
theorem hd_X6_may : yX6_may.cls ≠ "java/lang/invoke/MethodHandle" ∧ yX6_may.cls ≠ "java/lang/invoke/VarHandle" ∧ (parseMethodDescriptor yX6_may.desc).map (fun d => d.parameters.length) = some 2 := by decide +kernel
theorem ws_X6_moveLoadsOnCells : mmW yX6_moveLoadsOnCells cX6_moveLoadsOnCells 3 none := ⟨mm_bigI 496 (by decide +kernel) rfl, mm_bigI 17 (by decide +kernel) rfl, mm_bigI 66 (by decide +kernel) rfl, mm_bigI 497 (by decide +kernel) rfl⟩
theorem hd_X6_moveLoadsOnCells : yX6_moveLoadsOnCells.cls ≠ "java/lang/invoke/MethodHandle" ∧ yX6_moveLoadsOnCells.cls ≠ "java/lang/invoke/VarHandle" ∧ (parseMethodDescriptor yX6_moveLoadsOnCells.desc).map (fun d => d.parameters.length) = some 0 := by decide +kernel
theorem ws_X6_moveWaitingLoads : mmW yX6_moveWaitingLoads cX6_moveWaitingLoads 3 none := ⟨mm_bigI 533 (by decide +kernel) rfl, mm_bigI 21 (by decide +kernel) rfl, mm_bigI 66 (by decide +kernel) rfl, mm_bigI 534 (by decide +kernel) rfl⟩
theorem hd_X6_moveWaitingLoads : yX6_moveWaitingLoads.cls ≠ "java/lang/invoke/MethodHandle" ∧ yX6_moveWaitingLoads.cls ≠ "java/lang/invoke/VarHandle" ∧ (parseMethodDescriptor yX6_moveWaitingLoads.desc).map (fun d => d.parameters.length) = some 0 := by decide +kernel
theorem ws_X6_of : mmW yX6_of cX6_of 4 (some .int) := ⟨mm_bigI 426 (by decide +kernel) rfl, mm_bigI 427 (by decide +kernel) rfl, mm_bigI 66 (by decide +kernel) rfl, mm_bigI 428 (by decide +kernel) rfl⟩
theorem hd_X6_of : yX6_of.cls ≠ "java/lang/invoke/MethodHandle" ∧ yX6_of.cls ≠ "java/lang/invoke/VarHandle" ∧ (parseMethodDescriptor yX6_of.desc).map (fun d => d.parameters.length) = some 2 := by decide +kernel
theorem ws_X6_read : mmW yX6_read cX6_read 3 (some .int) := ⟨mm_bigI 356 (by decide +kernel) rfl, mm_bigI 357 (by decide +kernel) rfl, mm_bigI 66 (by decide +kernel) rfl, mm_bigI 358 (by decide +kernel) rfl⟩
theorem hd_X6_read : yX6_read.cls ≠ "java/lang/invoke/MethodHandle" ∧ yX6_read.cls ≠ "java/lang/invoke/VarHandle" ∧ (parseMethodDescriptor yX6_read.desc).map (fun d => d.parameters.length) = some 1 := by decide +kernel
theorem ws_X6_row : mmW yX6_row cX6_row 2 (some .int) := ⟨mm_bigI 689 (by decide +kernel) rfl, mm_bigI 690 (by decide +kernel) rfl, mm_bigI 66 (by decide +kernel) rfl, mm_bigI 691 (by decide +kernel) rfl⟩
theorem hd_X6_row : yX6_row.cls ≠ "java/lang/invoke/MethodHandle" ∧ yX6_row.cls ≠ "java/lang/invoke/VarHandle" ∧ (parseMethodDescriptor yX6_row.desc).map (fun d => d.parameters.length) = some 1 := by decide +kernel
theorem ws_X6_rule : mmW yX6_rule cX6_rule 4 (some .int) := ⟨mm_bigI 560 (by decide +kernel) rfl, mm_bigI 561 (by decide +kernel) rfl, mm_bigI 66 (by decide +kernel) rfl, mm_bigI 562 (by decide +kernel) rfl⟩
theorem hd_X6_rule : yX6_rule.cls ≠ "java/lang/invoke/MethodHandle" ∧ yX6_rule.cls ≠ "java/lang/invoke/VarHandle" ∧ (parseMethodDescriptor yX6_rule.desc).map (fun d => d.parameters.length) = some 2 := by decide +kernel
theorem ws_X6_weatherCells : mmW yX6_weatherCells cX6_weatherCells 3 none := ⟨mm_bigI 475 (by decide +kernel) rfl, mm_bigI 13 (by decide +kernel) rfl, mm_bigI 66 (by decide +kernel) rfl, mm_bigI 476 (by decide +kernel) rfl⟩
theorem hd_X6_weatherCells : yX6_weatherCells.cls ≠ "java/lang/invoke/MethodHandle" ∧ yX6_weatherCells.cls ≠ "java/lang/invoke/VarHandle" ∧ (parseMethodDescriptor yX6_weatherCells.desc).map (fun d => d.parameters.length) = some 0 := by decide +kernel
theorem ws_X6_run : mmW yX6_run cX6_run 4 (some .int) := ⟨mm_bigI 470 (by decide +kernel) rfl, mm_bigI 471 (by decide +kernel) rfl, mm_bigI 66 (by decide +kernel) rfl, mm_bigI 472 (by decide +kernel) rfl⟩
theorem hd_X6_run : yX6_run.cls ≠ "java/lang/invoke/MethodHandle" ∧ yX6_run.cls ≠ "java/lang/invoke/VarHandle" ∧ (parseMethodDescriptor yX6_run.desc).map (fun d => d.parameters.length) = some 1 := by decide +kernel
theorem ws_X6_said : mmW yX6_said cX6_said 4 (some .int) := ⟨mm_bigI 669 (by decide +kernel) rfl, mm_bigI 670 (by decide +kernel) rfl, mm_bigI 66 (by decide +kernel) rfl, mm_bigI 671 (by decide +kernel) rfl⟩
theorem hd_X6_said : yX6_said.cls ≠ "java/lang/invoke/MethodHandle" ∧ yX6_said.cls ≠ "java/lang/invoke/VarHandle" ∧ (parseMethodDescriptor yX6_said.desc).map (fun d => d.parameters.length) = some 3 := by decide +kernel
theorem ws_X6_snow : mmW yX6_snow cX6_snow 4 (some .int) := ⟨mm_bigI 408 (by decide +kernel) rfl, mm_bigI 409 (by decide +kernel) rfl, mm_bigI 66 (by decide +kernel) rfl, mm_bigI 410 (by decide +kernel) rfl⟩
theorem hd_X6_snow : yX6_snow.cls ≠ "java/lang/invoke/MethodHandle" ∧ yX6_snow.cls ≠ "java/lang/invoke/VarHandle" ∧ (parseMethodDescriptor yX6_snow.desc).map (fun d => d.parameters.length) = some 1 := by decide +kernel
theorem ws_X6_status : mmW yX6_status cX6_status 2 (some .int) := ⟨mm_bigI 700 (by decide +kernel) rfl, mm_bigI 701 (by decide +kernel) rfl, mm_bigI 66 (by decide +kernel) rfl, mm_bigI 702 (by decide +kernel) rfl⟩
theorem hd_X6_status : yX6_status.cls ≠ "java/lang/invoke/MethodHandle" ∧ yX6_status.cls ≠ "java/lang/invoke/VarHandle" ∧ (parseMethodDescriptor yX6_status.desc).map (fun d => d.parameters.length) = some 1 := by decide +kernel
theorem ws_X6_sweep : mmW yX6_sweep cX6_sweep 3 (some .int) := ⟨mm_bigI 392 (by decide +kernel) rfl, mm_bigI 393 (by decide +kernel) rfl, mm_bigI 66 (by decide +kernel) rfl, mm_bigI 394 (by decide +kernel) rfl⟩
theorem hd_X6_sweep : yX6_sweep.cls ≠ "java/lang/invoke/MethodHandle" ∧ yX6_sweep.cls ≠ "java/lang/invoke/VarHandle" ∧ (parseMethodDescriptor yX6_sweep.desc).map (fun d => d.parameters.length) = some 1 := by decide +kernel
theorem ws_X6_tear : mmW yX6_tear cX6_tear 2 (some .int) := ⟨mm_bigI 685 (by decide +kernel) rfl, mm_bigI 686 (by decide +kernel) rfl, mm_bigI 66 (by decide +kernel) rfl, mm_bigI 687 (by decide +kernel) rfl⟩
theorem hd_X6_tear : yX6_tear.cls ≠ "java/lang/invoke/MethodHandle" ∧ yX6_tear.cls ≠ "java/lang/invoke/VarHandle" ∧ (parseMethodDescriptor yX6_tear.desc).map (fun d => d.parameters.length) = some 0 := by decide +kernel
theorem ws_X6_tell : mmW yX6_tell cX6_tell 3 (some .int) := ⟨mm_bigI 681 (by decide +kernel) rfl, mm_bigI 682 (by decide +kernel) rfl, mm_bigI 66 (by decide +kernel) rfl, mm_bigI 683 (by decide +kernel) rfl⟩
theorem hd_X6_tell : yX6_tell.cls ≠ "java/lang/invoke/MethodHandle" ∧ yX6_tell.cls ≠ "java/lang/invoke/VarHandle" ∧ (parseMethodDescriptor yX6_tell.desc).map (fun d => d.parameters.length) = some 2 := by decide +kernel
theorem ws_X6_thaw : mmW yX6_thaw cX6_thaw 5 (some .int) := ⟨mm_bigI 536 (by decide +kernel) rfl, mm_bigI 537 (by decide +kernel) rfl, mm_bigI 66 (by decide +kernel) rfl, mm_bigI 538 (by decide +kernel) rfl⟩
theorem hd_X6_thaw : yX6_thaw.cls ≠ "java/lang/invoke/MethodHandle" ∧ yX6_thaw.cls ≠ "java/lang/invoke/VarHandle" ∧ (parseMethodDescriptor yX6_thaw.desc).map (fun d => d.parameters.length) = some 2 := by decide +kernel
theorem ws_X6_thick : mmW yX6_thick cX6_thick 5 (some .int) := ⟨mm_bigI 352 (by decide +kernel) rfl, mm_bigI 353 (by decide +kernel) rfl, mm_bigI 66 (by decide +kernel) rfl, mm_bigI 354 (by decide +kernel) rfl⟩
theorem hd_X6_thick : yX6_thick.cls ≠ "java/lang/invoke/MethodHandle" ∧ yX6_thick.cls ≠ "java/lang/invoke/VarHandle" ∧ (parseMethodDescriptor yX6_thick.desc).map (fun d => d.parameters.length) = some 2 := by decide +kernel
theorem ws_X6_turn : mmW yX6_turn cX6_turn 2 (some .int) := ⟨mm_bigI 462 (by decide +kernel) rfl, mm_bigI 463 (by decide +kernel) rfl, mm_bigI 66 (by decide +kernel) rfl, mm_bigI 464 (by decide +kernel) rfl⟩
theorem hd_X6_turn : yX6_turn.cls ≠ "java/lang/invoke/MethodHandle" ∧ yX6_turn.cls ≠ "java/lang/invoke/VarHandle" ∧ (parseMethodDescriptor yX6_turn.desc).map (fun d => d.parameters.length) = some 1 := by decide +kernel
theorem ws_X6_weather : mmW yX6_weather cX6_weather 4 (some .int) := ⟨mm_bigI 368 (by decide +kernel) rfl, mm_bigI 369 (by decide +kernel) rfl, mm_bigI 66 (by decide +kernel) rfl, mm_bigI 370 (by decide +kernel) rfl⟩
theorem hd_X6_weather : yX6_weather.cls ≠ "java/lang/invoke/MethodHandle" ∧ yX6_weather.cls ≠ "java/lang/invoke/VarHandle" ∧ (parseMethodDescriptor yX6_weather.desc).map (fun d => d.parameters.length) = some 2 := by decide +kernel
theorem ws_X6_why : mmW yX6_why cX6_why 3 (some .int) := ⟨mm_bigI 458 (by decide +kernel) rfl, mm_bigI 459 (by decide +kernel) rfl, mm_bigI 66 (by decide +kernel) rfl, mm_bigI 460 (by decide +kernel) rfl⟩
theorem hd_X6_why : yX6_why.cls ≠ "java/lang/invoke/MethodHandle" ∧ yX6_why.cls ≠ "java/lang/invoke/VarHandle" ∧ (parseMethodDescriptor yX6_why.desc).map (fun d => d.parameters.length) = some 2 := by decide +kernel
theorem ws_X6_wipe : mmW yX6_wipe cX6_wipe 2 (some .int) := ⟨mm_bigI 556 (by decide +kernel) rfl, mm_bigI 557 (by decide +kernel) rfl, mm_bigI 66 (by decide +kernel) rfl, mm_bigI 558 (by decide +kernel) rfl⟩
theorem hd_X6_wipe : yX6_wipe.cls ≠ "java/lang/invoke/MethodHandle" ∧ yX6_wipe.cls ≠ "java/lang/invoke/VarHandle" ∧ (parseMethodDescriptor yX6_wipe.desc).map (fun d => d.parameters.length) = some 0 := by decide +kernel
theorem ws_X7_isBorne : mmW yX7_isBorne cX7_isBorne 3 (some .boolean) := ⟨mm_bigI 862 (by decide +kernel) rfl, mm_bigI 39 (by decide +kernel) rfl, mm_bigI 73 (by decide +kernel) rfl, mm_bigI 863 (by decide +kernel) rfl⟩
theorem hd_X7_isBorne : yX7_isBorne.cls ≠ "java/lang/invoke/MethodHandle" ∧ yX7_isBorne.cls ≠ "java/lang/invoke/VarHandle" ∧ (parseMethodDescriptor yX7_isBorne.desc).map (fun d => d.parameters.length) = some 2 := by decide +kernel
theorem ws_X7_allBear : mmW yX7_allBear cX7_allBear 3 (some .boolean) := ⟨mm_bigI 982 (by decide +kernel) rfl, mm_bigI 56 (by decide +kernel) rfl, mm_bigI 73 (by decide +kernel) rfl, mm_bigI 983 (by decide +kernel) rfl⟩
theorem hd_X7_allBear : yX7_allBear.cls ≠ "java/lang/invoke/MethodHandle" ∧ yX7_allBear.cls ≠ "java/lang/invoke/VarHandle" ∧ (parseMethodDescriptor yX7_allBear.desc).map (fun d => d.parameters.length) = some 1 := by decide +kernel
theorem ws_X7_in : mmWs yX7_in cX7_in 3 (some .boolean) := ⟨mm_bigI 818 (by decide +kernel) rfl, mm_bigI 73 (by decide +kernel) rfl, mm_bigI 819 (by decide +kernel) rfl⟩
theorem hd_X7_in : yX7_in.cls ≠ "java/lang/invoke/MethodHandle" ∧ yX7_in.cls ≠ "java/lang/invoke/VarHandle" ∧ (parseMethodDescriptor yX7_in.desc).map (fun d => d.parameters.length) = some 3 := by decide +kernel
theorem ws_X7_isCell : mmW yX7_isCell cX7_isCell 2 (some .boolean) := ⟨mm_bigI 830 (by decide +kernel) rfl, mm_bigI 34 (by decide +kernel) rfl, mm_bigI 73 (by decide +kernel) rfl, mm_bigI 831 (by decide +kernel) rfl⟩
theorem hd_X7_isCell : yX7_isCell.cls ≠ "java/lang/invoke/MethodHandle" ∧ yX7_isCell.cls ≠ "java/lang/invoke/VarHandle" ∧ (parseMethodDescriptor yX7_isCell.desc).map (fun d => d.parameters.length) = some 1 := by decide +kernel
theorem ws_X7_refuse : mmW yX7_refuse cX7_refuse 2 (some .int) := ⟨mm_bigI 822 (by decide +kernel) rfl, mm_bigI 33 (by decide +kernel) rfl, mm_bigI 73 (by decide +kernel) rfl, mm_bigI 823 (by decide +kernel) rfl⟩
theorem hd_X7_refuse : yX7_refuse.cls ≠ "java/lang/invoke/MethodHandle" ∧ yX7_refuse.cls ≠ "java/lang/invoke/VarHandle" ∧ (parseMethodDescriptor yX7_refuse.desc).map (fun d => d.parameters.length) = some 1 := by decide +kernel
theorem ws_X7_bears : mmW yX7_bears cX7_bears 3 (some .int) := ⟨mm_bigI 857 (by decide +kernel) rfl, mm_bigI 858 (by decide +kernel) rfl, mm_bigI 73 (by decide +kernel) rfl, mm_bigI 859 (by decide +kernel) rfl⟩
theorem hd_X7_bears : yX7_bears.cls ≠ "java/lang/invoke/MethodHandle" ∧ yX7_bears.cls ≠ "java/lang/invoke/VarHandle" ∧ (parseMethodDescriptor yX7_bears.desc).map (fun d => d.parameters.length) = some 2 := by decide +kernel
theorem ws_X7_becomes : mmW yX7_becomes cX7_becomes 3 none := ⟨mm_bigI 886 (by decide +kernel) rfl, mm_bigI 42 (by decide +kernel) rfl, mm_bigI 73 (by decide +kernel) rfl, mm_bigI 887 (by decide +kernel) rfl⟩
theorem hd_X7_becomes : yX7_becomes.cls ≠ "java/lang/invoke/MethodHandle" ∧ yX7_becomes.cls ≠ "java/lang/invoke/VarHandle" ∧ (parseMethodDescriptor yX7_becomes.desc).map (fun d => d.parameters.length) = some 2 := by decide +kernel
theorem ws_X7_loadsOn : mmW yX7_loadsOn cX7_loadsOn 4 (some .int) := ⟨mm_bigI 846 (by decide +kernel) rfl, mm_bigI 38 (by decide +kernel) rfl, mm_bigI 73 (by decide +kernel) rfl, mm_bigI 847 (by decide +kernel) rfl⟩
theorem hd_X7_loadsOn : yX7_loadsOn.cls ≠ "java/lang/invoke/MethodHandle" ∧ yX7_loadsOn.cls ≠ "java/lang/invoke/VarHandle" ∧ (parseMethodDescriptor yX7_loadsOn.desc).map (fun d => d.parameters.length) = some 1 := by decide +kernel
theorem ws_X7_bypass : mmW yX7_bypass cX7_bypass 2 (some .int) := ⟨mm_bigI 893 (by decide +kernel) rfl, mm_bigI 894 (by decide +kernel) rfl, mm_bigI 73 (by decide +kernel) rfl, mm_bigI 895 (by decide +kernel) rfl⟩
theorem hd_X7_bypass : yX7_bypass.cls ≠ "java/lang/invoke/MethodHandle" ∧ yX7_bypass.cls ≠ "java/lang/invoke/VarHandle" ∧ (parseMethodDescriptor yX7_bypass.desc).map (fun d => d.parameters.length) = some 1 := by decide +kernel
theorem ws_X7_heatOf : mmW yX7_heatOf cX7_heatOf 8 (some .int) := ⟨mm_bigI 878 (by decide +kernel) rfl, mm_bigI 41 (by decide +kernel) rfl, mm_bigI 73 (by decide +kernel) rfl, mm_bigI 879 (by decide +kernel) rfl⟩
theorem hd_X7_heatOf : yX7_heatOf.cls ≠ "java/lang/invoke/MethodHandle" ∧ yX7_heatOf.cls ≠ "java/lang/invoke/VarHandle" ∧ (parseMethodDescriptor yX7_heatOf.desc).map (fun d => d.parameters.length) = some 1 := by decide +kernel
theorem ws_X7_field : mmW yX7_field cX7_field 4 (some .int) := ⟨mm_bigI 930 (by decide +kernel) rfl, mm_bigI 47 (by decide +kernel) rfl, mm_bigI 73 (by decide +kernel) rfl, mm_bigI 931 (by decide +kernel) rfl⟩
theorem hd_X7_field : yX7_field.cls ≠ "java/lang/invoke/MethodHandle" ∧ yX7_field.cls ≠ "java/lang/invoke/VarHandle" ∧ (parseMethodDescriptor yX7_field.desc).map (fun d => d.parameters.length) = some 3 := by decide +kernel
theorem ws_X7_holds : mmW yX7_holds cX7_holds 11 (some .boolean) := ⟨mm_bigI 926 (by decide +kernel) rfl, mm_bigI 46 (by decide +kernel) rfl, mm_bigI 73 (by decide +kernel) rfl, mm_bigI 927 (by decide +kernel) rfl⟩
theorem hd_X7_holds : yX7_holds.cls ≠ "java/lang/invoke/MethodHandle" ∧ yX7_holds.cls ≠ "java/lang/invoke/VarHandle" ∧ (parseMethodDescriptor yX7_holds.desc).map (fun d => d.parameters.length) = some 3 := by decide +kernel
theorem ws_X7_saidOf : mmW yX7_saidOf cX7_saidOf 5 (some .int) := ⟨mm_bigI 922 (by decide +kernel) rfl, mm_bigI 45 (by decide +kernel) rfl, mm_bigI 73 (by decide +kernel) rfl, mm_bigI 923 (by decide +kernel) rfl⟩
theorem hd_X7_saidOf : yX7_saidOf.cls ≠ "java/lang/invoke/MethodHandle" ∧ yX7_saidOf.cls ≠ "java/lang/invoke/VarHandle" ∧ (parseMethodDescriptor yX7_saidOf.desc).map (fun d => d.parameters.length) = some 3 := by decide +kernel
theorem ws_X7_nearest : mmW yX7_nearest cX7_nearest 4 (some .int) := ⟨mm_bigI 838 (by decide +kernel) rfl, mm_bigI 36 (by decide +kernel) rfl, mm_bigI 73 (by decide +kernel) rfl, mm_bigI 839 (by decide +kernel) rfl⟩
theorem hd_X7_nearest : yX7_nearest.cls ≠ "java/lang/invoke/MethodHandle" ∧ yX7_nearest.cls ≠ "java/lang/invoke/VarHandle" ∧ (parseMethodDescriptor yX7_nearest.desc).map (fun d => d.parameters.length) = some 2 := by decide +kernel
theorem ws_X7_least : mmW yX7_least cX7_least 4 (some .int) := ⟨mm_bigI 834 (by decide +kernel) rfl, mm_bigI 35 (by decide +kernel) rfl, mm_bigI 73 (by decide +kernel) rfl, mm_bigI 835 (by decide +kernel) rfl⟩
theorem hd_X7_least : yX7_least.cls ≠ "java/lang/invoke/MethodHandle" ∧ yX7_least.cls ≠ "java/lang/invoke/VarHandle" ∧ (parseMethodDescriptor yX7_least.desc).map (fun d => d.parameters.length) = some 1 := by decide +kernel
theorem ws_X7_whyNot : mmW yX7_whyNot cX7_whyNot 4 (some .int) := ⟨mm_bigI 918 (by decide +kernel) rfl, mm_bigI 44 (by decide +kernel) rfl, mm_bigI 73 (by decide +kernel) rfl, mm_bigI 919 (by decide +kernel) rfl⟩
theorem hd_X7_whyNot : yX7_whyNot.cls ≠ "java/lang/invoke/MethodHandle" ∧ yX7_whyNot.cls ≠ "java/lang/invoke/VarHandle" ∧ (parseMethodDescriptor yX7_whyNot.desc).map (fun d => d.parameters.length) = some 2 := by decide +kernel
theorem ws_X7_can : mmW yX7_can cX7_can 4 (some .boolean) := ⟨mm_bigI 966 (by decide +kernel) rfl, mm_bigI 53 (by decide +kernel) rfl, mm_bigI 73 (by decide +kernel) rfl, mm_bigI 967 (by decide +kernel) rfl⟩
theorem hd_X7_can : yX7_can.cls ≠ "java/lang/invoke/MethodHandle" ∧ yX7_can.cls ≠ "java/lang/invoke/VarHandle" ∧ (parseMethodDescriptor yX7_can.desc).map (fun d => d.parameters.length) = some 2 := by decide +kernel
theorem ws_X7_cell : mmW yX7_cell cX7_cell 4 (some .int) := ⟨mm_bigI 814 (by decide +kernel) rfl, mm_bigI 815 (by decide +kernel) rfl, mm_bigI 73 (by decide +kernel) rfl, mm_bigI 816 (by decide +kernel) rfl⟩
theorem hd_X7_cell : yX7_cell.cls ≠ "java/lang/invoke/MethodHandle" ∧ yX7_cell.cls ≠ "java/lang/invoke/VarHandle" ∧ (parseMethodDescriptor yX7_cell.desc).map (fun d => d.parameters.length) = some 3 := by decide +kernel
theorem ws_X7_cold : mmW yX7_cold cX7_cold 4 (some .int) := ⟨mm_bigI 1038 (by decide +kernel) rfl, mm_bigI 1039 (by decide +kernel) rfl, mm_bigI 73 (by decide +kernel) rfl, mm_bigI 1040 (by decide +kernel) rfl⟩
theorem hd_X7_cold : yX7_cold.cls ≠ "java/lang/invoke/MethodHandle" ∧ yX7_cold.cls ≠ "java/lang/invoke/VarHandle" ∧ (parseMethodDescriptor yX7_cold.desc).map (fun d => d.parameters.length) = some 0 := by decide +kernel
theorem ws_X7_cracks : mmW yX7_cracks cX7_cracks 2 none := ⟨mm_bigI 974 (by decide +kernel) rfl, mm_bigI 55 (by decide +kernel) rfl, mm_bigI 73 (by decide +kernel) rfl, mm_bigI 975 (by decide +kernel) rfl⟩
theorem hd_X7_cracks : yX7_cracks.cls ≠ "java/lang/invoke/MethodHandle" ∧ yX7_cracks.cls ≠ "java/lang/invoke/VarHandle" ∧ (parseMethodDescriptor yX7_cracks.desc).map (fun d => d.parameters.length) = some 1 := by decide +kernel
theorem ws_X7_comes : mmW yX7_comes cX7_comes 3 none := ⟨mm_bigI 970 (by decide +kernel) rfl, mm_bigI 54 (by decide +kernel) rfl, mm_bigI 73 (by decide +kernel) rfl, mm_bigI 971 (by decide +kernel) rfl⟩
theorem hd_X7_comes : yX7_comes.cls ≠ "java/lang/invoke/MethodHandle" ∧ yX7_comes.cls ≠ "java/lang/invoke/VarHandle" ∧ (parseMethodDescriptor yX7_comes.desc).map (fun d => d.parameters.length) = some 2 := by decide +kernel
theorem ws_X7_copy : mmW yX7_copy cX7_copy 5 (some .int) := ⟨mm_bigI 1054 (by decide +kernel) rfl, mm_bigI 1055 (by decide +kernel) rfl, mm_bigI 73 (by decide +kernel) rfl, mm_bigI 1056 (by decide +kernel) rfl⟩
theorem hd_X7_copy : yX7_copy.cls ≠ "java/lang/invoke/MethodHandle" ∧ yX7_copy.cls ≠ "java/lang/invoke/VarHandle" ∧ (parseMethodDescriptor yX7_copy.desc).map (fun d => d.parameters.length) = some 3 := by decide +kernel
theorem ws_X7_many : mmW yX7_many cX7_many 4 (some .int) := ⟨mm_bigI 942 (by decide +kernel) rfl, mm_bigI 48 (by decide +kernel) rfl, mm_bigI 73 (by decide +kernel) rfl, mm_bigI 943 (by decide +kernel) rfl⟩
theorem hd_X7_many : yX7_many.cls ≠ "java/lang/invoke/MethodHandle" ∧ yX7_many.cls ≠ "java/lang/invoke/VarHandle" ∧ (parseMethodDescriptor yX7_many.desc).map (fun d => d.parameters.length) = some 1 := by decide +kernel
theorem ws_X7_count : mmW yX7_count cX7_count 2 (some .int) := ⟨mm_bigI 1034 (by decide +kernel) rfl, mm_bigI 1035 (by decide +kernel) rfl, mm_bigI 73 (by decide +kernel) rfl, mm_bigI 1036 (by decide +kernel) rfl⟩
theorem hd_X7_count : yX7_count.cls ≠ "java/lang/invoke/MethodHandle" ∧ yX7_count.cls ≠ "java/lang/invoke/VarHandle" ∧ (parseMethodDescriptor yX7_count.desc).map (fun d => d.parameters.length) = some 1 := by decide +kernel
theorem ws_X7_here : mmW yX7_here cX7_here 1 (some .int) := ⟨mm_bigI 1007 (by decide +kernel) rfl, mm_bigI 59 (by decide +kernel) rfl, mm_bigI 73 (by decide +kernel) rfl, mm_bigI 1008 (by decide +kernel) rfl⟩
theorem hd_X7_here : yX7_here.cls ≠ "java/lang/invoke/MethodHandle" ∧ yX7_here.cls ≠ "java/lang/invoke/VarHandle" ∧ (parseMethodDescriptor yX7_here.desc).map (fun d => d.parameters.length) = some 0 := by decide +kernel
theorem ws_X7_digits : mmW yX7_digits cX7_digits 2 none := ⟨mm_bigI 1019 (by decide +kernel) rfl, mm_bigI 62 (by decide +kernel) rfl, mm_bigI 73 (by decide +kernel) rfl, mm_bigI 1020 (by decide +kernel) rfl⟩
theorem hd_X7_digits : yX7_digits.cls ≠ "java/lang/invoke/MethodHandle" ∧ yX7_digits.cls ≠ "java/lang/invoke/VarHandle" ∧ (parseMethodDescriptor yX7_digits.desc).map (fun d => d.parameters.length) = some 0 := by decide +kernel
theorem ws_X7_eats : mmW yX7_eats cX7_eats 2 none := ⟨mm_bigI 1015 (by decide +kernel) rfl, mm_bigI 61 (by decide +kernel) rfl, mm_bigI 73 (by decide +kernel) rfl, mm_bigI 1016 (by decide +kernel) rfl⟩
theorem hd_X7_eats : yX7_eats.cls ≠ "java/lang/invoke/MethodHandle" ∧ yX7_eats.cls ≠ "java/lang/invoke/VarHandle" ∧ (parseMethodDescriptor yX7_eats.desc).map (fun d => d.parameters.length) = some 1 := by decide +kernel
theorem ws_X7_eats3 : mmW yX7_eats3 cX7_eats3 4 none := ⟨mm_bigI 1011 (by decide +kernel) rfl, mm_bigI 60 (by decide +kernel) rfl, mm_bigI 73 (by decide +kernel) rfl, mm_bigI 1012 (by decide +kernel) rfl⟩
theorem hd_X7_eats3 : yX7_eats3.cls ≠ "java/lang/invoke/MethodHandle" ∧ yX7_eats3.cls ≠ "java/lang/invoke/VarHandle" ∧ (parseMethodDescriptor yX7_eats3.desc).map (fun d => d.parameters.length) = some 3 := by decide +kernel
theorem ws_X7_feed : mmW yX7_feed cX7_feed 4 (some .int) := ⟨mm_bigI 985 (by decide +kernel) rfl, mm_bigI 986 (by decide +kernel) rfl, mm_bigI 73 (by decide +kernel) rfl, mm_bigI 987 (by decide +kernel) rfl⟩
theorem hd_X7_feed : yX7_feed.cls ≠ "java/lang/invoke/MethodHandle" ∧ yX7_feed.cls ≠ "java/lang/invoke/VarHandle" ∧ (parseMethodDescriptor yX7_feed.desc).map (fun d => d.parameters.length) = some 2 := by decide +kernel
theorem ws_X7_fieldRead : mmW yX7_fieldRead cX7_fieldRead 2 (some .int) := ⟨mm_bigI 1027 (by decide +kernel) rfl, mm_bigI 64 (by decide +kernel) rfl, mm_bigI 73 (by decide +kernel) rfl, mm_bigI 1028 (by decide +kernel) rfl⟩
theorem hd_X7_fieldRead : yX7_fieldRead.cls ≠ "java/lang/invoke/MethodHandle" ∧ yX7_fieldRead.cls ≠ "java/lang/invoke/VarHandle" ∧ (parseMethodDescriptor yX7_fieldRead.desc).map (fun d => d.parameters.length) = some 0 := by decide +kernel
theorem ws_X7_flood : mmW yX7_flood cX7_flood 2 (some .int) := ⟨mm_bigI 889 (by decide +kernel) rfl, mm_bigI 890 (by decide +kernel) rfl, mm_bigI 73 (by decide +kernel) rfl, mm_bigI 891 (by decide +kernel) rfl⟩
theorem hd_X7_flood : yX7_flood.cls ≠ "java/lang/invoke/MethodHandle" ∧ yX7_flood.cls ≠ "java/lang/invoke/VarHandle" ∧ (parseMethodDescriptor yX7_flood.desc).map (fun d => d.parameters.length) = some 1 := by decide +kernel
theorem ws_X7_grows : mmW yX7_grows cX7_grows 5 none := ⟨mm_bigI 954 (by decide +kernel) rfl, mm_bigI 50 (by decide +kernel) rfl, mm_bigI 73 (by decide +kernel) rfl, mm_bigI 955 (by decide +kernel) rfl⟩
theorem hd_X7_grows : yX7_grows.cls ≠ "java/lang/invoke/MethodHandle" ∧ yX7_grows.cls ≠ "java/lang/invoke/VarHandle" ∧ (parseMethodDescriptor yX7_grows.desc).map (fun d => d.parameters.length) = some 2 := by decide +kernel
theorem ws_X7_next : mmW yX7_next cX7_next 4 (some .int) := ⟨mm_bigI 958 (by decide +kernel) rfl, mm_bigI 51 (by decide +kernel) rfl, mm_bigI 73 (by decide +kernel) rfl, mm_bigI 959 (by decide +kernel) rfl⟩
theorem hd_X7_next : yX7_next.cls ≠ "java/lang/invoke/MethodHandle" ∧ yX7_next.cls ≠ "java/lang/invoke/VarHandle" ∧ (parseMethodDescriptor yX7_next.desc).map (fun d => d.parameters.length) = some 1 := by decide +kernel
theorem ws_X7_goesOn : mmW yX7_goesOn cX7_goesOn 4 none := ⟨mm_bigI 962 (by decide +kernel) rfl, mm_bigI 52 (by decide +kernel) rfl, mm_bigI 73 (by decide +kernel) rfl, mm_bigI 963 (by decide +kernel) rfl⟩
theorem hd_X7_goesOn : yX7_goesOn.cls ≠ "java/lang/invoke/MethodHandle" ∧ yX7_goesOn.cls ≠ "java/lang/invoke/VarHandle" ∧ (parseMethodDescriptor yX7_goesOn.desc).map (fun d => d.parameters.length) = some 1 := by decide +kernel
theorem ws_X7_goesBy : mmW yX7_goesBy cX7_goesBy 4 none := ⟨mm_bigI 950 (by decide +kernel) rfl, mm_bigI 49 (by decide +kernel) rfl, mm_bigI 73 (by decide +kernel) rfl, mm_bigI 951 (by decide +kernel) rfl⟩
theorem hd_X7_goesBy : yX7_goesBy.cls ≠ "java/lang/invoke/MethodHandle" ∧ yX7_goesBy.cls ≠ "java/lang/invoke/VarHandle" ∧ (parseMethodDescriptor yX7_goesBy.desc).map (fun d => d.parameters.length) = some 0 := by decide +kernel
theorem ws_X7_nought : mmW yX7_nought cX7_nought 2 (some .int) := ⟨mm_bigI 870 (by decide +kernel) rfl, mm_bigI 40 (by decide +kernel) rfl, mm_bigI 73 (by decide +kernel) rfl, mm_bigI 871 (by decide +kernel) rfl⟩
theorem hd_X7_nought : yX7_nought.cls ≠ "java/lang/invoke/MethodHandle" ∧ yX7_nought.cls ≠ "java/lang/invoke/VarHandle" ∧ (parseMethodDescriptor yX7_nought.desc).map (fun d => d.parameters.length) = some 1 := by decide +kernel
theorem ws_X7_heat : mmW yX7_heat cX7_heat 2 (some .int) := ⟨mm_bigI 873 (by decide +kernel) rfl, mm_bigI 874 (by decide +kernel) rfl, mm_bigI 73 (by decide +kernel) rfl, mm_bigI 875 (by decide +kernel) rfl⟩
theorem hd_X7_heat : yX7_heat.cls ≠ "java/lang/invoke/MethodHandle" ∧ yX7_heat.cls ≠ "java/lang/invoke/VarHandle" ∧ (parseMethodDescriptor yX7_heat.desc).map (fun d => d.parameters.length) = some 1 := by decide +kernel
theorem ws_X7_isLoad : mmW yX7_isLoad cX7_isLoad 2 (some .boolean) := ⟨mm_bigI 910 (by decide +kernel) rfl, mm_bigI 43 (by decide +kernel) rfl, mm_bigI 73 (by decide +kernel) rfl, mm_bigI 911 (by decide +kernel) rfl⟩
theorem hd_X7_isLoad : yX7_isLoad.cls ≠ "java/lang/invoke/MethodHandle" ∧ yX7_isLoad.cls ≠ "java/lang/invoke/VarHandle" ∧ (parseMethodDescriptor yX7_isLoad.desc).map (fun d => d.parameters.length) = some 1 := by decide +kernel
theorem ws_X7_key : mmW yX7_key cX7_key 2 (some .int) := ⟨mm_bigI 1003 (by decide +kernel) rfl, mm_bigI 58 (by decide +kernel) rfl, mm_bigI 73 (by decide +kernel) rfl, mm_bigI 1004 (by decide +kernel) rfl⟩
theorem hd_X7_key : yX7_key.cls ≠ "java/lang/invoke/MethodHandle" ∧ yX7_key.cls ≠ "java/lang/invoke/VarHandle" ∧ (parseMethodDescriptor yX7_key.desc).map (fun d => d.parameters.length) = some 0 := by decide +kernel
theorem ws_X7_load : mmW yX7_load cX7_load 4 (some .int) := ⟨mm_bigI 901 (by decide +kernel) rfl, mm_bigI 902 (by decide +kernel) rfl, mm_bigI 73 (by decide +kernel) rfl, mm_bigI 903 (by decide +kernel) rfl⟩
theorem hd_X7_load : yX7_load.cls ≠ "java/lang/invoke/MethodHandle" ∧ yX7_load.cls ≠ "java/lang/invoke/VarHandle" ∧ (parseMethodDescriptor yX7_load.desc).map (fun d => d.parameters.length) = some 3 := by decide +kernel
theorem ws_X7_most : mmW yX7_most cX7_most 4 (some .int) := ⟨mm_bigI 842 (by decide +kernel) rfl, mm_bigI 37 (by decide +kernel) rfl, mm_bigI 73 (by decide +kernel) rfl, mm_bigI 843 (by decide +kernel) rfl⟩
theorem hd_X7_most : yX7_most.cls ≠ "java/lang/invoke/MethodHandle" ∧ yX7_most.cls ≠ "java/lang/invoke/VarHandle" ∧ (parseMethodDescriptor yX7_most.desc).map (fun d => d.parameters.length) = some 1 := by decide +kernel
theorem ws_X7_look : mmW yX7_look cX7_look 3 (some .int) := ⟨mm_bigI 825 (by decide +kernel) rfl, mm_bigI 826 (by decide +kernel) rfl, mm_bigI 73 (by decide +kernel) rfl, mm_bigI 827 (by decide +kernel) rfl⟩
theorem hd_X7_look : yX7_look.cls ≠ "java/lang/invoke/MethodHandle" ∧ yX7_look.cls ≠ "java/lang/invoke/VarHandle" ∧ (parseMethodDescriptor yX7_look.desc).map (fun d => d.parameters.length) = some 2 := by decide +kernel
theorem ws_X7_may : mmW yX7_may cX7_may 3 (some .int) := ⟨mm_bigI 913 (by decide +kernel) rfl, mm_bigI 914 (by decide +kernel) rfl, mm_bigI 73 (by decide +kernel) rfl, mm_bigI 915 (by decide +kernel) rfl⟩
theorem hd_X7_may : yX7_may.cls ≠ "java/lang/invoke/MethodHandle" ∧ yX7_may.cls ≠ "java/lang/invoke/VarHandle" ∧ (parseMethodDescriptor yX7_may.desc).map (fun d => d.parameters.length) = some 2 := by decide +kernel
theorem ws_X7_of : mmW yX7_of cX7_of 3 (some .int) := ⟨mm_bigI 905 (by decide +kernel) rfl, mm_bigI 906 (by decide +kernel) rfl, mm_bigI 73 (by decide +kernel) rfl, mm_bigI 907 (by decide +kernel) rfl⟩
theorem hd_X7_of : yX7_of.cls ≠ "java/lang/invoke/MethodHandle" ∧ yX7_of.cls ≠ "java/lang/invoke/VarHandle" ∧ (parseMethodDescriptor yX7_of.desc).map (fun d => d.parameters.length) = some 2 := by decide +kernel
theorem ws_X7_read : mmW yX7_read cX7_read 2 (some .int) := ⟨mm_bigI 853 (by decide +kernel) rfl, mm_bigI 854 (by decide +kernel) rfl, mm_bigI 73 (by decide +kernel) rfl, mm_bigI 855 (by decide +kernel) rfl⟩
theorem hd_X7_read : yX7_read.cls ≠ "java/lang/invoke/MethodHandle" ∧ yX7_read.cls ≠ "java/lang/invoke/VarHandle" ∧ (parseMethodDescriptor yX7_read.desc).map (fun d => d.parameters.length) = some 1 := by decide +kernel
theorem ws_X7_test : mmW yX7_test cX7_test 4 none := ⟨mm_bigI 1023 (by decide +kernel) rfl, mm_bigI 63 (by decide +kernel) rfl, mm_bigI 73 (by decide +kernel) rfl, mm_bigI 1024 (by decide +kernel) rfl⟩
theorem hd_X7_test : yX7_test.cls ≠ "java/lang/invoke/MethodHandle" ∧ yX7_test.cls ≠ "java/lang/invoke/VarHandle" ∧ (parseMethodDescriptor yX7_test.desc).map (fun d => d.parameters.length) = some 1 := by decide +kernel
theorem ws_X7_reads : mmW yX7_reads cX7_reads 3 none := ⟨mm_bigI 999 (by decide +kernel) rfl, mm_bigI 57 (by decide +kernel) rfl, mm_bigI 73 (by decide +kernel) rfl, mm_bigI 1000 (by decide +kernel) rfl⟩
theorem hd_X7_reads : yX7_reads.cls ≠ "java/lang/invoke/MethodHandle" ∧ yX7_reads.cls ≠ "java/lang/invoke/VarHandle" ∧ (parseMethodDescriptor yX7_reads.desc).map (fun d => d.parameters.length) = some 0 := by decide +kernel
theorem ws_X7_row : mmW yX7_row cX7_row 2 (some .int) := ⟨mm_bigI 1050 (by decide +kernel) rfl, mm_bigI 1051 (by decide +kernel) rfl, mm_bigI 73 (by decide +kernel) rfl, mm_bigI 1052 (by decide +kernel) rfl⟩
theorem hd_X7_row : yX7_row.cls ≠ "java/lang/invoke/MethodHandle" ∧ yX7_row.cls ≠ "java/lang/invoke/VarHandle" ∧ (parseMethodDescriptor yX7_row.desc).map (fun d => d.parameters.length) = some 1 := by decide +kernel
theorem ws_X7_rule : mmW yX7_rule cX7_rule 3 (some .int) := ⟨mm_bigI 993 (by decide +kernel) rfl, mm_bigI 994 (by decide +kernel) rfl, mm_bigI 73 (by decide +kernel) rfl, mm_bigI 995 (by decide +kernel) rfl⟩
theorem hd_X7_rule : yX7_rule.cls ≠ "java/lang/invoke/MethodHandle" ∧ yX7_rule.cls ≠ "java/lang/invoke/VarHandle" ∧ (parseMethodDescriptor yX7_rule.desc).map (fun d => d.parameters.length) = some 2 := by decide +kernel
theorem ws_X7_run : mmW yX7_run cX7_run 4 (some .int) := ⟨mm_bigI 945 (by decide +kernel) rfl, mm_bigI 946 (by decide +kernel) rfl, mm_bigI 73 (by decide +kernel) rfl, mm_bigI 947 (by decide +kernel) rfl⟩
theorem hd_X7_run : yX7_run.cls ≠ "java/lang/invoke/MethodHandle" ∧ yX7_run.cls ≠ "java/lang/invoke/VarHandle" ∧ (parseMethodDescriptor yX7_run.desc).map (fun d => d.parameters.length) = some 1 := by decide +kernel
theorem ws_X7_said : mmW yX7_said cX7_said 4 (some .int) := ⟨mm_bigI 1030 (by decide +kernel) rfl, mm_bigI 1031 (by decide +kernel) rfl, mm_bigI 73 (by decide +kernel) rfl, mm_bigI 1032 (by decide +kernel) rfl⟩
theorem hd_X7_said : yX7_said.cls ≠ "java/lang/invoke/MethodHandle" ∧ yX7_said.cls ≠ "java/lang/invoke/VarHandle" ∧ (parseMethodDescriptor yX7_said.desc).map (fun d => d.parameters.length) = some 3 := by decide +kernel
theorem ws_X7_snow : mmW yX7_snow cX7_snow 4 (some .int) := ⟨mm_bigI 897 (by decide +kernel) rfl, mm_bigI 898 (by decide +kernel) rfl, mm_bigI 73 (by decide +kernel) rfl, mm_bigI 899 (by decide +kernel) rfl⟩
theorem hd_X7_snow : yX7_snow.cls ≠ "java/lang/invoke/MethodHandle" ∧ yX7_snow.cls ≠ "java/lang/invoke/VarHandle" ∧ (parseMethodDescriptor yX7_snow.desc).map (fun d => d.parameters.length) = some 1 := by decide +kernel
theorem ws_X7_status : mmW yX7_status cX7_status 2 (some .int) := ⟨mm_bigI 1058 (by decide +kernel) rfl, mm_bigI 1059 (by decide +kernel) rfl, mm_bigI 73 (by decide +kernel) rfl, mm_bigI 1060 (by decide +kernel) rfl⟩
theorem hd_X7_status : yX7_status.cls ≠ "java/lang/invoke/MethodHandle" ∧ yX7_status.cls ≠ "java/lang/invoke/VarHandle" ∧ (parseMethodDescriptor yX7_status.desc).map (fun d => d.parameters.length) = some 1 := by decide +kernel
theorem ws_X7_sweep : mmW yX7_sweep cX7_sweep 2 (some .int) := ⟨mm_bigI 881 (by decide +kernel) rfl, mm_bigI 882 (by decide +kernel) rfl, mm_bigI 73 (by decide +kernel) rfl, mm_bigI 883 (by decide +kernel) rfl⟩
theorem hd_X7_sweep : yX7_sweep.cls ≠ "java/lang/invoke/MethodHandle" ∧ yX7_sweep.cls ≠ "java/lang/invoke/VarHandle" ∧ (parseMethodDescriptor yX7_sweep.desc).map (fun d => d.parameters.length) = some 1 := by decide +kernel
theorem ws_X7_tear : mmW yX7_tear cX7_tear 2 (some .int) := ⟨mm_bigI 1046 (by decide +kernel) rfl, mm_bigI 1047 (by decide +kernel) rfl, mm_bigI 73 (by decide +kernel) rfl, mm_bigI 1048 (by decide +kernel) rfl⟩
theorem hd_X7_tear : yX7_tear.cls ≠ "java/lang/invoke/MethodHandle" ∧ yX7_tear.cls ≠ "java/lang/invoke/VarHandle" ∧ (parseMethodDescriptor yX7_tear.desc).map (fun d => d.parameters.length) = some 0 := by decide +kernel
theorem ws_X7_tell : mmW yX7_tell cX7_tell 4 (some .int) := ⟨mm_bigI 1042 (by decide +kernel) rfl, mm_bigI 1043 (by decide +kernel) rfl, mm_bigI 73 (by decide +kernel) rfl, mm_bigI 1044 (by decide +kernel) rfl⟩
theorem hd_X7_tell : yX7_tell.cls ≠ "java/lang/invoke/MethodHandle" ∧ yX7_tell.cls ≠ "java/lang/invoke/VarHandle" ∧ (parseMethodDescriptor yX7_tell.desc).map (fun d => d.parameters.length) = some 2 := by decide +kernel
theorem ws_X7_thaw : mmW yX7_thaw cX7_thaw 6 (some .int) := ⟨mm_bigI 977 (by decide +kernel) rfl, mm_bigI 978 (by decide +kernel) rfl, mm_bigI 73 (by decide +kernel) rfl, mm_bigI 979 (by decide +kernel) rfl⟩
theorem hd_X7_thaw : yX7_thaw.cls ≠ "java/lang/invoke/MethodHandle" ∧ yX7_thaw.cls ≠ "java/lang/invoke/VarHandle" ∧ (parseMethodDescriptor yX7_thaw.desc).map (fun d => d.parameters.length) = some 2 := by decide +kernel
theorem ws_X7_thick : mmW yX7_thick cX7_thick 4 (some .int) := ⟨mm_bigI 849 (by decide +kernel) rfl, mm_bigI 850 (by decide +kernel) rfl, mm_bigI 73 (by decide +kernel) rfl, mm_bigI 851 (by decide +kernel) rfl⟩
theorem hd_X7_thick : yX7_thick.cls ≠ "java/lang/invoke/MethodHandle" ∧ yX7_thick.cls ≠ "java/lang/invoke/VarHandle" ∧ (parseMethodDescriptor yX7_thick.desc).map (fun d => d.parameters.length) = some 2 := by decide +kernel
theorem ws_X7_turn : mmW yX7_turn cX7_turn 2 (some .int) := ⟨mm_bigI 937 (by decide +kernel) rfl, mm_bigI 938 (by decide +kernel) rfl, mm_bigI 73 (by decide +kernel) rfl, mm_bigI 939 (by decide +kernel) rfl⟩
theorem hd_X7_turn : yX7_turn.cls ≠ "java/lang/invoke/MethodHandle" ∧ yX7_turn.cls ≠ "java/lang/invoke/VarHandle" ∧ (parseMethodDescriptor yX7_turn.desc).map (fun d => d.parameters.length) = some 1 := by decide +kernel
theorem ws_X7_weather : mmW yX7_weather cX7_weather 4 (some .int) := ⟨mm_bigI 865 (by decide +kernel) rfl, mm_bigI 866 (by decide +kernel) rfl, mm_bigI 73 (by decide +kernel) rfl, mm_bigI 867 (by decide +kernel) rfl⟩
theorem hd_X7_weather : yX7_weather.cls ≠ "java/lang/invoke/MethodHandle" ∧ yX7_weather.cls ≠ "java/lang/invoke/VarHandle" ∧ (parseMethodDescriptor yX7_weather.desc).map (fun d => d.parameters.length) = some 2 := by decide +kernel
theorem ws_X7_why : mmW yX7_why cX7_why 3 (some .int) := ⟨mm_bigI 933 (by decide +kernel) rfl, mm_bigI 934 (by decide +kernel) rfl, mm_bigI 73 (by decide +kernel) rfl, mm_bigI 935 (by decide +kernel) rfl⟩
theorem hd_X7_why : yX7_why.cls ≠ "java/lang/invoke/MethodHandle" ∧ yX7_why.cls ≠ "java/lang/invoke/VarHandle" ∧ (parseMethodDescriptor yX7_why.desc).map (fun d => d.parameters.length) = some 2 := by decide +kernel
theorem ws_X7_wipe : mmW yX7_wipe cX7_wipe 2 (some .int) := ⟨mm_bigI 989 (by decide +kernel) rfl, mm_bigI 990 (by decide +kernel) rfl, mm_bigI 73 (by decide +kernel) rfl, mm_bigI 991 (by decide +kernel) rfl⟩
theorem hd_X7_wipe : yX7_wipe.cls ≠ "java/lang/invoke/MethodHandle" ∧ yX7_wipe.cls ≠ "java/lang/invoke/VarHandle" ∧ (parseMethodDescriptor yX7_wipe.desc).map (fun d => d.parameters.length) = some 0 := by decide +kernel
theorem dJ9_floorMod_7cf53_0 : decode cJ9_floorMod_7cf53 0 = .ok (.iload_n 0, 1) := by decide +kernel
theorem dJ9_floorMod_7cf53_1 : decode cJ9_floorMod_7cf53 1 = .ok (.iload_n 1, 1) := by decide +kernel
theorem dJ9_floorMod_7cf53_2 : decode cJ9_floorMod_7cf53 2 = .ok (.irem, 1) := by decide +kernel
theorem dJ9_floorMod_7cf53_3 : decode cJ9_floorMod_7cf53 3 = .ok (.istore_n 2, 1) := by decide +kernel
theorem dJ9_floorMod_7cf53_4 : decode cJ9_floorMod_7cf53 4 = .ok (.iload_n 0, 1) := by decide +kernel
theorem dJ9_floorMod_7cf53_5 : decode cJ9_floorMod_7cf53 5 = .ok (.iload_n 1, 1) := by decide +kernel
theorem dJ9_floorMod_7cf53_6 : decode cJ9_floorMod_7cf53 6 = .ok (.ixor, 1) := by decide +kernel
theorem dJ9_floorMod_7cf53_7 : decode cJ9_floorMod_7cf53 7 = .ok (.ifCond .ge 11, 3) := by decide +kernel
theorem dJ9_floorMod_7cf53_10 : decode cJ9_floorMod_7cf53 10 = .ok (.iload_n 2, 1) := by decide +kernel
theorem dJ9_floorMod_7cf53_11 : decode cJ9_floorMod_7cf53 11 = .ok (.ifCond .eq 7, 3) := by decide +kernel
theorem dJ9_floorMod_7cf53_14 : decode cJ9_floorMod_7cf53 14 = .ok (.iload_n 2, 1) := by decide +kernel
theorem dJ9_floorMod_7cf53_15 : decode cJ9_floorMod_7cf53 15 = .ok (.iload_n 1, 1) := by decide +kernel
theorem dJ9_floorMod_7cf53_16 : decode cJ9_floorMod_7cf53 16 = .ok (.iadd, 1) := by decide +kernel
theorem dJ9_floorMod_7cf53_17 : decode cJ9_floorMod_7cf53 17 = .ok (.ireturn, 1) := by decide +kernel
theorem dJ9_floorMod_7cf53_18 : decode cJ9_floorMod_7cf53 18 = .ok (.iload_n 2, 1) := by decide +kernel
theorem dJ9_floorMod_7cf53_19 : decode cJ9_floorMod_7cf53 19 = .ok (.ireturn, 1) := by decide +kernel
end
section
section MMS
variable {p : Program} {e : Env} {R : Room} {s : State} {m : MethodId} {args : Array Value} {below : List Frame} {meth : Method} {c : Code} {H : Heap} {locs : List Loc} {cells slots : Nat} {Q : State → Prop}
variable {cc : ByteArray} {pc nL : Nat} {ls : Array Slot} {rest : List Value} {G : mmG} {f f1 : F3} {index : Nat}
theorem mm_tret {l : Launch} {y : MethodName} {v : Int32} {ty : FieldType} (C0 : mmC y cc nL (some ty) p s m args meth c) (hn : narrow ty (.int v) = .int v) (hR : mm_R G mm_NT f (GG f) s H locs) (hdg : decode cc pc = .ok (.ireturn, 1)) :
    W p l e R s m args below meth c H locs 0 0 (MQ below (mm_Q G mm_NT (some (.int v)) f (GG f)) args s 0 0 (mm_A G)) (F0 m pc ls [.int v]) := by
  obtain ⟨hx, hb, hml, hr, hown, hts, hlocks⟩ := C0
  exact W.zret hx hb hr hn (fun t ht hW => ⟨rfl, hR.B ht hW, hR.2.2.1.F ht⟩) hR.2.2.1.2.2 hdg
/-- a call on a string -/
theorem mm_callK {l : Launch} {y y0 : MethodName} {ret ret0 : Option FieldType} {cc0 : ByteArray} {nL0 d d0 : Nat} {v : Option Value} {f1 : F3} (As : List Value) {st0 : List Value} (C0 : mmC y cc nL ret p s m args meth c) (hl : l = G.1) (hR : mm_R G mm_NT f (GG f) s H locs) {k : Nat} (hk : k < 11) (hM : mmM G y0 cc0 nL0 ret0 d0 (.ref (G.2.2.2.2.1 k) :: As) f v f1) (hw : mmW y0 cc0 nL0 ret0) (hlk : Cond.methodLink y.cls index y0 ∈ BIG)
    (hd : y0.cls ≠ "java/lang/invoke/MethodHandle" ∧ y0.cls ≠ "java/lang/invoke/VarHandle" ∧ (parseMethodDescriptor y0.desc).map (fun d => d.parameters.length) = some As.length) (hRm : d0 + 1 ≤ d ∧ 8 + (nL0 + 11) + 36 * d0 ≤ 36 * d)
    (hq : "java/lang/String" = y0.cls) (hls : ls.size = nL) (hst : st0 = As.reverse ++ .ref (G.2.2.2.2.1 k) :: rest) (hroom : (rest.map fun v => v.category).sum ≤ 8) (hdg : decode cc pc = .ok (.invokevirtual index, 3))
    (kk : ∀ (H1 : Heap) (locs1 : List Loc), mm_R G mm_NT f1 (GG f1) s H1 locs1 → W p l e (mm_rm d) s m args below meth c H1 locs1 0 0 Q (F0 m (pc + 3) ls (v.toList ++ rest))) : W p l e (mm_rm d) s m args below meth c H locs 0 0 Q (F0 m pc ls st0) := by
  obtain ⟨hx, hb, hml, hr, hown, hts, hlocks⟩ := C0
  subst hl
  have hgood : GoodIn BIG (wsV y.cls index y0.cls y0 (.code y0 cc0 nL0 ret0 :: BIG)) := mm_good (fun w hw' => by
    unfold wsV at hw'
    rcases List.mem_append.mp hw' with h | h
    · simp only [List.mem_cons, List.not_mem_nil, or_false] at h
      rcases h with rfl | rfl | rfl | rfl
      · exact hlk
      · exact hw.1
      · exact hw.2.1
      · exact hw.2.2.1
    · rcases List.mem_cons.mp h with rfl | h
      · exact hw.2.2.2
      · exact h)
  have hrecv := vk_recv hR.2.2.2.1 hk hR.2.2.1
  rw [hq] at hrecv
  exact mm_call hR (va_runV (As := As) (rest := rest) (C := y0.cls) (own := y.cls) ⟨hx, hb, hml, hown, hts⟩ hM (cwV As.length hts hgood rfl rfl rfl ⟨rfl, hd.1, hd.2.1, hd.2.2⟩ ⟨hRm.1, hRm.2⟩) ⟨mm_blind, hrecv, fun U hU hW => ⟨rfl, hR.B hU hW⟩⟩ rfl rfl hls hst (lv_room hroom) hdg ⟨Nat.le_refl _, Nat.le_refl _⟩) kk
theorem dS_cod_0 : decode cJ0_coder_7d493 0 = .ok (.getstatic 38, 3) := by decide +kernel
theorem dS_cod_3 : decode cJ0_coder_7d493 3 = .ok (.ifCond .eq 10, 3) := by decide +kernel
theorem dS_cod_6 : decode cJ0_coder_7d493 6 = .ok (.aload_n 0, 1) := by decide +kernel
theorem dS_cod_7 : decode cJ0_coder_7d493 7 = .ok (.getfield 15, 3) := by decide +kernel
theorem dS_cod_10 : decode cJ0_coder_7d493 10 = .ok (.goto 4, 3) := by decide +kernel
theorem dS_cod_14 : decode cJ0_coder_7d493 14 = .ok (.ireturn, 1) := by decide +kernel
theorem dS_isl_0 : decode cJ0_isLatin1_aae02 0 = .ok (.getstatic 38, 3) := by decide +kernel
theorem dS_isl_3 : decode cJ0_isLatin1_aae02 3 = .ok (.ifCond .eq 14, 3) := by decide +kernel
theorem dS_isl_6 : decode cJ0_isLatin1_aae02 6 = .ok (.aload_n 0, 1) := by decide +kernel
theorem dS_isl_7 : decode cJ0_isLatin1_aae02 7 = .ok (.getfield 15, 3) := by decide +kernel
theorem dS_isl_10 : decode cJ0_isLatin1_aae02 10 = .ok (.ifCond .ne 7, 3) := by decide +kernel
theorem dS_isl_13 : decode cJ0_isLatin1_aae02 13 = .ok (.iconst 1, 1) := by decide +kernel
theorem dS_isl_14 : decode cJ0_isLatin1_aae02 14 = .ok (.goto 4, 3) := by decide +kernel
theorem dS_isl_18 : decode cJ0_isLatin1_aae02 18 = .ok (.ireturn, 1) := by decide +kernel
theorem dS_len_0 : decode cJ0_length_8abf5 0 = .ok (.aload_n 0, 1) := by decide +kernel
theorem dS_len_1 : decode cJ0_length_8abf5 1 = .ok (.getfield 9, 3) := by decide +kernel
theorem dS_len_4 : decode cJ0_length_8abf5 4 = .ok (.arraylength, 1) := by decide +kernel
theorem dS_len_5 : decode cJ0_length_8abf5 5 = .ok (.aload_n 0, 1) := by decide +kernel
theorem dS_len_6 : decode cJ0_length_8abf5 6 = .ok (.invokevirtual 335, 3) := by decide +kernel
theorem dS_len_9 : decode cJ0_length_8abf5 9 = .ok (.ishr, 1) := by decide +kernel
theorem dS_len_10 : decode cJ0_length_8abf5 10 = .ok (.ireturn, 1) := by decide +kernel
theorem dS_chr_0 : decode cJ0_charAt_5068e 0 = .ok (.aload_n 0, 1) := by decide +kernel
theorem dS_chr_1 : decode cJ0_charAt_5068e 1 = .ok (.invokevirtual 492, 3) := by decide +kernel
theorem dS_chr_4 : decode cJ0_charAt_5068e 4 = .ok (.ifCond .eq 12, 3) := by decide +kernel
theorem dS_chr_7 : decode cJ0_charAt_5068e 7 = .ok (.aload_n 0, 1) := by decide +kernel
theorem dS_chr_8 : decode cJ0_charAt_5068e 8 = .ok (.getfield 9, 3) := by decide +kernel
theorem dS_chr_11 : decode cJ0_charAt_5068e 11 = .ok (.iload_n 1, 1) := by decide +kernel
theorem dS_chr_12 : decode cJ0_charAt_5068e 12 = .ok (.invokestatic 495, 3) := by decide +kernel
theorem dS_chr_15 : decode cJ0_charAt_5068e 15 = .ok (.ireturn, 1) := by decide +kernel
theorem dS_lat_0 : decode cJ1_charAt_3b067 0 = .ok (.iload_n 1, 1) := by decide +kernel
theorem dS_lat_1 : decode cJ1_charAt_3b067 1 = .ok (.aload_n 0, 1) := by decide +kernel
theorem dS_lat_2 : decode cJ1_charAt_3b067 2 = .ok (.arraylength, 1) := by decide +kernel
theorem dS_lat_3 : decode cJ1_charAt_3b067 3 = .ok (.invokestatic 9, 3) := by decide +kernel
theorem dS_lat_6 : decode cJ1_charAt_3b067 6 = .ok (.aload_n 0, 1) := by decide +kernel
theorem dS_lat_7 : decode cJ1_charAt_3b067 7 = .ok (.iload_n 1, 1) := by decide +kernel
theorem dS_lat_8 : decode cJ1_charAt_3b067 8 = .ok (.baload, 1) := by decide +kernel
theorem dS_lat_9 : decode cJ1_charAt_3b067 9 = .ok (.sipush 255, 3) := by decide +kernel
theorem dS_lat_12 : decode cJ1_charAt_3b067 12 = .ok (.iand, 1) := by decide +kernel
theorem dS_lat_13 : decode cJ1_charAt_3b067 13 = .ok (.i2c, 1) := by decide +kernel
theorem dS_lat_14 : decode cJ1_charAt_3b067 14 = .ok (.ireturn, 1) := by decide +kernel
theorem dS_ck_0 : decode cJ0_checkIndex_df160 0 = .ok (.iload_n 0, 1) := by decide +kernel
theorem dS_ck_1 : decode cJ0_checkIndex_df160 1 = .ok (.iload_n 1, 1) := by decide +kernel
theorem dS_ck_2 : decode cJ0_checkIndex_df160 2 = .ok (.getstatic 1053, 3) := by decide +kernel
theorem dS_ck_5 : decode cJ0_checkIndex_df160 5 = .ok (.invokestatic 1059, 3) := by decide +kernel
theorem dS_ck_8 : decode cJ0_checkIndex_df160 8 = .ok (.pop, 1) := by decide +kernel
theorem dS_ck_9 : decode cJ0_checkIndex_df160 9 = .ok (.return_, 1) := by decide +kernel
theorem dS_pre_0 : decode cJ3_checkIndex_8e157 0 = .ok (.iload_n 0, 1) := by decide +kernel
theorem dS_pre_1 : decode cJ3_checkIndex_8e157 1 = .ok (.ifCond .lt 8, 3) := by decide +kernel
theorem dS_pre_4 : decode cJ3_checkIndex_8e157 4 = .ok (.iload_n 0, 1) := by decide +kernel
theorem dS_pre_5 : decode cJ3_checkIndex_8e157 5 = .ok (.iload_n 1, 1) := by decide +kernel
theorem dS_pre_6 : decode cJ3_checkIndex_8e157 6 = .ok (.if_icmp .lt 10, 3) := by decide +kernel
theorem dS_pre_16 : decode cJ3_checkIndex_8e157 16 = .ok (.iload_n 0, 1) := by decide +kernel
theorem dS_pre_17 : decode cJ3_checkIndex_8e157 17 = .ok (.ireturn, 1) := by decide +kernel
theorem kS_1 : Cond.fieldLink RJ0 38 "java/lang/String" "COMPACT_STRINGS" "Z" ∈ BIG := mm_bigI 589 (by decide +kernel) rfl
theorem kS_2 : Cond.fieldLink RJ0 15 "java/lang/String" "coder" "B" ∈ BIG := mm_bigI 1062 (by decide +kernel) rfl
theorem kS_3 : Cond.fieldLink RJ0 9 "java/lang/String" "value" "[B" ∈ BIG := mm_bigI 1061 (by decide +kernel) rfl
theorem kS_4 : Cond.methodLink RJ0 335 yJ0_coder_7d493 ∈ BIG := mm_bigI 585 (by decide +kernel) rfl
theorem kS_5 : mmW yJ0_coder_7d493 cJ0_coder_7d493 1 (some .byte) := ⟨mm_bigI 586 (by decide +kernel) rfl, mm_bigI 587 (by decide +kernel) rfl, mm_bigI 75 (by decide +kernel) rfl, mm_bigI 588 (by decide +kernel) rfl⟩
theorem kS_6 : Cond.methodLink RJ0 492 yJ0_isLatin1_aae02 ∈ BIG := mm_bigI 595 (by decide +kernel) rfl
theorem kS_7 : mmW yJ0_isLatin1_aae02 cJ0_isLatin1_aae02 1 (some .boolean) := ⟨mm_bigI 596 (by decide +kernel) rfl, mm_bigI 597 (by decide +kernel) rfl, mm_bigI 75 (by decide +kernel) rfl, mm_bigI 598 (by decide +kernel) rfl⟩
theorem kS_8 : Cond.methodLink RJ0 495 yJ1_charAt_3b067 ∈ BIG := mm_bigI 599 (by decide +kernel) rfl
theorem kS_9 : mmWs yJ1_charAt_3b067 cJ1_charAt_3b067 2 (some .char) := ⟨mm_bigI 600 (by decide +kernel) rfl, mm_bigI 76 (by decide +kernel) rfl, mm_bigI 601 (by decide +kernel) rfl⟩
theorem kS_10 : Cond.methodLink RJ1 9 yJ0_checkIndex_df160 ∈ BIG := mm_bigI 602 (by decide +kernel) rfl
theorem kS_11 : mmWs yJ0_checkIndex_df160 cJ0_checkIndex_df160 2 none := ⟨mm_bigI 603 (by decide +kernel) rfl, mm_bigI 75 (by decide +kernel) rfl, mm_bigI 604 (by decide +kernel) rfl⟩
theorem kS_12 : Cond.fieldLink RJ0 1053 "jdk/internal/util/Preconditions" "SIOOBE_FORMATTER" "Ljava/util/function/BiFunction;" ∈ BIG := mm_bigI 605 (by decide +kernel) rfl
theorem kS_13 : Cond.methodLink RJ0 1059 yJ3_checkIndex_8e157 ∈ BIG := mm_bigI 607 (by decide +kernel) rfl
theorem kS_14 : mmWs yJ3_checkIndex_8e157 cJ3_checkIndex_8e157 3 (some .int) := ⟨mm_bigI 608 (by decide +kernel) rfl, mm_bigI 77 (by decide +kernel) rfl, mm_bigI 609 (by decide +kernel) rfl⟩
theorem kS_15 : mmW yJ0_length_8abf5 cJ0_length_8abf5 1 (some .int) := ⟨mm_bigI 582 (by decide +kernel) rfl, mm_bigI 583 (by decide +kernel) rfl, mm_bigI 75 (by decide +kernel) rfl, mm_bigI 584 (by decide +kernel) rfl⟩
theorem kS_16 : mmW yJ0_charAt_5068e cJ0_charAt_5068e 2 (some .char) := ⟨mm_bigI 592 (by decide +kernel) rfl, mm_bigI 593 (by decide +kernel) rfl, mm_bigI 75 (by decide +kernel) rfl, mm_bigI 594 (by decide +kernel) rfl⟩
theorem hS_ok (y : MethodName) (n : Nat) (h : (y.cls ≠ "java/lang/invoke/MethodHandle" ∧ y.cls ≠ "java/lang/invoke/VarHandle" ∧ (parseMethodDescriptor y.desc).map (fun d => d.parameters.length) = some n)) : y.cls ≠ "java/lang/invoke/MethodHandle" ∧ y.cls ≠ "java/lang/invoke/VarHandle" ∧ (parseMethodDescriptor y.desc).map (fun d => d.parameters.length) = some n := h
theorem T_coder (G : mmG) (f : F3) {k : Nat} (hk : k < 11) : mmM G yJ0_coder_7d493 cJ0_coder_7d493 1 (some .byte) 0 [.ref (G.2.2.2.2.1 k)] f (some (.int 0)) f := by
  refine mm_start (by decide +kernel) (Nat.le_of_ble_eq_true rfl) ?_
  intro p e s m args below meth c ls C0 hR hl
  obtain ⟨hx, hb, hml, hr, hown, hts, hlocks⟩ := id C0
  have hl : lv_has ls 1 [(0, .ref (G.2.2.2.2.1 k))] := hl
  refine va_gets hx hb hR.2.2.2.2.2.1 hR.2.2.1 hown (hts _ kS_1) (fun _ h => h) dS_cod_0 ?_
  refine lv_if_eq (tgt := 13) hx hb dS_cod_3 (by decide) (fun q => absurd q (by decide)) (fun _ => ?_)
  refine lv_aload_n hx hb dS_cod_6 rfl (lv_at hl 0 rfl) ?_
  refine vk_getf hx hb (hR.2.2.2.1.1 k hk).2.1 hR.2.2.1 hown (hts _ kS_2) (fun _ h => h) dS_cod_7 ?_
  refine lv_goto (tgt := 14) hx hb dS_cod_10 (by decide) ?_
  exact mm_tret C0 rfl hR dS_cod_14
theorem T_isLatin1 (G : mmG) (f : F3) {k : Nat} (hk : k < 11) : mmM G yJ0_isLatin1_aae02 cJ0_isLatin1_aae02 1 (some .boolean) 0 [.ref (G.2.2.2.2.1 k)] f (some (.int 1)) f := by
  refine mm_start (by decide +kernel) (Nat.le_of_ble_eq_true rfl) ?_
  intro p e s m args below meth c ls C0 hR hl
  obtain ⟨hx, hb, hml, hr, hown, hts, hlocks⟩ := id C0
  have hl : lv_has ls 1 [(0, .ref (G.2.2.2.2.1 k))] := hl
  refine va_gets hx hb hR.2.2.2.2.2.1 hR.2.2.1 hown (hts _ kS_1) (fun _ h => h) dS_isl_0 ?_
  refine lv_if_eq (tgt := 17) hx hb dS_isl_3 (by decide) (fun q => absurd q (by decide)) (fun _ => ?_)
  refine lv_aload_n hx hb dS_isl_6 rfl (lv_at hl 0 rfl) ?_
  refine vk_getf hx hb (hR.2.2.2.1.1 k hk).2.1 hR.2.2.1 hown (hts _ kS_2) (fun _ h => h) dS_isl_7 ?_
  refine lv_if_ne (tgt := 17) hx hb dS_isl_10 (by decide) (fun q => absurd rfl q) (fun _ => ?_)
  refine lv_iconst (v := 1) hx hb dS_isl_13 (by decide) ?_
  refine lv_goto (tgt := 18) hx hb dS_isl_14 (by decide) ?_
  exact mm_tret C0 rfl hR dS_isl_18
theorem T_slen (G : mmG) (f : F3) {k : Nat} (hk : k < 11) : mmM G yJ0_length_8abf5 cJ0_length_8abf5 1 (some .int) 1 [.ref (G.2.2.2.2.1 k)] f (some (.int (slenI k))) f := by
  refine mm_start (by decide +kernel) (Nat.le_of_ble_eq_true rfl) ?_
  intro p e s m args below meth c ls C0 hR hl
  obtain ⟨hx, hb, hml, hr, hown, hts, hlocks⟩ := id C0
  have hl : lv_has ls 1 [(0, .ref (G.2.2.2.2.1 k))] := hl
  refine lv_aload_n hx hb dS_len_0 rfl (lv_at hl 0 rfl) ?_
  refine vk_getf hx hb (hR.2.2.2.1.1 k hk).2.2.1 hR.2.2.1 hown (hts _ kS_3) (fun _ h => h) dS_len_1 ?_
  refine va_tlen hx hb (hR.2.2.2.1.1 k hk).2.2.2 hR.2.2.1 (v := slenI k) rfl dS_len_4 ?_
  refine lv_aload_n hx hb dS_len_5 rfl (lv_at hl 0 rfl) ?_
  refine mm_callK (v := some (.int 0)) (f1 := f) (d0 := 0) (rest := [.int (slenI k)]) [] C0 rfl hR hk (T_coder G f hk) kS_5 kS_4 (by decide +kernel) ⟨by decide, by decide⟩ rfl hl.1 rfl (Nat.le_of_ble_eq_true rfl) dS_len_6 (fun H locs hR => ?_)
  refine W.eq (g2 := F0 m 9 ls [.int 0, .int (slenI k)]) rfl ?_
  refine lv_ishr hx hb dS_len_9 ?_
  rw [sb_shr0]
  exact mm_iret C0 hR dS_len_10
theorem T_pre (G : mmG) (f : F3) {j n : Int32} {v : Value} (hv : v = .null ∨ ∃ a : Nat, v = .ref a) (h0 : ¬ j < 0) (h1 : j < n) : mmM G yJ3_checkIndex_8e157 cJ3_checkIndex_8e157 3 (some .int) 0 [.int j, .int n, v] f (some (.int j)) f := by
  have hlen : (lg_sl [.int j, .int n, v]).length ≤ 3 := by
    rcases hv with rfl | ⟨a, rfl⟩ <;> exact Nat.le_of_ble_eq_true rfl
  have harg : lv_args 0 [.int j, .int n, v] = [(0, .int j), (1, .int n), (2, v)] := by
    rcases hv with rfl | ⟨a, rfl⟩ <;> rfl
  refine mm_start (by decide +kernel) hlen ?_
  intro p e s m args below meth c ls C0 hR hl
  obtain ⟨hx, hb, hml, hr, hown, hts, hlocks⟩ := id C0
  rw [harg] at hl
  refine lv_iload_n hx hb dS_pre_0 rfl (lv_at hl 0 rfl) ?_
  refine lv_if_lt (tgt := 9) hx hb dS_pre_1 (by decide) (fun q => absurd q h0) (fun _ => ?_)
  refine lv_iload_n hx hb dS_pre_4 rfl (lv_at hl 0 rfl) ?_
  refine lv_iload_n hx hb dS_pre_5 rfl (lv_at hl 1 rfl) ?_
  refine lv_icmp_lt (tgt := 16) hx hb dS_pre_6 (by decide) (fun _ => ?_) (fun q => absurd h1 q)
  refine lv_iload_n hx hb dS_pre_16 rfl (lv_at hl 0 rfl) ?_
  exact mm_iret C0 hR dS_pre_17
theorem T_sck (G : mmG) (f : F3) {j n : Int32} (h0 : ¬ j < 0) (h1 : j < n) : mmM G yJ0_checkIndex_df160 cJ0_checkIndex_df160 2 none 1 [.int j, .int n] f none f := by
  refine mm_start (by decide +kernel) (Nat.le_of_ble_eq_true rfl) ?_
  intro p e s m args below meth c ls C0 hR hl
  obtain ⟨hx, hb, hml, hr, hown, hts, hlocks⟩ := id C0
  have hl : lv_has ls 2 [(0, .int j), (1, .int n)] := hl
  obtain ⟨v, hv, hz⟩ := hR.2.2.2.2.2.2
  refine lv_iload_n hx hb dS_ck_0 rfl (lv_at hl 0 rfl) ?_
  refine lv_iload_n hx hb dS_ck_1 rfl (lv_at hl 1 rfl) ?_
  refine va_gets hx hb hz hR.2.2.1 hown (hts _ kS_12) (fun _ h => h) dS_ck_2 ?_
  refine mm_callS (v := some (.int j)) (f1 := f) (d0 := 0) (rest := []) [.int j, .int n, v] C0 rfl hR (T_pre G f hv h0 h1) kS_14 kS_13 (by decide +kernel) ⟨by decide, by decide⟩ hl.1 rfl (Nat.le_of_ble_eq_true rfl) dS_ck_5 (fun H locs hR => ?_)
  refine W.eq (g2 := F0 m 8 ls [.int j]) rfl ?_
  refine lv_pop hx hb dS_ck_8 rfl ?_
  exact mm_vret C0 hR dS_ck_9
theorem mm_bytes : ∀ k, k < 11 → ∀ j, j < mm_sl.getD k 0 → ((((mm_sb.getD k []).getD j 0) &&& 255).toUInt32 % 65536).toInt32 = (mm_sb.getD k []).getD j 0 ∧ narrow .char (.int ((mm_sb.getD k []).getD j 0)) = .int ((mm_sb.getD k []).getD j 0) := by decide +kernel
theorem mm_lens : ∀ k, k < 11 → mm_sl.getD k 0 < 7 := by decide +kernel
theorem T_lat (G : mmG) (f : F3) {k : Nat} (hk : k < 11) {j : Int32} (hj : okI j (mm_sl.getD k 0) = true) : mmM G yJ1_charAt_3b067 cJ1_charAt_3b067 2 (some .char) 2 [.ref (G.2.2.2.2.2 k), .int j] f (some (.int (scharI k j))) f := by
  have hin := okI_in hj
  have hb1 := mm_bytes k hk j.toNatClampNeg (okI_lt hj)
  have hn7 := mm_lens k hk
  have h0 : ¬ j < 0 := fun q => hin (Or.inl q)
  have h1 : j < slenI k := by
    obtain ⟨q, hq, rfl⟩ := vp_in_of hin (by omega)
    exact nI_lt hq (by omega)
  refine mm_start (by decide +kernel) (Nat.le_of_ble_eq_true rfl) ?_
  intro p e s m args below meth c ls C0 hR hl
  obtain ⟨hx, hb, hml, hr, hown, hts, hlocks⟩ := id C0
  have hl : lv_has ls 2 [(0, .ref (G.2.2.2.2.2 k)), (1, .int j)] := hl
  refine lv_iload_n hx hb dS_lat_0 rfl (lv_at hl 1 rfl) ?_
  refine lv_aload_n hx hb dS_lat_1 rfl (lv_at hl 0 rfl) ?_
  refine va_tlen hx hb (hR.2.2.2.1.1 k hk).2.2.2 hR.2.2.1 (v := slenI k) rfl dS_lat_2 ?_
  refine mm_callS (v := none) (f1 := f) (d0 := 1) (rest := []) [.int j, .int (slenI k)] C0 rfl hR (T_sck G f h0 h1) kS_11 kS_10 (by decide +kernel) ⟨by decide, by decide⟩ hl.1 rfl (Nat.le_of_ble_eq_true rfl) dS_lat_3 (fun H locs hR => ?_)
  refine W.eq (g2 := F0 m 6 ls []) rfl ?_
  refine lv_aload_n hx hb dS_lat_6 rfl (lv_at hl 0 rfl) ?_
  refine lv_iload_n hx hb dS_lat_7 rfl (lv_at hl 1 rfl) ?_
  refine va_tb hx hb (hR.2.2.2.1.1 k hk).2.2.2 hR.2.2.1 hin rfl dS_lat_8 ?_
  refine lv_sipush (v := 255) hx hb dS_lat_9 (by decide) ?_
  refine lv_iand hx hb dS_lat_12 ?_
  refine lv_i2c hx hb dS_lat_13 ?_
  rw [hb1.1]
  exact mm_tret C0 hb1.2 hR dS_lat_14
theorem T_schar (G : mmG) (f : F3) {k : Nat} (hk : k < 11) {j : Int32} (hj : okI j (mm_sl.getD k 0) = true) : mmM G yJ0_charAt_5068e cJ0_charAt_5068e 2 (some .char) 3 [.ref (G.2.2.2.2.1 k), .int j] f (some (.int (scharI k j))) f := by
  refine mm_start (by decide +kernel) (Nat.le_of_ble_eq_true rfl) ?_
  intro p e s m args below meth c ls C0 hR hl
  obtain ⟨hx, hb, hml, hr, hown, hts, hlocks⟩ := id C0
  have hl : lv_has ls 2 [(0, .ref (G.2.2.2.2.1 k)), (1, .int j)] := hl
  refine lv_aload_n hx hb dS_chr_0 rfl (lv_at hl 0 rfl) ?_
  refine mm_callK (v := some (.int 1)) (f1 := f) (d0 := 0) (rest := []) [] C0 rfl hR hk (T_isLatin1 G f hk) kS_7 kS_6 (by decide +kernel) ⟨by decide, by decide⟩ rfl hl.1 rfl (Nat.le_of_ble_eq_true rfl) dS_chr_1 (fun H locs hR => ?_)
  refine W.eq (g2 := F0 m 4 ls [.int 1]) rfl ?_
  refine lv_if_eq (tgt := 16) hx hb dS_chr_4 (by decide) (fun q => absurd q (by decide)) (fun _ => ?_)
  refine lv_aload_n hx hb dS_chr_7 rfl (lv_at hl 0 rfl) ?_
  refine vk_getf hx hb (hR.2.2.2.1.1 k hk).2.2.1 hR.2.2.1 hown (hts _ kS_3) (fun _ h => h) dS_chr_8 ?_
  refine lv_iload_n hx hb dS_chr_11 rfl (lv_at hl 1 rfl) ?_
  refine mm_callS (v := some (.int (scharI k j))) (f1 := f) (d0 := 2) (rest := []) [.ref (G.2.2.2.2.2 k), .int j] C0 rfl hR (T_lat G f hk hj) kS_9 kS_8 (by decide +kernel) ⟨by decide, by decide⟩ hl.1 rfl (Nat.le_of_ble_eq_true rfl) dS_chr_12 (fun H locs hR => ?_)
  refine W.eq (g2 := F0 m 15 ls [.int (scharI k j)]) rfl ?_
  exact mm_tret C0 (mm_bytes k hk j.toNatClampNeg (okI_lt hj)).2 hR dS_chr_15
theorem mm_slen {l : Launch} {y : MethodName} {ret : Option FieldType} {d k : Nat} (C0 : mmC y cc nL ret p s m args meth c) (hl : l = G.1) (hR : mm_R G mm_NT f (GG f) s H locs) (hk : k < 11) (hlk : Cond.methodLink y.cls index yJ0_length_8abf5 ∈ BIG) (hls : ls.size = nL) (hroom : (rest.map fun v => v.category).sum ≤ 8) (hd : 1 + 1 ≤ d ∧ 8 + (1 + 11) + 36 * 1 ≤ 36 * d) (hdg : decode cc pc = .ok (.invokevirtual index, 3))
    (kk : ∀ (H1 : Heap) (locs1 : List Loc), mm_R G mm_NT f (GG f) s H1 locs1 → W p l e (mm_rm d) s m args below meth c H1 locs1 0 0 Q (F0 m (pc + 3) ls (.int (slenI k) :: rest))) : W p l e (mm_rm d) s m args below meth c H locs 0 0 Q (F0 m pc ls (.ref (G.2.2.2.2.1 k) :: rest)) :=
  mm_callK (v := some (.int (slenI k))) (f1 := f) (d0 := 1) (rest := rest) [] C0 hl hR hk (T_slen G f hk) kS_15 hlk (by decide +kernel) hd rfl hls rfl hroom hdg kk
theorem mm_schar {l : Launch} {y : MethodName} {ret : Option FieldType} {d k : Nat} {j : Int32} (C0 : mmC y cc nL ret p s m args meth c) (hl : l = G.1) (hR : mm_R G mm_NT f (GG f) s H locs) (hk : k < 11) (hj : okI j (mm_sl.getD k 0) = true) (hlk : Cond.methodLink y.cls index yJ0_charAt_5068e ∈ BIG) (hls : ls.size = nL) (hroom : (rest.map fun v => v.category).sum ≤ 8) (hd : 3 + 1 ≤ d ∧ 8 + (2 + 11) + 36 * 3 ≤ 36 * d) (hdg : decode cc pc = .ok (.invokevirtual index, 3))
    (kk : ∀ (H1 : Heap) (locs1 : List Loc), mm_R G mm_NT f (GG f) s H1 locs1 → W p l e (mm_rm d) s m args below meth c H1 locs1 0 0 Q (F0 m (pc + 3) ls (.int (scharI k j) :: rest))) : W p l e (mm_rm d) s m args below meth c H locs 0 0 Q (F0 m pc ls (.int j :: .ref (G.2.2.2.2.1 k) :: rest)) :=
  mm_callK (v := some (.int (scharI k j))) (f1 := f) (d0 := 3) (rest := rest) [.int j] C0 hl hR hk (T_schar G f hk hj) kS_16 hlk (by decide +kernel) hd rfl hls rfl hroom hdg kk
theorem kS_20 : Cond.native arraycopyName ∈ BIG := mm_big (by decide +kernel) rfl
theorem kS_21 : Cond.static arraycopyName ∈ BIG := mm_big (by decide +kernel) rfl
theorem kS_22 : Cond.initialized "java/lang/System" ∈ BIG := mm_big (by decide +kernel) rfl
theorem mm_copy {l : Launch} {y : MethodName} {ret : Option FieldType} {d : Nat} {sp dp n : Int32} (C0 : mmC y cc nL ret p s m args meth c) (hR : mm_R G mm_NT f (GG f) s H locs) (hls : ls.size = nL) (hfr : 1 ≤ d) (hlo : (rest.map fun v => v.category).sum + (nativeFrameWords "java/lang/System" "arraycopy" 5 + 11) ≤ 36 * d) (hz : okC sp dp n = true) (hlk : Cond.methodLink y.cls index arraycopyName ∈ BIG) (hdg : decode cc pc = .ok (.invokestatic index, 3))
    (kk : ∀ (H1 : Heap) (locs1 : List Loc), mm_R G mm_NT (cpy11 f sp dp n) (GG (cpy11 f sp dp n)) s H1 locs1 → W p l e (mm_rm d) s m args below meth c H1 locs1 0 0 Q (F0 m (pc + 3) ls rest)) : W p l e (mm_rm d) s m args below meth c H locs 0 0 Q (F0 m pc ls (.int n :: .int dp :: .ref (ra G 11 0) :: .int sp :: .ref (ra G 11 0) :: rest)) := by
  obtain ⟨hx, hb, hml, hr, hown, hts, hlocks⟩ := C0
  obtain ⟨hP, hK, hS, hT⟩ := hR
  have hv := mm_vld 11 (by decide) 0 (by decide)
  simp only [okC, Bool.and_eq_true, decide_eq_true_eq] at hz
  obtain ⟨⟨⟨⟨z1, z2⟩, z3⟩, z4⟩, z5⟩ := hz
  have nn : ∀ z : Int32, 0 ≤ z.toInt → ¬ z < 0 ∧ (z.toNatClampNeg : Int) = z.toInt := by
    intro z hz
    refine ⟨fun q => ?_, ?_⟩
    · have := Int32.lt_iff_toInt_lt.mp q
      simp at this
      omega
    · show ((z.toInt.toNat : Nat) : Int) = z.toInt
      omega
  obtain ⟨a1, b1⟩ := nn sp z1
  obtain ⟨a2, b2⟩ := nn dp z2
  obtain ⟨a3, b3⟩ := nn n z3
  have hat : (mm_wl G mm_NT f (GG f))[AD 11 0]? = some (ra G 11 0, .inl (G.2.2.1 0, 48, .inl (f 11 0))) := by rw [mm_wl_at hv.1 hv.2]; rfl
  refine va_copyi (ty := .int) hx hb (by rw [hml, hls]) hown (hts _ hlk) (hts _ kS_20) (hts _ kS_21) (hts _ kS_22) hK hP (mm_wl_D G mm_NT f (GG f)) hS (AD 11 0) (AD 11 0) 0 0 hat hat rfl rfl rfl a1 a2 a3 (by omega) (by omega) (fun _ _ => rfl) hfr hlo hdg (fun H1 locs1 hP1 hD1 hS1 => kk H1 locs1 ⟨?_, hK, hS1, hT⟩)
  have hoth : ∀ r' i', ¬ (r' = 11 ∧ i' = 0) → cpy11 f sp dp n r' i' = f r' i' := fun r' i' h => by
    funext k
    simp [cpy11, h]
  have hGG : GG (cpy11 f sp dp n) = GG f := by
    funext r' i' k'
    unfold GG
    split <;> try rfl
    rw [hoth 9 i' (by simp)]
  rw [mm_wl_set (f' := cpy11 f sp dp n) (g' := GG (cpy11 f sp dp n)) (Nat.le_refl _) hv.2 (fun r' i' h => ⟨hoth r' i' h, by rw [hGG]⟩) ?_] at hP1
  · exact hP1
  · have : cpy11 f sp dp n 11 0 = va_cpy (f 11 0) (f 11 0) sp.toNatClampNeg dp.toNatClampNeg n.toNatClampNeg := by
      funext k
      simp [cpy11]
    rw [this]
    rfl
end MMS
end
