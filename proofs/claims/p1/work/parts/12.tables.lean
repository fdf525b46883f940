-- ===== PART A: goes FIRST, ahead of the names: the tables' words, and 'selects' of the private methods out of them =====
/-- a private method of a class that the tables say can be made, by its rows of tables_1 -/
def lw_okq (q : MethodName × Nat) : Prop := (q.1.cls ≠ "java/lang/invoke/MethodHandle" ∧ q.1.cls ≠ "java/lang/invoke/VarHandle") ∧ Cond.instantiable q.1.cls q.2 ∈ tables_1 ∧ Cond.privateMethod q.1 ∈ tables_1 ∧ Cond.instanceMethod q.1 ∈ tables_1
theorem lw_p0 : lw_okq (⟨"HullKeepers", "mayPass", "(I)Z"⟩, 7) := ⟨⟨by decide +kernel, by decide +kernel⟩, List.mem_of_getElem? (i := 15) (by decide +kernel), List.mem_of_getElem? (i := 374) (by decide +kernel), List.mem_of_getElem? (i := 375) (by decide +kernel)⟩
theorem lw_p1 : lw_okq (⟨"HullKeepers$House", "passMonth", "()I"⟩, 17) := ⟨⟨by decide +kernel, by decide +kernel⟩, List.mem_of_getElem? (i := 23) (by decide +kernel), List.mem_of_getElem? (i := 382) (by decide +kernel), List.mem_of_getElem? (i := 383) (by decide +kernel)⟩
theorem lw_p2 : lw_okq (⟨"HullKeepers$House", "wearPlates", "(I)V"⟩, 17) := ⟨⟨by decide +kernel, by decide +kernel⟩, List.mem_of_getElem? (i := 23) (by decide +kernel), List.mem_of_getElem? (i := 411) (by decide +kernel), List.mem_of_getElem? (i := 412) (by decide +kernel)⟩
theorem lw_p3 : lw_okq (⟨"HullKeepers$Reader", "value", "(I)J"⟩, 6) := ⟨⟨by decide +kernel, by decide +kernel⟩, List.mem_of_getElem? (i := 153) (by decide +kernel), List.mem_of_getElem? (i := 454) (by decide +kernel), List.mem_of_getElem? (i := 455) (by decide +kernel)⟩
theorem lw_p4 : lw_okq (⟨"HullKeepers$Reader", "both", "(I)J"⟩, 6) := ⟨⟨by decide +kernel, by decide +kernel⟩, List.mem_of_getElem? (i := 153) (by decide +kernel), List.mem_of_getElem? (i := 458) (by decide +kernel), List.mem_of_getElem? (i := 459) (by decide +kernel)⟩
theorem lw_p5 : lw_okq (⟨"HullKeepers$Reader", "held", "(I)J"⟩, 6) := ⟨⟨by decide +kernel, by decide +kernel⟩, List.mem_of_getElem? (i := 153) (by decide +kernel), List.mem_of_getElem? (i := 462) (by decide +kernel), List.mem_of_getElem? (i := 463) (by decide +kernel)⟩
theorem lw_p6 : lw_okq (⟨"HullKeepers$Reader", "sum", "(I)J"⟩, 6) := ⟨⟨by decide +kernel, by decide +kernel⟩, List.mem_of_getElem? (i := 153) (by decide +kernel), List.mem_of_getElem? (i := 466) (by decide +kernel), List.mem_of_getElem? (i := 467) (by decide +kernel)⟩
theorem lw_p7 : lw_okq (⟨"HullKeepers$Reader", "term", "(I)J"⟩, 6) := ⟨⟨by decide +kernel, by decide +kernel⟩, List.mem_of_getElem? (i := 153) (by decide +kernel), List.mem_of_getElem? (i := 470) (by decide +kernel), List.mem_of_getElem? (i := 471) (by decide +kernel)⟩
theorem lw_p8 : lw_okq (⟨"HullKeepers$Reader", "unit", "(I)J"⟩, 6) := ⟨⟨by decide +kernel, by decide +kernel⟩, List.mem_of_getElem? (i := 153) (by decide +kernel), List.mem_of_getElem? (i := 474) (by decide +kernel), List.mem_of_getElem? (i := 475) (by decide +kernel)⟩
theorem lw_p9 : lw_okq (⟨"HullKeepers$Reader", "peek", "()I"⟩, 6) := ⟨⟨by decide +kernel, by decide +kernel⟩, List.mem_of_getElem? (i := 153) (by decide +kernel), List.mem_of_getElem? (i := 478) (by decide +kernel), List.mem_of_getElem? (i := 479) (by decide +kernel)⟩
theorem lw_p10 : lw_okq (⟨"HullKeepers$Reader", "signAt", "(I)I"⟩, 6) := ⟨⟨by decide +kernel, by decide +kernel⟩, List.mem_of_getElem? (i := 153) (by decide +kernel), List.mem_of_getElem? (i := 486) (by decide +kernel), List.mem_of_getElem? (i := 487) (by decide +kernel)⟩
theorem lw_p11 : lw_okq (⟨"HullKeepers$Reader", "core", "(I)J"⟩, 6) := ⟨⟨by decide +kernel, by decide +kernel⟩, List.mem_of_getElem? (i := 153) (by decide +kernel), List.mem_of_getElem? (i := 490) (by decide +kernel), List.mem_of_getElem? (i := 491) (by decide +kernel)⟩
theorem lw_p12 : lw_okq (⟨"HullKeepers$Reader", "digits", "()J"⟩, 6) := ⟨⟨by decide +kernel, by decide +kernel⟩, List.mem_of_getElem? (i := 153) (by decide +kernel), List.mem_of_getElem? (i := 494) (by decide +kernel), List.mem_of_getElem? (i := 495) (by decide +kernel)⟩
theorem lw_p13 : lw_okq (⟨"HullKeepers$Reader", "fail", "(II)V"⟩, 6) := ⟨⟨by decide +kernel, by decide +kernel⟩, List.mem_of_getElem? (i := 153) (by decide +kernel), List.mem_of_getElem? (i := 499) (by decide +kernel), List.mem_of_getElem? (i := 500) (by decide +kernel)⟩
theorem lw_p14 : lw_okq (⟨"HullKeepers$Reader", "inside", "(I)J"⟩, 6) := ⟨⟨by decide +kernel, by decide +kernel⟩, List.mem_of_getElem? (i := 153) (by decide +kernel), List.mem_of_getElem? (i := 503) (by decide +kernel), List.mem_of_getElem? (i := 504) (by decide +kernel)⟩
theorem lw_p15 : lw_okq (⟨"HullKeepers$Reader", "letter", "(I)J"⟩, 6) := ⟨⟨by decide +kernel, by decide +kernel⟩, List.mem_of_getElem? (i := 153) (by decide +kernel), List.mem_of_getElem? (i := 507) (by decide +kernel), List.mem_of_getElem? (i := 508) (by decide +kernel)⟩
def lw_privs_1 : List (MethodName × Nat) := [(⟨"HullKeepers", "mayPass", "(I)Z"⟩, 7), (⟨"HullKeepers$House", "passMonth", "()I"⟩, 17), (⟨"HullKeepers$House", "wearPlates", "(I)V"⟩, 17), (⟨"HullKeepers$Reader", "value", "(I)J"⟩, 6), (⟨"HullKeepers$Reader", "both", "(I)J"⟩, 6), (⟨"HullKeepers$Reader", "held", "(I)J"⟩, 6), (⟨"HullKeepers$Reader", "sum", "(I)J"⟩, 6), (⟨"HullKeepers$Reader", "term", "(I)J"⟩, 6), (⟨"HullKeepers$Reader", "unit", "(I)J"⟩, 6), (⟨"HullKeepers$Reader", "peek", "()I"⟩, 6), (⟨"HullKeepers$Reader", "signAt", "(I)I"⟩, 6), (⟨"HullKeepers$Reader", "core", "(I)J"⟩, 6), (⟨"HullKeepers$Reader", "digits", "()J"⟩, 6), (⟨"HullKeepers$Reader", "fail", "(II)V"⟩, 6), (⟨"HullKeepers$Reader", "inside", "(I)J"⟩, 6), (⟨"HullKeepers$Reader", "letter", "(I)J"⟩, 6)]
theorem lw_r1 : ∀ q ∈ lw_privs_1, lw_okq q := List.forall_mem_cons.mpr ⟨lw_p0, List.forall_mem_cons.mpr ⟨lw_p1, List.forall_mem_cons.mpr ⟨lw_p2, List.forall_mem_cons.mpr ⟨lw_p3, List.forall_mem_cons.mpr ⟨lw_p4, List.forall_mem_cons.mpr ⟨lw_p5, List.forall_mem_cons.mpr ⟨lw_p6, List.forall_mem_cons.mpr ⟨lw_p7, List.forall_mem_cons.mpr ⟨lw_p8, List.forall_mem_cons.mpr ⟨lw_p9, List.forall_mem_cons.mpr ⟨lw_p10, List.forall_mem_cons.mpr ⟨lw_p11, List.forall_mem_cons.mpr ⟨lw_p12, List.forall_mem_cons.mpr ⟨lw_p13, List.forall_mem_cons.mpr ⟨lw_p14, List.forall_mem_cons.mpr ⟨lw_p15, fun _ h => absurd h List.not_mem_nil⟩⟩⟩⟩⟩⟩⟩⟩⟩⟩⟩⟩⟩⟩⟩⟩
theorem lw_p16 : lw_okq (⟨"HullKeepers$House", "latest", "(III)I"⟩, 17) := ⟨⟨by decide +kernel, by decide +kernel⟩, List.mem_of_getElem? (i := 23) (by decide +kernel), List.mem_of_getElem? (i := 536) (by decide +kernel), List.mem_of_getElem? (i := 537) (by decide +kernel)⟩
theorem lw_p17 : lw_okq (⟨"HullKeepers$House", "corrected", "(II)J"⟩, 17) := ⟨⟨by decide +kernel, by decide +kernel⟩, List.mem_of_getElem? (i := 23) (by decide +kernel), List.mem_of_getElem? (i := 541) (by decide +kernel), List.mem_of_getElem? (i := 542) (by decide +kernel)⟩
theorem lw_p18 : lw_okq (⟨"HullKeepers$Planner", "layOut", "()V"⟩, 12) := ⟨⟨by decide +kernel, by decide +kernel⟩, List.mem_of_getElem? (i := 202) (by decide +kernel), List.mem_of_getElem? (i := 621) (by decide +kernel), List.mem_of_getElem? (i := 622) (by decide +kernel)⟩
theorem lw_p19 : lw_okq (⟨"HullKeepers$Planner", "usefulDockings", "(I)I"⟩, 12) := ⟨⟨by decide +kernel, by decide +kernel⟩, List.mem_of_getElem? (i := 202) (by decide +kernel), List.mem_of_getElem? (i := 625) (by decide +kernel), List.mem_of_getElem? (i := 626) (by decide +kernel)⟩
theorem lw_p20 : lw_okq (⟨"HullKeepers$Planner", "leastBest", "(II)I"⟩, 12) := ⟨⟨by decide +kernel, by decide +kernel⟩, List.mem_of_getElem? (i := 202) (by decide +kernel), List.mem_of_getElem? (i := 639) (by decide +kernel), List.mem_of_getElem? (i := 640) (by decide +kernel)⟩
theorem lw_p21 : lw_okq (⟨"HullKeepers$Planner", "best", "(II)I"⟩, 12) := ⟨⟨by decide +kernel, by decide +kernel⟩, List.mem_of_getElem? (i := 202) (by decide +kernel), List.mem_of_getElem? (i := 643) (by decide +kernel), List.mem_of_getElem? (i := 644) (by decide +kernel)⟩
theorem lw_p22 : lw_okq (⟨"HullKeepers$Planner", "worthOf", "(I)I"⟩, 12) := ⟨⟨by decide +kernel, by decide +kernel⟩, List.mem_of_getElem? (i := 202) (by decide +kernel), List.mem_of_getElem? (i := 647) (by decide +kernel), List.mem_of_getElem? (i := 648) (by decide +kernel)⟩
theorem lw_p23 : lw_okq (⟨"HullKeepers$Planner", "floatsTill", "(II)I"⟩, 12) := ⟨⟨by decide +kernel, by decide +kernel⟩, List.mem_of_getElem? (i := 202) (by decide +kernel), List.mem_of_getElem? (i := 651) (by decide +kernel), List.mem_of_getElem? (i := 652) (by decide +kernel)⟩
theorem lw_p24 : lw_okq (⟨"HullKeepers$Planner", "timesDocked", "(II)I"⟩, 12) := ⟨⟨by decide +kernel, by decide +kernel⟩, List.mem_of_getElem? (i := 202) (by decide +kernel), List.mem_of_getElem? (i := 655) (by decide +kernel), List.mem_of_getElem? (i := 656) (by decide +kernel)⟩
theorem lw_p25 : lw_okq (⟨"HullKeepers$Planner", "workedOut", "(II)I"⟩, 12) := ⟨⟨by decide +kernel, by decide +kernel⟩, List.mem_of_getElem? (i := 202) (by decide +kernel), List.mem_of_getElem? (i := 659) (by decide +kernel), List.mem_of_getElem? (i := 660) (by decide +kernel)⟩
theorem lw_p26 : lw_okq (⟨"HullKeepers$Planner", "dockable", "(II)I"⟩, 12) := ⟨⟨by decide +kernel, by decide +kernel⟩, List.mem_of_getElem? (i := 202) (by decide +kernel), List.mem_of_getElem? (i := 663) (by decide +kernel), List.mem_of_getElem? (i := 664) (by decide +kernel)⟩
theorem lw_p27 : lw_okq (⟨"HullKeepers$Planner", "coinLeft", "(II)I"⟩, 12) := ⟨⟨by decide +kernel, by decide +kernel⟩, List.mem_of_getElem? (i := 202) (by decide +kernel), List.mem_of_getElem? (i := 667) (by decide +kernel), List.mem_of_getElem? (i := 668) (by decide +kernel)⟩
theorem lw_p28 : lw_okq (⟨"HullKeepers$Planner", "mayDock", "(III)Z"⟩, 12) := ⟨⟨by decide +kernel, by decide +kernel⟩, List.mem_of_getElem? (i := 202) (by decide +kernel), List.mem_of_getElem? (i := 671) (by decide +kernel), List.mem_of_getElem? (i := 672) (by decide +kernel)⟩
theorem lw_p29 : lw_okq (⟨"HullKeepers$Planner", "sumUp", "(I)V"⟩, 12) := ⟨⟨by decide +kernel, by decide +kernel⟩, List.mem_of_getElem? (i := 202) (by decide +kernel), List.mem_of_getElem? (i := 681) (by decide +kernel), List.mem_of_getElem? (i := 682) (by decide +kernel)⟩
theorem lw_p30 : lw_okq (⟨"HullKeepers$LeakFinder", "isNoLarger", "(I)Z"⟩, 2) := ⟨⟨by decide +kernel, by decide +kernel⟩, List.mem_of_getElem? (i := 245) (by decide +kernel), List.mem_of_getElem? (i := 717) (by decide +kernel), List.mem_of_getElem? (i := 718) (by decide +kernel)⟩
theorem lw_p31 : lw_okq (⟨"HullKeepers$Crew", "supplyAll", "(LHullKeepers$Table;)V"⟩, 4) := ⟨⟨by decide +kernel, by decide +kernel⟩, List.mem_of_getElem? (i := 260) (by decide +kernel), List.mem_of_getElem? (i := 749) (by decide +kernel), List.mem_of_getElem? (i := 750) (by decide +kernel)⟩
def lw_privs_2 : List (MethodName × Nat) := [(⟨"HullKeepers$House", "latest", "(III)I"⟩, 17), (⟨"HullKeepers$House", "corrected", "(II)J"⟩, 17), (⟨"HullKeepers$Planner", "layOut", "()V"⟩, 12), (⟨"HullKeepers$Planner", "usefulDockings", "(I)I"⟩, 12), (⟨"HullKeepers$Planner", "leastBest", "(II)I"⟩, 12), (⟨"HullKeepers$Planner", "best", "(II)I"⟩, 12), (⟨"HullKeepers$Planner", "worthOf", "(I)I"⟩, 12), (⟨"HullKeepers$Planner", "floatsTill", "(II)I"⟩, 12), (⟨"HullKeepers$Planner", "timesDocked", "(II)I"⟩, 12), (⟨"HullKeepers$Planner", "workedOut", "(II)I"⟩, 12), (⟨"HullKeepers$Planner", "dockable", "(II)I"⟩, 12), (⟨"HullKeepers$Planner", "coinLeft", "(II)I"⟩, 12), (⟨"HullKeepers$Planner", "mayDock", "(III)Z"⟩, 12), (⟨"HullKeepers$Planner", "sumUp", "(I)V"⟩, 12), (⟨"HullKeepers$LeakFinder", "isNoLarger", "(I)Z"⟩, 2), (⟨"HullKeepers$Crew", "supplyAll", "(LHullKeepers$Table;)V"⟩, 4)]
theorem lw_r2 : ∀ q ∈ lw_privs_2, lw_okq q := List.forall_mem_cons.mpr ⟨lw_p16, List.forall_mem_cons.mpr ⟨lw_p17, List.forall_mem_cons.mpr ⟨lw_p18, List.forall_mem_cons.mpr ⟨lw_p19, List.forall_mem_cons.mpr ⟨lw_p20, List.forall_mem_cons.mpr ⟨lw_p21, List.forall_mem_cons.mpr ⟨lw_p22, List.forall_mem_cons.mpr ⟨lw_p23, List.forall_mem_cons.mpr ⟨lw_p24, List.forall_mem_cons.mpr ⟨lw_p25, List.forall_mem_cons.mpr ⟨lw_p26, List.forall_mem_cons.mpr ⟨lw_p27, List.forall_mem_cons.mpr ⟨lw_p28, List.forall_mem_cons.mpr ⟨lw_p29, List.forall_mem_cons.mpr ⟨lw_p30, List.forall_mem_cons.mpr ⟨lw_p31, fun _ h => absurd h List.not_mem_nil⟩⟩⟩⟩⟩⟩⟩⟩⟩⟩⟩⟩⟩⟩⟩⟩
theorem lw_p32 : lw_okq (⟨"HullKeepers$Crew", "canDo", "(LHullKeepers$Table;I)Z"⟩, 4) := ⟨⟨by decide +kernel, by decide +kernel⟩, List.mem_of_getElem? (i := 260) (by decide +kernel), List.mem_of_getElem? (i := 757) (by decide +kernel), List.mem_of_getElem? (i := 758) (by decide +kernel)⟩
theorem lw_p33 : lw_okq (⟨"HullKeepers$Crew", "needAll", "(LHullKeepers$Table;I)V"⟩, 4) := ⟨⟨by decide +kernel, by decide +kernel⟩, List.mem_of_getElem? (i := 260) (by decide +kernel), List.mem_of_getElem? (i := 761) (by decide +kernel), List.mem_of_getElem? (i := 762) (by decide +kernel)⟩
theorem lw_p34 : lw_okq (⟨"HullKeepers$Storms", "sinkingWith", "(LHullKeepers$House;III)I"⟩, 5) := ⟨⟨by decide +kernel, by decide +kernel⟩, List.mem_of_getElem? (i := 178) (by decide +kernel), List.mem_of_getElem? (i := 779) (by decide +kernel), List.mem_of_getElem? (i := 780) (by decide +kernel)⟩
theorem lw_p35 : lw_okq (⟨"HullKeepers$Storms", "pass", "(LHullKeepers$House;II)I"⟩, 5) := ⟨⟨by decide +kernel, by decide +kernel⟩, List.mem_of_getElem? (i := 178) (by decide +kernel), List.mem_of_getElem? (i := 784) (by decide +kernel), List.mem_of_getElem? (i := 785) (by decide +kernel)⟩
theorem lw_p36 : lw_okq (⟨"HullKeepers$House", "sunkShips", "()I"⟩, 17) := ⟨⟨by decide +kernel, by decide +kernel⟩, List.mem_of_getElem? (i := 23) (by decide +kernel), List.mem_of_getElem? (i := 819) (by decide +kernel), List.mem_of_getElem? (i := 820) (by decide +kernel)⟩
theorem lw_p37 : lw_okq (⟨"HullKeepersModel", "one", "(I)I"⟩, 12) := ⟨⟨by decide +kernel, by decide +kernel⟩, List.mem_of_getElem? (i := 842) (by decide +kernel), List.mem_of_getElem? (i := 897) (by decide +kernel), List.mem_of_getElem? (i := 898) (by decide +kernel)⟩
theorem lw_p38 : lw_okq (⟨"HullKeepersModel", "is", "(II)Z"⟩, 12) := ⟨⟨by decide +kernel, by decide +kernel⟩, List.mem_of_getElem? (i := 842) (by decide +kernel), List.mem_of_getElem? (i := 905) (by decide +kernel), List.mem_of_getElem? (i := 906) (by decide +kernel)⟩
theorem lw_p39 : lw_okq (⟨"HullKeepersModel", "plateOf", "(II)I"⟩, 12) := ⟨⟨by decide +kernel, by decide +kernel⟩, List.mem_of_getElem? (i := 842) (by decide +kernel), List.mem_of_getElem? (i := 913) (by decide +kernel), List.mem_of_getElem? (i := 914) (by decide +kernel)⟩
theorem lw_p40 : lw_okq (⟨"HullKeepersModel", "shipOf", "(II)I"⟩, 12) := ⟨⟨by decide +kernel, by decide +kernel⟩, List.mem_of_getElem? (i := 842) (by decide +kernel), List.mem_of_getElem? (i := 917) (by decide +kernel), List.mem_of_getElem? (i := 918) (by decide +kernel)⟩
theorem lw_p41 : lw_okq (⟨"HullKeepersModel", "puts", "(II)I"⟩, 12) := ⟨⟨by decide +kernel, by decide +kernel⟩, List.mem_of_getElem? (i := 842) (by decide +kernel), List.mem_of_getElem? (i := 925) (by decide +kernel), List.mem_of_getElem? (i := 926) (by decide +kernel)⟩
theorem lw_p42 : lw_okq (⟨"HullKeepersModel", "isAhead", "(I)Z"⟩, 12) := ⟨⟨by decide +kernel, by decide +kernel⟩, List.mem_of_getElem? (i := 842) (by decide +kernel), List.mem_of_getElem? (i := 950) (by decide +kernel), List.mem_of_getElem? (i := 951) (by decide +kernel)⟩
theorem lw_p43 : lw_okq (⟨"HullKeepersModel", "goes", "()I"⟩, 12) := ⟨⟨by decide +kernel, by decide +kernel⟩, List.mem_of_getElem? (i := 842) (by decide +kernel), List.mem_of_getElem? (i := 954) (by decide +kernel), List.mem_of_getElem? (i := 955) (by decide +kernel)⟩
theorem lw_p44 : lw_okq (⟨"HullKeepersModel", "leaksOf", "(I)I"⟩, 12) := ⟨⟨by decide +kernel, by decide +kernel⟩, List.mem_of_getElem? (i := 842) (by decide +kernel), List.mem_of_getElem? (i := 958) (by decide +kernel), List.mem_of_getElem? (i := 959) (by decide +kernel)⟩
theorem lw_p45 : lw_okq (⟨"HullKeepersModel", "leakOf", "(I)I"⟩, 12) := ⟨⟨by decide +kernel, by decide +kernel⟩, List.mem_of_getElem? (i := 842) (by decide +kernel), List.mem_of_getElem? (i := 962) (by decide +kernel), List.mem_of_getElem? (i := 963) (by decide +kernel)⟩
theorem lw_p46 : lw_okq (⟨"HullKeepersModel", "lies", "(I)I"⟩, 12) := ⟨⟨by decide +kernel, by decide +kernel⟩, List.mem_of_getElem? (i := 842) (by decide +kernel), List.mem_of_getElem? (i := 966) (by decide +kernel), List.mem_of_getElem? (i := 967) (by decide +kernel)⟩
theorem lw_p47 : lw_okq (⟨"HullKeepersModel", "shipTold", "(II)I"⟩, 12) := ⟨⟨by decide +kernel, by decide +kernel⟩, List.mem_of_getElem? (i := 842) (by decide +kernel), List.mem_of_getElem? (i := 974) (by decide +kernel), List.mem_of_getElem? (i := 975) (by decide +kernel)⟩
def lw_privs_3 : List (MethodName × Nat) := [(⟨"HullKeepers$Crew", "canDo", "(LHullKeepers$Table;I)Z"⟩, 4), (⟨"HullKeepers$Crew", "needAll", "(LHullKeepers$Table;I)V"⟩, 4), (⟨"HullKeepers$Storms", "sinkingWith", "(LHullKeepers$House;III)I"⟩, 5), (⟨"HullKeepers$Storms", "pass", "(LHullKeepers$House;II)I"⟩, 5), (⟨"HullKeepers$House", "sunkShips", "()I"⟩, 17), (⟨"HullKeepersModel", "one", "(I)I"⟩, 12), (⟨"HullKeepersModel", "is", "(II)Z"⟩, 12), (⟨"HullKeepersModel", "plateOf", "(II)I"⟩, 12), (⟨"HullKeepersModel", "shipOf", "(II)I"⟩, 12), (⟨"HullKeepersModel", "puts", "(II)I"⟩, 12), (⟨"HullKeepersModel", "isAhead", "(I)Z"⟩, 12), (⟨"HullKeepersModel", "goes", "()I"⟩, 12), (⟨"HullKeepersModel", "leaksOf", "(I)I"⟩, 12), (⟨"HullKeepersModel", "leakOf", "(I)I"⟩, 12), (⟨"HullKeepersModel", "lies", "(I)I"⟩, 12), (⟨"HullKeepersModel", "shipTold", "(II)I"⟩, 12)]
theorem lw_r3 : ∀ q ∈ lw_privs_3, lw_okq q := List.forall_mem_cons.mpr ⟨lw_p32, List.forall_mem_cons.mpr ⟨lw_p33, List.forall_mem_cons.mpr ⟨lw_p34, List.forall_mem_cons.mpr ⟨lw_p35, List.forall_mem_cons.mpr ⟨lw_p36, List.forall_mem_cons.mpr ⟨lw_p37, List.forall_mem_cons.mpr ⟨lw_p38, List.forall_mem_cons.mpr ⟨lw_p39, List.forall_mem_cons.mpr ⟨lw_p40, List.forall_mem_cons.mpr ⟨lw_p41, List.forall_mem_cons.mpr ⟨lw_p42, List.forall_mem_cons.mpr ⟨lw_p43, List.forall_mem_cons.mpr ⟨lw_p44, List.forall_mem_cons.mpr ⟨lw_p45, List.forall_mem_cons.mpr ⟨lw_p46, List.forall_mem_cons.mpr ⟨lw_p47, fun _ h => absurd h List.not_mem_nil⟩⟩⟩⟩⟩⟩⟩⟩⟩⟩⟩⟩⟩⟩⟩⟩
theorem lw_p48 : lw_okq (⟨"HullKeepersModel", "platesOf", "(I)I"⟩, 12) := ⟨⟨by decide +kernel, by decide +kernel⟩, List.mem_of_getElem? (i := 842) (by decide +kernel), List.mem_of_getElem? (i := 978) (by decide +kernel), List.mem_of_getElem? (i := 979) (by decide +kernel)⟩
theorem lw_p49 : lw_okq (⟨"HullKeepersModel", "firstStuff", "(I)I"⟩, 12) := ⟨⟨by decide +kernel, by decide +kernel⟩, List.mem_of_getElem? (i := 842) (by decide +kernel), List.mem_of_getElem? (i := 982) (by decide +kernel), List.mem_of_getElem? (i := 983) (by decide +kernel)⟩
theorem lw_p50 : lw_okq (⟨"HullKeepersModel", "isTruth", "(II)Z"⟩, 12) := ⟨⟨by decide +kernel, by decide +kernel⟩, List.mem_of_getElem? (i := 842) (by decide +kernel), List.mem_of_getElem? (i := 994) (by decide +kernel), List.mem_of_getElem? (i := 995) (by decide +kernel)⟩
theorem lw_p51 : lw_okq (⟨"HullKeepersModel", "reads", "(I)I"⟩, 12) := ⟨⟨by decide +kernel, by decide +kernel⟩, List.mem_of_getElem? (i := 842) (by decide +kernel), List.mem_of_getElem? (i := 998) (by decide +kernel), List.mem_of_getElem? (i := 999) (by decide +kernel)⟩
theorem lw_p52 : lw_okq (⟨"HullKeepersModel", "settles", "(I)V"⟩, 12) := ⟨⟨by decide +kernel, by decide +kernel⟩, List.mem_of_getElem? (i := 842) (by decide +kernel), List.mem_of_getElem? (i := 1002) (by decide +kernel), List.mem_of_getElem? (i := 1003) (by decide +kernel)⟩
theorem lw_p53 : lw_okq (⟨"HullKeepersModel", "emits", "(II)V"⟩, 12) := ⟨⟨by decide +kernel, by decide +kernel⟩, List.mem_of_getElem? (i := 842) (by decide +kernel), List.mem_of_getElem? (i := 1009) (by decide +kernel), List.mem_of_getElem? (i := 1010) (by decide +kernel)⟩
theorem lw_p54 : lw_okq (⟨"HullKeepersModel", "goesOn", "(I)Z"⟩, 12) := ⟨⟨by decide +kernel, by decide +kernel⟩, List.mem_of_getElem? (i := 842) (by decide +kernel), List.mem_of_getElem? (i := 1016) (by decide +kernel), List.mem_of_getElem? (i := 1017) (by decide +kernel)⟩
theorem lw_p55 : lw_okq (⟨"HullKeepersModel", "waitsWith", "(I)V"⟩, 12) := ⟨⟨by decide +kernel, by decide +kernel⟩, List.mem_of_getElem? (i := 842) (by decide +kernel), List.mem_of_getElem? (i := 1020) (by decide +kernel), List.mem_of_getElem? (i := 1021) (by decide +kernel)⟩
theorem lw_p56 : lw_okq (⟨"HullKeepersModel", "tellsOf", "(I)J"⟩, 12) := ⟨⟨by decide +kernel, by decide +kernel⟩, List.mem_of_getElem? (i := 842) (by decide +kernel), List.mem_of_getElem? (i := 1027) (by decide +kernel), List.mem_of_getElem? (i := 1028) (by decide +kernel)⟩
theorem lw_p57 : lw_okq (⟨"HullKeepersModel", "named", "(II)J"⟩, 12) := ⟨⟨by decide +kernel, by decide +kernel⟩, List.mem_of_getElem? (i := 842) (by decide +kernel), List.mem_of_getElem? (i := 1031) (by decide +kernel), List.mem_of_getElem? (i := 1032) (by decide +kernel)⟩
theorem lw_p58 : lw_okq (⟨"HullKeepersModel", "latest", "(III)I"⟩, 12) := ⟨⟨by decide +kernel, by decide +kernel⟩, List.mem_of_getElem? (i := 842) (by decide +kernel), List.mem_of_getElem? (i := 1064) (by decide +kernel), List.mem_of_getElem? (i := 1065) (by decide +kernel)⟩
theorem lw_p59 : lw_okq (⟨"HullKeepersModel", "worn", "(III)I"⟩, 12) := ⟨⟨by decide +kernel, by decide +kernel⟩, List.mem_of_getElem? (i := 842) (by decide +kernel), List.mem_of_getElem? (i := 1068) (by decide +kernel), List.mem_of_getElem? (i := 1069) (by decide +kernel)⟩
theorem lw_p60 : lw_okq (⟨"HullKeepersModel", "leant", "(II)I"⟩, 12) := ⟨⟨by decide +kernel, by decide +kernel⟩, List.mem_of_getElem? (i := 842) (by decide +kernel), List.mem_of_getElem? (i := 1072) (by decide +kernel), List.mem_of_getElem? (i := 1073) (by decide +kernel)⟩
theorem lw_p61 : lw_okq (⟨"HullKeepersModel", "dueOf", "(II)I"⟩, 12) := ⟨⟨by decide +kernel, by decide +kernel⟩, List.mem_of_getElem? (i := 842) (by decide +kernel), List.mem_of_getElem? (i := 1080) (by decide +kernel), List.mem_of_getElem? (i := 1081) (by decide +kernel)⟩
theorem lw_p62 : lw_okq (⟨"HullKeepersModel", "findBest", "()V"⟩, 12) := ⟨⟨by decide +kernel, by decide +kernel⟩, List.mem_of_getElem? (i := 842) (by decide +kernel), List.mem_of_getElem? (i := 1129) (by decide +kernel), List.mem_of_getElem? (i := 1130) (by decide +kernel)⟩
theorem lw_p63 : lw_okq (⟨"HullKeepersModel", "findDocked", "(I)V"⟩, 12) := ⟨⟨by decide +kernel, by decide +kernel⟩, List.mem_of_getElem? (i := 842) (by decide +kernel), List.mem_of_getElem? (i := 1134) (by decide +kernel), List.mem_of_getElem? (i := 1135) (by decide +kernel)⟩
def lw_privs_4 : List (MethodName × Nat) := [(⟨"HullKeepersModel", "platesOf", "(I)I"⟩, 12), (⟨"HullKeepersModel", "firstStuff", "(I)I"⟩, 12), (⟨"HullKeepersModel", "isTruth", "(II)Z"⟩, 12), (⟨"HullKeepersModel", "reads", "(I)I"⟩, 12), (⟨"HullKeepersModel", "settles", "(I)V"⟩, 12), (⟨"HullKeepersModel", "emits", "(II)V"⟩, 12), (⟨"HullKeepersModel", "goesOn", "(I)Z"⟩, 12), (⟨"HullKeepersModel", "waitsWith", "(I)V"⟩, 12), (⟨"HullKeepersModel", "tellsOf", "(I)J"⟩, 12), (⟨"HullKeepersModel", "named", "(II)J"⟩, 12), (⟨"HullKeepersModel", "latest", "(III)I"⟩, 12), (⟨"HullKeepersModel", "worn", "(III)I"⟩, 12), (⟨"HullKeepersModel", "leant", "(II)I"⟩, 12), (⟨"HullKeepersModel", "dueOf", "(II)I"⟩, 12), (⟨"HullKeepersModel", "findBest", "()V"⟩, 12), (⟨"HullKeepersModel", "findDocked", "(I)V"⟩, 12)]
theorem lw_r4 : ∀ q ∈ lw_privs_4, lw_okq q := List.forall_mem_cons.mpr ⟨lw_p48, List.forall_mem_cons.mpr ⟨lw_p49, List.forall_mem_cons.mpr ⟨lw_p50, List.forall_mem_cons.mpr ⟨lw_p51, List.forall_mem_cons.mpr ⟨lw_p52, List.forall_mem_cons.mpr ⟨lw_p53, List.forall_mem_cons.mpr ⟨lw_p54, List.forall_mem_cons.mpr ⟨lw_p55, List.forall_mem_cons.mpr ⟨lw_p56, List.forall_mem_cons.mpr ⟨lw_p57, List.forall_mem_cons.mpr ⟨lw_p58, List.forall_mem_cons.mpr ⟨lw_p59, List.forall_mem_cons.mpr ⟨lw_p60, List.forall_mem_cons.mpr ⟨lw_p61, List.forall_mem_cons.mpr ⟨lw_p62, List.forall_mem_cons.mpr ⟨lw_p63, fun _ h => absurd h List.not_mem_nil⟩⟩⟩⟩⟩⟩⟩⟩⟩⟩⟩⟩⟩⟩⟩⟩
theorem lw_p64 : lw_okq (⟨"HullKeepersModel", "floats", "(II)Z"⟩, 12) := ⟨⟨by decide +kernel, by decide +kernel⟩, List.mem_of_getElem? (i := 842) (by decide +kernel), List.mem_of_getElem? (i := 1138) (by decide +kernel), List.mem_of_getElem? (i := 1139) (by decide +kernel)⟩
theorem lw_p65 : lw_okq (⟨"HullKeepersModel", "docksThen", "(III)I"⟩, 12) := ⟨⟨by decide +kernel, by decide +kernel⟩, List.mem_of_getElem? (i := 842) (by decide +kernel), List.mem_of_getElem? (i := 1143) (by decide +kernel), List.mem_of_getElem? (i := 1144) (by decide +kernel)⟩
theorem lw_p66 : lw_okq (⟨"HullKeepersModel", "coin", "(I)I"⟩, 12) := ⟨⟨by decide +kernel, by decide +kernel⟩, List.mem_of_getElem? (i := 842) (by decide +kernel), List.mem_of_getElem? (i := 1150) (by decide +kernel), List.mem_of_getElem? (i := 1151) (by decide +kernel)⟩
theorem lw_p67 : lw_okq (⟨"HullKeepersModel", "power", "(I)I"⟩, 12) := ⟨⟨by decide +kernel, by decide +kernel⟩, List.mem_of_getElem? (i := 842) (by decide +kernel), List.mem_of_getElem? (i := 1154) (by decide +kernel), List.mem_of_getElem? (i := 1155) (by decide +kernel)⟩
theorem lw_p68 : lw_okq (⟨"HullKeepersModel", "goesBy", "(I)I"⟩, 12) := ⟨⟨by decide +kernel, by decide +kernel⟩, List.mem_of_getElem? (i := 842) (by decide +kernel), List.mem_of_getElem? (i := 1158) (by decide +kernel), List.mem_of_getElem? (i := 1159) (by decide +kernel)⟩
theorem lw_p69 : lw_okq (⟨"HullKeepersModel", "letGo", "()I"⟩, 12) := ⟨⟨by decide +kernel, by decide +kernel⟩, List.mem_of_getElem? (i := 842) (by decide +kernel), List.mem_of_getElem? (i := 1162) (by decide +kernel), List.mem_of_getElem? (i := 1163) (by decide +kernel)⟩
theorem lw_p70 : lw_okq (⟨"HullKeepersModel", "tellsTests", "(I)Z"⟩, 12) := ⟨⟨by decide +kernel, by decide +kernel⟩, List.mem_of_getElem? (i := 842) (by decide +kernel), List.mem_of_getElem? (i := 1182) (by decide +kernel), List.mem_of_getElem? (i := 1183) (by decide +kernel)⟩
theorem lw_p71 : lw_okq (⟨"HullKeepersModel", "canDo", "(I)Z"⟩, 12) := ⟨⟨by decide +kernel, by decide +kernel⟩, List.mem_of_getElem? (i := 842) (by decide +kernel), List.mem_of_getElem? (i := 1206) (by decide +kernel), List.mem_of_getElem? (i := 1207) (by decide +kernel)⟩
theorem lw_p72 : lw_okq (⟨"HullKeepersModel", "countOf", "(I)I"⟩, 12) := ⟨⟨by decide +kernel, by decide +kernel⟩, List.mem_of_getElem? (i := 842) (by decide +kernel), List.mem_of_getElem? (i := 1226) (by decide +kernel), List.mem_of_getElem? (i := 1227) (by decide +kernel)⟩
theorem lw_p73 : lw_okq (⟨"HullKeepersModel", "mixed", "(JII)J"⟩, 12) := ⟨⟨by decide +kernel, by decide +kernel⟩, List.mem_of_getElem? (i := 842) (by decide +kernel), List.mem_of_getElem? (i := 1236) (by decide +kernel), List.mem_of_getElem? (i := 1237) (by decide +kernel)⟩
def lw_privs_5 : List (MethodName × Nat) := [(⟨"HullKeepersModel", "floats", "(II)Z"⟩, 12), (⟨"HullKeepersModel", "docksThen", "(III)I"⟩, 12), (⟨"HullKeepersModel", "coin", "(I)I"⟩, 12), (⟨"HullKeepersModel", "power", "(I)I"⟩, 12), (⟨"HullKeepersModel", "goesBy", "(I)I"⟩, 12), (⟨"HullKeepersModel", "letGo", "()I"⟩, 12), (⟨"HullKeepersModel", "tellsTests", "(I)Z"⟩, 12), (⟨"HullKeepersModel", "canDo", "(I)Z"⟩, 12), (⟨"HullKeepersModel", "countOf", "(I)I"⟩, 12), (⟨"HullKeepersModel", "mixed", "(JII)J"⟩, 12)]
theorem lw_r5 : ∀ q ∈ lw_privs_5, lw_okq q := List.forall_mem_cons.mpr ⟨lw_p64, List.forall_mem_cons.mpr ⟨lw_p65, List.forall_mem_cons.mpr ⟨lw_p66, List.forall_mem_cons.mpr ⟨lw_p67, List.forall_mem_cons.mpr ⟨lw_p68, List.forall_mem_cons.mpr ⟨lw_p69, List.forall_mem_cons.mpr ⟨lw_p70, List.forall_mem_cons.mpr ⟨lw_p71, List.forall_mem_cons.mpr ⟨lw_p72, List.forall_mem_cons.mpr ⟨lw_p73, fun _ h => absurd h List.not_mem_nil⟩⟩⟩⟩⟩⟩⟩⟩⟩⟩
def lw_privs : List (MethodName × Nat) := lw_privs_1 ++ (lw_privs_2 ++ (lw_privs_3 ++ (lw_privs_4 ++ (lw_privs_5))))
def lw_tbl : List Cond := k2_sels lw_privs ++ tables_1
theorem lw_privs_ok : ∀ q ∈ lw_privs, lw_okq q := by
  show ∀ q ∈ lw_privs_1 ++ (lw_privs_2 ++ (lw_privs_3 ++ (lw_privs_4 ++ (lw_privs_5)))), lw_okq q
  exact List.forall_mem_append.mpr ⟨lw_r1, List.forall_mem_append.mpr ⟨lw_r2, List.forall_mem_append.mpr ⟨lw_r3, List.forall_mem_append.mpr ⟨lw_r4, lw_r5⟩⟩⟩⟩
def hk_keep : Jvm.Cond → Bool
  | .privateMethod _ => false
  | .soleField _ _ => false
  | .superclass _ _ => false
  | .arrayOver _ => false
  | .methodLinkNest _ _ _ _ => false
  | _ => true
set_option maxRecDepth 100000 in
def hk_wl : List Jvm.Cond := lw_tbl.filter hk_keep
theorem hk_wl_in : ∀ w ∈ hk_wl, w ∈ lw_tbl := fun w h => (List.mem_filter.mp h).1
set_option maxRecDepth 100000 in
theorem hk_wl_good : hk_wl.all goodWord = true := by decide +kernel
theorem hk_sub {ws : List Jvm.Cond} (ps : List Nat) (h : ws = ps.filterMap (fun i => hk_wl[i]?)) : ∀ w ∈ ws, w ∈ hk_wl := by
  intro w hw
  rw [h] at hw
  obtain ⟨i, -, hi⟩ := List.mem_filterMap.mp hw
  exact List.mem_of_getElem? hi
def hk_C0 : String := "HullKeepers$Crew"
def hk_F0 : u_T := fun k => match k with
  | 0 => ("HullKeepers$Crew", "supply", "[I", true)
  | 1 => ("HullKeepers$Crew", "need", "[I", true)
  | 2 => ("HullKeepers$Crew", "set", "I", false)
  | _ => ("HullKeepers$Crew", "worth", "I", false)
def hk_t0 : Nat → FieldType := fun k => match k with
  | 0 => .array .int
  | 1 => .array .int
  | 2 => .int
  | _ => .int
set_option maxRecDepth 100000 in
theorem hk_uw0 : ∀ w ∈ u_ws hk_C0 hk_F0 4, w ∈ hk_wl := hk_sub [292, 293, 294, 295] (by decide +kernel)
def hk_C1 : String := "HullKeepers$House"
def hk_F1 : u_T := fun k => match k with
  | 0 => ("HullKeepers$House", "ships", "LHullKeepers$Table;", true)
  | 1 => ("HullKeepers$House", "plates", "LHullKeepers$Table;", true)
  | 2 => ("HullKeepers$House", "readings", "LHullKeepers$Table;", true)
  | 3 => ("HullKeepers$House", "gauges", "LHullKeepers$Table;", true)
  | 4 => ("HullKeepers$House", "texts", "LHullKeepers$Table;", true)
  | 5 => ("HullKeepers$House", "hulls", "LHullKeepers$Table;", true)
  | 6 => ("HullKeepers$House", "tests", "LHullKeepers$Table;", true)
  | 7 => ("HullKeepers$House", "hands", "LHullKeepers$Table;", true)
  | 8 => ("HullKeepers$House", "works", "LHullKeepers$Table;", true)
  | 9 => ("HullKeepers$House", "wears", "[I", true)
  | 10 => ("HullKeepers$House", "seas", "[I", true)
  | 11 => ("HullKeepers$House", "waves", "[I", true)
  | 12 => ("HullKeepers$House", "now", "I", false)
  | 13 => ("HullKeepers$House", "bound", "I", false)
  | 14 => ("HullKeepers$House", "wire", "I", false)
  | 15 => ("HullKeepers$House", "docks", "I", false)
  | _ => ("HullKeepers$House", "income", "I", false)
def hk_t1 : Nat → FieldType := fun k => match k with
  | 0 => .object "HullKeepers$Table"
  | 1 => .object "HullKeepers$Table"
  | 2 => .object "HullKeepers$Table"
  | 3 => .object "HullKeepers$Table"
  | 4 => .object "HullKeepers$Table"
  | 5 => .object "HullKeepers$Table"
  | 6 => .object "HullKeepers$Table"
  | 7 => .object "HullKeepers$Table"
  | 8 => .object "HullKeepers$Table"
  | 9 => .array .int
  | 10 => .array .int
  | 11 => .array .int
  | 12 => .int
  | 13 => .int
  | 14 => .int
  | 15 => .int
  | _ => .int
set_option maxRecDepth 100000 in
theorem hk_uw1 : ∀ w ∈ u_ws hk_C1 hk_F1 17, w ∈ hk_wl := hk_sub [185, 186, 187, 188, 189, 190, 191, 192, 193, 194, 195, 196, 197, 198, 199, 200, 201] (by decide +kernel)
def hk_C2 : String := "HullKeepers$LeakFinder"
def hk_F2 : u_T := fun k => match k with
  | 0 => ("HullKeepers$LeakFinder", "found", "I", false)
  | _ => ("HullKeepers$LeakFinder", "rivals", "I", false)
def hk_t2 : Nat → FieldType := fun k => match k with
  | 0 => .int
  | _ => .int
set_option maxRecDepth 100000 in
theorem hk_uw2 : ∀ w ∈ u_ws hk_C2 hk_F2 2, w ∈ hk_wl := hk_sub [278, 279] (by decide +kernel)
def hk_C3 : String := "HullKeepers$Planner"
def hk_F3 : u_T := fun k => match k with
  | 0 => ("HullKeepers$Planner", "needs", "[I", true)
  | 1 => ("HullKeepers$Planner", "strides", "[I", true)
  | 2 => ("HullKeepers$Planner", "steps", "[I", true)
  | 3 => ("HullKeepers$Planner", "coins", "[I", true)
  | 4 => ("HullKeepers$Planner", "chosen", "[I", true)
  | 5 => ("HullKeepers$Planner", "house", "LHullKeepers$House;", true)
  | 6 => ("HullKeepers$Planner", "bests", "[I", false)
  | 7 => ("HullKeepers$Planner", "states", "I", false)
  | 8 => ("HullKeepers$Planner", "years", "I", false)
  | 9 => ("HullKeepers$Planner", "letGo", "I", false)
  | 10 => ("HullKeepers$Planner", "dockings", "I", false)
  | _ => ("HullKeepers$Planner", "isMade", "Z", false)
def hk_t3 : Nat → FieldType := fun k => match k with
  | 0 => .array .int
  | 1 => .array .int
  | 2 => .array .int
  | 3 => .array .int
  | 4 => .array .int
  | 5 => .object "HullKeepers$House"
  | 6 => .array .int
  | 7 => .int
  | 8 => .int
  | 9 => .int
  | 10 => .int
  | _ => .boolean
set_option maxRecDepth 100000 in
theorem hk_uw3 : ∀ w ∈ u_ws hk_C3 hk_F3 12, w ∈ hk_wl := hk_sub [256, 257, 258, 259, 260, 261, 262, 263, 264, 265, 266, 267] (by decide +kernel)
def hk_C4 : String := "HullKeepers$Reader"
def hk_F4 : u_T := fun k => match k with
  | 0 => ("HullKeepers$Reader", "house", "LHullKeepers$House;", true)
  | 1 => ("HullKeepers$Reader", "text", "I", false)
  | 2 => ("HullKeepers$Reader", "plate", "I", false)
  | 3 => ("HullKeepers$Reader", "length", "I", false)
  | 4 => ("HullKeepers$Reader", "place", "I", false)
  | _ => ("HullKeepers$Reader", "flaw", "I", false)
def hk_t4 : Nat → FieldType := fun k => match k with
  | 0 => .object "HullKeepers$House"
  | 1 => .int
  | 2 => .int
  | 3 => .int
  | 4 => .int
  | _ => .int
set_option maxRecDepth 100000 in
theorem hk_uw4 : ∀ w ∈ u_ws hk_C4 hk_F4 6, w ∈ hk_wl := hk_sub [214, 215, 216, 217, 218, 219] (by decide +kernel)
def hk_C5 : String := "HullKeepers$Storms"
def hk_F5 : u_T := fun k => match k with
  | 0 => ("HullKeepers$Storms", "leaks", "[I", true)
  | 1 => ("HullKeepers$Storms", "water", "[I", true)
  | 2 => ("HullKeepers$Storms", "sank", "[I", true)
  | 3 => ("HullKeepers$Storms", "month", "I", false)
  | _ => ("HullKeepers$Storms", "sinking", "I", false)
def hk_t5 : Nat → FieldType := fun k => match k with
  | 0 => .array .int
  | 1 => .array .int
  | 2 => .array .int
  | 3 => .int
  | _ => .int
set_option maxRecDepth 100000 in
theorem hk_uw5 : ∀ w ∈ u_ws hk_C5 hk_F5 5, w ∈ hk_wl := hk_sub [233, 234, 235, 236, 237] (by decide +kernel)
def hk_C6 : String := "HullKeepers$Table"
def hk_F6 : u_T := fun k => match k with
  | 0 => ("HullKeepers$Table", "most", "I", true)
  | 1 => ("HullKeepers$Table", "columns", "I", true)
  | 2 => ("HullKeepers$Table", "cells", "[I", true)
  | _ => ("HullKeepers$Table", "rows", "I", false)
def hk_t6 : Nat → FieldType := fun k => match k with
  | 0 => .int
  | 1 => .int
  | 2 => .array .int
  | _ => .int
set_option maxRecDepth 100000 in
theorem hk_uw6 : ∀ w ∈ u_ws hk_C6 hk_F6 4, w ∈ hk_wl := hk_sub [121, 122, 123, 124] (by decide +kernel)
def hk_C7 : String := "HullKeepers"
def hk_F7 : u_T := fun k => match k with
  | 0 => ("HullKeepers", "house", "LHullKeepers$House;", true)
  | 1 => ("HullKeepers", "images", "[LHullKeepers$House;", true)
  | 2 => ("HullKeepers", "reader", "LHullKeepers$Reader;", true)
  | 3 => ("HullKeepers", "storms", "LHullKeepers$Storms;", true)
  | 4 => ("HullKeepers", "planner", "LHullKeepers$Planner;", true)
  | 5 => ("HullKeepers", "leakFinder", "LHullKeepers$LeakFinder;", true)
  | _ => ("HullKeepers", "crew", "LHullKeepers$Crew;", true)
def hk_t7 : Nat → FieldType := fun k => match k with
  | 0 => .object "HullKeepers$House"
  | 1 => .array (.object "HullKeepers$House")
  | 2 => .object "HullKeepers$Reader"
  | 3 => .object "HullKeepers$Storms"
  | 4 => .object "HullKeepers$Planner"
  | 5 => .object "HullKeepers$LeakFinder"
  | _ => .object "HullKeepers$Crew"
set_option maxRecDepth 100000 in
theorem hk_uw7 : ∀ w ∈ u_ws hk_C7 hk_F7 7, w ∈ hk_wl := hk_sub [303, 304, 305, 306, 307, 308, 309] (by decide +kernel)
def hk_C8 : String := "HullKeepersModel"
def hk_F8 : u_T := fun k => match k with
  | 0 => ("HullKeepersModel", "st", "[I", true)
  | 1 => ("HullKeepersModel", "kept", "[I", true)
  | 2 => ("HullKeepersModel", "images", "[I", true)
  | 3 => ("HullKeepersModel", "isKept", "[Z", true)
  | 4 => ("HullKeepersModel", "steps", "I", false)
  | 5 => ("HullKeepersModel", "step", "[I", true)
  | 6 => ("HullKeepersModel", "with", "[I", true)
  | 7 => ("HullKeepersModel", "waiting", "I", false)
  | 8 => ("HullKeepersModel", "waits", "[I", true)
  | 9 => ("HullKeepersModel", "value", "[J", true)
  | 10 => ("HullKeepersModel", "best", "[I", true)
  | _ => ("HullKeepersModel", "docked", "[I", true)
def hk_t8 : Nat → FieldType := fun k => match k with
  | 0 => .array .int
  | 1 => .array .int
  | 2 => .array .int
  | 3 => .array .boolean
  | 4 => .int
  | 5 => .array .int
  | 6 => .array .int
  | 7 => .int
  | 8 => .array .int
  | 9 => .array .long
  | 10 => .array .int
  | _ => .array .int
set_option maxRecDepth 100000 in
theorem hk_uw8 : ∀ w ∈ u_ws hk_C8 hk_F8 12, w ∈ hk_wl := hk_sub [829, 830, 831, 832, 833, 834, 835, 836, 837, 838, 839, 840] (by decide +kernel)
def hk_cls : List vw_C := [(hk_C0, hk_F0, 4), (hk_C1, hk_F1, 17), (hk_C2, hk_F2, 2), (hk_C3, hk_F3, 12), (hk_C4, hk_F4, 6), (hk_C5, hk_F5, 5), (hk_C6, hk_F6, 4), (hk_C7, hk_F7, 7), (hk_C8, hk_F8, 12)]
def hk_kdl : List (List Nat) := [[1, 1, 0, 0], [1, 1, 1, 1, 1, 1, 1, 1, 1, 1, 1, 1, 0, 0, 0, 0, 0], [0, 0], [1, 1, 1, 1, 1, 1, 1, 0, 0, 0, 0, 2], [1, 0, 0, 0, 0, 0], [1, 1, 1, 0, 0], [0, 0, 1, 0], [1, 1, 1, 1, 1, 1, 1], [1, 1, 1, 1, 0, 1, 1, 0, 1, 1, 1, 1]]
def hk_kd (a k : Nat) : Nat := ((hk_kdl[a]?).getD [])[k]?.getD 0
theorem hk_cok1 {ci : Nat} {C : String} {T : u_T} {N : Nat} {ty : Nat → FieldType} (h1 : ∀ w ∈ u_ws C T N, w ∈ hk_wl) (h2 : ∀ k, k < N → parseFieldDescriptor (T k).2.2.1 = some (ty k)) (h3 : ∀ k, k < N → (hk_kd ci k = 0 ∧ ty k = .int) ∨ (hk_kd ci k = 2 ∧ ty k = .boolean) ∨ (hk_kd ci k = 1 ∧ match ty k with | .object _ => True | .array _ => True | _ => False)) (h4 : ∀ a, a < N → ∀ b, b < N → a ≠ b → (T a).2.1 ≠ (T b).2.1) :
    (∀ w ∈ u_ws C T N, w ∈ hk_wl) ∧ (∃ ty : Nat → FieldType, (∀ k, k < N → parseFieldDescriptor (T k).2.2.1 = some (ty k)) ∧ ∀ k, k < N → (hk_kd ci k = 0 → ty k = .int) ∧ (hk_kd ci k = 1 → (∃ o, ty k = .object o) ∨ ∃ o, ty k = .array o) ∧ (hk_kd ci k = 2 → ty k = .boolean) ∧ hk_kd ci k ≤ 2) ∧ (∀ a, a < N → ∀ b, b < N → a ≠ b → (T a).2.1 ≠ (T b).2.1) := by
  refine ⟨h1, ⟨ty, h2, fun k hk => ?_⟩, h4⟩
  rcases h3 k hk with ⟨a, b⟩ | ⟨a, b⟩ | ⟨a, b⟩
  · exact ⟨fun _ => b, fun h => by omega, fun h => by omega, by omega⟩
  · exact ⟨fun h => by omega, fun h => by omega, fun _ => b, by omega⟩
  · refine ⟨fun h => by omega, fun _ => ?_, fun h => by omega, by omega⟩
    cases hty : ty k <;> rw [hty] at b <;> first | exact Or.inl ⟨_, rfl⟩ | exact Or.inr ⟨_, rfl⟩ | exact absurd b (by simp)
set_option maxRecDepth 100000 in
theorem hk_clsok : hk_Cok hk_cls hk_kd hk_wl := by
  intro ci q hq
  match ci, hq with
  | 0, hq => cases hq; exact hk_cok1 (ty := hk_t0) hk_uw0 (by decide +kernel) (fun k hk => by
      have hk : k < 4 := hk
      rcases (show k = 0 ∨ k = 1 ∨ k = 2 ∨ k = 3 by omega) with rfl | rfl | rfl | rfl <;> first | exact Or.inl ⟨rfl, rfl⟩ | exact Or.inr (Or.inl ⟨rfl, rfl⟩) | exact Or.inr (Or.inr ⟨rfl, trivial⟩)) (by decide +kernel)
  | 1, hq => cases hq; exact hk_cok1 (ty := hk_t1) hk_uw1 (by decide +kernel) (fun k hk => by
      have hk : k < 17 := hk
      rcases (show k = 0 ∨ k = 1 ∨ k = 2 ∨ k = 3 ∨ k = 4 ∨ k = 5 ∨ k = 6 ∨ k = 7 ∨ k = 8 ∨ k = 9 ∨ k = 10 ∨ k = 11 ∨ k = 12 ∨ k = 13 ∨ k = 14 ∨ k = 15 ∨ k = 16 by omega) with rfl | rfl | rfl | rfl | rfl | rfl | rfl | rfl | rfl | rfl | rfl | rfl | rfl | rfl | rfl | rfl | rfl <;> first | exact Or.inl ⟨rfl, rfl⟩ | exact Or.inr (Or.inl ⟨rfl, rfl⟩) | exact Or.inr (Or.inr ⟨rfl, trivial⟩)) (by decide +kernel)
  | 2, hq => cases hq; exact hk_cok1 (ty := hk_t2) hk_uw2 (by decide +kernel) (fun k hk => by
      have hk : k < 2 := hk
      rcases (show k = 0 ∨ k = 1 by omega) with rfl | rfl <;> first | exact Or.inl ⟨rfl, rfl⟩ | exact Or.inr (Or.inl ⟨rfl, rfl⟩) | exact Or.inr (Or.inr ⟨rfl, trivial⟩)) (by decide +kernel)
  | 3, hq => cases hq; exact hk_cok1 (ty := hk_t3) hk_uw3 (by decide +kernel) (fun k hk => by
      have hk : k < 12 := hk
      rcases (show k = 0 ∨ k = 1 ∨ k = 2 ∨ k = 3 ∨ k = 4 ∨ k = 5 ∨ k = 6 ∨ k = 7 ∨ k = 8 ∨ k = 9 ∨ k = 10 ∨ k = 11 by omega) with rfl | rfl | rfl | rfl | rfl | rfl | rfl | rfl | rfl | rfl | rfl | rfl <;> first | exact Or.inl ⟨rfl, rfl⟩ | exact Or.inr (Or.inl ⟨rfl, rfl⟩) | exact Or.inr (Or.inr ⟨rfl, trivial⟩)) (by decide +kernel)
  | 4, hq => cases hq; exact hk_cok1 (ty := hk_t4) hk_uw4 (by decide +kernel) (fun k hk => by
      have hk : k < 6 := hk
      rcases (show k = 0 ∨ k = 1 ∨ k = 2 ∨ k = 3 ∨ k = 4 ∨ k = 5 by omega) with rfl | rfl | rfl | rfl | rfl | rfl <;> first | exact Or.inl ⟨rfl, rfl⟩ | exact Or.inr (Or.inl ⟨rfl, rfl⟩) | exact Or.inr (Or.inr ⟨rfl, trivial⟩)) (by decide +kernel)
  | 5, hq => cases hq; exact hk_cok1 (ty := hk_t5) hk_uw5 (by decide +kernel) (fun k hk => by
      have hk : k < 5 := hk
      rcases (show k = 0 ∨ k = 1 ∨ k = 2 ∨ k = 3 ∨ k = 4 by omega) with rfl | rfl | rfl | rfl | rfl <;> first | exact Or.inl ⟨rfl, rfl⟩ | exact Or.inr (Or.inl ⟨rfl, rfl⟩) | exact Or.inr (Or.inr ⟨rfl, trivial⟩)) (by decide +kernel)
  | 6, hq => cases hq; exact hk_cok1 (ty := hk_t6) hk_uw6 (by decide +kernel) (fun k hk => by
      have hk : k < 4 := hk
      rcases (show k = 0 ∨ k = 1 ∨ k = 2 ∨ k = 3 by omega) with rfl | rfl | rfl | rfl <;> first | exact Or.inl ⟨rfl, rfl⟩ | exact Or.inr (Or.inl ⟨rfl, rfl⟩) | exact Or.inr (Or.inr ⟨rfl, trivial⟩)) (by decide +kernel)
  | 7, hq => cases hq; exact hk_cok1 (ty := hk_t7) hk_uw7 (by decide +kernel) (fun k hk => by
      have hk : k < 7 := hk
      rcases (show k = 0 ∨ k = 1 ∨ k = 2 ∨ k = 3 ∨ k = 4 ∨ k = 5 ∨ k = 6 by omega) with rfl | rfl | rfl | rfl | rfl | rfl | rfl <;> first | exact Or.inl ⟨rfl, rfl⟩ | exact Or.inr (Or.inl ⟨rfl, rfl⟩) | exact Or.inr (Or.inr ⟨rfl, trivial⟩)) (by decide +kernel)
  | 8, hq => cases hq; exact hk_cok1 (ty := hk_t8) hk_uw8 (by decide +kernel) (fun k hk => by
      have hk : k < 12 := hk
      rcases (show k = 0 ∨ k = 1 ∨ k = 2 ∨ k = 3 ∨ k = 4 ∨ k = 5 ∨ k = 6 ∨ k = 7 ∨ k = 8 ∨ k = 9 ∨ k = 10 ∨ k = 11 by omega) with rfl | rfl | rfl | rfl | rfl | rfl | rfl | rfl | rfl | rfl | rfl | rfl <;> first | exact Or.inl ⟨rfl, rfl⟩ | exact Or.inr (Or.inl ⟨rfl, rfl⟩) | exact Or.inr (Or.inr ⟨rfl, trivial⟩)) (by decide +kernel)
  | k + 9, hq => simp [hk_cls] at hq
def hk_shl : List hk_Sh := [(1, 7), (1, 1), (1, 6), (2, 54), (1, 6), (2, 576), (1, 6), (2, 750), (1, 6), (2, 12), (1, 6), (2, 244), (1, 6), (2, 12), (1, 6), (2, 40), (1, 6), (2, 16), (1, 6), (2, 24), (2, 3), (2, 600), (2, 90), (4, 2), (1, 4), (1, 5), (2, 360), (2, 6), (2, 6), (1, 3), (2, 4), (2, 4), (2, 16), (2, 16), (2, 10), (2, 0), (1, 2), (1, 0), (2, 32), (2, 5), (1, 8), (2, 2448), (2, 2448), (2, 4896), (3, 2), (2, 70), (2, 70), (2, 70), (5, 70), (2, 161051), (2, 4), (1, 1), (1, 6), (2, 54), (1, 6), (2, 576), (1, 6), (2, 750), (1, 6), (2, 12), (1, 6), (2, 244), (1, 6), (2, 12), (1, 6), (2, 40), (1, 6), (2, 16), (1, 6), (2, 24), (2, 3), (2, 600), (2, 90), (1, 1), (1, 6), (2, 54), (1, 6), (2, 576), (1, 6), (2, 750), (1, 6), (2, 12), (1, 6), (2, 244), (1, 6), (2, 12), (1, 6), (2, 40), (1, 6), (2, 16), (1, 6), (2, 24), (2, 3), (2, 600), (2, 90), (2, 100000), (6, 0)]
def hk_SH (p : Nat) : hk_Sh := (hk_shl[p]?).getD (0, 0)
