section
-- ===== PART A: goes FIRST, ahead of the names: the tables' words, and 'selects' of the private methods out of them =====
/-- a private method of a class that the tables say can be made, by its rows of tables_1 -/
def lw_okq (q : MethodName × Nat) : Prop := (q.1.cls ≠ "java/lang/invoke/MethodHandle" ∧ q.1.cls ≠ "java/lang/invoke/VarHandle") ∧ Cond.instantiable q.1.cls q.2 ∈ tables_1 ∧ Cond.privateMethod q.1 ∈ tables_1 ∧ Cond.instanceMethod q.1 ∈ tables_1
theorem lw_p0 : lw_okq (⟨"HullKeepers", "mayPass", "(I)Z"⟩, 7) := ⟨⟨by decide +kernel, by decide +kernel⟩, List.mem_of_getElem? (i := 15) (by decide +kernel), List.mem_of_getElem? (i := 374) (by decide +kernel), List.mem_of_getElem? (i := 375) (by decide +kernel)⟩
theorem lw_p1 : lw_okq (⟨"HullKeepers$House", "passMonth", "()I"⟩, 17) := ⟨⟨by decide +kernel, by decide +kernel⟩, List.mem_of_getElem? (i := 23) (by decide +kernel), List.mem_of_getElem? (i := 382) (by decide +kernel), List.mem_of_getElem? (i := 383) (by decide +kernel)⟩
theorem lw_p2 : lw_okq (⟨"HullKeepers$House", "wearPlates", "(I)V"⟩, 17) := ⟨⟨by decide +kernel, by decide +kernel⟩, List.mem_of_getElem? (i := 23) (by decide +kernel), List.mem_of_getElem? (i := 411) (by decide +kernel), List.mem_of_getElem? (i := 412) (by decide +kernel)⟩
theorem lw_p3 : lw_okq (⟨"HullKeepers$Reader", "value", "(I)J"⟩, 6) := ⟨⟨by decide +kernel, by decide +kernel⟩, List.mem_of_getElem? (i := 153) (by decide +kernel), List.mem_of_getElem? (i := 454) (by decide +kernel), List.mem_of_getElem? (i := 455) (by decide +kernel)⟩
theorem lw_p4 : lw_okq (⟨"HullKeepers$Reader", "both", "(I)J"⟩, 6) := ⟨⟨by decide +kernel, by decide +kernel⟩, List.mem_of_getElem? (i := 153) (by decide +kernel), List.mem_of_getElem? (i := 458) (by decide +kernel), List.mem_of_getElem? (i := 459) (by decide +kernel)⟩
theorem lw_p5 : lw_okq (⟨"HullKeepers$Reader", "held", "(I)J"⟩, 6) := ⟨⟨by decide +kernel, by decide +kernel⟩, List.mem_of_getElem? (i := 153) (by decide +kernel), List.mem_of_getElem? (i := 462) (by decide +kernel), List.mem_of_getElem? (i := 463) (by decide +kernel)⟩
theorem lw_p6 : lw_okq (⟨"HullKeepers$Reader", "sum", "(I)J"⟩, 6) := ⟨⟨by decide +kernel, by decide +kernel⟩, List.mem_of_getElem? (i := 153) (by decide +kernel), List.mem_of_getElem? (i := 466) (by decide +kernel), List.mem_of_getElem? (i := 467) (by decide +kernel)⟩
theorem lw_p7 : lw_okq (⟨"HullKeepers$Reader", "term", "(I)J"⟩, 6) := ⟨⟨by decide +kernel, by decide +kernel⟩, List.mem_of_getElem? (i := 153) (by decide +kernel), List.mem_of_getElem? (i := 470) (by decide +kernel), List.mem_of_getElem? (i := 471) (by decide +kernel)⟩
theorem lw_p8 : lw_okq (⟨"HullKeepers$Reader", "unit", "(I)J"⟩, 6) := ⟨⟨by decide +kernel, by decide +kernel⟩, List.mem_of_getElem? (i := 153) (by decide +kernel), List.mem_of_getElem? (i := 474) (by decide +kernel), List.mem_of_getElem? (i := 475) (by decide +kernel)⟩
theorem lw_p9 : lw_okq (⟨"HullKeepers$Reader", "peek", "()I"⟩, 6) := ⟨⟨by decide +kernel, by decide +kernel⟩, List.mem_of_getElem? (i := 153) (by decide +kernel), List.mem_of_getElem? (i := 478) (by decide +kernel), List.mem_of_getElem? (i := 479) (by decide +kernel)⟩
theorem lw_p10 : lw_okq (⟨"HullKeepers$Reader", "signAt", "(I)I"⟩, 6) := ⟨⟨by decide +kernel, by decide +kernel⟩, List.mem_of_getElem? (i := 153) (by decide +kernel), List.mem_of_getElem? (i := 486) (by decide +kernel), List.mem_of_getElem? (i := 487) (by decide +kernel)⟩
theorem lw_p11 : lw_okq (⟨"HullKeepers$Reader", "core", "(I)J"⟩, 6) := ⟨⟨by decide +kernel, by decide +kernel⟩, List.mem_of_getElem? (i := 153) (by decide +kernel), List.mem_of_getElem? (i := 490) (by decide +kernel), List.mem_of_getElem? (i := 491) (by decide +kernel)⟩
theorem lw_p12 : lw_okq (⟨"HullKeepers$Reader", "digits", "()J"⟩, 6) := ⟨⟨by decide +kernel, by decide +kernel⟩, List.mem_of_getElem? (i := 153) (by decide +kernel), List.mem_of_getElem? (i := 494) (by decide +kernel), List.mem_of_getElem? (i := 495) (by decide +kernel)⟩
theorem lw_p13 : lw_okq (⟨"HullKeepers$Reader", "fail", "(II)V"⟩, 6) := ⟨⟨by decide +kernel, by decide +kernel⟩, List.mem_of_getElem? (i := 153) (by decide +kernel), List.mem_of_getElem? (i := 499) (by decide +kernel), List.mem_of_getElem? (i := 500) (by decide +kernel)⟩
theorem lw_p14 : lw_okq (⟨"HullKeepers$Reader", "inside", "(I)J"⟩, 6) := ⟨⟨by decide +kernel, by decide +kernel⟩, List.mem_of_getElem? (i := 153) (by decide +kernel), List.mem_of_getElem? (i := 503) (by decide +kernel), List.mem_of_getElem? (i := 504) (by decide +kernel)⟩
theorem lw_p15 : lw_okq (⟨"HullKeepers$Reader", "letter", "(I)J"⟩, 6) := ⟨⟨by decide +kernel, by decide +kernel⟩, List.mem_of_getElem? (i := 153) (by decide +kernel), List.mem_of_getElem? (i := 507) (by decide +kernel), List.mem_of_getElem? (i := 508) (by decide +kernel)⟩
def lw_privs_1 : List (MethodName × Nat) := [(⟨"HullKeepers", "mayPass", "(I)Z"⟩, 7), (⟨"HullKeepers$House", "passMonth", "()I"⟩, 17), (⟨"HullKeepers$House", "wearPlates", "(I)V"⟩, 17), (⟨"HullKeepers$Reader", "value", "(I)J"⟩, 6), (⟨"HullKeepers$Reader", "both", "(I)J"⟩, 6), (⟨"HullKeepers$Reader", "held", "(I)J"⟩, 6), (⟨"HullKeepers$Reader", "sum", "(I)J"⟩, 6), (⟨"HullKeepers$Reader", "term", "(I)J"⟩, 6), (⟨"HullKeepers$Reader", "unit", "(I)J"⟩, 6), (⟨"HullKeepers$Reader", "peek", "()I"⟩, 6), (⟨"HullKeepers$Reader", "signAt", "(I)I"⟩, 6), (⟨"HullKeepers$Reader", "core", "(I)J"⟩, 6), (⟨"HullKeepers$Reader", "digits", "()J"⟩, 6), (⟨"HullKeepers$Reader", "fail", "(II)V"⟩, 6), (⟨"HullKeepers$Reader", "inside", "(I)J"⟩, 6), (⟨"HullKeepers$Reader", "letter", "(I)J"⟩, 6)]
theorem lw_r1 : ∀ q ∈ lw_privs_1, lw_okq q := List.forall_mem_cons.mpr ⟨lw_p0, List.forall_mem_cons.mpr ⟨lw_p1, List.forall_mem_cons.mpr ⟨lw_p2, List.forall_mem_cons.mpr ⟨lw_p3, List.forall_mem_cons.mpr ⟨lw_p4, List.forall_mem_cons.mpr ⟨lw_p5, List.forall_mem_cons.mpr ⟨lw_p6, List.forall_mem_cons.mpr ⟨lw_p7, List.forall_mem_cons.mpr ⟨lw_p8, List.forall_mem_cons.mpr ⟨lw_p9, List.forall_mem_cons.mpr ⟨lw_p10, List.forall_mem_cons.mpr ⟨lw_p11, List.forall_mem_cons.mpr ⟨lw_p12, List.forall_mem_cons.mpr ⟨lw_p13, List.forall_mem_cons.mpr ⟨lw_p14, List.forall_mem_cons.mpr ⟨lw_p15, fun _ h => absurd h List.not_mem_nil⟩⟩⟩⟩⟩⟩⟩⟩⟩⟩⟩⟩⟩⟩⟩⟩
theorem lw_p16 : lw_okq (⟨"HullKeepers$House", "latest", "(III)I"⟩, 17) := ⟨⟨by decide +kernel, by decide +kernel⟩, List.mem_of_getElem? (i := 23) (by decide +kernel), List.mem_of_getElem? (i := 536) (by decide +kernel), List.mem_of_getElem? (i := 537) (by decide +kernel)⟩
theorem lw_p17 : lw_okq (⟨"HullKeepers$House", "corrected", "(II)J"⟩, 17) := ⟨⟨by decide +kernel, by decide +kernel⟩, List.mem_of_getElem? (i := 23) (by decide +kernel), List.mem_of_getElem? (i := 541) (by decide +kernel), List.mem_of_getElem? (i := 542) (by decide +kernel)⟩
theorem lw_p18 : lw_okq (⟨"HullKeepers$Planner", "layOut", "()V"⟩, 12) := ⟨⟨by decide +kernel, by decide +kernel⟩, List.mem_of_getElem? (i := 202) (by decide +kernel), List.mem_of_getElem? (i := 621) (by decide +kernel), List.mem_of_getElem? (i := 622) (by decide +kernel)⟩
theorem lw_p19 : lw_okq (⟨"HullKeepers$Planner", "usefulDockings", "(I)I"⟩, 12) := ⟨⟨by decide +kernel, by decide +kernel⟩, List.mem_of_getElem? (i := 202) (by decide +kernel), List.mem_of_getElem? (i := 625) (by decide +kernel), List.mem_of_getElem? (i := 626) (by decide +kernel)⟩
theorem lw_p20 : lw_okq (⟨"HullKeepers$Planner", "leastBest", "(II)I"⟩, 12) := ⟨⟨by decide +kernel, by decide +kernel⟩, List.mem_of_getElem? (i := 202) (by decide +kernel), List.mem_of_getElem? (i := 639) (by decide +kernel), List.mem_of_getElem? (i := 640) (by decide +kernel)⟩
theorem lw_p21 : lw_okq (⟨"HullKeepers$Planner", "best", "(II)I"⟩, 12) := ⟨⟨by decide +kernel, by decide +kernel⟩, List.mem_of_getElem? (i := 202) (by decide +kernel), List.mem_of_getElem? (i := 643) (by decide +kernel), List.mem_of_getElem? (i := 644) (by decide +kernel)⟩
theorem lw_p22 : lw_okq (⟨"HullKeepers$Planner", "worthOf", "(I)I"⟩, 12) := ⟨⟨by decide +kernel, by decide +kernel⟩, List.mem_of_getElem? (i := 202) (by decide +kernel), List.mem_of_getElem? (i := 647) (by decide +kernel), List.mem_of_getElem? (i := 648) (by decide +kernel)⟩
theorem lw_p23 : lw_okq (⟨"HullKeepers$Planner", "floatsTill", "(II)I"⟩, 12) := ⟨⟨by decide +kernel, by decide +kernel⟩, List.mem_of_getElem? (i := 202) (by decide +kernel), List.mem_of_getElem? (i := 651) (by decide +kernel), List.mem_of_getElem? (i := 652) (by decide +kernel)⟩
theorem lw_p24 : lw_okq (⟨"HullKeepers$Planner", "timesDocked", "(II)I"⟩, 12) := ⟨⟨by decide +kernel, by decide +kernel⟩, List.mem_of_getElem? (i := 202) (by decide +kernel), List.mem_of_getElem? (i := 655) (by decide +kernel), List.mem_of_getElem? (i := 656) (by decide +kernel)⟩
theorem lw_p25 : lw_okq (⟨"HullKeepers$Planner", "workedOut", "(II)I"⟩, 12) := ⟨⟨by decide +kernel, by decide +kernel⟩, List.mem_of_getElem? (i := 202) (by decide +kernel), List.mem_of_getElem? (i := 659) (by decide +kernel), List.mem_of_getElem? (i := 660) (by decide +kernel)⟩
theorem lw_p26 : lw_okq (⟨"HullKeepers$Planner", "dockable", "(II)I"⟩, 12) := ⟨⟨by decide +kernel, by decide +kernel⟩, List.mem_of_getElem? (i := 202) (by decide +kernel), List.mem_of_getElem? (i := 663) (by decide +kernel), List.mem_of_getElem? (i := 664) (by decide +kernel)⟩
theorem lw_p27 : lw_okq (⟨"HullKeepers$Planner", "coinLeft", "(II)I"⟩, 12) := ⟨⟨by decide +kernel, by decide +kernel⟩, List.mem_of_getElem? (i := 202) (by decide +kernel), List.mem_of_getElem? (i := 667) (by decide +kernel), List.mem_of_getElem? (i := 668) (by decide +kernel)⟩
theorem lw_p28 : lw_okq (⟨"HullKeepers$Planner", "mayDock", "(III)Z"⟩, 12) := ⟨⟨by decide +kernel, by decide +kernel⟩, List.mem_of_getElem? (i := 202) (by decide +kernel), List.mem_of_getElem? (i := 671) (by decide +kernel), List.mem_of_getElem? (i := 672) (by decide +kernel)⟩
theorem lw_p29 : lw_okq (⟨"HullKeepers$Planner", "sumUp", "(I)V"⟩, 12) := ⟨⟨by decide +kernel, by decide +kernel⟩, List.mem_of_getElem? (i := 202) (by decide +kernel), List.mem_of_getElem? (i := 681) (by decide +kernel), List.mem_of_getElem? (i := 682) (by decide +kernel)⟩
theorem lw_p30 : lw_okq (⟨"HullKeepers$LeakFinder", "isNoLarger", "(I)Z"⟩, 2) := ⟨⟨by decide +kernel, by decide +kernel⟩, List.mem_of_getElem? (i := 245) (by decide +kernel), List.mem_of_getElem? (i := 717) (by decide +kernel), List.mem_of_getElem? (i := 718) (by decide +kernel)⟩
theorem lw_p31 : lw_okq (⟨"HullKeepers$Crew", "supplyAll", "(LHullKeepers$Table;)V"⟩, 4) := ⟨⟨by decide +kernel, by decide +kernel⟩, List.mem_of_getElem? (i := 260) (by decide +kernel), List.mem_of_getElem? (i := 749) (by decide +kernel), List.mem_of_getElem? (i := 750) (by decide +kernel)⟩
def lw_privs_2 : List (MethodName × Nat) := [(⟨"HullKeepers$House", "latest", "(III)I"⟩, 17), (⟨"HullKeepers$House", "corrected", "(II)J"⟩, 17), (⟨"HullKeepers$Planner", "layOut", "()V"⟩, 12), (⟨"HullKeepers$Planner", "usefulDockings", "(I)I"⟩, 12), (⟨"HullKeepers$Planner", "leastBest", "(II)I"⟩, 12), (⟨"HullKeepers$Planner", "best", "(II)I"⟩, 12), (⟨"HullKeepers$Planner", "worthOf", "(I)I"⟩, 12), (⟨"HullKeepers$Planner", "floatsTill", "(II)I"⟩, 12), (⟨"HullKeepers$Planner", "timesDocked", "(II)I"⟩, 12), (⟨"HullKeepers$Planner", "workedOut", "(II)I"⟩, 12), (⟨"HullKeepers$Planner", "dockable", "(II)I"⟩, 12), (⟨"HullKeepers$Planner", "coinLeft", "(II)I"⟩, 12), (⟨"HullKeepers$Planner", "mayDock", "(III)Z"⟩, 12), (⟨"HullKeepers$Planner", "sumUp", "(I)V"⟩, 12), (⟨"HullKeepers$LeakFinder", "isNoLarger", "(I)Z"⟩, 2), (⟨"HullKeepers$Crew", "supplyAll", "(LHullKeepers$Table;)V"⟩, 4)]
theorem lw_r2 : ∀ q ∈ lw_privs_2, lw_okq q := List.forall_mem_cons.mpr ⟨lw_p16, List.forall_mem_cons.mpr ⟨lw_p17, List.forall_mem_cons.mpr ⟨lw_p18, List.forall_mem_cons.mpr ⟨lw_p19, List.forall_mem_cons.mpr ⟨lw_p20, List.forall_mem_cons.mpr ⟨lw_p21, List.forall_mem_cons.mpr ⟨lw_p22, List.forall_mem_cons.mpr ⟨lw_p23, List.forall_mem_cons.mpr ⟨lw_p24, List.forall_mem_cons.mpr ⟨lw_p25, List.forall_mem_cons.mpr ⟨lw_p26, List.forall_mem_cons.mpr ⟨lw_p27, List.forall_mem_cons.mpr ⟨lw_p28, List.forall_mem_cons.mpr ⟨lw_p29, List.forall_mem_cons.mpr ⟨lw_p30, List.forall_mem_cons.mpr ⟨lw_p31, fun _ h => absurd h List.not_mem_nil⟩⟩⟩⟩⟩⟩⟩⟩⟩⟩⟩⟩⟩⟩⟩⟩
theorem lw_p32 : lw_okq (⟨"HullKeepers$Crew", "canDo", "(LHullKeepers$Table;I)Z"⟩, 4) := ⟨⟨by decide +kernel, by decide +kernel⟩, List.mem_of_getElem? (i := 260) (by decide +kernel), List.mem_of_getElem? (i := 757) (by decide +kernel), List.mem_of_getElem? (i := 758) (by decide +kernel)⟩
theorem lw_p33 : lw_okq (⟨"HullKeepers$Crew", "needAll", "(LHullKeepers$Table;I)V"⟩, 4) := ⟨⟨by decide +kernel, by decide +kernel⟩, List.mem_of_getElem? (i := 260) (by decide +kernel), List.mem_of_getElem? (i := 761) (by decide +kernel), List.mem_of_getElem? (i := 762) (by decide +kernel)⟩
theorem lw_p34 : lw_okq (⟨"HullKeepers$Storms", "sinkingWith", "(LHullKeepers$House;III)I"⟩, 5) := ⟨⟨by decide +kernel, by decide +kernel⟩, List.mem_of_getElem? (i := 178) (by decide +kernel), List.mem_of_getElem? (i := 779) (by decide +kernel), List.mem_of_getElem? (i := 780) (by decide +kernel)⟩
theorem lw_p35 : lw_okq (⟨"HullKeepers$Storms", "pass", "(LHullKeepers$House;II)I"⟩, 5) := ⟨⟨by decide +kernel, by decide +kernel⟩, List.mem_of_getElem? (i := 178) (by decide +kernel), List.mem_of_getElem? (i := 784) (by decide +kernel), List.mem_of_getElem? (i := 785) (by decide +kernel)⟩
theorem lw_p36 : lw_okq (⟨"HullKeepers$House", "sunkShips", "()I"⟩, 17) := ⟨⟨by decide +kernel, by decide +kernel⟩, List.mem_of_getElem? (i := 23) (by decide +kernel), List.mem_of_getElem? (i := 819) (by decide +kernel), List.mem_of_getElem? (i := 820) (by decide +kernel)⟩
theorem lw_p37 : lw_okq (⟨"HullKeepersModel", "one", "(I)I"⟩, 12) := ⟨⟨by decide +kernel, by decide +kernel⟩, List.mem_of_getElem? (i := 842) (by decide +kernel), List.mem_of_getElem? (i := 897) (by decide +kernel), List.mem_of_getElem? (i := 898) (by decide +kernel)⟩
theorem lw_p38 : lw_okq (⟨"HullKeepersModel", "is", "(II)Z"⟩, 12) := ⟨⟨by decide +kernel, by decide +kernel⟩, List.mem_of_getElem? (i := 842) (by decide +kernel), List.mem_of_getElem? (i := 905) (by decide +kernel), List.mem_of_getElem? (i := 906) (by decide +kernel)⟩
theorem lw_p39 : lw_okq (⟨"HullKeepersModel", "plateOf", "(II)I"⟩, 12) := ⟨⟨by decide +kernel, by decide +kernel⟩, List.mem_of_getElem? (i := 842) (by decide +kernel), List.mem_of_getElem? (i := 913) (by decide +kernel), List.mem_of_getElem? (i := 914) (by decide +kernel)⟩
theorem lw_p40 : lw_okq (⟨"HullKeepersModel", "shipOf", "(II)I"⟩, 12) := ⟨⟨by decide +kernel, by decide +kernel⟩, List.mem_of_getElem? (i := 842) (by decide +kernel), List.mem_of_getElem? (i := 917) (by decide +kernel), List.mem_of_getElem? (i := 918) (by decide +kernel)⟩
theorem lw_p41 : lw_okq (⟨"HullKeepersModel", "puts", "(II)I"⟩, 12) := ⟨⟨by decide +kernel, by decide +kernel⟩, List.mem_of_getElem? (i := 842) (by decide +kernel), List.mem_of_getElem? (i := 925) (by decide +kernel), List.mem_of_getElem? (i := 926) (by decide +kernel)⟩
theorem lw_p42 : lw_okq (⟨"HullKeepersModel", "isAhead", "(I)Z"⟩, 12) := ⟨⟨by decide +kernel, by decide +kernel⟩, List.mem_of_getElem? (i := 842) (by decide +kernel), List.mem_of_getElem? (i := 950) (by decide +kernel), List.mem_of_getElem? (i := 951) (by decide +kernel)⟩
theorem lw_p43 : lw_okq (⟨"HullKeepersModel", "goes", "()I"⟩, 12) := ⟨⟨by decide +kernel, by decide +kernel⟩, List.mem_of_getElem? (i := 842) (by decide +kernel), List.mem_of_getElem? (i := 954) (by decide +kernel), List.mem_of_getElem? (i := 955) (by decide +kernel)⟩
theorem lw_p44 : lw_okq (⟨"HullKeepersModel", "leaksOf", "(I)I"⟩, 12) := ⟨⟨by decide +kernel, by decide +kernel⟩, List.mem_of_getElem? (i := 842) (by decide +kernel), List.mem_of_getElem? (i := 958) (by decide +kernel), List.mem_of_getElem? (i := 959) (by decide +kernel)⟩
theorem lw_p45 : lw_okq (⟨"HullKeepersModel", "leakOf", "(I)I"⟩, 12) := ⟨⟨by decide +kernel, by decide +kernel⟩, List.mem_of_getElem? (i := 842) (by decide +kernel), List.mem_of_getElem? (i := 962) (by decide +kernel), List.mem_of_getElem? (i := 963) (by decide +kernel)⟩
theorem lw_p46 : lw_okq (⟨"HullKeepersModel", "lies", "(I)I"⟩, 12) := ⟨⟨by decide +kernel, by decide +kernel⟩, List.mem_of_getElem? (i := 842) (by decide +kernel), List.mem_of_getElem? (i := 966) (by decide +kernel), List.mem_of_getElem? (i := 967) (by decide +kernel)⟩
theorem lw_p47 : lw_okq (⟨"HullKeepersModel", "shipTold", "(II)I"⟩, 12) := ⟨⟨by decide +kernel, by decide +kernel⟩, List.mem_of_getElem? (i := 842) (by decide +kernel), List.mem_of_getElem? (i := 974) (by decide +kernel), List.mem_of_getElem? (i := 975) (by decide +kernel)⟩
def lw_privs_3 : List (MethodName × Nat) := [(⟨"HullKeepers$Crew", "canDo", "(LHullKeepers$Table;I)Z"⟩, 4), (⟨"HullKeepers$Crew", "needAll", "(LHullKeepers$Table;I)V"⟩, 4), (⟨"HullKeepers$Storms", "sinkingWith", "(LHullKeepers$House;III)I"⟩, 5), (⟨"HullKeepers$Storms", "pass", "(LHullKeepers$House;II)I"⟩, 5), (⟨"HullKeepers$House", "sunkShips", "()I"⟩, 17), (⟨"HullKeepersModel", "one", "(I)I"⟩, 12), (⟨"HullKeepersModel", "is", "(II)Z"⟩, 12), (⟨"HullKeepersModel", "plateOf", "(II)I"⟩, 12), (⟨"HullKeepersModel", "shipOf", "(II)I"⟩, 12), (⟨"HullKeepersModel", "puts", "(II)I"⟩, 12), (⟨"HullKeepersModel", "isAhead", "(I)Z"⟩, 12), (⟨"HullKeepersModel", "goes", "()I"⟩, 12), (⟨"HullKeepersModel", "leaksOf", "(I)I"⟩, 12), (⟨"HullKeepersModel", "leakOf", "(I)I"⟩, 12), (⟨"HullKeepersModel", "lies", "(I)I"⟩, 12), (⟨"HullKeepersModel", "shipTold", "(II)I"⟩, 12)]
theorem lw_r3 : ∀ q ∈ lw_privs_3, lw_okq q := List.forall_mem_cons.mpr ⟨lw_p32, List.forall_mem_cons.mpr ⟨lw_p33, List.forall_mem_cons.mpr ⟨lw_p34, List.forall_mem_cons.mpr ⟨lw_p35, List.forall_mem_cons.mpr ⟨lw_p36, List.forall_mem_cons.mpr ⟨lw_p37, List.forall_mem_cons.mpr ⟨lw_p38, List.forall_mem_cons.mpr ⟨lw_p39, List.forall_mem_cons.mpr ⟨lw_p40, List.forall_mem_cons.mpr ⟨lw_p41, List.forall_mem_cons.mpr ⟨lw_p42, List.forall_mem_cons.mpr ⟨lw_p43, List.forall_mem_cons.mpr ⟨lw_p44, List.forall_mem_cons.mpr ⟨lw_p45, List.forall_mem_cons.mpr ⟨lw_p46, List.forall_mem_cons.mpr ⟨lw_p47, fun _ h => absurd h List.not_mem_nil⟩⟩⟩⟩⟩⟩⟩⟩⟩⟩⟩⟩⟩⟩⟩⟩
theorem lw_p48 : lw_okq (⟨"HullKeepersModel", "platesOf", "(I)I"⟩, 12) := ⟨⟨by decide +kernel, by decide +kernel⟩, List.mem_of_getElem? (i := 842) (by decide +kernel), List.mem_of_getElem? (i := 978) (by decide +kernel), List.mem_of_getElem? (i := 979) (by decide +kernel)⟩
theorem lw_p49 : lw_okq (⟨"HullKeepersModel", "firstStuff", "(I)I"⟩, 12) := ⟨⟨by decide +kernel, by decide +kernel⟩, List.mem_of_getElem? (i := 842) (by decide +kernel), List.mem_of_getElem? (i := 982) (by decide +kernel), List.mem_of_getElem? (i := 983) (by decide +kernel)⟩
theorem lw_p50 : lw_okq (⟨"HullKeepersModel", "isTruth", "(II)Z"⟩, 12) := ⟨⟨by decide +kernel, by decide +kernel⟩, List.mem_of_getElem? (i := 842) (by decide +kernel), List.mem_of_getElem? (i := 994) (by decide +kernel), List.mem_of_getElem? (i := 995) (by decide +kernel)⟩
theorem lw_p51 : lw_okq (⟨"HullKeepersModel", "reads", "(I)I"⟩, 12) := ⟨⟨by decide +kernel, by decide +kernel⟩, List.mem_of_getElem? (i := 842) (by decide +kernel), List.mem_of_getElem? (i := 998) (by decide +kernel), List.mem_of_getElem? (i := 999) (by decide +kernel)⟩
theorem lw_p52 : lw_okq (⟨"HullKeepersModel", "settles", "(I)V"⟩, 12) := ⟨⟨by decide +kernel, by decide +kernel⟩, List.mem_of_getElem? (i := 842) (by decide +kernel), List.mem_of_getElem? (i := 1002) (by decide +kernel), List.mem_of_getElem? (i := 1003) (by decide +kernel)⟩
theorem lw_p53 : lw_okq (⟨"HullKeepersModel", "emits", "(II)V"⟩, 12) := ⟨⟨by decide +kernel, by decide +kernel⟩, List.mem_of_getElem? (i := 842) (by decide +kernel), List.mem_of_getElem? (i := 1009) (by decide +kernel), List.mem_of_getElem? (i := 1010) (by decide +kernel)⟩
theorem lw_p54 : lw_okq (⟨"HullKeepersModel", "goesOn", "(I)Z"⟩, 12) := ⟨⟨by decide +kernel, by decide +kernel⟩, List.mem_of_getElem? (i := 842) (by decide +kernel), List.mem_of_getElem? (i := 1016) (by decide +kernel), List.mem_of_getElem? (i := 1017) (by decide +kernel)⟩
theorem lw_p55 : lw_okq (⟨"HullKeepersModel", "waitsWith", "(I)V"⟩, 12) := ⟨⟨by decide +kernel, by decide +kernel⟩, List.mem_of_getElem? (i := 842) (by decide +kernel), List.mem_of_getElem? (i := 1020) (by decide +kernel), List.mem_of_getElem? (i := 1021) (by decide +kernel)⟩
theorem lw_p56 : lw_okq (⟨"HullKeepersModel", "tellsOf", "(I)J"⟩, 12) := ⟨⟨by decide +kernel, by decide +kernel⟩, List.mem_of_getElem? (i := 842) (by decide +kernel), List.mem_of_getElem? (i := 1027) (by decide +kernel), List.mem_of_getElem? (i := 1028) (by decide +kernel)⟩
theorem lw_p57 : lw_okq (⟨"HullKeepersModel", "named", "(II)J"⟩, 12) := ⟨⟨by decide +kernel, by decide +kernel⟩, List.mem_of_getElem? (i := 842) (by decide +kernel), List.mem_of_getElem? (i := 1031) (by decide +kernel), List.mem_of_getElem? (i := 1032) (by decide +kernel)⟩
theorem lw_p58 : lw_okq (⟨"HullKeepersModel", "latest", "(III)I"⟩, 12) := ⟨⟨by decide +kernel, by decide +kernel⟩, List.mem_of_getElem? (i := 842) (by decide +kernel), List.mem_of_getElem? (i := 1064) (by decide +kernel), List.mem_of_getElem? (i := 1065) (by decide +kernel)⟩
theorem lw_p59 : lw_okq (⟨"HullKeepersModel", "worn", "(III)I"⟩, 12) := ⟨⟨by decide +kernel, by decide +kernel⟩, List.mem_of_getElem? (i := 842) (by decide +kernel), List.mem_of_getElem? (i := 1068) (by decide +kernel), List.mem_of_getElem? (i := 1069) (by decide +kernel)⟩
theorem lw_p60 : lw_okq (⟨"HullKeepersModel", "leant", "(II)I"⟩, 12) := ⟨⟨by decide +kernel, by decide +kernel⟩, List.mem_of_getElem? (i := 842) (by decide +kernel), List.mem_of_getElem? (i := 1072) (by decide +kernel), List.mem_of_getElem? (i := 1073) (by decide +kernel)⟩
theorem lw_p61 : lw_okq (⟨"HullKeepersModel", "dueOf", "(II)I"⟩, 12) := ⟨⟨by decide +kernel, by decide +kernel⟩, List.mem_of_getElem? (i := 842) (by decide +kernel), List.mem_of_getElem? (i := 1080) (by decide +kernel), List.mem_of_getElem? (i := 1081) (by decide +kernel)⟩
theorem lw_p62 : lw_okq (⟨"HullKeepersModel", "findBest", "()V"⟩, 12) := ⟨⟨by decide +kernel, by decide +kernel⟩, List.mem_of_getElem? (i := 842) (by decide +kernel), List.mem_of_getElem? (i := 1129) (by decide +kernel), List.mem_of_getElem? (i := 1130) (by decide +kernel)⟩
theorem lw_p63 : lw_okq (⟨"HullKeepersModel", "findDocked", "(I)V"⟩, 12) := ⟨⟨by decide +kernel, by decide +kernel⟩, List.mem_of_getElem? (i := 842) (by decide +kernel), List.mem_of_getElem? (i := 1134) (by decide +kernel), List.mem_of_getElem? (i := 1135) (by decide +kernel)⟩
def lw_privs_4 : List (MethodName × Nat) := [(⟨"HullKeepersModel", "platesOf", "(I)I"⟩, 12), (⟨"HullKeepersModel", "firstStuff", "(I)I"⟩, 12), (⟨"HullKeepersModel", "isTruth", "(II)Z"⟩, 12), (⟨"HullKeepersModel", "reads", "(I)I"⟩, 12), (⟨"HullKeepersModel", "settles", "(I)V"⟩, 12), (⟨"HullKeepersModel", "emits", "(II)V"⟩, 12), (⟨"HullKeepersModel", "goesOn", "(I)Z"⟩, 12), (⟨"HullKeepersModel", "waitsWith", "(I)V"⟩, 12), (⟨"HullKeepersModel", "tellsOf", "(I)J"⟩, 12), (⟨"HullKeepersModel", "named", "(II)J"⟩, 12), (⟨"HullKeepersModel", "latest", "(III)I"⟩, 12), (⟨"HullKeepersModel", "worn", "(III)I"⟩, 12), (⟨"HullKeepersModel", "leant", "(II)I"⟩, 12), (⟨"HullKeepersModel", "dueOf", "(II)I"⟩, 12), (⟨"HullKeepersModel", "findBest", "()V"⟩, 12), (⟨"HullKeepersModel", "findDocked", "(I)V"⟩, 12)]
theorem lw_r4 : ∀ q ∈ lw_privs_4, lw_okq q := List.forall_mem_cons.mpr ⟨lw_p48, List.forall_mem_cons.mpr ⟨lw_p49, List.forall_mem_cons.mpr ⟨lw_p50, List.forall_mem_cons.mpr ⟨lw_p51, List.forall_mem_cons.mpr ⟨lw_p52, List.forall_mem_cons.mpr ⟨lw_p53, List.forall_mem_cons.mpr ⟨lw_p54, List.forall_mem_cons.mpr ⟨lw_p55, List.forall_mem_cons.mpr ⟨lw_p56, List.forall_mem_cons.mpr ⟨lw_p57, List.forall_mem_cons.mpr ⟨lw_p58, List.forall_mem_cons.mpr ⟨lw_p59, List.forall_mem_cons.mpr ⟨lw_p60, List.forall_mem_cons.mpr ⟨lw_p61, List.forall_mem_cons.mpr ⟨lw_p62, List.forall_mem_cons.mpr ⟨lw_p63, fun _ h => absurd h List.not_mem_nil⟩⟩⟩⟩⟩⟩⟩⟩⟩⟩⟩⟩⟩⟩⟩⟩
theorem lw_p64 : lw_okq (⟨"HullKeepersModel", "floats", "(II)Z"⟩, 12) := ⟨⟨by decide +kernel, by decide +kernel⟩, List.mem_of_getElem? (i := 842) (by decide +kernel), List.mem_of_getElem? (i := 1138) (by decide +kernel), List.mem_of_getElem? (i := 1139) (by decide +kernel)⟩
theorem lw_p65 : lw_okq (⟨"HullKeepersModel", "docksThen", "(III)I"⟩, 12) := ⟨⟨by decide +kernel, by decide +kernel⟩, List.mem_of_getElem? (i := 842) (by decide +kernel), List.mem_of_getElem? (i := 1143) (by decide +kernel), List.mem_of_getElem? (i := 1144) (by decide +kernel)⟩
theorem lw_p66 : lw_okq (⟨"HullKeepersModel", "coin", "(I)I"⟩, 12) := ⟨⟨by decide +kernel, by decide +kernel⟩, List.mem_of_getElem? (i := 842) (by decide +kernel), List.mem_of_getElem? (i := 1150) (by decide +kernel), List.mem_of_getElem? (i := 1151) (by decide +kernel)⟩
theorem lw_p67 : lw_okq (⟨"HullKeepersModel", "power", "(I)I"⟩, 12) := ⟨⟨by decide +kernel, by decide +kernel⟩, List.mem_of_getElem? (i := 842) (by decide +kernel), List.mem_of_getElem? (i := 1154) (by decide +kernel), List.mem_of_getElem? (i := 1155) (by decide +kernel)⟩
theorem lw_p68 : lw_okq (⟨"HullKeepersModel", "goesBy", "(I)I"⟩, 12) := ⟨⟨by decide +kernel, by decide +kernel⟩, List.mem_of_getElem? (i := 842) (by decide +kernel), List.mem_of_getElem? (i := 1158) (by decide +kernel), List.mem_of_getElem? (i := 1159) (by decide +kernel)⟩
theorem lw_p69 : lw_okq (⟨"HullKeepersModel", "letGo", "()I"⟩, 12) := ⟨⟨by decide +kernel, by decide +kernel⟩, List.mem_of_getElem? (i := 842) (by decide +kernel), List.mem_of_getElem? (i := 1162) (by decide +kernel), List.mem_of_getElem? (i := 1163) (by decide +kernel)⟩
theorem lw_p70 : lw_okq (⟨"HullKeepersModel", "tellsTests", "(I)Z"⟩, 12) := ⟨⟨by decide +kernel, by decide +kernel⟩, List.mem_of_getElem? (i := 842) (by decide +kernel), List.mem_of_getElem? (i := 1182) (by decide +kernel), List.mem_of_getElem? (i := 1183) (by decide +kernel)⟩
theorem lw_p71 : lw_okq (⟨"HullKeepersModel", "canDo", "(I)Z"⟩, 12) := ⟨⟨by decide +kernel, by decide +kernel⟩, List.mem_of_getElem? (i := 842) (by decide +kernel), List.mem_of_getElem? (i := 1206) (by decide +kernel), List.mem_of_getElem? (i := 1207) (by decide +kernel)⟩
theorem lw_p72 : lw_okq (⟨"HullKeepersModel", "countOf", "(I)I"⟩, 12) := ⟨⟨by decide +kernel, by decide +kernel⟩, List.mem_of_getElem? (i := 842) (by decide +kernel), List.mem_of_getElem? (i := 1226) (by decide +kernel), List.mem_of_getElem? (i := 1227) (by decide +kernel)⟩
theorem lw_p73 : lw_okq (⟨"HullKeepersModel", "mixed", "(JII)J"⟩, 12) := ⟨⟨by decide +kernel, by decide +kernel⟩, List.mem_of_getElem? (i := 842) (by decide +kernel), List.mem_of_getElem? (i := 1236) (by decide +kernel), List.mem_of_getElem? (i := 1237) (by decide +kernel)⟩
def lw_privs_5 : List (MethodName × Nat) := [(⟨"HullKeepersModel", "floats", "(II)Z"⟩, 12), (⟨"HullKeepersModel", "docksThen", "(III)I"⟩, 12), (⟨"HullKeepersModel", "coin", "(I)I"⟩, 12), (⟨"HullKeepersModel", "power", "(I)I"⟩, 12), (⟨"HullKeepersModel", "goesBy", "(I)I"⟩, 12), (⟨"HullKeepersModel", "letGo", "()I"⟩, 12), (⟨"HullKeepersModel", "tellsTests", "(I)Z"⟩, 12), (⟨"HullKeepersModel", "canDo", "(I)Z"⟩, 12), (⟨"HullKeepersModel", "countOf", "(I)I"⟩, 12), (⟨"HullKeepersModel", "mixed", "(JII)J"⟩, 12)]
theorem lw_r5 : ∀ q ∈ lw_privs_5, lw_okq q := List.forall_mem_cons.mpr ⟨lw_p64, List.forall_mem_cons.mpr ⟨lw_p65, List.forall_mem_cons.mpr ⟨lw_p66, List.forall_mem_cons.mpr ⟨lw_p67, List.forall_mem_cons.mpr ⟨lw_p68, List.forall_mem_cons.mpr ⟨lw_p69, List.forall_mem_cons.mpr ⟨lw_p70, List.forall_mem_cons.mpr ⟨lw_p71, List.forall_mem_cons.mpr ⟨lw_p72, List.forall_mem_cons.mpr ⟨lw_p73, fun _ h => absurd h List.not_mem_nil⟩⟩⟩⟩⟩⟩⟩⟩⟩⟩
def lw_privs : List (MethodName × Nat) := lw_privs_1 ++ (lw_privs_2 ++ (lw_privs_3 ++ (lw_privs_4 ++ (lw_privs_5))))
def lw_tbl : List Cond := k2_sels lw_privs ++ tables_1
theorem lw_privs_ok : ∀ q ∈ lw_privs, lw_okq q := by
  show ∀ q ∈ lw_privs_1 ++ (lw_privs_2 ++ (lw_privs_3 ++ (lw_privs_4 ++ (lw_privs_5)))), lw_okq q
  exact List.forall_mem_append.mpr ⟨lw_r1, List.forall_mem_append.mpr ⟨lw_r2, List.forall_mem_append.mpr ⟨lw_r3, List.forall_mem_append.mpr ⟨lw_r4, lw_r5⟩⟩⟩⟩
/-- links to a nest mate's own methods -/
def hk_nl : List (String × Nat × MethodName × String) := [("HullKeepers$House", 96, ⟨"HullKeepers", "within", "(III)Z"⟩, "HullKeepers"), ("HullKeepers$Crew", 65, ⟨"HullKeepers", "within", "(III)Z"⟩, "HullKeepers"), ("HullKeepers$Table", 51, ⟨"HullKeepers", "mixed", "(JJ)J"⟩, "HullKeepers")]
def hk_keep : Jvm.Cond → Bool
  | .privateMethod _ => false
  | .soleField _ _ => false
  | .superclass _ _ => false
  | .arrayOver _ => false
  | .methodLinkNest _ _ _ _ => false
  | _ => true
def hk_wl : List Jvm.Cond := lw_tbl.filter hk_keep
def hk_wk (c : Nat) : List Jvm.Cond := match c with
  | 0 => k2_sels lw_privs
  | 1 => tables_1_1
  | 2 => tables_1_2
  | 3 => tables_1_3
  | 4 => tables_1_4
  | 5 => tables_1_5
  | 6 => tables_1_6
  | _ => []
/-- a word by its place: 512 times the list, and the place in it -/
def hk_lk (b : Nat) : Option Jvm.Cond := ((hk_wk (b / 512))[b % 512]?).filter hk_keep
theorem hk_wk_in {c k : Nat} {w : Jvm.Cond} (h : (hk_wk c)[k]? = some w) : w ∈ lw_tbl := by
  have h3 := List.mem_of_getElem? h
  unfold lw_tbl tables_1
  revert h3
  unfold hk_wk
  split <;> intro h3
  · exact List.mem_append_left _ h3
  · exact List.mem_append_right _ (List.mem_append_left _ h3)
  · exact List.mem_append_right _ (List.mem_append_right _ (List.mem_append_left _ h3))
  · exact List.mem_append_right _ (List.mem_append_right _ (List.mem_append_right _ (List.mem_append_left _ h3)))
  · exact List.mem_append_right _ (List.mem_append_right _ (List.mem_append_right _ (List.mem_append_right _ (List.mem_append_left _ h3))))
  · exact List.mem_append_right _ (List.mem_append_right _ (List.mem_append_right _ (List.mem_append_right _ (List.mem_append_right _ (List.mem_append_left _ h3)))))
  · exact List.mem_append_right _ (List.mem_append_right _ (List.mem_append_right _ (List.mem_append_right _ (List.mem_append_right _ (List.mem_append_right _ (h3))))))
  · cases h3
theorem hk_lk_in {b : Nat} {w : Jvm.Cond} (h : hk_lk b = some w) : w ∈ hk_wl := by
  unfold hk_lk at h
  obtain ⟨h1, h2⟩ := Option.filter_eq_some_iff.mp h
  exact List.mem_filter.mpr ⟨hk_wk_in h1, h2⟩
theorem hk_ao_in : Jvm.Cond.arrayOver (.object "HullKeepers$House") ∈ lw_tbl := hk_wk_in (c := 1) (k := 151) (by decide +kernel)
theorem hk_nl_in : ∀ q ∈ hk_nl, Jvm.Cond.methodLinkNest q.1 q.2.1 q.2.2.1 q.2.2.2 ∈ lw_tbl := List.forall_mem_cons.mpr ⟨hk_wk_in (c := 2) (k := 161) (by decide +kernel), List.forall_mem_cons.mpr ⟨hk_wk_in (c := 4) (k := 47) (by decide +kernel), List.forall_mem_cons.mpr ⟨hk_wk_in (c := 4) (k := 115) (by decide +kernel), fun _ h => absurd h List.not_mem_nil⟩⟩⟩
end
section
/-! ===== an abstract machine for the part of the bytecode that the class, the reference and the law use: places for addresses, numbers as they are ===== -/
abbrev hk_E : Type := Nat × Instr × Nat × Nat × (Nat × Nat × Nat × Nat) × Int32 × Int64 × List (Int32 × Nat)
abbrev hk_L : Type := List (Option Value)
/-- numbers, longs, references (0: null), the places that there are -/
abbrev hk_H : Type := (Nat → Nat → Int32) × (Nat → Nat → Int64) × (Nat → Nat → Nat) × List Nat
abbrev hk_Q : Type := MethodName × ByteArray × Nat × Option FieldType × (Nat × Nat × Nat × Nat × Nat × Nat) × List hk_E
def hk_u2 (f : Nat → Nat → Int32) (p k : Nat) (x : Int32) : Nat → Nat → Int32 := fun q => if q = p then upd (f p) k x else f q
def hk_uJ (f : Nat → Nat → Int64) (p k : Nat) (x : Int64) : Nat → Nat → Int64 := fun q => if q = p then vp_updL (f p) k x else f q
def hk_uR (f : Nat → Nat → Nat) (p k : Nat) (x : Nat) : Nat → Nat → Nat := fun q => if q = p then (fun j => if j = k then x else f p j) else f q
def hk_cp (f : Nat → Nat → Int32) (p q sp dp n : Nat) : Nat → Nat → Int32 := fun z => if z = q then va_cpy (f p) (f q) sp dp n else f z
def hk_z {α : Type} (f : Nat → Nat → α) (p : Nat) (x : α) : Nat → Nat → α := fun q => if q = p then (fun _ => x) else f q
def hk_rv (r : Nat) : Value := match r with
  | 0 => .null
  | r + 1 => .ref (r + 1)
/-- a cell's kind (1 object, 2 ints, 3 booleans, 4 references, 5 longs, 6 the script) and its class or length -/
abbrev hk_Sh : Type := Nat × Nat
def hk_is (s : hk_Sh) (k n : Nat) : Bool := Nat.beq s.1 k && Nat.beq s.2 n
/-- a new object at a place: all 0 -/
def hk_nw (h : hk_H) (p : Nat) : hk_H := (hk_z h.1 p 0, hk_z h.2.1 p 0, hk_z h.2.2.1 p 0, h.2.2.2 ++ [p])
def hk_s1 (i : Nat) (v : Value) (L : hk_L) : hk_L := match i with
  | 0 => L.set 0 (some v)
  | j + 1 => match L[j]? with
    | some (some (.long _)) => (L.set j none).set (j + 1) (some v)
    | some (some (.double _)) => (L.set j none).set (j + 1) (some v)
    | _ => L.set (j + 1) (some v)
def hk_s2 (i : Nat) (v : Value) (L : hk_L) : hk_L := (hk_s1 i v L).set (i + 1) none
def hk_cat (st : List Value) : Nat := match st with
  | [] => 0
  | .long _ :: r => hk_cat r + 2
  | .double _ :: r => hk_cat r + 2
  | _ :: r => hk_cat r + 1
def hk_sw {R : Type} (br : (P : Prop) → Decidable P → R → R → R) (x : Int32) (k0 : R) (k : Nat → R) : List (Int32 × Nat) → R
  | [] => k0
  | q :: r => br (x = q.1) inferInstance (k q.2) (hk_sw br x k0 k r)
def hk_cmp {R : Type} (br : (P : Prop) → Decidable P → R → R → R) (c : ClassFile.Cond) (x y : Int32) (k0 k1 : R) : R := match c with
  | .eq => br (x = y) inferInstance k0 k1
  | .ne => br (¬ x = y) inferInstance k0 k1
  | .lt => br (x < y) inferInstance k0 k1
  | .ge => br (y ≤ x) inferInstance k0 k1
  | .gt => br (y < x) inferInstance k0 k1
  | .le => br (x ≤ y) inferInstance k0 k1
def hk_i2 {R : Type} (sk : R) (nx : List Value → R) (f : Int32 → Int32 → Int32) (st : List Value) : R := match st with
  | .int y :: .int x :: r => nx (.int (f x y) :: r)
  | _ => sk
def hk_l2 {R : Type} (sk : R) (nx : List Value → R) (f : Int64 → Int64 → Int64) (st : List Value) : R := match st with
  | .long y :: .long x :: r => nx (.long (f x y) :: r)
  | _ => sk
def hk_in (i : Int32) (n : Nat) : Decidable (vp_in i n) := inferInstanceAs (Decidable (¬ (i < 0 ∨ n ≤ i.toNatClampNeg)))
/-- the place of a new cell: the big row's own, else the next -/
def hk_np (pb big : Nat) (al : List Nat) (n : Nat) : Nat := match Nat.beq n big with
  | true => pb
  | false => match al.contains pb with
    | true => al.length - 1
    | false => al.length
section HKS
variable {R : Type} (SH : Nat → hk_Sh) (pb big : Nat) (sk : R) (nx : hk_L → List Value → hk_H → R) (jm : Nat → hk_L → List Value → hk_H → R) (as : (P : Prop) → Decidable P → R → R) (br : (P : Prop) → Decidable P → R → R → R) (cl : Nat → List Value → hk_H → (Option Value → hk_H → R) → R) (rt : Option Value → hk_H → R) (scr : Option (Nat × (Nat → Int32)))
/-- a new cell of a shape -/
def hk_mk (L : hk_L) (r : List Value) (h : hk_H) (k n : Nat) : R :=
  match hk_is (SH (hk_np pb big h.2.2.2 n)) k n && !(h.2.2.2.contains (hk_np pb big h.2.2.2 n)) with
  | true => nx L (.ref (hk_np pb big h.2.2.2 n) :: r) (hk_nw h (hk_np pb big h.2.2.2 n))
  | false => sk
def hk_new (a : Nat) (L : hk_L) (st : List Value) (h : hk_H) : R := hk_mk SH pb big sk nx L st h 1 a
def hk_newa (t : ArrayType) (L : hk_L) (st : List Value) (h : hk_H) : R := match st with
  | .int n :: r => as (¬ n < 0 ∧ n.toNatClampNeg ≤ 200000) inferInstance (match t with
    | .int => hk_mk SH pb big sk nx L r h 2 n.toNatClampNeg
    | .boolean => hk_mk SH pb big sk nx L r h 3 n.toNatClampNeg
    | .long => hk_mk SH pb big sk nx L r h 5 n.toNatClampNeg
    | _ => sk)
  | _ => sk
def hk_newq (L : hk_L) (st : List Value) (h : hk_H) : R := match st with
  | .int n :: r => as (¬ n < 0 ∧ n.toNatClampNeg ≤ 200000) inferInstance (hk_mk SH pb big sk nx L r h 4 n.toNatClampNeg)
  | _ => sk
def hk_getf (a c d : Nat) (L : hk_L) (st : List Value) (h : hk_H) : R := match st with
  | .ref p :: r => match hk_is (SH p) 1 a with
    | true => match d with
      | 1 => nx L (hk_rv (h.2.2.1 p c) :: r) h
      | _ => nx L (.int (h.1 p c) :: r) h
    | false => sk
  | _ => sk
def hk_putf (a c d : Nat) (L : hk_L) (st : List Value) (h : hk_H) : R := match st with
  | .int x :: .ref p :: r => match hk_is (SH p) 1 a with
    | true => match d with
      | 0 => nx L r (hk_u2 h.1 p c x, h.2)
      | 2 => as (x = 0 ∨ x = 1) inferInstance (nx L r (hk_u2 h.1 p c x, h.2))
      | _ => sk
    | false => sk
  | .ref (q + 1) :: .ref p :: r => match hk_is (SH p) 1 a with
    | true => match d with
      | 1 => match Nat.beq (SH (q + 1)).1 6 with
        | true => sk
        | false => nx L r (h.1, h.2.1, hk_uR h.2.2.1 p c (q + 1), h.2.2.2)
      | _ => sk
    | false => sk
  | _ => sk
def hk_ial (L : hk_L) (st : List Value) (h : hk_H) : R := match st with
  | .int i :: .ref p :: r => match SH p with
    | (2, n) => as (vp_in i n) (hk_in i n) (nx L (.int (h.1 p i.toNatClampNeg) :: r) h)
    | (6, _) => match scr with
      | some q => as (vp_in i q.1) (hk_in i q.1) (nx L (.int (q.2 i.toNatClampNeg) :: r) h)
      | none => sk
    | _ => sk
  | _ => sk
def hk_ias (L : hk_L) (st : List Value) (h : hk_H) : R := match st with
  | .int x :: .int i :: .ref p :: r => match SH p with
    | (2, n) => as (vp_in i n) (hk_in i n) (nx L r (hk_u2 h.1 p i.toNatClampNeg x, h.2))
    | _ => sk
  | _ => sk
def hk_bal (L : hk_L) (st : List Value) (h : hk_H) : R := match st with
  | .int i :: .ref p :: r => match SH p with
    | (3, n) => as (vp_in i n) (hk_in i n) (nx L (.int (h.1 p i.toNatClampNeg) :: r) h)
    | _ => sk
  | _ => sk
def hk_bas (L : hk_L) (st : List Value) (h : hk_H) : R := match st with
  | .int x :: .int i :: .ref p :: r => match SH p with
    | (3, n) => as (vp_in i n) (hk_in i n) (nx L r (hk_u2 h.1 p i.toNatClampNeg (vp_nar .boolean x), h.2))
    | _ => sk
  | _ => sk
def hk_lal (L : hk_L) (st : List Value) (h : hk_H) : R := match st with
  | .int i :: .ref p :: r => match SH p with
    | (5, n) => as (vp_in i n) (hk_in i n) (nx L (.long (h.2.1 p i.toNatClampNeg) :: r) h)
    | _ => sk
  | _ => sk
def hk_las (L : hk_L) (st : List Value) (h : hk_H) : R := match st with
  | .long x :: .int i :: .ref p :: r => match SH p with
    | (5, n) => as (vp_in i n) (hk_in i n) (nx L r (h.1, hk_uJ h.2.1 p i.toNatClampNeg x, h.2.2))
    | _ => sk
  | _ => sk
def hk_aal (L : hk_L) (st : List Value) (h : hk_H) : R := match st with
  | .int i :: .ref p :: r => match SH p with
    | (4, n) => as (vp_in i n) (hk_in i n) (nx L (hk_rv (h.2.2.1 p i.toNatClampNeg) :: r) h)
    | _ => sk
  | _ => sk
def hk_aas (ch : Nat) (L : hk_L) (st : List Value) (h : hk_H) : R := match st with
  | .ref (q + 1) :: .int i :: .ref p :: r => match hk_is (SH (q + 1)) 1 ch with
    | true => match SH p with
      | (4, n) => as (vp_in i n) (hk_in i n) (nx L r (h.1, h.2.1, hk_uR h.2.2.1 p i.toNatClampNeg (q + 1), h.2.2.2))
      | _ => sk
    | false => sk
  | _ => sk
def hk_len (L : hk_L) (st : List Value) (h : hk_H) : R := match st with
  | .ref p :: r => match SH p with
    | (2, n) => nx L (.int (Int32.ofNat n) :: r) h
    | (6, _) => match scr with
      | some q => nx L (.int (Int32.ofNat q.1) :: r) h
      | none => sk
    | _ => sk
  | _ => sk
/-- System.arraycopy of ints -/
def hk_acp (L : hk_L) (st : List Value) (h : hk_H) : R := match st with
  | .int n :: .int dp :: .ref q :: .int sp :: .ref p :: r => match SH p, SH q with
    | (2, n0), (2, n1) => match Nat.ble (hk_cat r) 8 with
      | true => as (¬ sp < 0 ∧ ¬ dp < 0 ∧ ¬ n < 0 ∧ sp.toNatClampNeg + n.toNatClampNeg ≤ n0 ∧ dp.toNatClampNeg + n.toNatClampNeg ≤ n1) inferInstance (nx L r (hk_cp h.1 p q sp.toNatClampNeg dp.toNatClampNeg n.toNatClampNeg, h.2))
      | false => sk
    | _, _ => sk
  | _ => sk
/-- a call of method a with c arguments (the receiver counts); d: 0 a static one, else 1 and the receiver's class -/
def hk_inv (a c d : Nat) (L : hk_L) (st : List Value) (h : hk_H) : R :=
  match Nat.ble c st.length && Nat.ble (hk_cat (st.drop c)) 8 && (match d with
    | 0 => true
    | ci + 1 => match (st.take c).reverse with
      | .ref p :: _ => hk_is (SH p) 1 ci
      | _ => false) with
  | true => cl a (st.take c).reverse h (fun r h' => match r with
    | none => nx L (st.drop c) h'
    | some v => nx L (v :: st.drop c) h')
  | false => sk
/-- Math's max, min -/
def hk_mi (f : Int32 → Int32 → Int32) (L : hk_L) (st : List Value) (h : hk_H) : R := match st with
  | .int y :: .int x :: r => match Nat.ble (hk_cat r) 8 with
    | true => nx L (.int (f x y) :: r) h
    | false => sk
  | _ => sk
def hk_mj (f : Int64 → Int64 → Int64) (L : hk_L) (st : List Value) (h : hk_H) : R := match st with
  | .long y :: .long x :: r => match Nat.ble (hk_cat r) 8 with
    | true => nx L (.long (f x y) :: r) h
    | false => sk
  | _ => sk
def hk_call1 (a c d : Nat) (L : hk_L) (st : List Value) (h : hk_H) : R := match a with
  | 0 => sk
  | 1 => match st with
    | .ref _ :: r => match Nat.ble (hk_cat r) 8 with
      | true => nx L r h
      | false => sk
    | _ => sk
  | 2 => hk_acp SH sk nx as L st h
  | 3 => hk_mi sk nx (fun x y => if x < y then y else x) L st h
  | 4 => hk_mi sk nx (fun x y => if y < x then y else x) L st h
  | 5 => hk_mj sk nx (fun x y => if y < x then x else y) L st h
  | 6 => hk_mj sk nx (fun x y => if y < x then y else x) L st h
  | y + 7 => hk_inv SH sk nx cl y c d L st h
def hk_stp (ch : Nat) (ins : Instr) (a c d : Nat) (v : Int32) (w : Int64) (sw : List (Int32 × Nat)) (L : hk_L) (st : List Value) (h : hk_H) : R :=
  match ins with
  | .iconst _ => nx L (.int v :: st) h
  | .bipush _ => nx L (.int v :: st) h
  | .sipush _ => nx L (.int v :: st) h
  | .ldc _ => (match a with
    | 0 => nx L (.int v :: st) h
    | _ => sk)
  | .ldc_w _ => nx L (.int v :: st) h
  | .lconst _ => nx L (.long w :: st) h
  | .ldc2_w _ => nx L (.long w :: st) h
  | .iload_n _ => (match L[a]? with
    | some (some (.int x)) => nx L (.int x :: st) h
    | _ => sk)
  | .iload _ => (match L[a]? with
    | some (some (.int x)) => nx L (.int x :: st) h
    | _ => sk)
  | .aload_n _ => (match L[a]? with
    | some (some (.ref x)) => nx L (.ref x :: st) h
    | some (some .null) => nx L (.null :: st) h
    | _ => sk)
  | .aload _ => (match L[a]? with
    | some (some (.ref x)) => nx L (.ref x :: st) h
    | _ => sk)
  | .lload_n _ => (match L[a]? with
    | some (some (.long x)) => nx L (.long x :: st) h
    | _ => sk)
  | .lload _ => (match L[a]? with
    | some (some (.long x)) => nx L (.long x :: st) h
    | _ => sk)
  | .istore_n _ => (match st with
    | .int x :: r => nx (hk_s1 a (.int x) L) r h
    | _ => sk)
  | .istore _ => (match st with
    | .int x :: r => nx (hk_s1 a (.int x) L) r h
    | _ => sk)
  | .astore_n _ => (match st with
    | .ref x :: r => nx (hk_s1 a (.ref x) L) r h
    | .null :: r => nx (hk_s1 a .null L) r h
    | _ => sk)
  | .lstore_n _ => (match st with
    | .long x :: r => nx (hk_s2 a (.long x) L) r h
    | _ => sk)
  | .lstore _ => (match st with
    | .long x :: r => nx (hk_s2 a (.long x) L) r h
    | _ => sk)
  | .iinc _ _ => (match L[a]? with
    | some (some (.int x)) => nx (hk_s1 a (.int (x + v)) L) st h
    | _ => sk)
  | .iadd => hk_i2 sk (fun r => nx L r h) (fun x y => x + y) st
  | .isub => hk_i2 sk (fun r => nx L r h) (fun x y => x - y) st
  | .imul => hk_i2 sk (fun r => nx L r h) (fun x y => x * y) st
  | .iand => hk_i2 sk (fun r => nx L r h) (fun x y => x &&& y) st
  | .ior => hk_i2 sk (fun r => nx L r h) (fun x y => x ||| y) st
  | .ixor => hk_i2 sk (fun r => nx L r h) (fun x y => x ^^^ y) st
  | .ishl => hk_i2 sk (fun r => nx L r h) (fun x y => x <<< (y &&& 31)) st
  | .ishr => hk_i2 sk (fun r => nx L r h) (fun x y => x >>> (y &&& 31)) st
  | .iushr => hk_i2 sk (fun r => nx L r h) (fun x y => (x.toUInt32 >>> (y.toUInt32 &&& Int32.toUInt32 31)).toInt32) st
  | .ladd => hk_l2 sk (fun r => nx L r h) (fun x y => x + y) st
  | .lsub => hk_l2 sk (fun r => nx L r h) (fun x y => x - y) st
  | .lmul => hk_l2 sk (fun r => nx L r h) (fun x y => x * y) st
  | .idiv => (match st with
    | .int y :: .int x :: r => as (¬ y = 0) inferInstance (nx L (.int (x / y) :: r) h)
    | _ => sk)
  | .irem => (match st with
    | .int y :: .int x :: r => as (¬ y = 0) inferInstance (nx L (.int (x - x / y * y) :: r) h)
    | _ => sk)
  | .ldiv => (match st with
    | .long y :: .long x :: r => as (¬ y = 0) inferInstance (nx L (.long (x / y) :: r) h)
    | _ => sk)
  | .lneg => (match st with
    | .long x :: r => nx L (.long (-x) :: r) h
    | _ => sk)
  | .i2l => (match st with
    | .int x :: r => nx L (.long x.toInt64 :: r) h
    | _ => sk)
  | .l2i => (match st with
    | .long x :: r => nx L (.int x.toInt32 :: r) h
    | _ => sk)
  | .lcmp => (match st with
    | .long y :: .long x :: r => nx L (.int (lg_cmp x y) :: r) h
    | _ => sk)
  | .dup => (match st with
    | .int x :: r => nx L (.int x :: .int x :: r) h
    | .ref x :: r => nx L (.ref x :: .ref x :: r) h
    | _ => sk)
  | .dup2 => (match st with
    | .int x :: .ref y :: r => nx L (.int x :: .ref y :: .int x :: .ref y :: r) h
    | _ => sk)
  | .pop => (match st with
    | .int _ :: r => nx L r h
    | _ => sk)
  | .pop2 => (match st with
    | .long _ :: r => nx L r h
    | _ => sk)
  | .goto _ => jm a L st h
  | .if_icmp cnd _ => (match st with
    | .int y :: .int x :: r => hk_cmp br cnd x y (jm a L r h) (nx L r h)
    | _ => sk)
  | .ifCond cnd _ => (match st with
    | .int x :: r => hk_cmp br cnd x 0 (jm a L r h) (nx L r h)
    | _ => sk)
  | .ifnonnull _ => (match st with
    | .ref _ :: r => jm a L r h
    | .null :: r => nx L r h
    | _ => sk)
  | .tableswitch _ _ _ _ => (match st with
    | .int x :: r => hk_sw br x (jm a L r h) (fun t => jm t L r h) sw
    | _ => sk)
  | .lookupswitch _ _ => (match st with
    | .int x :: r => hk_sw br x (jm a L r h) (fun t => jm t L r h) sw
    | _ => sk)
  | .getfield _ => hk_getf SH sk nx a c d L st h
  | .putfield _ => hk_putf SH sk nx as a c d L st h
  | .new _ => hk_new SH pb big sk nx a L st h
  | .newarray t => hk_newa SH pb big sk nx as t L st h
  | .anewarray _ => hk_newq SH pb big sk nx as L st h
  | .arraylength => hk_len SH sk nx scr L st h
  | .iaload => hk_ial SH sk nx as scr L st h
  | .iastore => hk_ias SH sk nx as L st h
  | .baload => hk_bal SH sk nx as L st h
  | .bastore => hk_bas SH sk nx as L st h
  | .laload => hk_lal SH sk nx as L st h
  | .lastore => hk_las SH sk nx as L st h
  | .aaload => hk_aal SH sk nx as L st h
  | .aastore => hk_aas SH sk nx as ch L st h
  | .invokevirtual _ => hk_call1 SH sk nx as cl a c d L st h
  | .invokespecial _ => hk_call1 SH sk nx as cl a c d L st h
  | .invokestatic _ => hk_call1 SH sk nx as cl a c d L st h
  | .ireturn => (match st with
    | [.int x] => (match d with
      | 0 => rt (some (.int x)) h
      | _ => as (x = 0 ∨ x = 1) inferInstance (rt (some (.int x)) h))
    | _ => sk)
  | .lreturn => (match st with
    | [.long x] => rt (some (.long x)) h
    | _ => sk)
  | .return_ => (match st with
    | [] => rt none h
    | _ => sk)
  | _ => sk
end HKS
def hk_sfx (t : Nat) : List hk_E → List hk_E
  | [] => []
  | e :: r => match Nat.beq e.1 t with
    | true => e :: r
    | false => hk_sfx t r
abbrev hk_O : Type := Option (Option Value × hk_H)
section HKR
variable (SH : Nat → hk_Sh) (pb big ch : Nat)
/-- a run of a method's body -/
def hk_run (cl : Nat → List Value → hk_H → hk_O) (scr : Option (Nat × (Nat → Int32))) (cd : List hk_E) : Nat → List hk_E → hk_L → List Value → hk_H → hk_O
  | 0, _, _, _, _ => none
  | _ + 1, [], _, _, _ => none
  | n + 1, e :: cs, L, st, h => hk_stp SH pb big (R := hk_O) none (fun L st h => hk_run cl scr cd n cs L st h) (fun t L st h => hk_run cl scr cd n (hk_sfx t cd) L st h) (fun P d k => @ite _ P d k none) (fun P d k0 k1 => @ite _ P d k0 k1) (fun y a h k => (cl y a h).bind (fun q => k q.1 q.2)) (fun r h => some (r, h)) scr ch e.2.1 e.2.2.2.2.1.1 e.2.2.2.2.1.2.2.1 e.2.2.2.2.1.2.2.2 e.2.2.2.2.2.1 e.2.2.2.2.2.2.1 e.2.2.2.2.2.2.2 L st h
def hk_as : List Value → hk_L
  | [] => []
  | .long x :: r => some (.long x) :: none :: hk_as r
  | .double x :: r => some (.double x) :: none :: hk_as r
  | v :: r => some v :: hk_as r
def hk_loc (mx : Nat) (a : List Value) : hk_L := hk_as a ++ List.replicate (mx - (hk_as a).length) none
/-- a call, so deep -/
def hk_call (mt : Nat → Option hk_Q) (F : Nat) : Nat → Nat → List Value → hk_H → hk_O
  | 0, _, _, _ => none
  | d + 1, y, a, h => match mt y with
    | none => none
    | some q => match Nat.ble (hk_as a).length q.2.2.1 && Nat.beq a.length q.2.2.2.2.1.1 with
      | true => hk_run SH pb big ch (hk_call mt F d) none q.2.2.2.2.2 F q.2.2.2.2.2 (hk_loc q.2.2.1 a) [] h
      | false => none
end HKR
end
section
/-! ===== the abstract machine's step, under two readings of its ends ===== -/
def hk_ge (h h' : hk_H) : Prop := ∃ ext : List Nat, h'.2.2.2 = h.2.2.2 ++ ext
theorem hk_ge_rf (h : hk_H) : hk_ge h h := ⟨[], by simp⟩
theorem hk_ge_of {h h' : hk_H} (e : h'.2.2.2 = h.2.2.2) : hk_ge h h' := ⟨[], by simp [e]⟩
theorem hk_ge_tr {h h1 h2 : hk_H} (a : hk_ge h h1) (b : hk_ge h1 h2) : hk_ge h h2 := by
  obtain ⟨x, hx⟩ := a
  obtain ⟨y, hy⟩ := b
  exact ⟨x ++ y, by rw [hy, hx, List.append_assoc]⟩
section HKT
variable {R1 R2 : Type} {SH : Nat → hk_Sh} {pb big : Nat} (T : R1 → R2 → Prop) {sk1 : R1} {sk2 : R2} {nx1 : hk_L → List Value → hk_H → R1} {nx2 : hk_L → List Value → hk_H → R2} {jm1 : Nat → hk_L → List Value → hk_H → R1} {jm2 : Nat → hk_L → List Value → hk_H → R2} {as1 : (P : Prop) → Decidable P → R1 → R1} {as2 : (P : Prop) → Decidable P → R2 → R2} {br1 : (P : Prop) → Decidable P → R1 → R1 → R1} {br2 : (P : Prop) → Decidable P → R2 → R2 → R2} {cl1 : Nat → List Value → hk_H → (Option Value → hk_H → R1) → R1} {cl2 : Nat → List Value → hk_H → (Option Value → hk_H → R2) → R2} {rt1 : Option Value → hk_H → R1} {rt2 : Option Value → hk_H → R2} {scr : Option (Nat × (Nat → Int32))} {h : hk_H}
theorem hk_sw_rel (hbr : ∀ P d a1 a2 b1 b2, T a1 a2 → T b1 b2 → T (br1 P d a1 b1) (br2 P d a2 b2)) (x : Int32) {k1 : R1} {k2 : R2} {f1 : Nat → R1} {f2 : Nat → R2} (hk : T k1 k2) (hf : ∀ t, T (f1 t) (f2 t)) : ∀ l : List (Int32 × Nat), T (hk_sw br1 x k1 f1 l) (hk_sw br2 x k2 f2 l)
  | [] => hk
  | q :: r => hbr _ _ _ _ _ _ (hf _) (hk_sw_rel hbr x hk hf r)
theorem hk_cmp_rel (hbr : ∀ P d a1 a2 b1 b2, T a1 a2 → T b1 b2 → T (br1 P d a1 b1) (br2 P d a2 b2)) (cnd : ClassFile.Cond) (x y : Int32) {k1 j1 : R1} {k2 j2 : R2} (hk : T k1 k2) (hj : T j1 j2) : T (hk_cmp br1 cnd x y k1 j1) (hk_cmp br2 cnd x y k2 j2) := by
  cases cnd <;> exact hbr _ _ _ _ _ _ hk hj
theorem hk_i2_rel (hsk : T sk1 sk2) {f1 : List Value → R1} {f2 : List Value → R2} (hf : ∀ r, T (f1 r) (f2 r)) (f : Int32 → Int32 → Int32) (st : List Value) : T (hk_i2 sk1 f1 f st) (hk_i2 sk2 f2 f st) := by
  unfold hk_i2
  split
  · exact hf _
  · exact hsk
theorem hk_l2_rel (hsk : T sk1 sk2) {f1 : List Value → R1} {f2 : List Value → R2} (hf : ∀ r, T (f1 r) (f2 r)) (f : Int64 → Int64 → Int64) (st : List Value) : T (hk_l2 sk1 f1 f st) (hk_l2 sk2 f2 f st) := by
  unfold hk_l2
  split
  · exact hf _
  · exact hsk
theorem hk_mk_rel (hsk : T sk1 sk2) (hnx : ∀ L st h', hk_ge h h' → T (nx1 L st h') (nx2 L st h')) (L : hk_L) (r : List Value) (k n : Nat) : T (hk_mk SH pb big sk1 nx1 L r h k n) (hk_mk SH pb big sk2 nx2 L r h k n) := by
  unfold hk_mk
  split
  · exact hnx _ _ _ ⟨[_], rfl⟩
  · exact hsk
theorem hk_inv_rel (hsk : T sk1 sk2) (hnx : ∀ L st h', hk_ge h h' → T (nx1 L st h') (nx2 L st h')) (hcl : ∀ y a k1 k2, (∀ r h', hk_ge h h' → T (k1 r h') (k2 r h')) → T (cl1 y a h k1) (cl2 y a h k2)) (a c d : Nat) (L : hk_L) (st : List Value) : T (hk_inv SH sk1 nx1 cl1 a c d L st h) (hk_inv SH sk2 nx2 cl2 a c d L st h) := by
  unfold hk_inv
  split
  · refine hcl _ _ _ _ fun r h' hg => ?_
    cases r with
    | none => exact hnx _ _ _ hg
    | some v => exact hnx _ _ _ hg
  · exact hsk
theorem hk_stp_rel (hsk : T sk1 sk2) (hnx : ∀ L st h', hk_ge h h' → T (nx1 L st h') (nx2 L st h')) (hjm : ∀ t L st, T (jm1 t L st h) (jm2 t L st h)) (has : ∀ P d k1 k2, T k1 k2 → T (as1 P d k1) (as2 P d k2)) (hbr : ∀ P d a1 a2 b1 b2, T a1 a2 → T b1 b2 → T (br1 P d a1 b1) (br2 P d a2 b2)) (hcl : ∀ y a k1 k2, (∀ r h', hk_ge h h' → T (k1 r h') (k2 r h')) → T (cl1 y a h k1) (cl2 y a h k2)) (hrt : ∀ r, T (rt1 r h) (rt2 r h)) (ch : Nat) (ins : Instr) (a c d : Nat) (v : Int32) (w : Int64) (sw : List (Int32 × Nat)) (L : hk_L) (st : List Value) :
    T (hk_stp SH pb big sk1 nx1 jm1 as1 br1 cl1 rt1 scr ch ins a c d v w sw L st h) (hk_stp SH pb big sk2 nx2 jm2 as2 br2 cl2 rt2 scr ch ins a c d v w sw L st h) := by
  have hn0 : ∀ L st, T (nx1 L st h) (nx2 L st h) := fun L st => hnx L st h (hk_ge_rf h)
  have hne : ∀ L st h', h'.2.2.2 = h.2.2.2 → T (nx1 L st h') (nx2 L st h') := fun L st h' e => hnx L st h' (hk_ge_of e)
  have hca : T (hk_call1 SH sk1 nx1 as1 cl1 a c d L st h) (hk_call1 SH sk2 nx2 as2 cl2 a c d L st h) := by
    unfold hk_call1
    split
    · exact hsk
    · split
      · split
        · exact hn0 _ _
        · exact hsk
      · exact hsk
    · unfold hk_acp
      split
      · split
        · split
          · exact has _ _ _ _ (hne _ _ _ rfl)
          · exact hsk
        · exact hsk
      · exact hsk
    · unfold hk_mi
      (repeat' split) <;> first | exact hsk | exact hn0 _ _
    · unfold hk_mi
      (repeat' split) <;> first | exact hsk | exact hn0 _ _
    · unfold hk_mj
      (repeat' split) <;> first | exact hsk | exact hn0 _ _
    · unfold hk_mj
      (repeat' split) <;> first | exact hsk | exact hn0 _ _
    · exact hk_inv_rel T hsk hnx hcl _ _ _ _ _
  unfold hk_stp
  split
  all_goals first
    | exact hsk
    | exact hn0 _ _
    | exact hca
    | exact hjm _ _ _
    | exact hk_i2_rel T hsk (fun r => hn0 _ _) _ _
    | exact hk_l2_rel T hsk (fun r => hn0 _ _) _ _
    | (unfold hk_new; exact hk_mk_rel T hsk hnx _ _ _ _)
    | (unfold hk_newa; split <;> first | exact hsk | (refine has _ _ _ _ ?_; split <;> first | exact hsk | exact hk_mk_rel T hsk hnx _ _ _ _))
    | (unfold hk_newq; split <;> first | exact hsk | (refine has _ _ _ _ ?_; exact hk_mk_rel T hsk hnx _ _ _ _))
    | (split <;> first | exact hsk | exact hn0 _ _ | exact hjm _ _ _ | exact has _ _ _ _ (hn0 _ _) | exact hk_cmp_rel T hbr _ _ _ (hjm _ _ _) (hn0 _ _) | exact hk_sw_rel T hbr _ (hjm _ _ _) (fun t => hjm _ _ _) _ | exact hrt _)
    | (split <;> first | exact hsk | (split <;> first | exact hrt _ | exact has _ _ _ _ (hrt _)))
    | (first | unfold hk_getf | unfold hk_putf | unfold hk_len | unfold hk_ial | unfold hk_ias | unfold hk_bal | unfold hk_bas | unfold hk_lal | unfold hk_las | unfold hk_aal | unfold hk_aas
       (repeat' split) <;> first | exact hsk | exact hne _ _ _ rfl | exact has _ _ _ _ (hne _ _ _ rfl))
end HKT
section HKM
variable {SH : Nat → hk_Sh} {pb big ch : Nat}
theorem hk_run_ge {cl : Nat → List Value → hk_H → hk_O} (hg : ∀ y a h q, cl y a h = some q → hk_ge h q.2) {scr : Option (Nat × (Nat → Int32))} {cd : List hk_E} : ∀ (n : Nat) cs L st h q, hk_run SH pb big ch cl scr cd n cs L st h = some q → hk_ge h q.2 := by
  intro n
  induction n with
  | zero => intro cs L st h q e; simp [hk_run] at e
  | succ n ih =>
    intro cs L st h q e
    cases cs with
    | nil => simp [hk_run] at e
    | cons e0 cs =>
      rw [hk_run] at e
      revert e
      refine hk_stp_rel (R2 := Unit) (nx2 := fun _ _ _ => ()) (jm2 := fun _ _ _ _ => ()) (as2 := fun _ _ _ => ()) (br2 := fun _ _ _ _ => ()) (cl2 := fun _ _ _ _ => ()) (rt2 := fun _ _ => ()) (sk2 := ()) (T := fun x _ => x = some q → hk_ge h q.2) (fun e => by cases e) (fun L st h' hh e => hk_ge_tr hh (ih _ _ _ _ _ e)) (fun t L st e => ih _ _ _ _ _ e) (fun P d k1 k2 hk e => ?_) (fun P d a1 a2 b1 b2 ha hb e => ?_) (fun y a k1 k2 hk e => ?_) (fun r e => ?_) _ _ _ _ _ _ _ _ _ _
      · by_cases hP : P
        · rw [if_pos hP] at e; exact hk e
        · rw [if_neg hP] at e; cases e
      · by_cases hP : P
        · rw [if_pos hP] at e; exact ha e
        · rw [if_neg hP] at e; exact hb e
      · cases hq : cl y a h with
        | none => rw [hq] at e; cases e
        | some x => rw [hq] at e; exact hk _ _ (hg _ _ _ _ hq) e
      · cases e
        exact hk_ge_rf h
theorem hk_run_mono {cl cl' : Nat → List Value → hk_H → hk_O} (hg : ∀ y a h q, cl y a h = some q → hk_ge h q.2) (hc : ∀ y a h q, cl y a h = some q → cl' y a h = some q) {scr : Option (Nat × (Nat → Int32))} {cd : List hk_E} : ∀ (n n' : Nat), n ≤ n' → ∀ cs L st h q, hk_run SH pb big ch cl scr cd n cs L st h = some q → hk_run SH pb big ch cl' scr cd n' cs L st h = some q := by
  intro n
  induction n with
  | zero => intro n' _ cs L st h q e; simp [hk_run] at e
  | succ n ih =>
    intro n' hn cs L st h q e
    obtain ⟨n', rfl⟩ : ∃ k, n' = k + 1 := ⟨n' - 1, by omega⟩
    cases cs with
    | nil => simp [hk_run] at e
    | cons e0 cs =>
      rw [hk_run] at e ⊢
      revert e
      refine hk_stp_rel (T := fun x y => x = some q → y = some q) (fun e => by cases e) (fun L st h' _ e => ih n' (by omega) _ _ _ _ _ e) (fun t L st e => ih n' (by omega) _ _ _ _ _ e) (fun P d k1 k2 hk e => ?_) (fun P d a1 a2 b1 b2 ha hb e => ?_) (fun y a k1 k2 hk e => ?_) (fun r e => e) _ _ _ _ _ _ _ _ _ _
      · by_cases hP : P
        · rw [if_pos hP] at e ⊢; exact hk e
        · rw [if_neg hP] at e; cases e
      · by_cases hP : P
        · rw [if_pos hP] at e ⊢; exact ha e
        · rw [if_neg hP] at e ⊢; exact hb e
      · cases hq : cl y a h with
        | none => rw [hq] at e; cases e
        | some x =>
          rw [hq] at e
          rw [hc _ _ _ _ hq]
          exact hk _ _ (hg _ _ _ _ hq) e
variable {mt : Nat → Option hk_Q}
theorem hk_call_ge (F : Nat) : ∀ (d : Nat) y a h q, hk_call SH pb big ch mt F d y a h = some q → hk_ge h q.2 := by
  intro d
  induction d with
  | zero => intro y a h q e; simp [hk_call] at e
  | succ d ih =>
    intro y a h q e
    rw [hk_call] at e
    split at e
    · cases e
    · split at e
      · exact hk_run_ge ih _ _ _ _ _ _ e
      · cases e
theorem hk_call_mono {F F' : Nat} (hF : F ≤ F') : ∀ (d : Nat) y a h q, hk_call SH pb big ch mt F d y a h = some q → hk_call SH pb big ch mt F' d y a h = some q := by
  intro d
  induction d with
  | zero => intro y a h q e; simp [hk_call] at e
  | succ d ih =>
    intro y a h q e
    rw [hk_call] at e ⊢
    split at e
    · cases e
    · split at e
      · exact hk_run_mono (hk_call_ge F d) ih _ _ hF _ _ _ _ _ e
      · cases e
theorem hk_call_deep {F : Nat} : ∀ (d d' : Nat), d ≤ d' → ∀ y a h q, hk_call SH pb big ch mt F d y a h = some q → hk_call SH pb big ch mt F d' y a h = some q := by
  intro d
  induction d with
  | zero => intro d' _ y a h q e; simp [hk_call] at e
  | succ d ih =>
    intro d' hd y a h q e
    obtain ⟨d', rfl⟩ : ∃ k, d' = k + 1 := ⟨d' - 1, by omega⟩
    rw [hk_call] at e ⊢
    split at e
    · cases e
    · split at e
      · exact hk_run_mono (hk_call_ge F d) (ih d' (by omega)) _ _ (Nat.le_refl _) _ _ _ _ _ e
      · cases e
end HKM
end
section
/-! ===== what a method's table says of its code, and how an abstract heap lies in the machine's ===== -/
section HKC
variable (cls : List vw_C) (kd : Nat → Nat → Nat) (mt : Nat → Option hk_Q) (hn : String)
def hk_fok (own : String) (a b c d idx : Nat) (q : vw_C) : Bool := decide (c < q.2.2) && decide (hk_lk b = some (.fieldLink own idx q.1 (q.2.1 c).2.1 (q.2.1 c).2.2.1)) && decide ((q.2.1 c).1 = q.1) && decide (kd a c = d)
def hk_swT (pc : Nat) (lo : Int) : Nat → List (Int32 × Nat) → List Int → Bool
  | _, [], [] => true
  | k, q :: r, o :: os => decide (q.1.toInt = lo + k) && decide ((pc : Int) + o = (q.2 : Int)) && hk_swT pc lo (k + 1) r os
  | _, _, _ => false
def hk_swL (pc : Nat) : List (Int32 × Nat) → List (Int × Int) → Bool
  | [], [] => true
  | q :: r, o :: os => decide (q.1.toInt = o.1) && decide ((pc : Int) + o.2 = (q.2 : Int)) && hk_swL pc r os
  | _, _ => false
/-- a call's row: 0 not resolved, 1 Object's constructor, 2 arraycopy, else a method of the table and the way to it -/
def hk_cok (own : String) (a b c d idx : Nat) (way : Nat) : Bool := match a with
  | 0 => true
  | 1 => decide (way = 1) && decide (hk_lk b = some (.methodLink own idx Lib.objectInit))
  | 2 => decide (way = 2) && decide (hk_lk b = some (.methodLink own idx arraycopyName))
  | 3 => decide (way = 2) && decide (hk_lk b = some (.methodLink own idx Lib.Math.max.name))
  | 4 => decide (way = 2) && decide (hk_lk b = some (.methodLink own idx Lib.Math.min.name))
  | 5 => decide (way = 2) && decide (hk_lk b = some (.methodLink own idx Lib.MathLoose.max_long.x))
  | 6 => decide (way = 2) && decide (hk_lk b = some (.methodLink own idx Lib.MathLoose.min_long.x))
  | y + 7 => match mt y with
    | none => false
    | some q => decide (q.2.2.2.2.1.1 = c) && (match way with
      | 0 => decide (hk_lk b = some (.methodLink own idx q.1)) && decide (q.2.2.2.2.1.2.1 = 0) && (match d with
        | 0 => false
        | ci + 1 => match cls[ci]? with
          | none => false
          | some r => decide (r.1 = q.1.cls))
      | 1 => decide (hk_lk b = some (.methodLink own idx q.1)) && decide (q.2.2.2.2.1.2.1 = 1) && decide (1 ≤ c) && decide (d ≠ 0)
      | _ => decide (d = 0) && decide (q.2.2.2.2.1.2.1 = 2) && (decide (hk_lk b = some (.methodLink own idx q.1)) || (hk_nl[b]?).any (fun z => decide (z.1 = own) && decide (z.2.1 = idx) && decide (z.2.2.1 = q.1))))
def hk_iok (own : String) (ini : Bool) (rk mx pc : Nat) (ins : Instr) (len a b c d : Nat) (v : Int32) (w : Int64) (sw : List (Int32 × Nat)) : Bool := match ins with
  | .iconst n => decide (len = 1) && decide (Int32.ofInt n = v)
  | .bipush n => decide (len = 2) && decide ((Int8.ofInt n).toInt32 = v)
  | .sipush n => decide (len = 3) && decide ((Int16.ofInt n).toInt32 = v)
  | .ldc i => decide (len = 2) && (match a with
    | 0 => decide (hk_lk b = some (.constant own i v))
    | _ => true)
  | .ldc_w i => decide (len = 3) && decide (hk_lk b = some (.constant own i v))
  | .lconst n => decide (len = 1) && decide (Int64.ofNat (n : Nat) = w)
  | .ldc2_w i => decide (len = 3) && decide (hk_lk b = some (.constantLong own i w))
  | .iload_n k => decide (len = 1) && decide ((k : Nat) = a)
  | .aload_n k => decide (len = 1) && decide ((k : Nat) = a)
  | .lload_n k => decide (len = 1) && decide ((k : Nat) = a)
  | .iload i => decide (len = 2) && decide (i = a)
  | .aload i => decide (len = 2) && decide (i = a)
  | .lload i => decide (len = 2) && decide (i = a)
  | .istore_n k => decide (len = 1) && decide ((k : Nat) = a) && decide (a < mx)
  | .astore_n k => decide (len = 1) && decide ((k : Nat) = a) && decide (a < mx)
  | .lstore_n k => decide (len = 1) && decide ((k : Nat) = a) && decide (a + 1 < mx)
  | .istore i => decide (len = 2) && decide (i = a) && decide (a < mx)
  | .lstore i => decide (len = 2) && decide (i = a) && decide (a + 1 < mx)
  | .iinc i n => decide (len = 3) && decide (i = a) && decide (a < mx) && decide (Int32.ofInt n = v)
  | .goto o => decide (len = 3) && decide ((pc : Int) + o = (a : Int))
  | .if_icmp _ o => decide (len = 3) && decide ((pc : Int) + o = (a : Int))
  | .ifCond _ o => decide (len = 3) && decide ((pc : Int) + o = (a : Int))
  | .ifnonnull o => decide (len = 3) && decide ((pc : Int) + o = (a : Int))
  | .tableswitch df lo hi os => decide ((pc : Int) + df = (a : Int)) && decide (hi = lo + (os.size : Int) - 1) && hk_swT pc lo 0 sw os.toList
  | .lookupswitch df ps => decide ((pc : Int) + df = (a : Int)) && (ps.toList.zip (ps.toList.drop 1)).all (fun (a, next) => a.1 < next.1) && hk_swL pc sw ps.toList
  | .getfield i => decide (len = 3) && (match cls[a]? with
    | none => false
    | some q => hk_fok kd own a b c d i q)
  | .putfield i => decide (len = 3) && (match cls[a]? with
    | none => false
    | some q => hk_fok kd own a b c d i q && (!(q.2.1 c).2.2.2 || (ini && decide ((q.2.1 c).1 = own))))
  | .new i => (match cls[a]? with
    | none => true
    | some q => decide (len = 3) && decide (hk_lk b = some (.classLink own i q.1)) && decide (hk_lk c = some (.instantiable q.1 q.2.2)) && decide (hk_lk d = some (.initialized q.1)))
  | .newarray _ => decide (len = 2)
  | .anewarray i => decide (len = 3) && decide (hk_lk b = some (.classLink own i hn))
  | .invokevirtual i => hk_cok cls mt own a b c d i 0 && decide (len = 3)
  | .invokespecial i => hk_cok cls mt own a b c d i 1 && decide (len = 3)
  | .invokestatic i => hk_cok cls mt own a b c d i 2 && decide (len = 3)
  | .ireturn => decide (len = 1) && decide (rk = 1 ∨ (rk = 2 ∧ d = 1))
  | .lreturn => decide (len = 1) && decide (rk = 3)
  | .return_ => decide (len = 1) && decide (rk = 0)
  | _ => decide (len = 1)
end HKC
/-- what a launch says beside the words: the array of references, the links to a nest mate's own methods -/
def hk_Ex (hn : String) (U : State) : Prop := va_AO hn U ∧ ∀ q ∈ hk_nl, va_Nw (.methodLinkNest q.1 q.2.1 q.2.2.1 q.2.2.2) U
theorem hk_Ex.call {hn : String} {U : State} {g : JFrame} {mk : MethodId} {a : Array Value} (h : hk_Ex hn U) : hk_Ex hn (U.calling g mk a) := ⟨va_AO.moved (u := U) (U := U.calling g mk a) (Vm.Alike.refl U.vm) h.1, fun q hq => va_Nw.same rfl rfl (h.2 q hq)⟩
theorem hk_Ex.warm {hn : String} {s U : State} (hW : s.WarmedH U.vm) (h : hk_Ex hn s) : hk_Ex hn U := ⟨va_AO.moved hW.alike h.1, fun q hq => va_Nw.warmM hW (h.2 q hq)⟩
def hk_rk (t : Option FieldType) : Nat := match t with
  | none => 0
  | some .int => 1
  | some .boolean => 2
  | some .long => 3
  | _ => 4
def hk_seq : List hk_E → Bool
  | e :: f :: r => decide (f.1 = e.1 + e.2.2.1) && hk_seq (f :: r)
  | _ => true
theorem hk_seq_at : ∀ (cd pre : List hk_E) (e f : hk_E) (r : List hk_E), hk_seq cd = true → cd = pre ++ e :: f :: r → f.1 = e.1 + e.2.2.1
  | _, [], e, f, r, h, rfl => by
    simp only [List.nil_append, hk_seq, Bool.and_eq_true, decide_eq_true_eq] at h
    exact h.1
  | _, [x], e, f, r, h, rfl => by
    simp only [List.cons_append, List.nil_append, hk_seq, Bool.and_eq_true, decide_eq_true_eq] at h
    exact h.2.1
  | _, x :: y :: pre, e, f, r, h, rfl => by
    simp only [List.cons_append, hk_seq, Bool.and_eq_true] at h
    exact hk_seq_at _ (y :: pre) e f r h.2 rfl
theorem hk_sfx_in (t : Nat) : ∀ cd : List hk_E, ∃ pre, cd = pre ++ hk_sfx t cd
  | [] => ⟨[], rfl⟩
  | e :: r => by
    rw [hk_sfx]
    cases hb : Nat.beq e.1 t with
    | true => exact ⟨[], rfl⟩
    | false =>
      obtain ⟨pre, h⟩ := hk_sfx_in t r
      exact ⟨e :: pre, by simpa using h⟩
theorem hk_sfx_hd (t : Nat) : ∀ (cd : List hk_E) (e : hk_E) (r : List hk_E), hk_sfx t cd = e :: r → e.1 = t
  | [], _, _, h => by cases h
  | x :: y, e, r, h => by
    rw [hk_sfx] at h
    cases hb : Nat.beq x.1 t with
    | true => rw [hb] at h; cases h; exact Nat.eq_of_beq_eq_true hb
    | false => rw [hb] at h; exact hk_sfx_hd t y e r h
section HKW
variable (SH : Nat → hk_Sh) (cls : List vw_C) (kd : Nat → Nat → Nat) (sc : Nat) (cI cZ cR cJ : ClassId) (ad : Nat → Nat)
def hk_rf (r : Nat) : Option Nat := match r with
  | 0 => none
  | r + 1 => some (ad (r + 1))
def hk_tv (v : Value) : Value := match v with
  | .ref p => .ref (ad p)
  | v => v
def hk_fv (h : hk_H) (p ci k : Nat) : Value := match kd ci k with
  | 1 => va_rf (hk_rf ad (h.2.2.1 p k))
  | _ => .int (h.1 p k)
def hk_nf (ci : Nat) : Nat := match cls[ci]? with
  | none => 0
  | some q => q.2.2
def hk_ce (h : hk_H) (p : Nat) : va_E := match SH p with
  | (1, ci) => .inr (ci, (List.range (hk_nf cls ci)).map (hk_fv kd ad h p ci))
  | (2, n) => .inl (cI, n, .inl (h.1 p))
  | (3, n) => .inl (cZ, n, .inl (h.1 p))
  | (4, n) => .inl (cR, n, .inr (.inr (.inr (.inr (fun k => hk_rf ad (h.2.2.1 p k))))))
  | (5, n) => .inl (cJ, n, .inr (.inl (h.2.1 p)))
  | _ => .inl (cI, 0, .inl (fun _ => 0))
def hk_ws (h : hk_H) : va_W := h.2.2.2.map (fun p => (ad p, hk_ce SH cls kd cI cZ cR cJ ad h p))
def hk_wf (h : hk_H) : Prop := ∀ p ∈ h.2.2.2, ∀ k, h.2.2.1 p k = 0 ∨ h.2.2.1 p k ∈ h.2.2.2
def hk_vo (al : List Nat) (v : Value) : Prop := match v with
  | .ref p => p ∈ al ∨ p = sc
  | _ => True
def hk_pl (L : hk_L) : List (Nat × Value) := L.zipIdx.filterMap fun q => q.1.map fun v => (q.2, hk_tv ad v)
def hk_tys (hn : String) : List (ClassId × FieldType) := [(cI, .int), (cZ, .boolean), (cR, .object hn), (cJ, .long)]
def hk_sl (al : List Nat) : Nat := (al.map fun p => match SH p with
  | (1, ci) => hk_nf cls ci
  | (_, n) => n).sum
end HKW
theorem hk_tv_rv (ad : Nat → Nat) (r : Nat) : hk_tv ad (hk_rv r) = va_rf (hk_rf ad r) := by
  cases r <;> rfl
theorem hk_pl_mem {ad : Nat → Nat} {L : hk_L} {q : Nat × Value} : q ∈ hk_pl ad L ↔ ∃ v, L[q.1]? = some (some v) ∧ q.2 = hk_tv ad v := by
  unfold hk_pl
  rw [List.mem_filterMap]
  constructor
  · rintro ⟨⟨o, k⟩, h1, h2⟩
    rw [List.mem_zipIdx_iff_getElem?] at h1
    cases o with
    | none => cases h2
    | some v => cases h2; exact ⟨v, h1, rfl⟩
  · rintro ⟨v, h1, h2⟩
    refine ⟨(some v, q.1), ?_, ?_⟩
    · rw [List.mem_zipIdx_iff_getElem?]
      exact h1
    · show some (q.1, hk_tv ad v) = some q
      rw [← h2]
theorem hk_has_sub {ls : Array Slot} {n : Nat} {l l' : List (Nat × Value)} (h : lv_has ls n l) (hs : ∀ q ∈ l', q ∈ l) : lv_has ls n l' := ⟨h.1, h.2.1, fun q hq => h.2.2 q (hs q hq)⟩
theorem hk_has_at {ls : Array Slot} {n a : Nat} {ad : Nat → Nat} {L : hk_L} {v : Value} (h : lv_has ls n (hk_pl ad L)) (hL : L[a]? = some (some v)) : ls[a]? = some (.val (hk_tv ad v)) := h.2.2 (a, hk_tv ad v) (hk_pl_mem.mpr ⟨v, hL, rfl⟩)
theorem hk_tv_cat (ad : Nat → Nat) (v : Value) : (hk_tv ad v).category = v.category := by
  cases v <;> rfl
theorem hk_cat_map (ad : Nat → Nat) (st : List Value) : ((st.map (hk_tv ad)).map fun v => v.category).sum = hk_cat st := by
  induction st with
  | nil => rfl
  | cons v r ih =>
    cases v <;> simp [hk_cat, hk_tv, Value.category] at ih ⊢ <;> omega
theorem hk_s1_len (i : Nat) (v : Value) (L : hk_L) : (hk_s1 i v L).length = L.length := by
  unfold hk_s1
  split
  · simp
  · split <;> simp
theorem hk_s1_at {i k : Nat} {v w : Value} {L : hk_L} (h : (hk_s1 i v L)[k]? = some (some w)) : (k = i ∧ w = v) ∨ (k ≠ i ∧ L[k]? = some (some w) ∧ ¬ (k + 1 = i ∧ w.category = 2)) := by
  by_cases hk : k = i
  · left
    refine ⟨hk, ?_⟩
    subst hk
    have hlen := (List.getElem?_eq_some_iff.mp h).1
    rw [hk_s1_len] at hlen
    unfold hk_s1 at h
    cases k with
    | zero => simp [hlen] at h; exact h.symm
    | succ j =>
      simp only at h
      split at h <;> simp [hlen] at h <;> exact h.symm
  · right
    refine ⟨hk, ?_⟩
    unfold hk_s1 at h
    cases i with
    | zero =>
      simp only at h
      rw [List.getElem?_set_ne (fun q => hk q.symm)] at h
      exact ⟨h, fun q => by omega⟩
    | succ j =>
      simp only at h
      split at h
      · rw [List.getElem?_set_ne (fun q => hk q.symm)] at h
        by_cases hj : j = k
        · subst hj
          rw [List.getElem?_set] at h
          split at h
          · split at h <;> cases h
          · exact absurd rfl ‹_›
        · rw [List.getElem?_set_ne hj] at h
          exact ⟨h, fun q => hj (by omega)⟩
      · rw [List.getElem?_set_ne (fun q => hk q.symm)] at h
        by_cases hj : j = k
        · subst hj
          rw [List.getElem?_set] at h
          split at h
          · split at h <;> cases h
          · exact absurd rfl ‹_›
        · rw [List.getElem?_set_ne hj] at h
          exact ⟨h, fun q => hj (by omega)⟩
      · next n1 n2 =>
        rw [List.getElem?_set_ne (fun q => hk q.symm)] at h
        refine ⟨h, fun q => ?_⟩
        obtain ⟨q1, q2⟩ := q
        have : k = j := by omega
        subst this
        cases w <;> first | exact n1 _ h | exact n2 _ h | exact absurd q2 (by simp [Value.category])
theorem hk_s1_has {ls' : Array Slot} {n i : Nat} {ad : Nat → Nat} {L : hk_L} {v : Value} (h : lv_has ls' n ((i, hk_tv ad v) :: (hk_pl ad L).filter (fun q => !(q.1 == i) && !(q.1 + 1 == i && q.2.category == 2)))) : lv_has ls' n (hk_pl ad (hk_s1 i v L)) := by
  refine hk_has_sub h fun q hq => ?_
  obtain ⟨w, h1, h2⟩ := hk_pl_mem.mp hq
  rcases hk_s1_at h1 with ⟨rfl, rfl⟩ | ⟨h3, h4, h5⟩
  · exact List.mem_cons.mpr (Or.inl (by rw [← h2]))
  · refine List.mem_cons.mpr (Or.inr (List.mem_filter.mpr ⟨hk_pl_mem.mpr ⟨w, h4, h2⟩, ?_⟩))
    rw [h2, hk_tv_cat]
    simp [h3]
    exact Classical.not_and_iff_not_or_not.mp h5
theorem hk_s2_has {ls' : Array Slot} {n i : Nat} {ad : Nat → Nat} {L : hk_L} {v : Value} (h : lv_has ls' n ((i, hk_tv ad v) :: (hk_pl ad L).filter (fun q => !(q.1 == i) && (!(q.1 == i + 1) && !(q.1 + 1 == i && q.2.category == 2))))) : lv_has ls' n (hk_pl ad (hk_s2 i v L)) := by
  refine hk_has_sub h fun q hq => ?_
  obtain ⟨w, h1, h2⟩ := hk_pl_mem.mp hq
  unfold hk_s2 at h1
  have hne : q.1 ≠ i + 1 := by
    intro e
    rw [e, List.getElem?_set] at h1
    split at h1
    · split at h1 <;> cases h1
    · exact absurd rfl ‹_›
  rw [List.getElem?_set_ne (fun q => hne q.symm)] at h1
  rcases hk_s1_at h1 with ⟨rfl, rfl⟩ | ⟨h3, h4, h5⟩
  · exact List.mem_cons.mpr (Or.inl (by rw [← h2]))
  · refine List.mem_cons.mpr (Or.inr (List.mem_filter.mpr ⟨hk_pl_mem.mpr ⟨w, h4, h2⟩, ?_⟩))
    rw [h2, hk_tv_cat]
    simp [h3, hne]
    exact Classical.not_and_iff_not_or_not.mp h5
theorem hk_s2_len (i : Nat) (v : Value) (L : hk_L) : (hk_s2 i v L).length = L.length := by
  unfold hk_s2
  rw [List.length_set, hk_s1_len]
theorem hk_s1_in {i : Nat} {v w : Value} {L : hk_L} (h : some w ∈ hk_s1 i v L) : w = v ∨ some w ∈ L := by
  obtain ⟨k, hk⟩ := List.getElem?_of_mem h
  rcases hk_s1_at hk with ⟨-, e⟩ | ⟨-, e, -⟩
  · exact Or.inl e
  · exact Or.inr (List.mem_of_getElem? e)
theorem hk_s2_in {i : Nat} {v w : Value} {L : hk_L} (h : some w ∈ hk_s2 i v L) : w = v ∨ some w ∈ L := by
  unfold hk_s2 at h
  obtain ⟨k, hk⟩ := List.getElem?_of_mem h
  rw [List.getElem?_set] at hk
  split at hk
  · split at hk <;> cases hk
  · exact hk_s1_in (List.mem_of_getElem? hk)

/-! cells of the abstract heap among the machine's -/
theorem hk_map_at {α : Type} {al : List Nat} {p : Nat} (f : Nat → α) (h : p ∈ al) : ∃ k : Nat, al[k]? = some p ∧ (al.map f)[k]? = some (f p) := by
  obtain ⟨k, hk⟩ := List.getElem?_of_mem h
  exact ⟨k, hk, by rw [List.getElem?_map, hk]; rfl⟩
theorem hk_map_set {α : Type} {al : List Nat} {p k : Nat} {f g : Nat → α} (h : al[k]? = some p) (hn : ∀ i : Nat, al[i]? = some p → i = k) (hg : ∀ q, q ≠ p → g q = f q) : (al.map f).set k (g p) = al.map g := by
  apply List.ext_getElem?
  intro i
  rw [List.getElem?_set, List.getElem?_map, List.getElem?_map]
  by_cases hi : k = i
  · subst hi
    rw [if_pos rfl, h]
    have hlt : k < (al.map f).length := by rw [List.length_map]; exact (List.getElem?_eq_some_iff.mp h).1
    rw [if_pos hlt]
    rfl
  · rw [if_neg hi]
    cases ha : al[i]? with
    | none => rfl
    | some q =>
      have hq : q ≠ p := fun e => hi (hn i (by rw [ha, e])).symm
      show some (f q) = some (g q)
      rw [hg q hq]
section HKV
variable {SH : Nat → hk_Sh} {cls : List vw_C} {kd : Nat → Nat → Nat} {cI cZ cR cJ : ClassId} {ad : Nat → Nat}
theorem hk_ws_at {h : hk_H} {p : Nat} (hp : p ∈ h.2.2.2) : ∃ k : Nat, h.2.2.2[k]? = some p ∧ (hk_ws SH cls kd cI cZ cR cJ ad h)[k]? = some (ad p, hk_ce SH cls kd cI cZ cR cJ ad h p) := hk_map_at _ hp
theorem hk_ws_one {A : Nat → Prop} {h : hk_H} {p k : Nat} (hD : va_D A (hk_ws SH cls kd cI cZ cR cJ ad h)) (hk : h.2.2.2[k]? = some p) : ∀ i : Nat, h.2.2.2[i]? = some p → i = k := by
  intro i hi
  refine hD.1 i k (ad p, hk_ce SH cls kd cI cZ cR cJ ad h p) (ad p, hk_ce SH cls kd cI cZ cR cJ ad h p) ?_ ?_ rfl
  · unfold hk_ws; rw [List.getElem?_map, hi]; rfl
  · unfold hk_ws; rw [List.getElem?_map, hk]; rfl
theorem hk_ws_set {A : Nat → Prop} {h h' : hk_H} {p k : Nat} (hD : va_D A (hk_ws SH cls kd cI cZ cR cJ ad h)) (hk : h.2.2.2[k]? = some p) (ha : h'.2.2.2 = h.2.2.2) (hg : ∀ q, q ≠ p → hk_ce SH cls kd cI cZ cR cJ ad h' q = hk_ce SH cls kd cI cZ cR cJ ad h q) : (hk_ws SH cls kd cI cZ cR cJ ad h).set k (ad p, hk_ce SH cls kd cI cZ cR cJ ad h' p) = hk_ws SH cls kd cI cZ cR cJ ad h' := by
  unfold hk_ws
  rw [ha]
  exact hk_map_set (f := fun p => (ad p, hk_ce SH cls kd cI cZ cR cJ ad h p)) (g := fun p => (ad p, hk_ce SH cls kd cI cZ cR cJ ad h' p)) hk (hk_ws_one hD hk) (fun q hq => by rw [hg q hq])
/-- a cell is what its place's numbers and references are -/
theorem hk_ce_eq {h h' : hk_H} {ad' : Nat → Nat} {q : Nat} (h1 : h'.1 q = h.1 q) (h2 : h'.2.1 q = h.2.1 q) (h3 : ∀ k, hk_rf ad' (h'.2.2.1 q k) = hk_rf ad (h.2.2.1 q k)) : hk_ce SH cls kd cI cZ cR cJ ad' h' q = hk_ce SH cls kd cI cZ cR cJ ad h q := by
  unfold hk_ce
  split
  · congr 2
    apply List.map_congr_left
    intro k _
    unfold hk_fv
    split
    · rw [h3]
    · rw [h1]
  · rw [h1]
  · rw [h1]
  · simp only [h3]
  · rw [h2]
  · rfl
theorem hk_ws_push {h : hk_H} {p a : Nat} (hp : p ∉ h.2.2.2) (hw : hk_wf h) : hk_ws SH cls kd cI cZ cR cJ (fun q => if q = p then a else ad q) (hk_nw h p) = hk_ws SH cls kd cI cZ cR cJ ad h ++ [(a, hk_ce SH cls kd cI cZ cR cJ (fun q => if q = p then a else ad q) (hk_nw h p) p)] := by
  unfold hk_ws
  show List.map _ (h.2.2.2 ++ [p]) = _
  rw [List.map_append]
  congr 1
  · apply List.map_congr_left
    intro q hq
    have hqp : q ≠ p := fun e => hp (e ▸ hq)
    show ((if q = p then a else ad q), _) = _
    rw [if_neg hqp]
    congr 1
    refine hk_ce_eq ?_ ?_ ?_
    · simp [hk_nw, hk_z, hqp]
    · simp [hk_nw, hk_z, hqp]
    · intro k
      simp only [hk_nw, hk_z, if_neg hqp]
      rcases hw q hq k with e | e
      · rw [e]; rfl
      · have hr : h.2.2.1 q k ≠ p := fun e2 => hp (e2 ▸ e)
        cases hz : h.2.2.1 q k with
        | zero => rfl
        | succ z =>
          rw [hz] at hr
          simp only [hk_rf]
          rw [if_neg hr]
  · simp
end HKV
end
section
/-! ===== what the abstract machine answers, the machine answers ===== -/
section HKD
variable (SH : Nat → hk_Sh) (pb big ch : Nat) (cls : List vw_C) (kd : Nat → Nat → Nat) (wl : List Jvm.Cond) (mt : Nat → Option hk_Q) (hn : String) (sc : Nat)
def hk_Mok (q : hk_Q) : Prop :=
  plainName q.1.cls = true ∧ (q.1.cls ≠ "java/lang/invoke/MethodHandle" ∧ q.1.cls ≠ "java/lang/invoke/VarHandle") ∧ .code q.1 q.2.1 q.2.2.1 q.2.2.2.1 ∈ wl ∧ .initialized q.1.cls ∈ wl ∧
  (q.2.2.2.2.1.2.1 = 0 → .instanceMethod q.1 ∈ wl ∧ .selects q.1.cls q.1 q.1 ∈ wl ∧ 1 ≤ q.2.2.2.2.1.1) ∧ (q.2.2.2.2.1.2.1 = 1 → q.1.name = "<init>" ∧ .instanceMethod q.1 ∈ wl ∧ q.2.2.2.1 = none ∧ 1 ≤ q.2.2.2.2.1.1) ∧ (q.2.2.2.2.1.2.1 = 2 → .static q.1 ∈ wl) ∧
  q.2.2.1 ≤ 40 ∧ (parseMethodDescriptor q.1.desc).map (fun d => d.parameters.length) = some (match q.2.2.2.2.1.2.1 with
    | 2 => q.2.2.2.2.1.1
    | _ => q.2.2.2.2.1.1 - 1) ∧
  (q.2.2.2.1 = none ∨ q.2.2.2.1 = some .int ∨ q.2.2.2.1 = some .boolean ∨ q.2.2.2.1 = some .long) ∧
  (∀ e ∈ q.2.2.2.2.2, decode q.2.1 e.1 = .ok (e.2.1, e.2.2.1) ∧ hk_iok cls kd mt hn q.1.cls (decide (q.1.name = "<init>")) (hk_rk q.2.2.2.1) q.2.2.1 e.1 e.2.1 e.2.2.1 e.2.2.2.2.1.1 e.2.2.2.2.1.2.1 e.2.2.2.2.1.2.2.1 e.2.2.2.2.1.2.2.2 e.2.2.2.2.2.1 e.2.2.2.2.2.2.1 e.2.2.2.2.2.2.2 = true) ∧ hk_seq q.2.2.2.2.2 = true ∧ (match q.2.2.2.2.2 with | [] => true | e :: _ => decide (e.1 = 0)) = true
def hk_Cok : Prop := ∀ (ci : Nat) (q : vw_C), cls[ci]? = some q → (∀ w ∈ u_ws q.1 q.2.1 q.2.2, w ∈ wl) ∧ (∃ ty : Nat → FieldType, (∀ k, k < q.2.2 → parseFieldDescriptor (q.2.1 k).2.2.1 = some (ty k)) ∧ ∀ k, k < q.2.2 → (kd ci k = 0 → ty k = .int) ∧ (kd ci k = 1 → (∃ o, ty k = .object o) ∨ ∃ o, ty k = .array o) ∧ (kd ci k = 2 → ty k = .boolean) ∧ kd ci k ≤ 2) ∧ (∀ a, a < q.2.2 → ∀ b, b < q.2.2 → a ≠ b → (q.2.1 a).2.1 ≠ (q.2.1 b).2.1)
def hk_Mw : Prop := .initialized "java/lang/Math" ∈ wl ∧ (.static Lib.Math.max.name ∈ wl ∧ .code Lib.Math.max.name Lib.Math.max.code 2 (some .int) ∈ wl) ∧ (.static Lib.Math.min.name ∈ wl ∧ .code Lib.Math.min.name Lib.Math.min.code 2 (some .int) ∈ wl) ∧ (.static Lib.MathLoose.max_long.x ∈ wl ∧ .code Lib.MathLoose.max_long.x Lib.MathLoose.max_long.code 4 (some .long) ∈ wl) ∧ (.static Lib.MathLoose.min_long.x ∈ wl ∧ .code Lib.MathLoose.min_long.x Lib.MathLoose.min_long.code 4 (some .long) ∈ wl)
def hk_T : Prop :=
  hk_Cok cls kd wl ∧ (∀ (p n : Nat), SH p = (1, n) → ∃ q, cls[n]? = some q) ∧ (∀ (p n : Nat), SH p = (6, n) → p = sc) ∧ (∃ n, SH sc = (6, n)) ∧ (∃ q, cls[ch]? = some q ∧ q.1 = hn) ∧ (∀ w ∈ wl, goodWord w = true) ∧
  (.arrayClass .int ∈ wl ∧ .arrayClass .boolean ∈ wl ∧ .arrayClass .long ∈ wl ∧ ∀ b w, hk_lk b = some w → w ∈ wl) ∧ (.instanceMethod Lib.objectInit ∈ wl ∧ .code Lib.objectInit ⟨#[0xb1]⟩ 1 none ∈ wl ∧ hk_Mw wl) ∧ (.native arraycopyName ∈ wl ∧ .static arraycopyName ∈ wl ∧ .initialized "java/lang/System" ∈ wl) ∧ (∀ (y : Nat) (q : hk_Q), mt y = some q → hk_Mok cls kd wl mt hn q)
/-- the words that a method's contract asks for: its own code first -/
def hk_mw (q : hk_Q) : List Jvm.Cond := .code q.1 q.2.1 q.2.2.1 q.2.2.2.1 :: wl
def hk_rm (d : Nat) (h h' : hk_H) : Room := { frames := d, cells := h'.2.2.2.length - h.2.2.2.length, slots := hk_sl SH cls h'.2.2.2 - hk_sl SH cls h.2.2.2, locals := 64 * d + 1000 }
def hk_ag (ad u : Nat → Nat) (al : List Nat) : Prop := ∀ q, q ∈ al ∨ q = sc → u q = ad q
variable (D : va_G) (cI cZ cR cJ : ClassId) (ad : Nat → Nat) (sz : Nat)
def hk_B (h' : hk_H) (A : Nat → Prop) (u : Nat → Nat) (t : State) : Prop := va_P D cls (hk_ws SH cls kd cI cZ cR cJ u h') t.heap ∧ va_K D cls (hk_tys cI cZ cR cJ hn) t ∧ va_D A (hk_ws SH cls kd cI cZ cR cJ u h')
def hk_Qc (h h' : hk_H) (r : Option Value) : Array Value → State → Outcome → State → Prop := match r with
  | none => va_Qv (fun u => hk_ag sc ad u h.2.2.2 ∧ hk_wf h') (hk_B SH cls kd hn D cI cZ cR cJ h' (va_A (hk_ws SH cls kd cI cZ cR cJ ad h) sz)) (va_A (hk_ws SH cls kd cI cZ cR cJ ad h) sz)
  | some (.int x) => va_Qi (fun y u => y = x ∧ hk_ag sc ad u h.2.2.2 ∧ hk_wf h') (hk_B SH cls kd hn D cI cZ cR cJ h' (va_A (hk_ws SH cls kd cI cZ cR cJ ad h) sz)) (va_A (hk_ws SH cls kd cI cZ cR cJ ad h) sz)
  | some (.long x) => va_Ql (fun y u => y = x ∧ hk_ag sc ad u h.2.2.2 ∧ hk_wf h') (hk_B SH cls kd hn D cI cZ cR cJ h' (va_A (hk_ws SH cls kd cI cZ cR cJ ad h) sz)) (va_A (hk_ws SH cls kd cI cZ cR cJ ad h) sz)
  | _ => fun _ _ _ _ => False
def hk_Pc (a : List Value) (h : hk_H) : Array Value → State → Prop := va_Pc (a.map (hk_tv ad)) (fun U => U.heap.size = sz ∧ va_P D cls (hk_ws SH cls kd cI cZ cR cJ ad h) U.heap ∧ va_K D cls (hk_tys cI cZ cR cJ hn) U ∧ va_D (fun _ => True) (hk_ws SH cls kd cI cZ cR cJ ad h) ∧ hk_Ex hn U)
/-- method y, called so on h, answers r and leaves h': its contract -/
def hk_MetOK (l : Launch) (d y : Nat) (a : List Value) (h : hk_H) (r : Option Value) (h' : hk_H) : Prop :=
  ∀ q, mt y = some q → hk_wf h → (∀ v ∈ a, hk_vo sc h.2.2.2 v) → a.length = q.2.2.2.2.1.1 ∧
  ∀ (D : va_G) (cI cZ cR cJ : ClassId) (ad : Nat → Nat) (sz : Nat), Met l q.1 (hk_mw wl q) (hk_rm SH cls d h h') (hk_Pc SH cls kd hn D cI cZ cR cJ ad sz a h) (hk_Qc SH cls kd hn sc D cI cZ cR cJ ad sz h h' r) (h'.2.2.2.length - h.2.2.2.length) (hk_sl SH cls h'.2.2.2 - hk_sl SH cls h.2.2.2) (va_A (hk_ws SH cls kd cI cZ cR cJ ad h) sz)
end HKD

theorem hk_Pc_blind {SH : Nat → hk_Sh} {cls : List vw_C} {kd : Nat → Nat → Nat} {hn : String} {D : va_G} {cI cZ cR cJ : ClassId} {ad : Nat → Nat} {sz : Nat} {a : List Value} {h : hk_H} : FrameBlind (hk_Pc SH cls kd hn D cI cZ cR cJ ad sz a h) := fun a U g mk q => by
  obtain ⟨q0, q1, qP, qK, qD, qA⟩ := q
  exact ⟨q0, q1, qP, va_K.moved (u := U) (U := U.calling g mk a) (Vm.Alike.refl U.vm) qK, qD, hk_Ex.call qA⟩
theorem hk_tv_congr {ad u : Nat → Nat} {al : List Nat} {sc : Nat} (hu : hk_ag sc ad u al) {v : Value} (hv : hk_vo sc al v) : hk_tv u v = hk_tv ad v := by
  cases v <;> first | rfl | exact congrArg Value.ref (hu _ hv)
theorem hk_map_congr {ad u : Nat → Nat} {al : List Nat} {sc : Nat} (hu : hk_ag sc ad u al) {st : List Value} (hv : ∀ v ∈ st, hk_vo sc al v) : st.map (hk_tv u) = st.map (hk_tv ad) := List.map_congr_left fun v h => hk_tv_congr hu (hv v h)
theorem hk_fmc {α β : Type} {f g : α → Option β} : ∀ l : List α, (∀ x ∈ l, f x = g x) → l.filterMap f = l.filterMap g
  | [], _ => rfl
  | x :: r, h => by
    rw [List.filterMap_cons, List.filterMap_cons, h x List.mem_cons_self, hk_fmc r fun y hy => h y (List.mem_cons_of_mem _ hy)]
theorem hk_pl_congr {ad u : Nat → Nat} {al : List Nat} {sc : Nat} (hu : hk_ag sc ad u al) {L : hk_L} (hv : ∀ v, some v ∈ L → hk_vo sc al v) : hk_pl u L = hk_pl ad L := by
  unfold hk_pl
  refine hk_fmc _ fun q hq => ?_
  obtain ⟨o, k⟩ := q
  cases o with
  | none => rfl
  | some v =>
    have hm : some v ∈ L := by
      rw [List.mem_zipIdx_iff_getElem?] at hq
      exact List.mem_of_getElem? hq
    show some (k, hk_tv u v) = some (k, hk_tv ad v)
    rw [hk_tv_congr hu (hv v hm)]
theorem hk_vo_ge {sc : Nat} {h h' : hk_H} (hg : hk_ge h h') {v : Value} (hv : hk_vo sc h.2.2.2 v) : hk_vo sc h'.2.2.2 v := by
  obtain ⟨x, hx⟩ := hg
  cases v <;> first | trivial | (rcases hv with e | e
                                 · exact Or.inl (by rw [hx]; exact List.mem_append_left _ e)
                                 · exact Or.inr e)
theorem hk_sl_app (SH : Nat → hk_Sh) (cls : List vw_C) (a b : List Nat) : hk_sl SH cls (a ++ b) = hk_sl SH cls a + hk_sl SH cls b := by
  unfold hk_sl
  rw [List.map_append, List.sum_append]
theorem hk_ge_len {h h' : hk_H} (hg : hk_ge h h') : h.2.2.2.length ≤ h'.2.2.2.length := by
  obtain ⟨x, hx⟩ := hg
  rw [hx, List.length_append]
  omega
theorem hk_ge_sl {SH : Nat → hk_Sh} {cls : List vw_C} {h h' : hk_H} (hg : hk_ge h h') : hk_sl SH cls h.2.2.2 ≤ hk_sl SH cls h'.2.2.2 := by
  obtain ⟨x, hx⟩ := hg
  rw [hx, hk_sl_app]
  omega
theorem hk_is_eq {s : hk_Sh} {k n : Nat} (h : hk_is s k n = true) : s = (k, n) := by
  obtain ⟨a, b⟩ := s
  unfold hk_is at h
  rw [Bool.and_eq_true] at h
  have h1 := Nat.eq_of_beq_eq_true h.1
  have h2 := Nat.eq_of_beq_eq_true h.2
  simp only at h1 h2
  rw [h1, h2]
theorem hk_mem_ge {h h' : hk_H} (hg : hk_ge h h') {z : Nat} (hz : z ∈ h.2.2.2) : z ∈ h'.2.2.2 := by
  obtain ⟨x, hx⟩ := hg
  rw [hx]
  exact List.mem_append_left _ hz
end
section
/-! ===== each instruction ===== -/
section HKI
variable {SH : Nat → hk_Sh} {pb big ch : Nat} {cls : List vw_C} {kd : Nat → Nat → Nat} {wl : List Jvm.Cond} {mt : Nat → Option hk_Q} {hn : String} {sc : Nat}
variable {p : Program} {l : Launch} {e : Env} {R : Room} {s : State} {m : MethodId} {args : Array Value} {below : List Frame} {meth : Method} {c : Code} {Q : State → Prop}
variable {D : va_G} {cI cZ cR cJ : ClassId} {A : Nat → Prop} {H0 : Heap} {b0 mx n0 s0 : Nat} {ad0 : Nat → Nat} {al0 : List Nat} {own : String} {cc : ByteArray} {scr : Option (Nat × (Nat → Int32))} {cl : Nat → List Value → hk_H → hk_O}
/-- the abstract state and the machine's agree -/
def hk_R (SH : Nat → hk_Sh) (cls : List vw_C) (kd : Nat → Nat → Nat) (sc : Nat) (D : va_G) (cI cZ cR cJ : ClassId) (A : Nat → Prop) (H0 : Heap) (b0 : Nat) (ad0 : Nat → Nat) (al0 : List Nat) (mx n0 s0 : Nat) (ad : Nat → Nat) (h : hk_H) (H : Heap) (locs : List Loc) (ls : Array Slot) (L : hk_L) (st : List Value) : Prop :=
  va_P D cls (hk_ws SH cls kd cI cZ cR cJ ad h) H ∧ va_D A (hk_ws SH cls kd cI cZ cR cJ ad h) ∧ va_S A H0 H locs ∧ hk_wf h ∧ lv_has ls mx (hk_pl ad L) ∧ L.length = mx ∧ (∀ v ∈ st, hk_vo sc h.2.2.2 v) ∧ (∀ v, some v ∈ L → hk_vo sc h.2.2.2 v) ∧ (ad sc = b0 ∧ hk_ag sc ad0 ad al0 ∧ ∀ z ∈ al0, z ∈ h.2.2.2) ∧ n0 ≤ h.2.2.2.length ∧ s0 ≤ hk_sl SH cls h.2.2.2
/-- the goal at a frame -/
def hk_G (SH : Nat → hk_Sh) (cls : List vw_C) (p : Program) (l : Launch) (e : Env) (R : Room) (s : State) (m : MethodId) (args : Array Value) (below : List Frame) (meth : Method) (c : Code) (Q : State → Prop) (n0 s0 : Nat) (ad : Nat → Nat) (h : hk_H) (H : Heap) (locs : List Loc) (pc : Nat) (ls : Array Slot) (st : List Value) : Prop :=
  W p l e R s m args below meth c H locs (h.2.2.2.length - n0) (hk_sl SH cls h.2.2.2 - s0) Q (F0 m pc ls (st.map (hk_tv ad)))
/-- what goes on behind a step -/
def hk_K (SH : Nat → hk_Sh) (cls : List vw_C) (kd : Nat → Nat → Nat) (sc : Nat) (D : va_G) (cI cZ cR cJ : ClassId) (A : Nat → Prop) (H0 : Heap) (b0 : Nat) (ad0 : Nat → Nat) (al0 : List Nat) (mx n0 s0 : Nat) (p : Program) (l : Launch) (e : Env) (R : Room) (s : State) (m : MethodId) (args : Array Value) (below : List Frame) (meth : Method) (c : Code) (Q : State → Prop) (pc : Nat) (L : hk_L) (st : List Value) (h : hk_H) : Prop :=
  ∀ (ad : Nat → Nat) (H : Heap) (locs : List Loc) (ls : Array Slot), hk_R SH cls kd sc D cI cZ cR cJ A H0 b0 ad0 al0 mx n0 s0 ad h H locs ls L st → hk_G SH cls p l e R s m args below meth c Q n0 s0 ad h H locs pc ls st
theorem hk_R.stk {ad : Nat → Nat} {h : hk_H} {H : Heap} {locs : List Loc} {ls : Array Slot} {L : hk_L} {st st' : List Value} (r : hk_R SH cls kd sc D cI cZ cR cJ A H0 b0 ad0 al0 mx n0 s0 ad h H locs ls L st) (hs : ∀ v ∈ st', hk_vo sc h.2.2.2 v) : hk_R SH cls kd sc D cI cZ cR cJ A H0 b0 ad0 al0 mx n0 s0 ad h H locs ls L st' := by
  obtain ⟨a1, a2, a3, a4, a5, a6, a7, a8, a9⟩ := r
  exact ⟨a1, a2, a3, a4, a5, a6, hs, a8, a9⟩
theorem hk_R.st1 {ad : Nat → Nat} {h : hk_H} {H : Heap} {locs : List Loc} {ls ls' : Array Slot} {L : hk_L} {st st' : List Value} {i : Nat} {v : Value} (r : hk_R SH cls kd sc D cI cZ cR cJ A H0 b0 ad0 al0 mx n0 s0 ad h H locs ls L st) (hl : lv_has ls' mx ((i, hk_tv ad v) :: (hk_pl ad L).filter (fun q => !(q.1 == i) && !(q.1 + 1 == i && q.2.category == 2)))) (hv : hk_vo sc h.2.2.2 v) (hs : ∀ v ∈ st', hk_vo sc h.2.2.2 v) : hk_R SH cls kd sc D cI cZ cR cJ A H0 b0 ad0 al0 mx n0 s0 ad h H locs ls' (hk_s1 i v L) st' := by
  obtain ⟨a1, a2, a3, a4, a5, a6, a7, a8, a9⟩ := r
  refine ⟨a1, a2, a3, a4, hk_s1_has hl, by rw [hk_s1_len]; exact a6, hs, fun w hw => ?_, a9⟩
  rcases hk_s1_in hw with rfl | h1
  · exact hv
  · exact a8 w h1
theorem hk_R.st2 {ad : Nat → Nat} {h : hk_H} {H : Heap} {locs : List Loc} {ls ls' : Array Slot} {L : hk_L} {st st' : List Value} {i : Nat} {v : Value} (r : hk_R SH cls kd sc D cI cZ cR cJ A H0 b0 ad0 al0 mx n0 s0 ad h H locs ls L st) (hl : lv_has ls' mx ((i, hk_tv ad v) :: (hk_pl ad L).filter (fun q => !(q.1 == i) && (!(q.1 == i + 1) && !(q.1 + 1 == i && q.2.category == 2))))) (hv : hk_vo sc h.2.2.2 v) (hs : ∀ v ∈ st', hk_vo sc h.2.2.2 v) : hk_R SH cls kd sc D cI cZ cR cJ A H0 b0 ad0 al0 mx n0 s0 ad h H locs ls' (hk_s2 i v L) st' := by
  obtain ⟨a1, a2, a3, a4, a5, a6, a7, a8, a9⟩ := r
  refine ⟨a1, a2, a3, a4, hk_s2_has hl, by rw [hk_s2_len]; exact a6, hs, fun w hw => ?_, a9⟩
  rcases hk_s2_in hw with rfl | h1
  · exact hv
  · exact a8 w h1
theorem hk_R.hp {ad : Nat → Nat} {h h' : hk_H} {H H' : Heap} {locs locs' : List Loc} {ls : Array Slot} {L : hk_L} {st st' : List Value} (r : hk_R SH cls kd sc D cI cZ cR cJ A H0 b0 ad0 al0 mx n0 s0 ad h H locs ls L st) (hP : va_P D cls (hk_ws SH cls kd cI cZ cR cJ ad h') H') (hD : va_D A (hk_ws SH cls kd cI cZ cR cJ ad h')) (hS : va_S A H0 H' locs') (hw : hk_wf h') (ha : h'.2.2.2 = h.2.2.2) (hs : ∀ v ∈ st', hk_vo sc h.2.2.2 v) : hk_R SH cls kd sc D cI cZ cR cJ A H0 b0 ad0 al0 mx n0 s0 ad h' H' locs' ls L st' := by
  obtain ⟨a1, a2, a3, a4, a5, a6, a7, a8, a9, a10, a11⟩ := r
  exact ⟨hP, hD, hS, hw, a5, a6, by rw [ha]; exact hs, by rw [ha]; exact a8, ⟨a9.1, a9.2.1, by rw [ha]; exact a9.2.2⟩, by rw [ha]; exact a10, by rw [ha]; exact a11⟩
theorem hk_vo2 {al : List Nat} {v w : Value} {r : List Value} (h : ∀ x ∈ v :: w :: r, hk_vo sc al x) : hk_vo sc al v ∧ hk_vo sc al w ∧ ∀ x ∈ r, hk_vo sc al x := ⟨h v (by simp), h w (by simp), fun x hx => h x (by simp [hx])⟩
theorem hk_voc {al : List Nat} {v : Value} {r : List Value} (hv : hk_vo sc al v) (hr : ∀ x ∈ r, hk_vo sc al x) : ∀ x ∈ v :: r, hk_vo sc al x := fun x hx => by
  rcases List.mem_cons.mp hx with rfl | h
  · exact hv
  · exact hr x h
theorem hk_vot {al : List Nat} {v : Value} {r : List Value} (h : ∀ x ∈ v :: r, hk_vo sc al x) : hk_vo sc al v ∧ ∀ x ∈ r, hk_vo sc al x := ⟨h v (by simp), fun x hx => h x (by simp [hx])⟩
theorem hk_aliv {al : List Nat} {q n k : Nat} (hS : ∃ n, SH sc = (6, n)) (hv : hk_vo sc al (.ref q)) (hq : SH q = (k, n)) (hk : k ≠ 6) : q ∈ al := by
  rcases hv with h | h
  · exact h
  · subst h
    obtain ⟨n', h'⟩ := hS
    rw [h'] at hq
    cases hq
    exact absurd rfl hk
/-- the branches of a compare -/
theorem hk_cmp_snd {X : hk_O} {cnd : ClassFile.Cond} {x y : Int32} {a1 a2 : hk_O} (he : hk_cmp (fun P d k0 k1 => @ite _ P d k0 k1) cnd x y a1 a2 = X) : (match cnd with
    | .eq => x = y
    | .ne => ¬ x = y
    | .lt => x < y
    | .ge => y ≤ x
    | .gt => y < x
    | .le => x ≤ y) ∧ a1 = X ∨ (¬ (match cnd with
    | .eq => x = y
    | .ne => ¬ x = y
    | .lt => x < y
    | .ge => y ≤ x
    | .gt => y < x
    | .le => x ≤ y)) ∧ a2 = X := by
  cases cnd <;> simp only [hk_cmp] at he ⊢ <;> split at he <;> simp_all
end HKI
end
section
/-! ===== a step of the abstract machine is a step of the machine ===== -/
section HKJ
variable {SH : Nat → hk_Sh} {pb big ch : Nat} {cls : List vw_C} {kd : Nat → Nat → Nat} {wl : List Jvm.Cond} {mt : Nat → Option hk_Q} {hn : String} {sc : Nat}
variable {p : Program} {l : Launch} {e : Env} {R : Room} {s : State} {m : MethodId} {args : Array Value} {below : List Frame} {meth : Method} {c : Code} {Q : State → Prop}
variable {D : va_G} {cI cZ cR cJ : ClassId} {A : Nat → Prop} {H0 : Heap} {b0 mx n0 s0 dd : Nat} {ad0 : Nat → Nat} {al0 : List Nat} {own : String} {cc : ByteArray} {scr : Option (Nat × (Nat → Int32))} {cl : Nat → List Value → hk_H → hk_O}
/-- what a frame's run stands on -/
def hk_Fx (SH : Nat → hk_Sh) (ch : Nat) (cls : List vw_C) (kd : Nat → Nat → Nat) (wl : List Jvm.Cond) (mt : Nat → Option hk_Q) (hn : String) (sc : Nat) (p : Program) (l : Launch) (R : Room) (s : State) (m : MethodId) (args : Array Value) (meth : Method) (c : Code) (D : va_G) (cI cZ cR cJ : ClassId) (A : Nat → Prop) (H0 : Heap) (b0 mx dd : Nat) (own : String) (cc : ByteArray) (scr : Option (Nat × (Nat → Int32))) (cl : Nat → List Value → hk_H → hk_O) (ini : Bool) : Prop :=
  hk_T SH ch cls kd wl mt hn sc ∧ p.tables.exec = Jvm.exec ∧ c.code = cc ∧ c.maxLocals = mx ∧ s.vm.findClass own = some m.cls ∧ (∀ w ∈ wl, w.before args s = true) ∧ va_K D cls (hk_tys cI cZ cR cJ hn) s ∧ (∀ q, H0.size ≤ q → A q) ∧ (ini = true → meth.name = "<init>") ∧ (∀ q, scr = some q → va_X b0 q.1 q.2 s H0 ∧ b0 < H0.size ∧ ¬ A b0) ∧ (∀ y a h r h', cl y a h = some (r, h') → hk_MetOK SH cls kd wl mt hn sc l dd y a h r h') ∧ (∀ y a h q, cl y a h = some q → hk_ge h q.2) ∧ dd + 1 ≤ R.frames ∧ 64 * dd + 1064 ≤ R.locals ∧ hk_Ex hn s

set_option maxHeartbeats 1000000 in
theorem hk_z_iconst {ini : Bool} {rk : Nat} (FX : hk_Fx SH ch cls kd wl mt hn sc p l R s m args meth c D cI cZ cR cJ A H0 b0 mx dd own cc scr cl ini) {pc len a b c1 d : Nat} {v : Int32} {w : Int64} {sw : List (Int32 × Nat)} {i : Int} (hdg : decode cc pc = .ok (.iconst i, len)) (hck : hk_iok cls kd mt hn own ini rk mx pc (.iconst i) len a b c1 d v w sw = true) {nxr : hk_L → List Value → hk_H → hk_O} {jmr : Nat → hk_L → List Value → hk_H → hk_O} {qf : Option Value × hk_H} (hnx : ∀ L st h, nxr L st h = some qf → hk_K SH cls kd sc D cI cZ cR cJ A H0 b0 ad0 al0 mx n0 s0 p l e R s m args below meth c Q (pc + len) L st h) (hjm : ∀ t L st h, jmr t L st h = some qf → hk_K SH cls kd sc D cI cZ cR cJ A H0 b0 ad0 al0 mx n0 s0 p l e R s m args below meth c Q t L st h)  {L : hk_L} {st : List Value} {h : hk_H} (hrun : hk_stp SH pb big none nxr jmr (fun P d k => @ite _ P d k none) (fun P d k0 k1 => @ite _ P d k0 k1) (fun y a h k => (cl y a h).bind (fun q => k q.1 q.2)) (fun r h => some (r, h)) scr ch (.iconst i) a c1 d v w sw L st h = some qf) : hk_K SH cls kd sc D cI cZ cR cJ A H0 b0 ad0 al0 mx n0 s0 p l e R s m args below meth c Q pc L st h := by
  obtain ⟨TB, hx, hb, hml, hown, hts, hK, hA, hin, hX, hcl, hge, hR1, hR2, hAO⟩ := FX
  intro ad H locs ls r
  obtain ⟨hP, hD, hS, hwf, hlv, hlen, hsv, hLv, hadb, hn0, hs0⟩ := id r
  unfold hk_G
  have go : ∀ {st' : List Value}, nxr L st' h = some qf → (∀ v ∈ st', hk_vo sc h.2.2.2 v) → hk_G SH cls p l e R s m args below meth c Q n0 s0 ad h H locs (pc + len) ls st' := fun h1 h2 => hnx _ _ _ h1 _ _ _ _ (r.stk h2)
  have gj : ∀ {t : Nat} {st' : List Value}, jmr t L st' h = some qf → (∀ v ∈ st', hk_vo sc h.2.2.2 v) → hk_G SH cls p l e R s m args below meth c Q n0 s0 ad h H locs t ls st' := fun h1 h2 => hjm _ _ _ _ h1 _ _ _ _ (r.stk h2)
  unfold hk_G at go gj
  simp only [hk_iok, Bool.and_eq_true, decide_eq_true_eq] at hck
  simp only [hk_stp] at hrun
  obtain ⟨rfl, hv⟩ := hck
  exact lv_iconst hx hb hdg hv (go hrun (hk_voc trivial hsv))

set_option maxHeartbeats 1000000 in
theorem hk_z_bipush {ini : Bool} {rk : Nat} (FX : hk_Fx SH ch cls kd wl mt hn sc p l R s m args meth c D cI cZ cR cJ A H0 b0 mx dd own cc scr cl ini) {pc len a b c1 d : Nat} {v : Int32} {w : Int64} {sw : List (Int32 × Nat)} {i : Int} (hdg : decode cc pc = .ok (.bipush i, len)) (hck : hk_iok cls kd mt hn own ini rk mx pc (.bipush i) len a b c1 d v w sw = true) {nxr : hk_L → List Value → hk_H → hk_O} {jmr : Nat → hk_L → List Value → hk_H → hk_O} {qf : Option Value × hk_H} (hnx : ∀ L st h, nxr L st h = some qf → hk_K SH cls kd sc D cI cZ cR cJ A H0 b0 ad0 al0 mx n0 s0 p l e R s m args below meth c Q (pc + len) L st h) (hjm : ∀ t L st h, jmr t L st h = some qf → hk_K SH cls kd sc D cI cZ cR cJ A H0 b0 ad0 al0 mx n0 s0 p l e R s m args below meth c Q t L st h)  {L : hk_L} {st : List Value} {h : hk_H} (hrun : hk_stp SH pb big none nxr jmr (fun P d k => @ite _ P d k none) (fun P d k0 k1 => @ite _ P d k0 k1) (fun y a h k => (cl y a h).bind (fun q => k q.1 q.2)) (fun r h => some (r, h)) scr ch (.bipush i) a c1 d v w sw L st h = some qf) : hk_K SH cls kd sc D cI cZ cR cJ A H0 b0 ad0 al0 mx n0 s0 p l e R s m args below meth c Q pc L st h := by
  obtain ⟨TB, hx, hb, hml, hown, hts, hK, hA, hin, hX, hcl, hge, hR1, hR2, hAO⟩ := FX
  intro ad H locs ls r
  obtain ⟨hP, hD, hS, hwf, hlv, hlen, hsv, hLv, hadb, hn0, hs0⟩ := id r
  unfold hk_G
  have go : ∀ {st' : List Value}, nxr L st' h = some qf → (∀ v ∈ st', hk_vo sc h.2.2.2 v) → hk_G SH cls p l e R s m args below meth c Q n0 s0 ad h H locs (pc + len) ls st' := fun h1 h2 => hnx _ _ _ h1 _ _ _ _ (r.stk h2)
  have gj : ∀ {t : Nat} {st' : List Value}, jmr t L st' h = some qf → (∀ v ∈ st', hk_vo sc h.2.2.2 v) → hk_G SH cls p l e R s m args below meth c Q n0 s0 ad h H locs t ls st' := fun h1 h2 => hjm _ _ _ _ h1 _ _ _ _ (r.stk h2)
  unfold hk_G at go gj
  simp only [hk_iok, Bool.and_eq_true, decide_eq_true_eq] at hck
  simp only [hk_stp] at hrun
  obtain ⟨rfl, hv⟩ := hck
  exact lv_bipush hx hb hdg hv (go hrun (hk_voc trivial hsv))

set_option maxHeartbeats 1000000 in
theorem hk_z_sipush {ini : Bool} {rk : Nat} (FX : hk_Fx SH ch cls kd wl mt hn sc p l R s m args meth c D cI cZ cR cJ A H0 b0 mx dd own cc scr cl ini) {pc len a b c1 d : Nat} {v : Int32} {w : Int64} {sw : List (Int32 × Nat)} {i : Int} (hdg : decode cc pc = .ok (.sipush i, len)) (hck : hk_iok cls kd mt hn own ini rk mx pc (.sipush i) len a b c1 d v w sw = true) {nxr : hk_L → List Value → hk_H → hk_O} {jmr : Nat → hk_L → List Value → hk_H → hk_O} {qf : Option Value × hk_H} (hnx : ∀ L st h, nxr L st h = some qf → hk_K SH cls kd sc D cI cZ cR cJ A H0 b0 ad0 al0 mx n0 s0 p l e R s m args below meth c Q (pc + len) L st h) (hjm : ∀ t L st h, jmr t L st h = some qf → hk_K SH cls kd sc D cI cZ cR cJ A H0 b0 ad0 al0 mx n0 s0 p l e R s m args below meth c Q t L st h)  {L : hk_L} {st : List Value} {h : hk_H} (hrun : hk_stp SH pb big none nxr jmr (fun P d k => @ite _ P d k none) (fun P d k0 k1 => @ite _ P d k0 k1) (fun y a h k => (cl y a h).bind (fun q => k q.1 q.2)) (fun r h => some (r, h)) scr ch (.sipush i) a c1 d v w sw L st h = some qf) : hk_K SH cls kd sc D cI cZ cR cJ A H0 b0 ad0 al0 mx n0 s0 p l e R s m args below meth c Q pc L st h := by
  obtain ⟨TB, hx, hb, hml, hown, hts, hK, hA, hin, hX, hcl, hge, hR1, hR2, hAO⟩ := FX
  intro ad H locs ls r
  obtain ⟨hP, hD, hS, hwf, hlv, hlen, hsv, hLv, hadb, hn0, hs0⟩ := id r
  unfold hk_G
  have go : ∀ {st' : List Value}, nxr L st' h = some qf → (∀ v ∈ st', hk_vo sc h.2.2.2 v) → hk_G SH cls p l e R s m args below meth c Q n0 s0 ad h H locs (pc + len) ls st' := fun h1 h2 => hnx _ _ _ h1 _ _ _ _ (r.stk h2)
  have gj : ∀ {t : Nat} {st' : List Value}, jmr t L st' h = some qf → (∀ v ∈ st', hk_vo sc h.2.2.2 v) → hk_G SH cls p l e R s m args below meth c Q n0 s0 ad h H locs t ls st' := fun h1 h2 => hjm _ _ _ _ h1 _ _ _ _ (r.stk h2)
  unfold hk_G at go gj
  simp only [hk_iok, Bool.and_eq_true, decide_eq_true_eq] at hck
  simp only [hk_stp] at hrun
  obtain ⟨rfl, hv⟩ := hck
  exact lv_sipush hx hb hdg hv (go hrun (hk_voc trivial hsv))

set_option maxHeartbeats 1000000 in
theorem hk_z_ldc {ini : Bool} {rk : Nat} (FX : hk_Fx SH ch cls kd wl mt hn sc p l R s m args meth c D cI cZ cR cJ A H0 b0 mx dd own cc scr cl ini) {pc len a b c1 d : Nat} {v : Int32} {w : Int64} {sw : List (Int32 × Nat)} {i : Nat} (hdg : decode cc pc = .ok (.ldc i, len)) (hck : hk_iok cls kd mt hn own ini rk mx pc (.ldc i) len a b c1 d v w sw = true) {nxr : hk_L → List Value → hk_H → hk_O} {jmr : Nat → hk_L → List Value → hk_H → hk_O} {qf : Option Value × hk_H} (hnx : ∀ L st h, nxr L st h = some qf → hk_K SH cls kd sc D cI cZ cR cJ A H0 b0 ad0 al0 mx n0 s0 p l e R s m args below meth c Q (pc + len) L st h) (hjm : ∀ t L st h, jmr t L st h = some qf → hk_K SH cls kd sc D cI cZ cR cJ A H0 b0 ad0 al0 mx n0 s0 p l e R s m args below meth c Q t L st h)  {L : hk_L} {st : List Value} {h : hk_H} (hrun : hk_stp SH pb big none nxr jmr (fun P d k => @ite _ P d k none) (fun P d k0 k1 => @ite _ P d k0 k1) (fun y a h k => (cl y a h).bind (fun q => k q.1 q.2)) (fun r h => some (r, h)) scr ch (.ldc i) a c1 d v w sw L st h = some qf) : hk_K SH cls kd sc D cI cZ cR cJ A H0 b0 ad0 al0 mx n0 s0 p l e R s m args below meth c Q pc L st h := by
  obtain ⟨TB, hx, hb, hml, hown, hts, hK, hA, hin, hX, hcl, hge, hR1, hR2, hAO⟩ := FX
  intro ad H locs ls r
  obtain ⟨hP, hD, hS, hwf, hlv, hlen, hsv, hLv, hadb, hn0, hs0⟩ := id r
  unfold hk_G
  have go : ∀ {st' : List Value}, nxr L st' h = some qf → (∀ v ∈ st', hk_vo sc h.2.2.2 v) → hk_G SH cls p l e R s m args below meth c Q n0 s0 ad h H locs (pc + len) ls st' := fun h1 h2 => hnx _ _ _ h1 _ _ _ _ (r.stk h2)
  have gj : ∀ {t : Nat} {st' : List Value}, jmr t L st' h = some qf → (∀ v ∈ st', hk_vo sc h.2.2.2 v) → hk_G SH cls p l e R s m args below meth c Q n0 s0 ad h H locs t ls st' := fun h1 h2 => hjm _ _ _ _ h1 _ _ _ _ (r.stk h2)
  unfold hk_G at go gj
  simp only [hk_iok, Bool.and_eq_true, decide_eq_true_eq] at hck
  simp only [hk_stp] at hrun
  obtain ⟨rfl, hv⟩ := hck
  split at hrun
  · exact lv_ldc hx hb hown (hts _ (TB.2.2.2.2.2.2.1.2.2.2 _ _ (of_decide_eq_true hv))) hdg (go hrun (hk_voc trivial hsv))
  · cases hrun

set_option maxHeartbeats 1000000 in
theorem hk_z_ldc_w {ini : Bool} {rk : Nat} (FX : hk_Fx SH ch cls kd wl mt hn sc p l R s m args meth c D cI cZ cR cJ A H0 b0 mx dd own cc scr cl ini) {pc len a b c1 d : Nat} {v : Int32} {w : Int64} {sw : List (Int32 × Nat)} {i : Nat} (hdg : decode cc pc = .ok (.ldc_w i, len)) (hck : hk_iok cls kd mt hn own ini rk mx pc (.ldc_w i) len a b c1 d v w sw = true) {nxr : hk_L → List Value → hk_H → hk_O} {jmr : Nat → hk_L → List Value → hk_H → hk_O} {qf : Option Value × hk_H} (hnx : ∀ L st h, nxr L st h = some qf → hk_K SH cls kd sc D cI cZ cR cJ A H0 b0 ad0 al0 mx n0 s0 p l e R s m args below meth c Q (pc + len) L st h) (hjm : ∀ t L st h, jmr t L st h = some qf → hk_K SH cls kd sc D cI cZ cR cJ A H0 b0 ad0 al0 mx n0 s0 p l e R s m args below meth c Q t L st h)  {L : hk_L} {st : List Value} {h : hk_H} (hrun : hk_stp SH pb big none nxr jmr (fun P d k => @ite _ P d k none) (fun P d k0 k1 => @ite _ P d k0 k1) (fun y a h k => (cl y a h).bind (fun q => k q.1 q.2)) (fun r h => some (r, h)) scr ch (.ldc_w i) a c1 d v w sw L st h = some qf) : hk_K SH cls kd sc D cI cZ cR cJ A H0 b0 ad0 al0 mx n0 s0 p l e R s m args below meth c Q pc L st h := by
  obtain ⟨TB, hx, hb, hml, hown, hts, hK, hA, hin, hX, hcl, hge, hR1, hR2, hAO⟩ := FX
  intro ad H locs ls r
  obtain ⟨hP, hD, hS, hwf, hlv, hlen, hsv, hLv, hadb, hn0, hs0⟩ := id r
  unfold hk_G
  have go : ∀ {st' : List Value}, nxr L st' h = some qf → (∀ v ∈ st', hk_vo sc h.2.2.2 v) → hk_G SH cls p l e R s m args below meth c Q n0 s0 ad h H locs (pc + len) ls st' := fun h1 h2 => hnx _ _ _ h1 _ _ _ _ (r.stk h2)
  have gj : ∀ {t : Nat} {st' : List Value}, jmr t L st' h = some qf → (∀ v ∈ st', hk_vo sc h.2.2.2 v) → hk_G SH cls p l e R s m args below meth c Q n0 s0 ad h H locs t ls st' := fun h1 h2 => hjm _ _ _ _ h1 _ _ _ _ (r.stk h2)
  unfold hk_G at go gj
  simp only [hk_iok, Bool.and_eq_true, decide_eq_true_eq] at hck
  simp only [hk_stp] at hrun
  obtain ⟨rfl, hv⟩ := hck
  exact lv_ldcw hx hb hown (hts _ (TB.2.2.2.2.2.2.1.2.2.2 _ _ hv)) hdg (go hrun (hk_voc trivial hsv))

set_option maxHeartbeats 1000000 in
theorem hk_z_lconst {ini : Bool} {rk : Nat} (FX : hk_Fx SH ch cls kd wl mt hn sc p l R s m args meth c D cI cZ cR cJ A H0 b0 mx dd own cc scr cl ini) {pc len a b c1 d : Nat} {v : Int32} {w : Int64} {sw : List (Int32 × Nat)} {i : Fin 2} (hdg : decode cc pc = .ok (.lconst i, len)) (hck : hk_iok cls kd mt hn own ini rk mx pc (.lconst i) len a b c1 d v w sw = true) {nxr : hk_L → List Value → hk_H → hk_O} {jmr : Nat → hk_L → List Value → hk_H → hk_O} {qf : Option Value × hk_H} (hnx : ∀ L st h, nxr L st h = some qf → hk_K SH cls kd sc D cI cZ cR cJ A H0 b0 ad0 al0 mx n0 s0 p l e R s m args below meth c Q (pc + len) L st h) (hjm : ∀ t L st h, jmr t L st h = some qf → hk_K SH cls kd sc D cI cZ cR cJ A H0 b0 ad0 al0 mx n0 s0 p l e R s m args below meth c Q t L st h)  {L : hk_L} {st : List Value} {h : hk_H} (hrun : hk_stp SH pb big none nxr jmr (fun P d k => @ite _ P d k none) (fun P d k0 k1 => @ite _ P d k0 k1) (fun y a h k => (cl y a h).bind (fun q => k q.1 q.2)) (fun r h => some (r, h)) scr ch (.lconst i) a c1 d v w sw L st h = some qf) : hk_K SH cls kd sc D cI cZ cR cJ A H0 b0 ad0 al0 mx n0 s0 p l e R s m args below meth c Q pc L st h := by
  obtain ⟨TB, hx, hb, hml, hown, hts, hK, hA, hin, hX, hcl, hge, hR1, hR2, hAO⟩ := FX
  intro ad H locs ls r
  obtain ⟨hP, hD, hS, hwf, hlv, hlen, hsv, hLv, hadb, hn0, hs0⟩ := id r
  unfold hk_G
  have go : ∀ {st' : List Value}, nxr L st' h = some qf → (∀ v ∈ st', hk_vo sc h.2.2.2 v) → hk_G SH cls p l e R s m args below meth c Q n0 s0 ad h H locs (pc + len) ls st' := fun h1 h2 => hnx _ _ _ h1 _ _ _ _ (r.stk h2)
  have gj : ∀ {t : Nat} {st' : List Value}, jmr t L st' h = some qf → (∀ v ∈ st', hk_vo sc h.2.2.2 v) → hk_G SH cls p l e R s m args below meth c Q n0 s0 ad h H locs t ls st' := fun h1 h2 => hjm _ _ _ _ h1 _ _ _ _ (r.stk h2)
  unfold hk_G at go gj
  simp only [hk_iok, Bool.and_eq_true, decide_eq_true_eq] at hck
  simp only [hk_stp] at hrun
  obtain ⟨rfl, hv⟩ := hck
  exact lv_lconst hx hb hdg hv (go hrun (hk_voc trivial hsv))

set_option maxHeartbeats 1000000 in
theorem hk_z_ldc2_w {ini : Bool} {rk : Nat} (FX : hk_Fx SH ch cls kd wl mt hn sc p l R s m args meth c D cI cZ cR cJ A H0 b0 mx dd own cc scr cl ini) {pc len a b c1 d : Nat} {v : Int32} {w : Int64} {sw : List (Int32 × Nat)} {i : Nat} (hdg : decode cc pc = .ok (.ldc2_w i, len)) (hck : hk_iok cls kd mt hn own ini rk mx pc (.ldc2_w i) len a b c1 d v w sw = true) {nxr : hk_L → List Value → hk_H → hk_O} {jmr : Nat → hk_L → List Value → hk_H → hk_O} {qf : Option Value × hk_H} (hnx : ∀ L st h, nxr L st h = some qf → hk_K SH cls kd sc D cI cZ cR cJ A H0 b0 ad0 al0 mx n0 s0 p l e R s m args below meth c Q (pc + len) L st h) (hjm : ∀ t L st h, jmr t L st h = some qf → hk_K SH cls kd sc D cI cZ cR cJ A H0 b0 ad0 al0 mx n0 s0 p l e R s m args below meth c Q t L st h)  {L : hk_L} {st : List Value} {h : hk_H} (hrun : hk_stp SH pb big none nxr jmr (fun P d k => @ite _ P d k none) (fun P d k0 k1 => @ite _ P d k0 k1) (fun y a h k => (cl y a h).bind (fun q => k q.1 q.2)) (fun r h => some (r, h)) scr ch (.ldc2_w i) a c1 d v w sw L st h = some qf) : hk_K SH cls kd sc D cI cZ cR cJ A H0 b0 ad0 al0 mx n0 s0 p l e R s m args below meth c Q pc L st h := by
  obtain ⟨TB, hx, hb, hml, hown, hts, hK, hA, hin, hX, hcl, hge, hR1, hR2, hAO⟩ := FX
  intro ad H locs ls r
  obtain ⟨hP, hD, hS, hwf, hlv, hlen, hsv, hLv, hadb, hn0, hs0⟩ := id r
  unfold hk_G
  have go : ∀ {st' : List Value}, nxr L st' h = some qf → (∀ v ∈ st', hk_vo sc h.2.2.2 v) → hk_G SH cls p l e R s m args below meth c Q n0 s0 ad h H locs (pc + len) ls st' := fun h1 h2 => hnx _ _ _ h1 _ _ _ _ (r.stk h2)
  have gj : ∀ {t : Nat} {st' : List Value}, jmr t L st' h = some qf → (∀ v ∈ st', hk_vo sc h.2.2.2 v) → hk_G SH cls p l e R s m args below meth c Q n0 s0 ad h H locs t ls st' := fun h1 h2 => hjm _ _ _ _ h1 _ _ _ _ (r.stk h2)
  unfold hk_G at go gj
  simp only [hk_iok, Bool.and_eq_true, decide_eq_true_eq] at hck
  simp only [hk_stp] at hrun
  obtain ⟨rfl, hv⟩ := hck
  exact lv_ldc2 hx hb hown (hts _ (TB.2.2.2.2.2.2.1.2.2.2 _ _ hv)) hdg (go hrun (hk_voc trivial hsv))

set_option maxHeartbeats 1000000 in
theorem hk_z_iload_n {ini : Bool} {rk : Nat} (FX : hk_Fx SH ch cls kd wl mt hn sc p l R s m args meth c D cI cZ cR cJ A H0 b0 mx dd own cc scr cl ini) {pc len a b c1 d : Nat} {v : Int32} {w : Int64} {sw : List (Int32 × Nat)} {k : Fin 4} (hdg : decode cc pc = .ok (.iload_n k, len)) (hck : hk_iok cls kd mt hn own ini rk mx pc (.iload_n k) len a b c1 d v w sw = true) {nxr : hk_L → List Value → hk_H → hk_O} {jmr : Nat → hk_L → List Value → hk_H → hk_O} {qf : Option Value × hk_H} (hnx : ∀ L st h, nxr L st h = some qf → hk_K SH cls kd sc D cI cZ cR cJ A H0 b0 ad0 al0 mx n0 s0 p l e R s m args below meth c Q (pc + len) L st h) (hjm : ∀ t L st h, jmr t L st h = some qf → hk_K SH cls kd sc D cI cZ cR cJ A H0 b0 ad0 al0 mx n0 s0 p l e R s m args below meth c Q t L st h)  {L : hk_L} {st : List Value} {h : hk_H} (hrun : hk_stp SH pb big none nxr jmr (fun P d k => @ite _ P d k none) (fun P d k0 k1 => @ite _ P d k0 k1) (fun y a h k => (cl y a h).bind (fun q => k q.1 q.2)) (fun r h => some (r, h)) scr ch (.iload_n k) a c1 d v w sw L st h = some qf) : hk_K SH cls kd sc D cI cZ cR cJ A H0 b0 ad0 al0 mx n0 s0 p l e R s m args below meth c Q pc L st h := by
  obtain ⟨TB, hx, hb, hml, hown, hts, hK, hA, hin, hX, hcl, hge, hR1, hR2, hAO⟩ := FX
  intro ad H locs ls r
  obtain ⟨hP, hD, hS, hwf, hlv, hlen, hsv, hLv, hadb, hn0, hs0⟩ := id r
  unfold hk_G
  have go : ∀ {st' : List Value}, nxr L st' h = some qf → (∀ v ∈ st', hk_vo sc h.2.2.2 v) → hk_G SH cls p l e R s m args below meth c Q n0 s0 ad h H locs (pc + len) ls st' := fun h1 h2 => hnx _ _ _ h1 _ _ _ _ (r.stk h2)
  have gj : ∀ {t : Nat} {st' : List Value}, jmr t L st' h = some qf → (∀ v ∈ st', hk_vo sc h.2.2.2 v) → hk_G SH cls p l e R s m args below meth c Q n0 s0 ad h H locs t ls st' := fun h1 h2 => hjm _ _ _ _ h1 _ _ _ _ (r.stk h2)
  unfold hk_G at go gj
  simp only [hk_iok, Bool.and_eq_true, decide_eq_true_eq] at hck
  simp only [hk_stp] at hrun
  obtain ⟨rfl, ha⟩ := hck
  split at hrun
  · next x hLx => exact lv_iload_n hx hb hdg ha (hk_has_at hlv hLx) (go hrun (hk_voc trivial hsv))
  · cases hrun

set_option maxHeartbeats 1000000 in
theorem hk_z_iload {ini : Bool} {rk : Nat} (FX : hk_Fx SH ch cls kd wl mt hn sc p l R s m args meth c D cI cZ cR cJ A H0 b0 mx dd own cc scr cl ini) {pc len a b c1 d : Nat} {v : Int32} {w : Int64} {sw : List (Int32 × Nat)} {k : Nat} (hdg : decode cc pc = .ok (.iload k, len)) (hck : hk_iok cls kd mt hn own ini rk mx pc (.iload k) len a b c1 d v w sw = true) {nxr : hk_L → List Value → hk_H → hk_O} {jmr : Nat → hk_L → List Value → hk_H → hk_O} {qf : Option Value × hk_H} (hnx : ∀ L st h, nxr L st h = some qf → hk_K SH cls kd sc D cI cZ cR cJ A H0 b0 ad0 al0 mx n0 s0 p l e R s m args below meth c Q (pc + len) L st h) (hjm : ∀ t L st h, jmr t L st h = some qf → hk_K SH cls kd sc D cI cZ cR cJ A H0 b0 ad0 al0 mx n0 s0 p l e R s m args below meth c Q t L st h)  {L : hk_L} {st : List Value} {h : hk_H} (hrun : hk_stp SH pb big none nxr jmr (fun P d k => @ite _ P d k none) (fun P d k0 k1 => @ite _ P d k0 k1) (fun y a h k => (cl y a h).bind (fun q => k q.1 q.2)) (fun r h => some (r, h)) scr ch (.iload k) a c1 d v w sw L st h = some qf) : hk_K SH cls kd sc D cI cZ cR cJ A H0 b0 ad0 al0 mx n0 s0 p l e R s m args below meth c Q pc L st h := by
  obtain ⟨TB, hx, hb, hml, hown, hts, hK, hA, hin, hX, hcl, hge, hR1, hR2, hAO⟩ := FX
  intro ad H locs ls r
  obtain ⟨hP, hD, hS, hwf, hlv, hlen, hsv, hLv, hadb, hn0, hs0⟩ := id r
  unfold hk_G
  have go : ∀ {st' : List Value}, nxr L st' h = some qf → (∀ v ∈ st', hk_vo sc h.2.2.2 v) → hk_G SH cls p l e R s m args below meth c Q n0 s0 ad h H locs (pc + len) ls st' := fun h1 h2 => hnx _ _ _ h1 _ _ _ _ (r.stk h2)
  have gj : ∀ {t : Nat} {st' : List Value}, jmr t L st' h = some qf → (∀ v ∈ st', hk_vo sc h.2.2.2 v) → hk_G SH cls p l e R s m args below meth c Q n0 s0 ad h H locs t ls st' := fun h1 h2 => hjm _ _ _ _ h1 _ _ _ _ (r.stk h2)
  unfold hk_G at go gj
  simp only [hk_iok, Bool.and_eq_true, decide_eq_true_eq] at hck
  simp only [hk_stp] at hrun
  obtain ⟨rfl, ha⟩ := hck
  subst ha
  split at hrun
  · next x hLx => exact lv_iload hx hb hdg (hk_has_at hlv hLx) (go hrun (hk_voc trivial hsv))
  · cases hrun

set_option maxHeartbeats 1000000 in
theorem hk_z_aload_n {ini : Bool} {rk : Nat} (FX : hk_Fx SH ch cls kd wl mt hn sc p l R s m args meth c D cI cZ cR cJ A H0 b0 mx dd own cc scr cl ini) {pc len a b c1 d : Nat} {v : Int32} {w : Int64} {sw : List (Int32 × Nat)} {k : Fin 4} (hdg : decode cc pc = .ok (.aload_n k, len)) (hck : hk_iok cls kd mt hn own ini rk mx pc (.aload_n k) len a b c1 d v w sw = true) {nxr : hk_L → List Value → hk_H → hk_O} {jmr : Nat → hk_L → List Value → hk_H → hk_O} {qf : Option Value × hk_H} (hnx : ∀ L st h, nxr L st h = some qf → hk_K SH cls kd sc D cI cZ cR cJ A H0 b0 ad0 al0 mx n0 s0 p l e R s m args below meth c Q (pc + len) L st h) (hjm : ∀ t L st h, jmr t L st h = some qf → hk_K SH cls kd sc D cI cZ cR cJ A H0 b0 ad0 al0 mx n0 s0 p l e R s m args below meth c Q t L st h)  {L : hk_L} {st : List Value} {h : hk_H} (hrun : hk_stp SH pb big none nxr jmr (fun P d k => @ite _ P d k none) (fun P d k0 k1 => @ite _ P d k0 k1) (fun y a h k => (cl y a h).bind (fun q => k q.1 q.2)) (fun r h => some (r, h)) scr ch (.aload_n k) a c1 d v w sw L st h = some qf) : hk_K SH cls kd sc D cI cZ cR cJ A H0 b0 ad0 al0 mx n0 s0 p l e R s m args below meth c Q pc L st h := by
  obtain ⟨TB, hx, hb, hml, hown, hts, hK, hA, hin, hX, hcl, hge, hR1, hR2, hAO⟩ := FX
  intro ad H locs ls r
  obtain ⟨hP, hD, hS, hwf, hlv, hlen, hsv, hLv, hadb, hn0, hs0⟩ := id r
  unfold hk_G
  have go : ∀ {st' : List Value}, nxr L st' h = some qf → (∀ v ∈ st', hk_vo sc h.2.2.2 v) → hk_G SH cls p l e R s m args below meth c Q n0 s0 ad h H locs (pc + len) ls st' := fun h1 h2 => hnx _ _ _ h1 _ _ _ _ (r.stk h2)
  have gj : ∀ {t : Nat} {st' : List Value}, jmr t L st' h = some qf → (∀ v ∈ st', hk_vo sc h.2.2.2 v) → hk_G SH cls p l e R s m args below meth c Q n0 s0 ad h H locs t ls st' := fun h1 h2 => hjm _ _ _ _ h1 _ _ _ _ (r.stk h2)
  unfold hk_G at go gj
  simp only [hk_iok, Bool.and_eq_true, decide_eq_true_eq] at hck
  simp only [hk_stp] at hrun
  obtain ⟨rfl, ha⟩ := hck
  split at hrun
  · next x hLx => exact lv_aload_n hx hb hdg ha (hk_has_at hlv hLx) (go hrun (hk_voc (hLv _ (List.mem_of_getElem? hLx)) hsv))
  · next hLx => exact lv_aload_nN hx hb hdg ha (hk_has_at hlv hLx) (go hrun (hk_voc trivial hsv))
  · cases hrun

set_option maxHeartbeats 1000000 in
theorem hk_z_aload {ini : Bool} {rk : Nat} (FX : hk_Fx SH ch cls kd wl mt hn sc p l R s m args meth c D cI cZ cR cJ A H0 b0 mx dd own cc scr cl ini) {pc len a b c1 d : Nat} {v : Int32} {w : Int64} {sw : List (Int32 × Nat)} {k : Nat} (hdg : decode cc pc = .ok (.aload k, len)) (hck : hk_iok cls kd mt hn own ini rk mx pc (.aload k) len a b c1 d v w sw = true) {nxr : hk_L → List Value → hk_H → hk_O} {jmr : Nat → hk_L → List Value → hk_H → hk_O} {qf : Option Value × hk_H} (hnx : ∀ L st h, nxr L st h = some qf → hk_K SH cls kd sc D cI cZ cR cJ A H0 b0 ad0 al0 mx n0 s0 p l e R s m args below meth c Q (pc + len) L st h) (hjm : ∀ t L st h, jmr t L st h = some qf → hk_K SH cls kd sc D cI cZ cR cJ A H0 b0 ad0 al0 mx n0 s0 p l e R s m args below meth c Q t L st h)  {L : hk_L} {st : List Value} {h : hk_H} (hrun : hk_stp SH pb big none nxr jmr (fun P d k => @ite _ P d k none) (fun P d k0 k1 => @ite _ P d k0 k1) (fun y a h k => (cl y a h).bind (fun q => k q.1 q.2)) (fun r h => some (r, h)) scr ch (.aload k) a c1 d v w sw L st h = some qf) : hk_K SH cls kd sc D cI cZ cR cJ A H0 b0 ad0 al0 mx n0 s0 p l e R s m args below meth c Q pc L st h := by
  obtain ⟨TB, hx, hb, hml, hown, hts, hK, hA, hin, hX, hcl, hge, hR1, hR2, hAO⟩ := FX
  intro ad H locs ls r
  obtain ⟨hP, hD, hS, hwf, hlv, hlen, hsv, hLv, hadb, hn0, hs0⟩ := id r
  unfold hk_G
  have go : ∀ {st' : List Value}, nxr L st' h = some qf → (∀ v ∈ st', hk_vo sc h.2.2.2 v) → hk_G SH cls p l e R s m args below meth c Q n0 s0 ad h H locs (pc + len) ls st' := fun h1 h2 => hnx _ _ _ h1 _ _ _ _ (r.stk h2)
  have gj : ∀ {t : Nat} {st' : List Value}, jmr t L st' h = some qf → (∀ v ∈ st', hk_vo sc h.2.2.2 v) → hk_G SH cls p l e R s m args below meth c Q n0 s0 ad h H locs t ls st' := fun h1 h2 => hjm _ _ _ _ h1 _ _ _ _ (r.stk h2)
  unfold hk_G at go gj
  simp only [hk_iok, Bool.and_eq_true, decide_eq_true_eq] at hck
  simp only [hk_stp] at hrun
  obtain ⟨rfl, ha⟩ := hck
  subst ha
  split at hrun
  · next x hLx => exact lv_aload hx hb hdg (hk_has_at hlv hLx) (go hrun (hk_voc (hLv _ (List.mem_of_getElem? hLx)) hsv))
  · cases hrun

set_option maxHeartbeats 1000000 in
theorem hk_z_lload_n {ini : Bool} {rk : Nat} (FX : hk_Fx SH ch cls kd wl mt hn sc p l R s m args meth c D cI cZ cR cJ A H0 b0 mx dd own cc scr cl ini) {pc len a b c1 d : Nat} {v : Int32} {w : Int64} {sw : List (Int32 × Nat)} {k : Fin 4} (hdg : decode cc pc = .ok (.lload_n k, len)) (hck : hk_iok cls kd mt hn own ini rk mx pc (.lload_n k) len a b c1 d v w sw = true) {nxr : hk_L → List Value → hk_H → hk_O} {jmr : Nat → hk_L → List Value → hk_H → hk_O} {qf : Option Value × hk_H} (hnx : ∀ L st h, nxr L st h = some qf → hk_K SH cls kd sc D cI cZ cR cJ A H0 b0 ad0 al0 mx n0 s0 p l e R s m args below meth c Q (pc + len) L st h) (hjm : ∀ t L st h, jmr t L st h = some qf → hk_K SH cls kd sc D cI cZ cR cJ A H0 b0 ad0 al0 mx n0 s0 p l e R s m args below meth c Q t L st h)  {L : hk_L} {st : List Value} {h : hk_H} (hrun : hk_stp SH pb big none nxr jmr (fun P d k => @ite _ P d k none) (fun P d k0 k1 => @ite _ P d k0 k1) (fun y a h k => (cl y a h).bind (fun q => k q.1 q.2)) (fun r h => some (r, h)) scr ch (.lload_n k) a c1 d v w sw L st h = some qf) : hk_K SH cls kd sc D cI cZ cR cJ A H0 b0 ad0 al0 mx n0 s0 p l e R s m args below meth c Q pc L st h := by
  obtain ⟨TB, hx, hb, hml, hown, hts, hK, hA, hin, hX, hcl, hge, hR1, hR2, hAO⟩ := FX
  intro ad H locs ls r
  obtain ⟨hP, hD, hS, hwf, hlv, hlen, hsv, hLv, hadb, hn0, hs0⟩ := id r
  unfold hk_G
  have go : ∀ {st' : List Value}, nxr L st' h = some qf → (∀ v ∈ st', hk_vo sc h.2.2.2 v) → hk_G SH cls p l e R s m args below meth c Q n0 s0 ad h H locs (pc + len) ls st' := fun h1 h2 => hnx _ _ _ h1 _ _ _ _ (r.stk h2)
  have gj : ∀ {t : Nat} {st' : List Value}, jmr t L st' h = some qf → (∀ v ∈ st', hk_vo sc h.2.2.2 v) → hk_G SH cls p l e R s m args below meth c Q n0 s0 ad h H locs t ls st' := fun h1 h2 => hjm _ _ _ _ h1 _ _ _ _ (r.stk h2)
  unfold hk_G at go gj
  simp only [hk_iok, Bool.and_eq_true, decide_eq_true_eq] at hck
  simp only [hk_stp] at hrun
  obtain ⟨rfl, ha⟩ := hck
  split at hrun
  · next x hLx => exact lv_lload_n hx hb hdg ha (hk_has_at hlv hLx) (go hrun (hk_voc trivial hsv))
  · cases hrun

set_option maxHeartbeats 1000000 in
theorem hk_z_lload {ini : Bool} {rk : Nat} (FX : hk_Fx SH ch cls kd wl mt hn sc p l R s m args meth c D cI cZ cR cJ A H0 b0 mx dd own cc scr cl ini) {pc len a b c1 d : Nat} {v : Int32} {w : Int64} {sw : List (Int32 × Nat)} {k : Nat} (hdg : decode cc pc = .ok (.lload k, len)) (hck : hk_iok cls kd mt hn own ini rk mx pc (.lload k) len a b c1 d v w sw = true) {nxr : hk_L → List Value → hk_H → hk_O} {jmr : Nat → hk_L → List Value → hk_H → hk_O} {qf : Option Value × hk_H} (hnx : ∀ L st h, nxr L st h = some qf → hk_K SH cls kd sc D cI cZ cR cJ A H0 b0 ad0 al0 mx n0 s0 p l e R s m args below meth c Q (pc + len) L st h) (hjm : ∀ t L st h, jmr t L st h = some qf → hk_K SH cls kd sc D cI cZ cR cJ A H0 b0 ad0 al0 mx n0 s0 p l e R s m args below meth c Q t L st h)  {L : hk_L} {st : List Value} {h : hk_H} (hrun : hk_stp SH pb big none nxr jmr (fun P d k => @ite _ P d k none) (fun P d k0 k1 => @ite _ P d k0 k1) (fun y a h k => (cl y a h).bind (fun q => k q.1 q.2)) (fun r h => some (r, h)) scr ch (.lload k) a c1 d v w sw L st h = some qf) : hk_K SH cls kd sc D cI cZ cR cJ A H0 b0 ad0 al0 mx n0 s0 p l e R s m args below meth c Q pc L st h := by
  obtain ⟨TB, hx, hb, hml, hown, hts, hK, hA, hin, hX, hcl, hge, hR1, hR2, hAO⟩ := FX
  intro ad H locs ls r
  obtain ⟨hP, hD, hS, hwf, hlv, hlen, hsv, hLv, hadb, hn0, hs0⟩ := id r
  unfold hk_G
  have go : ∀ {st' : List Value}, nxr L st' h = some qf → (∀ v ∈ st', hk_vo sc h.2.2.2 v) → hk_G SH cls p l e R s m args below meth c Q n0 s0 ad h H locs (pc + len) ls st' := fun h1 h2 => hnx _ _ _ h1 _ _ _ _ (r.stk h2)
  have gj : ∀ {t : Nat} {st' : List Value}, jmr t L st' h = some qf → (∀ v ∈ st', hk_vo sc h.2.2.2 v) → hk_G SH cls p l e R s m args below meth c Q n0 s0 ad h H locs t ls st' := fun h1 h2 => hjm _ _ _ _ h1 _ _ _ _ (r.stk h2)
  unfold hk_G at go gj
  simp only [hk_iok, Bool.and_eq_true, decide_eq_true_eq] at hck
  simp only [hk_stp] at hrun
  obtain ⟨rfl, ha⟩ := hck
  subst ha
  split at hrun
  · next x hLx => exact lv_lload hx hb hdg (hk_has_at hlv hLx) (go hrun (hk_voc trivial hsv))
  · cases hrun

set_option maxHeartbeats 1000000 in
theorem hk_z_istore_n {ini : Bool} {rk : Nat} (FX : hk_Fx SH ch cls kd wl mt hn sc p l R s m args meth c D cI cZ cR cJ A H0 b0 mx dd own cc scr cl ini) {pc len a b c1 d : Nat} {v : Int32} {w : Int64} {sw : List (Int32 × Nat)} {k : Fin 4} (hdg : decode cc pc = .ok (.istore_n k, len)) (hck : hk_iok cls kd mt hn own ini rk mx pc (.istore_n k) len a b c1 d v w sw = true) {nxr : hk_L → List Value → hk_H → hk_O} {jmr : Nat → hk_L → List Value → hk_H → hk_O} {qf : Option Value × hk_H} (hnx : ∀ L st h, nxr L st h = some qf → hk_K SH cls kd sc D cI cZ cR cJ A H0 b0 ad0 al0 mx n0 s0 p l e R s m args below meth c Q (pc + len) L st h) (hjm : ∀ t L st h, jmr t L st h = some qf → hk_K SH cls kd sc D cI cZ cR cJ A H0 b0 ad0 al0 mx n0 s0 p l e R s m args below meth c Q t L st h)  {L : hk_L} {st : List Value} {h : hk_H} (hrun : hk_stp SH pb big none nxr jmr (fun P d k => @ite _ P d k none) (fun P d k0 k1 => @ite _ P d k0 k1) (fun y a h k => (cl y a h).bind (fun q => k q.1 q.2)) (fun r h => some (r, h)) scr ch (.istore_n k) a c1 d v w sw L st h = some qf) : hk_K SH cls kd sc D cI cZ cR cJ A H0 b0 ad0 al0 mx n0 s0 p l e R s m args below meth c Q pc L st h := by
  obtain ⟨TB, hx, hb, hml, hown, hts, hK, hA, hin, hX, hcl, hge, hR1, hR2, hAO⟩ := FX
  intro ad H locs ls r
  obtain ⟨hP, hD, hS, hwf, hlv, hlen, hsv, hLv, hadb, hn0, hs0⟩ := id r
  unfold hk_G
  have go : ∀ {st' : List Value}, nxr L st' h = some qf → (∀ v ∈ st', hk_vo sc h.2.2.2 v) → hk_G SH cls p l e R s m args below meth c Q n0 s0 ad h H locs (pc + len) ls st' := fun h1 h2 => hnx _ _ _ h1 _ _ _ _ (r.stk h2)
  have gj : ∀ {t : Nat} {st' : List Value}, jmr t L st' h = some qf → (∀ v ∈ st', hk_vo sc h.2.2.2 v) → hk_G SH cls p l e R s m args below meth c Q n0 s0 ad h H locs t ls st' := fun h1 h2 => hjm _ _ _ _ h1 _ _ _ _ (r.stk h2)
  unfold hk_G at go gj
  simp only [hk_iok, Bool.and_eq_true, decide_eq_true_eq] at hck
  simp only [hk_stp] at hrun
  obtain ⟨⟨rfl, ha⟩, hlt⟩ := hck
  split at hrun
  · next x r0 => exact lv_istore_n hx hb hdg ha hlv hlt rfl (fun ls' hl' => hnx _ _ _ hrun _ _ _ _ (r.st1 (v := .int x) hl' (hk_vot hsv).1 (hk_vot hsv).2))
  · cases hrun

set_option maxHeartbeats 1000000 in
theorem hk_z_istore {ini : Bool} {rk : Nat} (FX : hk_Fx SH ch cls kd wl mt hn sc p l R s m args meth c D cI cZ cR cJ A H0 b0 mx dd own cc scr cl ini) {pc len a b c1 d : Nat} {v : Int32} {w : Int64} {sw : List (Int32 × Nat)} {k : Nat} (hdg : decode cc pc = .ok (.istore k, len)) (hck : hk_iok cls kd mt hn own ini rk mx pc (.istore k) len a b c1 d v w sw = true) {nxr : hk_L → List Value → hk_H → hk_O} {jmr : Nat → hk_L → List Value → hk_H → hk_O} {qf : Option Value × hk_H} (hnx : ∀ L st h, nxr L st h = some qf → hk_K SH cls kd sc D cI cZ cR cJ A H0 b0 ad0 al0 mx n0 s0 p l e R s m args below meth c Q (pc + len) L st h) (hjm : ∀ t L st h, jmr t L st h = some qf → hk_K SH cls kd sc D cI cZ cR cJ A H0 b0 ad0 al0 mx n0 s0 p l e R s m args below meth c Q t L st h)  {L : hk_L} {st : List Value} {h : hk_H} (hrun : hk_stp SH pb big none nxr jmr (fun P d k => @ite _ P d k none) (fun P d k0 k1 => @ite _ P d k0 k1) (fun y a h k => (cl y a h).bind (fun q => k q.1 q.2)) (fun r h => some (r, h)) scr ch (.istore k) a c1 d v w sw L st h = some qf) : hk_K SH cls kd sc D cI cZ cR cJ A H0 b0 ad0 al0 mx n0 s0 p l e R s m args below meth c Q pc L st h := by
  obtain ⟨TB, hx, hb, hml, hown, hts, hK, hA, hin, hX, hcl, hge, hR1, hR2, hAO⟩ := FX
  intro ad H locs ls r
  obtain ⟨hP, hD, hS, hwf, hlv, hlen, hsv, hLv, hadb, hn0, hs0⟩ := id r
  unfold hk_G
  have go : ∀ {st' : List Value}, nxr L st' h = some qf → (∀ v ∈ st', hk_vo sc h.2.2.2 v) → hk_G SH cls p l e R s m args below meth c Q n0 s0 ad h H locs (pc + len) ls st' := fun h1 h2 => hnx _ _ _ h1 _ _ _ _ (r.stk h2)
  have gj : ∀ {t : Nat} {st' : List Value}, jmr t L st' h = some qf → (∀ v ∈ st', hk_vo sc h.2.2.2 v) → hk_G SH cls p l e R s m args below meth c Q n0 s0 ad h H locs t ls st' := fun h1 h2 => hjm _ _ _ _ h1 _ _ _ _ (r.stk h2)
  unfold hk_G at go gj
  simp only [hk_iok, Bool.and_eq_true, decide_eq_true_eq] at hck
  simp only [hk_stp] at hrun
  obtain ⟨⟨rfl, ha⟩, hlt⟩ := hck
  subst ha
  split at hrun
  · next x r0 => exact lv_istore hx hb hdg hlv hlt rfl (fun ls' hl' => hnx _ _ _ hrun _ _ _ _ (r.st1 (v := .int x) hl' (hk_vot hsv).1 (hk_vot hsv).2))
  · cases hrun

set_option maxHeartbeats 1000000 in
theorem hk_z_astore_n {ini : Bool} {rk : Nat} (FX : hk_Fx SH ch cls kd wl mt hn sc p l R s m args meth c D cI cZ cR cJ A H0 b0 mx dd own cc scr cl ini) {pc len a b c1 d : Nat} {v : Int32} {w : Int64} {sw : List (Int32 × Nat)} {k : Fin 4} (hdg : decode cc pc = .ok (.astore_n k, len)) (hck : hk_iok cls kd mt hn own ini rk mx pc (.astore_n k) len a b c1 d v w sw = true) {nxr : hk_L → List Value → hk_H → hk_O} {jmr : Nat → hk_L → List Value → hk_H → hk_O} {qf : Option Value × hk_H} (hnx : ∀ L st h, nxr L st h = some qf → hk_K SH cls kd sc D cI cZ cR cJ A H0 b0 ad0 al0 mx n0 s0 p l e R s m args below meth c Q (pc + len) L st h) (hjm : ∀ t L st h, jmr t L st h = some qf → hk_K SH cls kd sc D cI cZ cR cJ A H0 b0 ad0 al0 mx n0 s0 p l e R s m args below meth c Q t L st h)  {L : hk_L} {st : List Value} {h : hk_H} (hrun : hk_stp SH pb big none nxr jmr (fun P d k => @ite _ P d k none) (fun P d k0 k1 => @ite _ P d k0 k1) (fun y a h k => (cl y a h).bind (fun q => k q.1 q.2)) (fun r h => some (r, h)) scr ch (.astore_n k) a c1 d v w sw L st h = some qf) : hk_K SH cls kd sc D cI cZ cR cJ A H0 b0 ad0 al0 mx n0 s0 p l e R s m args below meth c Q pc L st h := by
  obtain ⟨TB, hx, hb, hml, hown, hts, hK, hA, hin, hX, hcl, hge, hR1, hR2, hAO⟩ := FX
  intro ad H locs ls r
  obtain ⟨hP, hD, hS, hwf, hlv, hlen, hsv, hLv, hadb, hn0, hs0⟩ := id r
  unfold hk_G
  have go : ∀ {st' : List Value}, nxr L st' h = some qf → (∀ v ∈ st', hk_vo sc h.2.2.2 v) → hk_G SH cls p l e R s m args below meth c Q n0 s0 ad h H locs (pc + len) ls st' := fun h1 h2 => hnx _ _ _ h1 _ _ _ _ (r.stk h2)
  have gj : ∀ {t : Nat} {st' : List Value}, jmr t L st' h = some qf → (∀ v ∈ st', hk_vo sc h.2.2.2 v) → hk_G SH cls p l e R s m args below meth c Q n0 s0 ad h H locs t ls st' := fun h1 h2 => hjm _ _ _ _ h1 _ _ _ _ (r.stk h2)
  unfold hk_G at go gj
  simp only [hk_iok, Bool.and_eq_true, decide_eq_true_eq] at hck
  simp only [hk_stp] at hrun
  obtain ⟨⟨rfl, ha⟩, hlt⟩ := hck
  split at hrun
  · next x r0 => exact lv_astore_n hx hb hdg ha hlv hlt rfl (fun ls' hl' => hnx _ _ _ hrun _ _ _ _ (r.st1 (v := .ref x) hl' (hk_vot hsv).1 (hk_vot hsv).2))
  · next r0 => exact lv_astore_nN hx hb hdg ha hlv hlt rfl (fun ls' hl' => hnx _ _ _ hrun _ _ _ _ (r.st1 (v := .null) hl' (hk_vot hsv).1 (hk_vot hsv).2))
  · cases hrun

set_option maxHeartbeats 1000000 in
theorem hk_z_lstore_n {ini : Bool} {rk : Nat} (FX : hk_Fx SH ch cls kd wl mt hn sc p l R s m args meth c D cI cZ cR cJ A H0 b0 mx dd own cc scr cl ini) {pc len a b c1 d : Nat} {v : Int32} {w : Int64} {sw : List (Int32 × Nat)} {k : Fin 4} (hdg : decode cc pc = .ok (.lstore_n k, len)) (hck : hk_iok cls kd mt hn own ini rk mx pc (.lstore_n k) len a b c1 d v w sw = true) {nxr : hk_L → List Value → hk_H → hk_O} {jmr : Nat → hk_L → List Value → hk_H → hk_O} {qf : Option Value × hk_H} (hnx : ∀ L st h, nxr L st h = some qf → hk_K SH cls kd sc D cI cZ cR cJ A H0 b0 ad0 al0 mx n0 s0 p l e R s m args below meth c Q (pc + len) L st h) (hjm : ∀ t L st h, jmr t L st h = some qf → hk_K SH cls kd sc D cI cZ cR cJ A H0 b0 ad0 al0 mx n0 s0 p l e R s m args below meth c Q t L st h)  {L : hk_L} {st : List Value} {h : hk_H} (hrun : hk_stp SH pb big none nxr jmr (fun P d k => @ite _ P d k none) (fun P d k0 k1 => @ite _ P d k0 k1) (fun y a h k => (cl y a h).bind (fun q => k q.1 q.2)) (fun r h => some (r, h)) scr ch (.lstore_n k) a c1 d v w sw L st h = some qf) : hk_K SH cls kd sc D cI cZ cR cJ A H0 b0 ad0 al0 mx n0 s0 p l e R s m args below meth c Q pc L st h := by
  obtain ⟨TB, hx, hb, hml, hown, hts, hK, hA, hin, hX, hcl, hge, hR1, hR2, hAO⟩ := FX
  intro ad H locs ls r
  obtain ⟨hP, hD, hS, hwf, hlv, hlen, hsv, hLv, hadb, hn0, hs0⟩ := id r
  unfold hk_G
  have go : ∀ {st' : List Value}, nxr L st' h = some qf → (∀ v ∈ st', hk_vo sc h.2.2.2 v) → hk_G SH cls p l e R s m args below meth c Q n0 s0 ad h H locs (pc + len) ls st' := fun h1 h2 => hnx _ _ _ h1 _ _ _ _ (r.stk h2)
  have gj : ∀ {t : Nat} {st' : List Value}, jmr t L st' h = some qf → (∀ v ∈ st', hk_vo sc h.2.2.2 v) → hk_G SH cls p l e R s m args below meth c Q n0 s0 ad h H locs t ls st' := fun h1 h2 => hjm _ _ _ _ h1 _ _ _ _ (r.stk h2)
  unfold hk_G at go gj
  simp only [hk_iok, Bool.and_eq_true, decide_eq_true_eq] at hck
  simp only [hk_stp] at hrun
  obtain ⟨⟨rfl, ha⟩, hlt⟩ := hck
  split at hrun
  · next x r0 => exact lv_lstore_n hx hb hdg ha hlv hlt rfl (fun ls' hl' => hnx _ _ _ hrun _ _ _ _ (r.st2 (v := .long x) hl' (hk_vot hsv).1 (hk_vot hsv).2))
  · cases hrun

set_option maxHeartbeats 1000000 in
theorem hk_z_lstore {ini : Bool} {rk : Nat} (FX : hk_Fx SH ch cls kd wl mt hn sc p l R s m args meth c D cI cZ cR cJ A H0 b0 mx dd own cc scr cl ini) {pc len a b c1 d : Nat} {v : Int32} {w : Int64} {sw : List (Int32 × Nat)} {k : Nat} (hdg : decode cc pc = .ok (.lstore k, len)) (hck : hk_iok cls kd mt hn own ini rk mx pc (.lstore k) len a b c1 d v w sw = true) {nxr : hk_L → List Value → hk_H → hk_O} {jmr : Nat → hk_L → List Value → hk_H → hk_O} {qf : Option Value × hk_H} (hnx : ∀ L st h, nxr L st h = some qf → hk_K SH cls kd sc D cI cZ cR cJ A H0 b0 ad0 al0 mx n0 s0 p l e R s m args below meth c Q (pc + len) L st h) (hjm : ∀ t L st h, jmr t L st h = some qf → hk_K SH cls kd sc D cI cZ cR cJ A H0 b0 ad0 al0 mx n0 s0 p l e R s m args below meth c Q t L st h)  {L : hk_L} {st : List Value} {h : hk_H} (hrun : hk_stp SH pb big none nxr jmr (fun P d k => @ite _ P d k none) (fun P d k0 k1 => @ite _ P d k0 k1) (fun y a h k => (cl y a h).bind (fun q => k q.1 q.2)) (fun r h => some (r, h)) scr ch (.lstore k) a c1 d v w sw L st h = some qf) : hk_K SH cls kd sc D cI cZ cR cJ A H0 b0 ad0 al0 mx n0 s0 p l e R s m args below meth c Q pc L st h := by
  obtain ⟨TB, hx, hb, hml, hown, hts, hK, hA, hin, hX, hcl, hge, hR1, hR2, hAO⟩ := FX
  intro ad H locs ls r
  obtain ⟨hP, hD, hS, hwf, hlv, hlen, hsv, hLv, hadb, hn0, hs0⟩ := id r
  unfold hk_G
  have go : ∀ {st' : List Value}, nxr L st' h = some qf → (∀ v ∈ st', hk_vo sc h.2.2.2 v) → hk_G SH cls p l e R s m args below meth c Q n0 s0 ad h H locs (pc + len) ls st' := fun h1 h2 => hnx _ _ _ h1 _ _ _ _ (r.stk h2)
  have gj : ∀ {t : Nat} {st' : List Value}, jmr t L st' h = some qf → (∀ v ∈ st', hk_vo sc h.2.2.2 v) → hk_G SH cls p l e R s m args below meth c Q n0 s0 ad h H locs t ls st' := fun h1 h2 => hjm _ _ _ _ h1 _ _ _ _ (r.stk h2)
  unfold hk_G at go gj
  simp only [hk_iok, Bool.and_eq_true, decide_eq_true_eq] at hck
  simp only [hk_stp] at hrun
  obtain ⟨⟨rfl, ha⟩, hlt⟩ := hck
  subst ha
  split at hrun
  · next x r0 => exact lv_lstore hx hb hdg hlv hlt rfl (fun ls' hl' => hnx _ _ _ hrun _ _ _ _ (r.st2 (v := .long x) hl' (hk_vot hsv).1 (hk_vot hsv).2))
  · cases hrun

set_option maxHeartbeats 1000000 in
theorem hk_z_iinc {ini : Bool} {rk : Nat} (FX : hk_Fx SH ch cls kd wl mt hn sc p l R s m args meth c D cI cZ cR cJ A H0 b0 mx dd own cc scr cl ini) {pc len a b c1 d : Nat} {v : Int32} {w : Int64} {sw : List (Int32 × Nat)} {k : Nat} {i : Int} (hdg : decode cc pc = .ok (.iinc k i, len)) (hck : hk_iok cls kd mt hn own ini rk mx pc (.iinc k i) len a b c1 d v w sw = true) {nxr : hk_L → List Value → hk_H → hk_O} {jmr : Nat → hk_L → List Value → hk_H → hk_O} {qf : Option Value × hk_H} (hnx : ∀ L st h, nxr L st h = some qf → hk_K SH cls kd sc D cI cZ cR cJ A H0 b0 ad0 al0 mx n0 s0 p l e R s m args below meth c Q (pc + len) L st h) (hjm : ∀ t L st h, jmr t L st h = some qf → hk_K SH cls kd sc D cI cZ cR cJ A H0 b0 ad0 al0 mx n0 s0 p l e R s m args below meth c Q t L st h)  {L : hk_L} {st : List Value} {h : hk_H} (hrun : hk_stp SH pb big none nxr jmr (fun P d k => @ite _ P d k none) (fun P d k0 k1 => @ite _ P d k0 k1) (fun y a h k => (cl y a h).bind (fun q => k q.1 q.2)) (fun r h => some (r, h)) scr ch (.iinc k i) a c1 d v w sw L st h = some qf) : hk_K SH cls kd sc D cI cZ cR cJ A H0 b0 ad0 al0 mx n0 s0 p l e R s m args below meth c Q pc L st h := by
  obtain ⟨TB, hx, hb, hml, hown, hts, hK, hA, hin, hX, hcl, hge, hR1, hR2, hAO⟩ := FX
  intro ad H locs ls r
  obtain ⟨hP, hD, hS, hwf, hlv, hlen, hsv, hLv, hadb, hn0, hs0⟩ := id r
  unfold hk_G
  have go : ∀ {st' : List Value}, nxr L st' h = some qf → (∀ v ∈ st', hk_vo sc h.2.2.2 v) → hk_G SH cls p l e R s m args below meth c Q n0 s0 ad h H locs (pc + len) ls st' := fun h1 h2 => hnx _ _ _ h1 _ _ _ _ (r.stk h2)
  have gj : ∀ {t : Nat} {st' : List Value}, jmr t L st' h = some qf → (∀ v ∈ st', hk_vo sc h.2.2.2 v) → hk_G SH cls p l e R s m args below meth c Q n0 s0 ad h H locs t ls st' := fun h1 h2 => hjm _ _ _ _ h1 _ _ _ _ (r.stk h2)
  unfold hk_G at go gj
  simp only [hk_iok, Bool.and_eq_true, decide_eq_true_eq] at hck
  simp only [hk_stp] at hrun
  obtain ⟨⟨⟨rfl, rfl⟩, hlt⟩, hv⟩ := hck
  split at hrun
  · next x hLx =>
    obtain ⟨k2, hk2⟩ := List.getElem?_of_mem (hk_pl_mem.mpr ⟨.int x, hLx, rfl⟩ : (k, hk_tv ad (.int x)) ∈ hk_pl ad L)
    exact lv_iinc (v := x + v) hx hb hdg hlv hk2 (by rw [hv]) hlt rfl (fun ls' hl' => hnx _ _ _ hrun _ _ _ _ (r.st1 (v := .int (x + v)) hl' trivial hsv))
  · cases hrun

set_option maxHeartbeats 1000000 in
theorem hk_z_iadd {ini : Bool} {rk : Nat} (FX : hk_Fx SH ch cls kd wl mt hn sc p l R s m args meth c D cI cZ cR cJ A H0 b0 mx dd own cc scr cl ini) {pc len a b c1 d : Nat} {v : Int32} {w : Int64} {sw : List (Int32 × Nat)}  (hdg : decode cc pc = .ok (.iadd, len)) (hck : hk_iok cls kd mt hn own ini rk mx pc (.iadd) len a b c1 d v w sw = true) {nxr : hk_L → List Value → hk_H → hk_O} {jmr : Nat → hk_L → List Value → hk_H → hk_O} {qf : Option Value × hk_H} (hnx : ∀ L st h, nxr L st h = some qf → hk_K SH cls kd sc D cI cZ cR cJ A H0 b0 ad0 al0 mx n0 s0 p l e R s m args below meth c Q (pc + len) L st h) (hjm : ∀ t L st h, jmr t L st h = some qf → hk_K SH cls kd sc D cI cZ cR cJ A H0 b0 ad0 al0 mx n0 s0 p l e R s m args below meth c Q t L st h)  {L : hk_L} {st : List Value} {h : hk_H} (hrun : hk_stp SH pb big none nxr jmr (fun P d k => @ite _ P d k none) (fun P d k0 k1 => @ite _ P d k0 k1) (fun y a h k => (cl y a h).bind (fun q => k q.1 q.2)) (fun r h => some (r, h)) scr ch (.iadd) a c1 d v w sw L st h = some qf) : hk_K SH cls kd sc D cI cZ cR cJ A H0 b0 ad0 al0 mx n0 s0 p l e R s m args below meth c Q pc L st h := by
  obtain ⟨TB, hx, hb, hml, hown, hts, hK, hA, hin, hX, hcl, hge, hR1, hR2, hAO⟩ := FX
  intro ad H locs ls r
  obtain ⟨hP, hD, hS, hwf, hlv, hlen, hsv, hLv, hadb, hn0, hs0⟩ := id r
  unfold hk_G
  have go : ∀ {st' : List Value}, nxr L st' h = some qf → (∀ v ∈ st', hk_vo sc h.2.2.2 v) → hk_G SH cls p l e R s m args below meth c Q n0 s0 ad h H locs (pc + len) ls st' := fun h1 h2 => hnx _ _ _ h1 _ _ _ _ (r.stk h2)
  have gj : ∀ {t : Nat} {st' : List Value}, jmr t L st' h = some qf → (∀ v ∈ st', hk_vo sc h.2.2.2 v) → hk_G SH cls p l e R s m args below meth c Q n0 s0 ad h H locs t ls st' := fun h1 h2 => hjm _ _ _ _ h1 _ _ _ _ (r.stk h2)
  unfold hk_G at go gj
  simp only [hk_iok, Bool.and_eq_true, decide_eq_true_eq] at hck
  simp only [hk_stp] at hrun
  obtain rfl := hck
  unfold hk_i2 at hrun
  split at hrun
  · next y x r0 => exact lv_iadd hx hb hdg (go hrun (hk_voc trivial (hk_vo2 hsv).2.2))
  · cases hrun

set_option maxHeartbeats 1000000 in
theorem hk_z_isub {ini : Bool} {rk : Nat} (FX : hk_Fx SH ch cls kd wl mt hn sc p l R s m args meth c D cI cZ cR cJ A H0 b0 mx dd own cc scr cl ini) {pc len a b c1 d : Nat} {v : Int32} {w : Int64} {sw : List (Int32 × Nat)}  (hdg : decode cc pc = .ok (.isub, len)) (hck : hk_iok cls kd mt hn own ini rk mx pc (.isub) len a b c1 d v w sw = true) {nxr : hk_L → List Value → hk_H → hk_O} {jmr : Nat → hk_L → List Value → hk_H → hk_O} {qf : Option Value × hk_H} (hnx : ∀ L st h, nxr L st h = some qf → hk_K SH cls kd sc D cI cZ cR cJ A H0 b0 ad0 al0 mx n0 s0 p l e R s m args below meth c Q (pc + len) L st h) (hjm : ∀ t L st h, jmr t L st h = some qf → hk_K SH cls kd sc D cI cZ cR cJ A H0 b0 ad0 al0 mx n0 s0 p l e R s m args below meth c Q t L st h)  {L : hk_L} {st : List Value} {h : hk_H} (hrun : hk_stp SH pb big none nxr jmr (fun P d k => @ite _ P d k none) (fun P d k0 k1 => @ite _ P d k0 k1) (fun y a h k => (cl y a h).bind (fun q => k q.1 q.2)) (fun r h => some (r, h)) scr ch (.isub) a c1 d v w sw L st h = some qf) : hk_K SH cls kd sc D cI cZ cR cJ A H0 b0 ad0 al0 mx n0 s0 p l e R s m args below meth c Q pc L st h := by
  obtain ⟨TB, hx, hb, hml, hown, hts, hK, hA, hin, hX, hcl, hge, hR1, hR2, hAO⟩ := FX
  intro ad H locs ls r
  obtain ⟨hP, hD, hS, hwf, hlv, hlen, hsv, hLv, hadb, hn0, hs0⟩ := id r
  unfold hk_G
  have go : ∀ {st' : List Value}, nxr L st' h = some qf → (∀ v ∈ st', hk_vo sc h.2.2.2 v) → hk_G SH cls p l e R s m args below meth c Q n0 s0 ad h H locs (pc + len) ls st' := fun h1 h2 => hnx _ _ _ h1 _ _ _ _ (r.stk h2)
  have gj : ∀ {t : Nat} {st' : List Value}, jmr t L st' h = some qf → (∀ v ∈ st', hk_vo sc h.2.2.2 v) → hk_G SH cls p l e R s m args below meth c Q n0 s0 ad h H locs t ls st' := fun h1 h2 => hjm _ _ _ _ h1 _ _ _ _ (r.stk h2)
  unfold hk_G at go gj
  simp only [hk_iok, Bool.and_eq_true, decide_eq_true_eq] at hck
  simp only [hk_stp] at hrun
  obtain rfl := hck
  unfold hk_i2 at hrun
  split at hrun
  · next y x r0 => exact lv_isub hx hb hdg (go hrun (hk_voc trivial (hk_vo2 hsv).2.2))
  · cases hrun

set_option maxHeartbeats 1000000 in
theorem hk_z_imul {ini : Bool} {rk : Nat} (FX : hk_Fx SH ch cls kd wl mt hn sc p l R s m args meth c D cI cZ cR cJ A H0 b0 mx dd own cc scr cl ini) {pc len a b c1 d : Nat} {v : Int32} {w : Int64} {sw : List (Int32 × Nat)}  (hdg : decode cc pc = .ok (.imul, len)) (hck : hk_iok cls kd mt hn own ini rk mx pc (.imul) len a b c1 d v w sw = true) {nxr : hk_L → List Value → hk_H → hk_O} {jmr : Nat → hk_L → List Value → hk_H → hk_O} {qf : Option Value × hk_H} (hnx : ∀ L st h, nxr L st h = some qf → hk_K SH cls kd sc D cI cZ cR cJ A H0 b0 ad0 al0 mx n0 s0 p l e R s m args below meth c Q (pc + len) L st h) (hjm : ∀ t L st h, jmr t L st h = some qf → hk_K SH cls kd sc D cI cZ cR cJ A H0 b0 ad0 al0 mx n0 s0 p l e R s m args below meth c Q t L st h)  {L : hk_L} {st : List Value} {h : hk_H} (hrun : hk_stp SH pb big none nxr jmr (fun P d k => @ite _ P d k none) (fun P d k0 k1 => @ite _ P d k0 k1) (fun y a h k => (cl y a h).bind (fun q => k q.1 q.2)) (fun r h => some (r, h)) scr ch (.imul) a c1 d v w sw L st h = some qf) : hk_K SH cls kd sc D cI cZ cR cJ A H0 b0 ad0 al0 mx n0 s0 p l e R s m args below meth c Q pc L st h := by
  obtain ⟨TB, hx, hb, hml, hown, hts, hK, hA, hin, hX, hcl, hge, hR1, hR2, hAO⟩ := FX
  intro ad H locs ls r
  obtain ⟨hP, hD, hS, hwf, hlv, hlen, hsv, hLv, hadb, hn0, hs0⟩ := id r
  unfold hk_G
  have go : ∀ {st' : List Value}, nxr L st' h = some qf → (∀ v ∈ st', hk_vo sc h.2.2.2 v) → hk_G SH cls p l e R s m args below meth c Q n0 s0 ad h H locs (pc + len) ls st' := fun h1 h2 => hnx _ _ _ h1 _ _ _ _ (r.stk h2)
  have gj : ∀ {t : Nat} {st' : List Value}, jmr t L st' h = some qf → (∀ v ∈ st', hk_vo sc h.2.2.2 v) → hk_G SH cls p l e R s m args below meth c Q n0 s0 ad h H locs t ls st' := fun h1 h2 => hjm _ _ _ _ h1 _ _ _ _ (r.stk h2)
  unfold hk_G at go gj
  simp only [hk_iok, Bool.and_eq_true, decide_eq_true_eq] at hck
  simp only [hk_stp] at hrun
  obtain rfl := hck
  unfold hk_i2 at hrun
  split at hrun
  · next y x r0 => exact lv_imul hx hb hdg (go hrun (hk_voc trivial (hk_vo2 hsv).2.2))
  · cases hrun

set_option maxHeartbeats 1000000 in
theorem hk_z_iand {ini : Bool} {rk : Nat} (FX : hk_Fx SH ch cls kd wl mt hn sc p l R s m args meth c D cI cZ cR cJ A H0 b0 mx dd own cc scr cl ini) {pc len a b c1 d : Nat} {v : Int32} {w : Int64} {sw : List (Int32 × Nat)}  (hdg : decode cc pc = .ok (.iand, len)) (hck : hk_iok cls kd mt hn own ini rk mx pc (.iand) len a b c1 d v w sw = true) {nxr : hk_L → List Value → hk_H → hk_O} {jmr : Nat → hk_L → List Value → hk_H → hk_O} {qf : Option Value × hk_H} (hnx : ∀ L st h, nxr L st h = some qf → hk_K SH cls kd sc D cI cZ cR cJ A H0 b0 ad0 al0 mx n0 s0 p l e R s m args below meth c Q (pc + len) L st h) (hjm : ∀ t L st h, jmr t L st h = some qf → hk_K SH cls kd sc D cI cZ cR cJ A H0 b0 ad0 al0 mx n0 s0 p l e R s m args below meth c Q t L st h)  {L : hk_L} {st : List Value} {h : hk_H} (hrun : hk_stp SH pb big none nxr jmr (fun P d k => @ite _ P d k none) (fun P d k0 k1 => @ite _ P d k0 k1) (fun y a h k => (cl y a h).bind (fun q => k q.1 q.2)) (fun r h => some (r, h)) scr ch (.iand) a c1 d v w sw L st h = some qf) : hk_K SH cls kd sc D cI cZ cR cJ A H0 b0 ad0 al0 mx n0 s0 p l e R s m args below meth c Q pc L st h := by
  obtain ⟨TB, hx, hb, hml, hown, hts, hK, hA, hin, hX, hcl, hge, hR1, hR2, hAO⟩ := FX
  intro ad H locs ls r
  obtain ⟨hP, hD, hS, hwf, hlv, hlen, hsv, hLv, hadb, hn0, hs0⟩ := id r
  unfold hk_G
  have go : ∀ {st' : List Value}, nxr L st' h = some qf → (∀ v ∈ st', hk_vo sc h.2.2.2 v) → hk_G SH cls p l e R s m args below meth c Q n0 s0 ad h H locs (pc + len) ls st' := fun h1 h2 => hnx _ _ _ h1 _ _ _ _ (r.stk h2)
  have gj : ∀ {t : Nat} {st' : List Value}, jmr t L st' h = some qf → (∀ v ∈ st', hk_vo sc h.2.2.2 v) → hk_G SH cls p l e R s m args below meth c Q n0 s0 ad h H locs t ls st' := fun h1 h2 => hjm _ _ _ _ h1 _ _ _ _ (r.stk h2)
  unfold hk_G at go gj
  simp only [hk_iok, Bool.and_eq_true, decide_eq_true_eq] at hck
  simp only [hk_stp] at hrun
  obtain rfl := hck
  unfold hk_i2 at hrun
  split at hrun
  · next y x r0 => exact lv_iand hx hb hdg (go hrun (hk_voc trivial (hk_vo2 hsv).2.2))
  · cases hrun

set_option maxHeartbeats 1000000 in
theorem hk_z_ior {ini : Bool} {rk : Nat} (FX : hk_Fx SH ch cls kd wl mt hn sc p l R s m args meth c D cI cZ cR cJ A H0 b0 mx dd own cc scr cl ini) {pc len a b c1 d : Nat} {v : Int32} {w : Int64} {sw : List (Int32 × Nat)}  (hdg : decode cc pc = .ok (.ior, len)) (hck : hk_iok cls kd mt hn own ini rk mx pc (.ior) len a b c1 d v w sw = true) {nxr : hk_L → List Value → hk_H → hk_O} {jmr : Nat → hk_L → List Value → hk_H → hk_O} {qf : Option Value × hk_H} (hnx : ∀ L st h, nxr L st h = some qf → hk_K SH cls kd sc D cI cZ cR cJ A H0 b0 ad0 al0 mx n0 s0 p l e R s m args below meth c Q (pc + len) L st h) (hjm : ∀ t L st h, jmr t L st h = some qf → hk_K SH cls kd sc D cI cZ cR cJ A H0 b0 ad0 al0 mx n0 s0 p l e R s m args below meth c Q t L st h)  {L : hk_L} {st : List Value} {h : hk_H} (hrun : hk_stp SH pb big none nxr jmr (fun P d k => @ite _ P d k none) (fun P d k0 k1 => @ite _ P d k0 k1) (fun y a h k => (cl y a h).bind (fun q => k q.1 q.2)) (fun r h => some (r, h)) scr ch (.ior) a c1 d v w sw L st h = some qf) : hk_K SH cls kd sc D cI cZ cR cJ A H0 b0 ad0 al0 mx n0 s0 p l e R s m args below meth c Q pc L st h := by
  obtain ⟨TB, hx, hb, hml, hown, hts, hK, hA, hin, hX, hcl, hge, hR1, hR2, hAO⟩ := FX
  intro ad H locs ls r
  obtain ⟨hP, hD, hS, hwf, hlv, hlen, hsv, hLv, hadb, hn0, hs0⟩ := id r
  unfold hk_G
  have go : ∀ {st' : List Value}, nxr L st' h = some qf → (∀ v ∈ st', hk_vo sc h.2.2.2 v) → hk_G SH cls p l e R s m args below meth c Q n0 s0 ad h H locs (pc + len) ls st' := fun h1 h2 => hnx _ _ _ h1 _ _ _ _ (r.stk h2)
  have gj : ∀ {t : Nat} {st' : List Value}, jmr t L st' h = some qf → (∀ v ∈ st', hk_vo sc h.2.2.2 v) → hk_G SH cls p l e R s m args below meth c Q n0 s0 ad h H locs t ls st' := fun h1 h2 => hjm _ _ _ _ h1 _ _ _ _ (r.stk h2)
  unfold hk_G at go gj
  simp only [hk_iok, Bool.and_eq_true, decide_eq_true_eq] at hck
  simp only [hk_stp] at hrun
  obtain rfl := hck
  unfold hk_i2 at hrun
  split at hrun
  · next y x r0 => exact lv_ior hx hb hdg (go hrun (hk_voc trivial (hk_vo2 hsv).2.2))
  · cases hrun

set_option maxHeartbeats 1000000 in
theorem hk_z_ixor {ini : Bool} {rk : Nat} (FX : hk_Fx SH ch cls kd wl mt hn sc p l R s m args meth c D cI cZ cR cJ A H0 b0 mx dd own cc scr cl ini) {pc len a b c1 d : Nat} {v : Int32} {w : Int64} {sw : List (Int32 × Nat)}  (hdg : decode cc pc = .ok (.ixor, len)) (hck : hk_iok cls kd mt hn own ini rk mx pc (.ixor) len a b c1 d v w sw = true) {nxr : hk_L → List Value → hk_H → hk_O} {jmr : Nat → hk_L → List Value → hk_H → hk_O} {qf : Option Value × hk_H} (hnx : ∀ L st h, nxr L st h = some qf → hk_K SH cls kd sc D cI cZ cR cJ A H0 b0 ad0 al0 mx n0 s0 p l e R s m args below meth c Q (pc + len) L st h) (hjm : ∀ t L st h, jmr t L st h = some qf → hk_K SH cls kd sc D cI cZ cR cJ A H0 b0 ad0 al0 mx n0 s0 p l e R s m args below meth c Q t L st h)  {L : hk_L} {st : List Value} {h : hk_H} (hrun : hk_stp SH pb big none nxr jmr (fun P d k => @ite _ P d k none) (fun P d k0 k1 => @ite _ P d k0 k1) (fun y a h k => (cl y a h).bind (fun q => k q.1 q.2)) (fun r h => some (r, h)) scr ch (.ixor) a c1 d v w sw L st h = some qf) : hk_K SH cls kd sc D cI cZ cR cJ A H0 b0 ad0 al0 mx n0 s0 p l e R s m args below meth c Q pc L st h := by
  obtain ⟨TB, hx, hb, hml, hown, hts, hK, hA, hin, hX, hcl, hge, hR1, hR2, hAO⟩ := FX
  intro ad H locs ls r
  obtain ⟨hP, hD, hS, hwf, hlv, hlen, hsv, hLv, hadb, hn0, hs0⟩ := id r
  unfold hk_G
  have go : ∀ {st' : List Value}, nxr L st' h = some qf → (∀ v ∈ st', hk_vo sc h.2.2.2 v) → hk_G SH cls p l e R s m args below meth c Q n0 s0 ad h H locs (pc + len) ls st' := fun h1 h2 => hnx _ _ _ h1 _ _ _ _ (r.stk h2)
  have gj : ∀ {t : Nat} {st' : List Value}, jmr t L st' h = some qf → (∀ v ∈ st', hk_vo sc h.2.2.2 v) → hk_G SH cls p l e R s m args below meth c Q n0 s0 ad h H locs t ls st' := fun h1 h2 => hjm _ _ _ _ h1 _ _ _ _ (r.stk h2)
  unfold hk_G at go gj
  simp only [hk_iok, Bool.and_eq_true, decide_eq_true_eq] at hck
  simp only [hk_stp] at hrun
  obtain rfl := hck
  unfold hk_i2 at hrun
  split at hrun
  · next y x r0 => exact lv_ixor hx hb hdg (go hrun (hk_voc trivial (hk_vo2 hsv).2.2))
  · cases hrun

set_option maxHeartbeats 1000000 in
theorem hk_z_ishl {ini : Bool} {rk : Nat} (FX : hk_Fx SH ch cls kd wl mt hn sc p l R s m args meth c D cI cZ cR cJ A H0 b0 mx dd own cc scr cl ini) {pc len a b c1 d : Nat} {v : Int32} {w : Int64} {sw : List (Int32 × Nat)}  (hdg : decode cc pc = .ok (.ishl, len)) (hck : hk_iok cls kd mt hn own ini rk mx pc (.ishl) len a b c1 d v w sw = true) {nxr : hk_L → List Value → hk_H → hk_O} {jmr : Nat → hk_L → List Value → hk_H → hk_O} {qf : Option Value × hk_H} (hnx : ∀ L st h, nxr L st h = some qf → hk_K SH cls kd sc D cI cZ cR cJ A H0 b0 ad0 al0 mx n0 s0 p l e R s m args below meth c Q (pc + len) L st h) (hjm : ∀ t L st h, jmr t L st h = some qf → hk_K SH cls kd sc D cI cZ cR cJ A H0 b0 ad0 al0 mx n0 s0 p l e R s m args below meth c Q t L st h)  {L : hk_L} {st : List Value} {h : hk_H} (hrun : hk_stp SH pb big none nxr jmr (fun P d k => @ite _ P d k none) (fun P d k0 k1 => @ite _ P d k0 k1) (fun y a h k => (cl y a h).bind (fun q => k q.1 q.2)) (fun r h => some (r, h)) scr ch (.ishl) a c1 d v w sw L st h = some qf) : hk_K SH cls kd sc D cI cZ cR cJ A H0 b0 ad0 al0 mx n0 s0 p l e R s m args below meth c Q pc L st h := by
  obtain ⟨TB, hx, hb, hml, hown, hts, hK, hA, hin, hX, hcl, hge, hR1, hR2, hAO⟩ := FX
  intro ad H locs ls r
  obtain ⟨hP, hD, hS, hwf, hlv, hlen, hsv, hLv, hadb, hn0, hs0⟩ := id r
  unfold hk_G
  have go : ∀ {st' : List Value}, nxr L st' h = some qf → (∀ v ∈ st', hk_vo sc h.2.2.2 v) → hk_G SH cls p l e R s m args below meth c Q n0 s0 ad h H locs (pc + len) ls st' := fun h1 h2 => hnx _ _ _ h1 _ _ _ _ (r.stk h2)
  have gj : ∀ {t : Nat} {st' : List Value}, jmr t L st' h = some qf → (∀ v ∈ st', hk_vo sc h.2.2.2 v) → hk_G SH cls p l e R s m args below meth c Q n0 s0 ad h H locs t ls st' := fun h1 h2 => hjm _ _ _ _ h1 _ _ _ _ (r.stk h2)
  unfold hk_G at go gj
  simp only [hk_iok, Bool.and_eq_true, decide_eq_true_eq] at hck
  simp only [hk_stp] at hrun
  obtain rfl := hck
  unfold hk_i2 at hrun
  split at hrun
  · next y x r0 => exact lv_ishl hx hb hdg (go hrun (hk_voc trivial (hk_vo2 hsv).2.2))
  · cases hrun

set_option maxHeartbeats 1000000 in
theorem hk_z_ishr {ini : Bool} {rk : Nat} (FX : hk_Fx SH ch cls kd wl mt hn sc p l R s m args meth c D cI cZ cR cJ A H0 b0 mx dd own cc scr cl ini) {pc len a b c1 d : Nat} {v : Int32} {w : Int64} {sw : List (Int32 × Nat)}  (hdg : decode cc pc = .ok (.ishr, len)) (hck : hk_iok cls kd mt hn own ini rk mx pc (.ishr) len a b c1 d v w sw = true) {nxr : hk_L → List Value → hk_H → hk_O} {jmr : Nat → hk_L → List Value → hk_H → hk_O} {qf : Option Value × hk_H} (hnx : ∀ L st h, nxr L st h = some qf → hk_K SH cls kd sc D cI cZ cR cJ A H0 b0 ad0 al0 mx n0 s0 p l e R s m args below meth c Q (pc + len) L st h) (hjm : ∀ t L st h, jmr t L st h = some qf → hk_K SH cls kd sc D cI cZ cR cJ A H0 b0 ad0 al0 mx n0 s0 p l e R s m args below meth c Q t L st h)  {L : hk_L} {st : List Value} {h : hk_H} (hrun : hk_stp SH pb big none nxr jmr (fun P d k => @ite _ P d k none) (fun P d k0 k1 => @ite _ P d k0 k1) (fun y a h k => (cl y a h).bind (fun q => k q.1 q.2)) (fun r h => some (r, h)) scr ch (.ishr) a c1 d v w sw L st h = some qf) : hk_K SH cls kd sc D cI cZ cR cJ A H0 b0 ad0 al0 mx n0 s0 p l e R s m args below meth c Q pc L st h := by
  obtain ⟨TB, hx, hb, hml, hown, hts, hK, hA, hin, hX, hcl, hge, hR1, hR2, hAO⟩ := FX
  intro ad H locs ls r
  obtain ⟨hP, hD, hS, hwf, hlv, hlen, hsv, hLv, hadb, hn0, hs0⟩ := id r
  unfold hk_G
  have go : ∀ {st' : List Value}, nxr L st' h = some qf → (∀ v ∈ st', hk_vo sc h.2.2.2 v) → hk_G SH cls p l e R s m args below meth c Q n0 s0 ad h H locs (pc + len) ls st' := fun h1 h2 => hnx _ _ _ h1 _ _ _ _ (r.stk h2)
  have gj : ∀ {t : Nat} {st' : List Value}, jmr t L st' h = some qf → (∀ v ∈ st', hk_vo sc h.2.2.2 v) → hk_G SH cls p l e R s m args below meth c Q n0 s0 ad h H locs t ls st' := fun h1 h2 => hjm _ _ _ _ h1 _ _ _ _ (r.stk h2)
  unfold hk_G at go gj
  simp only [hk_iok, Bool.and_eq_true, decide_eq_true_eq] at hck
  simp only [hk_stp] at hrun
  obtain rfl := hck
  unfold hk_i2 at hrun
  split at hrun
  · next y x r0 => exact lv_ishr hx hb hdg (go hrun (hk_voc trivial (hk_vo2 hsv).2.2))
  · cases hrun

set_option maxHeartbeats 1000000 in
theorem hk_z_iushr {ini : Bool} {rk : Nat} (FX : hk_Fx SH ch cls kd wl mt hn sc p l R s m args meth c D cI cZ cR cJ A H0 b0 mx dd own cc scr cl ini) {pc len a b c1 d : Nat} {v : Int32} {w : Int64} {sw : List (Int32 × Nat)}  (hdg : decode cc pc = .ok (.iushr, len)) (hck : hk_iok cls kd mt hn own ini rk mx pc (.iushr) len a b c1 d v w sw = true) {nxr : hk_L → List Value → hk_H → hk_O} {jmr : Nat → hk_L → List Value → hk_H → hk_O} {qf : Option Value × hk_H} (hnx : ∀ L st h, nxr L st h = some qf → hk_K SH cls kd sc D cI cZ cR cJ A H0 b0 ad0 al0 mx n0 s0 p l e R s m args below meth c Q (pc + len) L st h) (hjm : ∀ t L st h, jmr t L st h = some qf → hk_K SH cls kd sc D cI cZ cR cJ A H0 b0 ad0 al0 mx n0 s0 p l e R s m args below meth c Q t L st h)  {L : hk_L} {st : List Value} {h : hk_H} (hrun : hk_stp SH pb big none nxr jmr (fun P d k => @ite _ P d k none) (fun P d k0 k1 => @ite _ P d k0 k1) (fun y a h k => (cl y a h).bind (fun q => k q.1 q.2)) (fun r h => some (r, h)) scr ch (.iushr) a c1 d v w sw L st h = some qf) : hk_K SH cls kd sc D cI cZ cR cJ A H0 b0 ad0 al0 mx n0 s0 p l e R s m args below meth c Q pc L st h := by
  obtain ⟨TB, hx, hb, hml, hown, hts, hK, hA, hin, hX, hcl, hge, hR1, hR2, hAO⟩ := FX
  intro ad H locs ls r
  obtain ⟨hP, hD, hS, hwf, hlv, hlen, hsv, hLv, hadb, hn0, hs0⟩ := id r
  unfold hk_G
  have go : ∀ {st' : List Value}, nxr L st' h = some qf → (∀ v ∈ st', hk_vo sc h.2.2.2 v) → hk_G SH cls p l e R s m args below meth c Q n0 s0 ad h H locs (pc + len) ls st' := fun h1 h2 => hnx _ _ _ h1 _ _ _ _ (r.stk h2)
  have gj : ∀ {t : Nat} {st' : List Value}, jmr t L st' h = some qf → (∀ v ∈ st', hk_vo sc h.2.2.2 v) → hk_G SH cls p l e R s m args below meth c Q n0 s0 ad h H locs t ls st' := fun h1 h2 => hjm _ _ _ _ h1 _ _ _ _ (r.stk h2)
  unfold hk_G at go gj
  simp only [hk_iok, Bool.and_eq_true, decide_eq_true_eq] at hck
  simp only [hk_stp] at hrun
  obtain rfl := hck
  unfold hk_i2 at hrun
  split at hrun
  · next y x r0 => exact lv_iushr hx hb hdg rfl (go hrun (hk_voc trivial (hk_vo2 hsv).2.2))
  · cases hrun

set_option maxHeartbeats 1000000 in
theorem hk_z_ladd {ini : Bool} {rk : Nat} (FX : hk_Fx SH ch cls kd wl mt hn sc p l R s m args meth c D cI cZ cR cJ A H0 b0 mx dd own cc scr cl ini) {pc len a b c1 d : Nat} {v : Int32} {w : Int64} {sw : List (Int32 × Nat)}  (hdg : decode cc pc = .ok (.ladd, len)) (hck : hk_iok cls kd mt hn own ini rk mx pc (.ladd) len a b c1 d v w sw = true) {nxr : hk_L → List Value → hk_H → hk_O} {jmr : Nat → hk_L → List Value → hk_H → hk_O} {qf : Option Value × hk_H} (hnx : ∀ L st h, nxr L st h = some qf → hk_K SH cls kd sc D cI cZ cR cJ A H0 b0 ad0 al0 mx n0 s0 p l e R s m args below meth c Q (pc + len) L st h) (hjm : ∀ t L st h, jmr t L st h = some qf → hk_K SH cls kd sc D cI cZ cR cJ A H0 b0 ad0 al0 mx n0 s0 p l e R s m args below meth c Q t L st h)  {L : hk_L} {st : List Value} {h : hk_H} (hrun : hk_stp SH pb big none nxr jmr (fun P d k => @ite _ P d k none) (fun P d k0 k1 => @ite _ P d k0 k1) (fun y a h k => (cl y a h).bind (fun q => k q.1 q.2)) (fun r h => some (r, h)) scr ch (.ladd) a c1 d v w sw L st h = some qf) : hk_K SH cls kd sc D cI cZ cR cJ A H0 b0 ad0 al0 mx n0 s0 p l e R s m args below meth c Q pc L st h := by
  obtain ⟨TB, hx, hb, hml, hown, hts, hK, hA, hin, hX, hcl, hge, hR1, hR2, hAO⟩ := FX
  intro ad H locs ls r
  obtain ⟨hP, hD, hS, hwf, hlv, hlen, hsv, hLv, hadb, hn0, hs0⟩ := id r
  unfold hk_G
  have go : ∀ {st' : List Value}, nxr L st' h = some qf → (∀ v ∈ st', hk_vo sc h.2.2.2 v) → hk_G SH cls p l e R s m args below meth c Q n0 s0 ad h H locs (pc + len) ls st' := fun h1 h2 => hnx _ _ _ h1 _ _ _ _ (r.stk h2)
  have gj : ∀ {t : Nat} {st' : List Value}, jmr t L st' h = some qf → (∀ v ∈ st', hk_vo sc h.2.2.2 v) → hk_G SH cls p l e R s m args below meth c Q n0 s0 ad h H locs t ls st' := fun h1 h2 => hjm _ _ _ _ h1 _ _ _ _ (r.stk h2)
  unfold hk_G at go gj
  simp only [hk_iok, Bool.and_eq_true, decide_eq_true_eq] at hck
  simp only [hk_stp] at hrun
  obtain rfl := hck
  unfold hk_l2 at hrun
  split at hrun
  · next y x r0 => exact lv_ladd hx hb hdg (go hrun (hk_voc trivial (hk_vo2 hsv).2.2))
  · cases hrun

set_option maxHeartbeats 1000000 in
theorem hk_z_lsub {ini : Bool} {rk : Nat} (FX : hk_Fx SH ch cls kd wl mt hn sc p l R s m args meth c D cI cZ cR cJ A H0 b0 mx dd own cc scr cl ini) {pc len a b c1 d : Nat} {v : Int32} {w : Int64} {sw : List (Int32 × Nat)}  (hdg : decode cc pc = .ok (.lsub, len)) (hck : hk_iok cls kd mt hn own ini rk mx pc (.lsub) len a b c1 d v w sw = true) {nxr : hk_L → List Value → hk_H → hk_O} {jmr : Nat → hk_L → List Value → hk_H → hk_O} {qf : Option Value × hk_H} (hnx : ∀ L st h, nxr L st h = some qf → hk_K SH cls kd sc D cI cZ cR cJ A H0 b0 ad0 al0 mx n0 s0 p l e R s m args below meth c Q (pc + len) L st h) (hjm : ∀ t L st h, jmr t L st h = some qf → hk_K SH cls kd sc D cI cZ cR cJ A H0 b0 ad0 al0 mx n0 s0 p l e R s m args below meth c Q t L st h)  {L : hk_L} {st : List Value} {h : hk_H} (hrun : hk_stp SH pb big none nxr jmr (fun P d k => @ite _ P d k none) (fun P d k0 k1 => @ite _ P d k0 k1) (fun y a h k => (cl y a h).bind (fun q => k q.1 q.2)) (fun r h => some (r, h)) scr ch (.lsub) a c1 d v w sw L st h = some qf) : hk_K SH cls kd sc D cI cZ cR cJ A H0 b0 ad0 al0 mx n0 s0 p l e R s m args below meth c Q pc L st h := by
  obtain ⟨TB, hx, hb, hml, hown, hts, hK, hA, hin, hX, hcl, hge, hR1, hR2, hAO⟩ := FX
  intro ad H locs ls r
  obtain ⟨hP, hD, hS, hwf, hlv, hlen, hsv, hLv, hadb, hn0, hs0⟩ := id r
  unfold hk_G
  have go : ∀ {st' : List Value}, nxr L st' h = some qf → (∀ v ∈ st', hk_vo sc h.2.2.2 v) → hk_G SH cls p l e R s m args below meth c Q n0 s0 ad h H locs (pc + len) ls st' := fun h1 h2 => hnx _ _ _ h1 _ _ _ _ (r.stk h2)
  have gj : ∀ {t : Nat} {st' : List Value}, jmr t L st' h = some qf → (∀ v ∈ st', hk_vo sc h.2.2.2 v) → hk_G SH cls p l e R s m args below meth c Q n0 s0 ad h H locs t ls st' := fun h1 h2 => hjm _ _ _ _ h1 _ _ _ _ (r.stk h2)
  unfold hk_G at go gj
  simp only [hk_iok, Bool.and_eq_true, decide_eq_true_eq] at hck
  simp only [hk_stp] at hrun
  obtain rfl := hck
  unfold hk_l2 at hrun
  split at hrun
  · next y x r0 => exact lv_lsub hx hb hdg (go hrun (hk_voc trivial (hk_vo2 hsv).2.2))
  · cases hrun

set_option maxHeartbeats 1000000 in
theorem hk_z_lmul {ini : Bool} {rk : Nat} (FX : hk_Fx SH ch cls kd wl mt hn sc p l R s m args meth c D cI cZ cR cJ A H0 b0 mx dd own cc scr cl ini) {pc len a b c1 d : Nat} {v : Int32} {w : Int64} {sw : List (Int32 × Nat)}  (hdg : decode cc pc = .ok (.lmul, len)) (hck : hk_iok cls kd mt hn own ini rk mx pc (.lmul) len a b c1 d v w sw = true) {nxr : hk_L → List Value → hk_H → hk_O} {jmr : Nat → hk_L → List Value → hk_H → hk_O} {qf : Option Value × hk_H} (hnx : ∀ L st h, nxr L st h = some qf → hk_K SH cls kd sc D cI cZ cR cJ A H0 b0 ad0 al0 mx n0 s0 p l e R s m args below meth c Q (pc + len) L st h) (hjm : ∀ t L st h, jmr t L st h = some qf → hk_K SH cls kd sc D cI cZ cR cJ A H0 b0 ad0 al0 mx n0 s0 p l e R s m args below meth c Q t L st h)  {L : hk_L} {st : List Value} {h : hk_H} (hrun : hk_stp SH pb big none nxr jmr (fun P d k => @ite _ P d k none) (fun P d k0 k1 => @ite _ P d k0 k1) (fun y a h k => (cl y a h).bind (fun q => k q.1 q.2)) (fun r h => some (r, h)) scr ch (.lmul) a c1 d v w sw L st h = some qf) : hk_K SH cls kd sc D cI cZ cR cJ A H0 b0 ad0 al0 mx n0 s0 p l e R s m args below meth c Q pc L st h := by
  obtain ⟨TB, hx, hb, hml, hown, hts, hK, hA, hin, hX, hcl, hge, hR1, hR2, hAO⟩ := FX
  intro ad H locs ls r
  obtain ⟨hP, hD, hS, hwf, hlv, hlen, hsv, hLv, hadb, hn0, hs0⟩ := id r
  unfold hk_G
  have go : ∀ {st' : List Value}, nxr L st' h = some qf → (∀ v ∈ st', hk_vo sc h.2.2.2 v) → hk_G SH cls p l e R s m args below meth c Q n0 s0 ad h H locs (pc + len) ls st' := fun h1 h2 => hnx _ _ _ h1 _ _ _ _ (r.stk h2)
  have gj : ∀ {t : Nat} {st' : List Value}, jmr t L st' h = some qf → (∀ v ∈ st', hk_vo sc h.2.2.2 v) → hk_G SH cls p l e R s m args below meth c Q n0 s0 ad h H locs t ls st' := fun h1 h2 => hjm _ _ _ _ h1 _ _ _ _ (r.stk h2)
  unfold hk_G at go gj
  simp only [hk_iok, Bool.and_eq_true, decide_eq_true_eq] at hck
  simp only [hk_stp] at hrun
  obtain rfl := hck
  unfold hk_l2 at hrun
  split at hrun
  · next y x r0 => exact lv_lmul hx hb hdg (go hrun (hk_voc trivial (hk_vo2 hsv).2.2))
  · cases hrun

set_option maxHeartbeats 1000000 in
theorem hk_z_idiv {ini : Bool} {rk : Nat} (FX : hk_Fx SH ch cls kd wl mt hn sc p l R s m args meth c D cI cZ cR cJ A H0 b0 mx dd own cc scr cl ini) {pc len a b c1 d : Nat} {v : Int32} {w : Int64} {sw : List (Int32 × Nat)}  (hdg : decode cc pc = .ok (.idiv, len)) (hck : hk_iok cls kd mt hn own ini rk mx pc (.idiv) len a b c1 d v w sw = true) {nxr : hk_L → List Value → hk_H → hk_O} {jmr : Nat → hk_L → List Value → hk_H → hk_O} {qf : Option Value × hk_H} (hnx : ∀ L st h, nxr L st h = some qf → hk_K SH cls kd sc D cI cZ cR cJ A H0 b0 ad0 al0 mx n0 s0 p l e R s m args below meth c Q (pc + len) L st h) (hjm : ∀ t L st h, jmr t L st h = some qf → hk_K SH cls kd sc D cI cZ cR cJ A H0 b0 ad0 al0 mx n0 s0 p l e R s m args below meth c Q t L st h)  {L : hk_L} {st : List Value} {h : hk_H} (hrun : hk_stp SH pb big none nxr jmr (fun P d k => @ite _ P d k none) (fun P d k0 k1 => @ite _ P d k0 k1) (fun y a h k => (cl y a h).bind (fun q => k q.1 q.2)) (fun r h => some (r, h)) scr ch (.idiv) a c1 d v w sw L st h = some qf) : hk_K SH cls kd sc D cI cZ cR cJ A H0 b0 ad0 al0 mx n0 s0 p l e R s m args below meth c Q pc L st h := by
  obtain ⟨TB, hx, hb, hml, hown, hts, hK, hA, hin, hX, hcl, hge, hR1, hR2, hAO⟩ := FX
  intro ad H locs ls r
  obtain ⟨hP, hD, hS, hwf, hlv, hlen, hsv, hLv, hadb, hn0, hs0⟩ := id r
  unfold hk_G
  have go : ∀ {st' : List Value}, nxr L st' h = some qf → (∀ v ∈ st', hk_vo sc h.2.2.2 v) → hk_G SH cls p l e R s m args below meth c Q n0 s0 ad h H locs (pc + len) ls st' := fun h1 h2 => hnx _ _ _ h1 _ _ _ _ (r.stk h2)
  have gj : ∀ {t : Nat} {st' : List Value}, jmr t L st' h = some qf → (∀ v ∈ st', hk_vo sc h.2.2.2 v) → hk_G SH cls p l e R s m args below meth c Q n0 s0 ad h H locs t ls st' := fun h1 h2 => hjm _ _ _ _ h1 _ _ _ _ (r.stk h2)
  unfold hk_G at go gj
  simp only [hk_iok, Bool.and_eq_true, decide_eq_true_eq] at hck
  simp only [hk_stp] at hrun
  obtain rfl := hck
  split at hrun
  · next y x r0 =>
    split at hrun
    · next hy => exact lv_idiv hx hb hdg hy (go hrun (hk_voc trivial (hk_vo2 hsv).2.2))
    · cases hrun
  · cases hrun

set_option maxHeartbeats 1000000 in
theorem hk_z_irem {ini : Bool} {rk : Nat} (FX : hk_Fx SH ch cls kd wl mt hn sc p l R s m args meth c D cI cZ cR cJ A H0 b0 mx dd own cc scr cl ini) {pc len a b c1 d : Nat} {v : Int32} {w : Int64} {sw : List (Int32 × Nat)}  (hdg : decode cc pc = .ok (.irem, len)) (hck : hk_iok cls kd mt hn own ini rk mx pc (.irem) len a b c1 d v w sw = true) {nxr : hk_L → List Value → hk_H → hk_O} {jmr : Nat → hk_L → List Value → hk_H → hk_O} {qf : Option Value × hk_H} (hnx : ∀ L st h, nxr L st h = some qf → hk_K SH cls kd sc D cI cZ cR cJ A H0 b0 ad0 al0 mx n0 s0 p l e R s m args below meth c Q (pc + len) L st h) (hjm : ∀ t L st h, jmr t L st h = some qf → hk_K SH cls kd sc D cI cZ cR cJ A H0 b0 ad0 al0 mx n0 s0 p l e R s m args below meth c Q t L st h)  {L : hk_L} {st : List Value} {h : hk_H} (hrun : hk_stp SH pb big none nxr jmr (fun P d k => @ite _ P d k none) (fun P d k0 k1 => @ite _ P d k0 k1) (fun y a h k => (cl y a h).bind (fun q => k q.1 q.2)) (fun r h => some (r, h)) scr ch (.irem) a c1 d v w sw L st h = some qf) : hk_K SH cls kd sc D cI cZ cR cJ A H0 b0 ad0 al0 mx n0 s0 p l e R s m args below meth c Q pc L st h := by
  obtain ⟨TB, hx, hb, hml, hown, hts, hK, hA, hin, hX, hcl, hge, hR1, hR2, hAO⟩ := FX
  intro ad H locs ls r
  obtain ⟨hP, hD, hS, hwf, hlv, hlen, hsv, hLv, hadb, hn0, hs0⟩ := id r
  unfold hk_G
  have go : ∀ {st' : List Value}, nxr L st' h = some qf → (∀ v ∈ st', hk_vo sc h.2.2.2 v) → hk_G SH cls p l e R s m args below meth c Q n0 s0 ad h H locs (pc + len) ls st' := fun h1 h2 => hnx _ _ _ h1 _ _ _ _ (r.stk h2)
  have gj : ∀ {t : Nat} {st' : List Value}, jmr t L st' h = some qf → (∀ v ∈ st', hk_vo sc h.2.2.2 v) → hk_G SH cls p l e R s m args below meth c Q n0 s0 ad h H locs t ls st' := fun h1 h2 => hjm _ _ _ _ h1 _ _ _ _ (r.stk h2)
  unfold hk_G at go gj
  simp only [hk_iok, Bool.and_eq_true, decide_eq_true_eq] at hck
  simp only [hk_stp] at hrun
  obtain rfl := hck
  split at hrun
  · next y x r0 =>
    split at hrun
    · next hy => exact lv_irem hx hb hdg hy (go hrun (hk_voc trivial (hk_vo2 hsv).2.2))
    · cases hrun
  · cases hrun

set_option maxHeartbeats 1000000 in
theorem hk_z_ldiv {ini : Bool} {rk : Nat} (FX : hk_Fx SH ch cls kd wl mt hn sc p l R s m args meth c D cI cZ cR cJ A H0 b0 mx dd own cc scr cl ini) {pc len a b c1 d : Nat} {v : Int32} {w : Int64} {sw : List (Int32 × Nat)}  (hdg : decode cc pc = .ok (.ldiv, len)) (hck : hk_iok cls kd mt hn own ini rk mx pc (.ldiv) len a b c1 d v w sw = true) {nxr : hk_L → List Value → hk_H → hk_O} {jmr : Nat → hk_L → List Value → hk_H → hk_O} {qf : Option Value × hk_H} (hnx : ∀ L st h, nxr L st h = some qf → hk_K SH cls kd sc D cI cZ cR cJ A H0 b0 ad0 al0 mx n0 s0 p l e R s m args below meth c Q (pc + len) L st h) (hjm : ∀ t L st h, jmr t L st h = some qf → hk_K SH cls kd sc D cI cZ cR cJ A H0 b0 ad0 al0 mx n0 s0 p l e R s m args below meth c Q t L st h)  {L : hk_L} {st : List Value} {h : hk_H} (hrun : hk_stp SH pb big none nxr jmr (fun P d k => @ite _ P d k none) (fun P d k0 k1 => @ite _ P d k0 k1) (fun y a h k => (cl y a h).bind (fun q => k q.1 q.2)) (fun r h => some (r, h)) scr ch (.ldiv) a c1 d v w sw L st h = some qf) : hk_K SH cls kd sc D cI cZ cR cJ A H0 b0 ad0 al0 mx n0 s0 p l e R s m args below meth c Q pc L st h := by
  obtain ⟨TB, hx, hb, hml, hown, hts, hK, hA, hin, hX, hcl, hge, hR1, hR2, hAO⟩ := FX
  intro ad H locs ls r
  obtain ⟨hP, hD, hS, hwf, hlv, hlen, hsv, hLv, hadb, hn0, hs0⟩ := id r
  unfold hk_G
  have go : ∀ {st' : List Value}, nxr L st' h = some qf → (∀ v ∈ st', hk_vo sc h.2.2.2 v) → hk_G SH cls p l e R s m args below meth c Q n0 s0 ad h H locs (pc + len) ls st' := fun h1 h2 => hnx _ _ _ h1 _ _ _ _ (r.stk h2)
  have gj : ∀ {t : Nat} {st' : List Value}, jmr t L st' h = some qf → (∀ v ∈ st', hk_vo sc h.2.2.2 v) → hk_G SH cls p l e R s m args below meth c Q n0 s0 ad h H locs t ls st' := fun h1 h2 => hjm _ _ _ _ h1 _ _ _ _ (r.stk h2)
  unfold hk_G at go gj
  simp only [hk_iok, Bool.and_eq_true, decide_eq_true_eq] at hck
  simp only [hk_stp] at hrun
  obtain rfl := hck
  split at hrun
  · next y x r0 =>
    split at hrun
    · next hy => exact lv_ldiv hx hb hdg hy (go hrun (hk_voc trivial (hk_vo2 hsv).2.2))
    · cases hrun
  · cases hrun

set_option maxHeartbeats 1000000 in
theorem hk_z_lneg {ini : Bool} {rk : Nat} (FX : hk_Fx SH ch cls kd wl mt hn sc p l R s m args meth c D cI cZ cR cJ A H0 b0 mx dd own cc scr cl ini) {pc len a b c1 d : Nat} {v : Int32} {w : Int64} {sw : List (Int32 × Nat)}  (hdg : decode cc pc = .ok (.lneg, len)) (hck : hk_iok cls kd mt hn own ini rk mx pc (.lneg) len a b c1 d v w sw = true) {nxr : hk_L → List Value → hk_H → hk_O} {jmr : Nat → hk_L → List Value → hk_H → hk_O} {qf : Option Value × hk_H} (hnx : ∀ L st h, nxr L st h = some qf → hk_K SH cls kd sc D cI cZ cR cJ A H0 b0 ad0 al0 mx n0 s0 p l e R s m args below meth c Q (pc + len) L st h) (hjm : ∀ t L st h, jmr t L st h = some qf → hk_K SH cls kd sc D cI cZ cR cJ A H0 b0 ad0 al0 mx n0 s0 p l e R s m args below meth c Q t L st h)  {L : hk_L} {st : List Value} {h : hk_H} (hrun : hk_stp SH pb big none nxr jmr (fun P d k => @ite _ P d k none) (fun P d k0 k1 => @ite _ P d k0 k1) (fun y a h k => (cl y a h).bind (fun q => k q.1 q.2)) (fun r h => some (r, h)) scr ch (.lneg) a c1 d v w sw L st h = some qf) : hk_K SH cls kd sc D cI cZ cR cJ A H0 b0 ad0 al0 mx n0 s0 p l e R s m args below meth c Q pc L st h := by
  obtain ⟨TB, hx, hb, hml, hown, hts, hK, hA, hin, hX, hcl, hge, hR1, hR2, hAO⟩ := FX
  intro ad H locs ls r
  obtain ⟨hP, hD, hS, hwf, hlv, hlen, hsv, hLv, hadb, hn0, hs0⟩ := id r
  unfold hk_G
  have go : ∀ {st' : List Value}, nxr L st' h = some qf → (∀ v ∈ st', hk_vo sc h.2.2.2 v) → hk_G SH cls p l e R s m args below meth c Q n0 s0 ad h H locs (pc + len) ls st' := fun h1 h2 => hnx _ _ _ h1 _ _ _ _ (r.stk h2)
  have gj : ∀ {t : Nat} {st' : List Value}, jmr t L st' h = some qf → (∀ v ∈ st', hk_vo sc h.2.2.2 v) → hk_G SH cls p l e R s m args below meth c Q n0 s0 ad h H locs t ls st' := fun h1 h2 => hjm _ _ _ _ h1 _ _ _ _ (r.stk h2)
  unfold hk_G at go gj
  simp only [hk_iok, Bool.and_eq_true, decide_eq_true_eq] at hck
  simp only [hk_stp] at hrun
  obtain rfl := hck
  split at hrun
  · next x r0 => exact lv_lneg hx hb hdg (go hrun (hk_voc trivial (hk_vot hsv).2))
  · cases hrun

set_option maxHeartbeats 1000000 in
theorem hk_z_i2l {ini : Bool} {rk : Nat} (FX : hk_Fx SH ch cls kd wl mt hn sc p l R s m args meth c D cI cZ cR cJ A H0 b0 mx dd own cc scr cl ini) {pc len a b c1 d : Nat} {v : Int32} {w : Int64} {sw : List (Int32 × Nat)}  (hdg : decode cc pc = .ok (.i2l, len)) (hck : hk_iok cls kd mt hn own ini rk mx pc (.i2l) len a b c1 d v w sw = true) {nxr : hk_L → List Value → hk_H → hk_O} {jmr : Nat → hk_L → List Value → hk_H → hk_O} {qf : Option Value × hk_H} (hnx : ∀ L st h, nxr L st h = some qf → hk_K SH cls kd sc D cI cZ cR cJ A H0 b0 ad0 al0 mx n0 s0 p l e R s m args below meth c Q (pc + len) L st h) (hjm : ∀ t L st h, jmr t L st h = some qf → hk_K SH cls kd sc D cI cZ cR cJ A H0 b0 ad0 al0 mx n0 s0 p l e R s m args below meth c Q t L st h)  {L : hk_L} {st : List Value} {h : hk_H} (hrun : hk_stp SH pb big none nxr jmr (fun P d k => @ite _ P d k none) (fun P d k0 k1 => @ite _ P d k0 k1) (fun y a h k => (cl y a h).bind (fun q => k q.1 q.2)) (fun r h => some (r, h)) scr ch (.i2l) a c1 d v w sw L st h = some qf) : hk_K SH cls kd sc D cI cZ cR cJ A H0 b0 ad0 al0 mx n0 s0 p l e R s m args below meth c Q pc L st h := by
  obtain ⟨TB, hx, hb, hml, hown, hts, hK, hA, hin, hX, hcl, hge, hR1, hR2, hAO⟩ := FX
  intro ad H locs ls r
  obtain ⟨hP, hD, hS, hwf, hlv, hlen, hsv, hLv, hadb, hn0, hs0⟩ := id r
  unfold hk_G
  have go : ∀ {st' : List Value}, nxr L st' h = some qf → (∀ v ∈ st', hk_vo sc h.2.2.2 v) → hk_G SH cls p l e R s m args below meth c Q n0 s0 ad h H locs (pc + len) ls st' := fun h1 h2 => hnx _ _ _ h1 _ _ _ _ (r.stk h2)
  have gj : ∀ {t : Nat} {st' : List Value}, jmr t L st' h = some qf → (∀ v ∈ st', hk_vo sc h.2.2.2 v) → hk_G SH cls p l e R s m args below meth c Q n0 s0 ad h H locs t ls st' := fun h1 h2 => hjm _ _ _ _ h1 _ _ _ _ (r.stk h2)
  unfold hk_G at go gj
  simp only [hk_iok, Bool.and_eq_true, decide_eq_true_eq] at hck
  simp only [hk_stp] at hrun
  obtain rfl := hck
  split at hrun
  · next x r0 => exact lv_i2l hx hb hdg rfl (go hrun (hk_voc trivial (hk_vot hsv).2))
  · cases hrun

set_option maxHeartbeats 1000000 in
theorem hk_z_l2i {ini : Bool} {rk : Nat} (FX : hk_Fx SH ch cls kd wl mt hn sc p l R s m args meth c D cI cZ cR cJ A H0 b0 mx dd own cc scr cl ini) {pc len a b c1 d : Nat} {v : Int32} {w : Int64} {sw : List (Int32 × Nat)}  (hdg : decode cc pc = .ok (.l2i, len)) (hck : hk_iok cls kd mt hn own ini rk mx pc (.l2i) len a b c1 d v w sw = true) {nxr : hk_L → List Value → hk_H → hk_O} {jmr : Nat → hk_L → List Value → hk_H → hk_O} {qf : Option Value × hk_H} (hnx : ∀ L st h, nxr L st h = some qf → hk_K SH cls kd sc D cI cZ cR cJ A H0 b0 ad0 al0 mx n0 s0 p l e R s m args below meth c Q (pc + len) L st h) (hjm : ∀ t L st h, jmr t L st h = some qf → hk_K SH cls kd sc D cI cZ cR cJ A H0 b0 ad0 al0 mx n0 s0 p l e R s m args below meth c Q t L st h)  {L : hk_L} {st : List Value} {h : hk_H} (hrun : hk_stp SH pb big none nxr jmr (fun P d k => @ite _ P d k none) (fun P d k0 k1 => @ite _ P d k0 k1) (fun y a h k => (cl y a h).bind (fun q => k q.1 q.2)) (fun r h => some (r, h)) scr ch (.l2i) a c1 d v w sw L st h = some qf) : hk_K SH cls kd sc D cI cZ cR cJ A H0 b0 ad0 al0 mx n0 s0 p l e R s m args below meth c Q pc L st h := by
  obtain ⟨TB, hx, hb, hml, hown, hts, hK, hA, hin, hX, hcl, hge, hR1, hR2, hAO⟩ := FX
  intro ad H locs ls r
  obtain ⟨hP, hD, hS, hwf, hlv, hlen, hsv, hLv, hadb, hn0, hs0⟩ := id r
  unfold hk_G
  have go : ∀ {st' : List Value}, nxr L st' h = some qf → (∀ v ∈ st', hk_vo sc h.2.2.2 v) → hk_G SH cls p l e R s m args below meth c Q n0 s0 ad h H locs (pc + len) ls st' := fun h1 h2 => hnx _ _ _ h1 _ _ _ _ (r.stk h2)
  have gj : ∀ {t : Nat} {st' : List Value}, jmr t L st' h = some qf → (∀ v ∈ st', hk_vo sc h.2.2.2 v) → hk_G SH cls p l e R s m args below meth c Q n0 s0 ad h H locs t ls st' := fun h1 h2 => hjm _ _ _ _ h1 _ _ _ _ (r.stk h2)
  unfold hk_G at go gj
  simp only [hk_iok, Bool.and_eq_true, decide_eq_true_eq] at hck
  simp only [hk_stp] at hrun
  obtain rfl := hck
  split at hrun
  · next x r0 => exact lv_l2i hx hb hdg rfl (go hrun (hk_voc trivial (hk_vot hsv).2))
  · cases hrun

set_option maxHeartbeats 1000000 in
theorem hk_z_lcmp {ini : Bool} {rk : Nat} (FX : hk_Fx SH ch cls kd wl mt hn sc p l R s m args meth c D cI cZ cR cJ A H0 b0 mx dd own cc scr cl ini) {pc len a b c1 d : Nat} {v : Int32} {w : Int64} {sw : List (Int32 × Nat)}  (hdg : decode cc pc = .ok (.lcmp, len)) (hck : hk_iok cls kd mt hn own ini rk mx pc (.lcmp) len a b c1 d v w sw = true) {nxr : hk_L → List Value → hk_H → hk_O} {jmr : Nat → hk_L → List Value → hk_H → hk_O} {qf : Option Value × hk_H} (hnx : ∀ L st h, nxr L st h = some qf → hk_K SH cls kd sc D cI cZ cR cJ A H0 b0 ad0 al0 mx n0 s0 p l e R s m args below meth c Q (pc + len) L st h) (hjm : ∀ t L st h, jmr t L st h = some qf → hk_K SH cls kd sc D cI cZ cR cJ A H0 b0 ad0 al0 mx n0 s0 p l e R s m args below meth c Q t L st h)  {L : hk_L} {st : List Value} {h : hk_H} (hrun : hk_stp SH pb big none nxr jmr (fun P d k => @ite _ P d k none) (fun P d k0 k1 => @ite _ P d k0 k1) (fun y a h k => (cl y a h).bind (fun q => k q.1 q.2)) (fun r h => some (r, h)) scr ch (.lcmp) a c1 d v w sw L st h = some qf) : hk_K SH cls kd sc D cI cZ cR cJ A H0 b0 ad0 al0 mx n0 s0 p l e R s m args below meth c Q pc L st h := by
  obtain ⟨TB, hx, hb, hml, hown, hts, hK, hA, hin, hX, hcl, hge, hR1, hR2, hAO⟩ := FX
  intro ad H locs ls r
  obtain ⟨hP, hD, hS, hwf, hlv, hlen, hsv, hLv, hadb, hn0, hs0⟩ := id r
  unfold hk_G
  have go : ∀ {st' : List Value}, nxr L st' h = some qf → (∀ v ∈ st', hk_vo sc h.2.2.2 v) → hk_G SH cls p l e R s m args below meth c Q n0 s0 ad h H locs (pc + len) ls st' := fun h1 h2 => hnx _ _ _ h1 _ _ _ _ (r.stk h2)
  have gj : ∀ {t : Nat} {st' : List Value}, jmr t L st' h = some qf → (∀ v ∈ st', hk_vo sc h.2.2.2 v) → hk_G SH cls p l e R s m args below meth c Q n0 s0 ad h H locs t ls st' := fun h1 h2 => hjm _ _ _ _ h1 _ _ _ _ (r.stk h2)
  unfold hk_G at go gj
  simp only [hk_iok, Bool.and_eq_true, decide_eq_true_eq] at hck
  simp only [hk_stp] at hrun
  obtain rfl := hck
  split at hrun
  · next y x r0 => exact W.lcmp hx hb hdg (go hrun (hk_voc trivial (hk_vo2 hsv).2.2))
  · cases hrun

set_option maxHeartbeats 1000000 in
theorem hk_z_dup {ini : Bool} {rk : Nat} (FX : hk_Fx SH ch cls kd wl mt hn sc p l R s m args meth c D cI cZ cR cJ A H0 b0 mx dd own cc scr cl ini) {pc len a b c1 d : Nat} {v : Int32} {w : Int64} {sw : List (Int32 × Nat)}  (hdg : decode cc pc = .ok (.dup, len)) (hck : hk_iok cls kd mt hn own ini rk mx pc (.dup) len a b c1 d v w sw = true) {nxr : hk_L → List Value → hk_H → hk_O} {jmr : Nat → hk_L → List Value → hk_H → hk_O} {qf : Option Value × hk_H} (hnx : ∀ L st h, nxr L st h = some qf → hk_K SH cls kd sc D cI cZ cR cJ A H0 b0 ad0 al0 mx n0 s0 p l e R s m args below meth c Q (pc + len) L st h) (hjm : ∀ t L st h, jmr t L st h = some qf → hk_K SH cls kd sc D cI cZ cR cJ A H0 b0 ad0 al0 mx n0 s0 p l e R s m args below meth c Q t L st h)  {L : hk_L} {st : List Value} {h : hk_H} (hrun : hk_stp SH pb big none nxr jmr (fun P d k => @ite _ P d k none) (fun P d k0 k1 => @ite _ P d k0 k1) (fun y a h k => (cl y a h).bind (fun q => k q.1 q.2)) (fun r h => some (r, h)) scr ch (.dup) a c1 d v w sw L st h = some qf) : hk_K SH cls kd sc D cI cZ cR cJ A H0 b0 ad0 al0 mx n0 s0 p l e R s m args below meth c Q pc L st h := by
  obtain ⟨TB, hx, hb, hml, hown, hts, hK, hA, hin, hX, hcl, hge, hR1, hR2, hAO⟩ := FX
  intro ad H locs ls r
  obtain ⟨hP, hD, hS, hwf, hlv, hlen, hsv, hLv, hadb, hn0, hs0⟩ := id r
  unfold hk_G
  have go : ∀ {st' : List Value}, nxr L st' h = some qf → (∀ v ∈ st', hk_vo sc h.2.2.2 v) → hk_G SH cls p l e R s m args below meth c Q n0 s0 ad h H locs (pc + len) ls st' := fun h1 h2 => hnx _ _ _ h1 _ _ _ _ (r.stk h2)
  have gj : ∀ {t : Nat} {st' : List Value}, jmr t L st' h = some qf → (∀ v ∈ st', hk_vo sc h.2.2.2 v) → hk_G SH cls p l e R s m args below meth c Q n0 s0 ad h H locs t ls st' := fun h1 h2 => hjm _ _ _ _ h1 _ _ _ _ (r.stk h2)
  unfold hk_G at go gj
  simp only [hk_iok, Bool.and_eq_true, decide_eq_true_eq] at hck
  simp only [hk_stp] at hrun
  obtain rfl := hck
  split at hrun
  · exact lv_dup hx hb hdg rfl (go hrun (hk_voc trivial hsv))
  · exact lv_dup hx hb hdg rfl (go hrun (hk_voc (hk_vot hsv).1 hsv))
  · cases hrun

set_option maxHeartbeats 1000000 in
theorem hk_z_dup2 {ini : Bool} {rk : Nat} (FX : hk_Fx SH ch cls kd wl mt hn sc p l R s m args meth c D cI cZ cR cJ A H0 b0 mx dd own cc scr cl ini) {pc len a b c1 d : Nat} {v : Int32} {w : Int64} {sw : List (Int32 × Nat)}  (hdg : decode cc pc = .ok (.dup2, len)) (hck : hk_iok cls kd mt hn own ini rk mx pc (.dup2) len a b c1 d v w sw = true) {nxr : hk_L → List Value → hk_H → hk_O} {jmr : Nat → hk_L → List Value → hk_H → hk_O} {qf : Option Value × hk_H} (hnx : ∀ L st h, nxr L st h = some qf → hk_K SH cls kd sc D cI cZ cR cJ A H0 b0 ad0 al0 mx n0 s0 p l e R s m args below meth c Q (pc + len) L st h) (hjm : ∀ t L st h, jmr t L st h = some qf → hk_K SH cls kd sc D cI cZ cR cJ A H0 b0 ad0 al0 mx n0 s0 p l e R s m args below meth c Q t L st h)  {L : hk_L} {st : List Value} {h : hk_H} (hrun : hk_stp SH pb big none nxr jmr (fun P d k => @ite _ P d k none) (fun P d k0 k1 => @ite _ P d k0 k1) (fun y a h k => (cl y a h).bind (fun q => k q.1 q.2)) (fun r h => some (r, h)) scr ch (.dup2) a c1 d v w sw L st h = some qf) : hk_K SH cls kd sc D cI cZ cR cJ A H0 b0 ad0 al0 mx n0 s0 p l e R s m args below meth c Q pc L st h := by
  obtain ⟨TB, hx, hb, hml, hown, hts, hK, hA, hin, hX, hcl, hge, hR1, hR2, hAO⟩ := FX
  intro ad H locs ls r
  obtain ⟨hP, hD, hS, hwf, hlv, hlen, hsv, hLv, hadb, hn0, hs0⟩ := id r
  unfold hk_G
  have go : ∀ {st' : List Value}, nxr L st' h = some qf → (∀ v ∈ st', hk_vo sc h.2.2.2 v) → hk_G SH cls p l e R s m args below meth c Q n0 s0 ad h H locs (pc + len) ls st' := fun h1 h2 => hnx _ _ _ h1 _ _ _ _ (r.stk h2)
  have gj : ∀ {t : Nat} {st' : List Value}, jmr t L st' h = some qf → (∀ v ∈ st', hk_vo sc h.2.2.2 v) → hk_G SH cls p l e R s m args below meth c Q n0 s0 ad h H locs t ls st' := fun h1 h2 => hjm _ _ _ _ h1 _ _ _ _ (r.stk h2)
  unfold hk_G at go gj
  simp only [hk_iok, Bool.and_eq_true, decide_eq_true_eq] at hck
  simp only [hk_stp] at hrun
  obtain rfl := hck
  split at hrun
  · exact lv_dup2_11 hx hb hdg rfl rfl (go hrun (hk_voc trivial (hk_voc (hk_vo2 hsv).2.1 hsv)))
  · cases hrun

set_option maxHeartbeats 1000000 in
theorem hk_z_pop {ini : Bool} {rk : Nat} (FX : hk_Fx SH ch cls kd wl mt hn sc p l R s m args meth c D cI cZ cR cJ A H0 b0 mx dd own cc scr cl ini) {pc len a b c1 d : Nat} {v : Int32} {w : Int64} {sw : List (Int32 × Nat)}  (hdg : decode cc pc = .ok (.pop, len)) (hck : hk_iok cls kd mt hn own ini rk mx pc (.pop) len a b c1 d v w sw = true) {nxr : hk_L → List Value → hk_H → hk_O} {jmr : Nat → hk_L → List Value → hk_H → hk_O} {qf : Option Value × hk_H} (hnx : ∀ L st h, nxr L st h = some qf → hk_K SH cls kd sc D cI cZ cR cJ A H0 b0 ad0 al0 mx n0 s0 p l e R s m args below meth c Q (pc + len) L st h) (hjm : ∀ t L st h, jmr t L st h = some qf → hk_K SH cls kd sc D cI cZ cR cJ A H0 b0 ad0 al0 mx n0 s0 p l e R s m args below meth c Q t L st h)  {L : hk_L} {st : List Value} {h : hk_H} (hrun : hk_stp SH pb big none nxr jmr (fun P d k => @ite _ P d k none) (fun P d k0 k1 => @ite _ P d k0 k1) (fun y a h k => (cl y a h).bind (fun q => k q.1 q.2)) (fun r h => some (r, h)) scr ch (.pop) a c1 d v w sw L st h = some qf) : hk_K SH cls kd sc D cI cZ cR cJ A H0 b0 ad0 al0 mx n0 s0 p l e R s m args below meth c Q pc L st h := by
  obtain ⟨TB, hx, hb, hml, hown, hts, hK, hA, hin, hX, hcl, hge, hR1, hR2, hAO⟩ := FX
  intro ad H locs ls r
  obtain ⟨hP, hD, hS, hwf, hlv, hlen, hsv, hLv, hadb, hn0, hs0⟩ := id r
  unfold hk_G
  have go : ∀ {st' : List Value}, nxr L st' h = some qf → (∀ v ∈ st', hk_vo sc h.2.2.2 v) → hk_G SH cls p l e R s m args below meth c Q n0 s0 ad h H locs (pc + len) ls st' := fun h1 h2 => hnx _ _ _ h1 _ _ _ _ (r.stk h2)
  have gj : ∀ {t : Nat} {st' : List Value}, jmr t L st' h = some qf → (∀ v ∈ st', hk_vo sc h.2.2.2 v) → hk_G SH cls p l e R s m args below meth c Q n0 s0 ad h H locs t ls st' := fun h1 h2 => hjm _ _ _ _ h1 _ _ _ _ (r.stk h2)
  unfold hk_G at go gj
  simp only [hk_iok, Bool.and_eq_true, decide_eq_true_eq] at hck
  simp only [hk_stp] at hrun
  obtain rfl := hck
  split at hrun
  · exact lv_pop hx hb hdg rfl (go hrun (hk_vot hsv).2)
  · cases hrun

set_option maxHeartbeats 1000000 in
theorem hk_z_pop2 {ini : Bool} {rk : Nat} (FX : hk_Fx SH ch cls kd wl mt hn sc p l R s m args meth c D cI cZ cR cJ A H0 b0 mx dd own cc scr cl ini) {pc len a b c1 d : Nat} {v : Int32} {w : Int64} {sw : List (Int32 × Nat)}  (hdg : decode cc pc = .ok (.pop2, len)) (hck : hk_iok cls kd mt hn own ini rk mx pc (.pop2) len a b c1 d v w sw = true) {nxr : hk_L → List Value → hk_H → hk_O} {jmr : Nat → hk_L → List Value → hk_H → hk_O} {qf : Option Value × hk_H} (hnx : ∀ L st h, nxr L st h = some qf → hk_K SH cls kd sc D cI cZ cR cJ A H0 b0 ad0 al0 mx n0 s0 p l e R s m args below meth c Q (pc + len) L st h) (hjm : ∀ t L st h, jmr t L st h = some qf → hk_K SH cls kd sc D cI cZ cR cJ A H0 b0 ad0 al0 mx n0 s0 p l e R s m args below meth c Q t L st h)  {L : hk_L} {st : List Value} {h : hk_H} (hrun : hk_stp SH pb big none nxr jmr (fun P d k => @ite _ P d k none) (fun P d k0 k1 => @ite _ P d k0 k1) (fun y a h k => (cl y a h).bind (fun q => k q.1 q.2)) (fun r h => some (r, h)) scr ch (.pop2) a c1 d v w sw L st h = some qf) : hk_K SH cls kd sc D cI cZ cR cJ A H0 b0 ad0 al0 mx n0 s0 p l e R s m args below meth c Q pc L st h := by
  obtain ⟨TB, hx, hb, hml, hown, hts, hK, hA, hin, hX, hcl, hge, hR1, hR2, hAO⟩ := FX
  intro ad H locs ls r
  obtain ⟨hP, hD, hS, hwf, hlv, hlen, hsv, hLv, hadb, hn0, hs0⟩ := id r
  unfold hk_G
  have go : ∀ {st' : List Value}, nxr L st' h = some qf → (∀ v ∈ st', hk_vo sc h.2.2.2 v) → hk_G SH cls p l e R s m args below meth c Q n0 s0 ad h H locs (pc + len) ls st' := fun h1 h2 => hnx _ _ _ h1 _ _ _ _ (r.stk h2)
  have gj : ∀ {t : Nat} {st' : List Value}, jmr t L st' h = some qf → (∀ v ∈ st', hk_vo sc h.2.2.2 v) → hk_G SH cls p l e R s m args below meth c Q n0 s0 ad h H locs t ls st' := fun h1 h2 => hjm _ _ _ _ h1 _ _ _ _ (r.stk h2)
  unfold hk_G at go gj
  simp only [hk_iok, Bool.and_eq_true, decide_eq_true_eq] at hck
  simp only [hk_stp] at hrun
  obtain rfl := hck
  split at hrun
  · exact lv_pop2_2 hx hb hdg rfl (go hrun (hk_vot hsv).2)
  · cases hrun

set_option maxHeartbeats 1000000 in
theorem hk_z_goto {ini : Bool} {rk : Nat} (FX : hk_Fx SH ch cls kd wl mt hn sc p l R s m args meth c D cI cZ cR cJ A H0 b0 mx dd own cc scr cl ini) {pc len a b c1 d : Nat} {v : Int32} {w : Int64} {sw : List (Int32 × Nat)} {o : Int} (hdg : decode cc pc = .ok (.goto o, len)) (hck : hk_iok cls kd mt hn own ini rk mx pc (.goto o) len a b c1 d v w sw = true) {nxr : hk_L → List Value → hk_H → hk_O} {jmr : Nat → hk_L → List Value → hk_H → hk_O} {qf : Option Value × hk_H} (hnx : ∀ L st h, nxr L st h = some qf → hk_K SH cls kd sc D cI cZ cR cJ A H0 b0 ad0 al0 mx n0 s0 p l e R s m args below meth c Q (pc + len) L st h) (hjm : ∀ t L st h, jmr t L st h = some qf → hk_K SH cls kd sc D cI cZ cR cJ A H0 b0 ad0 al0 mx n0 s0 p l e R s m args below meth c Q t L st h)  {L : hk_L} {st : List Value} {h : hk_H} (hrun : hk_stp SH pb big none nxr jmr (fun P d k => @ite _ P d k none) (fun P d k0 k1 => @ite _ P d k0 k1) (fun y a h k => (cl y a h).bind (fun q => k q.1 q.2)) (fun r h => some (r, h)) scr ch (.goto o) a c1 d v w sw L st h = some qf) : hk_K SH cls kd sc D cI cZ cR cJ A H0 b0 ad0 al0 mx n0 s0 p l e R s m args below meth c Q pc L st h := by
  obtain ⟨TB, hx, hb, hml, hown, hts, hK, hA, hin, hX, hcl, hge, hR1, hR2, hAO⟩ := FX
  intro ad H locs ls r
  obtain ⟨hP, hD, hS, hwf, hlv, hlen, hsv, hLv, hadb, hn0, hs0⟩ := id r
  unfold hk_G
  have go : ∀ {st' : List Value}, nxr L st' h = some qf → (∀ v ∈ st', hk_vo sc h.2.2.2 v) → hk_G SH cls p l e R s m args below meth c Q n0 s0 ad h H locs (pc + len) ls st' := fun h1 h2 => hnx _ _ _ h1 _ _ _ _ (r.stk h2)
  have gj : ∀ {t : Nat} {st' : List Value}, jmr t L st' h = some qf → (∀ v ∈ st', hk_vo sc h.2.2.2 v) → hk_G SH cls p l e R s m args below meth c Q n0 s0 ad h H locs t ls st' := fun h1 h2 => hjm _ _ _ _ h1 _ _ _ _ (r.stk h2)
  unfold hk_G at go gj
  simp only [hk_iok, Bool.and_eq_true, decide_eq_true_eq] at hck
  simp only [hk_stp] at hrun
  obtain ⟨rfl, ht⟩ := hck
  exact lv_goto hx hb hdg ht (gj hrun hsv)

set_option maxHeartbeats 1000000 in
theorem hk_z_if_icmp {ini : Bool} {rk : Nat} (FX : hk_Fx SH ch cls kd wl mt hn sc p l R s m args meth c D cI cZ cR cJ A H0 b0 mx dd own cc scr cl ini) {pc len a b c1 d : Nat} {v : Int32} {w : Int64} {sw : List (Int32 × Nat)} {o : Int} {cnd : ClassFile.Cond} (hdg : decode cc pc = .ok (.if_icmp cnd o, len)) (hck : hk_iok cls kd mt hn own ini rk mx pc (.if_icmp cnd o) len a b c1 d v w sw = true) {nxr : hk_L → List Value → hk_H → hk_O} {jmr : Nat → hk_L → List Value → hk_H → hk_O} {qf : Option Value × hk_H} (hnx : ∀ L st h, nxr L st h = some qf → hk_K SH cls kd sc D cI cZ cR cJ A H0 b0 ad0 al0 mx n0 s0 p l e R s m args below meth c Q (pc + len) L st h) (hjm : ∀ t L st h, jmr t L st h = some qf → hk_K SH cls kd sc D cI cZ cR cJ A H0 b0 ad0 al0 mx n0 s0 p l e R s m args below meth c Q t L st h)  {L : hk_L} {st : List Value} {h : hk_H} (hrun : hk_stp SH pb big none nxr jmr (fun P d k => @ite _ P d k none) (fun P d k0 k1 => @ite _ P d k0 k1) (fun y a h k => (cl y a h).bind (fun q => k q.1 q.2)) (fun r h => some (r, h)) scr ch (.if_icmp cnd o) a c1 d v w sw L st h = some qf) : hk_K SH cls kd sc D cI cZ cR cJ A H0 b0 ad0 al0 mx n0 s0 p l e R s m args below meth c Q pc L st h := by
  obtain ⟨TB, hx, hb, hml, hown, hts, hK, hA, hin, hX, hcl, hge, hR1, hR2, hAO⟩ := FX
  intro ad H locs ls r
  obtain ⟨hP, hD, hS, hwf, hlv, hlen, hsv, hLv, hadb, hn0, hs0⟩ := id r
  unfold hk_G
  have go : ∀ {st' : List Value}, nxr L st' h = some qf → (∀ v ∈ st', hk_vo sc h.2.2.2 v) → hk_G SH cls p l e R s m args below meth c Q n0 s0 ad h H locs (pc + len) ls st' := fun h1 h2 => hnx _ _ _ h1 _ _ _ _ (r.stk h2)
  have gj : ∀ {t : Nat} {st' : List Value}, jmr t L st' h = some qf → (∀ v ∈ st', hk_vo sc h.2.2.2 v) → hk_G SH cls p l e R s m args below meth c Q n0 s0 ad h H locs t ls st' := fun h1 h2 => hjm _ _ _ _ h1 _ _ _ _ (r.stk h2)
  unfold hk_G at go gj
  simp only [hk_iok, Bool.and_eq_true, decide_eq_true_eq] at hck
  simp only [hk_stp] at hrun
  obtain ⟨rfl, ht⟩ := hck
  split at hrun
  · next y x r0 =>
    cases cnd
    case eq => exact lv_icmp_eq hx hb hdg ht (fun hc => gj (by simpa only [hk_cmp, if_pos hc] using hrun) (hk_vo2 hsv).2.2) (fun hc => go (by simpa only [hk_cmp, if_neg hc] using hrun) (hk_vo2 hsv).2.2)
    case ne => exact lv_icmp_ne hx hb hdg ht (fun hc => gj (by simpa only [hk_cmp, if_pos hc] using hrun) (hk_vo2 hsv).2.2) (fun hc => go (by simpa only [hk_cmp, if_neg (not_not_intro hc)] using hrun) (hk_vo2 hsv).2.2)
    case lt => exact lv_icmp_lt hx hb hdg ht (fun hc => gj (by simpa only [hk_cmp, if_pos hc] using hrun) (hk_vo2 hsv).2.2) (fun hc => go (by simpa only [hk_cmp, if_neg hc] using hrun) (hk_vo2 hsv).2.2)
    case ge => exact lv_icmp_ge hx hb hdg ht (fun hc => gj (by simpa only [hk_cmp, if_pos hc] using hrun) (hk_vo2 hsv).2.2) (fun hc => go (by simpa only [hk_cmp, if_neg hc] using hrun) (hk_vo2 hsv).2.2)
    case gt => exact lv_icmp_gt hx hb hdg ht (fun hc => gj (by simpa only [hk_cmp, if_pos hc] using hrun) (hk_vo2 hsv).2.2) (fun hc => go (by simpa only [hk_cmp, if_neg hc] using hrun) (hk_vo2 hsv).2.2)
    case le => exact lv_icmp_le hx hb hdg ht (fun hc => gj (by simpa only [hk_cmp, if_pos hc] using hrun) (hk_vo2 hsv).2.2) (fun hc => go (by simpa only [hk_cmp, if_neg hc] using hrun) (hk_vo2 hsv).2.2)
  · cases hrun

set_option maxHeartbeats 1000000 in
theorem hk_z_ifCond {ini : Bool} {rk : Nat} (FX : hk_Fx SH ch cls kd wl mt hn sc p l R s m args meth c D cI cZ cR cJ A H0 b0 mx dd own cc scr cl ini) {pc len a b c1 d : Nat} {v : Int32} {w : Int64} {sw : List (Int32 × Nat)} {o : Int} {cnd : ClassFile.Cond} (hdg : decode cc pc = .ok (.ifCond cnd o, len)) (hck : hk_iok cls kd mt hn own ini rk mx pc (.ifCond cnd o) len a b c1 d v w sw = true) {nxr : hk_L → List Value → hk_H → hk_O} {jmr : Nat → hk_L → List Value → hk_H → hk_O} {qf : Option Value × hk_H} (hnx : ∀ L st h, nxr L st h = some qf → hk_K SH cls kd sc D cI cZ cR cJ A H0 b0 ad0 al0 mx n0 s0 p l e R s m args below meth c Q (pc + len) L st h) (hjm : ∀ t L st h, jmr t L st h = some qf → hk_K SH cls kd sc D cI cZ cR cJ A H0 b0 ad0 al0 mx n0 s0 p l e R s m args below meth c Q t L st h)  {L : hk_L} {st : List Value} {h : hk_H} (hrun : hk_stp SH pb big none nxr jmr (fun P d k => @ite _ P d k none) (fun P d k0 k1 => @ite _ P d k0 k1) (fun y a h k => (cl y a h).bind (fun q => k q.1 q.2)) (fun r h => some (r, h)) scr ch (.ifCond cnd o) a c1 d v w sw L st h = some qf) : hk_K SH cls kd sc D cI cZ cR cJ A H0 b0 ad0 al0 mx n0 s0 p l e R s m args below meth c Q pc L st h := by
  obtain ⟨TB, hx, hb, hml, hown, hts, hK, hA, hin, hX, hcl, hge, hR1, hR2, hAO⟩ := FX
  intro ad H locs ls r
  obtain ⟨hP, hD, hS, hwf, hlv, hlen, hsv, hLv, hadb, hn0, hs0⟩ := id r
  unfold hk_G
  have go : ∀ {st' : List Value}, nxr L st' h = some qf → (∀ v ∈ st', hk_vo sc h.2.2.2 v) → hk_G SH cls p l e R s m args below meth c Q n0 s0 ad h H locs (pc + len) ls st' := fun h1 h2 => hnx _ _ _ h1 _ _ _ _ (r.stk h2)
  have gj : ∀ {t : Nat} {st' : List Value}, jmr t L st' h = some qf → (∀ v ∈ st', hk_vo sc h.2.2.2 v) → hk_G SH cls p l e R s m args below meth c Q n0 s0 ad h H locs t ls st' := fun h1 h2 => hjm _ _ _ _ h1 _ _ _ _ (r.stk h2)
  unfold hk_G at go gj
  simp only [hk_iok, Bool.and_eq_true, decide_eq_true_eq] at hck
  simp only [hk_stp] at hrun
  obtain ⟨rfl, ht⟩ := hck
  split at hrun
  · next x r0 =>
    cases cnd
    case eq => exact lv_if_eq hx hb hdg ht (fun hc => gj (by simpa only [hk_cmp, if_pos hc] using hrun) (hk_vot hsv).2) (fun hc => go (by simpa only [hk_cmp, if_neg hc] using hrun) (hk_vot hsv).2)
    case ne => exact lv_if_ne hx hb hdg ht (fun hc => gj (by simpa only [hk_cmp, if_pos hc] using hrun) (hk_vot hsv).2) (fun hc => go (by simpa only [hk_cmp, if_neg (not_not_intro hc)] using hrun) (hk_vot hsv).2)
    case lt => exact lv_if_lt hx hb hdg ht (fun hc => gj (by simpa only [hk_cmp, if_pos hc] using hrun) (hk_vot hsv).2) (fun hc => go (by simpa only [hk_cmp, if_neg hc] using hrun) (hk_vot hsv).2)
    case ge => exact lv_if_ge hx hb hdg ht (fun hc => gj (by simpa only [hk_cmp, if_pos hc] using hrun) (hk_vot hsv).2) (fun hc => go (by simpa only [hk_cmp, if_neg hc] using hrun) (hk_vot hsv).2)
    case gt => exact lv_if_gt hx hb hdg ht (fun hc => gj (by simpa only [hk_cmp, if_pos hc] using hrun) (hk_vot hsv).2) (fun hc => go (by simpa only [hk_cmp, if_neg hc] using hrun) (hk_vot hsv).2)
    case le => exact lv_if_le hx hb hdg ht (fun hc => gj (by simpa only [hk_cmp, if_pos hc] using hrun) (hk_vot hsv).2) (fun hc => go (by simpa only [hk_cmp, if_neg hc] using hrun) (hk_vot hsv).2)
  · cases hrun

set_option maxHeartbeats 1000000 in
theorem hk_z_ifnonnull {ini : Bool} {rk : Nat} (FX : hk_Fx SH ch cls kd wl mt hn sc p l R s m args meth c D cI cZ cR cJ A H0 b0 mx dd own cc scr cl ini) {pc len a b c1 d : Nat} {v : Int32} {w : Int64} {sw : List (Int32 × Nat)} {o : Int} (hdg : decode cc pc = .ok (.ifnonnull o, len)) (hck : hk_iok cls kd mt hn own ini rk mx pc (.ifnonnull o) len a b c1 d v w sw = true) {nxr : hk_L → List Value → hk_H → hk_O} {jmr : Nat → hk_L → List Value → hk_H → hk_O} {qf : Option Value × hk_H} (hnx : ∀ L st h, nxr L st h = some qf → hk_K SH cls kd sc D cI cZ cR cJ A H0 b0 ad0 al0 mx n0 s0 p l e R s m args below meth c Q (pc + len) L st h) (hjm : ∀ t L st h, jmr t L st h = some qf → hk_K SH cls kd sc D cI cZ cR cJ A H0 b0 ad0 al0 mx n0 s0 p l e R s m args below meth c Q t L st h)  {L : hk_L} {st : List Value} {h : hk_H} (hrun : hk_stp SH pb big none nxr jmr (fun P d k => @ite _ P d k none) (fun P d k0 k1 => @ite _ P d k0 k1) (fun y a h k => (cl y a h).bind (fun q => k q.1 q.2)) (fun r h => some (r, h)) scr ch (.ifnonnull o) a c1 d v w sw L st h = some qf) : hk_K SH cls kd sc D cI cZ cR cJ A H0 b0 ad0 al0 mx n0 s0 p l e R s m args below meth c Q pc L st h := by
  obtain ⟨TB, hx, hb, hml, hown, hts, hK, hA, hin, hX, hcl, hge, hR1, hR2, hAO⟩ := FX
  intro ad H locs ls r
  obtain ⟨hP, hD, hS, hwf, hlv, hlen, hsv, hLv, hadb, hn0, hs0⟩ := id r
  unfold hk_G
  have go : ∀ {st' : List Value}, nxr L st' h = some qf → (∀ v ∈ st', hk_vo sc h.2.2.2 v) → hk_G SH cls p l e R s m args below meth c Q n0 s0 ad h H locs (pc + len) ls st' := fun h1 h2 => hnx _ _ _ h1 _ _ _ _ (r.stk h2)
  have gj : ∀ {t : Nat} {st' : List Value}, jmr t L st' h = some qf → (∀ v ∈ st', hk_vo sc h.2.2.2 v) → hk_G SH cls p l e R s m args below meth c Q n0 s0 ad h H locs t ls st' := fun h1 h2 => hjm _ _ _ _ h1 _ _ _ _ (r.stk h2)
  unfold hk_G at go gj
  simp only [hk_iok, Bool.and_eq_true, decide_eq_true_eq] at hck
  simp only [hk_stp] at hrun
  obtain ⟨rfl, ht⟩ := hck
  split at hrun
  · exact lv_ifnonnull hx hb hdg ht (gj hrun (hk_vot hsv).2)
  · exact lv_ifnonnullN hx hb hdg (go hrun (hk_vot hsv).2)
  · cases hrun

end HKJ
end
section
/-! ===== a step of the abstract machine: memory, calls, ends ===== -/
section HKJ2
variable {SH : Nat → hk_Sh} {pb big ch : Nat} {cls : List vw_C} {kd : Nat → Nat → Nat} {wl : List Jvm.Cond} {mt : Nat → Option hk_Q} {hn : String} {sc : Nat}
variable {p : Program} {l : Launch} {e : Env} {R : Room} {s : State} {m : MethodId} {args : Array Value} {below : List Frame} {meth : Method} {c : Code} {Q : State → Prop}
variable {D : va_G} {cI cZ cR cJ : ClassId} {A : Nat → Prop} {H0 : Heap} {b0 mx n0 s0 dd : Nat} {ad0 : Nat → Nat} {al0 : List Nat} {own : String} {cc : ByteArray} {scr : Option (Nat × (Nat → Int32))} {cl : Nat → List Value → hk_H → hk_O}
theorem hk_rv_vo {h : hk_H} {q k : Nat} (hw : hk_wf h) (hq : q ∈ h.2.2.2) : hk_vo sc h.2.2.2 (hk_rv (h.2.2.1 q k)) := by
  rcases hw q hq k with e | e
  · rw [e]; trivial
  · cases hz : h.2.2.1 q k with
    | zero => trivial
    | succ z => rw [hz] at e; exact Or.inl e
theorem hk_fs_set {α : Type} {N k : Nat} {f g : Nat → α} (hk : k < N) (hg : ∀ j, j ≠ k → g j = f j) : ((List.range N).map f).set k (g k) = (List.range N).map g := by
  have h0 : (List.range N)[k]? = some k := by rw [List.getElem?_range hk]
  refine hk_map_set h0 (fun i hi => ?_) hg
  by_cases hN : i < N
  · rw [List.getElem?_range hN] at hi
    exact Option.some.inj hi
  · rw [List.getElem?_eq_none (by simp; omega)] at hi
    cases hi
theorem hk_nf_eq {a : Nat} {q : vw_C} (hq : cls[a]? = some q) : hk_nf cls a = q.2.2 := by
  unfold hk_nf
  rw [hq]
theorem hk_ce1 {ad : Nat → Nat} {h : hk_H} {q a : Nat} (hq : SH q = (1, a)) : hk_ce SH cls kd cI cZ cR cJ ad h q = .inr (a, (List.range (hk_nf cls a)).map (hk_fv kd ad h q a)) := by
  unfold hk_ce
  rw [hq]
  rfl
theorem hk_ce2 {ad : Nat → Nat} {h : hk_H} {q n : Nat} (hq : SH q = (2, n)) : hk_ce SH cls kd cI cZ cR cJ ad h q = .inl (cI, n, .inl (h.1 q)) := by
  unfold hk_ce
  rw [hq]
  rfl
theorem hk_ce3 {ad : Nat → Nat} {h : hk_H} {q n : Nat} (hq : SH q = (3, n)) : hk_ce SH cls kd cI cZ cR cJ ad h q = .inl (cZ, n, .inl (h.1 q)) := by
  unfold hk_ce
  rw [hq]
  rfl
theorem hk_ce4 {ad : Nat → Nat} {h : hk_H} {q n : Nat} (hq : SH q = (4, n)) : hk_ce SH cls kd cI cZ cR cJ ad h q = .inl (cR, n, .inr (.inr (.inr (.inr (fun k => hk_rf ad (h.2.2.1 q k)))))) := by
  unfold hk_ce
  rw [hq]
  rfl
theorem hk_ce5 {ad : Nat → Nat} {h : hk_H} {q n : Nat} (hq : SH q = (5, n)) : hk_ce SH cls kd cI cZ cR cJ ad h q = .inl (cJ, n, .inr (.inl (h.2.1 q))) := by
  unfold hk_ce
  rw [hq]
  rfl
/-- behind a write to place q: the cell at q is new, the others stay -/
theorem hk_R.wr {ad : Nat → Nat} {h h' : hk_H} {H H1 : Heap} {locs locs1 : List Loc} {ls : Array Slot} {L : hk_L} {st st' : List Value} {q k : Nat} {E : va_E} (r : hk_R SH cls kd sc D cI cZ cR cJ A H0 b0 ad0 al0 mx n0 s0 ad h H locs ls L st) (hk : h.2.2.2[k]? = some q) (hE : hk_ce SH cls kd cI cZ cR cJ ad h' q = E) (ha : h'.2.2.2 = h.2.2.2) (ho : ∀ z, z ≠ q → h'.1 z = h.1 z ∧ h'.2.1 z = h.2.1 z ∧ h'.2.2.1 z = h.2.2.1 z) (hw : hk_wf h')
    (hP : va_P D cls ((hk_ws SH cls kd cI cZ cR cJ ad h).set k (ad q, E)) H1) (hD : va_D A ((hk_ws SH cls kd cI cZ cR cJ ad h).set k (ad q, E))) (hS : va_S A H0 H1 locs1) (hs : ∀ v ∈ st', hk_vo sc h.2.2.2 v) : hk_R SH cls kd sc D cI cZ cR cJ A H0 b0 ad0 al0 mx n0 s0 ad h' H1 locs1 ls L st' := by
  have e : (hk_ws SH cls kd cI cZ cR cJ ad h).set k (ad q, E) = hk_ws SH cls kd cI cZ cR cJ ad h' := by
    rw [← hE]
    refine hk_ws_set r.2.1 hk ha fun z hz => ?_
    obtain ⟨h1, h2, h3⟩ := ho z hz
    exact hk_ce_eq h1 h2 fun j => by rw [h3]
  rw [e] at hP hD
  exact r.hp hP hD hS hw ha hs
/-- behind the making of a cell at place q -/
theorem hk_R.mk {ad : Nat → Nat} {h : hk_H} {H H1 : Heap} {locs : List Loc} {ls : Array Slot} {L : hk_L} {st r0 : List Value} {q a : Nat} {E : va_E} (r : hk_R SH cls kd sc D cI cZ cR cJ A H0 b0 ad0 al0 mx n0 s0 ad h H locs ls L st) (hq : q ∉ h.2.2.2) (hsc : q ≠ sc) (hE : hk_ce SH cls kd cI cZ cR cJ (fun z => if z = q then a else ad z) (hk_nw h q) q = E)
    (hP : va_P D cls (hk_ws SH cls kd cI cZ cR cJ ad h ++ [(a, E)]) H1) (hD : va_D A (hk_ws SH cls kd cI cZ cR cJ ad h ++ [(a, E)])) (hS : va_S A H0 H1 locs) (hs : ∀ v ∈ r0, hk_vo sc h.2.2.2 v) : hk_R SH cls kd sc D cI cZ cR cJ A H0 b0 ad0 al0 mx n0 s0 (fun z => if z = q then a else ad z) (hk_nw h q) H1 locs ls L (.ref q :: r0) ∧ hk_ag sc ad (fun z => if z = q then a else ad z) h.2.2.2 := by
  obtain ⟨a1, a2, a3, a4, a5, a6, a7, a8, a9, a10, a11⟩ := r
  have hag : hk_ag sc ad (fun z => if z = q then a else ad z) h.2.2.2 := by
    intro z hz
    have hne : z ≠ q := by
      rintro rfl
      rcases hz with hz | hz
      · exact hq hz
      · exact hsc hz
    show (if z = q then a else ad z) = ad z
    rw [if_neg hne]
  have hgg : hk_ge h (hk_nw h q) := ⟨[q], rfl⟩
  have e := hk_ws_push (SH := SH) (cls := cls) (kd := kd) (cI := cI) (cZ := cZ) (cR := cR) (cJ := cJ) (ad := ad) (a := a) hq a4
  rw [hE] at e
  rw [← e] at hP hD
  refine ⟨⟨hP, hD, hS, ?_, ?_, a6, ?_, ?_, ?_, ?_, ?_⟩, hag⟩
  · intro z hz k
    show hk_z h.2.2.1 q 0 z k = 0 ∨ hk_z h.2.2.1 q 0 z k ∈ h.2.2.2 ++ [q]
    unfold hk_z
    by_cases hzq : z = q
    · left
      rw [if_pos hzq]
    · rw [if_neg hzq]
      have hz' : z ∈ h.2.2.2 := by
        rcases List.mem_append.mp hz with h1 | h1
        · exact h1
        · exact absurd (List.mem_singleton.mp h1) hzq
      rcases a4 z hz' k with h1 | h1
      · exact Or.inl h1
      · exact Or.inr (List.mem_append_left _ h1)
  · rw [hk_pl_congr hag a8]
    exact a5
  · exact hk_voc (Or.inl (List.mem_append_right _ (by simp))) fun v hv => hk_vo_ge hgg (hs v hv)
  · exact fun v hv => hk_vo_ge hgg (a8 v hv)
  · refine ⟨(hag sc (Or.inr rfl)).trans a9.1, fun z hz => ?_, fun z hz => List.mem_append_left _ (a9.2.2 z hz)⟩
    rw [← a9.2.1 z hz]
    rcases hz with h1 | h1
    · exact hag z (Or.inl (a9.2.2 z h1))
    · exact hag z (Or.inr h1)
  · exact Nat.le_trans a10 (hk_ge_len hgg)
  · exact Nat.le_trans a11 (hk_ge_sl hgg)
theorem hk_sl_nw (h : hk_H) (q : Nat) : hk_sl SH cls (hk_nw h q).2.2.2 = hk_sl SH cls h.2.2.2 + (match SH q with
  | (1, ci) => hk_nf cls ci
  | (_, n) => n) := by
  show hk_sl SH cls (h.2.2.2 ++ [q]) = _
  rw [hk_sl_app]
  congr 1
theorem hk_nle {x : Int32} {n : Nat} (h : x.toNatClampNeg ≤ n) : x.toNatClampNeg ≤ n := h

set_option maxHeartbeats 1000000 in
theorem hk_z_getfield {ini : Bool} {rk : Nat} (FX : hk_Fx SH ch cls kd wl mt hn sc p l R s m args meth c D cI cZ cR cJ A H0 b0 mx dd own cc scr cl ini) {pc len a b c1 d : Nat} {v : Int32} {w : Int64} {sw : List (Int32 × Nat)} {i : Nat} (hdg : decode cc pc = .ok (.getfield i, len)) (hck : hk_iok cls kd mt hn own ini rk mx pc (.getfield i) len a b c1 d v w sw = true) {nxr : hk_L → List Value → hk_H → hk_O} {jmr : Nat → hk_L → List Value → hk_H → hk_O} {qf : Option Value × hk_H} (hnx : ∀ L st h, nxr L st h = some qf → hk_K SH cls kd sc D cI cZ cR cJ A H0 b0 ad0 al0 mx n0 s0 p l e R s m args below meth c Q (pc + len) L st h) (hjm : ∀ t L st h, jmr t L st h = some qf → hk_K SH cls kd sc D cI cZ cR cJ A H0 b0 ad0 al0 mx n0 s0 p l e R s m args below meth c Q t L st h)  {L : hk_L} {st : List Value} {h : hk_H} (hrun : hk_stp SH pb big none nxr jmr (fun P d k => @ite _ P d k none) (fun P d k0 k1 => @ite _ P d k0 k1) (fun y a h k => (cl y a h).bind (fun q => k q.1 q.2)) (fun r h => some (r, h)) scr ch (.getfield i) a c1 d v w sw L st h = some qf) : hk_K SH cls kd sc D cI cZ cR cJ A H0 b0 ad0 al0 mx n0 s0 p l e R s m args below meth c Q pc L st h := by
  obtain ⟨TB, hx, hb, hml, hown, hts, hK, hA, hin, hX, hcl, hge, hR1, hR2, hAO⟩ := FX
  intro ad H locs ls r
  obtain ⟨hP, hD, hS, hwf, hlv, hlen, hsv, hLv, hadb, hn0, hs0⟩ := id r
  unfold hk_G
  have go : ∀ {st' : List Value}, nxr L st' h = some qf → (∀ v ∈ st', hk_vo sc h.2.2.2 v) → hk_G SH cls p l e R s m args below meth c Q n0 s0 ad h H locs (pc + len) ls st' := fun h1 h2 => hnx _ _ _ h1 _ _ _ _ (r.stk h2)
  have gj : ∀ {t : Nat} {st' : List Value}, jmr t L st' h = some qf → (∀ v ∈ st', hk_vo sc h.2.2.2 v) → hk_G SH cls p l e R s m args below meth c Q n0 s0 ad h H locs t ls st' := fun h1 h2 => hjm _ _ _ _ h1 _ _ _ _ (r.stk h2)
  unfold hk_G at go gj
  simp only [hk_iok, Bool.and_eq_true, decide_eq_true_eq] at hck
  simp only [hk_stp] at hrun
  obtain ⟨rfl, hck⟩ := hck
  split at hck
  · cases hck
  next q hq =>
  simp only [hk_fok, Bool.and_eq_true, decide_eq_true_eq] at hck
  obtain ⟨⟨⟨hc, hw⟩, how⟩, hkd⟩ := hck
  obtain ⟨C, T, N⟩ := q
  simp only at hc hw how
  unfold hk_getf at hrun
  split at hrun
  · next q0 r0 =>
    split at hrun
    · next hsh =>
      have hsh := hk_is_eq hsh
      have hal := hk_aliv TB.2.2.2.1 (hk_vot hsv).1 hsh (by decide)
      obtain ⟨k, hk1, hk2⟩ := hk_ws_at (SH := SH) (cls := cls) (kd := kd) (cI := cI) (cZ := cZ) (cR := cR) (cJ := cJ) (ad := ad) hal
      rw [hk_ce1 hsh] at hk2
      refine va_get (D := D) (ci := a) (v := hk_fv kd ad h q0 a c1) hx hb hts (TB.1 a _ hq).1 hown hK hP k hk2 hq c1 hc (hts _ (TB.2.2.2.2.2.2.1.2.2.2 _ _ hw)) (fun x h9 => by rw [← how]; exact h9) ?_ hdg ?_
      · rw [List.getElem?_map, hk_nf_eq hq, List.getElem?_range hc]
        rfl
      · split at hrun
        · have e : hk_fv kd ad h q0 a c1 = hk_tv ad (hk_rv (h.2.2.1 q0 c1)) := by
            rw [hk_tv_rv]
            unfold hk_fv
            rw [hkd]
            rfl
          rw [e]
          exact go hrun (hk_voc (hk_rv_vo hwf hal) (hk_vot hsv).2)
        · next hd =>
          have e : hk_fv kd ad h q0 a c1 = .int (h.1 q0 c1) := by
            unfold hk_fv
            rw [hkd]
            split
            · exact absurd rfl hd
            · rfl
          rw [e]
          exact go hrun (hk_voc trivial (hk_vot hsv).2)
    · cases hrun
  · cases hrun

theorem hk_putW {ini : Bool} (FX : hk_Fx SH ch cls kd wl mt hn sc p l R s m args meth c D cI cZ cR cJ A H0 b0 mx dd own cc scr cl ini) {ad : Nat → Nat} {h h2 : hk_H} {H : Heap} {locs : List Loc} {ls : Array Slot} {L : hk_L} {st r0 : List Value} {pc q0 a b c1 i : Nat} {q : vw_C} {val : Value} (r : hk_R SH cls kd sc D cI cZ cR cJ A H0 b0 ad0 al0 mx n0 s0 ad h H locs ls L st) (hsh : SH q0 = (1, a)) (hal : q0 ∈ h.2.2.2) (hq : cls[a]? = some q) (hc : c1 < q.2.2) (hw : hk_lk b = some (.fieldLink own i q.1 (q.2.1 c1).2.1 (q.2.1 c1).2.2.1)) (how : (q.2.1 c1).1 = q.1) (hfi : (!(q.2.1 c1).2.2.2 || (ini && decide ((q.2.1 c1).1 = own))) = true)
    (hval : ∀ ty : Nat → FieldType, (kd a c1 = 0 → ty c1 = .int) ∧ (kd a c1 = 1 → (∃ o, ty c1 = .object o) ∨ ∃ o, ty c1 = .array o) ∧ (kd a c1 = 2 → ty c1 = .boolean) ∧ kd a c1 ≤ 2 → narrow (ty c1) val = val ∧ fits (ty c1) val = true) (h2e : hk_fv kd ad h2 q0 a c1 = val) (h2o : ∀ j, j ≠ c1 → hk_fv kd ad h2 q0 a j = hk_fv kd ad h q0 a j) (ho : ∀ z, z ≠ q0 → h2.1 z = h.1 z ∧ h2.2.1 z = h.2.1 z ∧ h2.2.2.1 z = h.2.2.1 z) (hwf2 : hk_wf h2) (ha : h2.2.2.2 = h.2.2.2) (hr0 : ∀ v ∈ r0, hk_vo sc h.2.2.2 v) (hdg : decode cc pc = .ok (.putfield i, 3)) (kk : hk_K SH cls kd sc D cI cZ cR cJ A H0 b0 ad0 al0 mx n0 s0 p l e R s m args below meth c Q (pc + 3) L r0 h2) :
    W p l e R s m args below meth c H locs (h.2.2.2.length - n0) (hk_sl SH cls h.2.2.2 - s0) Q (F0 m pc ls (val :: .ref (ad q0) :: r0.map (hk_tv ad))) := by
  obtain ⟨TB, hx, hb, hml, hown, hts, hK, hA, hin, hX, hcl, hge, hR1, hR2, hAO⟩ := FX
  obtain ⟨hP, hD, hS, hwf, hlv, hlen, hsv, hLv, hadb, hn0, hs0⟩ := id r
  obtain ⟨C, T, N⟩ := q
  obtain ⟨k, hk1, hk2⟩ := hk_ws_at (SH := SH) (cls := cls) (kd := kd) (cI := cI) (cZ := cZ) (cR := cR) (cJ := cJ) (ad := ad) hal
  rw [hk_ce1 hsh] at hk2
  obtain ⟨hu, ⟨ty, hty, hkk⟩, hnm⟩ := TB.1 a _ hq
  obtain ⟨hnr, hft⟩ := hval ty (hkk c1 hc)
  have hl2 : c1 < ((List.range (hk_nf cls a)).map (hk_fv kd ad h q0 a)).length := by rw [List.length_map, List.length_range, hk_nf_eq hq]; exact hc
  have hE : hk_ce SH cls kd cI cZ cR cJ ad h2 q0 = .inr (a, ((List.range (hk_nf cls a)).map (hk_fv kd ad h q0 a)).set c1 val) := by
    rw [hk_ce1 hsh, ← h2e, hk_fs_set (by rw [hk_nf_eq hq]; exact hc) h2o]
  have hlk := hts _ (TB.2.2.2.2.2.2.1.2.2.2 _ _ hw)
  have fin : ∀ (H1 : Heap) (locs1 : List Loc), va_P D cls ((hk_ws SH cls kd cI cZ cR cJ ad h).set k (ad q0, .inr (a, ((List.range (hk_nf cls a)).map (hk_fv kd ad h q0 a)).set c1 val))) H1 → va_D A ((hk_ws SH cls kd cI cZ cR cJ ad h).set k (ad q0, .inr (a, ((List.range (hk_nf cls a)).map (hk_fv kd ad h q0 a)).set c1 val))) → va_S A H0 H1 locs1 → W p l e R s m args below meth c H1 locs1 (h.2.2.2.length - n0) (hk_sl SH cls h.2.2.2 - s0) Q (F0 m (pc + 3) ls (r0.map (hk_tv ad))) := fun H1 locs1 hP1 hD1 hS1 => by
    have g := kk _ _ _ _ (r.wr hk1 hE ha ho hwf2 hP1 hD1 hS1 hr0)
    unfold hk_G at g
    rw [ha] at g
    exact g
  cases hfin : (T c1).2.2.2 with
  | false => exact va_put (D := D) (ci := a) (v := val) (ty := ty c1) hx hb hts hu ty hty hnm hown hK hP hD hS k hk2 hq c1 hc hlk (fun x h9 => by rw [← how]; exact h9) hfin (hty c1 hc) hnr hft hl2 hdg fin
  | true =>
    simp only at hfi
    rw [hfin] at hfi
    simp only [Bool.not_true, Bool.false_or, Bool.and_eq_true, decide_eq_true_eq] at hfi
    exact va_putF (D := D) (ci := a) (v := val) (ty := ty c1) hx hb hts hu ty hty hnm hown hK hP hD hS k hk2 hq c1 hc hlk (fun x h9 => by rw [← how]; exact h9) hfin (hin hfi.1) hfi.2 (hty c1 hc) hnr hft hl2 hdg fin
theorem hk_wf_uR {h : hk_H} {q k z : Nat} (hw : hk_wf h) (hz : z ∈ h.2.2.2) : hk_wf (h.1, h.2.1, hk_uR h.2.2.1 q k z, h.2.2.2) := by
  intro y hy j
  show hk_uR h.2.2.1 q k z y j = 0 ∨ hk_uR h.2.2.1 q k z y j ∈ h.2.2.2
  unfold hk_uR
  by_cases h1 : y = q
  · rw [if_pos h1]
    by_cases h2 : j = k
    · rw [if_pos h2]
      exact Or.inr hz
    · rw [if_neg h2]
      exact h1 ▸ hw y hy j
  · rw [if_neg h1]
    exact hw y hy j
theorem hk_shne (hS : ∃ n, SH sc = (6, n)) {q k n : Nat} (hq : SH q = (k, n)) (hk : k ≠ 6) : q ≠ sc := by
  rintro rfl
  obtain ⟨n', h'⟩ := hS
  rw [h'] at hq
  cases hq
  exact hk rfl

set_option maxHeartbeats 1000000 in
theorem hk_z_putfield {ini : Bool} {rk : Nat} (FX : hk_Fx SH ch cls kd wl mt hn sc p l R s m args meth c D cI cZ cR cJ A H0 b0 mx dd own cc scr cl ini) {pc len a b c1 d : Nat} {v : Int32} {w : Int64} {sw : List (Int32 × Nat)} {i : Nat} (hdg : decode cc pc = .ok (.putfield i, len)) (hck : hk_iok cls kd mt hn own ini rk mx pc (.putfield i) len a b c1 d v w sw = true) {nxr : hk_L → List Value → hk_H → hk_O} {jmr : Nat → hk_L → List Value → hk_H → hk_O} {qf : Option Value × hk_H} (hnx : ∀ L st h, nxr L st h = some qf → hk_K SH cls kd sc D cI cZ cR cJ A H0 b0 ad0 al0 mx n0 s0 p l e R s m args below meth c Q (pc + len) L st h) (hjm : ∀ t L st h, jmr t L st h = some qf → hk_K SH cls kd sc D cI cZ cR cJ A H0 b0 ad0 al0 mx n0 s0 p l e R s m args below meth c Q t L st h)  {L : hk_L} {st : List Value} {h : hk_H} (hrun : hk_stp SH pb big none nxr jmr (fun P d k => @ite _ P d k none) (fun P d k0 k1 => @ite _ P d k0 k1) (fun y a h k => (cl y a h).bind (fun q => k q.1 q.2)) (fun r h => some (r, h)) scr ch (.putfield i) a c1 d v w sw L st h = some qf) : hk_K SH cls kd sc D cI cZ cR cJ A H0 b0 ad0 al0 mx n0 s0 p l e R s m args below meth c Q pc L st h := by
  obtain ⟨TB, hx, hb, hml, hown, hts, hK, hA, hin, hX, hcl, hge, hR1, hR2, hAO⟩ := id FX
  intro ad H locs ls r
  obtain ⟨hP, hD, hS, hwf, hlv, hlen, hsv, hLv, hadb, hn0, hs0⟩ := id r
  unfold hk_G
  have go : ∀ {st' : List Value}, nxr L st' h = some qf → (∀ v ∈ st', hk_vo sc h.2.2.2 v) → hk_G SH cls p l e R s m args below meth c Q n0 s0 ad h H locs (pc + len) ls st' := fun h1 h2 => hnx _ _ _ h1 _ _ _ _ (r.stk h2)
  have gj : ∀ {t : Nat} {st' : List Value}, jmr t L st' h = some qf → (∀ v ∈ st', hk_vo sc h.2.2.2 v) → hk_G SH cls p l e R s m args below meth c Q n0 s0 ad h H locs t ls st' := fun h1 h2 => hjm _ _ _ _ h1 _ _ _ _ (r.stk h2)
  unfold hk_G at go gj
  simp only [hk_iok, Bool.and_eq_true, decide_eq_true_eq] at hck
  simp only [hk_stp] at hrun
  obtain ⟨rfl, hck⟩ := hck
  split at hck
  · cases hck
  next q hq =>
  simp only [hk_fok, Bool.and_eq_true, decide_eq_true_eq] at hck
  obtain ⟨⟨⟨⟨hc, hw⟩, how⟩, hkd⟩, hfi⟩ := hck
  unfold hk_putf at hrun
  split at hrun
  · next x q0 r0 =>
    split at hrun
    · next hsh =>
      have hsh := hk_is_eq hsh
      have hal := hk_aliv TB.2.2.2.1 (hk_vo2 hsv).2.1 hsh (by decide)
      have e1 : hk_fv kd ad (hk_u2 h.1 q0 c1 x, h.2) q0 a c1 = (if d = 1 then hk_fv kd ad h q0 a c1 else .int x) := by
        unfold hk_fv
        rw [hkd]
        split
        · rfl
        · next hd => rw [if_neg (fun e => hd e)]; simp [hk_u2, upd]
      have e2 : ∀ j, j ≠ c1 → hk_fv kd ad (hk_u2 h.1 q0 c1 x, h.2) q0 a j = hk_fv kd ad h q0 a j := by
        intro j hj
        unfold hk_fv
        split
        · rfl
        · simp [hk_u2, upd, hj]
      have ho : ∀ z, z ≠ q0 → ((hk_u2 h.1 q0 c1 x, h.2) : hk_H).1 z = h.1 z ∧ ((hk_u2 h.1 q0 c1 x, h.2) : hk_H).2.1 z = h.2.1 z ∧ ((hk_u2 h.1 q0 c1 x, h.2) : hk_H).2.2.1 z = h.2.2.1 z := fun z hz => ⟨by simp [hk_u2, hz], rfl, rfl⟩
      split at hrun
      · exact hk_putW FX r hsh hal hq hc hw how hfi (fun ty hk => by rw [hk.1 hkd]; exact ⟨rfl, rfl⟩) (e1.trans (if_neg (by decide))) e2 ho hwf rfl (hk_vo2 hsv).2.2 hdg (hnx _ _ _ hrun)
      · dsimp only at hrun
        split at hrun
        · next hx01 => exact hk_putW FX r hsh hal hq hc hw how hfi (fun ty hk => by rw [hk.2.2.1 hkd]; rcases hx01 with rfl | rfl <;> exact ⟨rfl, rfl⟩) (e1.trans (if_neg (by decide))) e2 ho hwf rfl (hk_vo2 hsv).2.2 hdg (hnx _ _ _ hrun)
        · cases hrun
      · cases hrun
    · cases hrun
  · next q1 q0 r0 =>
    split at hrun
    · next hsh =>
      have hsh := hk_is_eq hsh
      have hal := hk_aliv TB.2.2.2.1 (hk_vo2 hsv).2.1 hsh (by decide)
      split at hrun
      · split at hrun
        · cases hrun
        · next hcon =>
          have hq1 : q1 + 1 ∈ h.2.2.2 := by
            rcases (hk_vo2 hsv).1 with h1 | h1
            · exact h1
            · obtain ⟨n', h'⟩ := TB.2.2.2.1
              rw [show q1 + 1 = sc from h1, h'] at hcon
              cases hcon
          refine hk_putW FX r hsh hal hq hc hw how hfi (val := .ref (ad (q1 + 1))) (h2 := (h.1, h.2.1, hk_uR h.2.2.1 q0 c1 (q1 + 1), h.2.2.2)) (fun ty hk => ?_) ?_ ?_ (fun z hz => ⟨rfl, rfl, by simp [hk_uR, hz]⟩) (hk_wf_uR hwf hq1) rfl (hk_vo2 hsv).2.2 hdg (hnx _ _ _ hrun)
          · rcases hk.2.1 hkd with ⟨o, e⟩ | ⟨o, e⟩ <;> rw [e] <;> exact ⟨rfl, rfl⟩
          · unfold hk_fv
            rw [hkd]
            simp [hk_uR, hk_rf, va_rf]
          · intro j hj
            unfold hk_fv
            split
            · simp [hk_uR, hj]
            · rfl
      · cases hrun
    · cases hrun
  · cases hrun

end HKJ2
end
section
/-! ===== rows of arrays, new cells, switches ===== -/
section HKJ3
variable {SH : Nat → hk_Sh} {pb big ch : Nat} {cls : List vw_C} {kd : Nat → Nat → Nat} {wl : List Jvm.Cond} {mt : Nat → Option hk_Q} {hn : String} {sc : Nat}
variable {p : Program} {l : Launch} {e : Env} {R : Room} {s : State} {m : MethodId} {args : Array Value} {below : List Frame} {meth : Method} {c : Code} {Q : State → Prop}
variable {D : va_G} {cI cZ cR cJ : ClassId} {A : Nat → Prop} {H0 : Heap} {b0 mx n0 s0 dd : Nat} {ad0 : Nat → Nat} {al0 : List Nat} {own : String} {cc : ByteArray} {scr : Option (Nat × (Nat → Int32))} {cl : Nat → List Value → hk_H → hk_O}

set_option maxHeartbeats 1000000 in
theorem hk_z_iaload {ini : Bool} {rk : Nat} (FX : hk_Fx SH ch cls kd wl mt hn sc p l R s m args meth c D cI cZ cR cJ A H0 b0 mx dd own cc scr cl ini) {pc len a b c1 d : Nat} {v : Int32} {w : Int64} {sw : List (Int32 × Nat)}  (hdg : decode cc pc = .ok (.iaload, len)) (hck : hk_iok cls kd mt hn own ini rk mx pc (.iaload) len a b c1 d v w sw = true) {nxr : hk_L → List Value → hk_H → hk_O} {jmr : Nat → hk_L → List Value → hk_H → hk_O} {qf : Option Value × hk_H} (hnx : ∀ L st h, nxr L st h = some qf → hk_K SH cls kd sc D cI cZ cR cJ A H0 b0 ad0 al0 mx n0 s0 p l e R s m args below meth c Q (pc + len) L st h) (hjm : ∀ t L st h, jmr t L st h = some qf → hk_K SH cls kd sc D cI cZ cR cJ A H0 b0 ad0 al0 mx n0 s0 p l e R s m args below meth c Q t L st h)  {L : hk_L} {st : List Value} {h : hk_H} (hrun : hk_stp SH pb big none nxr jmr (fun P d k => @ite _ P d k none) (fun P d k0 k1 => @ite _ P d k0 k1) (fun y a h k => (cl y a h).bind (fun q => k q.1 q.2)) (fun r h => some (r, h)) scr ch (.iaload) a c1 d v w sw L st h = some qf) : hk_K SH cls kd sc D cI cZ cR cJ A H0 b0 ad0 al0 mx n0 s0 p l e R s m args below meth c Q pc L st h := by
  obtain ⟨TB, hx, hb, hml, hown, hts, hK, hA, hin, hX, hcl, hge, hR1, hR2, hAO⟩ := id FX
  intro ad H locs ls r
  obtain ⟨hP, hD, hS, hwf, hlv, hlen, hsv, hLv, hadb, hn0, hs0⟩ := id r
  unfold hk_G
  have go : ∀ {st' : List Value}, nxr L st' h = some qf → (∀ v ∈ st', hk_vo sc h.2.2.2 v) → hk_G SH cls p l e R s m args below meth c Q n0 s0 ad h H locs (pc + len) ls st' := fun h1 h2 => hnx _ _ _ h1 _ _ _ _ (r.stk h2)
  have gj : ∀ {t : Nat} {st' : List Value}, jmr t L st' h = some qf → (∀ v ∈ st', hk_vo sc h.2.2.2 v) → hk_G SH cls p l e R s m args below meth c Q n0 s0 ad h H locs t ls st' := fun h1 h2 => hjm _ _ _ _ h1 _ _ _ _ (r.stk h2)
  unfold hk_G at go gj
  simp only [hk_iok, Bool.and_eq_true, decide_eq_true_eq] at hck
  simp only [hk_stp] at hrun
  obtain rfl := hck
  unfold hk_ial at hrun
  split at hrun
  · next i q0 r0 =>
    split at hrun
    · next n hsh =>
      dsimp only at hrun
      split at hrun
      · next hin =>
        have hal := hk_aliv TB.2.2.2.1 (hk_vo2 hsv).2.1 hsh (by decide)
        obtain ⟨k, hk1, hk2⟩ := hk_ws_at (SH := SH) (cls := cls) (kd := kd) (cI := cI) (cZ := cZ) (cR := cR) (cJ := cJ) (ad := ad) hal
        rw [hk_ce2 hsh] at hk2
        exact va_iald (D := D) (tys := hk_tys cI cZ cR cJ hn) hx hb hK hP k 0 hk2 rfl hin hdg (go hrun (hk_voc trivial (hk_vo2 hsv).2.2))
      · cases hrun
    · next n hsh =>
      split at hrun
      · next sq =>
        dsimp only at hrun
        split at hrun
        · next hin =>
          have hq0 : q0 = sc := TB.2.2.1 _ _ hsh
          obtain ⟨x1, x2, x3⟩ := hX sq rfl
          have e0 : hk_tv ad (.ref q0) = .ref b0 := by rw [hq0]; exact congrArg Value.ref hadb.1
          show W p l e R s m args below meth c H locs _ _ Q (F0 m pc ls (.int i :: hk_tv ad (.ref q0) :: r0.map (hk_tv ad)))
          rw [e0]
          exact va_sld hx hb x1 x2 x3 hS hin hdg (go hrun (hk_voc trivial (hk_vo2 hsv).2.2))
        · cases hrun
      · cases hrun
    · cases hrun
  · cases hrun

set_option maxHeartbeats 1000000 in
theorem hk_z_baload {ini : Bool} {rk : Nat} (FX : hk_Fx SH ch cls kd wl mt hn sc p l R s m args meth c D cI cZ cR cJ A H0 b0 mx dd own cc scr cl ini) {pc len a b c1 d : Nat} {v : Int32} {w : Int64} {sw : List (Int32 × Nat)}  (hdg : decode cc pc = .ok (.baload, len)) (hck : hk_iok cls kd mt hn own ini rk mx pc (.baload) len a b c1 d v w sw = true) {nxr : hk_L → List Value → hk_H → hk_O} {jmr : Nat → hk_L → List Value → hk_H → hk_O} {qf : Option Value × hk_H} (hnx : ∀ L st h, nxr L st h = some qf → hk_K SH cls kd sc D cI cZ cR cJ A H0 b0 ad0 al0 mx n0 s0 p l e R s m args below meth c Q (pc + len) L st h) (hjm : ∀ t L st h, jmr t L st h = some qf → hk_K SH cls kd sc D cI cZ cR cJ A H0 b0 ad0 al0 mx n0 s0 p l e R s m args below meth c Q t L st h)  {L : hk_L} {st : List Value} {h : hk_H} (hrun : hk_stp SH pb big none nxr jmr (fun P d k => @ite _ P d k none) (fun P d k0 k1 => @ite _ P d k0 k1) (fun y a h k => (cl y a h).bind (fun q => k q.1 q.2)) (fun r h => some (r, h)) scr ch (.baload) a c1 d v w sw L st h = some qf) : hk_K SH cls kd sc D cI cZ cR cJ A H0 b0 ad0 al0 mx n0 s0 p l e R s m args below meth c Q pc L st h := by
  obtain ⟨TB, hx, hb, hml, hown, hts, hK, hA, hin, hX, hcl, hge, hR1, hR2, hAO⟩ := id FX
  intro ad H locs ls r
  obtain ⟨hP, hD, hS, hwf, hlv, hlen, hsv, hLv, hadb, hn0, hs0⟩ := id r
  unfold hk_G
  have go : ∀ {st' : List Value}, nxr L st' h = some qf → (∀ v ∈ st', hk_vo sc h.2.2.2 v) → hk_G SH cls p l e R s m args below meth c Q n0 s0 ad h H locs (pc + len) ls st' := fun h1 h2 => hnx _ _ _ h1 _ _ _ _ (r.stk h2)
  have gj : ∀ {t : Nat} {st' : List Value}, jmr t L st' h = some qf → (∀ v ∈ st', hk_vo sc h.2.2.2 v) → hk_G SH cls p l e R s m args below meth c Q n0 s0 ad h H locs t ls st' := fun h1 h2 => hjm _ _ _ _ h1 _ _ _ _ (r.stk h2)
  unfold hk_G at go gj
  simp only [hk_iok, Bool.and_eq_true, decide_eq_true_eq] at hck
  simp only [hk_stp] at hrun
  obtain rfl := hck
  unfold hk_bal at hrun
  split at hrun
  · next i q0 r0 =>
    split at hrun
    · next n hsh =>
      dsimp only at hrun
      split at hrun
      · next hin =>
        have hal := hk_aliv TB.2.2.2.1 (hk_vo2 hsv).2.1 hsh (by decide)
        obtain ⟨k, hk1, hk2⟩ := hk_ws_at (SH := SH) (cls := cls) (kd := kd) (cI := cI) (cZ := cZ) (cR := cR) (cJ := cJ) (ad := ad) hal
        rw [hk_ce3 hsh] at hk2
        exact va_zald (D := D) (tys := hk_tys cI cZ cR cJ hn) hx hb hK hP k 1 hk2 rfl hin hdg (go hrun (hk_voc trivial (hk_vo2 hsv).2.2))
      · cases hrun
    · cases hrun
  · cases hrun

set_option maxHeartbeats 1000000 in
theorem hk_z_laload {ini : Bool} {rk : Nat} (FX : hk_Fx SH ch cls kd wl mt hn sc p l R s m args meth c D cI cZ cR cJ A H0 b0 mx dd own cc scr cl ini) {pc len a b c1 d : Nat} {v : Int32} {w : Int64} {sw : List (Int32 × Nat)}  (hdg : decode cc pc = .ok (.laload, len)) (hck : hk_iok cls kd mt hn own ini rk mx pc (.laload) len a b c1 d v w sw = true) {nxr : hk_L → List Value → hk_H → hk_O} {jmr : Nat → hk_L → List Value → hk_H → hk_O} {qf : Option Value × hk_H} (hnx : ∀ L st h, nxr L st h = some qf → hk_K SH cls kd sc D cI cZ cR cJ A H0 b0 ad0 al0 mx n0 s0 p l e R s m args below meth c Q (pc + len) L st h) (hjm : ∀ t L st h, jmr t L st h = some qf → hk_K SH cls kd sc D cI cZ cR cJ A H0 b0 ad0 al0 mx n0 s0 p l e R s m args below meth c Q t L st h)  {L : hk_L} {st : List Value} {h : hk_H} (hrun : hk_stp SH pb big none nxr jmr (fun P d k => @ite _ P d k none) (fun P d k0 k1 => @ite _ P d k0 k1) (fun y a h k => (cl y a h).bind (fun q => k q.1 q.2)) (fun r h => some (r, h)) scr ch (.laload) a c1 d v w sw L st h = some qf) : hk_K SH cls kd sc D cI cZ cR cJ A H0 b0 ad0 al0 mx n0 s0 p l e R s m args below meth c Q pc L st h := by
  obtain ⟨TB, hx, hb, hml, hown, hts, hK, hA, hin, hX, hcl, hge, hR1, hR2, hAO⟩ := id FX
  intro ad H locs ls r
  obtain ⟨hP, hD, hS, hwf, hlv, hlen, hsv, hLv, hadb, hn0, hs0⟩ := id r
  unfold hk_G
  have go : ∀ {st' : List Value}, nxr L st' h = some qf → (∀ v ∈ st', hk_vo sc h.2.2.2 v) → hk_G SH cls p l e R s m args below meth c Q n0 s0 ad h H locs (pc + len) ls st' := fun h1 h2 => hnx _ _ _ h1 _ _ _ _ (r.stk h2)
  have gj : ∀ {t : Nat} {st' : List Value}, jmr t L st' h = some qf → (∀ v ∈ st', hk_vo sc h.2.2.2 v) → hk_G SH cls p l e R s m args below meth c Q n0 s0 ad h H locs t ls st' := fun h1 h2 => hjm _ _ _ _ h1 _ _ _ _ (r.stk h2)
  unfold hk_G at go gj
  simp only [hk_iok, Bool.and_eq_true, decide_eq_true_eq] at hck
  simp only [hk_stp] at hrun
  obtain rfl := hck
  unfold hk_lal at hrun
  split at hrun
  · next i q0 r0 =>
    split at hrun
    · next n hsh =>
      dsimp only at hrun
      split at hrun
      · next hin =>
        have hal := hk_aliv TB.2.2.2.1 (hk_vo2 hsv).2.1 hsh (by decide)
        obtain ⟨k, hk1, hk2⟩ := hk_ws_at (SH := SH) (cls := cls) (kd := kd) (cI := cI) (cZ := cZ) (cR := cR) (cJ := cJ) (ad := ad) hal
        rw [hk_ce5 hsh] at hk2
        exact va_lald (D := D) (tys := hk_tys cI cZ cR cJ hn) hx hb hK hP k 3 hk2 rfl hin hdg (go hrun (hk_voc trivial (hk_vo2 hsv).2.2))
      · cases hrun
    · cases hrun
  · cases hrun

set_option maxHeartbeats 1000000 in
theorem hk_z_aaload {ini : Bool} {rk : Nat} (FX : hk_Fx SH ch cls kd wl mt hn sc p l R s m args meth c D cI cZ cR cJ A H0 b0 mx dd own cc scr cl ini) {pc len a b c1 d : Nat} {v : Int32} {w : Int64} {sw : List (Int32 × Nat)}  (hdg : decode cc pc = .ok (.aaload, len)) (hck : hk_iok cls kd mt hn own ini rk mx pc (.aaload) len a b c1 d v w sw = true) {nxr : hk_L → List Value → hk_H → hk_O} {jmr : Nat → hk_L → List Value → hk_H → hk_O} {qf : Option Value × hk_H} (hnx : ∀ L st h, nxr L st h = some qf → hk_K SH cls kd sc D cI cZ cR cJ A H0 b0 ad0 al0 mx n0 s0 p l e R s m args below meth c Q (pc + len) L st h) (hjm : ∀ t L st h, jmr t L st h = some qf → hk_K SH cls kd sc D cI cZ cR cJ A H0 b0 ad0 al0 mx n0 s0 p l e R s m args below meth c Q t L st h)  {L : hk_L} {st : List Value} {h : hk_H} (hrun : hk_stp SH pb big none nxr jmr (fun P d k => @ite _ P d k none) (fun P d k0 k1 => @ite _ P d k0 k1) (fun y a h k => (cl y a h).bind (fun q => k q.1 q.2)) (fun r h => some (r, h)) scr ch (.aaload) a c1 d v w sw L st h = some qf) : hk_K SH cls kd sc D cI cZ cR cJ A H0 b0 ad0 al0 mx n0 s0 p l e R s m args below meth c Q pc L st h := by
  obtain ⟨TB, hx, hb, hml, hown, hts, hK, hA, hin, hX, hcl, hge, hR1, hR2, hAO⟩ := id FX
  intro ad H locs ls r
  obtain ⟨hP, hD, hS, hwf, hlv, hlen, hsv, hLv, hadb, hn0, hs0⟩ := id r
  unfold hk_G
  have go : ∀ {st' : List Value}, nxr L st' h = some qf → (∀ v ∈ st', hk_vo sc h.2.2.2 v) → hk_G SH cls p l e R s m args below meth c Q n0 s0 ad h H locs (pc + len) ls st' := fun h1 h2 => hnx _ _ _ h1 _ _ _ _ (r.stk h2)
  have gj : ∀ {t : Nat} {st' : List Value}, jmr t L st' h = some qf → (∀ v ∈ st', hk_vo sc h.2.2.2 v) → hk_G SH cls p l e R s m args below meth c Q n0 s0 ad h H locs t ls st' := fun h1 h2 => hjm _ _ _ _ h1 _ _ _ _ (r.stk h2)
  unfold hk_G at go gj
  simp only [hk_iok, Bool.and_eq_true, decide_eq_true_eq] at hck
  simp only [hk_stp] at hrun
  obtain rfl := hck
  unfold hk_aal at hrun
  split at hrun
  · next i q0 r0 =>
    split at hrun
    · next n hsh =>
      dsimp only at hrun
      split at hrun
      · next hin =>
        have hal := hk_aliv TB.2.2.2.1 (hk_vo2 hsv).2.1 hsh (by decide)
        obtain ⟨k, hk1, hk2⟩ := hk_ws_at (SH := SH) (cls := cls) (kd := kd) (cI := cI) (cZ := cZ) (cR := cR) (cJ := cJ) (ad := ad) hal
        rw [hk_ce4 hsh] at hk2
        exact va_aldq (D := D) (tys := hk_tys cI cZ cR cJ hn) hx hb hK hP k 2 hk2 rfl hin hdg (by rw [← hk_tv_rv]; exact go hrun (hk_voc (hk_rv_vo hwf hal) (hk_vo2 hsv).2.2))
      · cases hrun
    · cases hrun
  · cases hrun

set_option maxHeartbeats 1000000 in
theorem hk_z_iastore {ini : Bool} {rk : Nat} (FX : hk_Fx SH ch cls kd wl mt hn sc p l R s m args meth c D cI cZ cR cJ A H0 b0 mx dd own cc scr cl ini) {pc len a b c1 d : Nat} {v : Int32} {w : Int64} {sw : List (Int32 × Nat)}  (hdg : decode cc pc = .ok (.iastore, len)) (hck : hk_iok cls kd mt hn own ini rk mx pc (.iastore) len a b c1 d v w sw = true) {nxr : hk_L → List Value → hk_H → hk_O} {jmr : Nat → hk_L → List Value → hk_H → hk_O} {qf : Option Value × hk_H} (hnx : ∀ L st h, nxr L st h = some qf → hk_K SH cls kd sc D cI cZ cR cJ A H0 b0 ad0 al0 mx n0 s0 p l e R s m args below meth c Q (pc + len) L st h) (hjm : ∀ t L st h, jmr t L st h = some qf → hk_K SH cls kd sc D cI cZ cR cJ A H0 b0 ad0 al0 mx n0 s0 p l e R s m args below meth c Q t L st h)  {L : hk_L} {st : List Value} {h : hk_H} (hrun : hk_stp SH pb big none nxr jmr (fun P d k => @ite _ P d k none) (fun P d k0 k1 => @ite _ P d k0 k1) (fun y a h k => (cl y a h).bind (fun q => k q.1 q.2)) (fun r h => some (r, h)) scr ch (.iastore) a c1 d v w sw L st h = some qf) : hk_K SH cls kd sc D cI cZ cR cJ A H0 b0 ad0 al0 mx n0 s0 p l e R s m args below meth c Q pc L st h := by
  obtain ⟨TB, hx, hb, hml, hown, hts, hK, hA, hin, hX, hcl, hge, hR1, hR2, hAO⟩ := id FX
  intro ad H locs ls r
  obtain ⟨hP, hD, hS, hwf, hlv, hlen, hsv, hLv, hadb, hn0, hs0⟩ := id r
  unfold hk_G
  have go : ∀ {st' : List Value}, nxr L st' h = some qf → (∀ v ∈ st', hk_vo sc h.2.2.2 v) → hk_G SH cls p l e R s m args below meth c Q n0 s0 ad h H locs (pc + len) ls st' := fun h1 h2 => hnx _ _ _ h1 _ _ _ _ (r.stk h2)
  have gj : ∀ {t : Nat} {st' : List Value}, jmr t L st' h = some qf → (∀ v ∈ st', hk_vo sc h.2.2.2 v) → hk_G SH cls p l e R s m args below meth c Q n0 s0 ad h H locs t ls st' := fun h1 h2 => hjm _ _ _ _ h1 _ _ _ _ (r.stk h2)
  unfold hk_G at go gj
  simp only [hk_iok, Bool.and_eq_true, decide_eq_true_eq] at hck
  simp only [hk_stp] at hrun
  obtain rfl := hck
  unfold hk_ias at hrun
  split at hrun
  · next x i q0 r0 =>
    split at hrun
    · next n hsh =>
      dsimp only at hrun
      split at hrun
      · next hin =>
        obtain ⟨v1, v2, v3⟩ := hk_vo2 hsv
        obtain ⟨v4, v5⟩ := hk_vot v3
        have hal := hk_aliv TB.2.2.2.1 v4 hsh (by decide)
        obtain ⟨k, hk1, hk2⟩ := hk_ws_at (SH := SH) (cls := cls) (kd := kd) (cI := cI) (cZ := cZ) (cR := cR) (cJ := cJ) (ad := ad) hal
        rw [hk_ce2 hsh] at hk2
        exact va_iast (D := D) (tys := hk_tys cI cZ cR cJ hn) hx hb hK hP hD hS k 0 hk2 rfl hin hdg (fun H1 locs1 hP1 hD1 hS1 => hnx _ _ _ hrun _ _ _ _ (r.wr (h' := (hk_u2 h.1 q0 i.toNatClampNeg x, h.2)) hk1 (by rw [hk_ce2 hsh]; simp [hk_u2, hk_uJ]) rfl (fun z hz => ⟨by simp [hk_u2, hz], rfl, rfl⟩) hwf hP1 hD1 hS1 v5))
      · cases hrun
    · cases hrun
  · cases hrun

set_option maxHeartbeats 1000000 in
theorem hk_z_bastore {ini : Bool} {rk : Nat} (FX : hk_Fx SH ch cls kd wl mt hn sc p l R s m args meth c D cI cZ cR cJ A H0 b0 mx dd own cc scr cl ini) {pc len a b c1 d : Nat} {v : Int32} {w : Int64} {sw : List (Int32 × Nat)}  (hdg : decode cc pc = .ok (.bastore, len)) (hck : hk_iok cls kd mt hn own ini rk mx pc (.bastore) len a b c1 d v w sw = true) {nxr : hk_L → List Value → hk_H → hk_O} {jmr : Nat → hk_L → List Value → hk_H → hk_O} {qf : Option Value × hk_H} (hnx : ∀ L st h, nxr L st h = some qf → hk_K SH cls kd sc D cI cZ cR cJ A H0 b0 ad0 al0 mx n0 s0 p l e R s m args below meth c Q (pc + len) L st h) (hjm : ∀ t L st h, jmr t L st h = some qf → hk_K SH cls kd sc D cI cZ cR cJ A H0 b0 ad0 al0 mx n0 s0 p l e R s m args below meth c Q t L st h)  {L : hk_L} {st : List Value} {h : hk_H} (hrun : hk_stp SH pb big none nxr jmr (fun P d k => @ite _ P d k none) (fun P d k0 k1 => @ite _ P d k0 k1) (fun y a h k => (cl y a h).bind (fun q => k q.1 q.2)) (fun r h => some (r, h)) scr ch (.bastore) a c1 d v w sw L st h = some qf) : hk_K SH cls kd sc D cI cZ cR cJ A H0 b0 ad0 al0 mx n0 s0 p l e R s m args below meth c Q pc L st h := by
  obtain ⟨TB, hx, hb, hml, hown, hts, hK, hA, hin, hX, hcl, hge, hR1, hR2, hAO⟩ := id FX
  intro ad H locs ls r
  obtain ⟨hP, hD, hS, hwf, hlv, hlen, hsv, hLv, hadb, hn0, hs0⟩ := id r
  unfold hk_G
  have go : ∀ {st' : List Value}, nxr L st' h = some qf → (∀ v ∈ st', hk_vo sc h.2.2.2 v) → hk_G SH cls p l e R s m args below meth c Q n0 s0 ad h H locs (pc + len) ls st' := fun h1 h2 => hnx _ _ _ h1 _ _ _ _ (r.stk h2)
  have gj : ∀ {t : Nat} {st' : List Value}, jmr t L st' h = some qf → (∀ v ∈ st', hk_vo sc h.2.2.2 v) → hk_G SH cls p l e R s m args below meth c Q n0 s0 ad h H locs t ls st' := fun h1 h2 => hjm _ _ _ _ h1 _ _ _ _ (r.stk h2)
  unfold hk_G at go gj
  simp only [hk_iok, Bool.and_eq_true, decide_eq_true_eq] at hck
  simp only [hk_stp] at hrun
  obtain rfl := hck
  unfold hk_bas at hrun
  split at hrun
  · next x i q0 r0 =>
    split at hrun
    · next n hsh =>
      dsimp only at hrun
      split at hrun
      · next hin =>
        obtain ⟨v1, v2, v3⟩ := hk_vo2 hsv
        obtain ⟨v4, v5⟩ := hk_vot v3
        have hal := hk_aliv TB.2.2.2.1 v4 hsh (by decide)
        obtain ⟨k, hk1, hk2⟩ := hk_ws_at (SH := SH) (cls := cls) (kd := kd) (cI := cI) (cZ := cZ) (cR := cR) (cJ := cJ) (ad := ad) hal
        rw [hk_ce3 hsh] at hk2
        exact va_zast (D := D) (tys := hk_tys cI cZ cR cJ hn) hx hb hK hP hD hS k 1 hk2 rfl hin hdg (fun H1 locs1 hP1 hD1 hS1 => hnx _ _ _ hrun _ _ _ _ (r.wr (h' := (hk_u2 h.1 q0 i.toNatClampNeg (vp_nar .boolean x), h.2)) hk1 (by rw [hk_ce3 hsh]; simp [hk_u2, hk_uJ]) rfl (fun z hz => ⟨by simp [hk_u2, hz], rfl, rfl⟩) hwf hP1 hD1 hS1 v5))
      · cases hrun
    · cases hrun
  · cases hrun

set_option maxHeartbeats 1000000 in
theorem hk_z_lastore {ini : Bool} {rk : Nat} (FX : hk_Fx SH ch cls kd wl mt hn sc p l R s m args meth c D cI cZ cR cJ A H0 b0 mx dd own cc scr cl ini) {pc len a b c1 d : Nat} {v : Int32} {w : Int64} {sw : List (Int32 × Nat)}  (hdg : decode cc pc = .ok (.lastore, len)) (hck : hk_iok cls kd mt hn own ini rk mx pc (.lastore) len a b c1 d v w sw = true) {nxr : hk_L → List Value → hk_H → hk_O} {jmr : Nat → hk_L → List Value → hk_H → hk_O} {qf : Option Value × hk_H} (hnx : ∀ L st h, nxr L st h = some qf → hk_K SH cls kd sc D cI cZ cR cJ A H0 b0 ad0 al0 mx n0 s0 p l e R s m args below meth c Q (pc + len) L st h) (hjm : ∀ t L st h, jmr t L st h = some qf → hk_K SH cls kd sc D cI cZ cR cJ A H0 b0 ad0 al0 mx n0 s0 p l e R s m args below meth c Q t L st h)  {L : hk_L} {st : List Value} {h : hk_H} (hrun : hk_stp SH pb big none nxr jmr (fun P d k => @ite _ P d k none) (fun P d k0 k1 => @ite _ P d k0 k1) (fun y a h k => (cl y a h).bind (fun q => k q.1 q.2)) (fun r h => some (r, h)) scr ch (.lastore) a c1 d v w sw L st h = some qf) : hk_K SH cls kd sc D cI cZ cR cJ A H0 b0 ad0 al0 mx n0 s0 p l e R s m args below meth c Q pc L st h := by
  obtain ⟨TB, hx, hb, hml, hown, hts, hK, hA, hin, hX, hcl, hge, hR1, hR2, hAO⟩ := id FX
  intro ad H locs ls r
  obtain ⟨hP, hD, hS, hwf, hlv, hlen, hsv, hLv, hadb, hn0, hs0⟩ := id r
  unfold hk_G
  have go : ∀ {st' : List Value}, nxr L st' h = some qf → (∀ v ∈ st', hk_vo sc h.2.2.2 v) → hk_G SH cls p l e R s m args below meth c Q n0 s0 ad h H locs (pc + len) ls st' := fun h1 h2 => hnx _ _ _ h1 _ _ _ _ (r.stk h2)
  have gj : ∀ {t : Nat} {st' : List Value}, jmr t L st' h = some qf → (∀ v ∈ st', hk_vo sc h.2.2.2 v) → hk_G SH cls p l e R s m args below meth c Q n0 s0 ad h H locs t ls st' := fun h1 h2 => hjm _ _ _ _ h1 _ _ _ _ (r.stk h2)
  unfold hk_G at go gj
  simp only [hk_iok, Bool.and_eq_true, decide_eq_true_eq] at hck
  simp only [hk_stp] at hrun
  obtain rfl := hck
  unfold hk_las at hrun
  split at hrun
  · next x i q0 r0 =>
    split at hrun
    · next n hsh =>
      dsimp only at hrun
      split at hrun
      · next hin =>
        obtain ⟨v1, v2, v3⟩ := hk_vo2 hsv
        obtain ⟨v4, v5⟩ := hk_vot v3
        have hal := hk_aliv TB.2.2.2.1 v4 hsh (by decide)
        obtain ⟨k, hk1, hk2⟩ := hk_ws_at (SH := SH) (cls := cls) (kd := kd) (cI := cI) (cZ := cZ) (cR := cR) (cJ := cJ) (ad := ad) hal
        rw [hk_ce5 hsh] at hk2
        exact va_last (D := D) (tys := hk_tys cI cZ cR cJ hn) hx hb hK hP hD hS k 3 hk2 rfl hin hdg (fun H1 locs1 hP1 hD1 hS1 => hnx _ _ _ hrun _ _ _ _ (r.wr (h' := (h.1, hk_uJ h.2.1 q0 i.toNatClampNeg x, h.2.2)) hk1 (by rw [hk_ce5 hsh]; simp [hk_u2, hk_uJ]) rfl (fun z hz => ⟨rfl, by simp [hk_uJ, hz], rfl⟩) hwf hP1 hD1 hS1 v5))
      · cases hrun
    · cases hrun
  · cases hrun

set_option maxHeartbeats 1000000 in
theorem hk_z_aastore {ini : Bool} {rk : Nat} (FX : hk_Fx SH ch cls kd wl mt hn sc p l R s m args meth c D cI cZ cR cJ A H0 b0 mx dd own cc scr cl ini) {pc len a b c1 d : Nat} {v : Int32} {w : Int64} {sw : List (Int32 × Nat)}  (hdg : decode cc pc = .ok (.aastore, len)) (hck : hk_iok cls kd mt hn own ini rk mx pc (.aastore) len a b c1 d v w sw = true) {nxr : hk_L → List Value → hk_H → hk_O} {jmr : Nat → hk_L → List Value → hk_H → hk_O} {qf : Option Value × hk_H} (hnx : ∀ L st h, nxr L st h = some qf → hk_K SH cls kd sc D cI cZ cR cJ A H0 b0 ad0 al0 mx n0 s0 p l e R s m args below meth c Q (pc + len) L st h) (hjm : ∀ t L st h, jmr t L st h = some qf → hk_K SH cls kd sc D cI cZ cR cJ A H0 b0 ad0 al0 mx n0 s0 p l e R s m args below meth c Q t L st h)  {L : hk_L} {st : List Value} {h : hk_H} (hrun : hk_stp SH pb big none nxr jmr (fun P d k => @ite _ P d k none) (fun P d k0 k1 => @ite _ P d k0 k1) (fun y a h k => (cl y a h).bind (fun q => k q.1 q.2)) (fun r h => some (r, h)) scr ch (.aastore) a c1 d v w sw L st h = some qf) : hk_K SH cls kd sc D cI cZ cR cJ A H0 b0 ad0 al0 mx n0 s0 p l e R s m args below meth c Q pc L st h := by
  obtain ⟨TB, hx, hb, hml, hown, hts, hK, hA, hin, hX, hcl, hge, hR1, hR2, hAO⟩ := id FX
  intro ad H locs ls r
  obtain ⟨hP, hD, hS, hwf, hlv, hlen, hsv, hLv, hadb, hn0, hs0⟩ := id r
  unfold hk_G
  have go : ∀ {st' : List Value}, nxr L st' h = some qf → (∀ v ∈ st', hk_vo sc h.2.2.2 v) → hk_G SH cls p l e R s m args below meth c Q n0 s0 ad h H locs (pc + len) ls st' := fun h1 h2 => hnx _ _ _ h1 _ _ _ _ (r.stk h2)
  have gj : ∀ {t : Nat} {st' : List Value}, jmr t L st' h = some qf → (∀ v ∈ st', hk_vo sc h.2.2.2 v) → hk_G SH cls p l e R s m args below meth c Q n0 s0 ad h H locs t ls st' := fun h1 h2 => hjm _ _ _ _ h1 _ _ _ _ (r.stk h2)
  unfold hk_G at go gj
  simp only [hk_iok, Bool.and_eq_true, decide_eq_true_eq] at hck
  simp only [hk_stp] at hrun
  obtain rfl := hck
  unfold hk_aas at hrun
  split at hrun
  · next q1 i q0 r0 =>
    split at hrun
    · next hsh1 =>
      split at hrun
      · next n hsh =>
        dsimp only at hrun
        split at hrun
        · next hin =>
          obtain ⟨v1, v2, v3⟩ := hk_vo2 hsv
          obtain ⟨v4, v5⟩ := hk_vot v3
          have hsh1 := hk_is_eq hsh1
          have hal := hk_aliv TB.2.2.2.1 v4 hsh (by decide)
          have hal1 := hk_aliv TB.2.2.2.1 v1 hsh1 (by decide)
          obtain ⟨k, hk1, hk2⟩ := hk_ws_at (SH := SH) (cls := cls) (kd := kd) (cI := cI) (cZ := cZ) (cR := cR) (cJ := cJ) (ad := ad) hal
          obtain ⟨k3, hk3, hk4⟩ := hk_ws_at (SH := SH) (cls := cls) (kd := kd) (cI := cI) (cZ := cZ) (cR := cR) (cJ := cJ) (ad := ad) hal1
          rw [hk_ce4 hsh] at hk2
          rw [hk_ce1 hsh1] at hk4
          obtain ⟨qc, hqc, hqn⟩ := TB.2.2.2.2.1
          exact va_astq (D := D) (tys := hk_tys cI cZ cR cJ hn) hx hb hK hP hD hS k 2 k3 ch hk2 (by rw [hqn]; rfl) hk4 hqc hin hdg (fun H1 locs1 hP1 hD1 hS1 => hnx _ _ _ hrun _ _ _ _ (r.wr (h' := (h.1, h.2.1, hk_uR h.2.2.1 q0 i.toNatClampNeg (q1 + 1), h.2.2.2)) hk1 (by
            rw [hk_ce4 hsh]
            congr 7
            funext z
            simp only [hk_uR, if_true, va_up]
            split <;> rfl) rfl (fun z hz => ⟨rfl, rfl, by simp [hk_uR, hz]⟩) (hk_wf_uR hwf hal1) hP1 hD1 hS1 v5))
        · cases hrun
      · cases hrun
    · cases hrun
  · cases hrun

set_option maxHeartbeats 1000000 in
theorem hk_z_arraylength {ini : Bool} {rk : Nat} (FX : hk_Fx SH ch cls kd wl mt hn sc p l R s m args meth c D cI cZ cR cJ A H0 b0 mx dd own cc scr cl ini) {pc len a b c1 d : Nat} {v : Int32} {w : Int64} {sw : List (Int32 × Nat)}  (hdg : decode cc pc = .ok (.arraylength, len)) (hck : hk_iok cls kd mt hn own ini rk mx pc (.arraylength) len a b c1 d v w sw = true) {nxr : hk_L → List Value → hk_H → hk_O} {jmr : Nat → hk_L → List Value → hk_H → hk_O} {qf : Option Value × hk_H} (hnx : ∀ L st h, nxr L st h = some qf → hk_K SH cls kd sc D cI cZ cR cJ A H0 b0 ad0 al0 mx n0 s0 p l e R s m args below meth c Q (pc + len) L st h) (hjm : ∀ t L st h, jmr t L st h = some qf → hk_K SH cls kd sc D cI cZ cR cJ A H0 b0 ad0 al0 mx n0 s0 p l e R s m args below meth c Q t L st h)  {L : hk_L} {st : List Value} {h : hk_H} (hrun : hk_stp SH pb big none nxr jmr (fun P d k => @ite _ P d k none) (fun P d k0 k1 => @ite _ P d k0 k1) (fun y a h k => (cl y a h).bind (fun q => k q.1 q.2)) (fun r h => some (r, h)) scr ch (.arraylength) a c1 d v w sw L st h = some qf) : hk_K SH cls kd sc D cI cZ cR cJ A H0 b0 ad0 al0 mx n0 s0 p l e R s m args below meth c Q pc L st h := by
  obtain ⟨TB, hx, hb, hml, hown, hts, hK, hA, hin, hX, hcl, hge, hR1, hR2, hAO⟩ := id FX
  intro ad H locs ls r
  obtain ⟨hP, hD, hS, hwf, hlv, hlen, hsv, hLv, hadb, hn0, hs0⟩ := id r
  unfold hk_G
  have go : ∀ {st' : List Value}, nxr L st' h = some qf → (∀ v ∈ st', hk_vo sc h.2.2.2 v) → hk_G SH cls p l e R s m args below meth c Q n0 s0 ad h H locs (pc + len) ls st' := fun h1 h2 => hnx _ _ _ h1 _ _ _ _ (r.stk h2)
  have gj : ∀ {t : Nat} {st' : List Value}, jmr t L st' h = some qf → (∀ v ∈ st', hk_vo sc h.2.2.2 v) → hk_G SH cls p l e R s m args below meth c Q n0 s0 ad h H locs t ls st' := fun h1 h2 => hjm _ _ _ _ h1 _ _ _ _ (r.stk h2)
  unfold hk_G at go gj
  simp only [hk_iok, Bool.and_eq_true, decide_eq_true_eq] at hck
  simp only [hk_stp] at hrun
  obtain rfl := hck
  unfold hk_len at hrun
  split at hrun
  · next q0 r0 =>
    split at hrun
    · next n hsh =>
      have hal := hk_aliv TB.2.2.2.1 (hk_vot hsv).1 hsh (by decide)
      obtain ⟨k, hk1, hk2⟩ := hk_ws_at (SH := SH) (cls := cls) (kd := kd) (cI := cI) (cZ := cZ) (cR := cR) (cJ := cJ) (ad := ad) hal
      rw [hk_ce2 hsh] at hk2
      exact va_alen (D := D) (tys := hk_tys cI cZ cR cJ hn) hx hb hK hP k 0 hk2 rfl rfl hdg (go hrun (hk_voc trivial (hk_vot hsv).2))
    · next n hsh =>
      split at hrun
      · next sq =>
        have hq0 : q0 = sc := TB.2.2.1 _ _ hsh
        obtain ⟨x1, x2, x3⟩ := hX sq rfl
        have e0 : hk_tv ad (.ref q0) = .ref b0 := by rw [hq0]; exact congrArg Value.ref hadb.1
        show W p l e R s m args below meth c H locs _ _ Q (F0 m pc ls (hk_tv ad (.ref q0) :: r0.map (hk_tv ad)))
        rw [e0]
        exact va_slen hx hb x1 x2 x3 hS hdg (go hrun (hk_voc trivial (hk_vot hsv).2))
      · cases hrun
    · cases hrun
  · cases hrun

theorem hk_sw_snd {X : hk_O} {x : Int32} {k0 : hk_O} {k : Nat → hk_O} : ∀ {sw : List (Int32 × Nat)}, hk_sw (fun P d k0 k1 => @ite _ P d k0 k1) x k0 k sw = X → (∃ (j : Nat) (q : Int32 × Nat), sw[j]? = some q ∧ x = q.1 ∧ k q.2 = X) ∨ ((∀ q ∈ sw, ¬ x = q.1) ∧ k0 = X)
  | [], h => Or.inr ⟨fun _ h => absurd h List.not_mem_nil, h⟩
  | q :: r, h => by
    rw [hk_sw] at h
    by_cases hq : x = q.1
    · rw [if_pos hq] at h
      exact Or.inl ⟨0, q, rfl, hq, h⟩
    · rw [if_neg hq] at h
      rcases hk_sw_snd h with ⟨j, q', h1, h2, h3⟩ | ⟨h1, h2⟩
      · exact Or.inl ⟨j + 1, q', h1, h2, h3⟩
      · exact Or.inr ⟨fun z hz => by
          rcases List.mem_cons.mp hz with rfl | hz
          · exact hq
          · exact h1 z hz, h2⟩
theorem hk_swT_at {pc : Nat} {lo : Int} : ∀ {k : Nat} {sw : List (Int32 × Nat)} {os : List Int}, hk_swT pc lo k sw os = true → sw.length = os.length ∧ ∀ (j : Nat) (q : Int32 × Nat), sw[j]? = some q → ∃ o, os[j]? = some o ∧ q.1.toInt = lo + (k + j : Nat) ∧ (pc : Int) + o = (q.2 : Int)
  | _, [], [], _ => ⟨rfl, fun j q h => by simp at h⟩
  | k, q :: r, o :: os, h => by
    simp only [hk_swT, Bool.and_eq_true, decide_eq_true_eq] at h
    obtain ⟨⟨h1, h2⟩, h3⟩ := h
    obtain ⟨h4, h5⟩ := hk_swT_at h3
    refine ⟨by simp [h4], fun j q' hj => ?_⟩
    cases j with
    | zero => cases hj; exact ⟨o, rfl, h1, h2⟩
    | succ j =>
      obtain ⟨o', g1, g2, g3⟩ := h5 j q' hj
      exact ⟨o', g1, by rw [g2]; congr 2; omega, g3⟩
  | _, [], _ :: _, h => by simp [hk_swT] at h
  | _, _ :: _, [], h => by simp [hk_swT] at h
theorem hk_swL_at {pc : Nat} {df : Int} {x : Int32} {k0 : Nat} (hd : (pc : Int) + df = (k0 : Int)) : ∀ {sw : List (Int32 × Nat)} {ps : List (Int × Int)}, hk_swL pc sw ps = true → ((∀ q ∈ sw, ¬ x = q.1) → (pc : Int) + Op.lookupswitch.offset ps df x.toInt = (k0 : Int)) ∧ ∀ (j : Nat) (q : Int32 × Nat), sw[j]? = some q → x = q.1 → (∀ i q', i < j → sw[i]? = some q' → ¬ x = q'.1) → (pc : Int) + Op.lookupswitch.offset ps df x.toInt = (q.2 : Int)
  | [], [], _ => ⟨fun _ => hd, fun j q h => by simp at h⟩
  | q :: r, o :: os, h => by
    simp only [hk_swL, Bool.and_eq_true, decide_eq_true_eq] at h
    obtain ⟨⟨h1, h2⟩, h3⟩ := h
    obtain ⟨h4, h5⟩ := hk_swL_at hd h3
    obtain ⟨oa, ob⟩ := o
    constructor
    · intro hn
      rw [lv_osw (hn q List.mem_cons_self) h1]
      exact h4 fun z hz => hn z (List.mem_cons_of_mem _ hz)
    · intro j q' hj hx hlt
      cases j with
      | zero =>
        cases hj
        rw [Op.lookupswitch.offset_cons, if_pos (by rw [hx]; exact h1.symm)]
        exact h2
      | succ j =>
        rw [lv_osw (hlt 0 q (by omega) rfl) h1]
        exact h5 j q' hj hx fun i z hi hz => hlt (i + 1) z (by omega) hz
  | [], _ :: _, h => by simp [hk_swL] at h
  | _ :: _, [], h => by simp [hk_swL] at h
theorem hk_sw_fst {X : hk_O} {x : Int32} {k0 : hk_O} {k : Nat → hk_O} : ∀ {sw : List (Int32 × Nat)}, hk_sw (fun P d k0 k1 => @ite _ P d k0 k1) x k0 k sw = X → (∃ (j : Nat) (q : Int32 × Nat), sw[j]? = some q ∧ x = q.1 ∧ (∀ i q', i < j → sw[i]? = some q' → ¬ x = q'.1) ∧ k q.2 = X) ∨ ((∀ q ∈ sw, ¬ x = q.1) ∧ k0 = X)
  | [], h => Or.inr ⟨fun _ h => absurd h List.not_mem_nil, h⟩
  | q :: r, h => by
    rw [hk_sw] at h
    by_cases hq : x = q.1
    · rw [if_pos hq] at h
      exact Or.inl ⟨0, q, rfl, hq, fun i q' hi => by omega, h⟩
    · rw [if_neg hq] at h
      rcases hk_sw_fst h with ⟨j, q', h1, h2, h4, h3⟩ | ⟨h1, h2⟩
      · refine Or.inl ⟨j + 1, q', h1, h2, fun i z hi hz => ?_, h3⟩
        cases i with
        | zero => cases hz; exact hq
        | succ i => exact h4 i z (by omega) hz
      · exact Or.inr ⟨fun z hz => by
          rcases List.mem_cons.mp hz with rfl | hz
          · exact hq
          · exact h1 z hz, h2⟩

set_option maxHeartbeats 1000000 in
theorem hk_z_tableswitch {ini : Bool} {rk : Nat} (FX : hk_Fx SH ch cls kd wl mt hn sc p l R s m args meth c D cI cZ cR cJ A H0 b0 mx dd own cc scr cl ini) {pc len a b c1 d : Nat} {v : Int32} {w : Int64} {sw : List (Int32 × Nat)} {df lo hi : Int} {os : Array Int} (hdg : decode cc pc = .ok (.tableswitch df lo hi os, len)) (hck : hk_iok cls kd mt hn own ini rk mx pc (.tableswitch df lo hi os) len a b c1 d v w sw = true) {nxr : hk_L → List Value → hk_H → hk_O} {jmr : Nat → hk_L → List Value → hk_H → hk_O} {qf : Option Value × hk_H} (hnx : ∀ L st h, nxr L st h = some qf → hk_K SH cls kd sc D cI cZ cR cJ A H0 b0 ad0 al0 mx n0 s0 p l e R s m args below meth c Q (pc + len) L st h) (hjm : ∀ t L st h, jmr t L st h = some qf → hk_K SH cls kd sc D cI cZ cR cJ A H0 b0 ad0 al0 mx n0 s0 p l e R s m args below meth c Q t L st h)  {L : hk_L} {st : List Value} {h : hk_H} (hrun : hk_stp SH pb big none nxr jmr (fun P d k => @ite _ P d k none) (fun P d k0 k1 => @ite _ P d k0 k1) (fun y a h k => (cl y a h).bind (fun q => k q.1 q.2)) (fun r h => some (r, h)) scr ch (.tableswitch df lo hi os) a c1 d v w sw L st h = some qf) : hk_K SH cls kd sc D cI cZ cR cJ A H0 b0 ad0 al0 mx n0 s0 p l e R s m args below meth c Q pc L st h := by
  obtain ⟨TB, hx, hb, hml, hown, hts, hK, hA, hin, hX, hcl, hge, hR1, hR2, hAO⟩ := id FX
  intro ad H locs ls r
  obtain ⟨hP, hD, hS, hwf, hlv, hlen, hsv, hLv, hadb, hn0, hs0⟩ := id r
  unfold hk_G
  have go : ∀ {st' : List Value}, nxr L st' h = some qf → (∀ v ∈ st', hk_vo sc h.2.2.2 v) → hk_G SH cls p l e R s m args below meth c Q n0 s0 ad h H locs (pc + len) ls st' := fun h1 h2 => hnx _ _ _ h1 _ _ _ _ (r.stk h2)
  have gj : ∀ {t : Nat} {st' : List Value}, jmr t L st' h = some qf → (∀ v ∈ st', hk_vo sc h.2.2.2 v) → hk_G SH cls p l e R s m args below meth c Q n0 s0 ad h H locs t ls st' := fun h1 h2 => hjm _ _ _ _ h1 _ _ _ _ (r.stk h2)
  unfold hk_G at go gj
  simp only [hk_iok, Bool.and_eq_true, decide_eq_true_eq] at hck
  simp only [hk_stp] at hrun
  obtain ⟨⟨ht, hhi⟩, hsw⟩ := hck
  obtain ⟨hl1, hl2⟩ := hk_swT_at hsw
  split at hrun
  · next x r0 =>
    rcases hk_sw_fst hrun with ⟨j, q, hj, hxq, -, hr⟩ | ⟨hno, hr⟩
    · obtain ⟨o, ho1, ho2, ho3⟩ := hl2 j q hj
      have hjl : j < os.toList.length := (List.getElem?_eq_some_iff.mp ho1).1
      rw [Array.length_toList] at hjl
      have hxi : x.toInt = lo + (j : Int) := by rw [hxq, ho2]; simp
      refine lv_tableIn hx hb hdg (by omega) (by omega) (off := o) ?_ ho3 (gj hr (hk_vot hsv).2)
      rw [show (x.toInt - lo).toNat = j by omega, ← Array.getElem?_toList]
      exact ho1
    · refine lv_tableOut hx hb hdg ?_ ht (gj hr (hk_vot hsv).2)
      by_cases h1 : x.toInt < lo
      · exact Or.inl h1
      · by_cases h2 : hi < x.toInt
        · exact Or.inr h2
        · exfalso
          have hz : (x.toInt - lo).toNat < sw.length := by
            rw [hl1, Array.length_toList]
            omega
          have hq := List.getElem?_eq_getElem hz
          obtain ⟨o, g1, g2, g3⟩ := hl2 _ _ hq
          refine hno _ (List.getElem_mem hz) (Int32.toInt_inj.mp ?_)
          rw [g2]
          simp
          omega
  · cases hrun

set_option maxHeartbeats 1000000 in
theorem hk_z_lookupswitch {ini : Bool} {rk : Nat} (FX : hk_Fx SH ch cls kd wl mt hn sc p l R s m args meth c D cI cZ cR cJ A H0 b0 mx dd own cc scr cl ini) {pc len a b c1 d : Nat} {v : Int32} {w : Int64} {sw : List (Int32 × Nat)} {df : Int} {ps : Array (Int × Int)} (hdg : decode cc pc = .ok (.lookupswitch df ps, len)) (hck : hk_iok cls kd mt hn own ini rk mx pc (.lookupswitch df ps) len a b c1 d v w sw = true) {nxr : hk_L → List Value → hk_H → hk_O} {jmr : Nat → hk_L → List Value → hk_H → hk_O} {qf : Option Value × hk_H} (hnx : ∀ L st h, nxr L st h = some qf → hk_K SH cls kd sc D cI cZ cR cJ A H0 b0 ad0 al0 mx n0 s0 p l e R s m args below meth c Q (pc + len) L st h) (hjm : ∀ t L st h, jmr t L st h = some qf → hk_K SH cls kd sc D cI cZ cR cJ A H0 b0 ad0 al0 mx n0 s0 p l e R s m args below meth c Q t L st h)  {L : hk_L} {st : List Value} {h : hk_H} (hrun : hk_stp SH pb big none nxr jmr (fun P d k => @ite _ P d k none) (fun P d k0 k1 => @ite _ P d k0 k1) (fun y a h k => (cl y a h).bind (fun q => k q.1 q.2)) (fun r h => some (r, h)) scr ch (.lookupswitch df ps) a c1 d v w sw L st h = some qf) : hk_K SH cls kd sc D cI cZ cR cJ A H0 b0 ad0 al0 mx n0 s0 p l e R s m args below meth c Q pc L st h := by
  obtain ⟨TB, hx, hb, hml, hown, hts, hK, hA, hin, hX, hcl, hge, hR1, hR2, hAO⟩ := id FX
  intro ad H locs ls r
  obtain ⟨hP, hD, hS, hwf, hlv, hlen, hsv, hLv, hadb, hn0, hs0⟩ := id r
  unfold hk_G
  have go : ∀ {st' : List Value}, nxr L st' h = some qf → (∀ v ∈ st', hk_vo sc h.2.2.2 v) → hk_G SH cls p l e R s m args below meth c Q n0 s0 ad h H locs (pc + len) ls st' := fun h1 h2 => hnx _ _ _ h1 _ _ _ _ (r.stk h2)
  have gj : ∀ {t : Nat} {st' : List Value}, jmr t L st' h = some qf → (∀ v ∈ st', hk_vo sc h.2.2.2 v) → hk_G SH cls p l e R s m args below meth c Q n0 s0 ad h H locs t ls st' := fun h1 h2 => hjm _ _ _ _ h1 _ _ _ _ (r.stk h2)
  unfold hk_G at go gj
  simp only [hk_iok, Bool.and_eq_true, decide_eq_true_eq] at hck
  simp only [hk_stp] at hrun
  obtain ⟨⟨ht, hps⟩, hsw⟩ := hck
  split at hrun
  · next x r0 =>
    obtain ⟨g1, g2⟩ := hk_swL_at (x := x) ht hsw
    rcases hk_sw_fst hrun with ⟨j, q, hj, hxq, hlt, hr⟩ | ⟨hno, hr⟩
    · exact lv_lookup hx hb hdg hps rfl (g2 j q hj hxq hlt) (gj hr (hk_vot hsv).2)
    · exact lv_lookup hx hb hdg hps rfl (g1 hno) (gj hr (hk_vot hsv).2)
  · cases hrun

end HKJ3
end
section
/-! ===== new cells, calls, ends ===== -/
section HKJ4
variable {SH : Nat → hk_Sh} {pb big ch : Nat} {cls : List vw_C} {kd : Nat → Nat → Nat} {wl : List Jvm.Cond} {mt : Nat → Option hk_Q} {hn : String} {sc : Nat}
variable {p : Program} {l : Launch} {e : Env} {R : Room} {s : State} {m : MethodId} {args : Array Value} {below : List Frame} {meth : Method} {c : Code} {Q : State → Prop}
variable {D : va_G} {cI cZ cR cJ : ClassId} {A : Nat → Prop} {H0 : Heap} {b0 mx n0 s0 dd : Nat} {ad0 : Nat → Nat} {al0 : List Nat} {own : String} {cc : ByteArray} {scr : Option (Nat × (Nat → Int32))} {cl : Nat → List Value → hk_H → hk_O}
/-- behind the making: the frame's goal out of what goes on -/
theorem hk_mkW {ad : Nat → Nat} {h : hk_H} {H H1 : Heap} {locs : List Loc} {ls : Array Slot} {L : hk_L} {st r0 : List Value} {q a pc N : Nat} {E : va_E} (r : hk_R SH cls kd sc D cI cZ cR cJ A H0 b0 ad0 al0 mx n0 s0 ad h H locs ls L st) (hq : q ∉ h.2.2.2) (hsc : q ≠ sc) (hE : hk_ce SH cls kd cI cZ cR cJ (fun z => if z = q then a else ad z) (hk_nw h q) q = E) (hN : hk_sl SH cls (hk_nw h q).2.2.2 = hk_sl SH cls h.2.2.2 + N)
    (hP : va_P D cls (hk_ws SH cls kd cI cZ cR cJ ad h ++ [(a, E)]) H1) (hD : va_D A (hk_ws SH cls kd cI cZ cR cJ ad h ++ [(a, E)])) (hS : va_S A H0 H1 locs) (hs : ∀ v ∈ r0, hk_vo sc h.2.2.2 v) (kk : hk_K SH cls kd sc D cI cZ cR cJ A H0 b0 ad0 al0 mx n0 s0 p l e R s m args below meth c Q pc L (.ref q :: r0) (hk_nw h q)) :
    W p l e R s m args below meth c H1 locs (h.2.2.2.length - n0 + 1) (hk_sl SH cls h.2.2.2 - s0 + N) Q (F0 m pc ls (.ref a :: r0.map (hk_tv ad))) := by
  obtain ⟨r2, hag⟩ := r.mk hq hsc hE hP hD hS hs
  have g := kk _ _ _ _ r2
  unfold hk_G at g
  have e1 : ((.ref q :: r0 : List Value).map (hk_tv (fun z => if z = q then a else ad z))) = .ref a :: r0.map (hk_tv ad) := by
    rw [List.map_cons, hk_map_congr hag hs]
    congr 1
    show Value.ref (if q = q then a else ad q) = _
    rw [if_pos rfl]
  rw [e1, hN] at g
  obtain ⟨-, -, -, -, -, -, -, -, -, g1, g2⟩ := r
  have e2 : (hk_nw h q).2.2.2.length = h.2.2.2.length + 1 := by simp [hk_nw]
  rw [e2] at g
  exact W.cs (by omega) (by omega) g
theorem hk_mk_eq {nxr : hk_L → List Value → hk_H → hk_O} {L : hk_L} {r : List Value} {h : hk_H} {k n : Nat} {qf : Option Value × hk_H} (he : hk_mk SH pb big none nxr L r h k n = some qf) : ∃ q, SH q = (k, n) ∧ q ∉ h.2.2.2 ∧ nxr L (.ref q :: r) (hk_nw h q) = some qf := by
  unfold hk_mk at he
  split at he
  · next hc =>
    rw [Bool.and_eq_true] at hc
    refine ⟨_, hk_is_eq hc.1, fun hm => ?_, he⟩
    have h2 := hc.2
    rw [List.contains_iff_mem.mpr hm] at h2
    cases h2
  · cases he
theorem hk_shne2 (hS : ∃ n, SH sc = (6, n)) {q k n : Nat} (hq : SH q = (k, n)) (hk : k ≠ 6) : q ≠ sc := hk_shne hS hq hk

set_option maxHeartbeats 1000000 in
theorem hk_z_new {ini : Bool} {rk : Nat} (FX : hk_Fx SH ch cls kd wl mt hn sc p l R s m args meth c D cI cZ cR cJ A H0 b0 mx dd own cc scr cl ini) {pc len a b c1 d : Nat} {v : Int32} {w : Int64} {sw : List (Int32 × Nat)} {i : Nat} (hdg : decode cc pc = .ok (.new i, len)) (hck : hk_iok cls kd mt hn own ini rk mx pc (.new i) len a b c1 d v w sw = true) {nxr : hk_L → List Value → hk_H → hk_O} {jmr : Nat → hk_L → List Value → hk_H → hk_O} {qf : Option Value × hk_H} (hnx : ∀ L st h, nxr L st h = some qf → hk_K SH cls kd sc D cI cZ cR cJ A H0 b0 ad0 al0 mx n0 s0 p l e R s m args below meth c Q (pc + len) L st h) (hjm : ∀ t L st h, jmr t L st h = some qf → hk_K SH cls kd sc D cI cZ cR cJ A H0 b0 ad0 al0 mx n0 s0 p l e R s m args below meth c Q t L st h) (hgr : ∀ L st h, nxr L st h = some qf → hk_ge h qf.2) (hR3 : qf.2.2.2.2.length - n0 ≤ R.cells ∧ hk_sl SH cls qf.2.2.2.2 - s0 ≤ R.slots) {L : hk_L} {st : List Value} {h : hk_H} (hrun : hk_stp SH pb big none nxr jmr (fun P d k => @ite _ P d k none) (fun P d k0 k1 => @ite _ P d k0 k1) (fun y a h k => (cl y a h).bind (fun q => k q.1 q.2)) (fun r h => some (r, h)) scr ch (.new i) a c1 d v w sw L st h = some qf) : hk_K SH cls kd sc D cI cZ cR cJ A H0 b0 ad0 al0 mx n0 s0 p l e R s m args below meth c Q pc L st h := by
  obtain ⟨TB, hx, hb, hml, hown, hts, hK, hA, hin, hX, hcl, hge, hR1, hR2, hAO⟩ := id FX
  intro ad H locs ls r
  obtain ⟨hP, hD, hS, hwf, hlv, hlen, hsv, hLv, hadb, hn0, hs0⟩ := id r
  unfold hk_G
  have go : ∀ {st' : List Value}, nxr L st' h = some qf → (∀ v ∈ st', hk_vo sc h.2.2.2 v) → hk_G SH cls p l e R s m args below meth c Q n0 s0 ad h H locs (pc + len) ls st' := fun h1 h2 => hnx _ _ _ h1 _ _ _ _ (r.stk h2)
  have gj : ∀ {t : Nat} {st' : List Value}, jmr t L st' h = some qf → (∀ v ∈ st', hk_vo sc h.2.2.2 v) → hk_G SH cls p l e R s m args below meth c Q n0 s0 ad h H locs t ls st' := fun h1 h2 => hjm _ _ _ _ h1 _ _ _ _ (r.stk h2)
  unfold hk_G at go gj
  simp only [hk_iok] at hck
  simp only [hk_stp] at hrun
  unfold hk_new at hrun
  obtain ⟨q0, hsh, hq0, hr⟩ := hk_mk_eq hrun
  obtain ⟨q, hq⟩ := TB.2.1 _ _ hsh
  rw [hq] at hck
  simp only [Bool.and_eq_true, decide_eq_true_eq] at hck
  obtain ⟨⟨⟨rfl, h1⟩, h2⟩, h3⟩ := hck
  obtain ⟨C, T, N⟩ := q
  obtain ⟨hu, ⟨ty, hty, hkk⟩, hnm⟩ := TB.1 a _ hq
  have hg := hgr _ _ _ hr
  have hN : hk_sl SH cls (hk_nw h q0).2.2.2 = hk_sl SH cls h.2.2.2 + N := by
    rw [hk_sl_nw, hsh]
    show _ + hk_nf cls a = _
    rw [hk_nf_eq hq]
  have hg1 := hk_ge_len hg
  have hg2 := hk_ge_sl (SH := SH) (cls := cls) hg
  rw [hN] at hg2
  have e2 : (hk_nw h q0).2.2.2.length = h.2.2.2.length + 1 := by simp [hk_nw]
  rw [e2] at hg1
  refine va_new (ci := a) (fs := (List.range N).map (fun k => match kd a k with | 1 => Value.null | _ => Value.int 0)) (C := C) (T := T) (N := N) hx hb hts hu ty hty hown (hts _ (TB.2.2.2.2.2.2.1.2.2.2 _ _ h1)) (hts _ (TB.2.2.2.2.2.2.1.2.2.2 _ _ h2)) (hts _ (TB.2.2.2.2.2.2.1.2.2.2 _ _ h3)) hK hP hD hS hA hq (fun j hj => ?_) (by omega) (by omega) hdg (fun q5 H1 hP1 hD1 hS1 => hk_mkW r hq0 (hk_shne TB.2.2.2.1 hsh (by decide)) ?_ hN hP1 hD1 hS1 hsv (hnx _ _ _ hr))
  · unfold vp_V
    rw [List.getD_eq_getElem?_getD, List.getElem?_map, List.getElem?_range hj]
    obtain ⟨k0, k1, k2, k3⟩ := hkk j hj
    have h012 : kd a j = 0 ∨ kd a j = 1 ∨ kd a j = 2 := by omega
    rcases h012 with h5 | h5 | h5
    · rw [k0 h5]; simp [h5, defaultValue]
    · rcases k1 h5 with ⟨o, e⟩ | ⟨o, e⟩ <;> rw [e] <;> simp [h5, defaultValue]
    · rw [k2 h5]; simp [h5, defaultValue]
  · rw [hk_ce1 hsh, hk_nf_eq hq]
    congr 2
    apply List.map_congr_left
    intro j _
    unfold hk_fv
    split
    · next e5 => simp [hk_nw, hk_z, hk_rf, va_rf, e5]
    · simp [hk_nw, hk_z]

set_option maxHeartbeats 1000000 in
theorem hk_z_newarray {ini : Bool} {rk : Nat} (FX : hk_Fx SH ch cls kd wl mt hn sc p l R s m args meth c D cI cZ cR cJ A H0 b0 mx dd own cc scr cl ini) {pc len a b c1 d : Nat} {v : Int32} {w : Int64} {sw : List (Int32 × Nat)} {t : ArrayType} (hdg : decode cc pc = .ok (.newarray t, len)) (hck : hk_iok cls kd mt hn own ini rk mx pc (.newarray t) len a b c1 d v w sw = true) {nxr : hk_L → List Value → hk_H → hk_O} {jmr : Nat → hk_L → List Value → hk_H → hk_O} {qf : Option Value × hk_H} (hnx : ∀ L st h, nxr L st h = some qf → hk_K SH cls kd sc D cI cZ cR cJ A H0 b0 ad0 al0 mx n0 s0 p l e R s m args below meth c Q (pc + len) L st h) (hjm : ∀ t L st h, jmr t L st h = some qf → hk_K SH cls kd sc D cI cZ cR cJ A H0 b0 ad0 al0 mx n0 s0 p l e R s m args below meth c Q t L st h) (hgr : ∀ L st h, nxr L st h = some qf → hk_ge h qf.2) (hR3 : qf.2.2.2.2.length - n0 ≤ R.cells ∧ hk_sl SH cls qf.2.2.2.2 - s0 ≤ R.slots) {L : hk_L} {st : List Value} {h : hk_H} (hrun : hk_stp SH pb big none nxr jmr (fun P d k => @ite _ P d k none) (fun P d k0 k1 => @ite _ P d k0 k1) (fun y a h k => (cl y a h).bind (fun q => k q.1 q.2)) (fun r h => some (r, h)) scr ch (.newarray t) a c1 d v w sw L st h = some qf) : hk_K SH cls kd sc D cI cZ cR cJ A H0 b0 ad0 al0 mx n0 s0 p l e R s m args below meth c Q pc L st h := by
  obtain ⟨TB, hx, hb, hml, hown, hts, hK, hA, hin, hX, hcl, hge, hR1, hR2, hAO⟩ := id FX
  intro ad H locs ls r
  obtain ⟨hP, hD, hS, hwf, hlv, hlen, hsv, hLv, hadb, hn0, hs0⟩ := id r
  unfold hk_G
  have go : ∀ {st' : List Value}, nxr L st' h = some qf → (∀ v ∈ st', hk_vo sc h.2.2.2 v) → hk_G SH cls p l e R s m args below meth c Q n0 s0 ad h H locs (pc + len) ls st' := fun h1 h2 => hnx _ _ _ h1 _ _ _ _ (r.stk h2)
  have gj : ∀ {t : Nat} {st' : List Value}, jmr t L st' h = some qf → (∀ v ∈ st', hk_vo sc h.2.2.2 v) → hk_G SH cls p l e R s m args below meth c Q n0 s0 ad h H locs t ls st' := fun h1 h2 => hjm _ _ _ _ h1 _ _ _ _ (r.stk h2)
  unfold hk_G at go gj
  simp only [hk_iok, Bool.and_eq_true, decide_eq_true_eq] at hck
  simp only [hk_stp] at hrun
  obtain rfl := hck
  unfold hk_newa at hrun
  split at hrun
  · next i r0 =>
    dsimp only at hrun
    split at hrun
    case isFalse => cases hrun
    rename_i hlt
    split at hrun
    · obtain ⟨q0, hsh, hq0, hr⟩ := hk_mk_eq hrun
      have hg := hgr _ _ _ hr
      have hN : hk_sl SH cls (hk_nw h q0).2.2.2 = hk_sl SH cls h.2.2.2 + i.toNatClampNeg := by
        rw [hk_sl_nw, hsh]
        rfl
      have hg1 := hk_ge_len hg
      have hg2 := hk_ge_sl (SH := SH) (cls := cls) hg
      rw [hN] at hg2
      have e2 : (hk_nw h q0).2.2.2.length = h.2.2.2.length + 1 := by simp [hk_nw]
      rw [e2] at hg1
      refine va_newa (D := D) (tys := hk_tys cI cZ cR cJ hn) (atype := .int) (ty := .int) (a0 := (i.toNatClampNeg, .inl (fun _ => 0))) hx hb (hts _ TB.2.2.2.2.2.2.1.1) rfl hK hP hD hS hA (fun cA => by rw [vp_cell_i] <;> rfl) hlt.1 rfl (by have h9 : componentBytes (.int) ≤ 8 := (by decide); have h8 := Nat.mul_le_mul hlt.2 h9; omega) (by omega) (by omega) hdg (fun q5 cA H1 hK1 hP1 hD1 hS1 => ?_)
      have hcA : cA = cI := by
        have g1 := (hK1.2 4 (cA, .int) rfl).2
        have g2 := (hK.2 0 (cI, .int) rfl).2
        exact Option.some.inj ((show s.vm.findClass _ = some cA from g1).symm.trans g2)
      subst hcA
      refine hk_mkW r hq0 (hk_shne TB.2.2.2.1 hsh (by decide)) ?_ hN hP1 hD1 hS1 (hk_vot hsv).2 (hnx _ _ _ hr)
      have e9 : (hk_nw h q0).1 q0 = fun _ => 0 := by
        funext z
        simp [hk_nw, hk_z]
      rw [hk_ce2 hsh, e9]
    · obtain ⟨q0, hsh, hq0, hr⟩ := hk_mk_eq hrun
      have hg := hgr _ _ _ hr
      have hN : hk_sl SH cls (hk_nw h q0).2.2.2 = hk_sl SH cls h.2.2.2 + i.toNatClampNeg := by
        rw [hk_sl_nw, hsh]
        rfl
      have hg1 := hk_ge_len hg
      have hg2 := hk_ge_sl (SH := SH) (cls := cls) hg
      rw [hN] at hg2
      have e2 : (hk_nw h q0).2.2.2.length = h.2.2.2.length + 1 := by simp [hk_nw]
      rw [e2] at hg1
      refine va_newa (D := D) (tys := hk_tys cI cZ cR cJ hn) (atype := .boolean) (ty := .boolean) (a0 := (i.toNatClampNeg, .inl (fun _ => 0))) hx hb (hts _ TB.2.2.2.2.2.2.1.2.1) rfl hK hP hD hS hA (fun cA => by rw [vp_cell_i] <;> rfl) hlt.1 rfl (by have h9 : componentBytes (.boolean) ≤ 8 := (by decide); have h8 := Nat.mul_le_mul hlt.2 h9; omega) (by omega) (by omega) hdg (fun q5 cA H1 hK1 hP1 hD1 hS1 => ?_)
      have hcA : cA = cZ := by
        have g1 := (hK1.2 4 (cA, .boolean) rfl).2
        have g2 := (hK.2 1 (cZ, .boolean) rfl).2
        exact Option.some.inj ((show s.vm.findClass _ = some cA from g1).symm.trans g2)
      subst hcA
      refine hk_mkW r hq0 (hk_shne TB.2.2.2.1 hsh (by decide)) ?_ hN hP1 hD1 hS1 (hk_vot hsv).2 (hnx _ _ _ hr)
      have e9 : (hk_nw h q0).1 q0 = fun _ => 0 := by
        funext z
        simp [hk_nw, hk_z]
      rw [hk_ce3 hsh, e9]
    · obtain ⟨q0, hsh, hq0, hr⟩ := hk_mk_eq hrun
      have hg := hgr _ _ _ hr
      have hN : hk_sl SH cls (hk_nw h q0).2.2.2 = hk_sl SH cls h.2.2.2 + i.toNatClampNeg := by
        rw [hk_sl_nw, hsh]
        rfl
      have hg1 := hk_ge_len hg
      have hg2 := hk_ge_sl (SH := SH) (cls := cls) hg
      rw [hN] at hg2
      have e2 : (hk_nw h q0).2.2.2.length = h.2.2.2.length + 1 := by simp [hk_nw]
      rw [e2] at hg1
      refine va_newa (D := D) (tys := hk_tys cI cZ cR cJ hn) (atype := .long) (ty := .long) (a0 := (i.toNatClampNeg, .inr (.inl (fun _ => 0)))) hx hb (hts _ TB.2.2.2.2.2.2.1.2.2.1) rfl hK hP hD hS hA (fun cA => by rw [vp_cell_l] <;> rfl) hlt.1 rfl (by have h9 : componentBytes (.long) ≤ 8 := (by decide); have h8 := Nat.mul_le_mul hlt.2 h9; omega) (by omega) (by omega) hdg (fun q5 cA H1 hK1 hP1 hD1 hS1 => ?_)
      have hcA : cA = cJ := by
        have g1 := (hK1.2 4 (cA, .long) rfl).2
        have g2 := (hK.2 3 (cJ, .long) rfl).2
        exact Option.some.inj ((show s.vm.findClass _ = some cA from g1).symm.trans g2)
      subst hcA
      refine hk_mkW r hq0 (hk_shne TB.2.2.2.1 hsh (by decide)) ?_ hN hP1 hD1 hS1 (hk_vot hsv).2 (hnx _ _ _ hr)
      have e9 : (hk_nw h q0).2.1 q0 = fun _ => 0 := by
        funext z
        simp [hk_nw, hk_z]
      rw [hk_ce5 hsh, e9]
    · cases hrun
  · cases hrun

set_option maxHeartbeats 1000000 in
theorem hk_z_anewarray {ini : Bool} {rk : Nat} (FX : hk_Fx SH ch cls kd wl mt hn sc p l R s m args meth c D cI cZ cR cJ A H0 b0 mx dd own cc scr cl ini) {pc len a b c1 d : Nat} {v : Int32} {w : Int64} {sw : List (Int32 × Nat)} {i0 : Nat} (hdg : decode cc pc = .ok (.anewarray i0, len)) (hck : hk_iok cls kd mt hn own ini rk mx pc (.anewarray i0) len a b c1 d v w sw = true) {nxr : hk_L → List Value → hk_H → hk_O} {jmr : Nat → hk_L → List Value → hk_H → hk_O} {qf : Option Value × hk_H} (hnx : ∀ L st h, nxr L st h = some qf → hk_K SH cls kd sc D cI cZ cR cJ A H0 b0 ad0 al0 mx n0 s0 p l e R s m args below meth c Q (pc + len) L st h) (hjm : ∀ t L st h, jmr t L st h = some qf → hk_K SH cls kd sc D cI cZ cR cJ A H0 b0 ad0 al0 mx n0 s0 p l e R s m args below meth c Q t L st h) (hgr : ∀ L st h, nxr L st h = some qf → hk_ge h qf.2) (hR3 : qf.2.2.2.2.length - n0 ≤ R.cells ∧ hk_sl SH cls qf.2.2.2.2 - s0 ≤ R.slots) {L : hk_L} {st : List Value} {h : hk_H} (hrun : hk_stp SH pb big none nxr jmr (fun P d k => @ite _ P d k none) (fun P d k0 k1 => @ite _ P d k0 k1) (fun y a h k => (cl y a h).bind (fun q => k q.1 q.2)) (fun r h => some (r, h)) scr ch (.anewarray i0) a c1 d v w sw L st h = some qf) : hk_K SH cls kd sc D cI cZ cR cJ A H0 b0 ad0 al0 mx n0 s0 p l e R s m args below meth c Q pc L st h := by
  obtain ⟨TB, hx, hb, hml, hown, hts, hK, hA, hin, hX, hcl, hge, hR1, hR2, hAO⟩ := id FX
  intro ad H locs ls r
  obtain ⟨hP, hD, hS, hwf, hlv, hlen, hsv, hLv, hadb, hn0, hs0⟩ := id r
  unfold hk_G
  have go : ∀ {st' : List Value}, nxr L st' h = some qf → (∀ v ∈ st', hk_vo sc h.2.2.2 v) → hk_G SH cls p l e R s m args below meth c Q n0 s0 ad h H locs (pc + len) ls st' := fun h1 h2 => hnx _ _ _ h1 _ _ _ _ (r.stk h2)
  have gj : ∀ {t : Nat} {st' : List Value}, jmr t L st' h = some qf → (∀ v ∈ st', hk_vo sc h.2.2.2 v) → hk_G SH cls p l e R s m args below meth c Q n0 s0 ad h H locs t ls st' := fun h1 h2 => hjm _ _ _ _ h1 _ _ _ _ (r.stk h2)
  unfold hk_G at go gj
  simp only [hk_iok, Bool.and_eq_true, decide_eq_true_eq] at hck
  simp only [hk_stp] at hrun
  obtain ⟨rfl, hw⟩ := hck
  unfold hk_newq at hrun
  split at hrun
  · next i r0 =>
    dsimp only at hrun
    split at hrun
    case isFalse => cases hrun
    rename_i hlt
    obtain ⟨q0, hsh, hq0, hr⟩ := hk_mk_eq hrun
    have hg := hgr _ _ _ hr
    have hN : hk_sl SH cls (hk_nw h q0).2.2.2 = hk_sl SH cls h.2.2.2 + i.toNatClampNeg := by
      rw [hk_sl_nw, hsh]
      rfl
    have hg1 := hk_ge_len hg
    have hg2 := hk_ge_sl (SH := SH) (cls := cls) hg
    rw [hN] at hg2
    have e2 : (hk_nw h q0).2.2.2.length = h.2.2.2.length + 1 := by simp [hk_nw]
    rw [e2] at hg1
    refine va_newq (D := D) (tys := hk_tys cI cZ cR cJ hn) hx hb hown (hts _ (TB.2.2.2.2.2.2.1.2.2.2 _ _ hw)) hAO.1 hK hP hD hS hA hlt.1 rfl (by omega) (by omega) (by omega) hdg (fun q5 cA H1 hK1 hP1 hD1 hS1 => ?_)
    have hcA : cA = cR := by
      obtain ⟨_, _, _, _, _, g1⟩ := (hK1.2 4 (cA, .object hn) rfl).2
      obtain ⟨_, _, _, _, _, g2⟩ := (hK.2 2 (cR, .object hn) rfl).2
      exact Option.some.inj (g1.symm.trans g2)
    subst hcA
    refine hk_mkW r hq0 (hk_shne TB.2.2.2.1 hsh (by decide)) ?_ hN hP1 hD1 hS1 (hk_vot hsv).2 (hnx _ _ _ hr)
    rw [hk_ce4 hsh]
    congr 7
    funext z
    simp [hk_nw, hk_z, hk_rf]
  · cases hrun

end HKJ4
end
section
/-! ===== calls and ends ===== -/
section HKJ5
variable {SH : Nat → hk_Sh} {pb big ch : Nat} {cls : List vw_C} {kd : Nat → Nat → Nat} {wl : List Jvm.Cond} {mt : Nat → Option hk_Q} {hn : String} {sc : Nat}
variable {p : Program} {l : Launch} {e : Env} {R : Room} {s : State} {m : MethodId} {args : Array Value} {below : List Frame} {meth : Method} {c : Code} {Q : State → Prop}
variable {D : va_G} {cI cZ cR cJ : ClassId} {A : Nat → Prop} {H0 : Heap} {b0 mx n0 s0 dd : Nat} {ad0 : Nat → Nat} {al0 : List Nat} {own : String} {cc : ByteArray} {scr : Option (Nat × (Nat → Int32))} {cl : Nat → List Value → hk_H → hk_O}
def hk_push (rr : Option Value) (r0 : List Value) : List Value := match rr with
  | none => r0
  | some v => v :: r0
/-- behind a call -/
theorem hk_backW {ini : Bool} (FX : hk_Fx SH ch cls kd wl mt hn sc p l R s m args meth c D cI cZ cR cJ A H0 b0 mx dd own cc scr cl ini) {ad : Nat → Nat} {h h2 : hk_H} {H : Heap} {locs : List Loc} {ls : Array Slot} {L : hk_L} {st r0 stv : List Value} {pc y : Nat} {a : List Value} {rr : Option Value} {q : hk_Q} {av : Array Value} (r : hk_R SH cls kd sc D cI cZ cR cJ A H0 b0 ad0 al0 mx n0 s0 ad h H locs ls L st) (hq : cl y a h = some (rr, h2)) (hmt : mt y = some q) (hva : ∀ v ∈ a, hk_vo sc h.2.2.2 v) (hr0 : ∀ v ∈ r0, hk_vo sc h.2.2.2 v)
    (hrn : va_Run p l e R s m args below meth c H locs (h.2.2.2.length - n0) (hk_sl SH cls h.2.2.2 - s0) (h2.2.2.2.length - h.2.2.2.length) (hk_sl SH cls h2.2.2.2 - hk_sl SH cls h.2.2.2) (F0 m pc ls stv) (r0.map (hk_tv ad)) (hk_Qc SH cls kd hn sc D cI cZ cR cJ ad H.size h h2 rr av) (va_A (hk_ws SH cls kd cI cZ cR cJ ad h) H.size))
    (kk : hk_K SH cls kd sc D cI cZ cR cJ A H0 b0 ad0 al0 mx n0 s0 p l e R s m args below meth c Q (pc + 3) L (hk_push rr r0) h2) :
    W p l e R s m args below meth c H locs (h.2.2.2.length - n0) (hk_sl SH cls h.2.2.2 - s0) Q (F0 m pc ls stv) := by
  obtain ⟨TB, hx, hb, hml, hown, hts, hK, hA, hin, hX, hcl, hge, hR1, hR2, hAO⟩ := id FX
  obtain ⟨hP, hD, hS, hwf, hlv, hlen, hsv, hLv, hadb, hn0, hs0⟩ := id r
  have hg : hk_ge h h2 := hge _ _ _ _ hq
  have hg1 := hk_ge_len hg
  have hg2 := hk_ge_sl (SH := SH) (cls := cls) hg
  have hA1 : ∀ z, va_A (hk_ws SH cls kd cI cZ cR cJ ad h) H.size z → A z := by
    rintro z (⟨k, e, he⟩ | hz)
    · exact hD.2 _ _ he
    · exact hA z (Nat.le_trans hS.1 hz)
  have go : ∀ (u : Nat → Nat) (t : State) (H1 : Heap) (locs1 : List Loc), t.heap = H1 → hk_ag sc ad u h.2.2.2 → hk_wf h2 → hk_B SH cls kd hn D cI cZ cR cJ h2 (va_A (hk_ws SH cls kd cI cZ cR cJ ad h) H.size) u t → va_S A H0 H1 locs1 → (∀ v ∈ (hk_push rr r0), hk_vo sc h2.2.2.2 v) → W p l e R s m args below meth c H1 locs1 (h.2.2.2.length - n0 + (h2.2.2.2.length - h.2.2.2.length)) (hk_sl SH cls h.2.2.2 - s0 + (hk_sl SH cls h2.2.2.2 - hk_sl SH cls h.2.2.2)) Q (F0 m (pc + 3) ls ((hk_push rr r0).map (hk_tv u))) := by
    intro u t H1 locs1 ht hu hwf2 hB hS1 hv
    obtain ⟨b1, b2, b3⟩ := hB
    rw [ht] at b1
    have g := kk u H1 locs1 ls ⟨b1, b3.weaken (fun _ z _ hz => hA1 _ hz), hS1, hwf2, by rw [hk_pl_congr hu hLv]; exact hlv, hlen, hv, fun v h1 => hk_vo_ge hg (hLv v h1), ⟨(hu sc (Or.inr rfl)).trans hadb.1, fun z hz => (hu z (hz.elim (fun h1 => Or.inl (hadb.2.2 z h1)) Or.inr)).trans (hadb.2.1 z hz), fun z hz => hk_mem_ge hg (hadb.2.2 z hz)⟩, Nat.le_trans hn0 hg1, Nat.le_trans hs0 hg2⟩
    unfold hk_G at g
    exact W.cs (by omega) (by omega) g
  have hno : (∀ x y z w, ¬ hk_Qc SH cls kd hn sc D cI cZ cR cJ ad H.size h h2 rr x y z w) → W p l e R s m args below meth c H locs (h.2.2.2.length - n0) (hk_sl SH cls h.2.2.2 - s0) Q (F0 m pc ls stv) := fun hf => by
    intro T hT X
    obtain ⟨v, st0, t, T', L', -, -, -, -, -, hqa, -⟩ := hrn T hT X
    exact absurd hqa (hf _ _ _ _)
  rcases rr with _ | v
  rotate_left
  cases v
  case float => exact hno fun _ _ _ _ h => h
  case double => exact hno fun _ _ _ _ h => h
  case null => exact hno fun _ _ _ _ h => h
  case ref => exact hno fun _ _ _ _ h => h
  case retAddr => exact hno fun _ _ _ _ h => h
  rotate_left
  rotate_left
  · refine va_callv (a := av) hrn hS (fun z _ h1 => hA1 z h1) hA1 (fun u t H1 locs1 ht hvm hw hB hz1 hk1 hS1 => ?_)
    have g := go u t H1 locs1 ht hw.1 hw.2 hB hS1 (fun v h1 => hk_vo_ge hg (hr0 v h1))
    unfold hk_push at g
    dsimp only at g
    rw [hk_map_congr hw.1 hr0] at g
    exact g
  · rename_i x
    refine va_calli (a := av) hrn hS (fun z _ h1 => hA1 z h1) hA1 (fun y u t H1 locs1 ht hvm hw hB hz1 hk1 hS1 => ?_)
    obtain ⟨rfl, hw⟩ := hw
    have g := go u t H1 locs1 ht hw.1 hw.2 hB hS1 (hk_voc trivial (fun v h1 => hk_vo_ge hg (hr0 v h1)))
    unfold hk_push at g
    dsimp only at g
    rw [List.map_cons, hk_map_congr hw.1 hr0] at g
    exact g
  · rename_i x
    refine va_calll (a := av) hrn hS (fun z _ h1 => hA1 z h1) hA1 (fun y u t H1 locs1 ht hvm hw hB hz1 hk1 hS1 => ?_)
    obtain ⟨rfl, hw⟩ := hw
    have g := go u t H1 locs1 ht hw.1 hw.2 hB hS1 (hk_voc trivial (fun v h1 => hk_vo_ge hg (hr0 v h1)))
    unfold hk_push at g
    dsimp only at g
    rw [List.map_cons, hk_map_congr hw.1 hr0] at g
    exact g
set_option maxRecDepth 100000 in
theorem hk_roomL {m d r : Nat} (h : m ≤ 40) (h2 : 64 * d + 1064 ≤ r) : 8 + (m + 11) + (64 * d + 1000) ≤ r := by omega
theorem hk_good {wl : List Jvm.Cond} (h : ∀ w ∈ wl, goodWord w = true) {ws : List Jvm.Cond} (hs : ∀ w ∈ ws, w ∈ wl) : GoodIn wl ws := fun w hw => ⟨hs w hw, good_of_word (h w (hs w hw))⟩
theorem hk_mw_in {q : hk_Q} (h : Jvm.Cond.code q.1 q.2.1 q.2.2.1 q.2.2.2.1 ∈ wl) : ∀ w ∈ hk_mw wl q, w ∈ wl := fun w hw => by
  rcases List.mem_cons.mp hw with rfl | h1
  · exact h
  · exact h1
theorem hk_inv_eq {nxr : hk_L → List Value → hk_H → hk_O} {a c d : Nat} {L : hk_L} {st : List Value} {h : hk_H} {qf : Option Value × hk_H} (he : hk_inv SH none nxr (fun y a h k => (cl y a h).bind (fun q => k q.1 q.2)) a c d L st h = some qf) : ∃ (av r0 : List Value) (rr : Option Value) (h2 : hk_H), st = av.reverse ++ r0 ∧ av.length = c ∧ hk_cat r0 ≤ 8 ∧ (∀ ci, d = ci + 1 → ∃ p0 As, av = .ref p0 :: As ∧ SH p0 = (1, ci)) ∧ cl a av h = some (rr, h2) ∧ nxr L (hk_push rr r0) h2 = some qf := by
  unfold hk_inv at he
  split at he
  · next hc =>
    simp only [Bool.and_eq_true] at hc
    obtain ⟨⟨h1, h2⟩, h3⟩ := hc
    have h1 := Nat.le_of_ble_eq_true h1
    have h2 := Nat.le_of_ble_eq_true h2
    cases hq : cl a (st.take c).reverse h with
    | none => dsimp only at he; rw [hq] at he; cases he
    | some x =>
      obtain ⟨rr, h2'⟩ := x
      dsimp only at he
      rw [hq] at he
      refine ⟨(st.take c).reverse, st.drop c, rr, h2', by rw [List.reverse_reverse, List.take_append_drop], by rw [List.length_reverse, List.length_take]; omega, h2, fun ci hd => ?_, hq, ?_⟩
      · subst hd
        simp only at h3
        split at h3
        · next p0 As hA => exact ⟨p0, As, hA, hk_is_eq h3⟩
        · cases h3
      · cases rr <;> exact he
  · cases he

set_option maxHeartbeats 1000000 in
theorem hk_z_invokevirtual {ini : Bool} {rk : Nat} (FX : hk_Fx SH ch cls kd wl mt hn sc p l R s m args meth c D cI cZ cR cJ A H0 b0 mx dd own cc scr cl ini) {pc len a b c1 d : Nat} {v : Int32} {w : Int64} {sw : List (Int32 × Nat)} {i : Nat} (hdg : decode cc pc = .ok (.invokevirtual i, len)) (hck : hk_iok cls kd mt hn own ini rk mx pc (.invokevirtual i) len a b c1 d v w sw = true) {nxr : hk_L → List Value → hk_H → hk_O} {jmr : Nat → hk_L → List Value → hk_H → hk_O} {qf : Option Value × hk_H} (hnx : ∀ L st h, nxr L st h = some qf → hk_K SH cls kd sc D cI cZ cR cJ A H0 b0 ad0 al0 mx n0 s0 p l e R s m args below meth c Q (pc + len) L st h) (hjm : ∀ t L st h, jmr t L st h = some qf → hk_K SH cls kd sc D cI cZ cR cJ A H0 b0 ad0 al0 mx n0 s0 p l e R s m args below meth c Q t L st h) (hgr : ∀ L st h, nxr L st h = some qf → hk_ge h qf.2) (hR3 : qf.2.2.2.2.length - n0 ≤ R.cells ∧ hk_sl SH cls qf.2.2.2.2 - s0 ≤ R.slots) {L : hk_L} {st : List Value} {h : hk_H} (hrun : hk_stp SH pb big none nxr jmr (fun P d k => @ite _ P d k none) (fun P d k0 k1 => @ite _ P d k0 k1) (fun y a h k => (cl y a h).bind (fun q => k q.1 q.2)) (fun r h => some (r, h)) scr ch (.invokevirtual i) a c1 d v w sw L st h = some qf) : hk_K SH cls kd sc D cI cZ cR cJ A H0 b0 ad0 al0 mx n0 s0 p l e R s m args below meth c Q pc L st h := by
  obtain ⟨TB, hx, hb, hml, hown, hts, hK, hA, hin, hX, hcl, hge, hR1, hR2, hAO⟩ := id FX
  intro ad H locs ls r
  obtain ⟨hP, hD, hS, hwf, hlv, hlen, hsv, hLv, hadb, hn0, hs0⟩ := id r
  unfold hk_G
  have go : ∀ {st' : List Value}, nxr L st' h = some qf → (∀ v ∈ st', hk_vo sc h.2.2.2 v) → hk_G SH cls p l e R s m args below meth c Q n0 s0 ad h H locs (pc + len) ls st' := fun h1 h2 => hnx _ _ _ h1 _ _ _ _ (r.stk h2)
  have gj : ∀ {t : Nat} {st' : List Value}, jmr t L st' h = some qf → (∀ v ∈ st', hk_vo sc h.2.2.2 v) → hk_G SH cls p l e R s m args below meth c Q n0 s0 ad h H locs t ls st' := fun h1 h2 => hjm _ _ _ _ h1 _ _ _ _ (r.stk h2)
  unfold hk_G at go gj
  simp only [hk_iok, Bool.and_eq_true, decide_eq_true_eq] at hck
  simp only [hk_stp] at hrun
  obtain ⟨hck, rfl⟩ := hck
  unfold hk_call1 at hrun
  split at hrun
  · cases hrun
  · simp only [hk_cok, Bool.and_eq_true, decide_eq_true_eq] at hck
    exact absurd hck.1 (by decide)
  · simp only [hk_cok, Bool.and_eq_true, decide_eq_true_eq] at hck
    exact absurd hck.1 (by decide)
  · simp only [hk_cok, Bool.and_eq_true, decide_eq_true_eq] at hck
    exact absurd hck.1 (by decide)
  · simp only [hk_cok, Bool.and_eq_true, decide_eq_true_eq] at hck
    exact absurd hck.1 (by decide)
  · simp only [hk_cok, Bool.and_eq_true, decide_eq_true_eq] at hck
    exact absurd hck.1 (by decide)
  · simp only [hk_cok, Bool.and_eq_true, decide_eq_true_eq] at hck
    exact absurd hck.1 (by decide)
  · next y =>
    obtain ⟨av, r0, rr, h2, hst, havl, hcat, hrecv, hq, hr⟩ := hk_inv_eq hrun
    simp only [hk_cok] at hck
    split at hck
    · cases hck
    next q hmt =>
    simp only [Bool.and_eq_true, Bool.or_eq_true, decide_eq_true_eq] at hck
    have hMo := TB.2.2.2.2.2.2.2.2.2 _ _ hmt
    obtain ⟨m1, m2, m3, m4, m5, m6, m7, m8, m9, m10, -, -, -⟩ := hMo
    have hva : ∀ v ∈ av, hk_vo sc h.2.2.2 v := fun v hv => hsv v (by rw [hst]; exact List.mem_append_left _ (List.mem_reverse.mpr hv))
    have hr0 : ∀ v ∈ r0, hk_vo sc h.2.2.2 v := fun v hv => hsv v (by rw [hst]; exact List.mem_append_right _ hv)
    obtain ⟨hal, hMet⟩ := hcl _ _ _ _ _ hq q hmt hwf hva
    have hM := hMet D cI cZ cR cJ ad H.size
    have hg : hk_ge h h2 := hge _ _ _ _ hq
    have hg1 := hk_ge_len hg
    have hg2 := hk_ge_sl (SH := SH) (cls := cls) hg
    have hgg := hgr _ _ _ hr
    have hg3 := hk_ge_len hgg
    have hg4 := hk_ge_sl (SH := SH) (cls := cls) hgg
    have hgw := TB.2.2.2.2.2.1
    have hroom : (hk_rm SH cls dd h h2).frames + 1 ≤ R.frames ∧ 8 + (q.2.2.1 + 11) + (hk_rm SH cls dd h h2).locals ≤ R.locals := ⟨hR1, hk_roomL m8 hR2⟩
    have hf : h.2.2.2.length - n0 + (h2.2.2.2.length - h.2.2.2.length) ≤ R.cells ∧ hk_sl SH cls h.2.2.2 - s0 + (hk_sl SH cls h2.2.2.2 - hk_sl SH cls h.2.2.2) ≤ R.slots := ⟨by omega, by omega⟩
    have hcat2 : ((r0.map (hk_tv ad)).map fun v => v.category).sum ≤ 8 := by rw [hk_cat_map]; exact hcat
    have hpre : ∀ U : State, U.heap = H → s.WarmedH U.vm → hk_Pc SH cls kd hn D cI cZ cR cJ ad H.size av h (av.map (hk_tv ad)).toArray U := fun U hU hW => ⟨rfl, by rw [hU], by rw [hU]; exact hP, va_K.moved hW.alike hK, hD.weaken (fun _ _ _ _ => trivial), hAO.warm hW⟩
    obtain ⟨hc1, ⟨hw, hk0⟩, hd⟩ := hck
    split at hd
    · cases hd
    next ci =>
    split at hd
    · cases hd
    next rc hrc =>
    have hd := of_decide_eq_true hd
    obtain ⟨p0, As, rfl, hsh⟩ := hrecv ci rfl
    have hal2 := hk_aliv TB.2.2.2.1 (hva _ List.mem_cons_self) hsh (by decide)
    obtain ⟨k, hk1, hk2⟩ := hk_ws_at (SH := SH) (cls := cls) (kd := kd) (cI := cI) (cZ := cZ) (cR := cR) (cJ := cJ) (ad := ad) hal2
    rw [hk_ce1 hsh] at hk2
    obtain ⟨i1, i2, i3⟩ := m5 hk0
    have hstk : st.map (hk_tv ad) = (As.map (hk_tv ad)).reverse ++ .ref (ad p0) :: r0.map (hk_tv ad) := by
      rw [hst]
      simp [hk_tv]
    rw [hstk]
    have hG : GoodIn wl (wsV own i rc.1 q.1 (hk_mw wl q)) := hk_good hgw fun w hw1 => by
      unfold wsV at hw1
      rcases List.mem_append.mp hw1 with h1 | h1
      · simp only [List.mem_cons, List.not_mem_nil, or_false] at h1
        rcases h1 with rfl | rfl | rfl | rfl
        · exact TB.2.2.2.2.2.2.1.2.2.2 _ _ hw
        · exact i1
        · rw [hd]; exact i2
        · rw [hd]; exact m4
      · exact hk_mw_in m3 w h1
    have hlenA : As.length = q.2.2.2.2.1.1 - 1 := by
      have := havl
      simp at this
      omega
    have hm9 : (parseMethodDescriptor q.1.desc).map (fun d => d.parameters.length) = some (q.2.2.2.2.1.1 - 1) := by
      rw [m9, hk0]
      rfl
    exact hk_backW FX r hq hmt hva hr0 (va_runV (As := As.map (hk_tv ad)) (rest := r0.map (hk_tv ad)) ⟨hx, hb, hml, hown, hts⟩ hM (cwV (q.2.2.2.2.1.1 - 1) hts hG rfl rfl rfl ⟨hd.symm, m2.1, m2.2, hm9⟩ hroom) ⟨hk_Pc_blind, va_recv hK hP hrc hk2, hpre⟩ rfl (by rw [List.length_map]; exact hlenA) hlv.1 rfl (lv_room hcat2) hdg hf) (hnx _ _ _ hr)

set_option maxHeartbeats 1000000 in
theorem hk_z_invokespecial {ini : Bool} {rk : Nat} (FX : hk_Fx SH ch cls kd wl mt hn sc p l R s m args meth c D cI cZ cR cJ A H0 b0 mx dd own cc scr cl ini) {pc len a b c1 d : Nat} {v : Int32} {w : Int64} {sw : List (Int32 × Nat)} {i : Nat} (hdg : decode cc pc = .ok (.invokespecial i, len)) (hck : hk_iok cls kd mt hn own ini rk mx pc (.invokespecial i) len a b c1 d v w sw = true) {nxr : hk_L → List Value → hk_H → hk_O} {jmr : Nat → hk_L → List Value → hk_H → hk_O} {qf : Option Value × hk_H} (hnx : ∀ L st h, nxr L st h = some qf → hk_K SH cls kd sc D cI cZ cR cJ A H0 b0 ad0 al0 mx n0 s0 p l e R s m args below meth c Q (pc + len) L st h) (hjm : ∀ t L st h, jmr t L st h = some qf → hk_K SH cls kd sc D cI cZ cR cJ A H0 b0 ad0 al0 mx n0 s0 p l e R s m args below meth c Q t L st h) (hgr : ∀ L st h, nxr L st h = some qf → hk_ge h qf.2) (hR3 : qf.2.2.2.2.length - n0 ≤ R.cells ∧ hk_sl SH cls qf.2.2.2.2 - s0 ≤ R.slots) {L : hk_L} {st : List Value} {h : hk_H} (hrun : hk_stp SH pb big none nxr jmr (fun P d k => @ite _ P d k none) (fun P d k0 k1 => @ite _ P d k0 k1) (fun y a h k => (cl y a h).bind (fun q => k q.1 q.2)) (fun r h => some (r, h)) scr ch (.invokespecial i) a c1 d v w sw L st h = some qf) : hk_K SH cls kd sc D cI cZ cR cJ A H0 b0 ad0 al0 mx n0 s0 p l e R s m args below meth c Q pc L st h := by
  obtain ⟨TB, hx, hb, hml, hown, hts, hK, hA, hin, hX, hcl, hge, hR1, hR2, hAO⟩ := id FX
  intro ad H locs ls r
  obtain ⟨hP, hD, hS, hwf, hlv, hlen, hsv, hLv, hadb, hn0, hs0⟩ := id r
  unfold hk_G
  have go : ∀ {st' : List Value}, nxr L st' h = some qf → (∀ v ∈ st', hk_vo sc h.2.2.2 v) → hk_G SH cls p l e R s m args below meth c Q n0 s0 ad h H locs (pc + len) ls st' := fun h1 h2 => hnx _ _ _ h1 _ _ _ _ (r.stk h2)
  have gj : ∀ {t : Nat} {st' : List Value}, jmr t L st' h = some qf → (∀ v ∈ st', hk_vo sc h.2.2.2 v) → hk_G SH cls p l e R s m args below meth c Q n0 s0 ad h H locs t ls st' := fun h1 h2 => hjm _ _ _ _ h1 _ _ _ _ (r.stk h2)
  unfold hk_G at go gj
  simp only [hk_iok, Bool.and_eq_true, decide_eq_true_eq] at hck
  simp only [hk_stp] at hrun
  obtain ⟨hck, rfl⟩ := hck
  unfold hk_call1 at hrun
  split at hrun
  · cases hrun
  · split at hrun
    · next q0 r0 =>
      split at hrun
      · next hcat =>
        simp only [hk_cok, Bool.and_eq_true, decide_eq_true_eq] at hck
        have hcat := Nat.le_of_ble_eq_true hcat
        have hcat2 : ((r0.map (hk_tv ad)).map fun v => v.category).sum ≤ 8 := by rw [hk_cat_map]; exact hcat
        refine W.objInit hx hb hown (hts _ (TB.2.2.2.2.2.2.1.2.2.2 _ _ hck.2)) (hts _ TB.2.2.2.2.2.2.2.1.1) (hts _ TB.2.2.2.2.2.2.2.1.2.1) (a := ad q0) (rest := r0.map (hk_tv ad)) rfl (by show ls.size = _; rw [hml]; exact hlv.1) rfl hdg (by omega) ?_ (go hrun (hk_vot hsv).2)
        show 2 * 0 + _ + 12 ≤ R.locals
        omega
      · cases hrun
    · cases hrun
  · simp only [hk_cok, Bool.and_eq_true, decide_eq_true_eq] at hck
    exact absurd hck.1 (by decide)
  · simp only [hk_cok, Bool.and_eq_true, decide_eq_true_eq] at hck
    exact absurd hck.1 (by decide)
  · simp only [hk_cok, Bool.and_eq_true, decide_eq_true_eq] at hck
    exact absurd hck.1 (by decide)
  · simp only [hk_cok, Bool.and_eq_true, decide_eq_true_eq] at hck
    exact absurd hck.1 (by decide)
  · simp only [hk_cok, Bool.and_eq_true, decide_eq_true_eq] at hck
    exact absurd hck.1 (by decide)
  · next y =>
    obtain ⟨av, r0, rr, h2, hst, havl, hcat, hrecv, hq, hr⟩ := hk_inv_eq hrun
    simp only [hk_cok] at hck
    split at hck
    · cases hck
    next q hmt =>
    simp only [Bool.and_eq_true, Bool.or_eq_true, decide_eq_true_eq] at hck
    have hMo := TB.2.2.2.2.2.2.2.2.2 _ _ hmt
    obtain ⟨m1, m2, m3, m4, m5, m6, m7, m8, m9, m10, -, -, -⟩ := hMo
    have hva : ∀ v ∈ av, hk_vo sc h.2.2.2 v := fun v hv => hsv v (by rw [hst]; exact List.mem_append_left _ (List.mem_reverse.mpr hv))
    have hr0 : ∀ v ∈ r0, hk_vo sc h.2.2.2 v := fun v hv => hsv v (by rw [hst]; exact List.mem_append_right _ hv)
    obtain ⟨hal, hMet⟩ := hcl _ _ _ _ _ hq q hmt hwf hva
    have hM := hMet D cI cZ cR cJ ad H.size
    have hg : hk_ge h h2 := hge _ _ _ _ hq
    have hg1 := hk_ge_len hg
    have hg2 := hk_ge_sl (SH := SH) (cls := cls) hg
    have hgg := hgr _ _ _ hr
    have hg3 := hk_ge_len hgg
    have hg4 := hk_ge_sl (SH := SH) (cls := cls) hgg
    have hgw := TB.2.2.2.2.2.1
    have hroom : (hk_rm SH cls dd h h2).frames + 1 ≤ R.frames ∧ 8 + (q.2.2.1 + 11) + (hk_rm SH cls dd h h2).locals ≤ R.locals := ⟨hR1, hk_roomL m8 hR2⟩
    have hf : h.2.2.2.length - n0 + (h2.2.2.2.length - h.2.2.2.length) ≤ R.cells ∧ hk_sl SH cls h.2.2.2 - s0 + (hk_sl SH cls h2.2.2.2 - hk_sl SH cls h.2.2.2) ≤ R.slots := ⟨by omega, by omega⟩
    have hcat2 : ((r0.map (hk_tv ad)).map fun v => v.category).sum ≤ 8 := by rw [hk_cat_map]; exact hcat
    have hpre : ∀ U : State, U.heap = H → s.WarmedH U.vm → hk_Pc SH cls kd hn D cI cZ cR cJ ad H.size av h (av.map (hk_tv ad)).toArray U := fun U hU hW => ⟨rfl, by rw [hU], by rw [hU]; exact hP, va_K.moved hW.alike hK, hD.weaken (fun _ _ _ _ => trivial), hAO.warm hW⟩
    obtain ⟨hc1, ⟨⟨hw, hk0⟩, hd1⟩, hd0⟩ := hck
    obtain ⟨ci, rfl⟩ : ∃ ci, d = ci + 1 := ⟨d - 1, by omega⟩
    obtain ⟨p0, As, rfl, hsh⟩ := hrecv ci rfl
    obtain ⟨i1, i2, i3, i4⟩ := m6 hk0
    have hstk : st.map (hk_tv ad) = (As.map (hk_tv ad)).reverse ++ .ref (ad p0) :: r0.map (hk_tv ad) := by
      rw [hst]
      simp [hk_tv]
    rw [hstk]
    have hlenA : As.length = q.2.2.2.2.1.1 - 1 := by
      have := havl
      simp at this
      omega
    have hm9 : (parseMethodDescriptor q.1.desc).map (fun d => d.parameters.length) = some (q.2.2.2.2.1.1 - 1) := by
      rw [m9, hk0]
      rfl
    have hMW : hk_mw wl q = Cond.code q.1 q.2.1 q.2.2.1 none :: wl := by unfold hk_mw; rw [i3]
    exact hk_backW FX r hq hmt hva hr0 (va_runI (As := As.map (hk_tv ad)) (rest := r0.map (hk_tv ad)) ⟨hx, hb, hml, hown, hts⟩ hM (cwI (q.2.2.2.2.1.1 - 1) hts (hk_good hgw (hk_mw_in m3)) hMW rfl rfl (hts _ m4) (hts _ (TB.2.2.2.2.2.2.1.2.2.2 _ _ hw)) (hts _ i2) i1 ⟨m2.1, m2.2, hm9⟩ hroom) ⟨hk_Pc_blind, hpre⟩ rfl (by rw [List.length_map]; exact hlenA) hlv.1 rfl (lv_room hcat2) hdg hf) (hnx _ _ _ hr)

set_option maxHeartbeats 1000000 in
theorem hk_z_invokestatic {ini : Bool} {rk : Nat} (FX : hk_Fx SH ch cls kd wl mt hn sc p l R s m args meth c D cI cZ cR cJ A H0 b0 mx dd own cc scr cl ini) {pc len a b c1 d : Nat} {v : Int32} {w : Int64} {sw : List (Int32 × Nat)} {i : Nat} (hdg : decode cc pc = .ok (.invokestatic i, len)) (hck : hk_iok cls kd mt hn own ini rk mx pc (.invokestatic i) len a b c1 d v w sw = true) {nxr : hk_L → List Value → hk_H → hk_O} {jmr : Nat → hk_L → List Value → hk_H → hk_O} {qf : Option Value × hk_H} (hnx : ∀ L st h, nxr L st h = some qf → hk_K SH cls kd sc D cI cZ cR cJ A H0 b0 ad0 al0 mx n0 s0 p l e R s m args below meth c Q (pc + len) L st h) (hjm : ∀ t L st h, jmr t L st h = some qf → hk_K SH cls kd sc D cI cZ cR cJ A H0 b0 ad0 al0 mx n0 s0 p l e R s m args below meth c Q t L st h) (hgr : ∀ L st h, nxr L st h = some qf → hk_ge h qf.2) (hR3 : qf.2.2.2.2.length - n0 ≤ R.cells ∧ hk_sl SH cls qf.2.2.2.2 - s0 ≤ R.slots) {L : hk_L} {st : List Value} {h : hk_H} (hrun : hk_stp SH pb big none nxr jmr (fun P d k => @ite _ P d k none) (fun P d k0 k1 => @ite _ P d k0 k1) (fun y a h k => (cl y a h).bind (fun q => k q.1 q.2)) (fun r h => some (r, h)) scr ch (.invokestatic i) a c1 d v w sw L st h = some qf) : hk_K SH cls kd sc D cI cZ cR cJ A H0 b0 ad0 al0 mx n0 s0 p l e R s m args below meth c Q pc L st h := by
  obtain ⟨TB, hx, hb, hml, hown, hts, hK, hA, hin, hX, hcl, hge, hR1, hR2, hAO⟩ := id FX
  intro ad H locs ls r
  obtain ⟨hP, hD, hS, hwf, hlv, hlen, hsv, hLv, hadb, hn0, hs0⟩ := id r
  unfold hk_G
  have go : ∀ {st' : List Value}, nxr L st' h = some qf → (∀ v ∈ st', hk_vo sc h.2.2.2 v) → hk_G SH cls p l e R s m args below meth c Q n0 s0 ad h H locs (pc + len) ls st' := fun h1 h2 => hnx _ _ _ h1 _ _ _ _ (r.stk h2)
  have gj : ∀ {t : Nat} {st' : List Value}, jmr t L st' h = some qf → (∀ v ∈ st', hk_vo sc h.2.2.2 v) → hk_G SH cls p l e R s m args below meth c Q n0 s0 ad h H locs t ls st' := fun h1 h2 => hjm _ _ _ _ h1 _ _ _ _ (r.stk h2)
  unfold hk_G at go gj
  simp only [hk_iok, Bool.and_eq_true, decide_eq_true_eq] at hck
  simp only [hk_stp] at hrun
  obtain ⟨hck, rfl⟩ := hck
  unfold hk_call1 at hrun
  split at hrun
  · cases hrun
  · simp only [hk_cok, Bool.and_eq_true, decide_eq_true_eq] at hck
    exact absurd hck.1 (by decide)
  · unfold hk_acp at hrun
    split at hrun
    · next n dp q1 sp q0 r0 =>
      split at hrun
      · next n0' n1' hsh0 hsh1 =>
        split at hrun
        · next hcat =>
          dsimp only at hrun
          split at hrun
          · next hcond =>
            obtain ⟨g1, g2, g3, g4, g5⟩ := hcond
            obtain ⟨w1, w2, v3⟩ := hk_vo2 hsv
            obtain ⟨w4, w5, v6⟩ := hk_vo2 v3
            obtain ⟨w7, w8⟩ := hk_vot v6
            have hal0 := hk_aliv TB.2.2.2.1 w7 hsh0 (by decide)
            have hal1 := hk_aliv TB.2.2.2.1 w4 hsh1 (by decide)
            obtain ⟨k0, ha1, ha2⟩ := hk_ws_at (SH := SH) (cls := cls) (kd := kd) (cI := cI) (cZ := cZ) (cR := cR) (cJ := cJ) (ad := ad) hal0
            obtain ⟨k1, hb1, hb2⟩ := hk_ws_at (SH := SH) (cls := cls) (kd := kd) (cI := cI) (cZ := cZ) (cR := cR) (cJ := cJ) (ad := ad) hal1
            rw [hk_ce2 hsh0] at ha2
            rw [hk_ce2 hsh1] at hb2
            simp only [hk_cok, Bool.and_eq_true, decide_eq_true_eq] at hck
            have hcat := Nat.le_of_ble_eq_true hcat
            have hcat2 : ((r0.map (hk_tv ad)).map fun v => v.category).sum ≤ 8 := by rw [hk_cat_map]; exact hcat
            have hnfw : nativeFrameWords "java/lang/System" "arraycopy" 5 ≤ 900 := by decide +kernel
            exact va_copyi (D := D) (tys := hk_tys cI cZ cR cJ hn) hx hb (by rw [hml]; exact hlv.1.symm) hown (hts _ (TB.2.2.2.2.2.2.1.2.2.2 _ _ hck.2)) (hts _ TB.2.2.2.2.2.2.2.2.1.1) (hts _ TB.2.2.2.2.2.2.2.2.1.2.1) (hts _ TB.2.2.2.2.2.2.2.2.1.2.2) hK hP hD hS k0 k1 0 0 ha2 hb2 rfl rfl rfl g1 g2 g3 g4 g5 (fun _ _ => rfl) (by omega) (by omega) hdg (fun H1 locs1 hP1 hD1 hS1 => hnx _ _ _ hrun _ _ _ _ (r.wr (h' := (hk_cp h.1 q0 q1 sp.toNatClampNeg dp.toNatClampNeg n.toNatClampNeg, h.2)) hb1 (by rw [hk_ce2 hsh1]; simp [hk_cp]) rfl (fun z hz => ⟨by simp [hk_cp, hz], rfl, rfl⟩) hwf hP1 hD1 hS1 w8))
          · cases hrun
        · cases hrun
      · cases hrun
    · cases hrun
  · unfold hk_mi at hrun
    split at hrun
    · next y x r0 =>
      split at hrun
      · next hcat =>
        have hcat := Nat.le_of_ble_eq_true hcat
        have hcat2 : ((r0.map (hk_tv ad)).map fun v => v.category).sum ≤ 8 := by rw [hk_cat_map]; exact hcat
        simp only [hk_cok, Bool.and_eq_true, decide_eq_true_eq] at hck
        have hgg := hgr _ _ _ hrun
        have hg3 := hk_ge_len hgg
        have hg4 := hk_ge_sl (SH := SH) (cls := cls) hgg
        obtain ⟨w0, ws⟩ := TB.2.2.2.2.2.2.2.1.2.2
        exact va_mmax hx hb (by rw [hml]; exact hlv.1.symm) hown (hts _ (TB.2.2.2.2.2.2.1.2.2.2 _ _ hck.2)) (hts _ (TB.2.2.2.2.2.2.2.1.2.2.2.1.1)) (hts _ w0) (hts _ (TB.2.2.2.2.2.2.2.1.2.2.2.1.2)) (by omega) (by omega) (by omega) (by omega) hdg (go hrun (hk_voc trivial (hk_vo2 hsv).2.2))
      · cases hrun
    · cases hrun
  · unfold hk_mi at hrun
    split at hrun
    · next y x r0 =>
      split at hrun
      · next hcat =>
        have hcat := Nat.le_of_ble_eq_true hcat
        have hcat2 : ((r0.map (hk_tv ad)).map fun v => v.category).sum ≤ 8 := by rw [hk_cat_map]; exact hcat
        simp only [hk_cok, Bool.and_eq_true, decide_eq_true_eq] at hck
        have hgg := hgr _ _ _ hrun
        have hg3 := hk_ge_len hgg
        have hg4 := hk_ge_sl (SH := SH) (cls := cls) hgg
        obtain ⟨w0, ws⟩ := TB.2.2.2.2.2.2.2.1.2.2
        exact va_mmin hx hb (by rw [hml]; exact hlv.1.symm) hown (hts _ (TB.2.2.2.2.2.2.1.2.2.2 _ _ hck.2)) (hts _ (TB.2.2.2.2.2.2.2.1.2.2.2.2.1.1)) (hts _ w0) (hts _ (TB.2.2.2.2.2.2.2.1.2.2.2.2.1.2)) (by omega) (by omega) (by omega) (by omega) hdg (go hrun (hk_voc trivial (hk_vo2 hsv).2.2))
      · cases hrun
    · cases hrun
  · unfold hk_mj at hrun
    split at hrun
    · next y x r0 =>
      split at hrun
      · next hcat =>
        have hcat := Nat.le_of_ble_eq_true hcat
        have hcat2 : ((r0.map (hk_tv ad)).map fun v => v.category).sum ≤ 8 := by rw [hk_cat_map]; exact hcat
        simp only [hk_cok, Bool.and_eq_true, decide_eq_true_eq] at hck
        have hgg := hgr _ _ _ hrun
        have hg3 := hk_ge_len hgg
        have hg4 := hk_ge_sl (SH := SH) (cls := cls) hgg
        obtain ⟨w0, ws⟩ := TB.2.2.2.2.2.2.2.1.2.2
        exact va_mmax_long hx hb (by rw [hml]; exact hlv.1.symm) hown (hts _ (TB.2.2.2.2.2.2.1.2.2.2 _ _ hck.2)) (hts _ (TB.2.2.2.2.2.2.2.1.2.2.2.2.2.1.1)) (hts _ w0) (hts _ (TB.2.2.2.2.2.2.2.1.2.2.2.2.2.1.2)) (by omega) (by omega) (by omega) (by omega) hdg (go hrun (hk_voc trivial (hk_vo2 hsv).2.2))
      · cases hrun
    · cases hrun
  · unfold hk_mj at hrun
    split at hrun
    · next y x r0 =>
      split at hrun
      · next hcat =>
        have hcat := Nat.le_of_ble_eq_true hcat
        have hcat2 : ((r0.map (hk_tv ad)).map fun v => v.category).sum ≤ 8 := by rw [hk_cat_map]; exact hcat
        simp only [hk_cok, Bool.and_eq_true, decide_eq_true_eq] at hck
        have hgg := hgr _ _ _ hrun
        have hg3 := hk_ge_len hgg
        have hg4 := hk_ge_sl (SH := SH) (cls := cls) hgg
        obtain ⟨w0, ws⟩ := TB.2.2.2.2.2.2.2.1.2.2
        exact va_mmin_long hx hb (by rw [hml]; exact hlv.1.symm) hown (hts _ (TB.2.2.2.2.2.2.1.2.2.2 _ _ hck.2)) (hts _ (TB.2.2.2.2.2.2.2.1.2.2.2.2.2.2.1)) (hts _ w0) (hts _ (TB.2.2.2.2.2.2.2.1.2.2.2.2.2.2.2)) (by omega) (by omega) (by omega) (by omega) hdg (go hrun (hk_voc trivial (hk_vo2 hsv).2.2))
      · cases hrun
    · cases hrun
  · next y =>
    obtain ⟨av, r0, rr, h2, hst, havl, hcat, hrecv, hq, hr⟩ := hk_inv_eq hrun
    simp only [hk_cok] at hck
    split at hck
    · cases hck
    next q hmt =>
    simp only [Bool.and_eq_true, Bool.or_eq_true, decide_eq_true_eq] at hck
    have hMo := TB.2.2.2.2.2.2.2.2.2 _ _ hmt
    obtain ⟨m1, m2, m3, m4, m5, m6, m7, m8, m9, m10, -, -, -⟩ := hMo
    have hva : ∀ v ∈ av, hk_vo sc h.2.2.2 v := fun v hv => hsv v (by rw [hst]; exact List.mem_append_left _ (List.mem_reverse.mpr hv))
    have hr0 : ∀ v ∈ r0, hk_vo sc h.2.2.2 v := fun v hv => hsv v (by rw [hst]; exact List.mem_append_right _ hv)
    obtain ⟨hal, hMet⟩ := hcl _ _ _ _ _ hq q hmt hwf hva
    have hM := hMet D cI cZ cR cJ ad H.size
    have hg : hk_ge h h2 := hge _ _ _ _ hq
    have hg1 := hk_ge_len hg
    have hg2 := hk_ge_sl (SH := SH) (cls := cls) hg
    have hgg := hgr _ _ _ hr
    have hg3 := hk_ge_len hgg
    have hg4 := hk_ge_sl (SH := SH) (cls := cls) hgg
    have hgw := TB.2.2.2.2.2.1
    have hroom : (hk_rm SH cls dd h h2).frames + 1 ≤ R.frames ∧ 8 + (q.2.2.1 + 11) + (hk_rm SH cls dd h h2).locals ≤ R.locals := ⟨hR1, hk_roomL m8 hR2⟩
    have hf : h.2.2.2.length - n0 + (h2.2.2.2.length - h.2.2.2.length) ≤ R.cells ∧ hk_sl SH cls h.2.2.2 - s0 + (hk_sl SH cls h2.2.2.2 - hk_sl SH cls h.2.2.2) ≤ R.slots := ⟨by omega, by omega⟩
    have hcat2 : ((r0.map (hk_tv ad)).map fun v => v.category).sum ≤ 8 := by rw [hk_cat_map]; exact hcat
    have hpre : ∀ U : State, U.heap = H → s.WarmedH U.vm → hk_Pc SH cls kd hn D cI cZ cR cJ ad H.size av h (av.map (hk_tv ad)).toArray U := fun U hU hW => ⟨rfl, by rw [hU], by rw [hU]; exact hP, va_K.moved hW.alike hK, hD.weaken (fun _ _ _ _ => trivial), hAO.warm hW⟩
    obtain ⟨hc1, ⟨hd0, hk0⟩, hlk⟩ := hck
    have hstk : st.map (hk_tv ad) = (av.map (hk_tv ad)).reverse ++ r0.map (hk_tv ad) := by
      rw [hst]
      simp
    rw [hstk]
    have i1 := m7 hk0
    have hm9 : (parseMethodDescriptor q.1.desc).map (fun d => d.parameters.length) = some q.2.2.2.2.1.1 := by
      rw [m9, hk0]
      rfl
    rcases hlk with hw | hz
    · have hG : GoodIn wl (va_wsS own i q.1 (hk_mw wl q)) := hk_good hgw fun w hw1 => by
        unfold va_wsS at hw1
        rcases List.mem_append.mp hw1 with h1 | h1
        · simp only [List.mem_cons, List.not_mem_nil, or_false] at h1
          rcases h1 with rfl | rfl | rfl
          · exact TB.2.2.2.2.2.2.1.2.2.2 _ _ hw
          · exact i1
          · exact m4
        · exact hk_mw_in m3 w h1
      exact hk_backW FX r hq hmt hva hr0 (va_runS (As := av.map (hk_tv ad)) (rest := r0.map (hk_tv ad)) ⟨hx, hb, hml, hown, hts⟩ hM (va_cwS q.2.2.2.2.1.1 hts hG rfl rfl rfl ⟨m2.1, m2.2, hm9⟩ hroom) ⟨hk_Pc_blind, hpre⟩ rfl (by rw [List.length_map]; exact hal) hlv.1 rfl (lv_room hcat2) hdg hf) (hnx _ _ _ hr)
    · obtain ⟨z, hz1, hz2⟩ : ∃ z, hk_nl[b]? = some z ∧ (z.1 = own ∧ z.2.1 = i) ∧ z.2.2.1 = q.1 := by
        rw [Option.any_eq_true] at hz
        obtain ⟨z, h1, h2⟩ := hz
        simp only [Bool.and_eq_true, decide_eq_true_eq] at h2
        exact ⟨z, h1, h2⟩
      have hw := hAO.2 z (List.mem_of_getElem? hz1)
      rw [hz2.1.1, hz2.1.2, hz2.2] at hw
      exact hk_backW FX r hq hmt hva hr0 (va_runSN (As := av.map (hk_tv ad)) (rest := r0.map (hk_tv ad)) ⟨hx, hb, hml, hown, hts⟩ hM ⟨va_cnB q.2.2.2.2.1.1 hts (hk_good hgw (hk_mw_in m3)) rfl rfl rfl hw (hts _ m4) ⟨m2.1, m2.2, hm9⟩ hroom, hts _ i1, trivial⟩ ⟨hk_Pc_blind, hpre⟩ rfl (by rw [List.length_map]; exact hal) hlv.1 rfl (lv_room hcat2) hdg hf) (hnx _ _ _ hr)

/-- an end: what stands on the stack, and the instruction -/
def hk_End (cc : ByteArray) (rk pc : Nat) (rr : Option Value) (st : List Value) : Prop :=
  (∃ x, rr = some (.int x) ∧ st = [.int x] ∧ decode cc pc = .ok (.ireturn, 1) ∧ (rk = 1 ∨ rk = 2 ∧ (x = 0 ∨ x = 1))) ∨ (∃ x, rr = some (.long x) ∧ st = [.long x] ∧ decode cc pc = .ok (.lreturn, 1) ∧ rk = 3) ∨ (rr = none ∧ st = [] ∧ decode cc pc = .ok (.return_, 1) ∧ rk = 0)

set_option maxHeartbeats 1000000 in
theorem hk_z_ireturn {ini : Bool} {rk : Nat} (FX : hk_Fx SH ch cls kd wl mt hn sc p l R s m args meth c D cI cZ cR cJ A H0 b0 mx dd own cc scr cl ini) {pc len a b c1 d : Nat} {v : Int32} {w : Int64} {sw : List (Int32 × Nat)}  (hdg : decode cc pc = .ok (.ireturn, len)) (hck : hk_iok cls kd mt hn own ini rk mx pc (.ireturn) len a b c1 d v w sw = true) {nxr : hk_L → List Value → hk_H → hk_O} {jmr : Nat → hk_L → List Value → hk_H → hk_O} {qf : Option Value × hk_H} (hnx : ∀ L st h, nxr L st h = some qf → hk_K SH cls kd sc D cI cZ cR cJ A H0 b0 ad0 al0 mx n0 s0 p l e R s m args below meth c Q (pc + len) L st h) (hjm : ∀ t L st h, jmr t L st h = some qf → hk_K SH cls kd sc D cI cZ cR cJ A H0 b0 ad0 al0 mx n0 s0 p l e R s m args below meth c Q t L st h) (hend : ∀ pc L st h rr, qf = (rr, h) → hk_End cc rk pc rr st → hk_K SH cls kd sc D cI cZ cR cJ A H0 b0 ad0 al0 mx n0 s0 p l e R s m args below meth c Q pc L st h) {L : hk_L} {st : List Value} {h : hk_H} (hrun : hk_stp SH pb big none nxr jmr (fun P d k => @ite _ P d k none) (fun P d k0 k1 => @ite _ P d k0 k1) (fun y a h k => (cl y a h).bind (fun q => k q.1 q.2)) (fun r h => some (r, h)) scr ch (.ireturn) a c1 d v w sw L st h = some qf) : hk_K SH cls kd sc D cI cZ cR cJ A H0 b0 ad0 al0 mx n0 s0 p l e R s m args below meth c Q pc L st h := by
  obtain ⟨TB, hx, hb, hml, hown, hts, hK, hA, hin, hX, hcl, hge, hR1, hR2, hAO⟩ := id FX
  intro ad H locs ls r
  obtain ⟨hP, hD, hS, hwf, hlv, hlen, hsv, hLv, hadb, hn0, hs0⟩ := id r
  unfold hk_G
  have go : ∀ {st' : List Value}, nxr L st' h = some qf → (∀ v ∈ st', hk_vo sc h.2.2.2 v) → hk_G SH cls p l e R s m args below meth c Q n0 s0 ad h H locs (pc + len) ls st' := fun h1 h2 => hnx _ _ _ h1 _ _ _ _ (r.stk h2)
  have gj : ∀ {t : Nat} {st' : List Value}, jmr t L st' h = some qf → (∀ v ∈ st', hk_vo sc h.2.2.2 v) → hk_G SH cls p l e R s m args below meth c Q n0 s0 ad h H locs t ls st' := fun h1 h2 => hjm _ _ _ _ h1 _ _ _ _ (r.stk h2)
  unfold hk_G at go gj
  simp only [hk_iok, Bool.and_eq_true, decide_eq_true_eq] at hck
  simp only [hk_stp] at hrun
  obtain ⟨rfl, hrk⟩ := hck
  split at hrun
  · next x =>
    split at hrun
    · next hdd =>
      have hrk : rk = 1 := by
        rcases hrk with h1 | ⟨-, h1⟩
        · exact h1
        · cases h1
      exact hend _ _ _ _ _ (Option.some.inj hrun).symm (Or.inl ⟨x, rfl, rfl, hdg, Or.inl hrk⟩) _ _ _ _ r
    · split at hrun
      · next hx01 =>
        refine hend _ _ _ _ _ (Option.some.inj hrun).symm (Or.inl ⟨x, rfl, rfl, hdg, ?_⟩) _ _ _ _ r
        rcases hrk with h1 | ⟨h1, -⟩
        · exact Or.inl h1
        · exact Or.inr ⟨h1, hx01⟩
      · cases hrun
  · cases hrun

set_option maxHeartbeats 1000000 in
theorem hk_z_lreturn {ini : Bool} {rk : Nat} (FX : hk_Fx SH ch cls kd wl mt hn sc p l R s m args meth c D cI cZ cR cJ A H0 b0 mx dd own cc scr cl ini) {pc len a b c1 d : Nat} {v : Int32} {w : Int64} {sw : List (Int32 × Nat)}  (hdg : decode cc pc = .ok (.lreturn, len)) (hck : hk_iok cls kd mt hn own ini rk mx pc (.lreturn) len a b c1 d v w sw = true) {nxr : hk_L → List Value → hk_H → hk_O} {jmr : Nat → hk_L → List Value → hk_H → hk_O} {qf : Option Value × hk_H} (hnx : ∀ L st h, nxr L st h = some qf → hk_K SH cls kd sc D cI cZ cR cJ A H0 b0 ad0 al0 mx n0 s0 p l e R s m args below meth c Q (pc + len) L st h) (hjm : ∀ t L st h, jmr t L st h = some qf → hk_K SH cls kd sc D cI cZ cR cJ A H0 b0 ad0 al0 mx n0 s0 p l e R s m args below meth c Q t L st h) (hend : ∀ pc L st h rr, qf = (rr, h) → hk_End cc rk pc rr st → hk_K SH cls kd sc D cI cZ cR cJ A H0 b0 ad0 al0 mx n0 s0 p l e R s m args below meth c Q pc L st h) {L : hk_L} {st : List Value} {h : hk_H} (hrun : hk_stp SH pb big none nxr jmr (fun P d k => @ite _ P d k none) (fun P d k0 k1 => @ite _ P d k0 k1) (fun y a h k => (cl y a h).bind (fun q => k q.1 q.2)) (fun r h => some (r, h)) scr ch (.lreturn) a c1 d v w sw L st h = some qf) : hk_K SH cls kd sc D cI cZ cR cJ A H0 b0 ad0 al0 mx n0 s0 p l e R s m args below meth c Q pc L st h := by
  obtain ⟨TB, hx, hb, hml, hown, hts, hK, hA, hin, hX, hcl, hge, hR1, hR2, hAO⟩ := id FX
  intro ad H locs ls r
  obtain ⟨hP, hD, hS, hwf, hlv, hlen, hsv, hLv, hadb, hn0, hs0⟩ := id r
  unfold hk_G
  have go : ∀ {st' : List Value}, nxr L st' h = some qf → (∀ v ∈ st', hk_vo sc h.2.2.2 v) → hk_G SH cls p l e R s m args below meth c Q n0 s0 ad h H locs (pc + len) ls st' := fun h1 h2 => hnx _ _ _ h1 _ _ _ _ (r.stk h2)
  have gj : ∀ {t : Nat} {st' : List Value}, jmr t L st' h = some qf → (∀ v ∈ st', hk_vo sc h.2.2.2 v) → hk_G SH cls p l e R s m args below meth c Q n0 s0 ad h H locs t ls st' := fun h1 h2 => hjm _ _ _ _ h1 _ _ _ _ (r.stk h2)
  unfold hk_G at go gj
  simp only [hk_iok, Bool.and_eq_true, decide_eq_true_eq] at hck
  simp only [hk_stp] at hrun
  obtain ⟨rfl, hrk⟩ := hck
  split at hrun
  · next x => exact hend _ _ _ _ _ (Option.some.inj hrun).symm (Or.inr (Or.inl ⟨x, rfl, rfl, hdg, hrk⟩)) _ _ _ _ r
  · cases hrun

set_option maxHeartbeats 1000000 in
theorem hk_z_return {ini : Bool} {rk : Nat} (FX : hk_Fx SH ch cls kd wl mt hn sc p l R s m args meth c D cI cZ cR cJ A H0 b0 mx dd own cc scr cl ini) {pc len a b c1 d : Nat} {v : Int32} {w : Int64} {sw : List (Int32 × Nat)}  (hdg : decode cc pc = .ok (.return_, len)) (hck : hk_iok cls kd mt hn own ini rk mx pc (.return_) len a b c1 d v w sw = true) {nxr : hk_L → List Value → hk_H → hk_O} {jmr : Nat → hk_L → List Value → hk_H → hk_O} {qf : Option Value × hk_H} (hnx : ∀ L st h, nxr L st h = some qf → hk_K SH cls kd sc D cI cZ cR cJ A H0 b0 ad0 al0 mx n0 s0 p l e R s m args below meth c Q (pc + len) L st h) (hjm : ∀ t L st h, jmr t L st h = some qf → hk_K SH cls kd sc D cI cZ cR cJ A H0 b0 ad0 al0 mx n0 s0 p l e R s m args below meth c Q t L st h) (hend : ∀ pc L st h rr, qf = (rr, h) → hk_End cc rk pc rr st → hk_K SH cls kd sc D cI cZ cR cJ A H0 b0 ad0 al0 mx n0 s0 p l e R s m args below meth c Q pc L st h) {L : hk_L} {st : List Value} {h : hk_H} (hrun : hk_stp SH pb big none nxr jmr (fun P d k => @ite _ P d k none) (fun P d k0 k1 => @ite _ P d k0 k1) (fun y a h k => (cl y a h).bind (fun q => k q.1 q.2)) (fun r h => some (r, h)) scr ch (.return_) a c1 d v w sw L st h = some qf) : hk_K SH cls kd sc D cI cZ cR cJ A H0 b0 ad0 al0 mx n0 s0 p l e R s m args below meth c Q pc L st h := by
  obtain ⟨TB, hx, hb, hml, hown, hts, hK, hA, hin, hX, hcl, hge, hR1, hR2, hAO⟩ := id FX
  intro ad H locs ls r
  obtain ⟨hP, hD, hS, hwf, hlv, hlen, hsv, hLv, hadb, hn0, hs0⟩ := id r
  unfold hk_G
  have go : ∀ {st' : List Value}, nxr L st' h = some qf → (∀ v ∈ st', hk_vo sc h.2.2.2 v) → hk_G SH cls p l e R s m args below meth c Q n0 s0 ad h H locs (pc + len) ls st' := fun h1 h2 => hnx _ _ _ h1 _ _ _ _ (r.stk h2)
  have gj : ∀ {t : Nat} {st' : List Value}, jmr t L st' h = some qf → (∀ v ∈ st', hk_vo sc h.2.2.2 v) → hk_G SH cls p l e R s m args below meth c Q n0 s0 ad h H locs t ls st' := fun h1 h2 => hjm _ _ _ _ h1 _ _ _ _ (r.stk h2)
  unfold hk_G at go gj
  simp only [hk_iok, Bool.and_eq_true, decide_eq_true_eq] at hck
  simp only [hk_stp] at hrun
  obtain ⟨rfl, hrk⟩ := hck
  split at hrun
  · exact hend _ _ _ _ _ (Option.some.inj hrun).symm (Or.inr (Or.inr ⟨rfl, rfl, hdg, hrk⟩)) _ _ _ _ r
  · cases hrun

end HKJ5
end
section
/-! ===== a run, and a call, of the abstract machine is one of the machine ===== -/
section HKJ6
variable {SH : Nat → hk_Sh} {pb big ch : Nat} {cls : List vw_C} {kd : Nat → Nat → Nat} {wl : List Jvm.Cond} {mt : Nat → Option hk_Q} {hn : String} {sc : Nat}
variable {p : Program} {l : Launch} {e : Env} {R : Room} {s : State} {m : MethodId} {args : Array Value} {below : List Frame} {meth : Method} {c : Code} {Q : State → Prop}
variable {D : va_G} {cI cZ cR cJ : ClassId} {A : Nat → Prop} {H0 : Heap} {b0 mx n0 s0 dd : Nat} {ad0 : Nat → Nat} {al0 : List Nat} {own : String} {cc : ByteArray} {scr : Option (Nat × (Nat → Int32))} {cl : Nat → List Value → hk_H → hk_O}
set_option maxHeartbeats 2000000 in
theorem hk_run_snd {ini : Bool} {rk : Nat} (FX : hk_Fx SH ch cls kd wl mt hn sc p l R s m args meth c D cI cZ cR cJ A H0 b0 mx dd own cc scr cl ini) {cd : List hk_E} (hcd : ∀ e ∈ cd, decode cc e.1 = .ok (e.2.1, e.2.2.1) ∧ hk_iok cls kd mt hn own ini rk mx e.1 e.2.1 e.2.2.1 e.2.2.2.2.1.1 e.2.2.2.2.1.2.1 e.2.2.2.2.1.2.2.1 e.2.2.2.2.1.2.2.2 e.2.2.2.2.2.1 e.2.2.2.2.2.2.1 e.2.2.2.2.2.2.2 = true) (hsq : hk_seq cd = true) {qf : Option Value × hk_H} (hR3 : qf.2.2.2.2.length - n0 ≤ R.cells ∧ hk_sl SH cls qf.2.2.2.2 - s0 ≤ R.slots)
    (hend : ∀ pc L st h rr, qf = (rr, h) → hk_End cc rk pc rr st → hk_K SH cls kd sc D cI cZ cR cJ A H0 b0 ad0 al0 mx n0 s0 p l e R s m args below meth c Q pc L st h) : ∀ (n : Nat) (cs pre : List hk_E) (pc : Nat), cd = pre ++ cs → (∀ e r, cs = e :: r → e.1 = pc) → ∀ L st h, hk_run SH pb big ch cl scr cd n cs L st h = some qf → hk_K SH cls kd sc D cI cZ cR cJ A H0 b0 ad0 al0 mx n0 s0 p l e R s m args below meth c Q pc L st h := by
  intro n
  induction n with
  | zero => intro cs pre pc _ _ L st h hr; simp [hk_run] at hr
  | succ n ih =>
    intro cs pre pc hpre hpc L st h hr
    cases cs with
    | nil => simp [hk_run] at hr
    | cons e0 cs =>
      obtain rfl := hpc _ _ rfl
      obtain ⟨hdg, hck⟩ := hcd e0 (by rw [hpre]; simp)
      have hnx : ∀ L st h, hk_run SH pb big ch cl scr cd n cs L st h = some qf → hk_K SH cls kd sc D cI cZ cR cJ A H0 b0 ad0 al0 mx n0 s0 p l e R s m args below meth c Q (e0.1 + e0.2.2.1) L st h := fun L st h hr2 => ih cs (pre ++ [e0]) _ (by rw [hpre]; simp) (fun e1 r he => hk_seq_at cd pre e0 e1 r hsq (by rw [hpre, he])) L st h hr2
      have hjm : ∀ t L st h, hk_run SH pb big ch cl scr cd n (hk_sfx t cd) L st h = some qf → hk_K SH cls kd sc D cI cZ cR cJ A H0 b0 ad0 al0 mx n0 s0 p l e R s m args below meth c Q t L st h := fun t L st h hr2 => by
        obtain ⟨pre2, h2⟩ := hk_sfx_in t cd
        exact ih _ pre2 t h2 (fun e1 r he => hk_sfx_hd t cd e1 r he) L st h hr2
      have hgr : ∀ L st h, hk_run SH pb big ch cl scr cd n cs L st h = some qf → hk_ge h qf.2 := fun L st h hr2 => hk_run_ge FX.2.2.2.2.2.2.2.2.2.2.2.1 _ _ _ _ _ _ hr2
      rw [hk_run] at hr
      obtain ⟨pc0, ins, len, fl, ⟨a, b, c1, d⟩, v, w, sw⟩ := e0
      dsimp only at hdg hck hnx hjm hr ⊢
      cases ins
      case iconst i => exact hk_z_iconst FX hdg hck hnx hjm hr
      case bipush i => exact hk_z_bipush FX hdg hck hnx hjm hr
      case sipush i => exact hk_z_sipush FX hdg hck hnx hjm hr
      case ldc i => exact hk_z_ldc FX hdg hck hnx hjm hr
      case ldc_w i => exact hk_z_ldc_w FX hdg hck hnx hjm hr
      case lconst i => exact hk_z_lconst FX hdg hck hnx hjm hr
      case ldc2_w i => exact hk_z_ldc2_w FX hdg hck hnx hjm hr
      case iload_n k => exact hk_z_iload_n FX hdg hck hnx hjm hr
      case iload k => exact hk_z_iload FX hdg hck hnx hjm hr
      case aload_n k => exact hk_z_aload_n FX hdg hck hnx hjm hr
      case aload k => exact hk_z_aload FX hdg hck hnx hjm hr
      case lload_n k => exact hk_z_lload_n FX hdg hck hnx hjm hr
      case lload k => exact hk_z_lload FX hdg hck hnx hjm hr
      case istore_n k => exact hk_z_istore_n FX hdg hck hnx hjm hr
      case istore k => exact hk_z_istore FX hdg hck hnx hjm hr
      case astore_n k => exact hk_z_astore_n FX hdg hck hnx hjm hr
      case lstore_n k => exact hk_z_lstore_n FX hdg hck hnx hjm hr
      case lstore k => exact hk_z_lstore FX hdg hck hnx hjm hr
      case iinc k i => exact hk_z_iinc FX hdg hck hnx hjm hr
      case iadd => exact hk_z_iadd FX hdg hck hnx hjm hr
      case isub => exact hk_z_isub FX hdg hck hnx hjm hr
      case imul => exact hk_z_imul FX hdg hck hnx hjm hr
      case iand => exact hk_z_iand FX hdg hck hnx hjm hr
      case ior => exact hk_z_ior FX hdg hck hnx hjm hr
      case ixor => exact hk_z_ixor FX hdg hck hnx hjm hr
      case ishl => exact hk_z_ishl FX hdg hck hnx hjm hr
      case ishr => exact hk_z_ishr FX hdg hck hnx hjm hr
      case iushr => exact hk_z_iushr FX hdg hck hnx hjm hr
      case ladd => exact hk_z_ladd FX hdg hck hnx hjm hr
      case lsub => exact hk_z_lsub FX hdg hck hnx hjm hr
      case lmul => exact hk_z_lmul FX hdg hck hnx hjm hr
      case idiv => exact hk_z_idiv FX hdg hck hnx hjm hr
      case irem => exact hk_z_irem FX hdg hck hnx hjm hr
      case ldiv => exact hk_z_ldiv FX hdg hck hnx hjm hr
      case lneg => exact hk_z_lneg FX hdg hck hnx hjm hr
      case i2l => exact hk_z_i2l FX hdg hck hnx hjm hr
      case l2i => exact hk_z_l2i FX hdg hck hnx hjm hr
      case lcmp => exact hk_z_lcmp FX hdg hck hnx hjm hr
      case dup => exact hk_z_dup FX hdg hck hnx hjm hr
      case dup2 => exact hk_z_dup2 FX hdg hck hnx hjm hr
      case pop => exact hk_z_pop FX hdg hck hnx hjm hr
      case pop2 => exact hk_z_pop2 FX hdg hck hnx hjm hr
      case goto o => exact hk_z_goto FX hdg hck hnx hjm hr
      case if_icmp cnd o => exact hk_z_if_icmp FX hdg hck hnx hjm hr
      case ifCond cnd o => exact hk_z_ifCond FX hdg hck hnx hjm hr
      case ifnonnull o => exact hk_z_ifnonnull FX hdg hck hnx hjm hr
      case tableswitch df lo hi os => exact hk_z_tableswitch FX hdg hck hnx hjm hr
      case lookupswitch df ps => exact hk_z_lookupswitch FX hdg hck hnx hjm hr
      case getfield i => exact hk_z_getfield FX hdg hck hnx hjm hr
      case putfield i => exact hk_z_putfield FX hdg hck hnx hjm hr
      case arraylength => exact hk_z_arraylength FX hdg hck hnx hjm hr
      case iaload => exact hk_z_iaload FX hdg hck hnx hjm hr
      case iastore => exact hk_z_iastore FX hdg hck hnx hjm hr
      case baload => exact hk_z_baload FX hdg hck hnx hjm hr
      case bastore => exact hk_z_bastore FX hdg hck hnx hjm hr
      case laload => exact hk_z_laload FX hdg hck hnx hjm hr
      case lastore => exact hk_z_lastore FX hdg hck hnx hjm hr
      case aaload => exact hk_z_aaload FX hdg hck hnx hjm hr
      case aastore => exact hk_z_aastore FX hdg hck hnx hjm hr
      case new i => exact hk_z_new FX hdg hck hnx hjm hgr hR3 hr
      case newarray t => exact hk_z_newarray FX hdg hck hnx hjm hgr hR3 hr
      case anewarray i => exact hk_z_anewarray FX hdg hck hnx hjm hgr hR3 hr
      case invokevirtual i => exact hk_z_invokevirtual FX hdg hck hnx hjm hgr hR3 hr
      case invokespecial i => exact hk_z_invokespecial FX hdg hck hnx hjm hgr hR3 hr
      case invokestatic i => exact hk_z_invokestatic FX hdg hck hnx hjm hgr hR3 hr
      case ireturn => exact hk_z_ireturn FX hdg hck hnx hjm hend hr
      case lreturn => exact hk_z_lreturn FX hdg hck hnx hjm hend hr
      case return_ => exact hk_z_return FX hdg hck hnx hjm hend hr
      all_goals exact absurd (show (none : hk_O) = some qf from hr) (by simp)
theorem hk_first {cd : List hk_E} (h : (match cd with | [] => true | e :: _ => decide (e.1 = 0)) = true) : ∀ e r, cd = e :: r → e.1 = 0 := by
  intro e r he
  subst he
  exact of_decide_eq_true h
theorem hk_as_sl (ad : Nat → Nat) : ∀ a : List Value, (lg_sl (a.map (hk_tv ad))).length = (hk_as a).length
  | [] => rfl
  | v :: r => by
    have ih := hk_as_sl ad r
    unfold lg_sl at ih ⊢
    rw [List.map_cons, List.flatMap_cons, List.length_append, ih, hk_tv_cat]
    cases v <;> simp [hk_as, Value.category] <;> omega
theorem hk_as_args (ad : Nat → Nat) : ∀ (a : List Value) (off k : Nat) (v : Value), (hk_as a)[k]? = some (some v) → (off + k, hk_tv ad v) ∈ lv_args off (a.map (hk_tv ad))
  | [], _, k, v, h => by simp [hk_as] at h
  | x :: r, off, k, v, h => by
    rw [List.map_cons, lv_args, hk_tv_cat]
    by_cases hx : x.category = 2
    · rw [if_pos hx]
      have hxs : hk_as (x :: r) = some x :: none :: hk_as r := by
        cases x <;> first | rfl | exact absurd hx (by simp [Value.category])
      rw [hxs] at h
      match k, h with
      | 0, h => cases h; exact List.mem_cons.mpr (Or.inl rfl)
      | 1, h => cases h
      | k + 2, h =>
        have := hk_as_args ad r (off + 2) k v h
        rw [show off + (k + 2) = off + 2 + k by omega]
        exact List.mem_cons_of_mem _ this
    · rw [if_neg hx]
      have hxs : hk_as (x :: r) = some x :: hk_as r := by
        cases x <;> first | rfl | exact absurd rfl hx
      rw [hxs] at h
      match k, h with
      | 0, h => cases h; exact List.mem_cons.mpr (Or.inl rfl)
      | k + 1, h =>
        have := hk_as_args ad r (off + 1) k v h
        rw [show off + (k + 1) = off + 1 + k by omega]
        exact List.mem_cons_of_mem _ this
theorem hk_as_mem : ∀ (a : List Value) (v : Value), some v ∈ hk_as a → v ∈ a
  | [], v, h => by simp [hk_as] at h
  | x :: r, v, h => by
    have ih := hk_as_mem r v
    cases x <;> simp [hk_as] at h ⊢ <;> rcases h with h | h <;> first | exact Or.inl h | exact Or.inr (ih h)
theorem hk_loc_at {mx : Nat} {a : List Value} {k : Nat} {v : Value} (h : (hk_loc mx a)[k]? = some (some v)) : (hk_as a)[k]? = some (some v) := by
  unfold hk_loc at h
  by_cases hk : k < (hk_as a).length
  · rw [List.getElem?_append_left hk] at h
    exact h
  · rw [List.getElem?_append_right (by omega)] at h
    have := List.mem_of_getElem? h
    rw [List.mem_replicate] at this
    cases this.2
set_option maxRecDepth 100000 in
theorem hk_roomL2 (d : Nat) : 64 * d + 1064 ≤ 64 * (d + 1) + 1000 := by omega
set_option maxHeartbeats 2000000 in
theorem hk_call_snd (l : Launch) (TB : hk_T SH ch cls kd wl mt hn sc) (F : Nat) : ∀ (d y : Nat) (a : List Value) (h : hk_H) (r : Option Value) (h' : hk_H), hk_call SH pb big ch mt F d y a h = some (r, h') → hk_MetOK SH cls kd wl mt hn sc l d y a h r h' := by
  intro d
  induction d with
  | zero => intro y a h r h' hr; simp [hk_call] at hr
  | succ d ih =>
    intro y a h r h' hr
    have hge0 := hk_call_ge F (d + 1) y a h _ hr
    rw [hk_call] at hr
    split at hr
    · cases hr
    next q hmt =>
    split at hr
    rotate_left
    · cases hr
    next hcond =>
    rw [Bool.and_eq_true] at hcond
    have hle := Nat.le_of_ble_eq_true hcond.1
    have hal := Nat.eq_of_beq_eq_true hcond.2
    intro q' hq' hwf hva
    obtain rfl := Option.some.inj (hmt.symm.trans hq')
    refine ⟨hal, fun D cI cZ cR cJ ad sz => ?_⟩
    obtain ⟨m1, m2, m3, m4, m5, m6, m7, m8, m9, m10, m11, m12, m12b⟩ := TB.2.2.2.2.2.2.2.2.2 _ _ hmt
    refine Met.ofW (cc := q.2.1) (maxL := q.2.2.1) (ret := q.2.2.2.1) m1 rfl ?_
    intro p e s m args below meth c s₁ B hml hv
    obtain ⟨rfl, hsz, hP, hK, hD0, hAO⟩ := hv
    have hx := B.exec
    have hb := B.bytes
    have hr0 := B.returns
    have hts := atoms_spec (ws := hk_mw wl q) B.pre
    have hown : s.vm.findClass q.1.cls = some m.cls := findClass_of_methodNamed B.named
    have hlocks := B.notSynchronized
    have hnm : meth.name = q.1.name := (name_of_methodNamed B.named B.method).1
    subst hsz
    have hD := hD0.self (sz := s.heap.size)
    have hA : ∀ z : Nat, s.heap.size ≤ z → va_A (hk_ws SH cls kd cI cZ cR cJ ad h) s.heap.size z := fun z hz => Or.inr hz
    have hl := lv_entry (a.map (hk_tv ad)) (n := q.2.2.1) (by rw [hk_as_sl]; exact hle)
    rw [lg_entry_eq]
    generalize (lg_sl (a.map (hk_tv ad)) ++ List.replicate (q.2.2.1 - (lg_sl (a.map (hk_tv ad))).length) Slot.unset).toArray = ls at hl ⊢
    have FX : hk_Fx SH ch cls kd wl mt hn sc p l (headSpec (hk_mw wl q) (hk_rm SH cls (d + 1) h h')).room s m (a.map (hk_tv ad)).toArray meth c D cI cZ cR cJ (va_A (hk_ws SH cls kd cI cZ cR cJ ad h) s.heap.size) s.heap (ad sc) q.2.2.1 d q.1.cls q.2.1 none (hk_call SH pb big ch mt F d) (decide (q.1.name = "<init>")) :=
      ⟨TB, hx, hb, hml, hown, fun w hw => hts w (List.mem_cons_of_mem _ hw), hK, hA, fun hi => (by rw [hnm]; exact of_decide_eq_true hi), fun q0 h0 => (by cases h0), fun y a h r h' hr2 => ih y a h r h' hr2, fun y a h q2 hr2 => hk_call_ge F d y a h q2 hr2, Nat.le_refl (d + 1), hk_roomL2 d, hAO⟩
    have hS0 : va_S (va_A (hk_ws SH cls kd cI cZ cR cJ ad h) s.heap.size) s.heap s.heap [] := va_S.rf
    have hRR : hk_R SH cls kd sc D cI cZ cR cJ (va_A (hk_ws SH cls kd cI cZ cR cJ ad h) s.heap.size) s.heap (ad sc) ad h.2.2.2 q.2.2.1 h.2.2.2.length (hk_sl SH cls h.2.2.2) ad h s.heap [] ls (hk_loc q.2.2.1 a) [] := by
      refine ⟨hP, hD, hS0, hwf, hk_has_sub hl fun z hz => ?_, ?_, fun v hv => absurd hv List.not_mem_nil, fun v hv => ?_, ⟨rfl, fun z _ => rfl, fun z hz => hz⟩, Nat.le_refl _, Nat.le_refl _⟩
      · obtain ⟨v, h1, h2⟩ := hk_pl_mem.mp hz
        have := hk_as_args ad a 0 z.1 v (hk_loc_at h1)
        rw [Nat.zero_add, ← h2] at this
        exact this
      · unfold hk_loc
        rw [List.length_append, List.length_replicate]
        omega
      · obtain ⟨k, hk⟩ := List.getElem?_of_mem hv
        exact hva v (hk_as_mem a v (List.mem_of_getElem? (hk_loc_at hk)))
    have key := hk_run_snd (rk := hk_rk q.2.2.2.1) (n0 := h.2.2.2.length) (s0 := hk_sl SH cls h.2.2.2) (ad0 := ad) (al0 := h.2.2.2) (e := e) (below := below) (Q := MQ below (hk_Qc SH cls kd hn sc D cI cZ cR cJ ad s.heap.size h h' r) (a.map (hk_tv ad)).toArray s (h'.2.2.2.length - h.2.2.2.length) (hk_sl SH cls h'.2.2.2 - hk_sl SH cls h.2.2.2) (va_A (hk_ws SH cls kd cI cZ cR cJ ad h) s.heap.size)) FX m11 m12 (qf := (r, h')) ⟨Nat.le_refl _, Nat.le_refl _⟩ ?_ F q.2.2.2.2.2 [] 0 rfl ?_ (hk_loc q.2.2.1 a) [] h hr ad s.heap [] ls hRR
    · unfold hk_G at key
      exact W.cs (by omega) (by omega) key
    · intro pc L st h1 rr hqf hE ad1 H1 locs1 ls1 r1
      cases hqf
      obtain ⟨b1, b2, b3, b4, b5, b6, b7, b8, b9, b10, b11⟩ := r1
      unfold hk_G
      have hB : ∀ t : State, t.heap = H1 → s.WarmedH t.vm → hk_B SH cls kd hn D cI cZ cR cJ h' (va_A (hk_ws SH cls kd cI cZ cR cJ ad h) s.heap.size) ad1 t := fun t ht hW => ⟨by rw [ht]; exact b1, va_K.moved hW.alike hK, b2⟩
      rcases hE with ⟨x, rfl, rfl, hdg, hrk⟩ | ⟨x, rfl, rfl, hdg, hrk⟩ | ⟨rfl, rfl, hdg, hrk⟩
      · rcases hrk with hrk | ⟨hrk, hx01⟩
        · have hret : q.2.2.2.1 = some .int := by
            rcases m10 with h2 | h2 | h2 | h2 <;> rw [h2] at hrk <;> first | exact h2 | cases hrk
          exact W.iret hx hb (hr0.trans hret) (fun t ht hW => ⟨⟨x, ad1, rfl, ⟨rfl, b9.2.1, b4⟩, hB t ht hW⟩, b3.F ht⟩) b3.2.2 hdg hlocks
        · have hret : q.2.2.2.1 = some .boolean := by
            rcases m10 with h2 | h2 | h2 | h2 <;> rw [h2] at hrk <;> first | exact h2 | cases hrk
          exact W.zret hx hb (hr0.trans hret) (by rcases hx01 with rfl | rfl <;> rfl) (fun t ht hW => ⟨⟨x, ad1, rfl, ⟨rfl, b9.2.1, b4⟩, hB t ht hW⟩, b3.F ht⟩) b3.2.2 hdg hlocks
      · have hret : q.2.2.2.1 = some .long := by
          rcases m10 with h2 | h2 | h2 | h2 <;> rw [h2] at hrk <;> first | exact h2 | cases hrk
        exact W.lret hx hb (hr0.trans hret) (fun t ht hW => ⟨⟨x, ad1, rfl, ⟨rfl, b9.2.1, b4⟩, hB t ht hW⟩, b3.F ht⟩) b3.2.2 hdg hlocks
      · have hret : q.2.2.2.1 = none := by
          rcases m10 with h2 | h2 | h2 | h2 <;> rw [h2] at hrk <;> first | exact h2 | cases hrk
        exact W.vret hx hb (hr0.trans hret) (fun t ht hW => ⟨⟨ad1, rfl, ⟨b9.2.1, b4⟩, hB t ht hW⟩, b3.F ht⟩) b3.2.2 hdg hlocks
    · intro e1 r2 he
      exact hk_first m12b e1 r2 he
end HKJ6
end
section
/-! ===== the instructions' bytes, read in one go ===== -/
def hk_a1 (f : Nat → Instr × Nat) (r : List UInt8) : Option (Instr × Nat) := match r with
  | a :: _ => some (f a.toNat)
  | _ => none
def hk_a2 (f : Nat → Instr × Nat) (r : List UInt8) : Option (Instr × Nat) := match r with
  | a :: b :: _ => some (f (a.toNat * 256 + b.toNat))
  | _ => none
def hk_a11 (f : Nat → Nat → Instr × Nat) (r : List UInt8) : Option (Instr × Nat) := match r with
  | a :: b :: _ => some (f a.toNat b.toNat)
  | _ => none
def hk_dc (bs : List UInt8) : Option (Instr × Nat) := match bs with
  | [] => none
  | o :: r => match o.toNat with
    | 2 => some (.iconst (-1), 1)
    | 3 => some (.iconst 0, 1)
    | 4 => some (.iconst 1, 1)
    | 5 => some (.iconst 2, 1)
    | 6 => some (.iconst 3, 1)
    | 7 => some (.iconst 4, 1)
    | 8 => some (.iconst 5, 1)
    | 9 => some (.lconst 0, 1)
    | 10 => some (.lconst 1, 1)
    | 16 => hk_a1 (fun x => (.bipush (Reader.signed 8 x), 2)) r
    | 17 => hk_a2 (fun x => (.sipush (Reader.signed 16 x), 3)) r
    | 18 => hk_a1 (fun x => (.ldc x, 2)) r
    | 19 => hk_a2 (fun x => (.ldc_w x, 3)) r
    | 20 => hk_a2 (fun x => (.ldc2_w x, 3)) r
    | 21 => hk_a1 (fun x => (.iload x, 2)) r
    | 22 => hk_a1 (fun x => (.lload x, 2)) r
    | 25 => hk_a1 (fun x => (.aload x, 2)) r
    | 26 => some (.iload_n 0, 1)
    | 27 => some (.iload_n 1, 1)
    | 28 => some (.iload_n 2, 1)
    | 29 => some (.iload_n 3, 1)
    | 30 => some (.lload_n 0, 1)
    | 31 => some (.lload_n 1, 1)
    | 32 => some (.lload_n 2, 1)
    | 33 => some (.lload_n 3, 1)
    | 42 => some (.aload_n 0, 1)
    | 43 => some (.aload_n 1, 1)
    | 44 => some (.aload_n 2, 1)
    | 45 => some (.aload_n 3, 1)
    | 46 => some (.iaload, 1)
    | 47 => some (.laload, 1)
    | 50 => some (.aaload, 1)
    | 51 => some (.baload, 1)
    | 54 => hk_a1 (fun x => (.istore x, 2)) r
    | 55 => hk_a1 (fun x => (.lstore x, 2)) r
    | 59 => some (.istore_n 0, 1)
    | 60 => some (.istore_n 1, 1)
    | 61 => some (.istore_n 2, 1)
    | 62 => some (.istore_n 3, 1)
    | 63 => some (.lstore_n 0, 1)
    | 64 => some (.lstore_n 1, 1)
    | 65 => some (.lstore_n 2, 1)
    | 66 => some (.lstore_n 3, 1)
    | 75 => some (.astore_n 0, 1)
    | 76 => some (.astore_n 1, 1)
    | 77 => some (.astore_n 2, 1)
    | 78 => some (.astore_n 3, 1)
    | 79 => some (.iastore, 1)
    | 80 => some (.lastore, 1)
    | 83 => some (.aastore, 1)
    | 84 => some (.bastore, 1)
    | 87 => some (.pop, 1)
    | 88 => some (.pop2, 1)
    | 89 => some (.dup, 1)
    | 92 => some (.dup2, 1)
    | 96 => some (.iadd, 1)
    | 97 => some (.ladd, 1)
    | 100 => some (.isub, 1)
    | 101 => some (.lsub, 1)
    | 104 => some (.imul, 1)
    | 105 => some (.lmul, 1)
    | 108 => some (.idiv, 1)
    | 109 => some (.ldiv, 1)
    | 112 => some (.irem, 1)
    | 117 => some (.lneg, 1)
    | 120 => some (.ishl, 1)
    | 122 => some (.ishr, 1)
    | 124 => some (.iushr, 1)
    | 126 => some (.iand, 1)
    | 128 => some (.ior, 1)
    | 130 => some (.ixor, 1)
    | 132 => hk_a11 (fun x y => (.iinc x (Reader.signed 8 y), 3)) r
    | 133 => some (.i2l, 1)
    | 136 => some (.l2i, 1)
    | 148 => some (.lcmp, 1)
    | 153 => hk_a2 (fun x => (.ifCond .eq (Reader.signed 16 x), 3)) r
    | 154 => hk_a2 (fun x => (.ifCond .ne (Reader.signed 16 x), 3)) r
    | 155 => hk_a2 (fun x => (.ifCond .lt (Reader.signed 16 x), 3)) r
    | 156 => hk_a2 (fun x => (.ifCond .ge (Reader.signed 16 x), 3)) r
    | 157 => hk_a2 (fun x => (.ifCond .gt (Reader.signed 16 x), 3)) r
    | 158 => hk_a2 (fun x => (.ifCond .le (Reader.signed 16 x), 3)) r
    | 159 => hk_a2 (fun x => (.if_icmp .eq (Reader.signed 16 x), 3)) r
    | 160 => hk_a2 (fun x => (.if_icmp .ne (Reader.signed 16 x), 3)) r
    | 161 => hk_a2 (fun x => (.if_icmp .lt (Reader.signed 16 x), 3)) r
    | 162 => hk_a2 (fun x => (.if_icmp .ge (Reader.signed 16 x), 3)) r
    | 163 => hk_a2 (fun x => (.if_icmp .gt (Reader.signed 16 x), 3)) r
    | 164 => hk_a2 (fun x => (.if_icmp .le (Reader.signed 16 x), 3)) r
    | 167 => hk_a2 (fun x => (.goto (Reader.signed 16 x), 3)) r
    | 172 => some (.ireturn, 1)
    | 173 => some (.lreturn, 1)
    | 177 => some (.return_, 1)
    | 180 => hk_a2 (fun x => (.getfield x, 3)) r
    | 181 => hk_a2 (fun x => (.putfield x, 3)) r
    | 182 => hk_a2 (fun x => (.invokevirtual x, 3)) r
    | 183 => hk_a2 (fun x => (.invokespecial x, 3)) r
    | 184 => hk_a2 (fun x => (.invokestatic x, 3)) r
    | 187 => hk_a2 (fun x => (.new x, 3)) r
    | 189 => hk_a2 (fun x => (.anewarray x, 3)) r
    | 190 => some (.arraylength, 1)
    | 191 => some (.athrow, 1)
    | 199 => hk_a2 (fun x => (.ifnonnull (Reader.signed 16 x), 3)) r
    | _ => none
theorem hk_rd1 {code : ByteArray} {p : Nat} {b : UInt8} {r : List UInt8} (h : code.data.toList.drop p = b :: r) : (Reader.u1 : Decoder Nat) code p = .ok (b.toNat, p + 1) ∧ code.data.toList.drop (p + 1) = r := by
  have h1 : code.data.toList[p]? = some b := by
    have h2 : (code.data.toList.drop p)[0]? = some b := by rw [h]; rfl
    rw [List.getElem?_drop] at h2
    exact h2
  have hlt : p < code.size := by
    have h3 := (List.getElem?_eq_some_iff.mp h1).1
    rw [Array.length_toList] at h3
    exact h3
  have hb : code[p] = b := by
    have h3 := (List.getElem?_eq_some_iff.mp h1).2
    rw [Array.getElem_toList] at h3
    exact h3
  constructor
  · unfold Reader.u1
    change (dite (p < code.size) _ _ : Decoder Nat) code p = _
    rw [dif_pos hlt, ← hb]
    rfl
  · have h4 := List.drop_drop (i := 1) (j := p) (l := code.data.toList)
    rw [h] at h4
    exact h4.symm
theorem hk_bd {α β : Type} {m : Decoder α} {f : α → Decoder β} {code : ByteArray} {p p2 : Nat} {a : α} (h : m code p = .ok (a, p2)) : (m >>= f) code p = f a code p2 := by
  show Except.bind (m code p) (fun q => f q.1 code q.2) = _
  rw [h]
  rfl
theorem hk_mp {α β : Type} {m : Decoder α} {f : α → β} {code : ByteArray} {p p2 : Nat} {a : α} (h : m code p = .ok (a, p2)) : (f <$> m : Decoder β) code p = .ok (f a, p2) := by
  show Except.bind (m code p) (fun q => Except.ok (f q.1, q.2)) = _
  rw [h]
  rfl
theorem hk_rd2 {code : ByteArray} {p : Nat} {a b : UInt8} {r : List UInt8} (h : code.data.toList.drop p = a :: b :: r) : (Reader.u2 : Decoder Nat) code p = .ok (a.toNat * 256 + b.toNat, p + 2) := by
  obtain ⟨h1, h2⟩ := hk_rd1 h
  obtain ⟨h3, -⟩ := hk_rd1 h2
  unfold Reader.u2
  rw [hk_bd h1, hk_bd h3]
  rfl
theorem hk_dec1 {code : ByteArray} {pc k : Nat} {x : Instr} (h : Decoder.instr pc code pc = .ok (x, pc + k)) : decode code pc = .ok (x, k) := by
  unfold decode
  show Except.bind (Decoder.instr pc code pc) (fun q => Except.ok (q.1, q.2 - pc)) = _
  rw [h]
  show Except.ok (x, pc + k - pc) = _
  rw [Nat.add_sub_cancel_left]
set_option maxRecDepth 100000 in
set_option maxHeartbeats 8000000 in
theorem hk_dc_ok {code : ByteArray} {pc : Nat} {x : Instr × Nat} (h : hk_dc (code.data.toList.drop pc) = some x) : decode code pc = .ok x := by
  unfold hk_dc at h
  split at h
  · cases h
  next o r hbs =>
  obtain ⟨h1, h2⟩ := hk_rd1 hbs
  split at h
  · next ho =>
    cases h
    refine hk_dec1 ?_
    unfold Decoder.instr
    rw [hk_bd h1]
    rw [ho]
    rfl
  · next ho =>
    cases h
    refine hk_dec1 ?_
    unfold Decoder.instr
    rw [hk_bd h1]
    rw [ho]
    rfl
  · next ho =>
    cases h
    refine hk_dec1 ?_
    unfold Decoder.instr
    rw [hk_bd h1]
    rw [ho]
    rfl
  · next ho =>
    cases h
    refine hk_dec1 ?_
    unfold Decoder.instr
    rw [hk_bd h1]
    rw [ho]
    rfl
  · next ho =>
    cases h
    refine hk_dec1 ?_
    unfold Decoder.instr
    rw [hk_bd h1]
    rw [ho]
    rfl
  · next ho =>
    cases h
    refine hk_dec1 ?_
    unfold Decoder.instr
    rw [hk_bd h1]
    rw [ho]
    rfl
  · next ho =>
    cases h
    refine hk_dec1 ?_
    unfold Decoder.instr
    rw [hk_bd h1]
    rw [ho]
    rfl
  · next ho =>
    cases h
    refine hk_dec1 ?_
    unfold Decoder.instr
    rw [hk_bd h1]
    rw [ho]
    rfl
  · next ho =>
    cases h
    refine hk_dec1 ?_
    unfold Decoder.instr
    rw [hk_bd h1]
    rw [ho]
    rfl
  · next ho =>
    unfold hk_a1 at h
    split at h
    · cases h
      obtain ⟨h3, -⟩ := hk_rd1 h2
      refine hk_dec1 ?_
      unfold Decoder.instr
      rw [hk_bd h1]
      rw [ho]
      exact hk_bd (hk_mp h3)
    · cases h
  · next ho =>
    unfold hk_a2 at h
    split at h
    · cases h
      have h3 := hk_rd2 h2
      refine hk_dec1 ?_
      unfold Decoder.instr
      rw [hk_bd h1]
      rw [ho]
      exact hk_bd (hk_mp h3)
    · cases h
  · next ho =>
    unfold hk_a1 at h
    split at h
    · cases h
      obtain ⟨h3, -⟩ := hk_rd1 h2
      refine hk_dec1 ?_
      unfold Decoder.instr
      rw [hk_bd h1]
      rw [ho]
      exact hk_bd h3
    · cases h
  · next ho =>
    unfold hk_a2 at h
    split at h
    · cases h
      have h3 := hk_rd2 h2
      refine hk_dec1 ?_
      unfold Decoder.instr
      rw [hk_bd h1]
      rw [ho]
      exact hk_bd h3
    · cases h
  · next ho =>
    unfold hk_a2 at h
    split at h
    · cases h
      have h3 := hk_rd2 h2
      refine hk_dec1 ?_
      unfold Decoder.instr
      rw [hk_bd h1]
      rw [ho]
      exact hk_bd h3
    · cases h
  · next ho =>
    unfold hk_a1 at h
    split at h
    · cases h
      obtain ⟨h3, -⟩ := hk_rd1 h2
      refine hk_dec1 ?_
      unfold Decoder.instr
      rw [hk_bd h1]
      rw [ho]
      exact hk_bd h3
    · cases h
  · next ho =>
    unfold hk_a1 at h
    split at h
    · cases h
      obtain ⟨h3, -⟩ := hk_rd1 h2
      refine hk_dec1 ?_
      unfold Decoder.instr
      rw [hk_bd h1]
      rw [ho]
      exact hk_bd h3
    · cases h
  · next ho =>
    unfold hk_a1 at h
    split at h
    · cases h
      obtain ⟨h3, -⟩ := hk_rd1 h2
      refine hk_dec1 ?_
      unfold Decoder.instr
      rw [hk_bd h1]
      rw [ho]
      exact hk_bd h3
    · cases h
  · next ho =>
    cases h
    refine hk_dec1 ?_
    unfold Decoder.instr
    rw [hk_bd h1]
    rw [ho]
    rfl
  · next ho =>
    cases h
    refine hk_dec1 ?_
    unfold Decoder.instr
    rw [hk_bd h1]
    rw [ho]
    rfl
  · next ho =>
    cases h
    refine hk_dec1 ?_
    unfold Decoder.instr
    rw [hk_bd h1]
    rw [ho]
    rfl
  · next ho =>
    cases h
    refine hk_dec1 ?_
    unfold Decoder.instr
    rw [hk_bd h1]
    rw [ho]
    rfl
  · next ho =>
    cases h
    refine hk_dec1 ?_
    unfold Decoder.instr
    rw [hk_bd h1]
    rw [ho]
    rfl
  · next ho =>
    cases h
    refine hk_dec1 ?_
    unfold Decoder.instr
    rw [hk_bd h1]
    rw [ho]
    rfl
  · next ho =>
    cases h
    refine hk_dec1 ?_
    unfold Decoder.instr
    rw [hk_bd h1]
    rw [ho]
    rfl
  · next ho =>
    cases h
    refine hk_dec1 ?_
    unfold Decoder.instr
    rw [hk_bd h1]
    rw [ho]
    rfl
  · next ho =>
    cases h
    refine hk_dec1 ?_
    unfold Decoder.instr
    rw [hk_bd h1]
    rw [ho]
    rfl
  · next ho =>
    cases h
    refine hk_dec1 ?_
    unfold Decoder.instr
    rw [hk_bd h1]
    rw [ho]
    rfl
  · next ho =>
    cases h
    refine hk_dec1 ?_
    unfold Decoder.instr
    rw [hk_bd h1]
    rw [ho]
    rfl
  · next ho =>
    cases h
    refine hk_dec1 ?_
    unfold Decoder.instr
    rw [hk_bd h1]
    rw [ho]
    rfl
  · next ho =>
    cases h
    refine hk_dec1 ?_
    unfold Decoder.instr
    rw [hk_bd h1]
    rw [ho]
    rfl
  · next ho =>
    cases h
    refine hk_dec1 ?_
    unfold Decoder.instr
    rw [hk_bd h1]
    rw [ho]
    rfl
  · next ho =>
    cases h
    refine hk_dec1 ?_
    unfold Decoder.instr
    rw [hk_bd h1]
    rw [ho]
    rfl
  · next ho =>
    cases h
    refine hk_dec1 ?_
    unfold Decoder.instr
    rw [hk_bd h1]
    rw [ho]
    rfl
  · next ho =>
    unfold hk_a1 at h
    split at h
    · cases h
      obtain ⟨h3, -⟩ := hk_rd1 h2
      refine hk_dec1 ?_
      unfold Decoder.instr
      rw [hk_bd h1]
      rw [ho]
      exact hk_bd h3
    · cases h
  · next ho =>
    unfold hk_a1 at h
    split at h
    · cases h
      obtain ⟨h3, -⟩ := hk_rd1 h2
      refine hk_dec1 ?_
      unfold Decoder.instr
      rw [hk_bd h1]
      rw [ho]
      exact hk_bd h3
    · cases h
  · next ho =>
    cases h
    refine hk_dec1 ?_
    unfold Decoder.instr
    rw [hk_bd h1]
    rw [ho]
    rfl
  · next ho =>
    cases h
    refine hk_dec1 ?_
    unfold Decoder.instr
    rw [hk_bd h1]
    rw [ho]
    rfl
  · next ho =>
    cases h
    refine hk_dec1 ?_
    unfold Decoder.instr
    rw [hk_bd h1]
    rw [ho]
    rfl
  · next ho =>
    cases h
    refine hk_dec1 ?_
    unfold Decoder.instr
    rw [hk_bd h1]
    rw [ho]
    rfl
  · next ho =>
    cases h
    refine hk_dec1 ?_
    unfold Decoder.instr
    rw [hk_bd h1]
    rw [ho]
    rfl
  · next ho =>
    cases h
    refine hk_dec1 ?_
    unfold Decoder.instr
    rw [hk_bd h1]
    rw [ho]
    rfl
  · next ho =>
    cases h
    refine hk_dec1 ?_
    unfold Decoder.instr
    rw [hk_bd h1]
    rw [ho]
    rfl
  · next ho =>
    cases h
    refine hk_dec1 ?_
    unfold Decoder.instr
    rw [hk_bd h1]
    rw [ho]
    rfl
  · next ho =>
    cases h
    refine hk_dec1 ?_
    unfold Decoder.instr
    rw [hk_bd h1]
    rw [ho]
    rfl
  · next ho =>
    cases h
    refine hk_dec1 ?_
    unfold Decoder.instr
    rw [hk_bd h1]
    rw [ho]
    rfl
  · next ho =>
    cases h
    refine hk_dec1 ?_
    unfold Decoder.instr
    rw [hk_bd h1]
    rw [ho]
    rfl
  · next ho =>
    cases h
    refine hk_dec1 ?_
    unfold Decoder.instr
    rw [hk_bd h1]
    rw [ho]
    rfl
  · next ho =>
    cases h
    refine hk_dec1 ?_
    unfold Decoder.instr
    rw [hk_bd h1]
    rw [ho]
    rfl
  · next ho =>
    cases h
    refine hk_dec1 ?_
    unfold Decoder.instr
    rw [hk_bd h1]
    rw [ho]
    rfl
  · next ho =>
    cases h
    refine hk_dec1 ?_
    unfold Decoder.instr
    rw [hk_bd h1]
    rw [ho]
    rfl
  · next ho =>
    cases h
    refine hk_dec1 ?_
    unfold Decoder.instr
    rw [hk_bd h1]
    rw [ho]
    rfl
  · next ho =>
    cases h
    refine hk_dec1 ?_
    unfold Decoder.instr
    rw [hk_bd h1]
    rw [ho]
    rfl
  · next ho =>
    cases h
    refine hk_dec1 ?_
    unfold Decoder.instr
    rw [hk_bd h1]
    rw [ho]
    rfl
  · next ho =>
    cases h
    refine hk_dec1 ?_
    unfold Decoder.instr
    rw [hk_bd h1]
    rw [ho]
    rfl
  · next ho =>
    cases h
    refine hk_dec1 ?_
    unfold Decoder.instr
    rw [hk_bd h1]
    rw [ho]
    rfl
  · next ho =>
    cases h
    refine hk_dec1 ?_
    unfold Decoder.instr
    rw [hk_bd h1]
    rw [ho]
    rfl
  · next ho =>
    cases h
    refine hk_dec1 ?_
    unfold Decoder.instr
    rw [hk_bd h1]
    rw [ho]
    rfl
  · next ho =>
    cases h
    refine hk_dec1 ?_
    unfold Decoder.instr
    rw [hk_bd h1]
    rw [ho]
    rfl
  · next ho =>
    cases h
    refine hk_dec1 ?_
    unfold Decoder.instr
    rw [hk_bd h1]
    rw [ho]
    rfl
  · next ho =>
    cases h
    refine hk_dec1 ?_
    unfold Decoder.instr
    rw [hk_bd h1]
    rw [ho]
    rfl
  · next ho =>
    cases h
    refine hk_dec1 ?_
    unfold Decoder.instr
    rw [hk_bd h1]
    rw [ho]
    rfl
  · next ho =>
    cases h
    refine hk_dec1 ?_
    unfold Decoder.instr
    rw [hk_bd h1]
    rw [ho]
    rfl
  · next ho =>
    cases h
    refine hk_dec1 ?_
    unfold Decoder.instr
    rw [hk_bd h1]
    rw [ho]
    rfl
  · next ho =>
    cases h
    refine hk_dec1 ?_
    unfold Decoder.instr
    rw [hk_bd h1]
    rw [ho]
    rfl
  · next ho =>
    cases h
    refine hk_dec1 ?_
    unfold Decoder.instr
    rw [hk_bd h1]
    rw [ho]
    rfl
  · next ho =>
    cases h
    refine hk_dec1 ?_
    unfold Decoder.instr
    rw [hk_bd h1]
    rw [ho]
    rfl
  · next ho =>
    cases h
    refine hk_dec1 ?_
    unfold Decoder.instr
    rw [hk_bd h1]
    rw [ho]
    rfl
  · next ho =>
    cases h
    refine hk_dec1 ?_
    unfold Decoder.instr
    rw [hk_bd h1]
    rw [ho]
    rfl
  · next ho =>
    cases h
    refine hk_dec1 ?_
    unfold Decoder.instr
    rw [hk_bd h1]
    rw [ho]
    rfl
  · next ho =>
    cases h
    refine hk_dec1 ?_
    unfold Decoder.instr
    rw [hk_bd h1]
    rw [ho]
    rfl
  · next ho =>
    cases h
    refine hk_dec1 ?_
    unfold Decoder.instr
    rw [hk_bd h1]
    rw [ho]
    rfl
  · next ho =>
    unfold hk_a11 at h
    split at h
    · cases h
      obtain ⟨h3, h4⟩ := hk_rd1 h2
      obtain ⟨h5, -⟩ := hk_rd1 h4
      refine hk_dec1 ?_
      unfold Decoder.instr
      rw [hk_bd h1]
      rw [ho]
      exact (hk_bd h3).trans (hk_bd (hk_mp h5))
    · cases h
  · next ho =>
    cases h
    refine hk_dec1 ?_
    unfold Decoder.instr
    rw [hk_bd h1]
    rw [ho]
    rfl
  · next ho =>
    cases h
    refine hk_dec1 ?_
    unfold Decoder.instr
    rw [hk_bd h1]
    rw [ho]
    rfl
  · next ho =>
    cases h
    refine hk_dec1 ?_
    unfold Decoder.instr
    rw [hk_bd h1]
    rw [ho]
    rfl
  · next ho =>
    unfold hk_a2 at h
    split at h
    · cases h
      have h3 := hk_rd2 h2
      refine hk_dec1 ?_
      unfold Decoder.instr
      rw [hk_bd h1]
      rw [ho]
      exact hk_bd (hk_mp h3)
    · cases h
  · next ho =>
    unfold hk_a2 at h
    split at h
    · cases h
      have h3 := hk_rd2 h2
      refine hk_dec1 ?_
      unfold Decoder.instr
      rw [hk_bd h1]
      rw [ho]
      exact hk_bd (hk_mp h3)
    · cases h
  · next ho =>
    unfold hk_a2 at h
    split at h
    · cases h
      have h3 := hk_rd2 h2
      refine hk_dec1 ?_
      unfold Decoder.instr
      rw [hk_bd h1]
      rw [ho]
      exact hk_bd (hk_mp h3)
    · cases h
  · next ho =>
    unfold hk_a2 at h
    split at h
    · cases h
      have h3 := hk_rd2 h2
      refine hk_dec1 ?_
      unfold Decoder.instr
      rw [hk_bd h1]
      rw [ho]
      exact hk_bd (hk_mp h3)
    · cases h
  · next ho =>
    unfold hk_a2 at h
    split at h
    · cases h
      have h3 := hk_rd2 h2
      refine hk_dec1 ?_
      unfold Decoder.instr
      rw [hk_bd h1]
      rw [ho]
      exact hk_bd (hk_mp h3)
    · cases h
  · next ho =>
    unfold hk_a2 at h
    split at h
    · cases h
      have h3 := hk_rd2 h2
      refine hk_dec1 ?_
      unfold Decoder.instr
      rw [hk_bd h1]
      rw [ho]
      exact hk_bd (hk_mp h3)
    · cases h
  · next ho =>
    unfold hk_a2 at h
    split at h
    · cases h
      have h3 := hk_rd2 h2
      refine hk_dec1 ?_
      unfold Decoder.instr
      rw [hk_bd h1]
      rw [ho]
      exact hk_bd (hk_mp h3)
    · cases h
  · next ho =>
    unfold hk_a2 at h
    split at h
    · cases h
      have h3 := hk_rd2 h2
      refine hk_dec1 ?_
      unfold Decoder.instr
      rw [hk_bd h1]
      rw [ho]
      exact hk_bd (hk_mp h3)
    · cases h
  · next ho =>
    unfold hk_a2 at h
    split at h
    · cases h
      have h3 := hk_rd2 h2
      refine hk_dec1 ?_
      unfold Decoder.instr
      rw [hk_bd h1]
      rw [ho]
      exact hk_bd (hk_mp h3)
    · cases h
  · next ho =>
    unfold hk_a2 at h
    split at h
    · cases h
      have h3 := hk_rd2 h2
      refine hk_dec1 ?_
      unfold Decoder.instr
      rw [hk_bd h1]
      rw [ho]
      exact hk_bd (hk_mp h3)
    · cases h
  · next ho =>
    unfold hk_a2 at h
    split at h
    · cases h
      have h3 := hk_rd2 h2
      refine hk_dec1 ?_
      unfold Decoder.instr
      rw [hk_bd h1]
      rw [ho]
      exact hk_bd (hk_mp h3)
    · cases h
  · next ho =>
    unfold hk_a2 at h
    split at h
    · cases h
      have h3 := hk_rd2 h2
      refine hk_dec1 ?_
      unfold Decoder.instr
      rw [hk_bd h1]
      rw [ho]
      exact hk_bd (hk_mp h3)
    · cases h
  · next ho =>
    unfold hk_a2 at h
    split at h
    · cases h
      have h3 := hk_rd2 h2
      refine hk_dec1 ?_
      unfold Decoder.instr
      rw [hk_bd h1]
      rw [ho]
      exact hk_bd (hk_mp h3)
    · cases h
  · next ho =>
    cases h
    refine hk_dec1 ?_
    unfold Decoder.instr
    rw [hk_bd h1]
    rw [ho]
    rfl
  · next ho =>
    cases h
    refine hk_dec1 ?_
    unfold Decoder.instr
    rw [hk_bd h1]
    rw [ho]
    rfl
  · next ho =>
    cases h
    refine hk_dec1 ?_
    unfold Decoder.instr
    rw [hk_bd h1]
    rw [ho]
    rfl
  · next ho =>
    unfold hk_a2 at h
    split at h
    · cases h
      have h3 := hk_rd2 h2
      refine hk_dec1 ?_
      unfold Decoder.instr
      rw [hk_bd h1]
      rw [ho]
      exact hk_bd h3
    · cases h
  · next ho =>
    unfold hk_a2 at h
    split at h
    · cases h
      have h3 := hk_rd2 h2
      refine hk_dec1 ?_
      unfold Decoder.instr
      rw [hk_bd h1]
      rw [ho]
      exact hk_bd h3
    · cases h
  · next ho =>
    unfold hk_a2 at h
    split at h
    · cases h
      have h3 := hk_rd2 h2
      refine hk_dec1 ?_
      unfold Decoder.instr
      rw [hk_bd h1]
      rw [ho]
      exact hk_bd h3
    · cases h
  · next ho =>
    unfold hk_a2 at h
    split at h
    · cases h
      have h3 := hk_rd2 h2
      refine hk_dec1 ?_
      unfold Decoder.instr
      rw [hk_bd h1]
      rw [ho]
      exact hk_bd h3
    · cases h
  · next ho =>
    unfold hk_a2 at h
    split at h
    · cases h
      have h3 := hk_rd2 h2
      refine hk_dec1 ?_
      unfold Decoder.instr
      rw [hk_bd h1]
      rw [ho]
      exact hk_bd h3
    · cases h
  · next ho =>
    unfold hk_a2 at h
    split at h
    · cases h
      have h3 := hk_rd2 h2
      refine hk_dec1 ?_
      unfold Decoder.instr
      rw [hk_bd h1]
      rw [ho]
      exact hk_bd h3
    · cases h
  · next ho =>
    unfold hk_a2 at h
    split at h
    · cases h
      have h3 := hk_rd2 h2
      refine hk_dec1 ?_
      unfold Decoder.instr
      rw [hk_bd h1]
      rw [ho]
      exact hk_bd h3
    · cases h
  · next ho =>
    cases h
    refine hk_dec1 ?_
    unfold Decoder.instr
    rw [hk_bd h1]
    rw [ho]
    rfl
  · next ho =>
    cases h
    refine hk_dec1 ?_
    unfold Decoder.instr
    rw [hk_bd h1]
    rw [ho]
    rfl
  · next ho =>
    unfold hk_a2 at h
    split at h
    · cases h
      have h3 := hk_rd2 h2
      refine hk_dec1 ?_
      unfold Decoder.instr
      rw [hk_bd h1]
      rw [ho]
      exact hk_bd (hk_mp h3)
    · cases h
  · cases h
/-- the rows of a code against its bytes -/
def hk_wlk (code : ByteArray) : List UInt8 → Nat → List hk_E → Bool
  | _, _, [] => true
  | bs, pc, e :: r => decide (e.1 = pc) && (decide (hk_dc bs = some (e.2.1, e.2.2.1)) || decide (decode code e.1 = .ok (e.2.1, e.2.2.1))) && hk_wlk code (bs.drop e.2.2.1) (pc + e.2.2.1) r
theorem hk_wlk_ok {code : ByteArray} : ∀ {cd : List hk_E} {pc : Nat}, hk_wlk code (code.data.toList.drop pc) pc cd = true → ∀ e ∈ cd, decode code e.1 = .ok (e.2.1, e.2.2.1)
  | [], _, _, e, he => absurd he List.not_mem_nil
  | x :: r, pc, h, e, he => by
    simp only [hk_wlk, Bool.and_eq_true, Bool.or_eq_true, decide_eq_true_eq] at h
    obtain ⟨⟨h1, h2⟩, h3⟩ := h
    rcases List.mem_cons.mp he with rfl | he
    · rcases h2 with h2 | h2
      · rw [h1]
        exact hk_dc_ok h2
      · exact h2
    · rw [List.drop_drop] at h3
      exact hk_wlk_ok h3 e he
end
section
/-! classes of this claim -/
theorem hk_wl_in : ∀ w ∈ hk_wl, w ∈ lw_tbl := fun w h => (List.mem_filter.mp h).1
set_option maxRecDepth 100000 in
theorem hk_wl_good : hk_wl.all goodWord = true := by decide +kernel
theorem hk_sub {ws : List Jvm.Cond} (ps : List Nat) (h : ws = ps.filterMap hk_lk) : ∀ w ∈ ws, w ∈ hk_wl := by
  intro w hw
  rw [h] at hw
  obtain ⟨i, -, hi⟩ := List.mem_filterMap.mp hw
  exact hk_lk_in hi
def hk_C0 : String := "HullKeepers$Crew"
def hk_F0 : u_T := fun k => match k with
  | 0 => ("HullKeepers$Crew", "supply", "[I", true)
  | 1 => ("HullKeepers$Crew", "need", "[I", true)
  | 2 => ("HullKeepers$Crew", "set", "I", false)
  | _ => ("HullKeepers$Crew", "worth", "I", false)
def hk_t0 : Nat → FieldType := fun k => match k with
  | 0 => .array .int
  | 1 => .array .int
  | 2 => .int
  | _ => .int
set_option maxRecDepth 100000 in
theorem hk_uw0 : ∀ w ∈ u_ws hk_C0 hk_F0 4, w ∈ hk_wl := hk_sub [1055, 1057, 1059, 1061] (by decide +kernel)
def hk_C1 : String := "HullKeepers$House"
def hk_F1 : u_T := fun k => match k with
  | 0 => ("HullKeepers$House", "ships", "LHullKeepers$Table;", true)
  | 1 => ("HullKeepers$House", "plates", "LHullKeepers$Table;", true)
  | 2 => ("HullKeepers$House", "readings", "LHullKeepers$Table;", true)
  | 3 => ("HullKeepers$House", "gauges", "LHullKeepers$Table;", true)
  | 4 => ("HullKeepers$House", "texts", "LHullKeepers$Table;", true)
  | 5 => ("HullKeepers$House", "hulls", "LHullKeepers$Table;", true)
  | 6 => ("HullKeepers$House", "tests", "LHullKeepers$Table;", true)
  | 7 => ("HullKeepers$House", "hands", "LHullKeepers$Table;", true)
  | 8 => ("HullKeepers$House", "works", "LHullKeepers$Table;", true)
  | 9 => ("HullKeepers$House", "wears", "[I", true)
  | 10 => ("HullKeepers$House", "seas", "[I", true)
  | 11 => ("HullKeepers$House", "waves", "[I", true)
  | 12 => ("HullKeepers$House", "now", "I", false)
  | 13 => ("HullKeepers$House", "bound", "I", false)
  | 14 => ("HullKeepers$House", "wire", "I", false)
  | 15 => ("HullKeepers$House", "docks", "I", false)
  | _ => ("HullKeepers$House", "income", "I", false)
def hk_t1 : Nat → FieldType := fun k => match k with
  | 0 => .object "HullKeepers$Table"
  | 1 => .object "HullKeepers$Table"
  | 2 => .object "HullKeepers$Table"
  | 3 => .object "HullKeepers$Table"
  | 4 => .object "HullKeepers$Table"
  | 5 => .object "HullKeepers$Table"
  | 6 => .object "HullKeepers$Table"
  | 7 => .object "HullKeepers$Table"
  | 8 => .object "HullKeepers$Table"
  | 9 => .array .int
  | 10 => .array .int
  | 11 => .array .int
  | 12 => .int
  | 13 => .int
  | 14 => .int
  | 15 => .int
  | _ => .int
set_option maxRecDepth 100000 in
theorem hk_uw1 : ∀ w ∈ u_ws hk_C1 hk_F1 17, w ∈ hk_wl := hk_sub [628, 630, 632, 634, 636, 638, 640, 642, 644, 646, 648, 650, 652, 654, 656, 658, 660] (by decide +kernel)
def hk_C2 : String := "HullKeepers$LeakFinder"
def hk_F2 : u_T := fun k => match k with
  | 0 => ("HullKeepers$LeakFinder", "found", "I", false)
  | _ => ("HullKeepers$LeakFinder", "rivals", "I", false)
def hk_t2 : Nat → FieldType := fun k => match k with
  | 0 => .int
  | _ => .int
set_option maxRecDepth 100000 in
theorem hk_uw2 : ∀ w ∈ u_ws hk_C2 hk_F2 2, w ∈ hk_wl := hk_sub [1038, 1040] (by decide +kernel)
def hk_C3 : String := "HullKeepers$Planner"
def hk_F3 : u_T := fun k => match k with
  | 0 => ("HullKeepers$Planner", "needs", "[I", true)
  | 1 => ("HullKeepers$Planner", "strides", "[I", true)
  | 2 => ("HullKeepers$Planner", "steps", "[I", true)
  | 3 => ("HullKeepers$Planner", "coins", "[I", true)
  | 4 => ("HullKeepers$Planner", "chosen", "[I", true)
  | 5 => ("HullKeepers$Planner", "house", "LHullKeepers$House;", true)
  | 6 => ("HullKeepers$Planner", "bests", "[I", false)
  | 7 => ("HullKeepers$Planner", "states", "I", false)
  | 8 => ("HullKeepers$Planner", "years", "I", false)
  | 9 => ("HullKeepers$Planner", "letGo", "I", false)
  | 10 => ("HullKeepers$Planner", "dockings", "I", false)
  | _ => ("HullKeepers$Planner", "isMade", "Z", false)
def hk_t3 : Nat → FieldType := fun k => match k with
  | 0 => .array .int
  | 1 => .array .int
  | 2 => .array .int
  | 3 => .array .int
  | 4 => .array .int
  | 5 => .object "HullKeepers$House"
  | 6 => .array .int
  | 7 => .int
  | 8 => .int
  | 9 => .int
  | 10 => .int
  | _ => .boolean
set_option maxRecDepth 100000 in
theorem hk_uw3 : ∀ w ∈ u_ws hk_C3 hk_F3 12, w ∈ hk_wl := hk_sub [731, 733, 735, 737, 739, 741, 743, 745, 747, 749, 751, 1025] (by decide +kernel)
def hk_C4 : String := "HullKeepers$Reader"
def hk_F4 : u_T := fun k => match k with
  | 0 => ("HullKeepers$Reader", "house", "LHullKeepers$House;", true)
  | 1 => ("HullKeepers$Reader", "text", "I", false)
  | 2 => ("HullKeepers$Reader", "plate", "I", false)
  | 3 => ("HullKeepers$Reader", "length", "I", false)
  | 4 => ("HullKeepers$Reader", "place", "I", false)
  | _ => ("HullKeepers$Reader", "flaw", "I", false)
def hk_t4 : Nat → FieldType := fun k => match k with
  | 0 => .object "HullKeepers$House"
  | 1 => .int
  | 2 => .int
  | 3 => .int
  | 4 => .int
  | _ => .int
set_option maxRecDepth 100000 in
theorem hk_uw4 : ∀ w ∈ u_ws hk_C4 hk_F4 6, w ∈ hk_wl := hk_sub [676, 678, 680, 682, 684, 686] (by decide +kernel)
def hk_C5 : String := "HullKeepers$Storms"
def hk_F5 : u_T := fun k => match k with
  | 0 => ("HullKeepers$Storms", "leaks", "[I", true)
  | 1 => ("HullKeepers$Storms", "water", "[I", true)
  | 2 => ("HullKeepers$Storms", "sank", "[I", true)
  | 3 => ("HullKeepers$Storms", "month", "I", false)
  | _ => ("HullKeepers$Storms", "sinking", "I", false)
def hk_t5 : Nat → FieldType := fun k => match k with
  | 0 => .array .int
  | 1 => .array .int
  | 2 => .array .int
  | 3 => .int
  | _ => .int
set_option maxRecDepth 100000 in
theorem hk_uw5 : ∀ w ∈ u_ws hk_C5 hk_F5 5, w ∈ hk_wl := hk_sub [702, 704, 706, 708, 710] (by decide +kernel)
def hk_C6 : String := "HullKeepers$Table"
def hk_F6 : u_T := fun k => match k with
  | 0 => ("HullKeepers$Table", "most", "I", true)
  | 1 => ("HullKeepers$Table", "columns", "I", true)
  | 2 => ("HullKeepers$Table", "cells", "[I", true)
  | _ => ("HullKeepers$Table", "rows", "I", false)
def hk_t6 : Nat → FieldType := fun k => match k with
  | 0 => .int
  | 1 => .int
  | 2 => .array .int
  | _ => .int
set_option maxRecDepth 100000 in
theorem hk_uw6 : ∀ w ∈ u_ws hk_C6 hk_F6 4, w ∈ hk_wl := hk_sub [559, 561, 563, 565] (by decide +kernel)
def hk_C7 : String := "HullKeepers"
def hk_F7 : u_T := fun k => match k with
  | 0 => ("HullKeepers", "house", "LHullKeepers$House;", true)
  | 1 => ("HullKeepers", "images", "[LHullKeepers$House;", true)
  | 2 => ("HullKeepers", "reader", "LHullKeepers$Reader;", true)
  | 3 => ("HullKeepers", "storms", "LHullKeepers$Storms;", true)
  | 4 => ("HullKeepers", "planner", "LHullKeepers$Planner;", true)
  | 5 => ("HullKeepers", "leakFinder", "LHullKeepers$LeakFinder;", true)
  | _ => ("HullKeepers", "crew", "LHullKeepers$Crew;", true)
def hk_t7 : Nat → FieldType := fun k => match k with
  | 0 => .object "HullKeepers$House"
  | 1 => .array (.object "HullKeepers$House")
  | 2 => .object "HullKeepers$Reader"
  | 3 => .object "HullKeepers$Storms"
  | 4 => .object "HullKeepers$Planner"
  | 5 => .object "HullKeepers$LeakFinder"
  | _ => .object "HullKeepers$Crew"
set_option maxRecDepth 100000 in
theorem hk_uw7 : ∀ w ∈ u_ws hk_C7 hk_F7 7, w ∈ hk_wl := hk_sub [1071, 1073, 1075, 1077, 1079, 1081, 1083] (by decide +kernel)
def hk_C8 : String := "HullKeepersModel"
def hk_F8 : u_T := fun k => match k with
  | 0 => ("HullKeepersModel", "st", "[I", true)
  | 1 => ("HullKeepersModel", "kept", "[I", true)
  | 2 => ("HullKeepersModel", "images", "[I", true)
  | 3 => ("HullKeepersModel", "isKept", "[Z", true)
  | 4 => ("HullKeepersModel", "steps", "I", false)
  | 5 => ("HullKeepersModel", "step", "[I", true)
  | 6 => ("HullKeepersModel", "with", "[I", true)
  | 7 => ("HullKeepersModel", "waiting", "I", false)
  | 8 => ("HullKeepersModel", "waits", "[I", true)
  | 9 => ("HullKeepersModel", "value", "[J", true)
  | 10 => ("HullKeepersModel", "best", "[I", true)
  | _ => ("HullKeepersModel", "docked", "[I", true)
def hk_t8 : Nat → FieldType := fun k => match k with
  | 0 => .array .int
  | 1 => .array .int
  | 2 => .array .int
  | 3 => .array .boolean
  | 4 => .int
  | 5 => .array .int
  | 6 => .array .int
  | 7 => .int
  | 8 => .array .int
  | 9 => .array .long
  | 10 => .array .int
  | _ => .array .int
set_option maxRecDepth 100000 in
theorem hk_uw8 : ∀ w ∈ u_ws hk_C8 hk_F8 12, w ∈ hk_wl := hk_sub [2189, 2191, 2193, 2195, 2197, 2199, 2201, 2203, 2205, 2207, 2209, 2211] (by decide +kernel)
def hk_cls : List vw_C := [(hk_C0, hk_F0, 4), (hk_C1, hk_F1, 17), (hk_C2, hk_F2, 2), (hk_C3, hk_F3, 12), (hk_C4, hk_F4, 6), (hk_C5, hk_F5, 5), (hk_C6, hk_F6, 4), (hk_C7, hk_F7, 7), (hk_C8, hk_F8, 12)]
def hk_kdl : List (List Nat) := [[1, 1, 0, 0], [1, 1, 1, 1, 1, 1, 1, 1, 1, 1, 1, 1, 0, 0, 0, 0, 0], [0, 0], [1, 1, 1, 1, 1, 1, 1, 0, 0, 0, 0, 2], [1, 0, 0, 0, 0, 0], [1, 1, 1, 0, 0], [0, 0, 1, 0], [1, 1, 1, 1, 1, 1, 1], [1, 1, 1, 1, 0, 1, 1, 0, 1, 1, 1, 1]]
def hk_kd (a k : Nat) : Nat := ((hk_kdl[a]?).getD [])[k]?.getD 0
theorem hk_cok1 {ci : Nat} {C : String} {T : u_T} {N : Nat} {ty : Nat → FieldType} (h1 : ∀ w ∈ u_ws C T N, w ∈ hk_wl) (h2 : ∀ k, k < N → parseFieldDescriptor (T k).2.2.1 = some (ty k)) (h3 : ∀ k, k < N → (hk_kd ci k = 0 ∧ ty k = .int) ∨ (hk_kd ci k = 2 ∧ ty k = .boolean) ∨ (hk_kd ci k = 1 ∧ match ty k with | .object _ => True | .array _ => True | _ => False)) (h4 : ∀ a, a < N → ∀ b, b < N → a ≠ b → (T a).2.1 ≠ (T b).2.1) :
    (∀ w ∈ u_ws C T N, w ∈ hk_wl) ∧ (∃ ty : Nat → FieldType, (∀ k, k < N → parseFieldDescriptor (T k).2.2.1 = some (ty k)) ∧ ∀ k, k < N → (hk_kd ci k = 0 → ty k = .int) ∧ (hk_kd ci k = 1 → (∃ o, ty k = .object o) ∨ ∃ o, ty k = .array o) ∧ (hk_kd ci k = 2 → ty k = .boolean) ∧ hk_kd ci k ≤ 2) ∧ (∀ a, a < N → ∀ b, b < N → a ≠ b → (T a).2.1 ≠ (T b).2.1) := by
  refine ⟨h1, ⟨ty, h2, fun k hk => ?_⟩, h4⟩
  rcases h3 k hk with ⟨a, b⟩ | ⟨a, b⟩ | ⟨a, b⟩
  · exact ⟨fun _ => b, fun h => by omega, fun h => by omega, by omega⟩
  · exact ⟨fun h => by omega, fun h => by omega, fun _ => b, by omega⟩
  · refine ⟨fun h => by omega, fun _ => ?_, fun h => by omega, by omega⟩
    cases hty : ty k <;> rw [hty] at b <;> first | exact Or.inl ⟨_, rfl⟩ | exact Or.inr ⟨_, rfl⟩ | exact absurd b (by simp)
set_option maxRecDepth 100000 in
theorem hk_clsok : hk_Cok hk_cls hk_kd hk_wl := by
  intro ci q hq
  match ci, hq with
  | 0, hq => cases hq; exact hk_cok1 (ty := hk_t0) hk_uw0 (by decide +kernel) (fun k hk => by
      have hk : k < 4 := hk
      rcases (show k = 0 ∨ k = 1 ∨ k = 2 ∨ k = 3 by omega) with rfl | rfl | rfl | rfl <;> first | exact Or.inl ⟨rfl, rfl⟩ | exact Or.inr (Or.inl ⟨rfl, rfl⟩) | exact Or.inr (Or.inr ⟨rfl, trivial⟩)) (by decide +kernel)
  | 1, hq => cases hq; exact hk_cok1 (ty := hk_t1) hk_uw1 (by decide +kernel) (fun k hk => by
      have hk : k < 17 := hk
      rcases (show k = 0 ∨ k = 1 ∨ k = 2 ∨ k = 3 ∨ k = 4 ∨ k = 5 ∨ k = 6 ∨ k = 7 ∨ k = 8 ∨ k = 9 ∨ k = 10 ∨ k = 11 ∨ k = 12 ∨ k = 13 ∨ k = 14 ∨ k = 15 ∨ k = 16 by omega) with rfl | rfl | rfl | rfl | rfl | rfl | rfl | rfl | rfl | rfl | rfl | rfl | rfl | rfl | rfl | rfl | rfl <;> first | exact Or.inl ⟨rfl, rfl⟩ | exact Or.inr (Or.inl ⟨rfl, rfl⟩) | exact Or.inr (Or.inr ⟨rfl, trivial⟩)) (by decide +kernel)
  | 2, hq => cases hq; exact hk_cok1 (ty := hk_t2) hk_uw2 (by decide +kernel) (fun k hk => by
      have hk : k < 2 := hk
      rcases (show k = 0 ∨ k = 1 by omega) with rfl | rfl <;> first | exact Or.inl ⟨rfl, rfl⟩ | exact Or.inr (Or.inl ⟨rfl, rfl⟩) | exact Or.inr (Or.inr ⟨rfl, trivial⟩)) (by decide +kernel)
  | 3, hq => cases hq; exact hk_cok1 (ty := hk_t3) hk_uw3 (by decide +kernel) (fun k hk => by
      have hk : k < 12 := hk
      rcases (show k = 0 ∨ k = 1 ∨ k = 2 ∨ k = 3 ∨ k = 4 ∨ k = 5 ∨ k = 6 ∨ k = 7 ∨ k = 8 ∨ k = 9 ∨ k = 10 ∨ k = 11 by omega) with rfl | rfl | rfl | rfl | rfl | rfl | rfl | rfl | rfl | rfl | rfl | rfl <;> first | exact Or.inl ⟨rfl, rfl⟩ | exact Or.inr (Or.inl ⟨rfl, rfl⟩) | exact Or.inr (Or.inr ⟨rfl, trivial⟩)) (by decide +kernel)
  | 4, hq => cases hq; exact hk_cok1 (ty := hk_t4) hk_uw4 (by decide +kernel) (fun k hk => by
      have hk : k < 6 := hk
      rcases (show k = 0 ∨ k = 1 ∨ k = 2 ∨ k = 3 ∨ k = 4 ∨ k = 5 by omega) with rfl | rfl | rfl | rfl | rfl | rfl <;> first | exact Or.inl ⟨rfl, rfl⟩ | exact Or.inr (Or.inl ⟨rfl, rfl⟩) | exact Or.inr (Or.inr ⟨rfl, trivial⟩)) (by decide +kernel)
  | 5, hq => cases hq; exact hk_cok1 (ty := hk_t5) hk_uw5 (by decide +kernel) (fun k hk => by
      have hk : k < 5 := hk
      rcases (show k = 0 ∨ k = 1 ∨ k = 2 ∨ k = 3 ∨ k = 4 by omega) with rfl | rfl | rfl | rfl | rfl <;> first | exact Or.inl ⟨rfl, rfl⟩ | exact Or.inr (Or.inl ⟨rfl, rfl⟩) | exact Or.inr (Or.inr ⟨rfl, trivial⟩)) (by decide +kernel)
  | 6, hq => cases hq; exact hk_cok1 (ty := hk_t6) hk_uw6 (by decide +kernel) (fun k hk => by
      have hk : k < 4 := hk
      rcases (show k = 0 ∨ k = 1 ∨ k = 2 ∨ k = 3 by omega) with rfl | rfl | rfl | rfl <;> first | exact Or.inl ⟨rfl, rfl⟩ | exact Or.inr (Or.inl ⟨rfl, rfl⟩) | exact Or.inr (Or.inr ⟨rfl, trivial⟩)) (by decide +kernel)
  | 7, hq => cases hq; exact hk_cok1 (ty := hk_t7) hk_uw7 (by decide +kernel) (fun k hk => by
      have hk : k < 7 := hk
      rcases (show k = 0 ∨ k = 1 ∨ k = 2 ∨ k = 3 ∨ k = 4 ∨ k = 5 ∨ k = 6 by omega) with rfl | rfl | rfl | rfl | rfl | rfl | rfl <;> first | exact Or.inl ⟨rfl, rfl⟩ | exact Or.inr (Or.inl ⟨rfl, rfl⟩) | exact Or.inr (Or.inr ⟨rfl, trivial⟩)) (by decide +kernel)
  | 8, hq => cases hq; exact hk_cok1 (ty := hk_t8) hk_uw8 (by decide +kernel) (fun k hk => by
      have hk : k < 12 := hk
      rcases (show k = 0 ∨ k = 1 ∨ k = 2 ∨ k = 3 ∨ k = 4 ∨ k = 5 ∨ k = 6 ∨ k = 7 ∨ k = 8 ∨ k = 9 ∨ k = 10 ∨ k = 11 by omega) with rfl | rfl | rfl | rfl | rfl | rfl | rfl | rfl | rfl | rfl | rfl | rfl <;> first | exact Or.inl ⟨rfl, rfl⟩ | exact Or.inr (Or.inl ⟨rfl, rfl⟩) | exact Or.inr (Or.inr ⟨rfl, trivial⟩)) (by decide +kernel)
  | k + 9, hq => simp [hk_cls] at hq
def hk_shl : List hk_Sh := [(1, 7), (1, 1), (1, 6), (2, 54), (1, 6), (2, 576), (1, 6), (2, 750), (1, 6), (2, 12), (1, 6), (2, 244), (1, 6), (2, 12), (1, 6), (2, 40), (1, 6), (2, 16), (1, 6), (2, 24), (2, 3), (2, 600), (2, 90), (4, 2), (1, 4), (1, 5), (2, 360), (2, 6), (2, 6), (1, 3), (2, 4), (2, 4), (2, 16), (2, 16), (2, 10), (2, 0), (1, 2), (1, 0), (2, 32), (2, 5), (1, 8), (2, 2448), (2, 2448), (2, 4896), (3, 2), (2, 70), (2, 70), (2, 70), (5, 70), (2, 161051), (2, 4), (1, 1), (1, 6), (2, 54), (1, 6), (2, 576), (1, 6), (2, 750), (1, 6), (2, 12), (1, 6), (2, 244), (1, 6), (2, 12), (1, 6), (2, 40), (1, 6), (2, 16), (1, 6), (2, 24), (2, 3), (2, 600), (2, 90), (1, 1), (1, 6), (2, 54), (1, 6), (2, 576), (1, 6), (2, 750), (1, 6), (2, 12), (1, 6), (2, 244), (1, 6), (2, 12), (1, 6), (2, 40), (1, 6), (2, 16), (1, 6), (2, 24), (2, 3), (2, 600), (2, 90), (2, 100000), (6, 0)]
def hk_SH (p : Nat) : hk_Sh := (hk_shl[p]?).getD (0, 0)
end
section
/-! methods: their codes as the abstract machine reads them -/
def hk_c0 : List hk_E := [(0, .aload_n 0, 1, 0, (0, 0, 0, 0), 0, 0, []),
  (1, .invokespecial 1, 3, 0, (1, 531, 0, 0), 0, 0, []),
  (4, .aload_n 0, 1, 0, (0, 0, 0, 0), 0, 0, []),
  (5, .new 7, 3, 0, (1, 534, 535, 514), 0, 0, []),
  (8, .dup, 1, 0, (0, 0, 0, 0), 0, 0, []),
  (9, .invokespecial 9, 3, 0, (8, 536, 1, 2), 0, 0, []),
  (12, .putfield 10, 3, 0, (7, 1064, 0, 1), 0, 0, []),
  (15, .aload_n 0, 1, 0, (0, 0, 0, 0), 0, 0, []),
  (16, .iconst 2, 1, 0, (0, 0, 0, 0), 2, 0, []),
  (17, .anewarray 7, 3, 0, (0, 534, 0, 0), 0, 0, []),
  (20, .putfield 16, 3, 0, (7, 1065, 1, 1), 0, 0, []),
  (23, .aload_n 0, 1, 0, (0, 0, 0, 0), 0, 0, []),
  (24, .new 20, 3, 0, (4, 664, 665, 517), 0, 0, []),
  (27, .dup, 1, 0, (0, 0, 0, 0), 0, 0, []),
  (28, .aload_n 0, 1, 0, (0, 0, 0, 0), 0, 0, []),
  (29, .getfield 10, 3, 0, (7, 1064, 0, 1), 0, 0, []),
  (32, .invokespecial 22, 3, 0, (13, 666, 2, 5), 0, 0, []),
  (35, .putfield 25, 3, 0, (7, 1066, 2, 1), 0, 0, []),
  (38, .aload_n 0, 1, 0, (0, 0, 0, 0), 0, 0, []),
  (39, .new 29, 3, 0, (5, 689, 690, 518), 0, 0, []),
  (42, .dup, 1, 0, (0, 0, 0, 0), 0, 0, []),
  (43, .invokespecial 31, 3, 0, (14, 691, 1, 6), 0, 0, []),
  (46, .putfield 32, 3, 0, (7, 1067, 3, 1), 0, 0, []),
  (49, .aload_n 0, 1, 0, (0, 0, 0, 0), 0, 0, []),
  (50, .new 36, 3, 0, (3, 713, 714, 519), 0, 0, []),
  (53, .dup, 1, 0, (0, 0, 0, 0), 0, 0, []),
  (54, .aload_n 0, 1, 0, (0, 0, 0, 0), 0, 0, []),
  (55, .getfield 10, 3, 0, (7, 1064, 0, 1), 0, 0, []),
  (58, .invokespecial 38, 3, 0, (15, 715, 2, 4), 0, 0, []),
  (61, .putfield 39, 3, 0, (7, 1068, 4, 1), 0, 0, []),
  (64, .aload_n 0, 1, 0, (0, 0, 0, 0), 0, 0, []),
  (65, .new 43, 3, 0, (2, 1028, 1029, 520), 0, 0, []),
  (68, .dup, 1, 0, (0, 0, 0, 0), 0, 0, []),
  (69, .invokespecial 45, 3, 0, (16, 1030, 1, 3), 0, 0, []),
  (72, .putfield 46, 3, 0, (7, 1069, 5, 1), 0, 0, []),
  (75, .aload_n 0, 1, 0, (0, 0, 0, 0), 0, 0, []),
  (76, .new 50, 3, 0, (0, 1043, 1044, 521), 0, 0, []),
  (79, .dup, 1, 0, (0, 0, 0, 0), 0, 0, []),
  (80, .invokespecial 52, 3, 0, (17, 1045, 1, 1), 0, 0, []),
  (83, .putfield 53, 3, 0, (7, 1070, 6, 1), 0, 0, []),
  (86, .return_, 1, 0, (0, 0, 0, 0), 0, 0, [])]
def hk_m0 : hk_Q := (⟨"HullKeepers", "<init>", "()V"⟩, prog_1_method_1_code, 1, none, (1, 1, 0, 0, 0, 0), hk_c0)
def hk_c1 : List hk_E := [(0, .aload_n 0, 1, 0, (0, 0, 0, 0), 0, 0, []),
  (1, .invokespecial 3, 3, 0, (1, 539, 0, 0), 0, 0, []),
  (4, .aload_n 0, 1, 0, (0, 0, 0, 0), 0, 0, []),
  (5, .new 9, 3, 0, (6, 540, 541, 515), 0, 0, []),
  (8, .dup, 1, 0, (0, 0, 0, 0), 0, 0, []),
  (9, .bipush 6, 2, 0, (0, 0, 0, 0), 6, 0, []),
  (11, .bipush 9, 2, 0, (0, 0, 0, 0), 9, 0, []),
  (13, .invokespecial 13, 3, 0, (9, 542, 3, 7), 0, 0, []),
  (16, .putfield 16, 3, 0, (1, 582, 0, 1), 0, 0, []),
  (19, .aload_n 0, 1, 0, (0, 0, 0, 0), 0, 0, []),
  (20, .new 9, 3, 0, (6, 540, 541, 515), 0, 0, []),
  (23, .dup, 1, 0, (0, 0, 0, 0), 0, 0, []),
  (24, .bipush 96, 2, 0, (0, 0, 0, 0), 96, 0, []),
  (26, .bipush 6, 2, 0, (0, 0, 0, 0), 6, 0, []),
  (28, .invokespecial 13, 3, 0, (9, 542, 3, 7), 0, 0, []),
  (31, .putfield 20, 3, 0, (1, 585, 1, 1), 0, 0, []),
  (34, .aload_n 0, 1, 0, (0, 0, 0, 0), 0, 0, []),
  (35, .new 9, 3, 0, (6, 540, 541, 515), 0, 0, []),
  (38, .dup, 1, 0, (0, 0, 0, 0), 0, 0, []),
  (39, .sipush 150, 3, 0, (0, 0, 0, 0), 150, 0, []),
  (42, .iconst 5, 1, 0, (0, 0, 0, 0), 5, 0, []),
  (43, .invokespecial 13, 3, 0, (9, 542, 3, 7), 0, 0, []),
  (46, .putfield 23, 3, 0, (1, 588, 2, 1), 0, 0, []),
  (49, .aload_n 0, 1, 0, (0, 0, 0, 0), 0, 0, []),
  (50, .new 9, 3, 0, (6, 540, 541, 515), 0, 0, []),
  (53, .dup, 1, 0, (0, 0, 0, 0), 0, 0, []),
  (54, .iconst 4, 1, 0, (0, 0, 0, 0), 4, 0, []),
  (55, .iconst 3, 1, 0, (0, 0, 0, 0), 3, 0, []),
  (56, .invokespecial 13, 3, 0, (9, 542, 3, 7), 0, 0, []),
  (59, .putfield 26, 3, 0, (1, 590, 3, 1), 0, 0, []),
  (62, .aload_n 0, 1, 0, (0, 0, 0, 0), 0, 0, []),
  (63, .new 9, 3, 0, (6, 540, 541, 515), 0, 0, []),
  (66, .dup, 1, 0, (0, 0, 0, 0), 0, 0, []),
  (67, .iconst 4, 1, 0, (0, 0, 0, 0), 4, 0, []),
  (68, .bipush 61, 2, 0, (0, 0, 0, 0), 61, 0, []),
  (70, .invokespecial 13, 3, 0, (9, 542, 3, 7), 0, 0, []),
  (73, .putfield 29, 3, 0, (1, 592, 4, 1), 0, 0, []),
  (76, .aload_n 0, 1, 0, (0, 0, 0, 0), 0, 0, []),
  (77, .new 9, 3, 0, (6, 540, 541, 515), 0, 0, []),
  (80, .dup, 1, 0, (0, 0, 0, 0), 0, 0, []),
  (81, .iconst 4, 1, 0, (0, 0, 0, 0), 4, 0, []),
  (82, .iconst 3, 1, 0, (0, 0, 0, 0), 3, 0, []),
  (83, .invokespecial 13, 3, 0, (9, 542, 3, 7), 0, 0, []),
  (86, .putfield 32, 3, 0, (1, 595, 5, 1), 0, 0, []),
  (89, .aload_n 0, 1, 0, (0, 0, 0, 0), 0, 0, []),
  (90, .new 9, 3, 0, (6, 540, 541, 515), 0, 0, []),
  (93, .dup, 1, 0, (0, 0, 0, 0), 0, 0, []),
  (94, .bipush 20, 2, 0, (0, 0, 0, 0), 20, 0, []),
  (96, .iconst 2, 1, 0, (0, 0, 0, 0), 2, 0, []),
  (97, .invokespecial 13, 3, 0, (9, 542, 3, 7), 0, 0, []),
  (100, .putfield 35, 3, 0, (1, 598, 6, 1), 0, 0, []),
  (103, .aload_n 0, 1, 0, (0, 0, 0, 0), 0, 0, []),
  (104, .new 9, 3, 0, (6, 540, 541, 515), 0, 0, []),
  (107, .dup, 1, 0, (0, 0, 0, 0), 0, 0, []),
  (108, .bipush 8, 2, 0, (0, 0, 0, 0), 8, 0, []),
  (110, .iconst 2, 1, 0, (0, 0, 0, 0), 2, 0, []),
  (111, .invokespecial 13, 3, 0, (9, 542, 3, 7), 0, 0, []),
  (114, .putfield 38, 3, 0, (1, 600, 7, 1), 0, 0, []),
  (117, .aload_n 0, 1, 0, (0, 0, 0, 0), 0, 0, []),
  (118, .new 9, 3, 0, (6, 540, 541, 515), 0, 0, []),
  (121, .dup, 1, 0, (0, 0, 0, 0), 0, 0, []),
  (122, .bipush 8, 2, 0, (0, 0, 0, 0), 8, 0, []),
  (124, .iconst 3, 1, 0, (0, 0, 0, 0), 3, 0, []),
  (125, .invokespecial 13, 3, 0, (9, 542, 3, 7), 0, 0, []),
  (128, .putfield 41, 3, 0, (1, 603, 8, 1), 0, 0, []),
  (131, .aload_n 0, 1, 0, (0, 0, 0, 0), 0, 0, []),
  (132, .iconst 3, 1, 0, (0, 0, 0, 0), 3, 0, []),
  (133, .newarray .int, 2, 0, (0, 0, 0, 0), 0, 0, []),
  (135, .putfield 44, 3, 0, (1, 606, 9, 1), 0, 0, []),
  (138, .aload_n 0, 1, 0, (0, 0, 0, 0), 0, 0, []),
  (139, .sipush 600, 3, 0, (0, 0, 0, 0), 600, 0, []),
  (142, .newarray .int, 2, 0, (0, 0, 0, 0), 0, 0, []),
  (144, .putfield 48, 3, 0, (1, 608, 10, 1), 0, 0, []),
  (147, .aload_n 0, 1, 0, (0, 0, 0, 0), 0, 0, []),
  (148, .bipush 90, 2, 0, (0, 0, 0, 0), 90, 0, []),
  (150, .newarray .int, 2, 0, (0, 0, 0, 0), 0, 0, []),
  (152, .putfield 51, 3, 0, (1, 611, 11, 1), 0, 0, []),
  (155, .iconst 0, 1, 0, (0, 0, 0, 0), 0, 0, []),
  (156, .istore_n 1, 1, 0, (1, 0, 0, 0), 0, 0, []),
  (157, .iload_n 1, 1, 1, (1, 0, 0, 0), 0, 0, []),
  (158, .iconst 4, 1, 0, (0, 0, 0, 0), 4, 0, []),
  (159, .if_icmp .ge 22, 3, 0, (181, 0, 0, 0), 0, 0, []),
  (162, .aload_n 0, 1, 0, (0, 0, 0, 0), 0, 0, []),
  (163, .getfield 26, 3, 0, (1, 590, 3, 1), 0, 0, []),
  (166, .iconst 0, 1, 0, (0, 0, 0, 0), 0, 0, []),
  (167, .iconst 0, 1, 0, (0, 0, 0, 0), 0, 0, []),
  (168, .iconst (-1), 1, 0, (0, 0, 0, 0), (-1), 0, []),
  (169, .iconst 0, 1, 0, (0, 0, 0, 0), 0, 0, []),
  (170, .iconst 0, 1, 0, (0, 0, 0, 0), 0, 0, []),
  (171, .invokevirtual 54, 3, 0, (10, 569, 6, 7), 0, 0, []),
  (174, .pop, 1, 0, (0, 0, 0, 0), 0, 0, []),
  (175, .iinc 1 1, 3, 0, (1, 0, 0, 0), 1, 0, []),
  (178, .goto (-21), 3, 0, (157, 0, 0, 0), 0, 0, []),
  (181, .iconst 0, 1, 0, (0, 0, 0, 0), 0, 0, []),
  (182, .istore_n 1, 1, 0, (1, 0, 0, 0), 0, 0, []),
  (183, .iload_n 1, 1, 1, (1, 0, 0, 0), 0, 0, []),
  (184, .iconst 4, 1, 0, (0, 0, 0, 0), 4, 0, []),
  (185, .if_icmp .ge 22, 3, 0, (207, 0, 0, 0), 0, 0, []),
  (188, .aload_n 0, 1, 0, (0, 0, 0, 0), 0, 0, []),
  (189, .getfield 29, 3, 0, (1, 592, 4, 1), 0, 0, []),
  (192, .iconst 0, 1, 0, (0, 0, 0, 0), 0, 0, []),
  (193, .iconst 0, 1, 0, (0, 0, 0, 0), 0, 0, []),
  (194, .iconst 0, 1, 0, (0, 0, 0, 0), 0, 0, []),
  (195, .iconst 0, 1, 0, (0, 0, 0, 0), 0, 0, []),
  (196, .iconst 0, 1, 0, (0, 0, 0, 0), 0, 0, []),
  (197, .invokevirtual 54, 3, 0, (10, 569, 6, 7), 0, 0, []),
  (200, .pop, 1, 0, (0, 0, 0, 0), 0, 0, []),
  (201, .iinc 1 1, 3, 0, (1, 0, 0, 0), 1, 0, []),
  (204, .goto (-21), 3, 0, (183, 0, 0, 0), 0, 0, []),
  (207, .aload_n 0, 1, 0, (0, 0, 0, 0), 0, 0, []),
  (208, .getfield 44, 3, 0, (1, 606, 9, 1), 0, 0, []),
  (211, .iconst 0, 1, 0, (0, 0, 0, 0), 0, 0, []),
  (212, .iconst 1, 1, 0, (0, 0, 0, 0), 1, 0, []),
  (213, .iastore, 1, 0, (0, 0, 0, 0), 0, 0, []),
  (214, .aload_n 0, 1, 0, (0, 0, 0, 0), 0, 0, []),
  (215, .getfield 44, 3, 0, (1, 606, 9, 1), 0, 0, []),
  (218, .iconst 1, 1, 0, (0, 0, 0, 0), 1, 0, []),
  (219, .iconst 4, 1, 0, (0, 0, 0, 0), 4, 0, []),
  (220, .iastore, 1, 0, (0, 0, 0, 0), 0, 0, []),
  (221, .aload_n 0, 1, 0, (0, 0, 0, 0), 0, 0, []),
  (222, .getfield 44, 3, 0, (1, 606, 9, 1), 0, 0, []),
  (225, .iconst 2, 1, 0, (0, 0, 0, 0), 2, 0, []),
  (226, .iconst 2, 1, 0, (0, 0, 0, 0), 2, 0, []),
  (227, .iastore, 1, 0, (0, 0, 0, 0), 0, 0, []),
  (228, .aload_n 0, 1, 0, (0, 0, 0, 0), 0, 0, []),
  (229, .sipush 300, 3, 0, (0, 0, 0, 0), 300, 0, []),
  (232, .putfield 58, 3, 0, (1, 617, 13, 0), 0, 0, []),
  (235, .aload_n 0, 1, 0, (0, 0, 0, 0), 0, 0, []),
  (236, .ldc 62, 2, 0, (0, 581, 0, 0), 60000, 0, []),
  (238, .putfield 63, 3, 0, (1, 619, 14, 0), 0, 0, []),
  (241, .aload_n 0, 1, 0, (0, 0, 0, 0), 0, 0, []),
  (242, .iconst 1, 1, 0, (0, 0, 0, 0), 1, 0, []),
  (243, .putfield 66, 3, 0, (1, 622, 15, 0), 0, 0, []),
  (246, .aload_n 0, 1, 0, (0, 0, 0, 0), 0, 0, []),
  (247, .bipush 100, 2, 0, (0, 0, 0, 0), 100, 0, []),
  (249, .putfield 69, 3, 0, (1, 625, 16, 0), 0, 0, []),
  (252, .return_, 1, 0, (0, 0, 0, 0), 0, 0, [])]
def hk_m1 : hk_Q := (⟨"HullKeepers$House", "<init>", "()V"⟩, prog_3_method_1_code, 2, none, (1, 1, 0, 0, 0, 0), hk_c1)
def hk_c2 : List hk_E := [(0, .aload_n 0, 1, 0, (0, 0, 0, 0), 0, 0, []),
  (1, .invokespecial 3, 3, 0, (1, 545, 0, 0), 0, 0, []),
  (4, .aload_n 0, 1, 0, (0, 0, 0, 0), 0, 0, []),
  (5, .iconst 0, 1, 0, (0, 0, 0, 0), 0, 0, []),
  (6, .iload_n 1, 1, 0, (1, 0, 0, 0), 0, 0, []),
  (7, .invokestatic 9, 3, 0, (3, 546, 0, 0), 0, 0, []),
  (10, .putfield 15, 3, 0, (6, 549, 0, 0), 0, 0, []),
  (13, .aload_n 0, 1, 0, (0, 0, 0, 0), 0, 0, []),
  (14, .iconst 0, 1, 0, (0, 0, 0, 0), 0, 0, []),
  (15, .iload_n 2, 1, 0, (2, 0, 0, 0), 0, 0, []),
  (16, .invokestatic 9, 3, 0, (3, 546, 0, 0), 0, 0, []),
  (19, .putfield 21, 3, 0, (6, 550, 1, 0), 0, 0, []),
  (22, .aload_n 0, 1, 0, (0, 0, 0, 0), 0, 0, []),
  (23, .aload_n 0, 1, 0, (0, 0, 0, 0), 0, 0, []),
  (24, .getfield 15, 3, 0, (6, 549, 0, 0), 0, 0, []),
  (27, .aload_n 0, 1, 0, (0, 0, 0, 0), 0, 0, []),
  (28, .getfield 21, 3, 0, (6, 550, 1, 0), 0, 0, []),
  (31, .imul, 1, 0, (0, 0, 0, 0), 0, 0, []),
  (32, .newarray .int, 2, 0, (0, 0, 0, 0), 0, 0, []),
  (34, .putfield 24, 3, 0, (6, 551, 2, 1), 0, 0, []),
  (37, .return_, 1, 0, (0, 0, 0, 0), 0, 0, [])]
def hk_m2 : hk_Q := (⟨"HullKeepers$Table", "<init>", "(II)V"⟩, prog_8_method_1_code, 3, none, (3, 1, 0, 0, 0, 0), hk_c2)
def hk_c3 : List hk_E := [(0, .aload_n 0, 1, 0, (0, 0, 0, 0), 0, 0, []),
  (1, .invokevirtual 38, 3, 0, (11, 573, 1, 7), 0, 0, []),
  (4, .ifCond .eq 6, 3, 0, (10, 0, 0, 0), 0, 0, []),
  (7, .bipush (-4), 2, 0, (0, 0, 0, 0), (-4), 0, []),
  (9, .ireturn, 1, 0, (0, 0, 0, 0), 0, 0, []),
  (10, .aload_n 0, 1, 0, (0, 0, 0, 0), 0, 0, []),
  (11, .getfield 28, 3, 0, (6, 552, 3, 0), 0, 0, []),
  (14, .istore 6, 2, 0, (6, 0, 0, 0), 0, 0, []),
  (16, .iconst 0, 1, 0, (0, 0, 0, 0), 0, 0, []),
  (17, .istore 7, 2, 0, (7, 0, 0, 0), 0, 0, []),
  (19, .iload 7, 2, 1, (7, 0, 0, 0), 0, 0, []),
  (21, .aload_n 0, 1, 0, (0, 0, 0, 0), 0, 0, []),
  (22, .getfield 21, 3, 0, (6, 550, 1, 0), 0, 0, []),
  (25, .if_icmp .ge 18, 3, 0, (43, 0, 0, 0), 0, 0, []),
  (28, .aload_n 0, 1, 0, (0, 0, 0, 0), 0, 0, []),
  (29, .iload 6, 2, 0, (6, 0, 0, 0), 0, 0, []),
  (31, .iload 7, 2, 0, (7, 0, 0, 0), 0, 0, []),
  (33, .iconst 0, 1, 0, (0, 0, 0, 0), 0, 0, []),
  (34, .invokevirtual 34, 3, 0, (12, 577, 4, 7), 0, 0, []),
  (37, .iinc 7 1, 3, 0, (7, 0, 0, 0), 1, 0, []),
  (40, .goto (-21), 3, 0, (19, 0, 0, 0), 0, 0, []),
  (43, .aload_n 0, 1, 0, (0, 0, 0, 0), 0, 0, []),
  (44, .iload 6, 2, 0, (6, 0, 0, 0), 0, 0, []),
  (46, .iconst 0, 1, 0, (0, 0, 0, 0), 0, 0, []),
  (47, .iload_n 1, 1, 0, (1, 0, 0, 0), 0, 0, []),
  (48, .invokevirtual 34, 3, 0, (12, 577, 4, 7), 0, 0, []),
  (51, .aload_n 0, 1, 0, (0, 0, 0, 0), 0, 0, []),
  (52, .iload 6, 2, 0, (6, 0, 0, 0), 0, 0, []),
  (54, .iconst 1, 1, 0, (0, 0, 0, 0), 1, 0, []),
  (55, .iload_n 2, 1, 0, (2, 0, 0, 0), 0, 0, []),
  (56, .invokevirtual 34, 3, 0, (12, 577, 4, 7), 0, 0, []),
  (59, .aload_n 0, 1, 0, (0, 0, 0, 0), 0, 0, []),
  (60, .iload 6, 2, 0, (6, 0, 0, 0), 0, 0, []),
  (62, .iconst 2, 1, 0, (0, 0, 0, 0), 2, 0, []),
  (63, .iload_n 3, 1, 0, (3, 0, 0, 0), 0, 0, []),
  (64, .invokevirtual 34, 3, 0, (12, 577, 4, 7), 0, 0, []),
  (67, .aload_n 0, 1, 0, (0, 0, 0, 0), 0, 0, []),
  (68, .iload 6, 2, 0, (6, 0, 0, 0), 0, 0, []),
  (70, .iconst 3, 1, 0, (0, 0, 0, 0), 3, 0, []),
  (71, .iload 4, 2, 0, (4, 0, 0, 0), 0, 0, []),
  (73, .invokevirtual 34, 3, 0, (12, 577, 4, 7), 0, 0, []),
  (76, .aload_n 0, 1, 0, (0, 0, 0, 0), 0, 0, []),
  (77, .iload 6, 2, 0, (6, 0, 0, 0), 0, 0, []),
  (79, .iconst 4, 1, 0, (0, 0, 0, 0), 4, 0, []),
  (80, .iload 5, 2, 0, (5, 0, 0, 0), 0, 0, []),
  (82, .invokevirtual 34, 3, 0, (12, 577, 4, 7), 0, 0, []),
  (85, .aload_n 0, 1, 0, (0, 0, 0, 0), 0, 0, []),
  (86, .dup, 1, 0, (0, 0, 0, 0), 0, 0, []),
  (87, .getfield 28, 3, 0, (6, 552, 3, 0), 0, 0, []),
  (90, .iconst 1, 1, 0, (0, 0, 0, 0), 1, 0, []),
  (91, .iadd, 1, 0, (0, 0, 0, 0), 0, 0, []),
  (92, .putfield 28, 3, 0, (6, 552, 3, 0), 0, 0, []),
  (95, .iload 6, 2, 0, (6, 0, 0, 0), 0, 0, []),
  (97, .ireturn, 1, 0, (0, 0, 0, 0), 0, 0, [])]
def hk_m3 : hk_Q := (⟨"HullKeepers$Table", "add", "(IIIII)I"⟩, prog_8_method_7_code, 8, (some .int), (6, 0, 0, 0, 0, 0), hk_c3)
def hk_c4 : List hk_E := [(0, .aload_n 0, 1, 0, (0, 0, 0, 0), 0, 0, []),
  (1, .getfield 28, 3, 0, (6, 552, 3, 0), 0, 0, []),
  (4, .aload_n 0, 1, 0, (0, 0, 0, 0), 0, 0, []),
  (5, .getfield 15, 3, 0, (6, 549, 0, 0), 0, 0, []),
  (8, .if_icmp .lt 7, 3, 0, (15, 0, 0, 0), 0, 0, []),
  (11, .iconst 1, 1, 0, (0, 0, 0, 0), 1, 0, []),
  (12, .goto 4, 3, 0, (16, 0, 0, 0), 0, 0, []),
  (15, .iconst 0, 1, 0, (0, 0, 0, 0), 0, 0, []),
  (16, .ireturn, 1, 0, (0, 0, 0, 1), 0, 0, [])]
def hk_m4 : hk_Q := (⟨"HullKeepers$Table", "isFull", "()Z"⟩, prog_8_method_3_code, 1, (some .boolean), (1, 0, 0, 0, 0, 0), hk_c4)
def hk_c5 : List hk_E := [(0, .iload_n 1, 1, 0, (1, 0, 0, 0), 0, 0, []),
  (1, .ifCond .lt 37, 3, 0, (38, 0, 0, 0), 0, 0, []),
  (4, .iload_n 1, 1, 0, (1, 0, 0, 0), 0, 0, []),
  (5, .aload_n 0, 1, 0, (0, 0, 0, 0), 0, 0, []),
  (6, .getfield 15, 3, 0, (6, 549, 0, 0), 0, 0, []),
  (9, .if_icmp .ge 29, 3, 0, (38, 0, 0, 0), 0, 0, []),
  (12, .iload_n 2, 1, 0, (2, 0, 0, 0), 0, 0, []),
  (13, .ifCond .lt 25, 3, 0, (38, 0, 0, 0), 0, 0, []),
  (16, .iload_n 2, 1, 0, (2, 0, 0, 0), 0, 0, []),
  (17, .aload_n 0, 1, 0, (0, 0, 0, 0), 0, 0, []),
  (18, .getfield 21, 3, 0, (6, 550, 1, 0), 0, 0, []),
  (21, .if_icmp .ge 17, 3, 0, (38, 0, 0, 0), 0, 0, []),
  (24, .aload_n 0, 1, 0, (0, 0, 0, 0), 0, 0, []),
  (25, .getfield 24, 3, 0, (6, 551, 2, 1), 0, 0, []),
  (28, .iload_n 1, 1, 0, (1, 0, 0, 0), 0, 0, []),
  (29, .aload_n 0, 1, 0, (0, 0, 0, 0), 0, 0, []),
  (30, .getfield 21, 3, 0, (6, 550, 1, 0), 0, 0, []),
  (33, .imul, 1, 0, (0, 0, 0, 0), 0, 0, []),
  (34, .iload_n 2, 1, 0, (2, 0, 0, 0), 0, 0, []),
  (35, .iadd, 1, 0, (0, 0, 0, 0), 0, 0, []),
  (36, .iload_n 3, 1, 0, (3, 0, 0, 0), 0, 0, []),
  (37, .iastore, 1, 0, (0, 0, 0, 0), 0, 0, []),
  (38, .return_, 1, 0, (0, 0, 0, 0), 0, 0, [])]
def hk_m5 : hk_Q := (⟨"HullKeepers$Table", "put", "(III)V"⟩, prog_8_method_5_code, 4, none, (4, 0, 0, 0, 0, 0), hk_c5)
def hk_c6 : List hk_E := [(0, .aload_n 0, 1, 0, (0, 0, 0, 0), 0, 0, []),
  (1, .invokespecial 3, 3, 0, (1, 669, 0, 0), 0, 0, []),
  (4, .aload_n 0, 1, 0, (0, 0, 0, 0), 0, 0, []),
  (5, .aload_n 1, 1, 0, (1, 0, 0, 0), 0, 0, []),
  (6, .putfield 9, 3, 0, (4, 670, 0, 1), 0, 0, []),
  (9, .aload_n 0, 1, 0, (0, 0, 0, 0), 0, 0, []),
  (10, .iconst (-1), 1, 0, (0, 0, 0, 0), (-1), 0, []),
  (11, .putfield 15, 3, 0, (4, 675, 5, 0), 0, 0, []),
  (14, .return_, 1, 0, (0, 0, 0, 0), 0, 0, [])]
def hk_m6 : hk_Q := (⟨"HullKeepers$Reader", "<init>", "(LHullKeepers$House;)V"⟩, prog_6_method_1_code, 2, none, (2, 1, 0, 0, 0, 0), hk_c6)
def hk_c7 : List hk_E := [(0, .aload_n 0, 1, 0, (0, 0, 0, 0), 0, 0, []),
  (1, .invokespecial 3, 3, 0, (1, 694, 0, 0), 0, 0, []),
  (4, .aload_n 0, 1, 0, (0, 0, 0, 0), 0, 0, []),
  (5, .sipush 360, 3, 0, (0, 0, 0, 0), 360, 0, []),
  (8, .newarray .int, 2, 0, (0, 0, 0, 0), 0, 0, []),
  (10, .putfield 9, 3, 0, (5, 695, 0, 1), 0, 0, []),
  (13, .aload_n 0, 1, 0, (0, 0, 0, 0), 0, 0, []),
  (14, .bipush 6, 2, 0, (0, 0, 0, 0), 6, 0, []),
  (16, .newarray .int, 2, 0, (0, 0, 0, 0), 0, 0, []),
  (18, .putfield 15, 3, 0, (5, 696, 1, 1), 0, 0, []),
  (21, .aload_n 0, 1, 0, (0, 0, 0, 0), 0, 0, []),
  (22, .bipush 6, 2, 0, (0, 0, 0, 0), 6, 0, []),
  (24, .newarray .int, 2, 0, (0, 0, 0, 0), 0, 0, []),
  (26, .putfield 18, 3, 0, (5, 697, 2, 1), 0, 0, []),
  (29, .return_, 1, 0, (0, 0, 0, 0), 0, 0, [])]
def hk_m7 : hk_Q := (⟨"HullKeepers$Storms", "<init>", "()V"⟩, prog_7_method_1_code, 1, none, (1, 1, 0, 0, 0, 0), hk_c7)
def hk_c8 : List hk_E := [(0, .aload_n 0, 1, 0, (0, 0, 0, 0), 0, 0, []),
  (1, .invokespecial 3, 3, 0, (1, 718, 0, 0), 0, 0, []),
  (4, .aload_n 0, 1, 0, (0, 0, 0, 0), 0, 0, []),
  (5, .iconst 4, 1, 0, (0, 0, 0, 0), 4, 0, []),
  (6, .newarray .int, 2, 0, (0, 0, 0, 0), 0, 0, []),
  (8, .putfield 9, 3, 0, (3, 719, 0, 1), 0, 0, []),
  (11, .aload_n 0, 1, 0, (0, 0, 0, 0), 0, 0, []),
  (12, .iconst 4, 1, 0, (0, 0, 0, 0), 4, 0, []),
  (13, .newarray .int, 2, 0, (0, 0, 0, 0), 0, 0, []),
  (15, .putfield 15, 3, 0, (3, 720, 1, 1), 0, 0, []),
  (18, .aload_n 0, 1, 0, (0, 0, 0, 0), 0, 0, []),
  (19, .bipush 16, 2, 0, (0, 0, 0, 0), 16, 0, []),
  (21, .newarray .int, 2, 0, (0, 0, 0, 0), 0, 0, []),
  (23, .putfield 18, 3, 0, (3, 721, 2, 1), 0, 0, []),
  (26, .aload_n 0, 1, 0, (0, 0, 0, 0), 0, 0, []),
  (27, .bipush 16, 2, 0, (0, 0, 0, 0), 16, 0, []),
  (29, .newarray .int, 2, 0, (0, 0, 0, 0), 0, 0, []),
  (31, .putfield 21, 3, 0, (3, 722, 3, 1), 0, 0, []),
  (34, .aload_n 0, 1, 0, (0, 0, 0, 0), 0, 0, []),
  (35, .bipush 10, 2, 0, (0, 0, 0, 0), 10, 0, []),
  (37, .newarray .int, 2, 0, (0, 0, 0, 0), 0, 0, []),
  (39, .putfield 24, 3, 0, (3, 723, 4, 1), 0, 0, []),
  (42, .aload_n 0, 1, 0, (0, 0, 0, 0), 0, 0, []),
  (43, .iconst 0, 1, 0, (0, 0, 0, 0), 0, 0, []),
  (44, .newarray .int, 2, 0, (0, 0, 0, 0), 0, 0, []),
  (46, .putfield 27, 3, 0, (3, 725, 6, 1), 0, 0, []),
  (49, .aload_n 0, 1, 0, (0, 0, 0, 0), 0, 0, []),
  (50, .aload_n 1, 1, 0, (1, 0, 0, 0), 0, 0, []),
  (51, .putfield 30, 3, 0, (3, 724, 5, 1), 0, 0, []),
  (54, .return_, 1, 0, (0, 0, 0, 0), 0, 0, [])]
def hk_m8 : hk_Q := (⟨"HullKeepers$Planner", "<init>", "(LHullKeepers$House;)V"⟩, prog_5_method_1_code, 2, none, (2, 1, 0, 0, 0, 0), hk_c8)
def hk_c9 : List hk_E := [(0, .aload_n 0, 1, 0, (0, 0, 0, 0), 0, 0, []),
  (1, .invokespecial 3, 3, 0, (1, 1033, 0, 0), 0, 0, []),
  (4, .return_, 1, 0, (0, 0, 0, 0), 0, 0, [])]
def hk_m9 : hk_Q := (⟨"HullKeepers$LeakFinder", "<init>", "()V"⟩, prog_4_method_1_code, 1, none, (1, 1, 0, 0, 0, 0), hk_c9)
def hk_c10 : List hk_E := [(0, .aload_n 0, 1, 0, (0, 0, 0, 0), 0, 0, []),
  (1, .invokespecial 3, 3, 0, (1, 1048, 0, 0), 0, 0, []),
  (4, .aload_n 0, 1, 0, (0, 0, 0, 0), 0, 0, []),
  (5, .bipush 32, 2, 0, (0, 0, 0, 0), 32, 0, []),
  (7, .newarray .int, 2, 0, (0, 0, 0, 0), 0, 0, []),
  (9, .putfield 9, 3, 0, (0, 1049, 0, 1), 0, 0, []),
  (12, .aload_n 0, 1, 0, (0, 0, 0, 0), 0, 0, []),
  (13, .iconst 5, 1, 0, (0, 0, 0, 0), 5, 0, []),
  (14, .newarray .int, 2, 0, (0, 0, 0, 0), 0, 0, []),
  (16, .putfield 15, 3, 0, (0, 1050, 1, 1), 0, 0, []),
  (19, .return_, 1, 0, (0, 0, 0, 0), 0, 0, [])]
def hk_m10 : hk_Q := (⟨"HullKeepers$Crew", "<init>", "()V"⟩, prog_2_method_1_code, 1, none, (1, 1, 0, 0, 0, 0), hk_c10)
def hk_c11 : List hk_E := [(0, .iload_n 1, 1, 0, (1, 0, 0, 0), 0, 0, []),
  (1, .bipush 10, 2, 0, (0, 0, 0, 0), 10, 0, []),
  (3, .sipush 1000, 3, 0, (0, 0, 0, 0), 1000, 0, []),
  (6, .invokestatic 57, 3, 0, (19, 1090, 3, 0), 0, 0, []),
  (9, .ifCond .eq 36, 3, 0, (45, 0, 0, 0), 0, 0, []),
  (12, .iload_n 2, 1, 0, (2, 0, 0, 0), 0, 0, []),
  (13, .iconst 1, 1, 0, (0, 0, 0, 0), 1, 0, []),
  (14, .sipush 500, 3, 0, (0, 0, 0, 0), 500, 0, []),
  (17, .invokestatic 57, 3, 0, (19, 1090, 3, 0), 0, 0, []),
  (20, .ifCond .eq 25, 3, 0, (45, 0, 0, 0), 0, 0, []),
  (23, .iload_n 3, 1, 0, (3, 0, 0, 0), 0, 0, []),
  (24, .iconst 1, 1, 0, (0, 0, 0, 0), 1, 0, []),
  (25, .ldc 61, 2, 0, (0, 1093, 0, 0), 200000, 0, []),
  (27, .invokestatic 57, 3, 0, (19, 1090, 3, 0), 0, 0, []),
  (30, .ifCond .eq 15, 3, 0, (45, 0, 0, 0), 0, 0, []),
  (33, .iload 4, 2, 0, (4, 0, 0, 0), 0, 0, []),
  (35, .iconst 0, 1, 0, (0, 0, 0, 0), 0, 0, []),
  (36, .sipush 10000, 3, 0, (0, 0, 0, 0), 10000, 0, []),
  (39, .invokestatic 57, 3, 0, (19, 1090, 3, 0), 0, 0, []),
  (42, .ifCond .ne 6, 3, 0, (48, 0, 0, 0), 0, 0, []),
  (45, .bipush (-2), 2, 0, (0, 0, 0, 0), (-2), 0, []),
  (47, .ireturn, 1, 0, (0, 0, 0, 0), 0, 0, []),
  (48, .aload_n 0, 1, 0, (0, 0, 0, 0), 0, 0, []),
  (49, .getfield 10, 3, 0, (7, 1064, 0, 1), 0, 0, []),
  (52, .getfield 62, 3, 0, (1, 584, 0, 1), 0, 0, []),
  (55, .invokevirtual 66, 3, 0, (11, 1094, 1, 7), 0, 0, []),
  (58, .ifCond .eq 6, 3, 0, (64, 0, 0, 0), 0, 0, []),
  (61, .bipush (-4), 2, 0, (0, 0, 0, 0), (-4), 0, []),
  (63, .ireturn, 1, 0, (0, 0, 0, 0), 0, 0, []),
  (64, .aload_n 0, 1, 0, (0, 0, 0, 0), 0, 0, []),
  (65, .getfield 10, 3, 0, (7, 1064, 0, 1), 0, 0, []),
  (68, .getfield 62, 3, 0, (1, 584, 0, 1), 0, 0, []),
  (71, .iload_n 1, 1, 0, (1, 0, 0, 0), 0, 0, []),
  (72, .iload_n 2, 1, 0, (2, 0, 0, 0), 0, 0, []),
  (73, .iload_n 3, 1, 0, (3, 0, 0, 0), 0, 0, []),
  (74, .iload 4, 2, 0, (4, 0, 0, 0), 0, 0, []),
  (76, .iconst 0, 1, 0, (0, 0, 0, 0), 0, 0, []),
  (77, .invokevirtual 72, 3, 0, (10, 1095, 6, 7), 0, 0, []),
  (80, .istore 5, 2, 0, (5, 0, 0, 0), 0, 0, []),
  (82, .aload_n 0, 1, 0, (0, 0, 0, 0), 0, 0, []),
  (83, .getfield 10, 3, 0, (7, 1064, 0, 1), 0, 0, []),
  (86, .getfield 62, 3, 0, (1, 584, 0, 1), 0, 0, []),
  (89, .iload 5, 2, 0, (5, 0, 0, 0), 0, 0, []),
  (91, .bipush 8, 2, 0, (0, 0, 0, 0), 8, 0, []),
  (93, .iconst (-1), 1, 0, (0, 0, 0, 0), (-1), 0, []),
  (94, .invokevirtual 76, 3, 0, (12, 1096, 4, 7), 0, 0, []),
  (97, .iload 5, 2, 0, (5, 0, 0, 0), 0, 0, []),
  (99, .ireturn, 1, 0, (0, 0, 0, 0), 0, 0, [])]
def hk_m11 : hk_Q := (⟨"HullKeepers", "ship", "(IIII)I"⟩, prog_1_method_2_code, 6, (some .int), (5, 0, 0, 0, 0, 0), hk_c11)
def hk_c12 : List hk_E := [(0, .iload_n 0, 1, 0, (0, 0, 0, 0), 0, 0, []),
  (1, .iload_n 1, 1, 0, (1, 0, 0, 0), 0, 0, []),
  (2, .if_icmp .lt 12, 3, 0, (14, 0, 0, 0), 0, 0, []),
  (5, .iload_n 0, 1, 0, (0, 0, 0, 0), 0, 0, []),
  (6, .iload_n 2, 1, 0, (2, 0, 0, 0), 0, 0, []),
  (7, .if_icmp .gt 7, 3, 0, (14, 0, 0, 0), 0, 0, []),
  (10, .iconst 1, 1, 0, (0, 0, 0, 0), 1, 0, []),
  (11, .goto 4, 3, 0, (15, 0, 0, 0), 0, 0, []),
  (14, .iconst 0, 1, 0, (0, 0, 0, 0), 0, 0, []),
  (15, .ireturn, 1, 0, (0, 0, 0, 1), 0, 0, [])]
def hk_m12 : hk_Q := (⟨"HullKeepers", "within", "(III)Z"⟩, prog_1_method_44_code, 3, (some .boolean), (3, 2, 0, 0, 0, 0), hk_c12)
def hk_c13 : List hk_E := [(0, .aload_n 0, 1, 0, (0, 0, 0, 0), 0, 0, []),
  (1, .getfield 10, 3, 0, (7, 1064, 0, 1), 0, 0, []),
  (4, .getfield 62, 3, 0, (1, 584, 0, 1), 0, 0, []),
  (7, .iload_n 1, 1, 0, (1, 0, 0, 0), 0, 0, []),
  (8, .invokevirtual 80, 3, 0, (21, 1101, 2, 7), 0, 0, []),
  (11, .ifCond .eq 47, 3, 0, (58, 0, 0, 0), 0, 0, []),
  (14, .iload_n 2, 1, 0, (2, 0, 0, 0), 0, 0, []),
  (15, .iconst 0, 1, 0, (0, 0, 0, 0), 0, 0, []),
  (16, .iconst 2, 1, 0, (0, 0, 0, 0), 2, 0, []),
  (17, .invokestatic 57, 3, 0, (19, 1090, 3, 0), 0, 0, []),
  (20, .ifCond .eq 38, 3, 0, (58, 0, 0, 0), 0, 0, []),
  (23, .iload_n 3, 1, 0, (3, 0, 0, 0), 0, 0, []),
  (24, .iconst 1, 1, 0, (0, 0, 0, 0), 1, 0, []),
  (25, .sipush 5000, 3, 0, (0, 0, 0, 0), 5000, 0, []),
  (28, .invokestatic 57, 3, 0, (19, 1090, 3, 0), 0, 0, []),
  (31, .ifCond .eq 27, 3, 0, (58, 0, 0, 0), 0, 0, []),
  (34, .iload 4, 2, 0, (4, 0, 0, 0), 0, 0, []),
  (36, .iconst 1, 1, 0, (0, 0, 0, 0), 1, 0, []),
  (37, .sipush 1000, 3, 0, (0, 0, 0, 0), 1000, 0, []),
  (40, .invokestatic 57, 3, 0, (19, 1090, 3, 0), 0, 0, []),
  (43, .ifCond .eq 15, 3, 0, (58, 0, 0, 0), 0, 0, []),
  (46, .iload 5, 2, 0, (5, 0, 0, 0), 0, 0, []),
  (48, .sipush (-6000), 3, 0, (0, 0, 0, 0), (-6000), 0, []),
  (51, .iconst 0, 1, 0, (0, 0, 0, 0), 0, 0, []),
  (52, .invokestatic 57, 3, 0, (19, 1090, 3, 0), 0, 0, []),
  (55, .ifCond .ne 6, 3, 0, (61, 0, 0, 0), 0, 0, []),
  (58, .bipush (-2), 2, 0, (0, 0, 0, 0), (-2), 0, []),
  (60, .ireturn, 1, 0, (0, 0, 0, 0), 0, 0, []),
  (61, .aload_n 0, 1, 0, (0, 0, 0, 0), 0, 0, []),
  (62, .getfield 10, 3, 0, (7, 1064, 0, 1), 0, 0, []),
  (65, .getfield 84, 3, 0, (1, 586, 1, 1), 0, 0, []),
  (68, .invokevirtual 66, 3, 0, (11, 1094, 1, 7), 0, 0, []),
  (71, .ifCond .eq 8, 3, 0, (79, 0, 0, 0), 0, 0, []),
  (74, .bipush (-4), 2, 0, (0, 0, 0, 0), (-4), 0, []),
  (76, .goto 20, 3, 0, (96, 0, 0, 0), 0, 0, []),
  (79, .aload_n 0, 1, 0, (0, 0, 0, 0), 0, 0, []),
  (80, .getfield 10, 3, 0, (7, 1064, 0, 1), 0, 0, []),
  (83, .getfield 84, 3, 0, (1, 586, 1, 1), 0, 0, []),
  (86, .iload_n 1, 1, 0, (1, 0, 0, 0), 0, 0, []),
  (87, .iload_n 2, 1, 0, (2, 0, 0, 0), 0, 0, []),
  (88, .iload_n 3, 1, 0, (3, 0, 0, 0), 0, 0, []),
  (89, .iload 4, 2, 0, (4, 0, 0, 0), 0, 0, []),
  (91, .iload 5, 2, 0, (5, 0, 0, 0), 0, 0, []),
  (93, .invokevirtual 72, 3, 0, (10, 1095, 6, 7), 0, 0, []),
  (96, .ireturn, 1, 0, (0, 0, 0, 0), 0, 0, [])]
def hk_m13 : hk_Q := (⟨"HullKeepers", "plate", "(IIIII)I"⟩, prog_1_method_3_code, 6, (some .int), (6, 0, 0, 0, 0, 0), hk_c13)
def hk_c14 : List hk_E := [(0, .iload_n 1, 1, 0, (1, 0, 0, 0), 0, 0, []),
  (1, .ifCond .lt 15, 3, 0, (16, 0, 0, 0), 0, 0, []),
  (4, .iload_n 1, 1, 0, (1, 0, 0, 0), 0, 0, []),
  (5, .aload_n 0, 1, 0, (0, 0, 0, 0), 0, 0, []),
  (6, .getfield 28, 3, 0, (6, 552, 3, 0), 0, 0, []),
  (9, .if_icmp .ge 7, 3, 0, (16, 0, 0, 0), 0, 0, []),
  (12, .iconst 1, 1, 0, (0, 0, 0, 0), 1, 0, []),
  (13, .goto 4, 3, 0, (17, 0, 0, 0), 0, 0, []),
  (16, .iconst 0, 1, 0, (0, 0, 0, 0), 0, 0, []),
  (17, .ireturn, 1, 0, (0, 0, 0, 1), 0, 0, [])]
def hk_m14 : hk_Q := (⟨"HullKeepers$Table", "has", "(I)Z"⟩, prog_8_method_2_code, 2, (some .boolean), (2, 0, 0, 0, 0, 0), hk_c14)
def hk_c15 : List hk_E := [(0, .aload_n 0, 1, 0, (0, 0, 0, 0), 0, 0, []),
  (1, .getfield 10, 3, 0, (7, 1064, 0, 1), 0, 0, []),
  (4, .getfield 62, 3, 0, (1, 584, 0, 1), 0, 0, []),
  (7, .iload_n 1, 1, 0, (1, 0, 0, 0), 0, 0, []),
  (8, .invokevirtual 80, 3, 0, (21, 1101, 2, 7), 0, 0, []),
  (11, .ifCond .ne 6, 3, 0, (17, 0, 0, 0), 0, 0, []),
  (14, .bipush (-2), 2, 0, (0, 0, 0, 0), (-2), 0, []),
  (16, .ireturn, 1, 0, (0, 0, 0, 0), 0, 0, []),
  (17, .aload_n 0, 1, 0, (0, 0, 0, 0), 0, 0, []),
  (18, .getfield 10, 3, 0, (7, 1064, 0, 1), 0, 0, []),
  (21, .getfield 62, 3, 0, (1, 584, 0, 1), 0, 0, []),
  (24, .iload_n 1, 1, 0, (1, 0, 0, 0), 0, 0, []),
  (25, .bipush 7, 2, 0, (0, 0, 0, 0), 7, 0, []),
  (27, .invokevirtual 87, 3, 0, (23, 1109, 3, 7), 0, 0, []),
  (30, .ifCond .gt 14, 3, 0, (44, 0, 0, 0), 0, 0, []),
  (33, .aload_n 0, 1, 0, (0, 0, 0, 0), 0, 0, []),
  (34, .getfield 10, 3, 0, (7, 1064, 0, 1), 0, 0, []),
  (37, .iload_n 1, 1, 0, (1, 0, 0, 0), 0, 0, []),
  (38, .invokevirtual 91, 3, 0, (24, 1113, 2, 2), 0, 0, []),
  (41, .ifCond .ne 6, 3, 0, (47, 0, 0, 0), 0, 0, []),
  (44, .bipush (-3), 2, 0, (0, 0, 0, 0), (-3), 0, []),
  (46, .ireturn, 1, 0, (0, 0, 0, 0), 0, 0, []),
  (47, .aload_n 0, 1, 0, (0, 0, 0, 0), 0, 0, []),
  (48, .getfield 10, 3, 0, (7, 1064, 0, 1), 0, 0, []),
  (51, .iload_n 1, 1, 0, (1, 0, 0, 0), 0, 0, []),
  (52, .invokevirtual 95, 3, 0, (25, 1118, 2, 2), 0, 0, []),
  (55, .ireturn, 1, 0, (0, 0, 0, 0), 0, 0, [])]
def hk_m15 : hk_Q := (⟨"HullKeepers", "lay", "(I)I"⟩, prog_1_method_4_code, 2, (some .int), (2, 0, 0, 0, 0, 0), hk_c15)
def hk_c16 : List hk_E := [(0, .iload_n 1, 1, 0, (1, 0, 0, 0), 0, 0, []),
  (1, .ifCond .lt 23, 3, 0, (24, 0, 0, 0), 0, 0, []),
  (4, .iload_n 1, 1, 0, (1, 0, 0, 0), 0, 0, []),
  (5, .aload_n 0, 1, 0, (0, 0, 0, 0), 0, 0, []),
  (6, .getfield 28, 3, 0, (6, 552, 3, 0), 0, 0, []),
  (9, .if_icmp .ge 15, 3, 0, (24, 0, 0, 0), 0, 0, []),
  (12, .iload_n 2, 1, 0, (2, 0, 0, 0), 0, 0, []),
  (13, .ifCond .lt 11, 3, 0, (24, 0, 0, 0), 0, 0, []),
  (16, .iload_n 2, 1, 0, (2, 0, 0, 0), 0, 0, []),
  (17, .aload_n 0, 1, 0, (0, 0, 0, 0), 0, 0, []),
  (18, .getfield 21, 3, 0, (6, 550, 1, 0), 0, 0, []),
  (21, .if_icmp .lt 5, 3, 0, (26, 0, 0, 0), 0, 0, []),
  (24, .iconst 0, 1, 0, (0, 0, 0, 0), 0, 0, []),
  (25, .ireturn, 1, 0, (0, 0, 0, 0), 0, 0, []),
  (26, .aload_n 0, 1, 0, (0, 0, 0, 0), 0, 0, []),
  (27, .getfield 24, 3, 0, (6, 551, 2, 1), 0, 0, []),
  (30, .iload_n 1, 1, 0, (1, 0, 0, 0), 0, 0, []),
  (31, .aload_n 0, 1, 0, (0, 0, 0, 0), 0, 0, []),
  (32, .getfield 21, 3, 0, (6, 550, 1, 0), 0, 0, []),
  (35, .imul, 1, 0, (0, 0, 0, 0), 0, 0, []),
  (36, .iload_n 2, 1, 0, (2, 0, 0, 0), 0, 0, []),
  (37, .iadd, 1, 0, (0, 0, 0, 0), 0, 0, []),
  (38, .iaload, 1, 0, (0, 0, 0, 0), 0, 0, []),
  (39, .ireturn, 1, 0, (0, 0, 0, 0), 0, 0, [])]
def hk_m16 : hk_Q := (⟨"HullKeepers$Table", "get", "(II)I"⟩, prog_8_method_4_code, 3, (some .int), (3, 0, 0, 0, 0, 0), hk_c16)
def hk_c17 : List hk_E := [(0, .iconst 0, 1, 0, (0, 0, 0, 0), 0, 0, []),
  (1, .istore_n 2, 1, 0, (2, 0, 0, 0), 0, 0, []),
  (2, .iconst 0, 1, 0, (0, 0, 0, 0), 0, 0, []),
  (3, .istore_n 3, 1, 0, (3, 0, 0, 0), 0, 0, []),
  (4, .iload_n 3, 1, 1, (3, 0, 0, 0), 0, 0, []),
  (5, .aload_n 0, 1, 0, (0, 0, 0, 0), 0, 0, []),
  (6, .getfield 20, 3, 0, (1, 585, 1, 1), 0, 0, []),
  (9, .getfield 89, 3, 0, (6, 556, 3, 0), 0, 0, []),
  (12, .if_icmp .ge 25, 3, 0, (37, 0, 0, 0), 0, 0, []),
  (15, .aload_n 0, 1, 0, (0, 0, 0, 0), 0, 0, []),
  (16, .getfield 20, 3, 0, (1, 585, 1, 1), 0, 0, []),
  (19, .iload_n 3, 1, 0, (3, 0, 0, 0), 0, 0, []),
  (20, .iconst 0, 1, 0, (0, 0, 0, 0), 0, 0, []),
  (21, .invokevirtual 85, 3, 0, (23, 1117, 3, 7), 0, 0, []),
  (24, .iload_n 1, 1, 0, (1, 0, 0, 0), 0, 0, []),
  (25, .if_icmp .ne 6, 3, 0, (31, 0, 0, 0), 0, 0, []),
  (28, .iinc 2 1, 3, 0, (2, 0, 0, 0), 1, 0, []),
  (31, .iinc 3 1, 3, 0, (3, 0, 0, 0), 1, 0, []),
  (34, .goto (-30), 3, 0, (4, 0, 0, 0), 0, 0, []),
  (37, .iload_n 2, 1, 0, (2, 0, 0, 0), 0, 0, []),
  (38, .ireturn, 1, 0, (0, 0, 0, 0), 0, 0, [])]
def hk_m17 : hk_Q := (⟨"HullKeepers$House", "platesOf", "(I)I"⟩, prog_3_method_4_code, 4, (some .int), (2, 0, 0, 0, 0, 0), hk_c17)
def hk_c18 : List hk_E := [(0, .iconst 0, 1, 0, (0, 0, 0, 0), 0, 0, []),
  (1, .istore_n 2, 1, 0, (2, 0, 0, 0), 0, 0, []),
  (2, .iconst 0, 1, 0, (0, 0, 0, 0), 0, 0, []),
  (3, .istore_n 3, 1, 0, (3, 0, 0, 0), 0, 0, []),
  (4, .iconst 0, 1, 0, (0, 0, 0, 0), 0, 0, []),
  (5, .istore 4, 2, 0, (4, 0, 0, 0), 0, 0, []),
  (7, .iload 4, 2, 1, (4, 0, 0, 0), 0, 0, []),
  (9, .aload_n 0, 1, 0, (0, 0, 0, 0), 0, 0, []),
  (10, .getfield 20, 3, 0, (1, 585, 1, 1), 0, 0, []),
  (13, .getfield 89, 3, 0, (6, 556, 3, 0), 0, 0, []),
  (16, .if_icmp .ge 50, 3, 0, (66, 0, 0, 0), 0, 0, []),
  (19, .aload_n 0, 1, 0, (0, 0, 0, 0), 0, 0, []),
  (20, .getfield 20, 3, 0, (1, 585, 1, 1), 0, 0, []),
  (23, .iload 4, 2, 0, (4, 0, 0, 0), 0, 0, []),
  (25, .iconst 0, 1, 0, (0, 0, 0, 0), 0, 0, []),
  (26, .invokevirtual 85, 3, 0, (23, 1117, 3, 7), 0, 0, []),
  (29, .iload_n 1, 1, 0, (1, 0, 0, 0), 0, 0, []),
  (30, .if_icmp .ne 30, 3, 0, (60, 0, 0, 0), 0, 0, []),
  (33, .aload_n 0, 1, 0, (0, 0, 0, 0), 0, 0, []),
  (34, .getfield 20, 3, 0, (1, 585, 1, 1), 0, 0, []),
  (37, .iload 4, 2, 0, (4, 0, 0, 0), 0, 0, []),
  (39, .iconst 5, 1, 0, (0, 0, 0, 0), 5, 0, []),
  (40, .iconst 1, 1, 0, (0, 0, 0, 0), 1, 0, []),
  (41, .invokevirtual 92, 3, 0, (12, 1122, 4, 7), 0, 0, []),
  (44, .iload_n 3, 1, 0, (3, 0, 0, 0), 0, 0, []),
  (45, .aload_n 0, 1, 0, (0, 0, 0, 0), 0, 0, []),
  (46, .getfield 20, 3, 0, (1, 585, 1, 1), 0, 0, []),
  (49, .iload 4, 2, 0, (4, 0, 0, 0), 0, 0, []),
  (51, .iconst 3, 1, 0, (0, 0, 0, 0), 3, 0, []),
  (52, .invokevirtual 85, 3, 0, (23, 1117, 3, 7), 0, 0, []),
  (55, .iadd, 1, 0, (0, 0, 0, 0), 0, 0, []),
  (56, .istore_n 3, 1, 0, (3, 0, 0, 0), 0, 0, []),
  (57, .iinc 2 1, 3, 0, (2, 0, 0, 0), 1, 0, []),
  (60, .iinc 4 1, 3, 0, (4, 0, 0, 0), 1, 0, []),
  (63, .goto (-56), 3, 0, (7, 0, 0, 0), 0, 0, []),
  (66, .aload_n 0, 1, 0, (0, 0, 0, 0), 0, 0, []),
  (67, .getfield 16, 3, 0, (1, 582, 0, 1), 0, 0, []),
  (70, .iload_n 1, 1, 0, (1, 0, 0, 0), 0, 0, []),
  (71, .bipush 7, 2, 0, (0, 0, 0, 0), 7, 0, []),
  (73, .iload_n 3, 1, 0, (3, 0, 0, 0), 0, 0, []),
  (74, .invokevirtual 92, 3, 0, (12, 1122, 4, 7), 0, 0, []),
  (77, .iload_n 2, 1, 0, (2, 0, 0, 0), 0, 0, []),
  (78, .ireturn, 1, 0, (0, 0, 0, 0), 0, 0, [])]
def hk_m18 : hk_Q := (⟨"HullKeepers$House", "layShip", "(I)I"⟩, prog_3_method_5_code, 5, (some .int), (2, 0, 0, 0, 0, 0), hk_c18)
def hk_c19 : List hk_E := [(0, .iload_n 1, 1, 0, (1, 0, 0, 0), 0, 0, []),
  (1, .iconst 0, 1, 0, (0, 0, 0, 0), 0, 0, []),
  (2, .iconst 2, 1, 0, (0, 0, 0, 0), 2, 0, []),
  (3, .invokestatic 57, 3, 0, (19, 1090, 3, 0), 0, 0, []),
  (6, .ifCond .eq 13, 3, 0, (19, 0, 0, 0), 0, 0, []),
  (9, .iload_n 2, 1, 0, (2, 0, 0, 0), 0, 0, []),
  (10, .iconst 0, 1, 0, (0, 0, 0, 0), 0, 0, []),
  (11, .bipush 50, 2, 0, (0, 0, 0, 0), 50, 0, []),
  (13, .invokestatic 57, 3, 0, (19, 1090, 3, 0), 0, 0, []),
  (16, .ifCond .ne 6, 3, 0, (22, 0, 0, 0), 0, 0, []),
  (19, .bipush (-2), 2, 0, (0, 0, 0, 0), (-2), 0, []),
  (21, .ireturn, 1, 0, (0, 0, 0, 0), 0, 0, []),
  (22, .aload_n 0, 1, 0, (0, 0, 0, 0), 0, 0, []),
  (23, .getfield 10, 3, 0, (7, 1064, 0, 1), 0, 0, []),
  (26, .getfield 98, 3, 0, (1, 607, 9, 1), 0, 0, []),
  (29, .iload_n 1, 1, 0, (1, 0, 0, 0), 0, 0, []),
  (30, .iaload, 1, 0, (0, 0, 0, 0), 0, 0, []),
  (31, .istore_n 3, 1, 0, (3, 0, 0, 0), 0, 0, []),
  (32, .aload_n 0, 1, 0, (0, 0, 0, 0), 0, 0, []),
  (33, .getfield 10, 3, 0, (7, 1064, 0, 1), 0, 0, []),
  (36, .getfield 98, 3, 0, (1, 607, 9, 1), 0, 0, []),
  (39, .iload_n 1, 1, 0, (1, 0, 0, 0), 0, 0, []),
  (40, .iload_n 2, 1, 0, (2, 0, 0, 0), 0, 0, []),
  (41, .iastore, 1, 0, (0, 0, 0, 0), 0, 0, []),
  (42, .iload_n 3, 1, 0, (3, 0, 0, 0), 0, 0, []),
  (43, .ireturn, 1, 0, (0, 0, 0, 0), 0, 0, [])]
def hk_m19 : hk_Q := (⟨"HullKeepers", "wear", "(II)I"⟩, prog_1_method_5_code, 4, (some .int), (3, 0, 0, 0, 0, 0), hk_c19)
def hk_c20 : List hk_E := [(0, .iload_n 1, 1, 0, (1, 0, 0, 0), 0, 0, []),
  (1, .iconst 0, 1, 0, (0, 0, 0, 0), 0, 0, []),
  (2, .sipush 1000, 3, 0, (0, 0, 0, 0), 1000, 0, []),
  (5, .invokestatic 57, 3, 0, (19, 1090, 3, 0), 0, 0, []),
  (8, .ifCond .ne 6, 3, 0, (14, 0, 0, 0), 0, 0, []),
  (11, .bipush (-2), 2, 0, (0, 0, 0, 0), (-2), 0, []),
  (13, .ireturn, 1, 0, (0, 0, 0, 0), 0, 0, []),
  (14, .aload_n 0, 1, 0, (0, 0, 0, 0), 0, 0, []),
  (15, .getfield 10, 3, 0, (7, 1064, 0, 1), 0, 0, []),
  (18, .getfield 102, 3, 0, (1, 618, 13, 0), 0, 0, []),
  (21, .istore_n 2, 1, 0, (2, 0, 0, 0), 0, 0, []),
  (22, .aload_n 0, 1, 0, (0, 0, 0, 0), 0, 0, []),
  (23, .getfield 10, 3, 0, (7, 1064, 0, 1), 0, 0, []),
  (26, .iload_n 1, 1, 0, (1, 0, 0, 0), 0, 0, []),
  (27, .putfield 102, 3, 0, (1, 618, 13, 0), 0, 0, []),
  (30, .iload_n 2, 1, 0, (2, 0, 0, 0), 0, 0, []),
  (31, .ireturn, 1, 0, (0, 0, 0, 0), 0, 0, [])]
def hk_m20 : hk_Q := (⟨"HullKeepers", "bound", "(I)I"⟩, prog_1_method_6_code, 3, (some .int), (2, 0, 0, 0, 0, 0), hk_c20)
def hk_c21 : List hk_E := [(0, .iload_n 1, 1, 0, (1, 0, 0, 0), 0, 0, []),
  (1, .iconst 0, 1, 0, (0, 0, 0, 0), 0, 0, []),
  (2, .ldc 106, 2, 0, (0, 1135, 0, 0), 60000, 0, []),
  (4, .invokestatic 57, 3, 0, (19, 1090, 3, 0), 0, 0, []),
  (7, .ifCond .ne 6, 3, 0, (13, 0, 0, 0), 0, 0, []),
  (10, .bipush (-2), 2, 0, (0, 0, 0, 0), (-2), 0, []),
  (12, .ireturn, 1, 0, (0, 0, 0, 0), 0, 0, []),
  (13, .aload_n 0, 1, 0, (0, 0, 0, 0), 0, 0, []),
  (14, .getfield 10, 3, 0, (7, 1064, 0, 1), 0, 0, []),
  (17, .getfield 107, 3, 0, (1, 621, 14, 0), 0, 0, []),
  (20, .istore_n 2, 1, 0, (2, 0, 0, 0), 0, 0, []),
  (21, .aload_n 0, 1, 0, (0, 0, 0, 0), 0, 0, []),
  (22, .getfield 10, 3, 0, (7, 1064, 0, 1), 0, 0, []),
  (25, .iload_n 1, 1, 0, (1, 0, 0, 0), 0, 0, []),
  (26, .putfield 107, 3, 0, (1, 621, 14, 0), 0, 0, []),
  (29, .iload_n 2, 1, 0, (2, 0, 0, 0), 0, 0, []),
  (30, .ireturn, 1, 0, (0, 0, 0, 0), 0, 0, [])]
def hk_m21 : hk_Q := (⟨"HullKeepers", "wire", "(I)I"⟩, prog_1_method_7_code, 3, (some .int), (2, 0, 0, 0, 0, 0), hk_c21)
def hk_c22 : List hk_E := [(0, .aload_n 0, 1, 0, (0, 0, 0, 0), 0, 0, []),
  (1, .getfield 10, 3, 0, (7, 1064, 0, 1), 0, 0, []),
  (4, .getfield 62, 3, 0, (1, 584, 0, 1), 0, 0, []),
  (7, .iload_n 1, 1, 0, (1, 0, 0, 0), 0, 0, []),
  (8, .invokevirtual 80, 3, 0, (21, 1101, 2, 7), 0, 0, []),
  (11, .ifCond .eq 14, 3, 0, (25, 0, 0, 0), 0, 0, []),
  (14, .iload_n 2, 1, 0, (2, 0, 0, 0), 0, 0, []),
  (15, .iconst 0, 1, 0, (0, 0, 0, 0), 0, 0, []),
  (16, .sipush 20000, 3, 0, (0, 0, 0, 0), 20000, 0, []),
  (19, .invokestatic 57, 3, 0, (19, 1090, 3, 0), 0, 0, []),
  (22, .ifCond .ne 6, 3, 0, (28, 0, 0, 0), 0, 0, []),
  (25, .bipush (-2), 2, 0, (0, 0, 0, 0), (-2), 0, []),
  (27, .ireturn, 1, 0, (0, 0, 0, 0), 0, 0, []),
  (28, .aload_n 0, 1, 0, (0, 0, 0, 0), 0, 0, []),
  (29, .getfield 10, 3, 0, (7, 1064, 0, 1), 0, 0, []),
  (32, .getfield 62, 3, 0, (1, 584, 0, 1), 0, 0, []),
  (35, .iload_n 1, 1, 0, (1, 0, 0, 0), 0, 0, []),
  (36, .iconst 4, 1, 0, (0, 0, 0, 0), 4, 0, []),
  (37, .iload_n 2, 1, 0, (2, 0, 0, 0), 0, 0, []),
  (38, .invokevirtual 110, 3, 0, (30, 1140, 4, 7), 0, 0, []),
  (41, .ireturn, 1, 0, (0, 0, 0, 0), 0, 0, [])]
def hk_m22 : hk_Q := (⟨"HullKeepers", "crowd", "(II)I"⟩, prog_1_method_8_code, 3, (some .int), (3, 0, 0, 0, 0, 0), hk_c22)
def hk_c23 : List hk_E := [(0, .aload_n 0, 1, 0, (0, 0, 0, 0), 0, 0, []),
  (1, .iload_n 1, 1, 0, (1, 0, 0, 0), 0, 0, []),
  (2, .iload_n 2, 1, 0, (2, 0, 0, 0), 0, 0, []),
  (3, .invokevirtual 31, 3, 0, (23, 1144, 3, 7), 0, 0, []),
  (6, .istore 4, 2, 0, (4, 0, 0, 0), 0, 0, []),
  (8, .aload_n 0, 1, 0, (0, 0, 0, 0), 0, 0, []),
  (9, .iload_n 1, 1, 0, (1, 0, 0, 0), 0, 0, []),
  (10, .iload_n 2, 1, 0, (2, 0, 0, 0), 0, 0, []),
  (11, .iload_n 3, 1, 0, (3, 0, 0, 0), 0, 0, []),
  (12, .invokevirtual 34, 3, 0, (12, 577, 4, 7), 0, 0, []),
  (15, .iload 4, 2, 0, (4, 0, 0, 0), 0, 0, []),
  (17, .ireturn, 1, 0, (0, 0, 0, 0), 0, 0, [])]
def hk_m23 : hk_Q := (⟨"HullKeepers$Table", "swap", "(III)I"⟩, prog_8_method_6_code, 5, (some .int), (4, 0, 0, 0, 0, 0), hk_c23)
def hk_c24 : List hk_E := [(0, .iload_n 1, 1, 0, (1, 0, 0, 0), 0, 0, []),
  (1, .invokestatic 114, 3, 0, (32, 1149, 1, 0), 0, 0, []),
  (4, .ifCond .eq 13, 3, 0, (17, 0, 0, 0), 0, 0, []),
  (7, .iload_n 2, 1, 0, (2, 0, 0, 0), 0, 0, []),
  (8, .iconst 0, 1, 0, (0, 0, 0, 0), 0, 0, []),
  (9, .ldc 117, 2, 0, (0, 1152, 0, 0), 100000, 0, []),
  (11, .invokestatic 57, 3, 0, (19, 1090, 3, 0), 0, 0, []),
  (14, .ifCond .ne 6, 3, 0, (20, 0, 0, 0), 0, 0, []),
  (17, .bipush (-2), 2, 0, (0, 0, 0, 0), (-2), 0, []),
  (19, .ireturn, 1, 0, (0, 0, 0, 0), 0, 0, []),
  (20, .aload_n 0, 1, 0, (0, 0, 0, 0), 0, 0, []),
  (21, .getfield 10, 3, 0, (7, 1064, 0, 1), 0, 0, []),
  (24, .getfield 118, 3, 0, (1, 610, 10, 1), 0, 0, []),
  (27, .iload_n 1, 1, 0, (1, 0, 0, 0), 0, 0, []),
  (28, .iaload, 1, 0, (0, 0, 0, 0), 0, 0, []),
  (29, .istore_n 3, 1, 0, (3, 0, 0, 0), 0, 0, []),
  (30, .aload_n 0, 1, 0, (0, 0, 0, 0), 0, 0, []),
  (31, .getfield 10, 3, 0, (7, 1064, 0, 1), 0, 0, []),
  (34, .getfield 118, 3, 0, (1, 610, 10, 1), 0, 0, []),
  (37, .iload_n 1, 1, 0, (1, 0, 0, 0), 0, 0, []),
  (38, .iload_n 2, 1, 0, (2, 0, 0, 0), 0, 0, []),
  (39, .iastore, 1, 0, (0, 0, 0, 0), 0, 0, []),
  (40, .iload_n 3, 1, 0, (3, 0, 0, 0), 0, 0, []),
  (41, .ireturn, 1, 0, (0, 0, 0, 0), 0, 0, [])]
def hk_m24 : hk_Q := (⟨"HullKeepers", "storm", "(II)I"⟩, prog_1_method_9_code, 4, (some .int), (3, 0, 0, 0, 0, 0), hk_c24)
def hk_c25 : List hk_E := [(0, .iload_n 0, 1, 0, (0, 0, 0, 0), 0, 0, []),
  (1, .iconst 0, 1, 0, (0, 0, 0, 0), 0, 0, []),
  (2, .sipush 599, 3, 0, (0, 0, 0, 0), 599, 0, []),
  (5, .invokestatic 57, 3, 0, (19, 1090, 3, 0), 0, 0, []),
  (8, .ireturn, 1, 0, (0, 0, 0, 1), 0, 0, [])]
def hk_m25 : hk_Q := (⟨"HullKeepers", "isMonth", "(I)Z"⟩, prog_1_method_45_code, 1, (some .boolean), (1, 2, 0, 0, 0, 0), hk_c25)
def hk_c26 : List hk_E := [(0, .aload_n 0, 1, 0, (0, 0, 0, 0), 0, 0, []),
  (1, .iload_n 1, 1, 0, (1, 0, 0, 0), 0, 0, []),
  (2, .invokevirtual 121, 3, 0, (34, 1157, 2, 8), 0, 0, []),
  (5, .ifCond .eq 14, 3, 0, (19, 0, 0, 0), 0, 0, []),
  (8, .aload_n 0, 1, 0, (0, 0, 0, 0), 0, 0, []),
  (9, .getfield 10, 3, 0, (7, 1064, 0, 1), 0, 0, []),
  (12, .iload_n 1, 1, 0, (1, 0, 0, 0), 0, 0, []),
  (13, .invokevirtual 124, 3, 0, (35, 1161, 2, 2), 0, 0, []),
  (16, .goto 5, 3, 0, (21, 0, 0, 0), 0, 0, []),
  (19, .bipush (-2), 2, 0, (0, 0, 0, 0), (-2), 0, []),
  (21, .ireturn, 1, 0, (0, 0, 0, 0), 0, 0, [])]
def hk_m26 : hk_Q := (⟨"HullKeepers", "months", "(I)I"⟩, prog_1_method_10_code, 2, (some .int), (2, 0, 0, 0, 0, 0), hk_c26)
def hk_c27 : List hk_E := [(0, .iload_n 1, 1, 0, (1, 0, 0, 0), 0, 0, []),
  (1, .iconst 1, 1, 0, (0, 0, 0, 0), 1, 0, []),
  (2, .bipush 60, 2, 0, (0, 0, 0, 0), 60, 0, []),
  (4, .invokestatic 57, 3, 0, (19, 1090, 3, 0), 0, 0, []),
  (7, .ifCond .eq 22, 3, 0, (29, 0, 0, 0), 0, 0, []),
  (10, .aload_n 0, 1, 0, (0, 0, 0, 0), 0, 0, []),
  (11, .getfield 10, 3, 0, (7, 1064, 0, 1), 0, 0, []),
  (14, .getfield 137, 3, 0, (1, 615, 12, 0), 0, 0, []),
  (17, .iload_n 1, 1, 0, (1, 0, 0, 0), 0, 0, []),
  (18, .iadd, 1, 0, (0, 0, 0, 0), 0, 0, []),
  (19, .sipush 599, 3, 0, (0, 0, 0, 0), 599, 0, []),
  (22, .if_icmp .gt 7, 3, 0, (29, 0, 0, 0), 0, 0, []),
  (25, .iconst 1, 1, 0, (0, 0, 0, 0), 1, 0, []),
  (26, .goto 4, 3, 0, (30, 0, 0, 0), 0, 0, []),
  (29, .iconst 0, 1, 0, (0, 0, 0, 0), 0, 0, []),
  (30, .ireturn, 1, 0, (0, 0, 0, 1), 0, 0, [])]
def hk_m27 : hk_Q := (⟨"HullKeepers", "mayPass", "(I)Z"⟩, prog_1_method_47_code, 2, (some .boolean), (2, 0, 0, 0, 0, 0), hk_c27)
def hk_c28 : List hk_E := [(0, .iconst 0, 1, 0, (0, 0, 0, 0), 0, 0, []),
  (1, .istore_n 2, 1, 0, (2, 0, 0, 0), 0, 0, []),
  (2, .iconst 0, 1, 0, (0, 0, 0, 0), 0, 0, []),
  (3, .istore_n 3, 1, 0, (3, 0, 0, 0), 0, 0, []),
  (4, .iload_n 3, 1, 1, (3, 0, 0, 0), 0, 0, []),
  (5, .iload_n 1, 1, 0, (1, 0, 0, 0), 0, 0, []),
  (6, .if_icmp .ge 16, 3, 0, (22, 0, 0, 0), 0, 0, []),
  (9, .iload_n 2, 1, 0, (2, 0, 0, 0), 0, 0, []),
  (10, .aload_n 0, 1, 0, (0, 0, 0, 0), 0, 0, []),
  (11, .invokevirtual 118, 3, 0, (36, 1165, 1, 2), 0, 0, []),
  (14, .iadd, 1, 0, (0, 0, 0, 0), 0, 0, []),
  (15, .istore_n 2, 1, 0, (2, 0, 0, 0), 0, 0, []),
  (16, .iinc 3 1, 3, 0, (3, 0, 0, 0), 1, 0, []),
  (19, .goto (-15), 3, 0, (4, 0, 0, 0), 0, 0, []),
  (22, .iload_n 2, 1, 0, (2, 0, 0, 0), 0, 0, []),
  (23, .ireturn, 1, 0, (0, 0, 0, 0), 0, 0, [])]
def hk_m28 : hk_Q := (⟨"HullKeepers$House", "passMonths", "(I)I"⟩, prog_3_method_13_code, 4, (some .int), (2, 0, 0, 0, 0, 0), hk_c28)
def hk_c29 : List hk_E := [(0, .aload_n 0, 1, 0, (0, 0, 0, 0), 0, 0, []),
  (1, .getfield 82, 3, 0, (1, 614, 12, 0), 0, 0, []),
  (4, .ifCond .lt 25, 3, 0, (29, 0, 0, 0), 0, 0, []),
  (7, .aload_n 0, 1, 0, (0, 0, 0, 0), 0, 0, []),
  (8, .getfield 82, 3, 0, (1, 614, 12, 0), 0, 0, []),
  (11, .sipush 600, 3, 0, (0, 0, 0, 0), 600, 0, []),
  (14, .if_icmp .ge 15, 3, 0, (29, 0, 0, 0), 0, 0, []),
  (17, .aload_n 0, 1, 0, (0, 0, 0, 0), 0, 0, []),
  (18, .getfield 48, 3, 0, (1, 608, 10, 1), 0, 0, []),
  (21, .aload_n 0, 1, 0, (0, 0, 0, 0), 0, 0, []),
  (22, .getfield 82, 3, 0, (1, 614, 12, 0), 0, 0, []),
  (25, .iaload, 1, 0, (0, 0, 0, 0), 0, 0, []),
  (26, .goto 4, 3, 0, (30, 0, 0, 0), 0, 0, []),
  (29, .iconst 0, 1, 0, (0, 0, 0, 0), 0, 0, []),
  (30, .istore_n 1, 1, 0, (1, 0, 0, 0), 0, 0, []),
  (31, .aload_n 0, 1, 0, (0, 0, 0, 0), 0, 0, []),
  (32, .getfield 63, 3, 0, (1, 619, 14, 0), 0, 0, []),
  (35, .istore_n 2, 1, 0, (2, 0, 0, 0), 0, 0, []),
  (36, .iconst 0, 1, 0, (0, 0, 0, 0), 0, 0, []),
  (37, .istore_n 3, 1, 0, (3, 0, 0, 0), 0, 0, []),
  (38, .iconst 0, 1, 0, (0, 0, 0, 0), 0, 0, []),
  (39, .istore 4, 2, 0, (4, 0, 0, 0), 0, 0, []),
  (41, .iload 4, 2, 1, (4, 0, 0, 0), 0, 0, []),
  (43, .aload_n 0, 1, 0, (0, 0, 0, 0), 0, 0, []),
  (44, .getfield 16, 3, 0, (1, 582, 0, 1), 0, 0, []),
  (47, .getfield 89, 3, 0, (6, 556, 3, 0), 0, 0, []),
  (50, .if_icmp .ge 106, 3, 0, (156, 0, 0, 0), 0, 0, []),
  (53, .aload_n 0, 1, 0, (0, 0, 0, 0), 0, 0, []),
  (54, .iload 4, 2, 0, (4, 0, 0, 0), 0, 0, []),
  (56, .invokevirtual 122, 3, 0, (37, 1169, 2, 2), 0, 0, []),
  (59, .ifCond .eq 91, 3, 0, (150, 0, 0, 0), 0, 0, []),
  (62, .aload_n 0, 1, 0, (0, 0, 0, 0), 0, 0, []),
  (63, .getfield 16, 3, 0, (1, 582, 0, 1), 0, 0, []),
  (66, .iload 4, 2, 0, (4, 0, 0, 0), 0, 0, []),
  (68, .iconst 5, 1, 0, (0, 0, 0, 0), 5, 0, []),
  (69, .invokevirtual 85, 3, 0, (23, 1117, 3, 7), 0, 0, []),
  (72, .aload_n 0, 1, 0, (0, 0, 0, 0), 0, 0, []),
  (73, .iload 4, 2, 0, (4, 0, 0, 0), 0, 0, []),
  (75, .iconst 1, 1, 0, (0, 0, 0, 0), 1, 0, []),
  (76, .invokevirtual 126, 3, 0, (38, 1173, 3, 2), 0, 0, []),
  (79, .iadd, 1, 0, (0, 0, 0, 0), 0, 0, []),
  (80, .iload_n 1, 1, 0, (1, 0, 0, 0), 0, 0, []),
  (81, .iadd, 1, 0, (0, 0, 0, 0), 0, 0, []),
  (82, .istore 5, 2, 0, (5, 0, 0, 0), 0, 0, []),
  (84, .aload_n 0, 1, 0, (0, 0, 0, 0), 0, 0, []),
  (85, .iload 4, 2, 0, (4, 0, 0, 0), 0, 0, []),
  (87, .iload 5, 2, 0, (5, 0, 0, 0), 0, 0, []),
  (89, .iload_n 2, 1, 0, (2, 0, 0, 0), 0, 0, []),
  (90, .invokevirtual 129, 3, 0, (41, 1187, 4, 2), 0, 0, []),
  (93, .istore 6, 2, 0, (6, 0, 0, 0), 0, 0, []),
  (95, .iload_n 2, 1, 0, (2, 0, 0, 0), 0, 0, []),
  (96, .iload 6, 2, 0, (6, 0, 0, 0), 0, 0, []),
  (98, .isub, 1, 0, (0, 0, 0, 0), 0, 0, []),
  (99, .istore_n 2, 1, 0, (2, 0, 0, 0), 0, 0, []),
  (100, .aload_n 0, 1, 0, (0, 0, 0, 0), 0, 0, []),
  (101, .getfield 16, 3, 0, (1, 582, 0, 1), 0, 0, []),
  (104, .iload 4, 2, 0, (4, 0, 0, 0), 0, 0, []),
  (106, .iconst 5, 1, 0, (0, 0, 0, 0), 5, 0, []),
  (107, .iload 5, 2, 0, (5, 0, 0, 0), 0, 0, []),
  (109, .iload 6, 2, 0, (6, 0, 0, 0), 0, 0, []),
  (111, .isub, 1, 0, (0, 0, 0, 0), 0, 0, []),
  (112, .invokevirtual 92, 3, 0, (12, 1122, 4, 7), 0, 0, []),
  (115, .aload_n 0, 1, 0, (0, 0, 0, 0), 0, 0, []),
  (116, .iload 4, 2, 0, (4, 0, 0, 0), 0, 0, []),
  (118, .invokevirtual 133, 3, 0, (42, 1194, 2, 2), 0, 0, []),
  (121, .aload_n 0, 1, 0, (0, 0, 0, 0), 0, 0, []),
  (122, .iload 4, 2, 0, (4, 0, 0, 0), 0, 0, []),
  (124, .iload 5, 2, 0, (5, 0, 0, 0), 0, 0, []),
  (126, .iload 6, 2, 0, (6, 0, 0, 0), 0, 0, []),
  (128, .isub, 1, 0, (0, 0, 0, 0), 0, 0, []),
  (129, .invokevirtual 137, 3, 0, (43, 1198, 3, 2), 0, 0, []),
  (132, .ifCond .eq 18, 3, 0, (150, 0, 0, 0), 0, 0, []),
  (135, .aload_n 0, 1, 0, (0, 0, 0, 0), 0, 0, []),
  (136, .getfield 16, 3, 0, (1, 582, 0, 1), 0, 0, []),
  (139, .iload 4, 2, 0, (4, 0, 0, 0), 0, 0, []),
  (141, .bipush 6, 2, 0, (0, 0, 0, 0), 6, 0, []),
  (143, .iconst 1, 1, 0, (0, 0, 0, 0), 1, 0, []),
  (144, .invokevirtual 92, 3, 0, (12, 1122, 4, 7), 0, 0, []),
  (147, .iinc 3 1, 3, 0, (3, 0, 0, 0), 1, 0, []),
  (150, .iinc 4 1, 3, 0, (4, 0, 0, 0), 1, 0, []),
  (153, .goto (-112), 3, 0, (41, 0, 0, 0), 0, 0, []),
  (156, .aload_n 0, 1, 0, (0, 0, 0, 0), 0, 0, []),
  (157, .dup, 1, 0, (0, 0, 0, 0), 0, 0, []),
  (158, .getfield 82, 3, 0, (1, 614, 12, 0), 0, 0, []),
  (161, .iconst 1, 1, 0, (0, 0, 0, 0), 1, 0, []),
  (162, .iadd, 1, 0, (0, 0, 0, 0), 0, 0, []),
  (163, .putfield 82, 3, 0, (1, 614, 12, 0), 0, 0, []),
  (166, .iload_n 3, 1, 0, (3, 0, 0, 0), 0, 0, []),
  (167, .ireturn, 1, 0, (0, 0, 0, 0), 0, 0, [])]
def hk_m29 : hk_Q := (⟨"HullKeepers$House", "passMonth", "()I"⟩, prog_3_method_14_code, 7, (some .int), (1, 0, 0, 0, 0, 0), hk_c29)
def hk_c30 : List hk_E := [(0, .aload_n 0, 1, 0, (0, 0, 0, 0), 0, 0, []),
  (1, .getfield 16, 3, 0, (1, 582, 0, 1), 0, 0, []),
  (4, .iload_n 1, 1, 0, (1, 0, 0, 0), 0, 0, []),
  (5, .bipush 6, 2, 0, (0, 0, 0, 0), 6, 0, []),
  (7, .invokevirtual 85, 3, 0, (23, 1117, 3, 7), 0, 0, []),
  (10, .ifCond .ne 7, 3, 0, (17, 0, 0, 0), 0, 0, []),
  (13, .iconst 1, 1, 0, (0, 0, 0, 0), 1, 0, []),
  (14, .goto 4, 3, 0, (18, 0, 0, 0), 0, 0, []),
  (17, .iconst 0, 1, 0, (0, 0, 0, 0), 0, 0, []),
  (18, .ireturn, 1, 0, (0, 0, 0, 1), 0, 0, [])]
def hk_m30 : hk_Q := (⟨"HullKeepers$House", "floats", "(I)Z"⟩, prog_3_method_3_code, 2, (some .boolean), (2, 0, 0, 0, 0, 0), hk_c30)
def hk_c31 : List hk_E := [(0, .iconst 0, 1, 0, (0, 0, 0, 0), 0, 0, []),
  (1, .istore_n 3, 1, 0, (3, 0, 0, 0), 0, 0, []),
  (2, .iconst 0, 1, 0, (0, 0, 0, 0), 0, 0, []),
  (3, .istore 4, 2, 0, (4, 0, 0, 0), 0, 0, []),
  (5, .iload 4, 2, 1, (4, 0, 0, 0), 0, 0, []),
  (7, .aload_n 0, 1, 0, (0, 0, 0, 0), 0, 0, []),
  (8, .getfield 20, 3, 0, (1, 585, 1, 1), 0, 0, []),
  (11, .getfield 89, 3, 0, (6, 556, 3, 0), 0, 0, []),
  (14, .if_icmp .ge 76, 3, 0, (90, 0, 0, 0), 0, 0, []),
  (17, .aload_n 0, 1, 0, (0, 0, 0, 0), 0, 0, []),
  (18, .getfield 20, 3, 0, (1, 585, 1, 1), 0, 0, []),
  (21, .iload 4, 2, 0, (4, 0, 0, 0), 0, 0, []),
  (23, .iconst 1, 1, 0, (0, 0, 0, 0), 1, 0, []),
  (24, .invokevirtual 85, 3, 0, (23, 1117, 3, 7), 0, 0, []),
  (27, .istore 5, 2, 0, (5, 0, 0, 0), 0, 0, []),
  (29, .aload_n 0, 1, 0, (0, 0, 0, 0), 0, 0, []),
  (30, .getfield 20, 3, 0, (1, 585, 1, 1), 0, 0, []),
  (33, .iload 4, 2, 0, (4, 0, 0, 0), 0, 0, []),
  (35, .iconst 0, 1, 0, (0, 0, 0, 0), 0, 0, []),
  (36, .invokevirtual 85, 3, 0, (23, 1117, 3, 7), 0, 0, []),
  (39, .iload_n 1, 1, 0, (1, 0, 0, 0), 0, 0, []),
  (40, .if_icmp .ne 44, 3, 0, (84, 0, 0, 0), 0, 0, []),
  (43, .iload 5, 2, 0, (5, 0, 0, 0), 0, 0, []),
  (45, .ifCond .eq 39, 3, 0, (84, 0, 0, 0), 0, 0, []),
  (48, .iconst 0, 1, 0, (0, 0, 0, 0), 0, 0, []),
  (49, .aload_n 0, 1, 0, (0, 0, 0, 0), 0, 0, []),
  (50, .getfield 58, 3, 0, (1, 617, 13, 0), 0, 0, []),
  (53, .aload_n 0, 1, 0, (0, 0, 0, 0), 0, 0, []),
  (54, .iload 4, 2, 0, (4, 0, 0, 0), 0, 0, []),
  (56, .iload_n 2, 1, 0, (2, 0, 0, 0), 0, 0, []),
  (57, .invokevirtual 109, 3, 0, (39, 1177, 3, 2), 0, 0, []),
  (60, .isub, 1, 0, (0, 0, 0, 0), 0, 0, []),
  (61, .invokestatic 104, 3, 0, (3, 1186, 0, 0), 0, 0, []),
  (64, .istore 6, 2, 0, (6, 0, 0, 0), 0, 0, []),
  (66, .iload_n 3, 1, 0, (3, 0, 0, 0), 0, 0, []),
  (67, .iload 5, 2, 0, (5, 0, 0, 0), 0, 0, []),
  (69, .iconst 2, 1, 0, (0, 0, 0, 0), 2, 0, []),
  (70, .if_icmp .ne 10, 3, 0, (80, 0, 0, 0), 0, 0, []),
  (73, .iconst 3, 1, 0, (0, 0, 0, 0), 3, 0, []),
  (74, .iload 6, 2, 0, (6, 0, 0, 0), 0, 0, []),
  (76, .imul, 1, 0, (0, 0, 0, 0), 0, 0, []),
  (77, .goto 5, 3, 0, (82, 0, 0, 0), 0, 0, []),
  (80, .iload 6, 2, 0, (6, 0, 0, 0), 0, 0, []),
  (82, .iadd, 1, 0, (0, 0, 0, 0), 0, 0, []),
  (83, .istore_n 3, 1, 0, (3, 0, 0, 0), 0, 0, []),
  (84, .iinc 4 1, 3, 0, (4, 0, 0, 0), 1, 0, []),
  (87, .goto (-82), 3, 0, (5, 0, 0, 0), 0, 0, []),
  (90, .iload_n 3, 1, 0, (3, 0, 0, 0), 0, 0, []),
  (91, .ireturn, 1, 0, (0, 0, 0, 0), 0, 0, [])]
def hk_m31 : hk_Q := (⟨"HullKeepers$House", "leaksAfter", "(II)I"⟩, prog_3_method_9_code, 7, (some .int), (3, 0, 0, 0, 0, 0), hk_c31)
def hk_c32 : List hk_E := [(0, .iconst 0, 1, 0, (0, 0, 0, 0), 0, 0, []),
  (1, .aload_n 0, 1, 0, (0, 0, 0, 0), 0, 0, []),
  (2, .getfield 20, 3, 0, (1, 585, 1, 1), 0, 0, []),
  (5, .iload_n 1, 1, 0, (1, 0, 0, 0), 0, 0, []),
  (6, .iconst 2, 1, 0, (0, 0, 0, 0), 2, 0, []),
  (7, .invokevirtual 85, 3, 0, (23, 1117, 3, 7), 0, 0, []),
  (10, .iload_n 2, 1, 0, (2, 0, 0, 0), 0, 0, []),
  (11, .aload_n 0, 1, 0, (0, 0, 0, 0), 0, 0, []),
  (12, .iload_n 1, 1, 0, (1, 0, 0, 0), 0, 0, []),
  (13, .invokevirtual 100, 3, 0, (40, 1181, 2, 2), 0, 0, []),
  (16, .imul, 1, 0, (0, 0, 0, 0), 0, 0, []),
  (17, .isub, 1, 0, (0, 0, 0, 0), 0, 0, []),
  (18, .invokestatic 104, 3, 0, (3, 1186, 0, 0), 0, 0, []),
  (21, .ireturn, 1, 0, (0, 0, 0, 0), 0, 0, [])]
def hk_m32 : hk_Q := (⟨"HullKeepers$House", "thicknessAfter", "(II)I"⟩, prog_3_method_8_code, 3, (some .int), (3, 0, 0, 0, 0, 0), hk_c32)
def hk_c33 : List hk_E := [(0, .aload_n 0, 1, 0, (0, 0, 0, 0), 0, 0, []),
  (1, .getfield 20, 3, 0, (1, 585, 1, 1), 0, 0, []),
  (4, .iload_n 1, 1, 0, (1, 0, 0, 0), 0, 0, []),
  (5, .iconst 1, 1, 0, (0, 0, 0, 0), 1, 0, []),
  (6, .invokevirtual 85, 3, 0, (23, 1117, 3, 7), 0, 0, []),
  (9, .istore_n 2, 1, 0, (2, 0, 0, 0), 0, 0, []),
  (10, .iload_n 2, 1, 0, (2, 0, 0, 0), 0, 0, []),
  (11, .iconst 0, 1, 0, (0, 0, 0, 0), 0, 0, []),
  (12, .iconst 2, 1, 0, (0, 0, 0, 0), 2, 0, []),
  (13, .invokestatic 96, 3, 0, (19, 0, 3, 0), 0, 0, []),
  (16, .ifCond .eq 12, 3, 0, (28, 0, 0, 0), 0, 0, []),
  (19, .aload_n 0, 1, 0, (0, 0, 0, 0), 0, 0, []),
  (20, .getfield 44, 3, 0, (1, 606, 9, 1), 0, 0, []),
  (23, .iload_n 2, 1, 0, (2, 0, 0, 0), 0, 0, []),
  (24, .iaload, 1, 0, (0, 0, 0, 0), 0, 0, []),
  (25, .goto 4, 3, 0, (29, 0, 0, 0), 0, 0, []),
  (28, .iconst 0, 1, 0, (0, 0, 0, 0), 0, 0, []),
  (29, .ireturn, 1, 0, (0, 0, 0, 0), 0, 0, [])]
def hk_m33 : hk_Q := (⟨"HullKeepers$House", "wearOf", "(I)I"⟩, prog_3_method_7_code, 3, (some .int), (2, 0, 0, 0, 0, 0), hk_c33)
def hk_c34 : List hk_E := [(0, .iload_n 2, 1, 0, (2, 0, 0, 0), 0, 0, []),
  (1, .aload_n 0, 1, 0, (0, 0, 0, 0), 0, 0, []),
  (2, .getfield 16, 3, 0, (1, 582, 0, 1), 0, 0, []),
  (5, .iload_n 1, 1, 0, (1, 0, 0, 0), 0, 0, []),
  (6, .iconst 3, 1, 0, (0, 0, 0, 0), 3, 0, []),
  (7, .invokevirtual 85, 3, 0, (23, 1117, 3, 7), 0, 0, []),
  (10, .invokestatic 112, 3, 0, (4, 1191, 0, 0), 0, 0, []),
  (13, .iload_n 3, 1, 0, (3, 0, 0, 0), 0, 0, []),
  (14, .invokestatic 112, 3, 0, (4, 1191, 0, 0), 0, 0, []),
  (17, .ireturn, 1, 0, (0, 0, 0, 0), 0, 0, [])]
def hk_m34 : hk_Q := (⟨"HullKeepers$House", "pumped", "(III)I"⟩, prog_3_method_10_code, 4, (some .int), (4, 0, 0, 0, 0, 0), hk_c34)
def hk_c35 : List hk_E := [(0, .iconst 0, 1, 0, (0, 0, 0, 0), 0, 0, []),
  (1, .istore_n 2, 1, 0, (2, 0, 0, 0), 0, 0, []),
  (2, .iload_n 2, 1, 1, (2, 0, 0, 0), 0, 0, []),
  (3, .aload_n 0, 1, 0, (0, 0, 0, 0), 0, 0, []),
  (4, .getfield 20, 3, 0, (1, 585, 1, 1), 0, 0, []),
  (7, .getfield 89, 3, 0, (6, 556, 3, 0), 0, 0, []),
  (10, .if_icmp .ge 37, 3, 0, (47, 0, 0, 0), 0, 0, []),
  (13, .aload_n 0, 1, 0, (0, 0, 0, 0), 0, 0, []),
  (14, .getfield 20, 3, 0, (1, 585, 1, 1), 0, 0, []),
  (17, .iload_n 2, 1, 0, (2, 0, 0, 0), 0, 0, []),
  (18, .iconst 0, 1, 0, (0, 0, 0, 0), 0, 0, []),
  (19, .invokevirtual 85, 3, 0, (23, 1117, 3, 7), 0, 0, []),
  (22, .iload_n 1, 1, 0, (1, 0, 0, 0), 0, 0, []),
  (23, .if_icmp .ne 18, 3, 0, (41, 0, 0, 0), 0, 0, []),
  (26, .aload_n 0, 1, 0, (0, 0, 0, 0), 0, 0, []),
  (27, .getfield 20, 3, 0, (1, 585, 1, 1), 0, 0, []),
  (30, .iload_n 2, 1, 0, (2, 0, 0, 0), 0, 0, []),
  (31, .iconst 2, 1, 0, (0, 0, 0, 0), 2, 0, []),
  (32, .aload_n 0, 1, 0, (0, 0, 0, 0), 0, 0, []),
  (33, .iload_n 2, 1, 0, (2, 0, 0, 0), 0, 0, []),
  (34, .iconst 1, 1, 0, (0, 0, 0, 0), 1, 0, []),
  (35, .invokevirtual 109, 3, 0, (39, 1177, 3, 2), 0, 0, []),
  (38, .invokevirtual 92, 3, 0, (12, 1122, 4, 7), 0, 0, []),
  (41, .iinc 2 1, 3, 0, (2, 0, 0, 0), 1, 0, []),
  (44, .goto (-42), 3, 0, (2, 0, 0, 0), 0, 0, []),
  (47, .return_, 1, 0, (0, 0, 0, 0), 0, 0, [])]
def hk_m35 : hk_Q := (⟨"HullKeepers$House", "wearPlates", "(I)V"⟩, prog_3_method_15_code, 3, none, (2, 0, 0, 0, 0, 0), hk_c35)
def hk_c36 : List hk_E := [(0, .aload_n 0, 1, 0, (0, 0, 0, 0), 0, 0, []),
  (1, .iload_n 1, 1, 0, (1, 0, 0, 0), 0, 0, []),
  (2, .iload_n 2, 1, 0, (2, 0, 0, 0), 0, 0, []),
  (3, .invokevirtual 115, 3, 0, (44, 1202, 3, 2), 0, 0, []),
  (6, .aload_n 0, 1, 0, (0, 0, 0, 0), 0, 0, []),
  (7, .getfield 16, 3, 0, (1, 582, 0, 1), 0, 0, []),
  (10, .iload_n 1, 1, 0, (1, 0, 0, 0), 0, 0, []),
  (11, .iconst 1, 1, 0, (0, 0, 0, 0), 1, 0, []),
  (12, .invokevirtual 85, 3, 0, (23, 1117, 3, 7), 0, 0, []),
  (15, .if_icmp .le 7, 3, 0, (22, 0, 0, 0), 0, 0, []),
  (18, .iconst 1, 1, 0, (0, 0, 0, 0), 1, 0, []),
  (19, .goto 4, 3, 0, (23, 0, 0, 0), 0, 0, []),
  (22, .iconst 0, 1, 0, (0, 0, 0, 0), 0, 0, []),
  (23, .ireturn, 1, 0, (0, 0, 0, 1), 0, 0, [])]
def hk_m36 : hk_Q := (⟨"HullKeepers$House", "sinksWith", "(II)Z"⟩, prog_3_method_12_code, 3, (some .boolean), (3, 0, 0, 0, 0, 0), hk_c36)
def hk_c37 : List hk_E := [(0, .aload_n 0, 1, 0, (0, 0, 0, 0), 0, 0, []),
  (1, .getfield 16, 3, 0, (1, 582, 0, 1), 0, 0, []),
  (4, .iload_n 1, 1, 0, (1, 0, 0, 0), 0, 0, []),
  (5, .iconst 0, 1, 0, (0, 0, 0, 0), 0, 0, []),
  (6, .invokevirtual 85, 3, 0, (23, 1117, 3, 7), 0, 0, []),
  (9, .istore_n 3, 1, 0, (3, 0, 0, 0), 0, 0, []),
  (10, .iload_n 3, 1, 0, (3, 0, 0, 0), 0, 0, []),
  (11, .ifCond .gt 5, 3, 0, (16, 0, 0, 0), 0, 0, []),
  (14, .iconst 0, 1, 0, (0, 0, 0, 0), 0, 0, []),
  (15, .ireturn, 1, 0, (0, 0, 0, 0), 0, 0, []),
  (16, .aload_n 0, 1, 0, (0, 0, 0, 0), 0, 0, []),
  (17, .getfield 16, 3, 0, (1, 582, 0, 1), 0, 0, []),
  (20, .iload_n 1, 1, 0, (1, 0, 0, 0), 0, 0, []),
  (21, .iconst 2, 1, 0, (0, 0, 0, 0), 2, 0, []),
  (22, .invokevirtual 85, 3, 0, (23, 1117, 3, 7), 0, 0, []),
  (25, .iload_n 2, 1, 0, (2, 0, 0, 0), 0, 0, []),
  (26, .iadd, 1, 0, (0, 0, 0, 0), 0, 0, []),
  (27, .aload_n 0, 1, 0, (0, 0, 0, 0), 0, 0, []),
  (28, .getfield 16, 3, 0, (1, 582, 0, 1), 0, 0, []),
  (31, .iload_n 1, 1, 0, (1, 0, 0, 0), 0, 0, []),
  (32, .iconst 4, 1, 0, (0, 0, 0, 0), 4, 0, []),
  (33, .invokevirtual 85, 3, 0, (23, 1117, 3, 7), 0, 0, []),
  (36, .iadd, 1, 0, (0, 0, 0, 0), 0, 0, []),
  (37, .iload_n 3, 1, 0, (3, 0, 0, 0), 0, 0, []),
  (38, .idiv, 1, 0, (0, 0, 0, 0), 0, 0, []),
  (39, .ireturn, 1, 0, (0, 0, 0, 0), 0, 0, [])]
def hk_m37 : hk_Q := (⟨"HullKeepers$House", "liesWith", "(II)I"⟩, prog_3_method_11_code, 4, (some .int), (3, 0, 0, 0, 0, 0), hk_c37)
def hk_c38 : List hk_E := [(0, .aload_n 0, 1, 0, (0, 0, 0, 0), 0, 0, []),
  (1, .getfield 10, 3, 0, (7, 1064, 0, 1), 0, 0, []),
  (4, .getfield 62, 3, 0, (1, 584, 0, 1), 0, 0, []),
  (7, .iload_n 1, 1, 0, (1, 0, 0, 0), 0, 0, []),
  (8, .invokevirtual 80, 3, 0, (21, 1101, 2, 7), 0, 0, []),
  (11, .ifCond .eq 25, 3, 0, (36, 0, 0, 0), 0, 0, []),
  (14, .iload_n 2, 1, 0, (2, 0, 0, 0), 0, 0, []),
  (15, .iconst 0, 1, 0, (0, 0, 0, 0), 0, 0, []),
  (16, .bipush 6, 2, 0, (0, 0, 0, 0), 6, 0, []),
  (18, .invokestatic 57, 3, 0, (19, 1090, 3, 0), 0, 0, []),
  (21, .ifCond .eq 15, 3, 0, (36, 0, 0, 0), 0, 0, []),
  (24, .aload_n 0, 1, 0, (0, 0, 0, 0), 0, 0, []),
  (25, .getfield 10, 3, 0, (7, 1064, 0, 1), 0, 0, []),
  (28, .iload_n 1, 1, 0, (1, 0, 0, 0), 0, 0, []),
  (29, .iload_n 2, 1, 0, (2, 0, 0, 0), 0, 0, []),
  (30, .invokevirtual 127, 3, 0, (46, 1210, 3, 2), 0, 0, []),
  (33, .goto 5, 3, 0, (38, 0, 0, 0), 0, 0, []),
  (36, .bipush (-2), 2, 0, (0, 0, 0, 0), (-2), 0, []),
  (38, .ireturn, 1, 0, (0, 0, 0, 0), 0, 0, [])]
def hk_m38 : hk_Q := (⟨"HullKeepers", "about", "(II)I"⟩, prog_1_method_11_code, 3, (some .int), (3, 0, 0, 0, 0, 0), hk_c38)
def hk_c39 : List hk_E := [(0, .iload_n 2, 1, 0, (2, 0, 0, 0), 0, 0, []),
  (1, .tableswitch 94 0 5 #[39, 49, 64, 75, 81, 87], 39, 0, (95, 0, 0, 0), 0, 0, [(0, 40), (1, 50), (2, 65), (3, 76), (4, 82), (5, 88)]),
  (40, .aload_n 0, 1, 0, (0, 0, 0, 0), 0, 0, []),
  (41, .getfield 16, 3, 0, (1, 582, 0, 1), 0, 0, []),
  (44, .iload_n 1, 1, 0, (1, 0, 0, 0), 0, 0, []),
  (45, .iconst 5, 1, 0, (0, 0, 0, 0), 5, 0, []),
  (46, .invokevirtual 85, 3, 0, (23, 1117, 3, 7), 0, 0, []),
  (49, .ireturn, 1, 0, (0, 0, 0, 0), 0, 0, []),
  (50, .aload_n 0, 1, 0, (0, 0, 0, 0), 0, 0, []),
  (51, .iload_n 1, 1, 0, (1, 0, 0, 0), 0, 0, []),
  (52, .aload_n 0, 1, 0, (0, 0, 0, 0), 0, 0, []),
  (53, .getfield 16, 3, 0, (1, 582, 0, 1), 0, 0, []),
  (56, .iload_n 1, 1, 0, (1, 0, 0, 0), 0, 0, []),
  (57, .iconst 5, 1, 0, (0, 0, 0, 0), 5, 0, []),
  (58, .invokevirtual 85, 3, 0, (23, 1117, 3, 7), 0, 0, []),
  (61, .invokevirtual 115, 3, 0, (44, 1202, 3, 2), 0, 0, []),
  (64, .ireturn, 1, 0, (0, 0, 0, 0), 0, 0, []),
  (65, .aload_n 0, 1, 0, (0, 0, 0, 0), 0, 0, []),
  (66, .getfield 16, 3, 0, (1, 582, 0, 1), 0, 0, []),
  (69, .iload_n 1, 1, 0, (1, 0, 0, 0), 0, 0, []),
  (70, .bipush 6, 2, 0, (0, 0, 0, 0), 6, 0, []),
  (72, .invokevirtual 85, 3, 0, (23, 1117, 3, 7), 0, 0, []),
  (75, .ireturn, 1, 0, (0, 0, 0, 0), 0, 0, []),
  (76, .aload_n 0, 1, 0, (0, 0, 0, 0), 0, 0, []),
  (77, .iload_n 1, 1, 0, (1, 0, 0, 0), 0, 0, []),
  (78, .invokevirtual 141, 3, 0, (24, 1214, 2, 2), 0, 0, []),
  (81, .ireturn, 1, 0, (0, 0, 0, 0), 0, 0, []),
  (82, .aload_n 0, 1, 0, (0, 0, 0, 0), 0, 0, []),
  (83, .iload_n 1, 1, 0, (1, 0, 0, 0), 0, 0, []),
  (84, .invokevirtual 144, 3, 0, (47, 1215, 2, 2), 0, 0, []),
  (87, .ireturn, 1, 0, (0, 0, 0, 0), 0, 0, []),
  (88, .aload_n 0, 1, 0, (0, 0, 0, 0), 0, 0, []),
  (89, .iload_n 1, 1, 0, (1, 0, 0, 0), 0, 0, []),
  (90, .iconst 0, 1, 0, (0, 0, 0, 0), 0, 0, []),
  (91, .invokevirtual 126, 3, 0, (38, 1173, 3, 2), 0, 0, []),
  (94, .ireturn, 1, 0, (0, 0, 0, 0), 0, 0, []),
  (95, .aload_n 0, 1, 0, (0, 0, 0, 0), 0, 0, []),
  (96, .getfield 16, 3, 0, (1, 582, 0, 1), 0, 0, []),
  (99, .iload_n 1, 1, 0, (1, 0, 0, 0), 0, 0, []),
  (100, .bipush 8, 2, 0, (0, 0, 0, 0), 8, 0, []),
  (102, .invokevirtual 85, 3, 0, (23, 1117, 3, 7), 0, 0, []),
  (105, .ireturn, 1, 0, (0, 0, 0, 0), 0, 0, [])]
def hk_m39 : hk_Q := (⟨"HullKeepers$House", "shipAt", "(II)I"⟩, prog_3_method_16_code, 3, (some .int), (3, 0, 0, 0, 0, 0), hk_c39)
def hk_c40 : List hk_E := [(0, .aload_n 0, 1, 0, (0, 0, 0, 0), 0, 0, []),
  (1, .getfield 16, 3, 0, (1, 582, 0, 1), 0, 0, []),
  (4, .iload_n 1, 1, 0, (1, 0, 0, 0), 0, 0, []),
  (5, .bipush 7, 2, 0, (0, 0, 0, 0), 7, 0, []),
  (7, .invokevirtual 85, 3, 0, (23, 1117, 3, 7), 0, 0, []),
  (10, .istore_n 2, 1, 0, (2, 0, 0, 0), 0, 0, []),
  (11, .iload_n 2, 1, 0, (2, 0, 0, 0), 0, 0, []),
  (12, .ifCond .gt 5, 3, 0, (17, 0, 0, 0), 0, 0, []),
  (15, .iconst (-1), 1, 0, (0, 0, 0, 0), (-1), 0, []),
  (16, .ireturn, 1, 0, (0, 0, 0, 0), 0, 0, []),
  (17, .iconst 0, 1, 0, (0, 0, 0, 0), 0, 0, []),
  (18, .istore_n 3, 1, 0, (3, 0, 0, 0), 0, 0, []),
  (19, .iconst 0, 1, 0, (0, 0, 0, 0), 0, 0, []),
  (20, .istore 4, 2, 0, (4, 0, 0, 0), 0, 0, []),
  (22, .iload 4, 2, 1, (4, 0, 0, 0), 0, 0, []),
  (24, .aload_n 0, 1, 0, (0, 0, 0, 0), 0, 0, []),
  (25, .getfield 20, 3, 0, (1, 585, 1, 1), 0, 0, []),
  (28, .getfield 89, 3, 0, (6, 556, 3, 0), 0, 0, []),
  (31, .if_icmp .ge 50, 3, 0, (81, 0, 0, 0), 0, 0, []),
  (34, .aload_n 0, 1, 0, (0, 0, 0, 0), 0, 0, []),
  (35, .getfield 20, 3, 0, (1, 585, 1, 1), 0, 0, []),
  (38, .iload 4, 2, 0, (4, 0, 0, 0), 0, 0, []),
  (40, .iconst 0, 1, 0, (0, 0, 0, 0), 0, 0, []),
  (41, .invokevirtual 85, 3, 0, (23, 1117, 3, 7), 0, 0, []),
  (44, .iload_n 1, 1, 0, (1, 0, 0, 0), 0, 0, []),
  (45, .if_icmp .ne 30, 3, 0, (75, 0, 0, 0), 0, 0, []),
  (48, .aload_n 0, 1, 0, (0, 0, 0, 0), 0, 0, []),
  (49, .getfield 20, 3, 0, (1, 585, 1, 1), 0, 0, []),
  (52, .iload 4, 2, 0, (4, 0, 0, 0), 0, 0, []),
  (54, .iconst 5, 1, 0, (0, 0, 0, 0), 5, 0, []),
  (55, .invokevirtual 85, 3, 0, (23, 1117, 3, 7), 0, 0, []),
  (58, .iconst 1, 1, 0, (0, 0, 0, 0), 1, 0, []),
  (59, .if_icmp .ne 16, 3, 0, (75, 0, 0, 0), 0, 0, []),
  (62, .iload_n 3, 1, 0, (3, 0, 0, 0), 0, 0, []),
  (63, .aload_n 0, 1, 0, (0, 0, 0, 0), 0, 0, []),
  (64, .getfield 20, 3, 0, (1, 585, 1, 1), 0, 0, []),
  (67, .iload 4, 2, 0, (4, 0, 0, 0), 0, 0, []),
  (69, .iconst 3, 1, 0, (0, 0, 0, 0), 3, 0, []),
  (70, .invokevirtual 85, 3, 0, (23, 1117, 3, 7), 0, 0, []),
  (73, .iadd, 1, 0, (0, 0, 0, 0), 0, 0, []),
  (74, .istore_n 3, 1, 0, (3, 0, 0, 0), 0, 0, []),
  (75, .iinc 4 1, 3, 0, (4, 0, 0, 0), 1, 0, []),
  (78, .goto (-56), 3, 0, (22, 0, 0, 0), 0, 0, []),
  (81, .iload_n 3, 1, 0, (3, 0, 0, 0), 0, 0, []),
  (82, .sipush 1000, 3, 0, (0, 0, 0, 0), 1000, 0, []),
  (85, .imul, 1, 0, (0, 0, 0, 0), 0, 0, []),
  (86, .iload_n 2, 1, 0, (2, 0, 0, 0), 0, 0, []),
  (87, .idiv, 1, 0, (0, 0, 0, 0), 0, 0, []),
  (88, .ireturn, 1, 0, (0, 0, 0, 0), 0, 0, [])]
def hk_m40 : hk_Q := (⟨"HullKeepers$House", "firstStuff", "(I)I"⟩, prog_3_method_6_code, 5, (some .int), (2, 0, 0, 0, 0, 0), hk_c40)
def hk_c41 : List hk_E := [(0, .aload_n 0, 1, 0, (0, 0, 0, 0), 0, 0, []),
  (1, .getfield 10, 3, 0, (7, 1064, 0, 1), 0, 0, []),
  (4, .getfield 84, 3, 0, (1, 586, 1, 1), 0, 0, []),
  (7, .iload_n 1, 1, 0, (1, 0, 0, 0), 0, 0, []),
  (8, .invokevirtual 80, 3, 0, (21, 1101, 2, 7), 0, 0, []),
  (11, .ifCond .eq 27, 3, 0, (38, 0, 0, 0), 0, 0, []),
  (14, .iload_n 2, 1, 0, (2, 0, 0, 0), 0, 0, []),
  (15, .iconst 0, 1, 0, (0, 0, 0, 0), 0, 0, []),
  (16, .iconst 5, 1, 0, (0, 0, 0, 0), 5, 0, []),
  (17, .invokestatic 57, 3, 0, (19, 1090, 3, 0), 0, 0, []),
  (20, .ifCond .eq 18, 3, 0, (38, 0, 0, 0), 0, 0, []),
  (23, .aload_n 0, 1, 0, (0, 0, 0, 0), 0, 0, []),
  (24, .getfield 10, 3, 0, (7, 1064, 0, 1), 0, 0, []),
  (27, .getfield 84, 3, 0, (1, 586, 1, 1), 0, 0, []),
  (30, .iload_n 1, 1, 0, (1, 0, 0, 0), 0, 0, []),
  (31, .iload_n 2, 1, 0, (2, 0, 0, 0), 0, 0, []),
  (32, .invokevirtual 87, 3, 0, (23, 1109, 3, 7), 0, 0, []),
  (35, .goto 6, 3, 0, (41, 0, 0, 0), 0, 0, []),
  (38, .sipush (-10000), 3, 0, (0, 0, 0, 0), (-10000), 0, []),
  (41, .ireturn, 1, 0, (0, 0, 0, 0), 0, 0, [])]
def hk_m41 : hk_Q := (⟨"HullKeepers", "plateAt", "(II)I"⟩, prog_1_method_12_code, 3, (some .int), (3, 0, 0, 0, 0, 0), hk_c41)
def hk_c42 : List hk_E := [(0, .aload_n 0, 1, 0, (0, 0, 0, 0), 0, 0, []),
  (1, .getfield 10, 3, 0, (7, 1064, 0, 1), 0, 0, []),
  (4, .getfield 84, 3, 0, (1, 586, 1, 1), 0, 0, []),
  (7, .iload_n 1, 1, 0, (1, 0, 0, 0), 0, 0, []),
  (8, .invokevirtual 80, 3, 0, (21, 1101, 2, 7), 0, 0, []),
  (11, .ifCond .eq 14, 3, 0, (25, 0, 0, 0), 0, 0, []),
  (14, .iload_n 2, 1, 0, (2, 0, 0, 0), 0, 0, []),
  (15, .iconst 1, 1, 0, (0, 0, 0, 0), 1, 0, []),
  (16, .sipush 5000, 3, 0, (0, 0, 0, 0), 5000, 0, []),
  (19, .invokestatic 57, 3, 0, (19, 1090, 3, 0), 0, 0, []),
  (22, .ifCond .ne 6, 3, 0, (28, 0, 0, 0), 0, 0, []),
  (25, .bipush (-2), 2, 0, (0, 0, 0, 0), (-2), 0, []),
  (27, .ireturn, 1, 0, (0, 0, 0, 0), 0, 0, []),
  (28, .aload_n 0, 1, 0, (0, 0, 0, 0), 0, 0, []),
  (29, .getfield 10, 3, 0, (7, 1064, 0, 1), 0, 0, []),
  (32, .getfield 84, 3, 0, (1, 586, 1, 1), 0, 0, []),
  (35, .iload_n 1, 1, 0, (1, 0, 0, 0), 0, 0, []),
  (36, .iconst 0, 1, 0, (0, 0, 0, 0), 0, 0, []),
  (37, .invokevirtual 87, 3, 0, (23, 1109, 3, 7), 0, 0, []),
  (40, .istore_n 3, 1, 0, (3, 0, 0, 0), 0, 0, []),
  (41, .aload_n 0, 1, 0, (0, 0, 0, 0), 0, 0, []),
  (42, .getfield 10, 3, 0, (7, 1064, 0, 1), 0, 0, []),
  (45, .getfield 62, 3, 0, (1, 584, 0, 1), 0, 0, []),
  (48, .iload_n 3, 1, 0, (3, 0, 0, 0), 0, 0, []),
  (49, .bipush 8, 2, 0, (0, 0, 0, 0), 8, 0, []),
  (51, .invokevirtual 87, 3, 0, (23, 1109, 3, 7), 0, 0, []),
  (54, .istore 4, 2, 0, (4, 0, 0, 0), 0, 0, []),
  (56, .aload_n 0, 1, 0, (0, 0, 0, 0), 0, 0, []),
  (57, .getfield 10, 3, 0, (7, 1064, 0, 1), 0, 0, []),
  (60, .iload_n 3, 1, 0, (3, 0, 0, 0), 0, 0, []),
  (61, .invokevirtual 130, 3, 0, (37, 1227, 2, 2), 0, 0, []),
  (64, .ifCond .eq 22, 3, 0, (86, 0, 0, 0), 0, 0, []),
  (67, .iload 4, 2, 0, (4, 0, 0, 0), 0, 0, []),
  (69, .iconst (-1), 1, 0, (0, 0, 0, 0), (-1), 0, []),
  (70, .if_icmp .eq 19, 3, 0, (89, 0, 0, 0), 0, 0, []),
  (73, .aload_n 0, 1, 0, (0, 0, 0, 0), 0, 0, []),
  (74, .getfield 25, 3, 0, (7, 1066, 2, 1), 0, 0, []),
  (77, .iload 4, 2, 0, (4, 0, 0, 0), 0, 0, []),
  (79, .iload_n 1, 1, 0, (1, 0, 0, 0), 0, 0, []),
  (80, .invokevirtual 133, 3, 0, (50, 1228, 3, 5), 0, 0, []),
  (83, .ifCond .ne 6, 3, 0, (89, 0, 0, 0), 0, 0, []),
  (86, .bipush (-3), 2, 0, (0, 0, 0, 0), (-3), 0, []),
  (88, .ireturn, 1, 0, (0, 0, 0, 0), 0, 0, []),
  (89, .aload_n 0, 1, 0, (0, 0, 0, 0), 0, 0, []),
  (90, .getfield 10, 3, 0, (7, 1064, 0, 1), 0, 0, []),
  (93, .getfield 84, 3, 0, (1, 586, 1, 1), 0, 0, []),
  (96, .iload_n 1, 1, 0, (1, 0, 0, 0), 0, 0, []),
  (97, .iconst 2, 1, 0, (0, 0, 0, 0), 2, 0, []),
  (98, .iload_n 2, 1, 0, (2, 0, 0, 0), 0, 0, []),
  (99, .invokevirtual 76, 3, 0, (12, 1096, 4, 7), 0, 0, []),
  (102, .aload_n 0, 1, 0, (0, 0, 0, 0), 0, 0, []),
  (103, .getfield 10, 3, 0, (7, 1064, 0, 1), 0, 0, []),
  (106, .getfield 84, 3, 0, (1, 586, 1, 1), 0, 0, []),
  (109, .iload_n 1, 1, 0, (1, 0, 0, 0), 0, 0, []),
  (110, .iconst 4, 1, 0, (0, 0, 0, 0), 4, 0, []),
  (111, .aload_n 0, 1, 0, (0, 0, 0, 0), 0, 0, []),
  (112, .getfield 10, 3, 0, (7, 1064, 0, 1), 0, 0, []),
  (115, .getfield 137, 3, 0, (1, 615, 12, 0), 0, 0, []),
  (118, .invokevirtual 76, 3, 0, (12, 1096, 4, 7), 0, 0, []),
  (121, .aload_n 0, 1, 0, (0, 0, 0, 0), 0, 0, []),
  (122, .getfield 10, 3, 0, (7, 1064, 0, 1), 0, 0, []),
  (125, .getfield 84, 3, 0, (1, 586, 1, 1), 0, 0, []),
  (128, .iload_n 1, 1, 0, (1, 0, 0, 0), 0, 0, []),
  (129, .iconst 5, 1, 0, (0, 0, 0, 0), 5, 0, []),
  (130, .iconst 0, 1, 0, (0, 0, 0, 0), 0, 0, []),
  (131, .invokevirtual 76, 3, 0, (12, 1096, 4, 7), 0, 0, []),
  (134, .iconst 1, 1, 0, (0, 0, 0, 0), 1, 0, []),
  (135, .ireturn, 1, 0, (0, 0, 0, 0), 0, 0, [])]
def hk_m42 : hk_Q := (⟨"HullKeepers", "replace", "(II)I"⟩, prog_1_method_13_code, 5, (some .int), (3, 0, 0, 0, 0, 0), hk_c42)
def hk_c43 : List hk_E := [(0, .aload_n 0, 1, 0, (0, 0, 0, 0), 0, 0, []),
  (1, .iload_n 1, 1, 0, (1, 0, 0, 0), 0, 0, []),
  (2, .iload_n 2, 1, 0, (2, 0, 0, 0), 0, 0, []),
  (3, .invokevirtual 59, 3, 0, (51, 1232, 3, 5), 0, 0, []),
  (6, .lconst 0, 1, 0, (0, 0, 0, 0), 0, 0, []),
  (7, .lcmp, 1, 0, (0, 0, 0, 0), 0, 0, []),
  (8, .ifCond .eq 7, 3, 0, (15, 0, 0, 0), 0, 0, []),
  (11, .iconst 1, 1, 0, (0, 0, 0, 0), 1, 0, []),
  (12, .goto 4, 3, 0, (16, 0, 0, 0), 0, 0, []),
  (15, .iconst 0, 1, 0, (0, 0, 0, 0), 0, 0, []),
  (16, .ireturn, 1, 0, (0, 0, 0, 1), 0, 0, [])]
def hk_m43 : hk_Q := (⟨"HullKeepers$Reader", "isTrue", "(II)Z"⟩, prog_6_method_5_code, 3, (some .boolean), (3, 0, 0, 0, 0, 0), hk_c43)
def hk_c44 : List hk_E := [(0, .aload_n 0, 1, 0, (0, 0, 0, 0), 0, 0, []),
  (1, .iload_n 1, 1, 0, (1, 0, 0, 0), 0, 0, []),
  (2, .putfield 19, 3, 0, (4, 671, 1, 0), 0, 0, []),
  (5, .aload_n 0, 1, 0, (0, 0, 0, 0), 0, 0, []),
  (6, .iload_n 2, 1, 0, (2, 0, 0, 0), 0, 0, []),
  (7, .putfield 22, 3, 0, (4, 672, 2, 0), 0, 0, []),
  (10, .aload_n 0, 1, 0, (0, 0, 0, 0), 0, 0, []),
  (11, .aload_n 0, 1, 0, (0, 0, 0, 0), 0, 0, []),
  (12, .getfield 9, 3, 0, (4, 670, 0, 1), 0, 0, []),
  (15, .getfield 25, 3, 0, (1, 593, 4, 1), 0, 0, []),
  (18, .iload_n 1, 1, 0, (1, 0, 0, 0), 0, 0, []),
  (19, .iconst 0, 1, 0, (0, 0, 0, 0), 0, 0, []),
  (20, .invokevirtual 31, 3, 0, (23, 1236, 3, 7), 0, 0, []),
  (23, .putfield 37, 3, 0, (4, 673, 3, 0), 0, 0, []),
  (26, .aload_n 0, 1, 0, (0, 0, 0, 0), 0, 0, []),
  (27, .iconst 0, 1, 0, (0, 0, 0, 0), 0, 0, []),
  (28, .putfield 40, 3, 0, (4, 674, 4, 0), 0, 0, []),
  (31, .aload_n 0, 1, 0, (0, 0, 0, 0), 0, 0, []),
  (32, .iconst (-1), 1, 0, (0, 0, 0, 0), (-1), 0, []),
  (33, .putfield 15, 3, 0, (4, 675, 5, 0), 0, 0, []),
  (36, .aload_n 0, 1, 0, (0, 0, 0, 0), 0, 0, []),
  (37, .iconst 0, 1, 0, (0, 0, 0, 0), 0, 0, []),
  (38, .invokevirtual 43, 3, 0, (52, 1237, 2, 5), 0, 0, []),
  (41, .lstore_n 3, 1, 0, (3, 0, 0, 0), 0, 0, []),
  (42, .aload_n 0, 1, 0, (0, 0, 0, 0), 0, 0, []),
  (43, .invokevirtual 47, 3, 0, (58, 1261, 1, 5), 0, 0, []),
  (46, .iconst (-1), 1, 0, (0, 0, 0, 0), (-1), 0, []),
  (47, .if_icmp .eq 12, 3, 0, (59, 0, 0, 0), 0, 0, []),
  (50, .aload_n 0, 1, 0, (0, 0, 0, 0), 0, 0, []),
  (51, .aload_n 0, 1, 0, (0, 0, 0, 0), 0, 0, []),
  (52, .getfield 40, 3, 0, (4, 674, 4, 0), 0, 0, []),
  (55, .iconst 1, 1, 0, (0, 0, 0, 0), 1, 0, []),
  (56, .invokevirtual 51, 3, 0, (63, 1554, 3, 5), 0, 0, []),
  (59, .aload_n 0, 1, 0, (0, 0, 0, 0), 0, 0, []),
  (60, .invokevirtual 55, 3, 0, (59, 1537, 1, 5), 0, 0, []),
  (63, .ifCond .eq 7, 3, 0, (70, 0, 0, 0), 0, 0, []),
  (66, .lconst 0, 1, 0, (0, 0, 0, 0), 0, 0, []),
  (67, .goto 4, 3, 0, (71, 0, 0, 0), 0, 0, []),
  (70, .lload_n 3, 1, 0, (3, 0, 0, 0), 0, 0, []),
  (71, .lreturn, 1, 0, (0, 0, 0, 0), 0, 0, [])]
def hk_m44 : hk_Q := (⟨"HullKeepers$Reader", "tell", "(II)J"⟩, prog_6_method_2_code, 5, (some .long), (3, 0, 0, 0, 0, 0), hk_c44)
def hk_c45 : List hk_E := [(0, .aload_n 0, 1, 0, (0, 0, 0, 0), 0, 0, []),
  (1, .iload_n 1, 1, 0, (1, 0, 0, 0), 0, 0, []),
  (2, .invokevirtual 67, 3, 0, (53, 1241, 2, 5), 0, 0, []),
  (5, .lstore_n 2, 1, 0, (2, 0, 0, 0), 0, 0, []),
  (6, .iconst 0, 1, 0, (0, 0, 0, 0), 0, 0, []),
  (7, .istore 4, 2, 0, (4, 0, 0, 0), 0, 0, []),
  (9, .iload 4, 2, 1, (4, 0, 0, 0), 0, 0, []),
  (11, .bipush 60, 2, 0, (0, 0, 0, 0), 60, 0, []),
  (13, .if_icmp .ge 54, 3, 0, (67, 0, 0, 0), 0, 0, []),
  (16, .aload_n 0, 1, 0, (0, 0, 0, 0), 0, 0, []),
  (17, .invokevirtual 47, 3, 0, (58, 1261, 1, 5), 0, 0, []),
  (20, .bipush 124, 2, 0, (0, 0, 0, 0), 124, 0, []),
  (22, .if_icmp .ne 45, 3, 0, (67, 0, 0, 0), 0, 0, []),
  (25, .aload_n 0, 1, 0, (0, 0, 0, 0), 0, 0, []),
  (26, .dup, 1, 0, (0, 0, 0, 0), 0, 0, []),
  (27, .getfield 40, 3, 0, (4, 674, 4, 0), 0, 0, []),
  (30, .iconst 1, 1, 0, (0, 0, 0, 0), 1, 0, []),
  (31, .iadd, 1, 0, (0, 0, 0, 0), 0, 0, []),
  (32, .putfield 40, 3, 0, (4, 674, 4, 0), 0, 0, []),
  (35, .aload_n 0, 1, 0, (0, 0, 0, 0), 0, 0, []),
  (36, .iload_n 1, 1, 0, (1, 0, 0, 0), 0, 0, []),
  (37, .invokevirtual 67, 3, 0, (53, 1241, 2, 5), 0, 0, []),
  (40, .lstore 5, 2, 0, (5, 0, 0, 0), 0, 0, []),
  (42, .lload_n 2, 1, 0, (2, 0, 0, 0), 0, 0, []),
  (43, .lconst 0, 1, 0, (0, 0, 0, 0), 0, 0, []),
  (44, .lcmp, 1, 0, (0, 0, 0, 0), 0, 0, []),
  (45, .ifCond .ne 10, 3, 0, (55, 0, 0, 0), 0, 0, []),
  (48, .lload 5, 2, 0, (5, 0, 0, 0), 0, 0, []),
  (50, .lconst 0, 1, 0, (0, 0, 0, 0), 0, 0, []),
  (51, .lcmp, 1, 0, (0, 0, 0, 0), 0, 0, []),
  (52, .ifCond .eq 7, 3, 0, (59, 0, 0, 0), 0, 0, []),
  (55, .lconst 1, 1, 0, (0, 0, 0, 0), 0, 1, []),
  (56, .goto 4, 3, 0, (60, 0, 0, 0), 0, 0, []),
  (59, .lconst 0, 1, 0, (0, 0, 0, 0), 0, 0, []),
  (60, .lstore_n 2, 1, 0, (2, 0, 0, 0), 0, 0, []),
  (61, .iinc 4 1, 3, 0, (4, 0, 0, 0), 1, 0, []),
  (64, .goto (-55), 3, 0, (9, 0, 0, 0), 0, 0, []),
  (67, .lload_n 2, 1, 0, (2, 0, 0, 0), 0, 0, []),
  (68, .lreturn, 1, 0, (0, 0, 0, 0), 0, 0, [])]
def hk_m45 : hk_Q := (⟨"HullKeepers$Reader", "value", "(I)J"⟩, prog_6_method_9_code, 7, (some .long), (2, 0, 0, 0, 0, 0), hk_c45)
def hk_c46 : List hk_E := [(0, .aload_n 0, 1, 0, (0, 0, 0, 0), 0, 0, []),
  (1, .iload_n 1, 1, 0, (1, 0, 0, 0), 0, 0, []),
  (2, .invokevirtual 70, 3, 0, (54, 1245, 2, 5), 0, 0, []),
  (5, .lstore_n 2, 1, 0, (2, 0, 0, 0), 0, 0, []),
  (6, .iconst 0, 1, 0, (0, 0, 0, 0), 0, 0, []),
  (7, .istore 4, 2, 0, (4, 0, 0, 0), 0, 0, []),
  (9, .iload 4, 2, 1, (4, 0, 0, 0), 0, 0, []),
  (11, .bipush 60, 2, 0, (0, 0, 0, 0), 60, 0, []),
  (13, .if_icmp .ge 54, 3, 0, (67, 0, 0, 0), 0, 0, []),
  (16, .aload_n 0, 1, 0, (0, 0, 0, 0), 0, 0, []),
  (17, .invokevirtual 47, 3, 0, (58, 1261, 1, 5), 0, 0, []),
  (20, .bipush 38, 2, 0, (0, 0, 0, 0), 38, 0, []),
  (22, .if_icmp .ne 45, 3, 0, (67, 0, 0, 0), 0, 0, []),
  (25, .aload_n 0, 1, 0, (0, 0, 0, 0), 0, 0, []),
  (26, .dup, 1, 0, (0, 0, 0, 0), 0, 0, []),
  (27, .getfield 40, 3, 0, (4, 674, 4, 0), 0, 0, []),
  (30, .iconst 1, 1, 0, (0, 0, 0, 0), 1, 0, []),
  (31, .iadd, 1, 0, (0, 0, 0, 0), 0, 0, []),
  (32, .putfield 40, 3, 0, (4, 674, 4, 0), 0, 0, []),
  (35, .aload_n 0, 1, 0, (0, 0, 0, 0), 0, 0, []),
  (36, .iload_n 1, 1, 0, (1, 0, 0, 0), 0, 0, []),
  (37, .invokevirtual 70, 3, 0, (54, 1245, 2, 5), 0, 0, []),
  (40, .lstore 5, 2, 0, (5, 0, 0, 0), 0, 0, []),
  (42, .lload_n 2, 1, 0, (2, 0, 0, 0), 0, 0, []),
  (43, .lconst 0, 1, 0, (0, 0, 0, 0), 0, 0, []),
  (44, .lcmp, 1, 0, (0, 0, 0, 0), 0, 0, []),
  (45, .ifCond .eq 14, 3, 0, (59, 0, 0, 0), 0, 0, []),
  (48, .lload 5, 2, 0, (5, 0, 0, 0), 0, 0, []),
  (50, .lconst 0, 1, 0, (0, 0, 0, 0), 0, 0, []),
  (51, .lcmp, 1, 0, (0, 0, 0, 0), 0, 0, []),
  (52, .ifCond .eq 7, 3, 0, (59, 0, 0, 0), 0, 0, []),
  (55, .lconst 1, 1, 0, (0, 0, 0, 0), 0, 1, []),
  (56, .goto 4, 3, 0, (60, 0, 0, 0), 0, 0, []),
  (59, .lconst 0, 1, 0, (0, 0, 0, 0), 0, 0, []),
  (60, .lstore_n 2, 1, 0, (2, 0, 0, 0), 0, 0, []),
  (61, .iinc 4 1, 3, 0, (4, 0, 0, 0), 1, 0, []),
  (64, .goto (-55), 3, 0, (9, 0, 0, 0), 0, 0, []),
  (67, .lload_n 2, 1, 0, (2, 0, 0, 0), 0, 0, []),
  (68, .lreturn, 1, 0, (0, 0, 0, 0), 0, 0, [])]
def hk_m46 : hk_Q := (⟨"HullKeepers$Reader", "both", "(I)J"⟩, prog_6_method_10_code, 7, (some .long), (2, 0, 0, 0, 0, 0), hk_c46)
def hk_c47 : List hk_E := [(0, .aload_n 0, 1, 0, (0, 0, 0, 0), 0, 0, []),
  (1, .iload_n 1, 1, 0, (1, 0, 0, 0), 0, 0, []),
  (2, .invokevirtual 73, 3, 0, (55, 1249, 2, 5), 0, 0, []),
  (5, .lstore_n 2, 1, 0, (2, 0, 0, 0), 0, 0, []),
  (6, .aload_n 0, 1, 0, (0, 0, 0, 0), 0, 0, []),
  (7, .invokevirtual 47, 3, 0, (58, 1261, 1, 5), 0, 0, []),
  (10, .istore 4, 2, 0, (4, 0, 0, 0), 0, 0, []),
  (12, .iload 4, 2, 0, (4, 0, 0, 0), 0, 0, []),
  (14, .bipush 60, 2, 0, (0, 0, 0, 0), 60, 0, []),
  (16, .if_icmp .eq 19, 3, 0, (35, 0, 0, 0), 0, 0, []),
  (19, .iload 4, 2, 0, (4, 0, 0, 0), 0, 0, []),
  (21, .bipush 62, 2, 0, (0, 0, 0, 0), 62, 0, []),
  (23, .if_icmp .eq 12, 3, 0, (35, 0, 0, 0), 0, 0, []),
  (26, .iload 4, 2, 0, (4, 0, 0, 0), 0, 0, []),
  (28, .bipush 61, 2, 0, (0, 0, 0, 0), 61, 0, []),
  (30, .if_icmp .eq 5, 3, 0, (35, 0, 0, 0), 0, 0, []),
  (33, .lload_n 2, 1, 0, (2, 0, 0, 0), 0, 0, []),
  (34, .lreturn, 1, 0, (0, 0, 0, 0), 0, 0, []),
  (35, .aload_n 0, 1, 0, (0, 0, 0, 0), 0, 0, []),
  (36, .dup, 1, 0, (0, 0, 0, 0), 0, 0, []),
  (37, .getfield 40, 3, 0, (4, 674, 4, 0), 0, 0, []),
  (40, .iconst 1, 1, 0, (0, 0, 0, 0), 1, 0, []),
  (41, .iadd, 1, 0, (0, 0, 0, 0), 0, 0, []),
  (42, .putfield 40, 3, 0, (4, 674, 4, 0), 0, 0, []),
  (45, .aload_n 0, 1, 0, (0, 0, 0, 0), 0, 0, []),
  (46, .iload_n 1, 1, 0, (1, 0, 0, 0), 0, 0, []),
  (47, .invokevirtual 73, 3, 0, (55, 1249, 2, 5), 0, 0, []),
  (50, .lstore 5, 2, 0, (5, 0, 0, 0), 0, 0, []),
  (52, .iload 4, 2, 0, (4, 0, 0, 0), 0, 0, []),
  (54, .bipush 60, 2, 0, (0, 0, 0, 0), 60, 0, []),
  (56, .if_icmp .ne 18, 3, 0, (74, 0, 0, 0), 0, 0, []),
  (59, .lload_n 2, 1, 0, (2, 0, 0, 0), 0, 0, []),
  (60, .lload 5, 2, 0, (5, 0, 0, 0), 0, 0, []),
  (62, .lcmp, 1, 0, (0, 0, 0, 0), 0, 0, []),
  (63, .ifCond .ge 7, 3, 0, (70, 0, 0, 0), 0, 0, []),
  (66, .iconst 1, 1, 0, (0, 0, 0, 0), 1, 0, []),
  (67, .goto 41, 3, 0, (108, 0, 0, 0), 0, 0, []),
  (70, .iconst 0, 1, 0, (0, 0, 0, 0), 0, 0, []),
  (71, .goto 37, 3, 0, (108, 0, 0, 0), 0, 0, []),
  (74, .iload 4, 2, 0, (4, 0, 0, 0), 0, 0, []),
  (76, .bipush 62, 2, 0, (0, 0, 0, 0), 62, 0, []),
  (78, .if_icmp .ne 18, 3, 0, (96, 0, 0, 0), 0, 0, []),
  (81, .lload_n 2, 1, 0, (2, 0, 0, 0), 0, 0, []),
  (82, .lload 5, 2, 0, (5, 0, 0, 0), 0, 0, []),
  (84, .lcmp, 1, 0, (0, 0, 0, 0), 0, 0, []),
  (85, .ifCond .le 7, 3, 0, (92, 0, 0, 0), 0, 0, []),
  (88, .iconst 1, 1, 0, (0, 0, 0, 0), 1, 0, []),
  (89, .goto 19, 3, 0, (108, 0, 0, 0), 0, 0, []),
  (92, .iconst 0, 1, 0, (0, 0, 0, 0), 0, 0, []),
  (93, .goto 15, 3, 0, (108, 0, 0, 0), 0, 0, []),
  (96, .lload_n 2, 1, 0, (2, 0, 0, 0), 0, 0, []),
  (97, .lload 5, 2, 0, (5, 0, 0, 0), 0, 0, []),
  (99, .lcmp, 1, 0, (0, 0, 0, 0), 0, 0, []),
  (100, .ifCond .ne 7, 3, 0, (107, 0, 0, 0), 0, 0, []),
  (103, .iconst 1, 1, 0, (0, 0, 0, 0), 1, 0, []),
  (104, .goto 4, 3, 0, (108, 0, 0, 0), 0, 0, []),
  (107, .iconst 0, 1, 0, (0, 0, 0, 0), 0, 0, []),
  (108, .istore 7, 2, 0, (7, 0, 0, 0), 0, 0, []),
  (110, .iload 7, 2, 0, (7, 0, 0, 0), 0, 0, []),
  (112, .ifCond .eq 7, 3, 0, (119, 0, 0, 0), 0, 0, []),
  (115, .lconst 1, 1, 0, (0, 0, 0, 0), 0, 1, []),
  (116, .goto 4, 3, 0, (120, 0, 0, 0), 0, 0, []),
  (119, .lconst 0, 1, 0, (0, 0, 0, 0), 0, 0, []),
  (120, .lreturn, 1, 0, (0, 0, 0, 0), 0, 0, [])]
def hk_m47 : hk_Q := (⟨"HullKeepers$Reader", "held", "(I)J"⟩, prog_6_method_11_code, 8, (some .long), (2, 0, 0, 0, 0, 0), hk_c47)
def hk_c48 : List hk_E := [(0, .aload_n 0, 1, 0, (0, 0, 0, 0), 0, 0, []),
  (1, .iload_n 1, 1, 0, (1, 0, 0, 0), 0, 0, []),
  (2, .invokevirtual 76, 3, 0, (56, 1253, 2, 5), 0, 0, []),
  (5, .lstore_n 2, 1, 0, (2, 0, 0, 0), 0, 0, []),
  (6, .aload_n 0, 1, 0, (0, 0, 0, 0), 0, 0, []),
  (7, .invokevirtual 47, 3, 0, (58, 1261, 1, 5), 0, 0, []),
  (10, .istore 4, 2, 0, (4, 0, 0, 0), 0, 0, []),
  (12, .iconst 0, 1, 0, (0, 0, 0, 0), 0, 0, []),
  (13, .istore 5, 2, 0, (5, 0, 0, 0), 0, 0, []),
  (15, .iload 5, 2, 1, (5, 0, 0, 0), 0, 0, []),
  (17, .bipush 60, 2, 0, (0, 0, 0, 0), 60, 0, []),
  (19, .if_icmp .ge 65, 3, 0, (84, 0, 0, 0), 0, 0, []),
  (22, .iload 4, 2, 0, (4, 0, 0, 0), 0, 0, []),
  (24, .bipush 43, 2, 0, (0, 0, 0, 0), 43, 0, []),
  (26, .if_icmp .eq 10, 3, 0, (36, 0, 0, 0), 0, 0, []),
  (29, .iload 4, 2, 0, (4, 0, 0, 0), 0, 0, []),
  (31, .bipush 45, 2, 0, (0, 0, 0, 0), 45, 0, []),
  (33, .if_icmp .ne 51, 3, 0, (84, 0, 0, 0), 0, 0, []),
  (36, .aload_n 0, 1, 0, (0, 0, 0, 0), 0, 0, []),
  (37, .dup, 1, 0, (0, 0, 0, 0), 0, 0, []),
  (38, .getfield 40, 3, 0, (4, 674, 4, 0), 0, 0, []),
  (41, .iconst 1, 1, 0, (0, 0, 0, 0), 1, 0, []),
  (42, .iadd, 1, 0, (0, 0, 0, 0), 0, 0, []),
  (43, .putfield 40, 3, 0, (4, 674, 4, 0), 0, 0, []),
  (46, .aload_n 0, 1, 0, (0, 0, 0, 0), 0, 0, []),
  (47, .iload_n 1, 1, 0, (1, 0, 0, 0), 0, 0, []),
  (48, .invokevirtual 76, 3, 0, (56, 1253, 2, 5), 0, 0, []),
  (51, .lstore 6, 2, 0, (6, 0, 0, 0), 0, 0, []),
  (53, .iload 4, 2, 0, (4, 0, 0, 0), 0, 0, []),
  (55, .bipush 43, 2, 0, (0, 0, 0, 0), 43, 0, []),
  (57, .if_icmp .ne 10, 3, 0, (67, 0, 0, 0), 0, 0, []),
  (60, .lload_n 2, 1, 0, (2, 0, 0, 0), 0, 0, []),
  (61, .lload 6, 2, 0, (6, 0, 0, 0), 0, 0, []),
  (63, .ladd, 1, 0, (0, 0, 0, 0), 0, 0, []),
  (64, .goto 7, 3, 0, (71, 0, 0, 0), 0, 0, []),
  (67, .lload_n 2, 1, 0, (2, 0, 0, 0), 0, 0, []),
  (68, .lload 6, 2, 0, (6, 0, 0, 0), 0, 0, []),
  (70, .lsub, 1, 0, (0, 0, 0, 0), 0, 0, []),
  (71, .lstore_n 2, 1, 0, (2, 0, 0, 0), 0, 0, []),
  (72, .aload_n 0, 1, 0, (0, 0, 0, 0), 0, 0, []),
  (73, .invokevirtual 47, 3, 0, (58, 1261, 1, 5), 0, 0, []),
  (76, .istore 4, 2, 0, (4, 0, 0, 0), 0, 0, []),
  (78, .iinc 5 1, 3, 0, (5, 0, 0, 0), 1, 0, []),
  (81, .goto (-66), 3, 0, (15, 0, 0, 0), 0, 0, []),
  (84, .lload_n 2, 1, 0, (2, 0, 0, 0), 0, 0, []),
  (85, .lreturn, 1, 0, (0, 0, 0, 0), 0, 0, [])]
def hk_m48 : hk_Q := (⟨"HullKeepers$Reader", "sum", "(I)J"⟩, prog_6_method_12_code, 8, (some .long), (2, 0, 0, 0, 0, 0), hk_c48)
def hk_c49 : List hk_E := [(0, .aload_n 0, 1, 0, (0, 0, 0, 0), 0, 0, []),
  (1, .iload_n 1, 1, 0, (1, 0, 0, 0), 0, 0, []),
  (2, .invokevirtual 79, 3, 0, (57, 1257, 2, 5), 0, 0, []),
  (5, .lstore_n 2, 1, 0, (2, 0, 0, 0), 0, 0, []),
  (6, .aload_n 0, 1, 0, (0, 0, 0, 0), 0, 0, []),
  (7, .invokevirtual 47, 3, 0, (58, 1261, 1, 5), 0, 0, []),
  (10, .istore 4, 2, 0, (4, 0, 0, 0), 0, 0, []),
  (12, .iconst 0, 1, 0, (0, 0, 0, 0), 0, 0, []),
  (13, .istore 5, 2, 0, (5, 0, 0, 0), 0, 0, []),
  (15, .iload 5, 2, 1, (5, 0, 0, 0), 0, 0, []),
  (17, .bipush 60, 2, 0, (0, 0, 0, 0), 60, 0, []),
  (19, .if_icmp .ge 76, 3, 0, (95, 0, 0, 0), 0, 0, []),
  (22, .iload 4, 2, 0, (4, 0, 0, 0), 0, 0, []),
  (24, .bipush 42, 2, 0, (0, 0, 0, 0), 42, 0, []),
  (26, .if_icmp .eq 10, 3, 0, (36, 0, 0, 0), 0, 0, []),
  (29, .iload 4, 2, 0, (4, 0, 0, 0), 0, 0, []),
  (31, .bipush 47, 2, 0, (0, 0, 0, 0), 47, 0, []),
  (33, .if_icmp .ne 62, 3, 0, (95, 0, 0, 0), 0, 0, []),
  (36, .aload_n 0, 1, 0, (0, 0, 0, 0), 0, 0, []),
  (37, .dup, 1, 0, (0, 0, 0, 0), 0, 0, []),
  (38, .getfield 40, 3, 0, (4, 674, 4, 0), 0, 0, []),
  (41, .iconst 1, 1, 0, (0, 0, 0, 0), 1, 0, []),
  (42, .iadd, 1, 0, (0, 0, 0, 0), 0, 0, []),
  (43, .putfield 40, 3, 0, (4, 674, 4, 0), 0, 0, []),
  (46, .aload_n 0, 1, 0, (0, 0, 0, 0), 0, 0, []),
  (47, .iload_n 1, 1, 0, (1, 0, 0, 0), 0, 0, []),
  (48, .invokevirtual 79, 3, 0, (57, 1257, 2, 5), 0, 0, []),
  (51, .lstore 6, 2, 0, (6, 0, 0, 0), 0, 0, []),
  (53, .iload 4, 2, 0, (4, 0, 0, 0), 0, 0, []),
  (55, .bipush 42, 2, 0, (0, 0, 0, 0), 42, 0, []),
  (57, .if_icmp .ne 10, 3, 0, (67, 0, 0, 0), 0, 0, []),
  (60, .lload_n 2, 1, 0, (2, 0, 0, 0), 0, 0, []),
  (61, .lload 6, 2, 0, (6, 0, 0, 0), 0, 0, []),
  (63, .lmul, 1, 0, (0, 0, 0, 0), 0, 0, []),
  (64, .goto 18, 3, 0, (82, 0, 0, 0), 0, 0, []),
  (67, .lload 6, 2, 0, (6, 0, 0, 0), 0, 0, []),
  (69, .lconst 0, 1, 0, (0, 0, 0, 0), 0, 0, []),
  (70, .lcmp, 1, 0, (0, 0, 0, 0), 0, 0, []),
  (71, .ifCond .ne 7, 3, 0, (78, 0, 0, 0), 0, 0, []),
  (74, .lconst 0, 1, 0, (0, 0, 0, 0), 0, 0, []),
  (75, .goto 7, 3, 0, (82, 0, 0, 0), 0, 0, []),
  (78, .lload_n 2, 1, 0, (2, 0, 0, 0), 0, 0, []),
  (79, .lload 6, 2, 0, (6, 0, 0, 0), 0, 0, []),
  (81, .ldiv, 1, 0, (0, 0, 0, 0), 0, 0, []),
  (82, .lstore_n 2, 1, 0, (2, 0, 0, 0), 0, 0, []),
  (83, .aload_n 0, 1, 0, (0, 0, 0, 0), 0, 0, []),
  (84, .invokevirtual 47, 3, 0, (58, 1261, 1, 5), 0, 0, []),
  (87, .istore 4, 2, 0, (4, 0, 0, 0), 0, 0, []),
  (89, .iinc 5 1, 3, 0, (5, 0, 0, 0), 1, 0, []),
  (92, .goto (-77), 3, 0, (15, 0, 0, 0), 0, 0, []),
  (95, .lload_n 2, 1, 0, (2, 0, 0, 0), 0, 0, []),
  (96, .lreturn, 1, 0, (0, 0, 0, 0), 0, 0, [])]
def hk_m49 : hk_Q := (⟨"HullKeepers$Reader", "term", "(I)J"⟩, prog_6_method_13_code, 8, (some .long), (2, 0, 0, 0, 0, 0), hk_c49)
def hk_c50 : List hk_E := [(0, .aload_n 0, 1, 0, (0, 0, 0, 0), 0, 0, []),
  (1, .getfield 40, 3, 0, (4, 674, 4, 0), 0, 0, []),
  (4, .istore_n 2, 1, 0, (2, 0, 0, 0), 0, 0, []),
  (5, .aload_n 0, 1, 0, (0, 0, 0, 0), 0, 0, []),
  (6, .invokevirtual 47, 3, 0, (58, 1261, 1, 5), 0, 0, []),
  (9, .istore_n 3, 1, 0, (3, 0, 0, 0), 0, 0, []),
  (10, .iconst 0, 1, 0, (0, 0, 0, 0), 0, 0, []),
  (11, .istore 4, 2, 0, (4, 0, 0, 0), 0, 0, []),
  (13, .iload 4, 2, 1, (4, 0, 0, 0), 0, 0, []),
  (15, .bipush 60, 2, 0, (0, 0, 0, 0), 60, 0, []),
  (17, .if_icmp .ge 36, 3, 0, (53, 0, 0, 0), 0, 0, []),
  (20, .iload_n 3, 1, 0, (3, 0, 0, 0), 0, 0, []),
  (21, .bipush 33, 2, 0, (0, 0, 0, 0), 33, 0, []),
  (23, .if_icmp .eq 9, 3, 0, (32, 0, 0, 0), 0, 0, []),
  (26, .iload_n 3, 1, 0, (3, 0, 0, 0), 0, 0, []),
  (27, .bipush 45, 2, 0, (0, 0, 0, 0), 45, 0, []),
  (29, .if_icmp .ne 24, 3, 0, (53, 0, 0, 0), 0, 0, []),
  (32, .aload_n 0, 1, 0, (0, 0, 0, 0), 0, 0, []),
  (33, .dup, 1, 0, (0, 0, 0, 0), 0, 0, []),
  (34, .getfield 40, 3, 0, (4, 674, 4, 0), 0, 0, []),
  (37, .iconst 1, 1, 0, (0, 0, 0, 0), 1, 0, []),
  (38, .iadd, 1, 0, (0, 0, 0, 0), 0, 0, []),
  (39, .putfield 40, 3, 0, (4, 674, 4, 0), 0, 0, []),
  (42, .aload_n 0, 1, 0, (0, 0, 0, 0), 0, 0, []),
  (43, .invokevirtual 47, 3, 0, (58, 1261, 1, 5), 0, 0, []),
  (46, .istore_n 3, 1, 0, (3, 0, 0, 0), 0, 0, []),
  (47, .iinc 4 1, 3, 0, (4, 0, 0, 0), 1, 0, []),
  (50, .goto (-37), 3, 0, (13, 0, 0, 0), 0, 0, []),
  (53, .aload_n 0, 1, 0, (0, 0, 0, 0), 0, 0, []),
  (54, .getfield 40, 3, 0, (4, 674, 4, 0), 0, 0, []),
  (57, .istore 4, 2, 0, (4, 0, 0, 0), 0, 0, []),
  (59, .aload_n 0, 1, 0, (0, 0, 0, 0), 0, 0, []),
  (60, .iload_n 1, 1, 0, (1, 0, 0, 0), 0, 0, []),
  (61, .invokevirtual 82, 3, 0, (61, 1545, 2, 5), 0, 0, []),
  (64, .lstore 5, 2, 0, (5, 0, 0, 0), 0, 0, []),
  (66, .iload 4, 2, 0, (4, 0, 0, 0), 0, 0, []),
  (68, .iconst 1, 1, 0, (0, 0, 0, 0), 1, 0, []),
  (69, .isub, 1, 0, (0, 0, 0, 0), 0, 0, []),
  (70, .istore 7, 2, 0, (7, 0, 0, 0), 0, 0, []),
  (72, .iload 7, 2, 1, (7, 0, 0, 0), 0, 0, []),
  (74, .iload_n 2, 1, 0, (2, 0, 0, 0), 0, 0, []),
  (75, .if_icmp .lt 53, 3, 0, (128, 0, 0, 0), 0, 0, []),
  (78, .aload_n 0, 1, 0, (0, 0, 0, 0), 0, 0, []),
  (79, .iload 7, 2, 0, (7, 0, 0, 0), 0, 0, []),
  (81, .invokevirtual 63, 3, 0, (60, 1541, 2, 5), 0, 0, []),
  (84, .bipush 33, 2, 0, (0, 0, 0, 0), 33, 0, []),
  (86, .if_icmp .ne 20, 3, 0, (106, 0, 0, 0), 0, 0, []),
  (89, .lload 5, 2, 0, (5, 0, 0, 0), 0, 0, []),
  (91, .lconst 0, 1, 0, (0, 0, 0, 0), 0, 0, []),
  (92, .lcmp, 1, 0, (0, 0, 0, 0), 0, 0, []),
  (93, .ifCond .ne 7, 3, 0, (100, 0, 0, 0), 0, 0, []),
  (96, .lconst 1, 1, 0, (0, 0, 0, 0), 0, 1, []),
  (97, .goto 4, 3, 0, (101, 0, 0, 0), 0, 0, []),
  (100, .lconst 0, 1, 0, (0, 0, 0, 0), 0, 0, []),
  (101, .lstore 5, 2, 0, (5, 0, 0, 0), 0, 0, []),
  (103, .goto 19, 3, 0, (122, 0, 0, 0), 0, 0, []),
  (106, .aload_n 0, 1, 0, (0, 0, 0, 0), 0, 0, []),
  (107, .iload 7, 2, 0, (7, 0, 0, 0), 0, 0, []),
  (109, .invokevirtual 63, 3, 0, (60, 1541, 2, 5), 0, 0, []),
  (112, .bipush 45, 2, 0, (0, 0, 0, 0), 45, 0, []),
  (114, .if_icmp .ne 8, 3, 0, (122, 0, 0, 0), 0, 0, []),
  (117, .lload 5, 2, 0, (5, 0, 0, 0), 0, 0, []),
  (119, .lneg, 1, 0, (0, 0, 0, 0), 0, 0, []),
  (120, .lstore 5, 2, 0, (5, 0, 0, 0), 0, 0, []),
  (122, .iinc 7 (-1), 3, 0, (7, 0, 0, 0), (-1), 0, []),
  (125, .goto (-53), 3, 0, (72, 0, 0, 0), 0, 0, []),
  (128, .lload 5, 2, 0, (5, 0, 0, 0), 0, 0, []),
  (130, .lreturn, 1, 0, (0, 0, 0, 0), 0, 0, [])]
def hk_m50 : hk_Q := (⟨"HullKeepers$Reader", "unit", "(I)J"⟩, prog_6_method_14_code, 8, (some .long), (2, 0, 0, 0, 0, 0), hk_c50)
def hk_c51 : List hk_E := [(0, .aload_n 0, 1, 0, (0, 0, 0, 0), 0, 0, []),
  (1, .invokevirtual 55, 3, 0, (59, 1537, 1, 5), 0, 0, []),
  (4, .ifCond .eq 5, 3, 0, (9, 0, 0, 0), 0, 0, []),
  (7, .iconst (-1), 1, 0, (0, 0, 0, 0), (-1), 0, []),
  (8, .ireturn, 1, 0, (0, 0, 0, 0), 0, 0, []),
  (9, .aload_n 0, 1, 1, (0, 0, 0, 0), 0, 0, []),
  (10, .getfield 40, 3, 0, (4, 674, 4, 0), 0, 0, []),
  (13, .aload_n 0, 1, 0, (0, 0, 0, 0), 0, 0, []),
  (14, .getfield 37, 3, 0, (4, 673, 3, 0), 0, 0, []),
  (17, .if_icmp .ge 29, 3, 0, (46, 0, 0, 0), 0, 0, []),
  (20, .aload_n 0, 1, 0, (0, 0, 0, 0), 0, 0, []),
  (21, .aload_n 0, 1, 0, (0, 0, 0, 0), 0, 0, []),
  (22, .getfield 40, 3, 0, (4, 674, 4, 0), 0, 0, []),
  (25, .invokevirtual 63, 3, 0, (60, 1541, 2, 5), 0, 0, []),
  (28, .bipush 32, 2, 0, (0, 0, 0, 0), 32, 0, []),
  (30, .if_icmp .ne 16, 3, 0, (46, 0, 0, 0), 0, 0, []),
  (33, .aload_n 0, 1, 0, (0, 0, 0, 0), 0, 0, []),
  (34, .dup, 1, 0, (0, 0, 0, 0), 0, 0, []),
  (35, .getfield 40, 3, 0, (4, 674, 4, 0), 0, 0, []),
  (38, .iconst 1, 1, 0, (0, 0, 0, 0), 1, 0, []),
  (39, .iadd, 1, 0, (0, 0, 0, 0), 0, 0, []),
  (40, .putfield 40, 3, 0, (4, 674, 4, 0), 0, 0, []),
  (43, .goto (-34), 3, 0, (9, 0, 0, 0), 0, 0, []),
  (46, .aload_n 0, 1, 0, (0, 0, 0, 0), 0, 0, []),
  (47, .getfield 40, 3, 0, (4, 674, 4, 0), 0, 0, []),
  (50, .aload_n 0, 1, 0, (0, 0, 0, 0), 0, 0, []),
  (51, .getfield 37, 3, 0, (4, 673, 3, 0), 0, 0, []),
  (54, .if_icmp .ge 14, 3, 0, (68, 0, 0, 0), 0, 0, []),
  (57, .aload_n 0, 1, 0, (0, 0, 0, 0), 0, 0, []),
  (58, .aload_n 0, 1, 0, (0, 0, 0, 0), 0, 0, []),
  (59, .getfield 40, 3, 0, (4, 674, 4, 0), 0, 0, []),
  (62, .invokevirtual 63, 3, 0, (60, 1541, 2, 5), 0, 0, []),
  (65, .goto 4, 3, 0, (69, 0, 0, 0), 0, 0, []),
  (68, .iconst (-1), 1, 0, (0, 0, 0, 0), (-1), 0, []),
  (69, .ireturn, 1, 0, (0, 0, 0, 0), 0, 0, [])]
def hk_m51 : hk_Q := (⟨"HullKeepers$Reader", "peek", "()I"⟩, prog_6_method_8_code, 1, (some .int), (1, 0, 0, 0, 0, 0), hk_c51)
def hk_c52 : List hk_E := [(0, .aload_n 0, 1, 0, (0, 0, 0, 0), 0, 0, []),
  (1, .getfield 15, 3, 0, (4, 675, 5, 0), 0, 0, []),
  (4, .iconst (-1), 1, 0, (0, 0, 0, 0), (-1), 0, []),
  (5, .if_icmp .eq 7, 3, 0, (12, 0, 0, 0), 0, 0, []),
  (8, .iconst 1, 1, 0, (0, 0, 0, 0), 1, 0, []),
  (9, .goto 4, 3, 0, (13, 0, 0, 0), 0, 0, []),
  (12, .iconst 0, 1, 0, (0, 0, 0, 0), 0, 0, []),
  (13, .ireturn, 1, 0, (0, 0, 0, 1), 0, 0, [])]
def hk_m52 : hk_Q := (⟨"HullKeepers$Reader", "hasFlaw", "()Z"⟩, prog_6_method_4_code, 1, (some .boolean), (1, 0, 0, 0, 0, 0), hk_c52)
def hk_c53 : List hk_E := [(0, .aload_n 0, 1, 0, (0, 0, 0, 0), 0, 0, []),
  (1, .getfield 9, 3, 0, (4, 670, 0, 1), 0, 0, []),
  (4, .getfield 25, 3, 0, (1, 593, 4, 1), 0, 0, []),
  (7, .aload_n 0, 1, 0, (0, 0, 0, 0), 0, 0, []),
  (8, .getfield 19, 3, 0, (4, 671, 1, 0), 0, 0, []),
  (11, .iconst 1, 1, 0, (0, 0, 0, 0), 1, 0, []),
  (12, .iload_n 1, 1, 0, (1, 0, 0, 0), 0, 0, []),
  (13, .iadd, 1, 0, (0, 0, 0, 0), 0, 0, []),
  (14, .invokevirtual 31, 3, 0, (23, 1236, 3, 7), 0, 0, []),
  (17, .ireturn, 1, 0, (0, 0, 0, 0), 0, 0, [])]
def hk_m53 : hk_Q := (⟨"HullKeepers$Reader", "signAt", "(I)I"⟩, prog_6_method_7_code, 2, (some .int), (2, 0, 0, 0, 0, 0), hk_c53)
def hk_c54 : List hk_E := [(0, .aload_n 0, 1, 0, (0, 0, 0, 0), 0, 0, []),
  (1, .invokevirtual 47, 3, 0, (58, 1261, 1, 5), 0, 0, []),
  (4, .istore_n 2, 1, 0, (2, 0, 0, 0), 0, 0, []),
  (5, .iload_n 2, 1, 0, (2, 0, 0, 0), 0, 0, []),
  (6, .bipush 48, 2, 0, (0, 0, 0, 0), 48, 0, []),
  (8, .if_icmp .lt 14, 3, 0, (22, 0, 0, 0), 0, 0, []),
  (11, .iload_n 2, 1, 0, (2, 0, 0, 0), 0, 0, []),
  (12, .bipush 57, 2, 0, (0, 0, 0, 0), 57, 0, []),
  (14, .if_icmp .gt 8, 3, 0, (22, 0, 0, 0), 0, 0, []),
  (17, .aload_n 0, 1, 0, (0, 0, 0, 0), 0, 0, []),
  (18, .invokevirtual 85, 3, 0, (62, 1549, 1, 5), 0, 0, []),
  (21, .lreturn, 1, 0, (0, 0, 0, 0), 0, 0, []),
  (22, .iload_n 2, 1, 0, (2, 0, 0, 0), 0, 0, []),
  (23, .lookupswitch 87 #[(40, 65), (102, 71), (109, 71), (115, 71), (116, 71), (121, 71), (122, 71)], 65, 0, (110, 0, 0, 0), 0, 0, [(40, 88), (102, 94), (109, 94), (115, 94), (116, 94), (121, 94), (122, 94)]),
  (88, .aload_n 0, 1, 0, (0, 0, 0, 0), 0, 0, []),
  (89, .iload_n 1, 1, 0, (1, 0, 0, 0), 0, 0, []),
  (90, .invokevirtual 89, 3, 0, (64, 1558, 2, 5), 0, 0, []),
  (93, .lreturn, 1, 0, (0, 0, 0, 0), 0, 0, []),
  (94, .aload_n 0, 1, 0, (0, 0, 0, 0), 0, 0, []),
  (95, .dup, 1, 0, (0, 0, 0, 0), 0, 0, []),
  (96, .getfield 40, 3, 0, (4, 674, 4, 0), 0, 0, []),
  (99, .iconst 1, 1, 0, (0, 0, 0, 0), 1, 0, []),
  (100, .iadd, 1, 0, (0, 0, 0, 0), 0, 0, []),
  (101, .putfield 40, 3, 0, (4, 674, 4, 0), 0, 0, []),
  (104, .aload_n 0, 1, 0, (0, 0, 0, 0), 0, 0, []),
  (105, .iload_n 2, 1, 0, (2, 0, 0, 0), 0, 0, []),
  (106, .invokevirtual 92, 3, 0, (65, 1562, 2, 5), 0, 0, []),
  (109, .lreturn, 1, 0, (0, 0, 0, 0), 0, 0, []),
  (110, .aload_n 0, 1, 0, (0, 0, 0, 0), 0, 0, []),
  (111, .aload_n 0, 1, 0, (0, 0, 0, 0), 0, 0, []),
  (112, .getfield 40, 3, 0, (4, 674, 4, 0), 0, 0, []),
  (115, .iconst 1, 1, 0, (0, 0, 0, 0), 1, 0, []),
  (116, .invokevirtual 51, 3, 0, (63, 1554, 3, 5), 0, 0, []),
  (119, .lconst 0, 1, 0, (0, 0, 0, 0), 0, 0, []),
  (120, .lreturn, 1, 0, (0, 0, 0, 0), 0, 0, [])]
def hk_m54 : hk_Q := (⟨"HullKeepers$Reader", "core", "(I)J"⟩, prog_6_method_15_code, 3, (some .long), (2, 0, 0, 0, 0, 0), hk_c54)
def hk_c55 : List hk_E := [(0, .aload_n 0, 1, 0, (0, 0, 0, 0), 0, 0, []),
  (1, .getfield 40, 3, 0, (4, 674, 4, 0), 0, 0, []),
  (4, .istore_n 1, 1, 0, (1, 0, 0, 0), 0, 0, []),
  (5, .lconst 0, 1, 0, (0, 0, 0, 0), 0, 0, []),
  (6, .lstore_n 2, 1, 0, (2, 0, 0, 0), 0, 0, []),
  (7, .aload_n 0, 1, 1, (0, 0, 0, 0), 0, 0, []),
  (8, .getfield 40, 3, 0, (4, 674, 4, 0), 0, 0, []),
  (11, .aload_n 0, 1, 0, (0, 0, 0, 0), 0, 0, []),
  (12, .getfield 37, 3, 0, (4, 673, 3, 0), 0, 0, []),
  (15, .if_icmp .ge 61, 3, 0, (76, 0, 0, 0), 0, 0, []),
  (18, .aload_n 0, 1, 0, (0, 0, 0, 0), 0, 0, []),
  (19, .aload_n 0, 1, 0, (0, 0, 0, 0), 0, 0, []),
  (20, .getfield 40, 3, 0, (4, 674, 4, 0), 0, 0, []),
  (23, .invokevirtual 63, 3, 0, (60, 1541, 2, 5), 0, 0, []),
  (26, .bipush 48, 2, 0, (0, 0, 0, 0), 48, 0, []),
  (28, .if_icmp .lt 48, 3, 0, (76, 0, 0, 0), 0, 0, []),
  (31, .aload_n 0, 1, 0, (0, 0, 0, 0), 0, 0, []),
  (32, .aload_n 0, 1, 0, (0, 0, 0, 0), 0, 0, []),
  (33, .getfield 40, 3, 0, (4, 674, 4, 0), 0, 0, []),
  (36, .invokevirtual 63, 3, 0, (60, 1541, 2, 5), 0, 0, []),
  (39, .bipush 57, 2, 0, (0, 0, 0, 0), 57, 0, []),
  (41, .if_icmp .gt 35, 3, 0, (76, 0, 0, 0), 0, 0, []),
  (44, .ldc2_w 95, 3, 0, (0, 1553, 0, 0), 0, 10, []),
  (47, .lload_n 2, 1, 0, (2, 0, 0, 0), 0, 0, []),
  (48, .lmul, 1, 0, (0, 0, 0, 0), 0, 0, []),
  (49, .aload_n 0, 1, 0, (0, 0, 0, 0), 0, 0, []),
  (50, .aload_n 0, 1, 0, (0, 0, 0, 0), 0, 0, []),
  (51, .getfield 40, 3, 0, (4, 674, 4, 0), 0, 0, []),
  (54, .invokevirtual 63, 3, 0, (60, 1541, 2, 5), 0, 0, []),
  (57, .bipush 48, 2, 0, (0, 0, 0, 0), 48, 0, []),
  (59, .isub, 1, 0, (0, 0, 0, 0), 0, 0, []),
  (60, .i2l, 1, 0, (0, 0, 0, 0), 0, 0, []),
  (61, .ladd, 1, 0, (0, 0, 0, 0), 0, 0, []),
  (62, .lstore_n 2, 1, 0, (2, 0, 0, 0), 0, 0, []),
  (63, .aload_n 0, 1, 0, (0, 0, 0, 0), 0, 0, []),
  (64, .dup, 1, 0, (0, 0, 0, 0), 0, 0, []),
  (65, .getfield 40, 3, 0, (4, 674, 4, 0), 0, 0, []),
  (68, .iconst 1, 1, 0, (0, 0, 0, 0), 1, 0, []),
  (69, .iadd, 1, 0, (0, 0, 0, 0), 0, 0, []),
  (70, .putfield 40, 3, 0, (4, 674, 4, 0), 0, 0, []),
  (73, .goto (-66), 3, 0, (7, 0, 0, 0), 0, 0, []),
  (76, .aload_n 0, 1, 0, (0, 0, 0, 0), 0, 0, []),
  (77, .getfield 40, 3, 0, (4, 674, 4, 0), 0, 0, []),
  (80, .iload_n 1, 1, 0, (1, 0, 0, 0), 0, 0, []),
  (81, .isub, 1, 0, (0, 0, 0, 0), 0, 0, []),
  (82, .bipush 6, 2, 0, (0, 0, 0, 0), 6, 0, []),
  (84, .if_icmp .le 9, 3, 0, (93, 0, 0, 0), 0, 0, []),
  (87, .aload_n 0, 1, 0, (0, 0, 0, 0), 0, 0, []),
  (88, .iload_n 1, 1, 0, (1, 0, 0, 0), 0, 0, []),
  (89, .iconst 2, 1, 0, (0, 0, 0, 0), 2, 0, []),
  (90, .invokevirtual 51, 3, 0, (63, 1554, 3, 5), 0, 0, []),
  (93, .lload_n 2, 1, 0, (2, 0, 0, 0), 0, 0, []),
  (94, .lreturn, 1, 0, (0, 0, 0, 0), 0, 0, [])]
def hk_m55 : hk_Q := (⟨"HullKeepers$Reader", "digits", "()J"⟩, prog_6_method_17_code, 4, (some .long), (1, 0, 0, 0, 0, 0), hk_c55)
def hk_c56 : List hk_E := [(0, .aload_n 0, 1, 0, (0, 0, 0, 0), 0, 0, []),
  (1, .getfield 15, 3, 0, (4, 675, 5, 0), 0, 0, []),
  (4, .iconst (-1), 1, 0, (0, 0, 0, 0), (-1), 0, []),
  (5, .if_icmp .ne 13, 3, 0, (18, 0, 0, 0), 0, 0, []),
  (8, .aload_n 0, 1, 0, (0, 0, 0, 0), 0, 0, []),
  (9, .bipush 10, 2, 0, (0, 0, 0, 0), 10, 0, []),
  (11, .iload_n 1, 1, 0, (1, 0, 0, 0), 0, 0, []),
  (12, .imul, 1, 0, (0, 0, 0, 0), 0, 0, []),
  (13, .iload_n 2, 1, 0, (2, 0, 0, 0), 0, 0, []),
  (14, .iadd, 1, 0, (0, 0, 0, 0), 0, 0, []),
  (15, .putfield 15, 3, 0, (4, 675, 5, 0), 0, 0, []),
  (18, .return_, 1, 0, (0, 0, 0, 0), 0, 0, [])]
def hk_m56 : hk_Q := (⟨"HullKeepers$Reader", "fail", "(II)V"⟩, prog_6_method_6_code, 3, none, (3, 0, 0, 0, 0, 0), hk_c56)
def hk_c57 : List hk_E := [(0, .iload_n 1, 1, 0, (1, 0, 0, 0), 0, 0, []),
  (1, .bipush 8, 2, 0, (0, 0, 0, 0), 8, 0, []),
  (3, .if_icmp .lt 14, 3, 0, (17, 0, 0, 0), 0, 0, []),
  (6, .aload_n 0, 1, 0, (0, 0, 0, 0), 0, 0, []),
  (7, .aload_n 0, 1, 0, (0, 0, 0, 0), 0, 0, []),
  (8, .getfield 40, 3, 0, (4, 674, 4, 0), 0, 0, []),
  (11, .iconst 3, 1, 0, (0, 0, 0, 0), 3, 0, []),
  (12, .invokevirtual 51, 3, 0, (63, 1554, 3, 5), 0, 0, []),
  (15, .lconst 0, 1, 0, (0, 0, 0, 0), 0, 0, []),
  (16, .lreturn, 1, 0, (0, 0, 0, 0), 0, 0, []),
  (17, .aload_n 0, 1, 0, (0, 0, 0, 0), 0, 0, []),
  (18, .dup, 1, 0, (0, 0, 0, 0), 0, 0, []),
  (19, .getfield 40, 3, 0, (4, 674, 4, 0), 0, 0, []),
  (22, .iconst 1, 1, 0, (0, 0, 0, 0), 1, 0, []),
  (23, .iadd, 1, 0, (0, 0, 0, 0), 0, 0, []),
  (24, .putfield 40, 3, 0, (4, 674, 4, 0), 0, 0, []),
  (27, .aload_n 0, 1, 0, (0, 0, 0, 0), 0, 0, []),
  (28, .iload_n 1, 1, 0, (1, 0, 0, 0), 0, 0, []),
  (29, .iconst 1, 1, 0, (0, 0, 0, 0), 1, 0, []),
  (30, .iadd, 1, 0, (0, 0, 0, 0), 0, 0, []),
  (31, .invokevirtual 43, 3, 0, (52, 1237, 2, 5), 0, 0, []),
  (34, .lstore_n 2, 1, 0, (2, 0, 0, 0), 0, 0, []),
  (35, .aload_n 0, 1, 0, (0, 0, 0, 0), 0, 0, []),
  (36, .invokevirtual 47, 3, 0, (58, 1261, 1, 5), 0, 0, []),
  (39, .bipush 41, 2, 0, (0, 0, 0, 0), 41, 0, []),
  (41, .if_icmp .ne 16, 3, 0, (57, 0, 0, 0), 0, 0, []),
  (44, .aload_n 0, 1, 0, (0, 0, 0, 0), 0, 0, []),
  (45, .dup, 1, 0, (0, 0, 0, 0), 0, 0, []),
  (46, .getfield 40, 3, 0, (4, 674, 4, 0), 0, 0, []),
  (49, .iconst 1, 1, 0, (0, 0, 0, 0), 1, 0, []),
  (50, .iadd, 1, 0, (0, 0, 0, 0), 0, 0, []),
  (51, .putfield 40, 3, 0, (4, 674, 4, 0), 0, 0, []),
  (54, .goto 12, 3, 0, (66, 0, 0, 0), 0, 0, []),
  (57, .aload_n 0, 1, 0, (0, 0, 0, 0), 0, 0, []),
  (58, .aload_n 0, 1, 0, (0, 0, 0, 0), 0, 0, []),
  (59, .getfield 40, 3, 0, (4, 674, 4, 0), 0, 0, []),
  (62, .iconst 1, 1, 0, (0, 0, 0, 0), 1, 0, []),
  (63, .invokevirtual 51, 3, 0, (63, 1554, 3, 5), 0, 0, []),
  (66, .lload_n 2, 1, 0, (2, 0, 0, 0), 0, 0, []),
  (67, .lreturn, 1, 0, (0, 0, 0, 0), 0, 0, [])]
def hk_m57 : hk_Q := (⟨"HullKeepers$Reader", "inside", "(I)J"⟩, prog_6_method_16_code, 4, (some .long), (2, 0, 0, 0, 0, 0), hk_c57)
def hk_c58 : List hk_E := [(0, .aload_n 0, 1, 0, (0, 0, 0, 0), 0, 0, []),
  (1, .getfield 22, 3, 0, (4, 672, 2, 0), 0, 0, []),
  (4, .iconst (-1), 1, 0, (0, 0, 0, 0), (-1), 0, []),
  (5, .if_icmp .ne 5, 3, 0, (10, 0, 0, 0), 0, 0, []),
  (8, .lconst 0, 1, 0, (0, 0, 0, 0), 0, 0, []),
  (9, .lreturn, 1, 0, (0, 0, 0, 0), 0, 0, []),
  (10, .iload_n 1, 1, 0, (1, 0, 0, 0), 0, 0, []),
  (11, .lookupswitch 149 #[(102, 132), (115, 108), (116, 49), (121, 66), (122, 91)], 49, 0, (160, 0, 0, 0), 0, 0, [(102, 143), (115, 119), (116, 60), (121, 77), (122, 102)]),
  (60, .aload_n 0, 1, 0, (0, 0, 0, 0), 0, 0, []),
  (61, .getfield 9, 3, 0, (4, 670, 0, 1), 0, 0, []),
  (64, .getfield 97, 3, 0, (1, 587, 1, 1), 0, 0, []),
  (67, .aload_n 0, 1, 0, (0, 0, 0, 0), 0, 0, []),
  (68, .getfield 22, 3, 0, (4, 672, 2, 0), 0, 0, []),
  (71, .iconst 2, 1, 0, (0, 0, 0, 0), 2, 0, []),
  (72, .invokevirtual 31, 3, 0, (23, 1236, 3, 7), 0, 0, []),
  (75, .i2l, 1, 0, (0, 0, 0, 0), 0, 0, []),
  (76, .lreturn, 1, 0, (0, 0, 0, 0), 0, 0, []),
  (77, .aload_n 0, 1, 0, (0, 0, 0, 0), 0, 0, []),
  (78, .getfield 9, 3, 0, (4, 670, 0, 1), 0, 0, []),
  (81, .getfield 100, 3, 0, (1, 616, 12, 0), 0, 0, []),
  (84, .aload_n 0, 1, 0, (0, 0, 0, 0), 0, 0, []),
  (85, .getfield 9, 3, 0, (4, 670, 0, 1), 0, 0, []),
  (88, .getfield 97, 3, 0, (1, 587, 1, 1), 0, 0, []),
  (91, .aload_n 0, 1, 0, (0, 0, 0, 0), 0, 0, []),
  (92, .getfield 22, 3, 0, (4, 672, 2, 0), 0, 0, []),
  (95, .iconst 4, 1, 0, (0, 0, 0, 0), 4, 0, []),
  (96, .invokevirtual 31, 3, 0, (23, 1236, 3, 7), 0, 0, []),
  (99, .isub, 1, 0, (0, 0, 0, 0), 0, 0, []),
  (100, .i2l, 1, 0, (0, 0, 0, 0), 0, 0, []),
  (101, .lreturn, 1, 0, (0, 0, 0, 0), 0, 0, []),
  (102, .aload_n 0, 1, 0, (0, 0, 0, 0), 0, 0, []),
  (103, .getfield 9, 3, 0, (4, 670, 0, 1), 0, 0, []),
  (106, .getfield 97, 3, 0, (1, 587, 1, 1), 0, 0, []),
  (109, .aload_n 0, 1, 0, (0, 0, 0, 0), 0, 0, []),
  (110, .getfield 22, 3, 0, (4, 672, 2, 0), 0, 0, []),
  (113, .iconst 1, 1, 0, (0, 0, 0, 0), 1, 0, []),
  (114, .invokevirtual 31, 3, 0, (23, 1236, 3, 7), 0, 0, []),
  (117, .i2l, 1, 0, (0, 0, 0, 0), 0, 0, []),
  (118, .lreturn, 1, 0, (0, 0, 0, 0), 0, 0, []),
  (119, .aload_n 0, 1, 0, (0, 0, 0, 0), 0, 0, []),
  (120, .getfield 9, 3, 0, (4, 670, 0, 1), 0, 0, []),
  (123, .aload_n 0, 1, 0, (0, 0, 0, 0), 0, 0, []),
  (124, .getfield 9, 3, 0, (4, 670, 0, 1), 0, 0, []),
  (127, .getfield 97, 3, 0, (1, 587, 1, 1), 0, 0, []),
  (130, .aload_n 0, 1, 0, (0, 0, 0, 0), 0, 0, []),
  (131, .getfield 22, 3, 0, (4, 672, 2, 0), 0, 0, []),
  (134, .iconst 0, 1, 0, (0, 0, 0, 0), 0, 0, []),
  (135, .invokevirtual 31, 3, 0, (23, 1236, 3, 7), 0, 0, []),
  (138, .invokevirtual 103, 3, 0, (47, 1566, 2, 2), 0, 0, []),
  (141, .i2l, 1, 0, (0, 0, 0, 0), 0, 0, []),
  (142, .lreturn, 1, 0, (0, 0, 0, 0), 0, 0, []),
  (143, .aload_n 0, 1, 0, (0, 0, 0, 0), 0, 0, []),
  (144, .getfield 9, 3, 0, (4, 670, 0, 1), 0, 0, []),
  (147, .getfield 97, 3, 0, (1, 587, 1, 1), 0, 0, []),
  (150, .aload_n 0, 1, 0, (0, 0, 0, 0), 0, 0, []),
  (151, .getfield 22, 3, 0, (4, 672, 2, 0), 0, 0, []),
  (154, .iconst 5, 1, 0, (0, 0, 0, 0), 5, 0, []),
  (155, .invokevirtual 31, 3, 0, (23, 1236, 3, 7), 0, 0, []),
  (158, .i2l, 1, 0, (0, 0, 0, 0), 0, 0, []),
  (159, .lreturn, 1, 0, (0, 0, 0, 0), 0, 0, []),
  (160, .aload_n 0, 1, 0, (0, 0, 0, 0), 0, 0, []),
  (161, .getfield 9, 3, 0, (4, 670, 0, 1), 0, 0, []),
  (164, .getfield 97, 3, 0, (1, 587, 1, 1), 0, 0, []),
  (167, .aload_n 0, 1, 0, (0, 0, 0, 0), 0, 0, []),
  (168, .getfield 22, 3, 0, (4, 672, 2, 0), 0, 0, []),
  (171, .iconst 3, 1, 0, (0, 0, 0, 0), 3, 0, []),
  (172, .invokevirtual 31, 3, 0, (23, 1236, 3, 7), 0, 0, []),
  (175, .i2l, 1, 0, (0, 0, 0, 0), 0, 0, []),
  (176, .lreturn, 1, 0, (0, 0, 0, 0), 0, 0, [])]
def hk_m58 : hk_Q := (⟨"HullKeepers$Reader", "letter", "(I)J"⟩, prog_6_method_18_code, 2, (some .long), (2, 0, 0, 0, 0, 0), hk_c58)
def hk_c59 : List hk_E := [(0, .aload_n 0, 1, 0, (0, 0, 0, 0), 0, 0, []),
  (1, .getfield 10, 3, 0, (7, 1064, 0, 1), 0, 0, []),
  (4, .getfield 84, 3, 0, (1, 586, 1, 1), 0, 0, []),
  (7, .iload_n 1, 1, 0, (1, 0, 0, 0), 0, 0, []),
  (8, .invokevirtual 80, 3, 0, (21, 1101, 2, 7), 0, 0, []),
  (11, .ifCond .eq 17, 3, 0, (28, 0, 0, 0), 0, 0, []),
  (14, .aload_n 0, 1, 0, (0, 0, 0, 0), 0, 0, []),
  (15, .getfield 10, 3, 0, (7, 1064, 0, 1), 0, 0, []),
  (18, .getfield 62, 3, 0, (1, 584, 0, 1), 0, 0, []),
  (21, .iload_n 2, 1, 0, (2, 0, 0, 0), 0, 0, []),
  (22, .invokevirtual 80, 3, 0, (21, 1101, 2, 7), 0, 0, []),
  (25, .ifCond .ne 6, 3, 0, (31, 0, 0, 0), 0, 0, []),
  (28, .bipush (-2), 2, 0, (0, 0, 0, 0), (-2), 0, []),
  (30, .ireturn, 1, 0, (0, 0, 0, 0), 0, 0, []),
  (31, .aload_n 0, 1, 0, (0, 0, 0, 0), 0, 0, []),
  (32, .getfield 10, 3, 0, (7, 1064, 0, 1), 0, 0, []),
  (35, .getfield 84, 3, 0, (1, 586, 1, 1), 0, 0, []),
  (38, .iload_n 1, 1, 0, (1, 0, 0, 0), 0, 0, []),
  (39, .iconst 0, 1, 0, (0, 0, 0, 0), 0, 0, []),
  (40, .invokevirtual 87, 3, 0, (23, 1109, 3, 7), 0, 0, []),
  (43, .istore_n 3, 1, 0, (3, 0, 0, 0), 0, 0, []),
  (44, .iload_n 3, 1, 0, (3, 0, 0, 0), 0, 0, []),
  (45, .iload_n 2, 1, 0, (2, 0, 0, 0), 0, 0, []),
  (46, .if_icmp .ne 6, 3, 0, (52, 0, 0, 0), 0, 0, []),
  (49, .bipush (-2), 2, 0, (0, 0, 0, 0), (-2), 0, []),
  (51, .ireturn, 1, 0, (0, 0, 0, 0), 0, 0, []),
  (52, .aload_n 0, 1, 0, (0, 0, 0, 0), 0, 0, []),
  (53, .getfield 10, 3, 0, (7, 1064, 0, 1), 0, 0, []),
  (56, .iload_n 3, 1, 0, (3, 0, 0, 0), 0, 0, []),
  (57, .invokevirtual 130, 3, 0, (37, 1227, 2, 2), 0, 0, []),
  (60, .ifCond .eq 14, 3, 0, (74, 0, 0, 0), 0, 0, []),
  (63, .aload_n 0, 1, 0, (0, 0, 0, 0), 0, 0, []),
  (64, .getfield 10, 3, 0, (7, 1064, 0, 1), 0, 0, []),
  (67, .iload_n 2, 1, 0, (2, 0, 0, 0), 0, 0, []),
  (68, .invokevirtual 130, 3, 0, (37, 1227, 2, 2), 0, 0, []),
  (71, .ifCond .ne 6, 3, 0, (77, 0, 0, 0), 0, 0, []),
  (74, .bipush (-3), 2, 0, (0, 0, 0, 0), (-3), 0, []),
  (76, .ireturn, 1, 0, (0, 0, 0, 0), 0, 0, []),
  (77, .aload_n 0, 1, 0, (0, 0, 0, 0), 0, 0, []),
  (78, .getfield 10, 3, 0, (7, 1064, 0, 1), 0, 0, []),
  (81, .getfield 84, 3, 0, (1, 586, 1, 1), 0, 0, []),
  (84, .iload_n 1, 1, 0, (1, 0, 0, 0), 0, 0, []),
  (85, .iconst 0, 1, 0, (0, 0, 0, 0), 0, 0, []),
  (86, .iload_n 2, 1, 0, (2, 0, 0, 0), 0, 0, []),
  (87, .invokevirtual 76, 3, 0, (12, 1096, 4, 7), 0, 0, []),
  (90, .aload_n 0, 1, 0, (0, 0, 0, 0), 0, 0, []),
  (91, .getfield 10, 3, 0, (7, 1064, 0, 1), 0, 0, []),
  (94, .getfield 84, 3, 0, (1, 586, 1, 1), 0, 0, []),
  (97, .iload_n 1, 1, 0, (1, 0, 0, 0), 0, 0, []),
  (98, .iconst 5, 1, 0, (0, 0, 0, 0), 5, 0, []),
  (99, .iconst 0, 1, 0, (0, 0, 0, 0), 0, 0, []),
  (100, .invokevirtual 76, 3, 0, (12, 1096, 4, 7), 0, 0, []),
  (103, .iconst 1, 1, 0, (0, 0, 0, 0), 1, 0, []),
  (104, .ireturn, 1, 0, (0, 0, 0, 0), 0, 0, [])]
def hk_m59 : hk_Q := (⟨"HullKeepers", "move", "(II)I"⟩, prog_1_method_14_code, 4, (some .int), (3, 0, 0, 0, 0, 0), hk_c59)
def hk_c60 : List hk_E := [(0, .aload_n 0, 1, 0, (0, 0, 0, 0), 0, 0, []),
  (1, .getfield 10, 3, 0, (7, 1064, 0, 1), 0, 0, []),
  (4, .getfield 84, 3, 0, (1, 586, 1, 1), 0, 0, []),
  (7, .iload_n 1, 1, 0, (1, 0, 0, 0), 0, 0, []),
  (8, .invokevirtual 80, 3, 0, (21, 1101, 2, 7), 0, 0, []),
  (11, .ifCond .eq 44, 3, 0, (55, 0, 0, 0), 0, 0, []),
  (14, .iload_n 2, 1, 0, (2, 0, 0, 0), 0, 0, []),
  (15, .iconst 0, 1, 0, (0, 0, 0, 0), 0, 0, []),
  (16, .aload_n 0, 1, 0, (0, 0, 0, 0), 0, 0, []),
  (17, .getfield 10, 3, 0, (7, 1064, 0, 1), 0, 0, []),
  (20, .getfield 137, 3, 0, (1, 615, 12, 0), 0, 0, []),
  (23, .invokestatic 57, 3, 0, (19, 1090, 3, 0), 0, 0, []),
  (26, .ifCond .eq 29, 3, 0, (55, 0, 0, 0), 0, 0, []),
  (29, .aload_n 0, 1, 0, (0, 0, 0, 0), 0, 0, []),
  (30, .getfield 10, 3, 0, (7, 1064, 0, 1), 0, 0, []),
  (33, .getfield 140, 3, 0, (1, 591, 3, 1), 0, 0, []),
  (36, .iload_n 3, 1, 0, (3, 0, 0, 0), 0, 0, []),
  (37, .invokevirtual 80, 3, 0, (21, 1101, 2, 7), 0, 0, []),
  (40, .ifCond .eq 15, 3, 0, (55, 0, 0, 0), 0, 0, []),
  (43, .iload 5, 2, 0, (5, 0, 0, 0), 0, 0, []),
  (45, .iload_n 2, 1, 0, (2, 0, 0, 0), 0, 0, []),
  (46, .sipush 599, 3, 0, (0, 0, 0, 0), 599, 0, []),
  (49, .invokestatic 57, 3, 0, (19, 1090, 3, 0), 0, 0, []),
  (52, .ifCond .ne 6, 3, 0, (58, 0, 0, 0), 0, 0, []),
  (55, .bipush (-2), 2, 0, (0, 0, 0, 0), (-2), 0, []),
  (57, .ireturn, 1, 0, (0, 0, 0, 0), 0, 0, []),
  (58, .aload_n 0, 1, 0, (0, 0, 0, 0), 0, 0, []),
  (59, .getfield 10, 3, 0, (7, 1064, 0, 1), 0, 0, []),
  (62, .getfield 143, 3, 0, (1, 589, 2, 1), 0, 0, []),
  (65, .invokevirtual 66, 3, 0, (11, 1094, 1, 7), 0, 0, []),
  (68, .ifCond .eq 8, 3, 0, (76, 0, 0, 0), 0, 0, []),
  (71, .bipush (-4), 2, 0, (0, 0, 0, 0), (-4), 0, []),
  (73, .goto 20, 3, 0, (93, 0, 0, 0), 0, 0, []),
  (76, .aload_n 0, 1, 0, (0, 0, 0, 0), 0, 0, []),
  (77, .getfield 10, 3, 0, (7, 1064, 0, 1), 0, 0, []),
  (80, .getfield 143, 3, 0, (1, 589, 2, 1), 0, 0, []),
  (83, .iload_n 1, 1, 0, (1, 0, 0, 0), 0, 0, []),
  (84, .iload_n 2, 1, 0, (2, 0, 0, 0), 0, 0, []),
  (85, .iload_n 3, 1, 0, (3, 0, 0, 0), 0, 0, []),
  (86, .iload 4, 2, 0, (4, 0, 0, 0), 0, 0, []),
  (88, .iload 5, 2, 0, (5, 0, 0, 0), 0, 0, []),
  (90, .invokevirtual 72, 3, 0, (10, 1095, 6, 7), 0, 0, []),
  (93, .ireturn, 1, 0, (0, 0, 0, 0), 0, 0, [])]
def hk_m60 : hk_Q := (⟨"HullKeepers", "reading", "(IIIII)I"⟩, prog_1_method_15_code, 6, (some .int), (6, 0, 0, 0, 0, 0), hk_c60)
def hk_c61 : List hk_E := [(0, .aload_n 0, 1, 0, (0, 0, 0, 0), 0, 0, []),
  (1, .getfield 10, 3, 0, (7, 1064, 0, 1), 0, 0, []),
  (4, .getfield 140, 3, 0, (1, 591, 3, 1), 0, 0, []),
  (7, .iload_n 1, 1, 0, (1, 0, 0, 0), 0, 0, []),
  (8, .invokevirtual 80, 3, 0, (21, 1101, 2, 7), 0, 0, []),
  (11, .ifCond .eq 14, 3, 0, (25, 0, 0, 0), 0, 0, []),
  (14, .iload_n 2, 1, 0, (2, 0, 0, 0), 0, 0, []),
  (15, .bipush (-100), 2, 0, (0, 0, 0, 0), (-100), 0, []),
  (17, .bipush 100, 2, 0, (0, 0, 0, 0), 100, 0, []),
  (19, .invokestatic 57, 3, 0, (19, 1090, 3, 0), 0, 0, []),
  (22, .ifCond .ne 7, 3, 0, (29, 0, 0, 0), 0, 0, []),
  (25, .sipush (-1000), 3, 0, (0, 0, 0, 0), (-1000), 0, []),
  (28, .ireturn, 1, 0, (0, 0, 0, 0), 0, 0, []),
  (29, .aload_n 0, 1, 0, (0, 0, 0, 0), 0, 0, []),
  (30, .getfield 10, 3, 0, (7, 1064, 0, 1), 0, 0, []),
  (33, .getfield 140, 3, 0, (1, 591, 3, 1), 0, 0, []),
  (36, .iload_n 1, 1, 0, (1, 0, 0, 0), 0, 0, []),
  (37, .iconst 2, 1, 0, (0, 0, 0, 0), 2, 0, []),
  (38, .invokevirtual 87, 3, 0, (23, 1109, 3, 7), 0, 0, []),
  (41, .iconst (-1), 1, 0, (0, 0, 0, 0), (-1), 0, []),
  (42, .if_icmp .eq 7, 3, 0, (49, 0, 0, 0), 0, 0, []),
  (45, .sipush (-2000), 3, 0, (0, 0, 0, 0), (-2000), 0, []),
  (48, .ireturn, 1, 0, (0, 0, 0, 0), 0, 0, []),
  (49, .aload_n 0, 1, 0, (0, 0, 0, 0), 0, 0, []),
  (50, .getfield 10, 3, 0, (7, 1064, 0, 1), 0, 0, []),
  (53, .getfield 140, 3, 0, (1, 591, 3, 1), 0, 0, []),
  (56, .iload_n 1, 1, 0, (1, 0, 0, 0), 0, 0, []),
  (57, .iconst 0, 1, 0, (0, 0, 0, 0), 0, 0, []),
  (58, .iload_n 2, 1, 0, (2, 0, 0, 0), 0, 0, []),
  (59, .invokevirtual 110, 3, 0, (30, 1140, 4, 7), 0, 0, []),
  (62, .ireturn, 1, 0, (0, 0, 0, 0), 0, 0, [])]
def hk_m61 : hk_Q := (⟨"HullKeepers", "bias", "(II)I"⟩, prog_1_method_16_code, 3, (some .int), (3, 0, 0, 0, 0, 0), hk_c61)
def hk_c62 : List hk_E := [(0, .aload_n 0, 1, 0, (0, 0, 0, 0), 0, 0, []),
  (1, .getfield 10, 3, 0, (7, 1064, 0, 1), 0, 0, []),
  (4, .getfield 140, 3, 0, (1, 591, 3, 1), 0, 0, []),
  (7, .iload_n 1, 1, 0, (1, 0, 0, 0), 0, 0, []),
  (8, .invokevirtual 80, 3, 0, (21, 1101, 2, 7), 0, 0, []),
  (11, .ifCond .eq 21, 3, 0, (32, 0, 0, 0), 0, 0, []),
  (14, .iload_n 2, 1, 0, (2, 0, 0, 0), 0, 0, []),
  (15, .bipush (-100), 2, 0, (0, 0, 0, 0), (-100), 0, []),
  (17, .bipush 100, 2, 0, (0, 0, 0, 0), 100, 0, []),
  (19, .invokestatic 57, 3, 0, (19, 1090, 3, 0), 0, 0, []),
  (22, .ifCond .eq 10, 3, 0, (32, 0, 0, 0), 0, 0, []),
  (25, .iload_n 3, 1, 0, (3, 0, 0, 0), 0, 0, []),
  (26, .invokestatic 114, 3, 0, (32, 1149, 1, 0), 0, 0, []),
  (29, .ifCond .ne 6, 3, 0, (35, 0, 0, 0), 0, 0, []),
  (32, .bipush (-2), 2, 0, (0, 0, 0, 0), (-2), 0, []),
  (34, .ireturn, 1, 0, (0, 0, 0, 0), 0, 0, []),
  (35, .aload_n 0, 1, 0, (0, 0, 0, 0), 0, 0, []),
  (36, .getfield 10, 3, 0, (7, 1064, 0, 1), 0, 0, []),
  (39, .getfield 140, 3, 0, (1, 591, 3, 1), 0, 0, []),
  (42, .iload_n 1, 1, 0, (1, 0, 0, 0), 0, 0, []),
  (43, .iconst 2, 1, 0, (0, 0, 0, 0), 2, 0, []),
  (44, .invokevirtual 87, 3, 0, (23, 1109, 3, 7), 0, 0, []),
  (47, .iconst (-1), 1, 0, (0, 0, 0, 0), (-1), 0, []),
  (48, .if_icmp .eq 6, 3, 0, (54, 0, 0, 0), 0, 0, []),
  (51, .bipush (-3), 2, 0, (0, 0, 0, 0), (-3), 0, []),
  (53, .ireturn, 1, 0, (0, 0, 0, 0), 0, 0, []),
  (54, .aload_n 0, 1, 0, (0, 0, 0, 0), 0, 0, []),
  (55, .getfield 10, 3, 0, (7, 1064, 0, 1), 0, 0, []),
  (58, .getfield 140, 3, 0, (1, 591, 3, 1), 0, 0, []),
  (61, .iload_n 1, 1, 0, (1, 0, 0, 0), 0, 0, []),
  (62, .iconst 1, 1, 0, (0, 0, 0, 0), 1, 0, []),
  (63, .iload_n 2, 1, 0, (2, 0, 0, 0), 0, 0, []),
  (64, .invokevirtual 76, 3, 0, (12, 1096, 4, 7), 0, 0, []),
  (67, .aload_n 0, 1, 0, (0, 0, 0, 0), 0, 0, []),
  (68, .getfield 10, 3, 0, (7, 1064, 0, 1), 0, 0, []),
  (71, .getfield 140, 3, 0, (1, 591, 3, 1), 0, 0, []),
  (74, .iload_n 1, 1, 0, (1, 0, 0, 0), 0, 0, []),
  (75, .iconst 2, 1, 0, (0, 0, 0, 0), 2, 0, []),
  (76, .iload_n 3, 1, 0, (3, 0, 0, 0), 0, 0, []),
  (77, .invokevirtual 76, 3, 0, (12, 1096, 4, 7), 0, 0, []),
  (80, .iconst 1, 1, 0, (0, 0, 0, 0), 1, 0, []),
  (81, .ireturn, 1, 0, (0, 0, 0, 0), 0, 0, [])]
def hk_m62 : hk_Q := (⟨"HullKeepers", "right", "(III)I"⟩, prog_1_method_17_code, 4, (some .int), (4, 0, 0, 0, 0, 0), hk_c62)
def hk_c63 : List hk_E := [(0, .aload_n 0, 1, 0, (0, 0, 0, 0), 0, 0, []),
  (1, .getfield 10, 3, 0, (7, 1064, 0, 1), 0, 0, []),
  (4, .getfield 84, 3, 0, (1, 586, 1, 1), 0, 0, []),
  (7, .iload_n 1, 1, 0, (1, 0, 0, 0), 0, 0, []),
  (8, .invokevirtual 80, 3, 0, (21, 1101, 2, 7), 0, 0, []),
  (11, .ifCond .eq 17, 3, 0, (28, 0, 0, 0), 0, 0, []),
  (14, .iload_n 2, 1, 0, (2, 0, 0, 0), 0, 0, []),
  (15, .invokestatic 114, 3, 0, (32, 1149, 1, 0), 0, 0, []),
  (18, .ifCond .eq 10, 3, 0, (28, 0, 0, 0), 0, 0, []),
  (21, .iload_n 3, 1, 0, (3, 0, 0, 0), 0, 0, []),
  (22, .invokestatic 114, 3, 0, (32, 1149, 1, 0), 0, 0, []),
  (25, .ifCond .ne 6, 3, 0, (31, 0, 0, 0), 0, 0, []),
  (28, .bipush (-2), 2, 0, (0, 0, 0, 0), (-2), 0, []),
  (30, .ireturn, 1, 0, (0, 0, 0, 0), 0, 0, []),
  (31, .aload_n 0, 1, 0, (0, 0, 0, 0), 0, 0, []),
  (32, .getfield 10, 3, 0, (7, 1064, 0, 1), 0, 0, []),
  (35, .iload_n 1, 1, 0, (1, 0, 0, 0), 0, 0, []),
  (36, .iload_n 2, 1, 0, (2, 0, 0, 0), 0, 0, []),
  (37, .iload_n 3, 1, 0, (3, 0, 0, 0), 0, 0, []),
  (38, .invokevirtual 146, 3, 0, (71, 1587, 4, 2), 0, 0, []),
  (41, .ireturn, 1, 0, (0, 0, 0, 0), 0, 0, [])]
def hk_m63 : hk_Q := (⟨"HullKeepers", "guess", "(III)I"⟩, prog_1_method_18_code, 4, (some .int), (4, 0, 0, 0, 0, 0), hk_c63)
def hk_c64 : List hk_E := [(0, .aload_n 0, 1, 0, (0, 0, 0, 0), 0, 0, []),
  (1, .iload_n 1, 1, 0, (1, 0, 0, 0), 0, 0, []),
  (2, .iload_n 2, 1, 0, (2, 0, 0, 0), 0, 0, []),
  (3, .iload_n 3, 1, 0, (3, 0, 0, 0), 0, 0, []),
  (4, .invokevirtual 147, 3, 0, (72, 1591, 4, 2), 0, 0, []),
  (7, .istore 4, 2, 0, (4, 0, 0, 0), 0, 0, []),
  (9, .iload 4, 2, 0, (4, 0, 0, 0), 0, 0, []),
  (11, .iconst (-1), 1, 0, (0, 0, 0, 0), (-1), 0, []),
  (12, .if_icmp .ne 5, 3, 0, (17, 0, 0, 0), 0, 0, []),
  (15, .iconst (-1), 1, 0, (0, 0, 0, 0), (-1), 0, []),
  (16, .ireturn, 1, 0, (0, 0, 0, 0), 0, 0, []),
  (17, .aload_n 0, 1, 0, (0, 0, 0, 0), 0, 0, []),
  (18, .iload_n 1, 1, 0, (1, 0, 0, 0), 0, 0, []),
  (19, .invokevirtual 100, 3, 0, (40, 1181, 2, 2), 0, 0, []),
  (22, .i2l, 1, 0, (0, 0, 0, 0), 0, 0, []),
  (23, .iload_n 2, 1, 0, (2, 0, 0, 0), 0, 0, []),
  (24, .aload_n 0, 1, 0, (0, 0, 0, 0), 0, 0, []),
  (25, .getfield 23, 3, 0, (1, 588, 2, 1), 0, 0, []),
  (28, .iload 4, 2, 0, (4, 0, 0, 0), 0, 0, []),
  (30, .iconst 1, 1, 0, (0, 0, 0, 0), 1, 0, []),
  (31, .invokevirtual 85, 3, 0, (23, 1117, 3, 7), 0, 0, []),
  (34, .isub, 1, 0, (0, 0, 0, 0), 0, 0, []),
  (35, .i2l, 1, 0, (0, 0, 0, 0), 0, 0, []),
  (36, .lmul, 1, 0, (0, 0, 0, 0), 0, 0, []),
  (37, .lstore 5, 2, 0, (5, 0, 0, 0), 0, 0, []),
  (39, .ldc2_w 150, 3, 0, (0, 1595, 0, 0), 0, 2147483647, []),
  (42, .lconst 0, 1, 0, (0, 0, 0, 0), 0, 0, []),
  (43, .aload_n 0, 1, 0, (0, 0, 0, 0), 0, 0, []),
  (44, .iload 4, 2, 0, (4, 0, 0, 0), 0, 0, []),
  (46, .iload_n 3, 1, 0, (3, 0, 0, 0), 0, 0, []),
  (47, .invokevirtual 152, 3, 0, (73, 1596, 3, 2), 0, 0, []),
  (50, .lload 5, 2, 0, (5, 0, 0, 0), 0, 0, []),
  (52, .lsub, 1, 0, (0, 0, 0, 0), 0, 0, []),
  (53, .invokestatic 156, 3, 0, (5, 1600, 0, 0), 0, 0, []),
  (56, .invokestatic 159, 3, 0, (6, 1603, 0, 0), 0, 0, []),
  (59, .l2i, 1, 0, (0, 0, 0, 0), 0, 0, []),
  (60, .ireturn, 1, 0, (0, 0, 0, 0), 0, 0, [])]
def hk_m64 : hk_Q := (⟨"HullKeepers$House", "guessFor", "(III)I"⟩, prog_3_method_19_code, 7, (some .int), (4, 0, 0, 0, 0, 0), hk_c64)
def hk_c65 : List hk_E := [(0, .iconst (-1), 1, 0, (0, 0, 0, 0), (-1), 0, []),
  (1, .istore 4, 2, 0, (4, 0, 0, 0), 0, 0, []),
  (3, .iconst 0, 1, 0, (0, 0, 0, 0), 0, 0, []),
  (4, .istore 5, 2, 0, (5, 0, 0, 0), 0, 0, []),
  (6, .iload 5, 2, 1, (5, 0, 0, 0), 0, 0, []),
  (8, .aload_n 0, 1, 0, (0, 0, 0, 0), 0, 0, []),
  (9, .getfield 23, 3, 0, (1, 588, 2, 1), 0, 0, []),
  (12, .getfield 89, 3, 0, (6, 556, 3, 0), 0, 0, []),
  (15, .if_icmp .ge 84, 3, 0, (99, 0, 0, 0), 0, 0, []),
  (18, .aload_n 0, 1, 0, (0, 0, 0, 0), 0, 0, []),
  (19, .getfield 23, 3, 0, (1, 588, 2, 1), 0, 0, []),
  (22, .iload 5, 2, 0, (5, 0, 0, 0), 0, 0, []),
  (24, .iconst 0, 1, 0, (0, 0, 0, 0), 0, 0, []),
  (25, .invokevirtual 85, 3, 0, (23, 1117, 3, 7), 0, 0, []),
  (28, .iload_n 1, 1, 0, (1, 0, 0, 0), 0, 0, []),
  (29, .if_icmp .ne 64, 3, 0, (93, 0, 0, 0), 0, 0, []),
  (32, .aload_n 0, 1, 0, (0, 0, 0, 0), 0, 0, []),
  (33, .getfield 23, 3, 0, (1, 588, 2, 1), 0, 0, []),
  (36, .iload 5, 2, 0, (5, 0, 0, 0), 0, 0, []),
  (38, .iconst 4, 1, 0, (0, 0, 0, 0), 4, 0, []),
  (39, .invokevirtual 85, 3, 0, (23, 1117, 3, 7), 0, 0, []),
  (42, .iload_n 3, 1, 0, (3, 0, 0, 0), 0, 0, []),
  (43, .if_icmp .gt 50, 3, 0, (93, 0, 0, 0), 0, 0, []),
  (46, .aload_n 0, 1, 0, (0, 0, 0, 0), 0, 0, []),
  (47, .getfield 23, 3, 0, (1, 588, 2, 1), 0, 0, []),
  (50, .iload 5, 2, 0, (5, 0, 0, 0), 0, 0, []),
  (52, .iconst 1, 1, 0, (0, 0, 0, 0), 1, 0, []),
  (53, .invokevirtual 85, 3, 0, (23, 1117, 3, 7), 0, 0, []),
  (56, .iload_n 2, 1, 0, (2, 0, 0, 0), 0, 0, []),
  (57, .if_icmp .gt 36, 3, 0, (93, 0, 0, 0), 0, 0, []),
  (60, .iload 4, 2, 0, (4, 0, 0, 0), 0, 0, []),
  (62, .iconst (-1), 1, 0, (0, 0, 0, 0), (-1), 0, []),
  (63, .if_icmp .eq 26, 3, 0, (89, 0, 0, 0), 0, 0, []),
  (66, .aload_n 0, 1, 0, (0, 0, 0, 0), 0, 0, []),
  (67, .getfield 23, 3, 0, (1, 588, 2, 1), 0, 0, []),
  (70, .iload 5, 2, 0, (5, 0, 0, 0), 0, 0, []),
  (72, .iconst 1, 1, 0, (0, 0, 0, 0), 1, 0, []),
  (73, .invokevirtual 85, 3, 0, (23, 1117, 3, 7), 0, 0, []),
  (76, .aload_n 0, 1, 0, (0, 0, 0, 0), 0, 0, []),
  (77, .getfield 23, 3, 0, (1, 588, 2, 1), 0, 0, []),
  (80, .iload 4, 2, 0, (4, 0, 0, 0), 0, 0, []),
  (82, .iconst 1, 1, 0, (0, 0, 0, 0), 1, 0, []),
  (83, .invokevirtual 85, 3, 0, (23, 1117, 3, 7), 0, 0, []),
  (86, .if_icmp .lt 7, 3, 0, (93, 0, 0, 0), 0, 0, []),
  (89, .iload 5, 2, 0, (5, 0, 0, 0), 0, 0, []),
  (91, .istore 4, 2, 0, (4, 0, 0, 0), 0, 0, []),
  (93, .iinc 5 1, 3, 0, (5, 0, 0, 0), 1, 0, []),
  (96, .goto (-90), 3, 0, (6, 0, 0, 0), 0, 0, []),
  (99, .iload 4, 2, 0, (4, 0, 0, 0), 0, 0, []),
  (101, .ireturn, 1, 0, (0, 0, 0, 0), 0, 0, [])]
def hk_m65 : hk_Q := (⟨"HullKeepers$House", "latest", "(III)I"⟩, prog_3_method_17_code, 6, (some .int), (4, 0, 0, 0, 0, 0), hk_c65)
def hk_c66 : List hk_E := [(0, .aload_n 0, 1, 0, (0, 0, 0, 0), 0, 0, []),
  (1, .getfield 23, 3, 0, (1, 588, 2, 1), 0, 0, []),
  (4, .iload_n 1, 1, 0, (1, 0, 0, 0), 0, 0, []),
  (5, .iconst 2, 1, 0, (0, 0, 0, 0), 2, 0, []),
  (6, .invokevirtual 85, 3, 0, (23, 1117, 3, 7), 0, 0, []),
  (9, .istore_n 3, 1, 0, (3, 0, 0, 0), 0, 0, []),
  (10, .aload_n 0, 1, 0, (0, 0, 0, 0), 0, 0, []),
  (11, .getfield 26, 3, 0, (1, 590, 3, 1), 0, 0, []),
  (14, .iload_n 3, 1, 0, (3, 0, 0, 0), 0, 0, []),
  (15, .iconst 2, 1, 0, (0, 0, 0, 0), 2, 0, []),
  (16, .invokevirtual 85, 3, 0, (23, 1117, 3, 7), 0, 0, []),
  (19, .istore 4, 2, 0, (4, 0, 0, 0), 0, 0, []),
  (21, .iload 4, 2, 0, (4, 0, 0, 0), 0, 0, []),
  (23, .iconst (-1), 1, 0, (0, 0, 0, 0), (-1), 0, []),
  (24, .if_icmp .eq 13, 3, 0, (37, 0, 0, 0), 0, 0, []),
  (27, .iload 4, 2, 0, (4, 0, 0, 0), 0, 0, []),
  (29, .iload_n 2, 1, 0, (2, 0, 0, 0), 0, 0, []),
  (30, .if_icmp .gt 7, 3, 0, (37, 0, 0, 0), 0, 0, []),
  (33, .iconst 1, 1, 0, (0, 0, 0, 0), 1, 0, []),
  (34, .goto 4, 3, 0, (38, 0, 0, 0), 0, 0, []),
  (37, .iconst 0, 1, 0, (0, 0, 0, 0), 0, 0, []),
  (38, .istore 5, 2, 0, (5, 0, 0, 0), 0, 0, []),
  (40, .aload_n 0, 1, 0, (0, 0, 0, 0), 0, 0, []),
  (41, .getfield 23, 3, 0, (1, 588, 2, 1), 0, 0, []),
  (44, .iload_n 1, 1, 0, (1, 0, 0, 0), 0, 0, []),
  (45, .iconst 3, 1, 0, (0, 0, 0, 0), 3, 0, []),
  (46, .invokevirtual 85, 3, 0, (23, 1117, 3, 7), 0, 0, []),
  (49, .i2l, 1, 0, (0, 0, 0, 0), 0, 0, []),
  (50, .aload_n 0, 1, 0, (0, 0, 0, 0), 0, 0, []),
  (51, .getfield 26, 3, 0, (1, 590, 3, 1), 0, 0, []),
  (54, .iload_n 3, 1, 0, (3, 0, 0, 0), 0, 0, []),
  (55, .iload 5, 2, 0, (5, 0, 0, 0), 0, 0, []),
  (57, .ifCond .eq 7, 3, 0, (64, 0, 0, 0), 0, 0, []),
  (60, .iconst 1, 1, 0, (0, 0, 0, 0), 1, 0, []),
  (61, .goto 4, 3, 0, (65, 0, 0, 0), 0, 0, []),
  (64, .iconst 0, 1, 0, (0, 0, 0, 0), 0, 0, []),
  (65, .invokevirtual 85, 3, 0, (23, 1117, 3, 7), 0, 0, []),
  (68, .i2l, 1, 0, (0, 0, 0, 0), 0, 0, []),
  (69, .lsub, 1, 0, (0, 0, 0, 0), 0, 0, []),
  (70, .lreturn, 1, 0, (0, 0, 0, 0), 0, 0, [])]
def hk_m66 : hk_Q := (⟨"HullKeepers$House", "corrected", "(II)J"⟩, prog_3_method_18_code, 6, (some .long), (3, 0, 0, 0, 0, 0), hk_c66)
def hk_c67 : List hk_E := [(0, .aload_n 0, 1, 0, (0, 0, 0, 0), 0, 0, []),
  (1, .getfield 10, 3, 0, (7, 1064, 0, 1), 0, 0, []),
  (4, .getfield 84, 3, 0, (1, 586, 1, 1), 0, 0, []),
  (7, .iload_n 1, 1, 0, (1, 0, 0, 0), 0, 0, []),
  (8, .invokevirtual 80, 3, 0, (21, 1101, 2, 7), 0, 0, []),
  (11, .ifCond .eq 22, 3, 0, (33, 0, 0, 0), 0, 0, []),
  (14, .iload_n 2, 1, 0, (2, 0, 0, 0), 0, 0, []),
  (15, .invokestatic 114, 3, 0, (32, 1149, 1, 0), 0, 0, []),
  (18, .ifCond .eq 15, 3, 0, (33, 0, 0, 0), 0, 0, []),
  (21, .aload_n 0, 1, 0, (0, 0, 0, 0), 0, 0, []),
  (22, .getfield 10, 3, 0, (7, 1064, 0, 1), 0, 0, []),
  (25, .iload_n 1, 1, 0, (1, 0, 0, 0), 0, 0, []),
  (26, .iload_n 2, 1, 0, (2, 0, 0, 0), 0, 0, []),
  (27, .invokevirtual 149, 3, 0, (75, 1610, 3, 2), 0, 0, []),
  (30, .goto 5, 3, 0, (35, 0, 0, 0), 0, 0, []),
  (33, .bipush (-2), 2, 0, (0, 0, 0, 0), (-2), 0, []),
  (35, .ireturn, 1, 0, (0, 0, 0, 0), 0, 0, [])]
def hk_m67 : hk_Q := (⟨"HullKeepers", "due", "(II)I"⟩, prog_1_method_19_code, 3, (some .int), (3, 0, 0, 0, 0, 0), hk_c67)
def hk_c68 : List hk_E := [(0, .aload_n 0, 1, 0, (0, 0, 0, 0), 0, 0, []),
  (1, .iload_n 1, 1, 0, (1, 0, 0, 0), 0, 0, []),
  (2, .sipush 599, 3, 0, (0, 0, 0, 0), 599, 0, []),
  (5, .iload_n 2, 1, 0, (2, 0, 0, 0), 0, 0, []),
  (6, .invokevirtual 147, 3, 0, (72, 1591, 4, 2), 0, 0, []),
  (9, .istore_n 3, 1, 0, (3, 0, 0, 0), 0, 0, []),
  (10, .iload_n 3, 1, 0, (3, 0, 0, 0), 0, 0, []),
  (11, .iconst (-1), 1, 0, (0, 0, 0, 0), (-1), 0, []),
  (12, .if_icmp .eq 10, 3, 0, (22, 0, 0, 0), 0, 0, []),
  (15, .aload_n 0, 1, 0, (0, 0, 0, 0), 0, 0, []),
  (16, .getfield 58, 3, 0, (1, 617, 13, 0), 0, 0, []),
  (19, .ifCond .ne 5, 3, 0, (24, 0, 0, 0), 0, 0, []),
  (22, .iconst (-1), 1, 0, (0, 0, 0, 0), (-1), 0, []),
  (23, .ireturn, 1, 0, (0, 0, 0, 0), 0, 0, []),
  (24, .aload_n 0, 1, 0, (0, 0, 0, 0), 0, 0, []),
  (25, .getfield 23, 3, 0, (1, 588, 2, 1), 0, 0, []),
  (28, .iload_n 3, 1, 0, (3, 0, 0, 0), 0, 0, []),
  (29, .iconst 1, 1, 0, (0, 0, 0, 0), 1, 0, []),
  (30, .invokevirtual 85, 3, 0, (23, 1117, 3, 7), 0, 0, []),
  (33, .istore 4, 2, 0, (4, 0, 0, 0), 0, 0, []),
  (35, .aload_n 0, 1, 0, (0, 0, 0, 0), 0, 0, []),
  (36, .iload_n 3, 1, 0, (3, 0, 0, 0), 0, 0, []),
  (37, .iload_n 2, 1, 0, (2, 0, 0, 0), 0, 0, []),
  (38, .invokevirtual 152, 3, 0, (73, 1596, 3, 2), 0, 0, []),
  (41, .aload_n 0, 1, 0, (0, 0, 0, 0), 0, 0, []),
  (42, .getfield 58, 3, 0, (1, 617, 13, 0), 0, 0, []),
  (45, .i2l, 1, 0, (0, 0, 0, 0), 0, 0, []),
  (46, .lsub, 1, 0, (0, 0, 0, 0), 0, 0, []),
  (47, .lstore 5, 2, 0, (5, 0, 0, 0), 0, 0, []),
  (49, .lload 5, 2, 0, (5, 0, 0, 0), 0, 0, []),
  (51, .lconst 0, 1, 0, (0, 0, 0, 0), 0, 0, []),
  (52, .lcmp, 1, 0, (0, 0, 0, 0), 0, 0, []),
  (53, .ifCond .ge 6, 3, 0, (59, 0, 0, 0), 0, 0, []),
  (56, .iload 4, 2, 0, (4, 0, 0, 0), 0, 0, []),
  (58, .ireturn, 1, 0, (0, 0, 0, 0), 0, 0, []),
  (59, .aload_n 0, 1, 0, (0, 0, 0, 0), 0, 0, []),
  (60, .iload_n 1, 1, 0, (1, 0, 0, 0), 0, 0, []),
  (61, .invokevirtual 100, 3, 0, (40, 1181, 2, 2), 0, 0, []),
  (64, .istore 7, 2, 0, (7, 0, 0, 0), 0, 0, []),
  (66, .iload 7, 2, 0, (7, 0, 0, 0), 0, 0, []),
  (68, .ifCond .ne 5, 3, 0, (73, 0, 0, 0), 0, 0, []),
  (71, .iconst (-1), 1, 0, (0, 0, 0, 0), (-1), 0, []),
  (72, .ireturn, 1, 0, (0, 0, 0, 0), 0, 0, []),
  (73, .iload 4, 2, 0, (4, 0, 0, 0), 0, 0, []),
  (75, .i2l, 1, 0, (0, 0, 0, 0), 0, 0, []),
  (76, .lload 5, 2, 0, (5, 0, 0, 0), 0, 0, []),
  (78, .iload 7, 2, 0, (7, 0, 0, 0), 0, 0, []),
  (80, .i2l, 1, 0, (0, 0, 0, 0), 0, 0, []),
  (81, .ldiv, 1, 0, (0, 0, 0, 0), 0, 0, []),
  (82, .ladd, 1, 0, (0, 0, 0, 0), 0, 0, []),
  (83, .lconst 1, 1, 0, (0, 0, 0, 0), 0, 1, []),
  (84, .ladd, 1, 0, (0, 0, 0, 0), 0, 0, []),
  (85, .lstore 8, 2, 0, (8, 0, 0, 0), 0, 0, []),
  (87, .lload 8, 2, 0, (8, 0, 0, 0), 0, 0, []),
  (89, .ldc2_w 161, 3, 0, (0, 1614, 0, 0), 0, 599, []),
  (92, .lcmp, 1, 0, (0, 0, 0, 0), 0, 0, []),
  (93, .ifCond .gt 9, 3, 0, (102, 0, 0, 0), 0, 0, []),
  (96, .lload 8, 2, 0, (8, 0, 0, 0), 0, 0, []),
  (98, .l2i, 1, 0, (0, 0, 0, 0), 0, 0, []),
  (99, .goto 4, 3, 0, (103, 0, 0, 0), 0, 0, []),
  (102, .iconst (-1), 1, 0, (0, 0, 0, 0), (-1), 0, []),
  (103, .ireturn, 1, 0, (0, 0, 0, 0), 0, 0, [])]
def hk_m68 : hk_Q := (⟨"HullKeepers$House", "dueMonth", "(II)I"⟩, prog_3_method_20_code, 10, (some .int), (3, 0, 0, 0, 0, 0), hk_c68)
def hk_c69 : List hk_E := [(0, .aload_n 0, 1, 0, (0, 0, 0, 0), 0, 0, []),
  (1, .getfield 10, 3, 0, (7, 1064, 0, 1), 0, 0, []),
  (4, .getfield 62, 3, 0, (1, 584, 0, 1), 0, 0, []),
  (7, .iload_n 1, 1, 0, (1, 0, 0, 0), 0, 0, []),
  (8, .invokevirtual 80, 3, 0, (21, 1101, 2, 7), 0, 0, []),
  (11, .ifCond .eq 22, 3, 0, (33, 0, 0, 0), 0, 0, []),
  (14, .iload_n 2, 1, 0, (2, 0, 0, 0), 0, 0, []),
  (15, .invokestatic 114, 3, 0, (32, 1149, 1, 0), 0, 0, []),
  (18, .ifCond .eq 15, 3, 0, (33, 0, 0, 0), 0, 0, []),
  (21, .aload_n 0, 1, 0, (0, 0, 0, 0), 0, 0, []),
  (22, .getfield 10, 3, 0, (7, 1064, 0, 1), 0, 0, []),
  (25, .iload_n 1, 1, 0, (1, 0, 0, 0), 0, 0, []),
  (26, .iload_n 2, 1, 0, (2, 0, 0, 0), 0, 0, []),
  (27, .invokevirtual 152, 3, 0, (77, 1619, 3, 2), 0, 0, []),
  (30, .goto 5, 3, 0, (35, 0, 0, 0), 0, 0, []),
  (33, .bipush (-2), 2, 0, (0, 0, 0, 0), (-2), 0, []),
  (35, .ireturn, 1, 0, (0, 0, 0, 0), 0, 0, [])]
def hk_m69 : hk_Q := (⟨"HullKeepers", "first", "(II)I"⟩, prog_1_method_20_code, 3, (some .int), (3, 0, 0, 0, 0, 0), hk_c69)
def hk_c70 : List hk_E := [(0, .iconst (-1), 1, 0, (0, 0, 0, 0), (-1), 0, []),
  (1, .istore_n 3, 1, 0, (3, 0, 0, 0), 0, 0, []),
  (2, .sipush 600, 3, 0, (0, 0, 0, 0), 600, 0, []),
  (5, .istore 4, 2, 0, (4, 0, 0, 0), 0, 0, []),
  (7, .iconst 0, 1, 0, (0, 0, 0, 0), 0, 0, []),
  (8, .istore 5, 2, 0, (5, 0, 0, 0), 0, 0, []),
  (10, .iload 5, 2, 1, (5, 0, 0, 0), 0, 0, []),
  (12, .aload_n 0, 1, 0, (0, 0, 0, 0), 0, 0, []),
  (13, .getfield 20, 3, 0, (1, 585, 1, 1), 0, 0, []),
  (16, .getfield 89, 3, 0, (6, 556, 3, 0), 0, 0, []),
  (19, .if_icmp .ge 52, 3, 0, (71, 0, 0, 0), 0, 0, []),
  (22, .aload_n 0, 1, 0, (0, 0, 0, 0), 0, 0, []),
  (23, .getfield 20, 3, 0, (1, 585, 1, 1), 0, 0, []),
  (26, .iload 5, 2, 0, (5, 0, 0, 0), 0, 0, []),
  (28, .iconst 0, 1, 0, (0, 0, 0, 0), 0, 0, []),
  (29, .invokevirtual 85, 3, 0, (23, 1117, 3, 7), 0, 0, []),
  (32, .iload_n 1, 1, 0, (1, 0, 0, 0), 0, 0, []),
  (33, .if_icmp .ne 32, 3, 0, (65, 0, 0, 0), 0, 0, []),
  (36, .aload_n 0, 1, 0, (0, 0, 0, 0), 0, 0, []),
  (37, .iload 5, 2, 0, (5, 0, 0, 0), 0, 0, []),
  (39, .iload_n 2, 1, 0, (2, 0, 0, 0), 0, 0, []),
  (40, .invokevirtual 163, 3, 0, (75, 1623, 3, 2), 0, 0, []),
  (43, .istore 6, 2, 0, (6, 0, 0, 0), 0, 0, []),
  (45, .iload 6, 2, 0, (6, 0, 0, 0), 0, 0, []),
  (47, .iconst (-1), 1, 0, (0, 0, 0, 0), (-1), 0, []),
  (48, .if_icmp .eq 17, 3, 0, (65, 0, 0, 0), 0, 0, []),
  (51, .iload 6, 2, 0, (6, 0, 0, 0), 0, 0, []),
  (53, .iload 4, 2, 0, (4, 0, 0, 0), 0, 0, []),
  (55, .if_icmp .ge 10, 3, 0, (65, 0, 0, 0), 0, 0, []),
  (58, .iload 5, 2, 0, (5, 0, 0, 0), 0, 0, []),
  (60, .istore_n 3, 1, 0, (3, 0, 0, 0), 0, 0, []),
  (61, .iload 6, 2, 0, (6, 0, 0, 0), 0, 0, []),
  (63, .istore 4, 2, 0, (4, 0, 0, 0), 0, 0, []),
  (65, .iinc 5 1, 3, 0, (5, 0, 0, 0), 1, 0, []),
  (68, .goto (-58), 3, 0, (10, 0, 0, 0), 0, 0, []),
  (71, .iload_n 3, 1, 0, (3, 0, 0, 0), 0, 0, []),
  (72, .ireturn, 1, 0, (0, 0, 0, 0), 0, 0, [])]
def hk_m70 : hk_Q := (⟨"HullKeepers$House", "firstDue", "(II)I"⟩, prog_3_method_21_code, 7, (some .int), (3, 0, 0, 0, 0, 0), hk_c70)
def hk_c71 : List hk_E := [(0, .aload_n 0, 1, 0, (0, 0, 0, 0), 0, 0, []),
  (1, .getfield 10, 3, 0, (7, 1064, 0, 1), 0, 0, []),
  (4, .getfield 155, 3, 0, (1, 594, 4, 1), 0, 0, []),
  (7, .iload_n 1, 1, 0, (1, 0, 0, 0), 0, 0, []),
  (8, .invokevirtual 80, 3, 0, (21, 1101, 2, 7), 0, 0, []),
  (11, .ifCond .eq 13, 3, 0, (24, 0, 0, 0), 0, 0, []),
  (14, .iload_n 2, 1, 0, (2, 0, 0, 0), 0, 0, []),
  (15, .iconst 0, 1, 0, (0, 0, 0, 0), 0, 0, []),
  (16, .bipush 127, 2, 0, (0, 0, 0, 0), 127, 0, []),
  (18, .invokestatic 57, 3, 0, (19, 1090, 3, 0), 0, 0, []),
  (21, .ifCond .ne 6, 3, 0, (27, 0, 0, 0), 0, 0, []),
  (24, .bipush (-2), 2, 0, (0, 0, 0, 0), (-2), 0, []),
  (26, .ireturn, 1, 0, (0, 0, 0, 0), 0, 0, []),
  (27, .aload_n 0, 1, 0, (0, 0, 0, 0), 0, 0, []),
  (28, .getfield 10, 3, 0, (7, 1064, 0, 1), 0, 0, []),
  (31, .getfield 155, 3, 0, (1, 594, 4, 1), 0, 0, []),
  (34, .iload_n 1, 1, 0, (1, 0, 0, 0), 0, 0, []),
  (35, .iconst 0, 1, 0, (0, 0, 0, 0), 0, 0, []),
  (36, .invokevirtual 87, 3, 0, (23, 1109, 3, 7), 0, 0, []),
  (39, .istore_n 3, 1, 0, (3, 0, 0, 0), 0, 0, []),
  (40, .iload_n 3, 1, 0, (3, 0, 0, 0), 0, 0, []),
  (41, .bipush 60, 2, 0, (0, 0, 0, 0), 60, 0, []),
  (43, .if_icmp .lt 6, 3, 0, (49, 0, 0, 0), 0, 0, []),
  (46, .bipush (-4), 2, 0, (0, 0, 0, 0), (-4), 0, []),
  (48, .ireturn, 1, 0, (0, 0, 0, 0), 0, 0, []),
  (49, .aload_n 0, 1, 0, (0, 0, 0, 0), 0, 0, []),
  (50, .getfield 10, 3, 0, (7, 1064, 0, 1), 0, 0, []),
  (53, .getfield 155, 3, 0, (1, 594, 4, 1), 0, 0, []),
  (56, .iload_n 1, 1, 0, (1, 0, 0, 0), 0, 0, []),
  (57, .iconst 1, 1, 0, (0, 0, 0, 0), 1, 0, []),
  (58, .iload_n 3, 1, 0, (3, 0, 0, 0), 0, 0, []),
  (59, .iadd, 1, 0, (0, 0, 0, 0), 0, 0, []),
  (60, .iload_n 2, 1, 0, (2, 0, 0, 0), 0, 0, []),
  (61, .invokevirtual 76, 3, 0, (12, 1096, 4, 7), 0, 0, []),
  (64, .aload_n 0, 1, 0, (0, 0, 0, 0), 0, 0, []),
  (65, .getfield 10, 3, 0, (7, 1064, 0, 1), 0, 0, []),
  (68, .getfield 155, 3, 0, (1, 594, 4, 1), 0, 0, []),
  (71, .iload_n 1, 1, 0, (1, 0, 0, 0), 0, 0, []),
  (72, .iconst 0, 1, 0, (0, 0, 0, 0), 0, 0, []),
  (73, .iload_n 3, 1, 0, (3, 0, 0, 0), 0, 0, []),
  (74, .iconst 1, 1, 0, (0, 0, 0, 0), 1, 0, []),
  (75, .iadd, 1, 0, (0, 0, 0, 0), 0, 0, []),
  (76, .invokevirtual 76, 3, 0, (12, 1096, 4, 7), 0, 0, []),
  (79, .iload_n 3, 1, 0, (3, 0, 0, 0), 0, 0, []),
  (80, .iconst 1, 1, 0, (0, 0, 0, 0), 1, 0, []),
  (81, .iadd, 1, 0, (0, 0, 0, 0), 0, 0, []),
  (82, .ireturn, 1, 0, (0, 0, 0, 0), 0, 0, [])]
def hk_m71 : hk_Q := (⟨"HullKeepers", "write", "(II)I"⟩, prog_1_method_21_code, 4, (some .int), (3, 0, 0, 0, 0, 0), hk_c71)
def hk_c72 : List hk_E := [(0, .aload_n 0, 1, 0, (0, 0, 0, 0), 0, 0, []),
  (1, .getfield 10, 3, 0, (7, 1064, 0, 1), 0, 0, []),
  (4, .getfield 155, 3, 0, (1, 594, 4, 1), 0, 0, []),
  (7, .iload_n 1, 1, 0, (1, 0, 0, 0), 0, 0, []),
  (8, .invokevirtual 80, 3, 0, (21, 1101, 2, 7), 0, 0, []),
  (11, .ifCond .eq 19, 3, 0, (30, 0, 0, 0), 0, 0, []),
  (14, .aload_n 0, 1, 0, (0, 0, 0, 0), 0, 0, []),
  (15, .getfield 10, 3, 0, (7, 1064, 0, 1), 0, 0, []),
  (18, .getfield 155, 3, 0, (1, 594, 4, 1), 0, 0, []),
  (21, .iload_n 1, 1, 0, (1, 0, 0, 0), 0, 0, []),
  (22, .iconst 0, 1, 0, (0, 0, 0, 0), 0, 0, []),
  (23, .iconst 0, 1, 0, (0, 0, 0, 0), 0, 0, []),
  (24, .invokevirtual 110, 3, 0, (30, 1140, 4, 7), 0, 0, []),
  (27, .goto 5, 3, 0, (32, 0, 0, 0), 0, 0, []),
  (30, .bipush (-2), 2, 0, (0, 0, 0, 0), (-2), 0, []),
  (32, .ireturn, 1, 0, (0, 0, 0, 0), 0, 0, [])]
def hk_m72 : hk_Q := (⟨"HullKeepers", "erase", "(I)I"⟩, prog_1_method_22_code, 2, (some .int), (2, 0, 0, 0, 0, 0), hk_c72)
def hk_c73 : List hk_E := [(0, .aload_n 0, 1, 0, (0, 0, 0, 0), 0, 0, []),
  (1, .getfield 10, 3, 0, (7, 1064, 0, 1), 0, 0, []),
  (4, .getfield 155, 3, 0, (1, 594, 4, 1), 0, 0, []),
  (7, .iload_n 1, 1, 0, (1, 0, 0, 0), 0, 0, []),
  (8, .invokevirtual 80, 3, 0, (21, 1101, 2, 7), 0, 0, []),
  (11, .ifCond .eq 14, 3, 0, (25, 0, 0, 0), 0, 0, []),
  (14, .aload_n 0, 1, 0, (0, 0, 0, 0), 0, 0, []),
  (15, .getfield 25, 3, 0, (7, 1066, 2, 1), 0, 0, []),
  (18, .iload_n 1, 1, 0, (1, 0, 0, 0), 0, 0, []),
  (19, .invokevirtual 158, 3, 0, (81, 1636, 2, 5), 0, 0, []),
  (22, .goto 5, 3, 0, (27, 0, 0, 0), 0, 0, []),
  (25, .bipush (-2), 2, 0, (0, 0, 0, 0), (-2), 0, []),
  (27, .ireturn, 1, 0, (0, 0, 0, 0), 0, 0, [])]
def hk_m73 : hk_Q := (⟨"HullKeepers", "fault", "(I)I"⟩, prog_1_method_23_code, 2, (some .int), (2, 0, 0, 0, 0, 0), hk_c73)
def hk_c74 : List hk_E := [(0, .aload_n 0, 1, 0, (0, 0, 0, 0), 0, 0, []),
  (1, .iload_n 1, 1, 0, (1, 0, 0, 0), 0, 0, []),
  (2, .iconst (-1), 1, 0, (0, 0, 0, 0), (-1), 0, []),
  (3, .invokevirtual 59, 3, 0, (51, 1232, 3, 5), 0, 0, []),
  (6, .pop2, 1, 0, (0, 0, 0, 0), 0, 0, []),
  (7, .aload_n 0, 1, 0, (0, 0, 0, 0), 0, 0, []),
  (8, .getfield 15, 3, 0, (4, 675, 5, 0), 0, 0, []),
  (11, .ireturn, 1, 0, (0, 0, 0, 0), 0, 0, [])]
def hk_m74 : hk_Q := (⟨"HullKeepers$Reader", "flawOf", "(I)I"⟩, prog_6_method_3_code, 2, (some .int), (2, 0, 0, 0, 0, 0), hk_c74)
def hk_c75 : List hk_E := [(0, .aload_n 0, 1, 0, (0, 0, 0, 0), 0, 0, []),
  (1, .getfield 10, 3, 0, (7, 1064, 0, 1), 0, 0, []),
  (4, .getfield 155, 3, 0, (1, 594, 4, 1), 0, 0, []),
  (7, .iload_n 1, 1, 0, (1, 0, 0, 0), 0, 0, []),
  (8, .invokevirtual 80, 3, 0, (21, 1101, 2, 7), 0, 0, []),
  (11, .ifCond .eq 17, 3, 0, (28, 0, 0, 0), 0, 0, []),
  (14, .aload_n 0, 1, 0, (0, 0, 0, 0), 0, 0, []),
  (15, .getfield 10, 3, 0, (7, 1064, 0, 1), 0, 0, []),
  (18, .getfield 84, 3, 0, (1, 586, 1, 1), 0, 0, []),
  (21, .iload_n 2, 1, 0, (2, 0, 0, 0), 0, 0, []),
  (22, .invokevirtual 80, 3, 0, (21, 1101, 2, 7), 0, 0, []),
  (25, .ifCond .ne 7, 3, 0, (32, 0, 0, 0), 0, 0, []),
  (28, .ldc2_w 161, 3, 0, (0, 1644, 0, 0), 0, (-2000000000000000000), []),
  (31, .lreturn, 1, 0, (0, 0, 0, 0), 0, 0, []),
  (32, .aload_n 0, 1, 0, (0, 0, 0, 0), 0, 0, []),
  (33, .getfield 25, 3, 0, (7, 1066, 2, 1), 0, 0, []),
  (36, .iload_n 1, 1, 0, (1, 0, 0, 0), 0, 0, []),
  (37, .iload_n 2, 1, 0, (2, 0, 0, 0), 0, 0, []),
  (38, .invokevirtual 163, 3, 0, (51, 1645, 3, 5), 0, 0, []),
  (41, .lstore_n 3, 1, 0, (3, 0, 0, 0), 0, 0, []),
  (42, .aload_n 0, 1, 0, (0, 0, 0, 0), 0, 0, []),
  (43, .getfield 25, 3, 0, (7, 1066, 2, 1), 0, 0, []),
  (46, .invokevirtual 167, 3, 0, (59, 1646, 1, 5), 0, 0, []),
  (49, .ifCond .eq 9, 3, 0, (58, 0, 0, 0), 0, 0, []),
  (52, .ldc2_w 170, 3, 0, (0, 1647, 0, 0), 0, (-3000000000000000000), []),
  (55, .goto 4, 3, 0, (59, 0, 0, 0), 0, 0, []),
  (58, .lload_n 3, 1, 0, (3, 0, 0, 0), 0, 0, []),
  (59, .lreturn, 1, 0, (0, 0, 0, 0), 0, 0, [])]
def hk_m75 : hk_Q := (⟨"HullKeepers", "tells", "(II)J"⟩, prog_1_method_24_code, 5, (some .long), (3, 0, 0, 0, 0, 0), hk_c75)
def hk_c76 : List hk_E := [(0, .aload_n 0, 1, 0, (0, 0, 0, 0), 0, 0, []),
  (1, .getfield 10, 3, 0, (7, 1064, 0, 1), 0, 0, []),
  (4, .getfield 62, 3, 0, (1, 584, 0, 1), 0, 0, []),
  (7, .iload_n 1, 1, 0, (1, 0, 0, 0), 0, 0, []),
  (8, .invokevirtual 80, 3, 0, (21, 1101, 2, 7), 0, 0, []),
  (11, .ifCond .eq 22, 3, 0, (33, 0, 0, 0), 0, 0, []),
  (14, .iload_n 2, 1, 0, (2, 0, 0, 0), 0, 0, []),
  (15, .iconst (-1), 1, 0, (0, 0, 0, 0), (-1), 0, []),
  (16, .if_icmp .eq 20, 3, 0, (36, 0, 0, 0), 0, 0, []),
  (19, .aload_n 0, 1, 0, (0, 0, 0, 0), 0, 0, []),
  (20, .getfield 10, 3, 0, (7, 1064, 0, 1), 0, 0, []),
  (23, .getfield 155, 3, 0, (1, 594, 4, 1), 0, 0, []),
  (26, .iload_n 2, 1, 0, (2, 0, 0, 0), 0, 0, []),
  (27, .invokevirtual 80, 3, 0, (21, 1101, 2, 7), 0, 0, []),
  (30, .ifCond .ne 6, 3, 0, (36, 0, 0, 0), 0, 0, []),
  (33, .bipush (-10), 2, 0, (0, 0, 0, 0), (-10), 0, []),
  (35, .ireturn, 1, 0, (0, 0, 0, 0), 0, 0, []),
  (36, .aload_n 0, 1, 0, (0, 0, 0, 0), 0, 0, []),
  (37, .getfield 10, 3, 0, (7, 1064, 0, 1), 0, 0, []),
  (40, .getfield 62, 3, 0, (1, 584, 0, 1), 0, 0, []),
  (43, .iload_n 1, 1, 0, (1, 0, 0, 0), 0, 0, []),
  (44, .bipush 8, 2, 0, (0, 0, 0, 0), 8, 0, []),
  (46, .iload_n 2, 1, 0, (2, 0, 0, 0), 0, 0, []),
  (47, .invokevirtual 110, 3, 0, (30, 1140, 4, 7), 0, 0, []),
  (50, .ireturn, 1, 0, (0, 0, 0, 0), 0, 0, [])]
def hk_m76 : hk_Q := (⟨"HullKeepers", "charter", "(II)I"⟩, prog_1_method_25_code, 3, (some .int), (3, 0, 0, 0, 0, 0), hk_c76)
def hk_c77 : List hk_E := [(0, .aload_n 0, 1, 0, (0, 0, 0, 0), 0, 0, []),
  (1, .getfield 10, 3, 0, (7, 1064, 0, 1), 0, 0, []),
  (4, .getfield 62, 3, 0, (1, 584, 0, 1), 0, 0, []),
  (7, .iload_n 1, 1, 0, (1, 0, 0, 0), 0, 0, []),
  (8, .invokevirtual 80, 3, 0, (21, 1101, 2, 7), 0, 0, []),
  (11, .ifCond .eq 37, 3, 0, (48, 0, 0, 0), 0, 0, []),
  (14, .aload_n 0, 1, 0, (0, 0, 0, 0), 0, 0, []),
  (15, .getfield 10, 3, 0, (7, 1064, 0, 1), 0, 0, []),
  (18, .getfield 155, 3, 0, (1, 594, 4, 1), 0, 0, []),
  (21, .iload_n 2, 1, 0, (2, 0, 0, 0), 0, 0, []),
  (22, .invokevirtual 80, 3, 0, (21, 1101, 2, 7), 0, 0, []),
  (25, .ifCond .eq 23, 3, 0, (48, 0, 0, 0), 0, 0, []),
  (28, .aload_n 0, 1, 0, (0, 0, 0, 0), 0, 0, []),
  (29, .getfield 10, 3, 0, (7, 1064, 0, 1), 0, 0, []),
  (32, .getfield 155, 3, 0, (1, 594, 4, 1), 0, 0, []),
  (35, .iload_n 3, 1, 0, (3, 0, 0, 0), 0, 0, []),
  (36, .invokevirtual 80, 3, 0, (21, 1101, 2, 7), 0, 0, []),
  (39, .ifCond .eq 9, 3, 0, (48, 0, 0, 0), 0, 0, []),
  (42, .iload 4, 2, 0, (4, 0, 0, 0), 0, 0, []),
  (44, .iconst (-1), 1, 0, (0, 0, 0, 0), (-1), 0, []),
  (45, .if_icmp .ge 6, 3, 0, (51, 0, 0, 0), 0, 0, []),
  (48, .bipush (-2), 2, 0, (0, 0, 0, 0), (-2), 0, []),
  (50, .ireturn, 1, 0, (0, 0, 0, 0), 0, 0, []),
  (51, .iconst 0, 1, 0, (0, 0, 0, 0), 0, 0, []),
  (52, .istore 5, 2, 0, (5, 0, 0, 0), 0, 0, []),
  (54, .iconst 0, 1, 0, (0, 0, 0, 0), 0, 0, []),
  (55, .istore 6, 2, 0, (6, 0, 0, 0), 0, 0, []),
  (57, .iload 6, 2, 1, (6, 0, 0, 0), 0, 0, []),
  (59, .aload_n 0, 1, 0, (0, 0, 0, 0), 0, 0, []),
  (60, .getfield 10, 3, 0, (7, 1064, 0, 1), 0, 0, []),
  (63, .getfield 84, 3, 0, (1, 586, 1, 1), 0, 0, []),
  (66, .getfield 172, 3, 0, (6, 558, 3, 0), 0, 0, []),
  (69, .if_icmp .ge 62, 3, 0, (131, 0, 0, 0), 0, 0, []),
  (72, .aload_n 0, 1, 0, (0, 0, 0, 0), 0, 0, []),
  (73, .getfield 10, 3, 0, (7, 1064, 0, 1), 0, 0, []),
  (76, .getfield 84, 3, 0, (1, 586, 1, 1), 0, 0, []),
  (79, .iload 6, 2, 0, (6, 0, 0, 0), 0, 0, []),
  (81, .iconst 0, 1, 0, (0, 0, 0, 0), 0, 0, []),
  (82, .invokevirtual 87, 3, 0, (23, 1109, 3, 7), 0, 0, []),
  (85, .iload_n 1, 1, 0, (1, 0, 0, 0), 0, 0, []),
  (86, .if_icmp .ne 39, 3, 0, (125, 0, 0, 0), 0, 0, []),
  (89, .aload_n 0, 1, 0, (0, 0, 0, 0), 0, 0, []),
  (90, .getfield 25, 3, 0, (7, 1066, 2, 1), 0, 0, []),
  (93, .iload_n 2, 1, 0, (2, 0, 0, 0), 0, 0, []),
  (94, .iload 6, 2, 0, (6, 0, 0, 0), 0, 0, []),
  (96, .invokevirtual 133, 3, 0, (50, 1228, 3, 5), 0, 0, []),
  (99, .aload_n 0, 1, 0, (0, 0, 0, 0), 0, 0, []),
  (100, .getfield 25, 3, 0, (7, 1066, 2, 1), 0, 0, []),
  (103, .iload_n 3, 1, 0, (3, 0, 0, 0), 0, 0, []),
  (104, .iload 6, 2, 0, (6, 0, 0, 0), 0, 0, []),
  (106, .invokevirtual 133, 3, 0, (50, 1228, 3, 5), 0, 0, []),
  (109, .if_icmp .eq 16, 3, 0, (125, 0, 0, 0), 0, 0, []),
  (112, .iload 5, 2, 0, (5, 0, 0, 0), 0, 0, []),
  (114, .iload 4, 2, 0, (4, 0, 0, 0), 0, 0, []),
  (116, .if_icmp .ne 6, 3, 0, (122, 0, 0, 0), 0, 0, []),
  (119, .iload 6, 2, 0, (6, 0, 0, 0), 0, 0, []),
  (121, .ireturn, 1, 0, (0, 0, 0, 0), 0, 0, []),
  (122, .iinc 5 1, 3, 0, (5, 0, 0, 0), 1, 0, []),
  (125, .iinc 6 1, 3, 0, (6, 0, 0, 0), 1, 0, []),
  (128, .goto (-71), 3, 0, (57, 0, 0, 0), 0, 0, []),
  (131, .iload 4, 2, 0, (4, 0, 0, 0), 0, 0, []),
  (133, .iconst (-1), 1, 0, (0, 0, 0, 0), (-1), 0, []),
  (134, .if_icmp .ne 8, 3, 0, (142, 0, 0, 0), 0, 0, []),
  (137, .iload 5, 2, 0, (5, 0, 0, 0), 0, 0, []),
  (139, .goto 4, 3, 0, (143, 0, 0, 0), 0, 0, []),
  (142, .iconst (-1), 1, 0, (0, 0, 0, 0), (-1), 0, []),
  (143, .ireturn, 1, 0, (0, 0, 0, 0), 0, 0, [])]
def hk_m77 : hk_Q := (⟨"HullKeepers", "unlike", "(IIII)I"⟩, prog_1_method_26_code, 7, (some .int), (5, 0, 0, 0, 0, 0), hk_c77)
def hk_c78 : List hk_E := [(0, .iload_n 1, 1, 0, (1, 0, 0, 0), 0, 0, []),
  (1, .iconst 0, 1, 0, (0, 0, 0, 0), 0, 0, []),
  (2, .bipush 10, 2, 0, (0, 0, 0, 0), 10, 0, []),
  (4, .invokestatic 57, 3, 0, (19, 1090, 3, 0), 0, 0, []),
  (7, .ifCond .eq 24, 3, 0, (31, 0, 0, 0), 0, 0, []),
  (10, .iload_n 2, 1, 0, (2, 0, 0, 0), 0, 0, []),
  (11, .iconst 1, 1, 0, (0, 0, 0, 0), 1, 0, []),
  (12, .bipush 10, 2, 0, (0, 0, 0, 0), 10, 0, []),
  (14, .invokestatic 57, 3, 0, (19, 1090, 3, 0), 0, 0, []),
  (17, .ifCond .eq 14, 3, 0, (31, 0, 0, 0), 0, 0, []),
  (20, .iload_n 3, 1, 0, (3, 0, 0, 0), 0, 0, []),
  (21, .iconst 0, 1, 0, (0, 0, 0, 0), 0, 0, []),
  (22, .sipush 1000, 3, 0, (0, 0, 0, 0), 1000, 0, []),
  (25, .invokestatic 57, 3, 0, (19, 1090, 3, 0), 0, 0, []),
  (28, .ifCond .ne 6, 3, 0, (34, 0, 0, 0), 0, 0, []),
  (31, .bipush (-2), 2, 0, (0, 0, 0, 0), (-2), 0, []),
  (33, .ireturn, 1, 0, (0, 0, 0, 0), 0, 0, []),
  (34, .aload_n 0, 1, 0, (0, 0, 0, 0), 0, 0, []),
  (35, .getfield 10, 3, 0, (7, 1064, 0, 1), 0, 0, []),
  (38, .getfield 175, 3, 0, (1, 597, 5, 1), 0, 0, []),
  (41, .invokevirtual 66, 3, 0, (11, 1094, 1, 7), 0, 0, []),
  (44, .ifCond .eq 6, 3, 0, (50, 0, 0, 0), 0, 0, []),
  (47, .bipush (-4), 2, 0, (0, 0, 0, 0), (-4), 0, []),
  (49, .ireturn, 1, 0, (0, 0, 0, 0), 0, 0, []),
  (50, .aload_n 0, 1, 0, (0, 0, 0, 0), 0, 0, []),
  (51, .getfield 39, 3, 0, (7, 1068, 4, 1), 0, 0, []),
  (54, .invokevirtual 178, 3, 0, (86, 1660, 1, 4), 0, 0, []),
  (57, .aload_n 0, 1, 0, (0, 0, 0, 0), 0, 0, []),
  (58, .getfield 10, 3, 0, (7, 1064, 0, 1), 0, 0, []),
  (61, .getfield 175, 3, 0, (1, 597, 5, 1), 0, 0, []),
  (64, .iload_n 1, 1, 0, (1, 0, 0, 0), 0, 0, []),
  (65, .iload_n 2, 1, 0, (2, 0, 0, 0), 0, 0, []),
  (66, .iload_n 3, 1, 0, (3, 0, 0, 0), 0, 0, []),
  (67, .iconst 0, 1, 0, (0, 0, 0, 0), 0, 0, []),
  (68, .iconst 0, 1, 0, (0, 0, 0, 0), 0, 0, []),
  (69, .invokevirtual 72, 3, 0, (10, 1095, 6, 7), 0, 0, []),
  (72, .ireturn, 1, 0, (0, 0, 0, 0), 0, 0, [])]
def hk_m78 : hk_Q := (⟨"HullKeepers", "hull", "(III)I"⟩, prog_1_method_27_code, 4, (some .int), (4, 0, 0, 0, 0, 0), hk_c78)
def hk_c79 : List hk_E := [(0, .aload_n 0, 1, 0, (0, 0, 0, 0), 0, 0, []),
  (1, .iconst 0, 1, 0, (0, 0, 0, 0), 0, 0, []),
  (2, .putfield 34, 3, 0, (3, 730, 11, 2), 0, 0, []),
  (5, .return_, 1, 0, (0, 0, 0, 0), 0, 0, [])]
def hk_m79 : hk_Q := (⟨"HullKeepers$Planner", "forget", "()V"⟩, prog_5_method_2_code, 1, none, (1, 0, 0, 0, 0, 0), hk_c79)
def hk_c80 : List hk_E := [(0, .iload_n 1, 1, 0, (1, 0, 0, 0), 0, 0, []),
  (1, .iconst 0, 1, 0, (0, 0, 0, 0), 0, 0, []),
  (2, .iconst 3, 1, 0, (0, 0, 0, 0), 3, 0, []),
  (3, .invokestatic 57, 3, 0, (19, 1090, 3, 0), 0, 0, []),
  (6, .ifCond .eq 14, 3, 0, (20, 0, 0, 0), 0, 0, []),
  (9, .iload_n 2, 1, 0, (2, 0, 0, 0), 0, 0, []),
  (10, .iconst 0, 1, 0, (0, 0, 0, 0), 0, 0, []),
  (11, .sipush 1000, 3, 0, (0, 0, 0, 0), 1000, 0, []),
  (14, .invokestatic 57, 3, 0, (19, 1090, 3, 0), 0, 0, []),
  (17, .ifCond .ne 6, 3, 0, (23, 0, 0, 0), 0, 0, []),
  (20, .bipush (-2), 2, 0, (0, 0, 0, 0), (-2), 0, []),
  (22, .ireturn, 1, 0, (0, 0, 0, 0), 0, 0, []),
  (23, .aload_n 0, 1, 0, (0, 0, 0, 0), 0, 0, []),
  (24, .getfield 39, 3, 0, (7, 1068, 4, 1), 0, 0, []),
  (27, .invokevirtual 178, 3, 0, (86, 1660, 1, 4), 0, 0, []),
  (30, .aload_n 0, 1, 0, (0, 0, 0, 0), 0, 0, []),
  (31, .getfield 10, 3, 0, (7, 1064, 0, 1), 0, 0, []),
  (34, .iload_n 1, 1, 0, (1, 0, 0, 0), 0, 0, []),
  (35, .putfield 181, 3, 0, (1, 624, 15, 0), 0, 0, []),
  (38, .aload_n 0, 1, 0, (0, 0, 0, 0), 0, 0, []),
  (39, .getfield 10, 3, 0, (7, 1064, 0, 1), 0, 0, []),
  (42, .iload_n 2, 1, 0, (2, 0, 0, 0), 0, 0, []),
  (43, .putfield 184, 3, 0, (1, 627, 16, 0), 0, 0, []),
  (46, .iconst 1, 1, 0, (0, 0, 0, 0), 1, 0, []),
  (47, .ireturn, 1, 0, (0, 0, 0, 0), 0, 0, [])]
def hk_m80 : hk_Q := (⟨"HullKeepers", "docks", "(II)I"⟩, prog_1_method_28_code, 3, (some .int), (3, 0, 0, 0, 0, 0), hk_c80)
def hk_c81 : List hk_E := [(0, .iload_n 1, 1, 0, (1, 0, 0, 0), 0, 0, []),
  (1, .iconst (-1), 1, 0, (0, 0, 0, 0), (-1), 0, []),
  (2, .bipush 11, 2, 0, (0, 0, 0, 0), 11, 0, []),
  (4, .invokestatic 57, 3, 0, (19, 1090, 3, 0), 0, 0, []),
  (7, .ifCond .ne 6, 3, 0, (13, 0, 0, 0), 0, 0, []),
  (10, .bipush (-2), 2, 0, (0, 0, 0, 0), (-2), 0, []),
  (12, .ireturn, 1, 0, (0, 0, 0, 0), 0, 0, []),
  (13, .aload_n 0, 1, 0, (0, 0, 0, 0), 0, 0, []),
  (14, .getfield 39, 3, 0, (7, 1068, 4, 1), 0, 0, []),
  (17, .invokevirtual 187, 3, 0, (89, 1672, 1, 4), 0, 0, []),
  (20, .aload_n 0, 1, 0, (0, 0, 0, 0), 0, 0, []),
  (21, .getfield 39, 3, 0, (7, 1068, 4, 1), 0, 0, []),
  (24, .iload_n 1, 1, 0, (1, 0, 0, 0), 0, 0, []),
  (25, .invokevirtual 190, 3, 0, (105, 1740, 2, 4), 0, 0, []),
  (28, .ireturn, 1, 0, (0, 0, 0, 0), 0, 0, [])]
def hk_m81 : hk_Q := (⟨"HullKeepers", "plan", "(I)I"⟩, prog_1_method_29_code, 2, (some .int), (2, 0, 0, 0, 0, 0), hk_c81)
def hk_c82 : List hk_E := [(0, .aload_n 0, 1, 0, (0, 0, 0, 0), 0, 0, []),
  (1, .getfield 34, 3, 0, (3, 730, 11, 2), 0, 0, []),
  (4, .ifCond .eq 4, 3, 0, (8, 0, 0, 0), 0, 0, []),
  (7, .return_, 1, 0, (0, 0, 0, 0), 0, 0, []),
  (8, .aload_n 0, 1, 0, (0, 0, 0, 0), 0, 0, []),
  (9, .iconst 1, 1, 0, (0, 0, 0, 0), 1, 0, []),
  (10, .putfield 34, 3, 0, (3, 730, 11, 2), 0, 0, []),
  (13, .aload_n 0, 1, 0, (0, 0, 0, 0), 0, 0, []),
  (14, .invokevirtual 48, 3, 0, (90, 1676, 1, 4), 0, 0, []),
  (17, .aload_n 0, 1, 0, (0, 0, 0, 0), 0, 0, []),
  (18, .getfield 27, 3, 0, (3, 725, 6, 1), 0, 0, []),
  (21, .arraylength, 1, 0, (0, 0, 0, 0), 0, 0, []),
  (22, .ifCond .ne 11, 3, 0, (33, 0, 0, 0), 0, 0, []),
  (25, .aload_n 0, 1, 0, (0, 0, 0, 0), 0, 0, []),
  (26, .ldc 51, 2, 0, (0, 1685, 0, 0), 100000, 0, []),
  (28, .newarray .int, 2, 0, (0, 0, 0, 0), 0, 0, []),
  (30, .putfield 27, 3, 0, (3, 725, 6, 1), 0, 0, []),
  (33, .aload_n 0, 1, 0, (0, 0, 0, 0), 0, 0, []),
  (34, .getfield 27, 3, 0, (3, 725, 6, 1), 0, 0, []),
  (37, .iconst 0, 1, 0, (0, 0, 0, 0), 0, 0, []),
  (38, .iconst 0, 1, 0, (0, 0, 0, 0), 0, 0, []),
  (39, .bipush 10, 2, 0, (0, 0, 0, 0), 10, 0, []),
  (41, .aload_n 0, 1, 0, (0, 0, 0, 0), 0, 0, []),
  (42, .getfield 52, 3, 0, (3, 726, 7, 0), 0, 0, []),
  (45, .imul, 1, 0, (0, 0, 0, 0), 0, 0, []),
  (46, .aload_n 0, 1, 0, (0, 0, 0, 0), 0, 0, []),
  (47, .getfield 27, 3, 0, (3, 725, 6, 1), 0, 0, []),
  (50, .arraylength, 1, 0, (0, 0, 0, 0), 0, 0, []),
  (51, .invokestatic 55, 3, 0, (4, 1686, 0, 0), 0, 0, []),
  (54, .invokestatic 61, 3, 0, (3, 1687, 0, 0), 0, 0, []),
  (57, .iconst (-1), 1, 0, (0, 0, 0, 0), (-1), 0, []),
  (58, .invokestatic 64, 3, 0, (92, 1688, 4, 0), 0, 0, []),
  (61, .iconst 0, 1, 0, (0, 0, 0, 0), 0, 0, []),
  (62, .istore_n 1, 1, 0, (1, 0, 0, 0), 0, 0, []),
  (63, .iconst 0, 1, 0, (0, 0, 0, 0), 0, 0, []),
  (64, .istore_n 2, 1, 0, (2, 0, 0, 0), 0, 0, []),
  (65, .iload_n 2, 1, 1, (2, 0, 0, 0), 0, 0, []),
  (66, .bipush 10, 2, 0, (0, 0, 0, 0), 10, 0, []),
  (68, .if_icmp .ge 35, 3, 0, (103, 0, 0, 0), 0, 0, []),
  (71, .aload_n 0, 1, 0, (0, 0, 0, 0), 0, 0, []),
  (72, .getfield 24, 3, 0, (3, 723, 4, 1), 0, 0, []),
  (75, .iload_n 2, 1, 0, (2, 0, 0, 0), 0, 0, []),
  (76, .aload_n 0, 1, 0, (0, 0, 0, 0), 0, 0, []),
  (77, .iload_n 2, 1, 0, (2, 0, 0, 0), 0, 0, []),
  (78, .iload_n 1, 1, 0, (1, 0, 0, 0), 0, 0, []),
  (79, .invokevirtual 70, 3, 0, (94, 1694, 3, 4), 0, 0, []),
  (82, .iastore, 1, 0, (0, 0, 0, 0), 0, 0, []),
  (83, .iload_n 1, 1, 0, (1, 0, 0, 0), 0, 0, []),
  (84, .aload_n 0, 1, 0, (0, 0, 0, 0), 0, 0, []),
  (85, .getfield 18, 3, 0, (3, 721, 2, 1), 0, 0, []),
  (88, .aload_n 0, 1, 0, (0, 0, 0, 0), 0, 0, []),
  (89, .getfield 24, 3, 0, (3, 723, 4, 1), 0, 0, []),
  (92, .iload_n 2, 1, 0, (2, 0, 0, 0), 0, 0, []),
  (93, .iaload, 1, 0, (0, 0, 0, 0), 0, 0, []),
  (94, .iaload, 1, 0, (0, 0, 0, 0), 0, 0, []),
  (95, .iadd, 1, 0, (0, 0, 0, 0), 0, 0, []),
  (96, .istore_n 1, 1, 0, (1, 0, 0, 0), 0, 0, []),
  (97, .iinc 2 1, 3, 0, (2, 0, 0, 0), 1, 0, []),
  (100, .goto (-35), 3, 0, (65, 0, 0, 0), 0, 0, []),
  (103, .aload_n 0, 1, 0, (0, 0, 0, 0), 0, 0, []),
  (104, .iload_n 1, 1, 0, (1, 0, 0, 0), 0, 0, []),
  (105, .invokevirtual 73, 3, 0, (104, 1736, 2, 4), 0, 0, []),
  (108, .return_, 1, 0, (0, 0, 0, 0), 0, 0, [])]
def hk_m82 : hk_Q := (⟨"HullKeepers$Planner", "make", "()V"⟩, prog_5_method_4_code, 3, none, (1, 0, 0, 0, 0, 0), hk_c82)
def hk_c83 : List hk_E := [(0, .aload_n 0, 1, 0, (0, 0, 0, 0), 0, 0, []),
  (1, .iconst 1, 1, 0, (0, 0, 0, 0), 1, 0, []),
  (2, .putfield 52, 3, 0, (3, 726, 7, 0), 0, 0, []),
  (5, .iconst 0, 1, 0, (0, 0, 0, 0), 0, 0, []),
  (6, .istore_n 1, 1, 0, (1, 0, 0, 0), 0, 0, []),
  (7, .iload_n 1, 1, 1, (1, 0, 0, 0), 0, 0, []),
  (8, .iconst 4, 1, 0, (0, 0, 0, 0), 4, 0, []),
  (9, .if_icmp .ge 65, 3, 0, (74, 0, 0, 0), 0, 0, []),
  (12, .aload_n 0, 1, 0, (0, 0, 0, 0), 0, 0, []),
  (13, .getfield 9, 3, 0, (3, 719, 0, 1), 0, 0, []),
  (16, .iload_n 1, 1, 0, (1, 0, 0, 0), 0, 0, []),
  (17, .iload_n 1, 1, 0, (1, 0, 0, 0), 0, 0, []),
  (18, .aload_n 0, 1, 0, (0, 0, 0, 0), 0, 0, []),
  (19, .getfield 30, 3, 0, (3, 724, 5, 1), 0, 0, []),
  (22, .getfield 77, 3, 0, (1, 596, 5, 1), 0, 0, []),
  (25, .getfield 83, 3, 0, (6, 557, 3, 0), 0, 0, []),
  (28, .if_icmp .ge 11, 3, 0, (39, 0, 0, 0), 0, 0, []),
  (31, .aload_n 0, 1, 0, (0, 0, 0, 0), 0, 0, []),
  (32, .iload_n 1, 1, 0, (1, 0, 0, 0), 0, 0, []),
  (33, .invokevirtual 88, 3, 0, (91, 1680, 2, 4), 0, 0, []),
  (36, .goto 4, 3, 0, (40, 0, 0, 0), 0, 0, []),
  (39, .iconst 0, 1, 0, (0, 0, 0, 0), 0, 0, []),
  (40, .iastore, 1, 0, (0, 0, 0, 0), 0, 0, []),
  (41, .aload_n 0, 1, 0, (0, 0, 0, 0), 0, 0, []),
  (42, .getfield 15, 3, 0, (3, 720, 1, 1), 0, 0, []),
  (45, .iload_n 1, 1, 0, (1, 0, 0, 0), 0, 0, []),
  (46, .aload_n 0, 1, 0, (0, 0, 0, 0), 0, 0, []),
  (47, .getfield 52, 3, 0, (3, 726, 7, 0), 0, 0, []),
  (50, .iastore, 1, 0, (0, 0, 0, 0), 0, 0, []),
  (51, .aload_n 0, 1, 0, (0, 0, 0, 0), 0, 0, []),
  (52, .dup, 1, 0, (0, 0, 0, 0), 0, 0, []),
  (53, .getfield 52, 3, 0, (3, 726, 7, 0), 0, 0, []),
  (56, .aload_n 0, 1, 0, (0, 0, 0, 0), 0, 0, []),
  (57, .getfield 9, 3, 0, (3, 719, 0, 1), 0, 0, []),
  (60, .iload_n 1, 1, 0, (1, 0, 0, 0), 0, 0, []),
  (61, .iaload, 1, 0, (0, 0, 0, 0), 0, 0, []),
  (62, .iconst 1, 1, 0, (0, 0, 0, 0), 1, 0, []),
  (63, .iadd, 1, 0, (0, 0, 0, 0), 0, 0, []),
  (64, .imul, 1, 0, (0, 0, 0, 0), 0, 0, []),
  (65, .putfield 52, 3, 0, (3, 726, 7, 0), 0, 0, []),
  (68, .iinc 1 1, 3, 0, (1, 0, 0, 0), 1, 0, []),
  (71, .goto (-64), 3, 0, (7, 0, 0, 0), 0, 0, []),
  (74, .iconst 0, 1, 0, (0, 0, 0, 0), 0, 0, []),
  (75, .istore_n 1, 1, 0, (1, 0, 0, 0), 0, 0, []),
  (76, .iload_n 1, 1, 1, (1, 0, 0, 0), 0, 0, []),
  (77, .bipush 16, 2, 0, (0, 0, 0, 0), 16, 0, []),
  (79, .if_icmp .ge 81, 3, 0, (160, 0, 0, 0), 0, 0, []),
  (82, .aload_n 0, 1, 0, (0, 0, 0, 0), 0, 0, []),
  (83, .getfield 18, 3, 0, (3, 721, 2, 1), 0, 0, []),
  (86, .iload_n 1, 1, 0, (1, 0, 0, 0), 0, 0, []),
  (87, .iconst 0, 1, 0, (0, 0, 0, 0), 0, 0, []),
  (88, .iastore, 1, 0, (0, 0, 0, 0), 0, 0, []),
  (89, .aload_n 0, 1, 0, (0, 0, 0, 0), 0, 0, []),
  (90, .getfield 21, 3, 0, (3, 722, 3, 1), 0, 0, []),
  (93, .iload_n 1, 1, 0, (1, 0, 0, 0), 0, 0, []),
  (94, .iconst 0, 1, 0, (0, 0, 0, 0), 0, 0, []),
  (95, .iastore, 1, 0, (0, 0, 0, 0), 0, 0, []),
  (96, .iconst 0, 1, 0, (0, 0, 0, 0), 0, 0, []),
  (97, .istore_n 2, 1, 0, (2, 0, 0, 0), 0, 0, []),
  (98, .iload_n 2, 1, 1, (2, 0, 0, 0), 0, 0, []),
  (99, .iconst 4, 1, 0, (0, 0, 0, 0), 4, 0, []),
  (100, .if_icmp .ge 54, 3, 0, (154, 0, 0, 0), 0, 0, []),
  (103, .iload_n 1, 1, 0, (1, 0, 0, 0), 0, 0, []),
  (104, .iload_n 2, 1, 0, (2, 0, 0, 0), 0, 0, []),
  (105, .ishr, 1, 0, (0, 0, 0, 0), 0, 0, []),
  (106, .iconst 1, 1, 0, (0, 0, 0, 0), 1, 0, []),
  (107, .iand, 1, 0, (0, 0, 0, 0), 0, 0, []),
  (108, .iconst 1, 1, 0, (0, 0, 0, 0), 1, 0, []),
  (109, .if_icmp .ne 39, 3, 0, (148, 0, 0, 0), 0, 0, []),
  (112, .aload_n 0, 1, 0, (0, 0, 0, 0), 0, 0, []),
  (113, .getfield 18, 3, 0, (3, 721, 2, 1), 0, 0, []),
  (116, .iload_n 1, 1, 0, (1, 0, 0, 0), 0, 0, []),
  (117, .dup2, 1, 0, (0, 0, 0, 0), 0, 0, []),
  (118, .iaload, 1, 0, (0, 0, 0, 0), 0, 0, []),
  (119, .aload_n 0, 1, 0, (0, 0, 0, 0), 0, 0, []),
  (120, .getfield 15, 3, 0, (3, 720, 1, 1), 0, 0, []),
  (123, .iload_n 2, 1, 0, (2, 0, 0, 0), 0, 0, []),
  (124, .iaload, 1, 0, (0, 0, 0, 0), 0, 0, []),
  (125, .iadd, 1, 0, (0, 0, 0, 0), 0, 0, []),
  (126, .iastore, 1, 0, (0, 0, 0, 0), 0, 0, []),
  (127, .aload_n 0, 1, 0, (0, 0, 0, 0), 0, 0, []),
  (128, .getfield 21, 3, 0, (3, 722, 3, 1), 0, 0, []),
  (131, .iload_n 1, 1, 0, (1, 0, 0, 0), 0, 0, []),
  (132, .dup2, 1, 0, (0, 0, 0, 0), 0, 0, []),
  (133, .iaload, 1, 0, (0, 0, 0, 0), 0, 0, []),
  (134, .aload_n 0, 1, 0, (0, 0, 0, 0), 0, 0, []),
  (135, .getfield 30, 3, 0, (3, 724, 5, 1), 0, 0, []),
  (138, .getfield 77, 3, 0, (1, 596, 5, 1), 0, 0, []),
  (141, .iload_n 2, 1, 0, (2, 0, 0, 0), 0, 0, []),
  (142, .iconst 2, 1, 0, (0, 0, 0, 0), 2, 0, []),
  (143, .invokevirtual 92, 3, 0, (23, 1684, 3, 7), 0, 0, []),
  (146, .iadd, 1, 0, (0, 0, 0, 0), 0, 0, []),
  (147, .iastore, 1, 0, (0, 0, 0, 0), 0, 0, []),
  (148, .iinc 2 1, 3, 0, (2, 0, 0, 0), 1, 0, []),
  (151, .goto (-53), 3, 0, (98, 0, 0, 0), 0, 0, []),
  (154, .iinc 1 1, 3, 0, (1, 0, 0, 0), 1, 0, []),
  (157, .goto (-81), 3, 0, (76, 0, 0, 0), 0, 0, []),
  (160, .return_, 1, 0, (0, 0, 0, 0), 0, 0, [])]
def hk_m83 : hk_Q := (⟨"HullKeepers$Planner", "layOut", "()V"⟩, prog_5_method_5_code, 3, none, (1, 0, 0, 0, 0, 0), hk_c83)
def hk_c84 : List hk_E := [(0, .aload_n 0, 1, 0, (0, 0, 0, 0), 0, 0, []),
  (1, .getfield 30, 3, 0, (3, 724, 5, 1), 0, 0, []),
  (4, .getfield 77, 3, 0, (1, 596, 5, 1), 0, 0, []),
  (7, .iload_n 1, 1, 0, (1, 0, 0, 0), 0, 0, []),
  (8, .iconst 0, 1, 0, (0, 0, 0, 0), 0, 0, []),
  (9, .invokevirtual 92, 3, 0, (23, 1684, 3, 7), 0, 0, []),
  (12, .istore_n 2, 1, 0, (2, 0, 0, 0), 0, 0, []),
  (13, .aload_n 0, 1, 0, (0, 0, 0, 0), 0, 0, []),
  (14, .getfield 30, 3, 0, (3, 724, 5, 1), 0, 0, []),
  (17, .getfield 77, 3, 0, (1, 596, 5, 1), 0, 0, []),
  (20, .iload_n 1, 1, 0, (1, 0, 0, 0), 0, 0, []),
  (21, .iconst 1, 1, 0, (0, 0, 0, 0), 1, 0, []),
  (22, .invokevirtual 92, 3, 0, (23, 1684, 3, 7), 0, 0, []),
  (25, .istore_n 3, 1, 0, (3, 0, 0, 0), 0, 0, []),
  (26, .iload_n 2, 1, 0, (2, 0, 0, 0), 0, 0, []),
  (27, .ifCond .le 13, 3, 0, (40, 0, 0, 0), 0, 0, []),
  (30, .iload_n 2, 1, 0, (2, 0, 0, 0), 0, 0, []),
  (31, .bipush 10, 2, 0, (0, 0, 0, 0), 10, 0, []),
  (33, .if_icmp .ge 7, 3, 0, (40, 0, 0, 0), 0, 0, []),
  (36, .iload_n 3, 1, 0, (3, 0, 0, 0), 0, 0, []),
  (37, .ifCond .gt 5, 3, 0, (42, 0, 0, 0), 0, 0, []),
  (40, .iconst 0, 1, 0, (0, 0, 0, 0), 0, 0, []),
  (41, .ireturn, 1, 0, (0, 0, 0, 0), 0, 0, []),
  (42, .bipush 10, 2, 0, (0, 0, 0, 0), 10, 0, []),
  (44, .iload_n 2, 1, 0, (2, 0, 0, 0), 0, 0, []),
  (45, .isub, 1, 0, (0, 0, 0, 0), 0, 0, []),
  (46, .iload_n 3, 1, 0, (3, 0, 0, 0), 0, 0, []),
  (47, .iadd, 1, 0, (0, 0, 0, 0), 0, 0, []),
  (48, .iconst 1, 1, 0, (0, 0, 0, 0), 1, 0, []),
  (49, .isub, 1, 0, (0, 0, 0, 0), 0, 0, []),
  (50, .iload_n 3, 1, 0, (3, 0, 0, 0), 0, 0, []),
  (51, .idiv, 1, 0, (0, 0, 0, 0), 0, 0, []),
  (52, .ireturn, 1, 0, (0, 0, 0, 0), 0, 0, [])]
def hk_m84 : hk_Q := (⟨"HullKeepers$Planner", "usefulDockings", "(I)I"⟩, prog_5_method_6_code, 4, (some .int), (2, 0, 0, 0, 0, 0), hk_c84)
def hk_c85 : List hk_E := [(0, .aload_n 0, 1, 0, (0, 0, 0, 0), 0, 0, []),
  (1, .arraylength, 1, 0, (0, 0, 0, 0), 0, 0, []),
  (2, .iload_n 1, 1, 0, (1, 0, 0, 0), 0, 0, []),
  (3, .iload_n 2, 1, 0, (2, 0, 0, 0), 0, 0, []),
  (4, .invokestatic 13, 3, 0, (93, 1691, 3, 0), 0, 0, []),
  (7, .iload_n 1, 1, 0, (1, 0, 0, 0), 0, 0, []),
  (8, .istore 4, 2, 0, (4, 0, 0, 0), 0, 0, []),
  (10, .iload 4, 2, 1, (4, 0, 0, 0), 0, 0, []),
  (12, .iload_n 2, 1, 0, (2, 0, 0, 0), 0, 0, []),
  (13, .if_icmp .ge 14, 3, 0, (27, 0, 0, 0), 0, 0, []),
  (16, .aload_n 0, 1, 0, (0, 0, 0, 0), 0, 0, []),
  (17, .iload 4, 2, 0, (4, 0, 0, 0), 0, 0, []),
  (19, .iload_n 3, 1, 0, (3, 0, 0, 0), 0, 0, []),
  (20, .iastore, 1, 0, (0, 0, 0, 0), 0, 0, []),
  (21, .iinc 4 1, 3, 0, (4, 0, 0, 0), 1, 0, []),
  (24, .goto (-14), 3, 0, (10, 0, 0, 0), 0, 0, []),
  (27, .return_, 1, 0, (0, 0, 0, 0), 0, 0, [])]
def hk_m85 : hk_Q := (⟨"java/util/Arrays", "fill", "([IIII)V"⟩, prog_14_method_104_code, 5, none, (4, 2, 0, 0, 0, 0), hk_c85)
def hk_c86 : List hk_E := [(0, .iload_n 1, 1, 0, (1, 0, 0, 0), 0, 0, []),
  (1, .iload_n 2, 1, 0, (2, 0, 0, 0), 0, 0, []),
  (2, .if_icmp .le 44, 3, 0, (46, 0, 0, 0), 0, 0, []),
  (5, .new 43, 3, 0, (999, 0, 0, 0), 0, 0, []),
  (8, .dup, 1, 0, (0, 0, 0, 0), 0, 0, []),
  (9, .new 45, 3, 0, (999, 0, 0, 0), 0, 0, []),
  (12, .dup, 1, 0, (0, 0, 0, 0), 0, 0, []),
  (13, .invokespecial 47, 3, 0, (0, 0, 0, 0), 0, 0, []),
  (16, .ldc 48, 2, 0, (999, 0, 0, 0), 0, 0, []),
  (18, .invokevirtual 50, 3, 0, (0, 0, 0, 0), 0, 0, []),
  (21, .iload_n 1, 1, 0, (1, 0, 0, 0), 0, 0, []),
  (22, .invokevirtual 54, 3, 0, (0, 0, 0, 0), 0, 0, []),
  (25, .ldc 57, 2, 0, (999, 0, 0, 0), 0, 0, []),
  (27, .invokevirtual 50, 3, 0, (0, 0, 0, 0), 0, 0, []),
  (30, .iload_n 2, 1, 0, (2, 0, 0, 0), 0, 0, []),
  (31, .invokevirtual 54, 3, 0, (0, 0, 0, 0), 0, 0, []),
  (34, .ldc 59, 2, 0, (999, 0, 0, 0), 0, 0, []),
  (36, .invokevirtual 50, 3, 0, (0, 0, 0, 0), 0, 0, []),
  (39, .invokevirtual 61, 3, 0, (0, 0, 0, 0), 0, 0, []),
  (42, .invokespecial 65, 3, 0, (0, 0, 0, 0), 0, 0, []),
  (45, .athrow, 1, 0, (0, 0, 0, 0), 0, 0, []),
  (46, .iload_n 1, 1, 0, (1, 0, 0, 0), 0, 0, []),
  (47, .ifCond .ge 12, 3, 0, (59, 0, 0, 0), 0, 0, []),
  (50, .new 68, 3, 0, (999, 0, 0, 0), 0, 0, []),
  (53, .dup, 1, 0, (0, 0, 0, 0), 0, 0, []),
  (54, .iload_n 1, 1, 0, (1, 0, 0, 0), 0, 0, []),
  (55, .invokespecial 70, 3, 0, (0, 0, 0, 0), 0, 0, []),
  (58, .athrow, 1, 0, (0, 0, 0, 0), 0, 0, []),
  (59, .iload_n 2, 1, 0, (2, 0, 0, 0), 0, 0, []),
  (60, .iload_n 0, 1, 0, (0, 0, 0, 0), 0, 0, []),
  (61, .if_icmp .le 12, 3, 0, (73, 0, 0, 0), 0, 0, []),
  (64, .new 68, 3, 0, (999, 0, 0, 0), 0, 0, []),
  (67, .dup, 1, 0, (0, 0, 0, 0), 0, 0, []),
  (68, .iload_n 2, 1, 0, (2, 0, 0, 0), 0, 0, []),
  (69, .invokespecial 70, 3, 0, (0, 0, 0, 0), 0, 0, []),
  (72, .athrow, 1, 0, (0, 0, 0, 0), 0, 0, []),
  (73, .return_, 1, 0, (0, 0, 0, 0), 0, 0, [])]
def hk_m86 : hk_Q := (⟨"java/util/Arrays", "rangeCheck", "(III)V"⟩, prog_14_method_30_code, 3, none, (3, 2, 0, 0, 0, 0), hk_c86)
def hk_c87 : List hk_E := [(0, .aload_n 0, 1, 0, (0, 0, 0, 0), 0, 0, []),
  (1, .iload_n 1, 1, 0, (1, 0, 0, 0), 0, 0, []),
  (2, .iload_n 2, 1, 0, (2, 0, 0, 0), 0, 0, []),
  (3, .invokevirtual 128, 3, 0, (95, 1698, 3, 4), 0, 0, []),
  (6, .istore_n 3, 1, 0, (3, 0, 0, 0), 0, 0, []),
  (7, .aload_n 0, 1, 0, (0, 0, 0, 0), 0, 0, []),
  (8, .iload_n 1, 1, 0, (1, 0, 0, 0), 0, 0, []),
  (9, .iload_n 2, 1, 0, (2, 0, 0, 0), 0, 0, []),
  (10, .invokevirtual 118, 3, 0, (100, 1718, 3, 4), 0, 0, []),
  (13, .istore 4, 2, 0, (4, 0, 0, 0), 0, 0, []),
  (15, .aload_n 0, 1, 0, (0, 0, 0, 0), 0, 0, []),
  (16, .iload_n 1, 1, 0, (1, 0, 0, 0), 0, 0, []),
  (17, .iload_n 2, 1, 0, (2, 0, 0, 0), 0, 0, []),
  (18, .invokevirtual 121, 3, 0, (101, 1722, 3, 4), 0, 0, []),
  (21, .istore 5, 2, 0, (5, 0, 0, 0), 0, 0, []),
  (23, .iconst 0, 1, 0, (0, 0, 0, 0), 0, 0, []),
  (24, .istore 6, 2, 0, (6, 0, 0, 0), 0, 0, []),
  (26, .iload 6, 2, 1, (6, 0, 0, 0), 0, 0, []),
  (28, .bipush 16, 2, 0, (0, 0, 0, 0), 16, 0, []),
  (30, .if_icmp .ge 45, 3, 0, (75, 0, 0, 0), 0, 0, []),
  (33, .aload_n 0, 1, 0, (0, 0, 0, 0), 0, 0, []),
  (34, .iload 6, 2, 0, (6, 0, 0, 0), 0, 0, []),
  (36, .iload 4, 2, 0, (4, 0, 0, 0), 0, 0, []),
  (38, .iload 5, 2, 0, (5, 0, 0, 0), 0, 0, []),
  (40, .invokevirtual 124, 3, 0, (102, 1726, 4, 4), 0, 0, []),
  (43, .ifCond .eq 26, 3, 0, (69, 0, 0, 0), 0, 0, []),
  (46, .aload_n 0, 1, 0, (0, 0, 0, 0), 0, 0, []),
  (47, .iload_n 1, 1, 0, (1, 0, 0, 0), 0, 0, []),
  (48, .iconst 1, 1, 0, (0, 0, 0, 0), 1, 0, []),
  (49, .iadd, 1, 0, (0, 0, 0, 0), 0, 0, []),
  (50, .iload_n 2, 1, 0, (2, 0, 0, 0), 0, 0, []),
  (51, .aload_n 0, 1, 0, (0, 0, 0, 0), 0, 0, []),
  (52, .getfield 18, 3, 0, (3, 721, 2, 1), 0, 0, []),
  (55, .iload 6, 2, 0, (6, 0, 0, 0), 0, 0, []),
  (57, .iaload, 1, 0, (0, 0, 0, 0), 0, 0, []),
  (58, .iadd, 1, 0, (0, 0, 0, 0), 0, 0, []),
  (59, .invokevirtual 128, 3, 0, (95, 1698, 3, 4), 0, 0, []),
  (62, .iload_n 3, 1, 0, (3, 0, 0, 0), 0, 0, []),
  (63, .if_icmp .ne 6, 3, 0, (69, 0, 0, 0), 0, 0, []),
  (66, .iload 6, 2, 0, (6, 0, 0, 0), 0, 0, []),
  (68, .ireturn, 1, 0, (0, 0, 0, 0), 0, 0, []),
  (69, .iinc 6 1, 3, 0, (6, 0, 0, 0), 1, 0, []),
  (72, .goto (-46), 3, 0, (26, 0, 0, 0), 0, 0, []),
  (75, .iconst 0, 1, 0, (0, 0, 0, 0), 0, 0, []),
  (76, .ireturn, 1, 0, (0, 0, 0, 0), 0, 0, [])]
def hk_m87 : hk_Q := (⟨"HullKeepers$Planner", "leastBest", "(II)I"⟩, prog_5_method_14_code, 7, (some .int), (3, 0, 0, 0, 0, 0), hk_c87)
def hk_c88 : List hk_E := [(0, .iload_n 1, 1, 0, (1, 0, 0, 0), 0, 0, []),
  (1, .bipush 10, 2, 0, (0, 0, 0, 0), 10, 0, []),
  (3, .if_icmp .lt 9, 3, 0, (12, 0, 0, 0), 0, 0, []),
  (6, .aload_n 0, 1, 0, (0, 0, 0, 0), 0, 0, []),
  (7, .iload_n 2, 1, 0, (2, 0, 0, 0), 0, 0, []),
  (8, .invokevirtual 112, 3, 0, (96, 1702, 2, 4), 0, 0, []),
  (11, .ireturn, 1, 0, (0, 0, 0, 0), 0, 0, []),
  (12, .iload_n 1, 1, 0, (1, 0, 0, 0), 0, 0, []),
  (13, .aload_n 0, 1, 0, (0, 0, 0, 0), 0, 0, []),
  (14, .getfield 52, 3, 0, (3, 726, 7, 0), 0, 0, []),
  (17, .imul, 1, 0, (0, 0, 0, 0), 0, 0, []),
  (18, .iload_n 2, 1, 0, (2, 0, 0, 0), 0, 0, []),
  (19, .iadd, 1, 0, (0, 0, 0, 0), 0, 0, []),
  (20, .istore_n 3, 1, 0, (3, 0, 0, 0), 0, 0, []),
  (21, .iload_n 3, 1, 0, (3, 0, 0, 0), 0, 0, []),
  (22, .ifCond .lt 12, 3, 0, (34, 0, 0, 0), 0, 0, []),
  (25, .iload_n 3, 1, 0, (3, 0, 0, 0), 0, 0, []),
  (26, .aload_n 0, 1, 0, (0, 0, 0, 0), 0, 0, []),
  (27, .getfield 27, 3, 0, (3, 725, 6, 1), 0, 0, []),
  (30, .arraylength, 1, 0, (0, 0, 0, 0), 0, 0, []),
  (31, .if_icmp .lt 5, 3, 0, (36, 0, 0, 0), 0, 0, []),
  (34, .iconst 0, 1, 0, (0, 0, 0, 0), 0, 0, []),
  (35, .ireturn, 1, 0, (0, 0, 0, 0), 0, 0, []),
  (36, .aload_n 0, 1, 0, (0, 0, 0, 0), 0, 0, []),
  (37, .getfield 27, 3, 0, (3, 725, 6, 1), 0, 0, []),
  (40, .iload_n 3, 1, 0, (3, 0, 0, 0), 0, 0, []),
  (41, .iaload, 1, 0, (0, 0, 0, 0), 0, 0, []),
  (42, .iconst (-1), 1, 0, (0, 0, 0, 0), (-1), 0, []),
  (43, .if_icmp .ne 15, 3, 0, (58, 0, 0, 0), 0, 0, []),
  (46, .aload_n 0, 1, 0, (0, 0, 0, 0), 0, 0, []),
  (47, .getfield 27, 3, 0, (3, 725, 6, 1), 0, 0, []),
  (50, .iload_n 3, 1, 0, (3, 0, 0, 0), 0, 0, []),
  (51, .aload_n 0, 1, 0, (0, 0, 0, 0), 0, 0, []),
  (52, .iload_n 1, 1, 0, (1, 0, 0, 0), 0, 0, []),
  (53, .iload_n 2, 1, 0, (2, 0, 0, 0), 0, 0, []),
  (54, .invokevirtual 115, 3, 0, (99, 1714, 3, 4), 0, 0, []),
  (57, .iastore, 1, 0, (0, 0, 0, 0), 0, 0, []),
  (58, .aload_n 0, 1, 0, (0, 0, 0, 0), 0, 0, []),
  (59, .getfield 27, 3, 0, (3, 725, 6, 1), 0, 0, []),
  (62, .iload_n 3, 1, 0, (3, 0, 0, 0), 0, 0, []),
  (63, .iaload, 1, 0, (0, 0, 0, 0), 0, 0, []),
  (64, .ireturn, 1, 0, (0, 0, 0, 0), 0, 0, [])]
def hk_m88 : hk_Q := (⟨"HullKeepers$Planner", "best", "(II)I"⟩, prog_5_method_12_code, 4, (some .int), (3, 0, 0, 0, 0, 0), hk_c88)
def hk_c89 : List hk_E := [(0, .iconst 0, 1, 0, (0, 0, 0, 0), 0, 0, []),
  (1, .istore_n 2, 1, 0, (2, 0, 0, 0), 0, 0, []),
  (2, .iconst 0, 1, 0, (0, 0, 0, 0), 0, 0, []),
  (3, .istore_n 3, 1, 0, (3, 0, 0, 0), 0, 0, []),
  (4, .iload_n 3, 1, 1, (3, 0, 0, 0), 0, 0, []),
  (5, .iconst 4, 1, 0, (0, 0, 0, 0), 4, 0, []),
  (6, .if_icmp .ge 34, 3, 0, (40, 0, 0, 0), 0, 0, []),
  (9, .iload_n 2, 1, 0, (2, 0, 0, 0), 0, 0, []),
  (10, .sipush 1000, 3, 0, (0, 0, 0, 0), 1000, 0, []),
  (13, .bipush 10, 2, 0, (0, 0, 0, 0), 10, 0, []),
  (15, .aload_n 0, 1, 0, (0, 0, 0, 0), 0, 0, []),
  (16, .iload_n 3, 1, 0, (3, 0, 0, 0), 0, 0, []),
  (17, .iload_n 1, 1, 0, (1, 0, 0, 0), 0, 0, []),
  (18, .invokevirtual 98, 3, 0, (97, 1706, 3, 4), 0, 0, []),
  (21, .invokestatic 55, 3, 0, (4, 1686, 0, 0), 0, 0, []),
  (24, .imul, 1, 0, (0, 0, 0, 0), 0, 0, []),
  (25, .aload_n 0, 1, 0, (0, 0, 0, 0), 0, 0, []),
  (26, .iload_n 3, 1, 0, (3, 0, 0, 0), 0, 0, []),
  (27, .iload_n 1, 1, 0, (1, 0, 0, 0), 0, 0, []),
  (28, .invokevirtual 95, 3, 0, (98, 1710, 3, 4), 0, 0, []),
  (31, .isub, 1, 0, (0, 0, 0, 0), 0, 0, []),
  (32, .iadd, 1, 0, (0, 0, 0, 0), 0, 0, []),
  (33, .istore_n 2, 1, 0, (2, 0, 0, 0), 0, 0, []),
  (34, .iinc 3 1, 3, 0, (3, 0, 0, 0), 1, 0, []),
  (37, .goto (-33), 3, 0, (4, 0, 0, 0), 0, 0, []),
  (40, .iload_n 2, 1, 0, (2, 0, 0, 0), 0, 0, []),
  (41, .ireturn, 1, 0, (0, 0, 0, 0), 0, 0, [])]
def hk_m89 : hk_Q := (⟨"HullKeepers$Planner", "worthOf", "(I)I"⟩, prog_5_method_15_code, 4, (some .int), (2, 0, 0, 0, 0, 0), hk_c89)
def hk_c90 : List hk_E := [(0, .aload_n 0, 1, 0, (0, 0, 0, 0), 0, 0, []),
  (1, .getfield 30, 3, 0, (3, 724, 5, 1), 0, 0, []),
  (4, .getfield 77, 3, 0, (1, 596, 5, 1), 0, 0, []),
  (7, .iload_n 1, 1, 0, (1, 0, 0, 0), 0, 0, []),
  (8, .iconst 0, 1, 0, (0, 0, 0, 0), 0, 0, []),
  (9, .invokevirtual 92, 3, 0, (23, 1684, 3, 7), 0, 0, []),
  (12, .aload_n 0, 1, 0, (0, 0, 0, 0), 0, 0, []),
  (13, .iload_n 1, 1, 0, (1, 0, 0, 0), 0, 0, []),
  (14, .iload_n 2, 1, 0, (2, 0, 0, 0), 0, 0, []),
  (15, .invokevirtual 95, 3, 0, (98, 1710, 3, 4), 0, 0, []),
  (18, .aload_n 0, 1, 0, (0, 0, 0, 0), 0, 0, []),
  (19, .getfield 30, 3, 0, (3, 724, 5, 1), 0, 0, []),
  (22, .getfield 77, 3, 0, (1, 596, 5, 1), 0, 0, []),
  (25, .iload_n 1, 1, 0, (1, 0, 0, 0), 0, 0, []),
  (26, .iconst 1, 1, 0, (0, 0, 0, 0), 1, 0, []),
  (27, .invokevirtual 92, 3, 0, (23, 1684, 3, 7), 0, 0, []),
  (30, .imul, 1, 0, (0, 0, 0, 0), 0, 0, []),
  (31, .iadd, 1, 0, (0, 0, 0, 0), 0, 0, []),
  (32, .ireturn, 1, 0, (0, 0, 0, 0), 0, 0, [])]
def hk_m90 : hk_Q := (⟨"HullKeepers$Planner", "floatsTill", "(II)I"⟩, prog_5_method_8_code, 3, (some .int), (3, 0, 0, 0, 0, 0), hk_c90)
def hk_c91 : List hk_E := [(0, .aload_n 0, 1, 0, (0, 0, 0, 0), 0, 0, []),
  (1, .getfield 15, 3, 0, (3, 720, 1, 1), 0, 0, []),
  (4, .iload_n 1, 1, 0, (1, 0, 0, 0), 0, 0, []),
  (5, .iaload, 1, 0, (0, 0, 0, 0), 0, 0, []),
  (6, .ifCond .le 12, 3, 0, (18, 0, 0, 0), 0, 0, []),
  (9, .aload_n 0, 1, 0, (0, 0, 0, 0), 0, 0, []),
  (10, .getfield 9, 3, 0, (3, 719, 0, 1), 0, 0, []),
  (13, .iload_n 1, 1, 0, (1, 0, 0, 0), 0, 0, []),
  (14, .iaload, 1, 0, (0, 0, 0, 0), 0, 0, []),
  (15, .ifCond .ge 7, 3, 0, (22, 0, 0, 0), 0, 0, []),
  (18, .iconst 0, 1, 0, (0, 0, 0, 0), 0, 0, []),
  (19, .goto 20, 3, 0, (39, 0, 0, 0), 0, 0, []),
  (22, .iload_n 2, 1, 0, (2, 0, 0, 0), 0, 0, []),
  (23, .aload_n 0, 1, 0, (0, 0, 0, 0), 0, 0, []),
  (24, .getfield 15, 3, 0, (3, 720, 1, 1), 0, 0, []),
  (27, .iload_n 1, 1, 0, (1, 0, 0, 0), 0, 0, []),
  (28, .iaload, 1, 0, (0, 0, 0, 0), 0, 0, []),
  (29, .idiv, 1, 0, (0, 0, 0, 0), 0, 0, []),
  (30, .aload_n 0, 1, 0, (0, 0, 0, 0), 0, 0, []),
  (31, .getfield 9, 3, 0, (3, 719, 0, 1), 0, 0, []),
  (34, .iload_n 1, 1, 0, (1, 0, 0, 0), 0, 0, []),
  (35, .iaload, 1, 0, (0, 0, 0, 0), 0, 0, []),
  (36, .iconst 1, 1, 0, (0, 0, 0, 0), 1, 0, []),
  (37, .iadd, 1, 0, (0, 0, 0, 0), 0, 0, []),
  (38, .irem, 1, 0, (0, 0, 0, 0), 0, 0, []),
  (39, .ireturn, 1, 0, (0, 0, 0, 0), 0, 0, [])]
def hk_m91 : hk_Q := (⟨"HullKeepers$Planner", "timesDocked", "(II)I"⟩, prog_5_method_7_code, 3, (some .int), (3, 0, 0, 0, 0, 0), hk_c91)
def hk_c92 : List hk_E := [(0, .aload_n 0, 1, 0, (0, 0, 0, 0), 0, 0, []),
  (1, .iload_n 1, 1, 0, (1, 0, 0, 0), 0, 0, []),
  (2, .iload_n 2, 1, 0, (2, 0, 0, 0), 0, 0, []),
  (3, .invokevirtual 118, 3, 0, (100, 1718, 3, 4), 0, 0, []),
  (6, .istore_n 3, 1, 0, (3, 0, 0, 0), 0, 0, []),
  (7, .aload_n 0, 1, 0, (0, 0, 0, 0), 0, 0, []),
  (8, .iload_n 1, 1, 0, (1, 0, 0, 0), 0, 0, []),
  (9, .iload_n 2, 1, 0, (2, 0, 0, 0), 0, 0, []),
  (10, .invokevirtual 121, 3, 0, (101, 1722, 3, 4), 0, 0, []),
  (13, .istore 4, 2, 0, (4, 0, 0, 0), 0, 0, []),
  (15, .iconst 0, 1, 0, (0, 0, 0, 0), 0, 0, []),
  (16, .istore 5, 2, 0, (5, 0, 0, 0), 0, 0, []),
  (18, .iconst 0, 1, 0, (0, 0, 0, 0), 0, 0, []),
  (19, .istore 6, 2, 0, (6, 0, 0, 0), 0, 0, []),
  (21, .iload 6, 2, 1, (6, 0, 0, 0), 0, 0, []),
  (23, .bipush 16, 2, 0, (0, 0, 0, 0), 16, 0, []),
  (25, .if_icmp .ge 44, 3, 0, (69, 0, 0, 0), 0, 0, []),
  (28, .aload_n 0, 1, 0, (0, 0, 0, 0), 0, 0, []),
  (29, .iload 6, 2, 0, (6, 0, 0, 0), 0, 0, []),
  (31, .iload_n 3, 1, 0, (3, 0, 0, 0), 0, 0, []),
  (32, .iload 4, 2, 0, (4, 0, 0, 0), 0, 0, []),
  (34, .invokevirtual 124, 3, 0, (102, 1726, 4, 4), 0, 0, []),
  (37, .ifCond .eq 26, 3, 0, (63, 0, 0, 0), 0, 0, []),
  (40, .iload 5, 2, 0, (5, 0, 0, 0), 0, 0, []),
  (42, .aload_n 0, 1, 0, (0, 0, 0, 0), 0, 0, []),
  (43, .iload_n 1, 1, 0, (1, 0, 0, 0), 0, 0, []),
  (44, .iconst 1, 1, 0, (0, 0, 0, 0), 1, 0, []),
  (45, .iadd, 1, 0, (0, 0, 0, 0), 0, 0, []),
  (46, .iload_n 2, 1, 0, (2, 0, 0, 0), 0, 0, []),
  (47, .aload_n 0, 1, 0, (0, 0, 0, 0), 0, 0, []),
  (48, .getfield 18, 3, 0, (3, 721, 2, 1), 0, 0, []),
  (51, .iload 6, 2, 0, (6, 0, 0, 0), 0, 0, []),
  (53, .iaload, 1, 0, (0, 0, 0, 0), 0, 0, []),
  (54, .iadd, 1, 0, (0, 0, 0, 0), 0, 0, []),
  (55, .invokevirtual 128, 3, 0, (95, 1698, 3, 4), 0, 0, []),
  (58, .invokestatic 61, 3, 0, (3, 1687, 0, 0), 0, 0, []),
  (61, .istore 5, 2, 0, (5, 0, 0, 0), 0, 0, []),
  (63, .iinc 6 1, 3, 0, (6, 0, 0, 0), 1, 0, []),
  (66, .goto (-45), 3, 0, (21, 0, 0, 0), 0, 0, []),
  (69, .iload 5, 2, 0, (5, 0, 0, 0), 0, 0, []),
  (71, .ireturn, 1, 0, (0, 0, 0, 0), 0, 0, [])]
def hk_m92 : hk_Q := (⟨"HullKeepers$Planner", "workedOut", "(II)I"⟩, prog_5_method_13_code, 7, (some .int), (3, 0, 0, 0, 0, 0), hk_c92)
def hk_c93 : List hk_E := [(0, .iconst 0, 1, 0, (0, 0, 0, 0), 0, 0, []),
  (1, .istore_n 3, 1, 0, (3, 0, 0, 0), 0, 0, []),
  (2, .iconst 0, 1, 0, (0, 0, 0, 0), 0, 0, []),
  (3, .istore 4, 2, 0, (4, 0, 0, 0), 0, 0, []),
  (5, .iload 4, 2, 1, (4, 0, 0, 0), 0, 0, []),
  (7, .iconst 4, 1, 0, (0, 0, 0, 0), 4, 0, []),
  (8, .if_icmp .ge 44, 3, 0, (52, 0, 0, 0), 0, 0, []),
  (11, .aload_n 0, 1, 0, (0, 0, 0, 0), 0, 0, []),
  (12, .iload 4, 2, 0, (4, 0, 0, 0), 0, 0, []),
  (14, .iload_n 2, 1, 0, (2, 0, 0, 0), 0, 0, []),
  (15, .invokevirtual 95, 3, 0, (98, 1710, 3, 4), 0, 0, []),
  (18, .aload_n 0, 1, 0, (0, 0, 0, 0), 0, 0, []),
  (19, .getfield 9, 3, 0, (3, 719, 0, 1), 0, 0, []),
  (22, .iload 4, 2, 0, (4, 0, 0, 0), 0, 0, []),
  (24, .iaload, 1, 0, (0, 0, 0, 0), 0, 0, []),
  (25, .if_icmp .ge 21, 3, 0, (46, 0, 0, 0), 0, 0, []),
  (28, .aload_n 0, 1, 0, (0, 0, 0, 0), 0, 0, []),
  (29, .iload 4, 2, 0, (4, 0, 0, 0), 0, 0, []),
  (31, .iload_n 2, 1, 0, (2, 0, 0, 0), 0, 0, []),
  (32, .invokevirtual 98, 3, 0, (97, 1706, 3, 4), 0, 0, []),
  (35, .iload_n 1, 1, 0, (1, 0, 0, 0), 0, 0, []),
  (36, .if_icmp .le 10, 3, 0, (46, 0, 0, 0), 0, 0, []),
  (39, .iload_n 3, 1, 0, (3, 0, 0, 0), 0, 0, []),
  (40, .iconst 1, 1, 0, (0, 0, 0, 0), 1, 0, []),
  (41, .iload 4, 2, 0, (4, 0, 0, 0), 0, 0, []),
  (43, .ishl, 1, 0, (0, 0, 0, 0), 0, 0, []),
  (44, .ior, 1, 0, (0, 0, 0, 0), 0, 0, []),
  (45, .istore_n 3, 1, 0, (3, 0, 0, 0), 0, 0, []),
  (46, .iinc 4 1, 3, 0, (4, 0, 0, 0), 1, 0, []),
  (49, .goto (-44), 3, 0, (5, 0, 0, 0), 0, 0, []),
  (52, .iload_n 3, 1, 0, (3, 0, 0, 0), 0, 0, []),
  (53, .ireturn, 1, 0, (0, 0, 0, 0), 0, 0, [])]
def hk_m93 : hk_Q := (⟨"HullKeepers$Planner", "dockable", "(II)I"⟩, prog_5_method_9_code, 5, (some .int), (3, 0, 0, 0, 0, 0), hk_c93)
def hk_c94 : List hk_E := [(0, .aload_n 0, 1, 0, (0, 0, 0, 0), 0, 0, []),
  (1, .getfield 30, 3, 0, (3, 724, 5, 1), 0, 0, []),
  (4, .getfield 101, 3, 0, (1, 626, 16, 0), 0, 0, []),
  (7, .iload_n 1, 1, 0, (1, 0, 0, 0), 0, 0, []),
  (8, .iconst 1, 1, 0, (0, 0, 0, 0), 1, 0, []),
  (9, .iadd, 1, 0, (0, 0, 0, 0), 0, 0, []),
  (10, .imul, 1, 0, (0, 0, 0, 0), 0, 0, []),
  (11, .istore_n 3, 1, 0, (3, 0, 0, 0), 0, 0, []),
  (12, .iconst 0, 1, 0, (0, 0, 0, 0), 0, 0, []),
  (13, .istore 4, 2, 0, (4, 0, 0, 0), 0, 0, []),
  (15, .iload 4, 2, 1, (4, 0, 0, 0), 0, 0, []),
  (17, .iconst 4, 1, 0, (0, 0, 0, 0), 4, 0, []),
  (18, .if_icmp .ge 33, 3, 0, (51, 0, 0, 0), 0, 0, []),
  (21, .iload_n 3, 1, 0, (3, 0, 0, 0), 0, 0, []),
  (22, .aload_n 0, 1, 0, (0, 0, 0, 0), 0, 0, []),
  (23, .iload 4, 2, 0, (4, 0, 0, 0), 0, 0, []),
  (25, .iload_n 2, 1, 0, (2, 0, 0, 0), 0, 0, []),
  (26, .invokevirtual 95, 3, 0, (98, 1710, 3, 4), 0, 0, []),
  (29, .aload_n 0, 1, 0, (0, 0, 0, 0), 0, 0, []),
  (30, .getfield 30, 3, 0, (3, 724, 5, 1), 0, 0, []),
  (33, .getfield 77, 3, 0, (1, 596, 5, 1), 0, 0, []),
  (36, .iload 4, 2, 0, (4, 0, 0, 0), 0, 0, []),
  (38, .iconst 2, 1, 0, (0, 0, 0, 0), 2, 0, []),
  (39, .invokevirtual 92, 3, 0, (23, 1684, 3, 7), 0, 0, []),
  (42, .imul, 1, 0, (0, 0, 0, 0), 0, 0, []),
  (43, .isub, 1, 0, (0, 0, 0, 0), 0, 0, []),
  (44, .istore_n 3, 1, 0, (3, 0, 0, 0), 0, 0, []),
  (45, .iinc 4 1, 3, 0, (4, 0, 0, 0), 1, 0, []),
  (48, .goto (-33), 3, 0, (15, 0, 0, 0), 0, 0, []),
  (51, .iload_n 3, 1, 0, (3, 0, 0, 0), 0, 0, []),
  (52, .ireturn, 1, 0, (0, 0, 0, 0), 0, 0, [])]
def hk_m94 : hk_Q := (⟨"HullKeepers$Planner", "coinLeft", "(II)I"⟩, prog_5_method_10_code, 5, (some .int), (3, 0, 0, 0, 0, 0), hk_c94)
def hk_c95 : List hk_E := [(0, .iload_n 1, 1, 0, (1, 0, 0, 0), 0, 0, []),
  (1, .iload_n 2, 1, 0, (2, 0, 0, 0), 0, 0, []),
  (2, .iconst (-1), 1, 0, (0, 0, 0, 0), (-1), 0, []),
  (3, .ixor, 1, 0, (0, 0, 0, 0), 0, 0, []),
  (4, .iand, 1, 0, (0, 0, 0, 0), 0, 0, []),
  (5, .ifCond .ne 31, 3, 0, (36, 0, 0, 0), 0, 0, []),
  (8, .iload_n 1, 1, 0, (1, 0, 0, 0), 0, 0, []),
  (9, .invokestatic 104, 3, 0, (103, 1730, 1, 0), 0, 0, []),
  (12, .aload_n 0, 1, 0, (0, 0, 0, 0), 0, 0, []),
  (13, .getfield 30, 3, 0, (3, 724, 5, 1), 0, 0, []),
  (16, .getfield 109, 3, 0, (1, 623, 15, 0), 0, 0, []),
  (19, .if_icmp .gt 17, 3, 0, (36, 0, 0, 0), 0, 0, []),
  (22, .aload_n 0, 1, 0, (0, 0, 0, 0), 0, 0, []),
  (23, .getfield 21, 3, 0, (3, 722, 3, 1), 0, 0, []),
  (26, .iload_n 1, 1, 0, (1, 0, 0, 0), 0, 0, []),
  (27, .iaload, 1, 0, (0, 0, 0, 0), 0, 0, []),
  (28, .iload_n 3, 1, 0, (3, 0, 0, 0), 0, 0, []),
  (29, .if_icmp .gt 7, 3, 0, (36, 0, 0, 0), 0, 0, []),
  (32, .iconst 1, 1, 0, (0, 0, 0, 0), 1, 0, []),
  (33, .goto 4, 3, 0, (37, 0, 0, 0), 0, 0, []),
  (36, .iconst 0, 1, 0, (0, 0, 0, 0), 0, 0, []),
  (37, .ireturn, 1, 0, (0, 0, 0, 1), 0, 0, [])]
def hk_m95 : hk_Q := (⟨"HullKeepers$Planner", "mayDock", "(III)Z"⟩, prog_5_method_11_code, 4, (some .boolean), (4, 0, 0, 0, 0, 0), hk_c95)
def hk_c96 : List hk_E := [(0, .iload_n 0, 1, 0, (0, 0, 0, 0), 0, 0, []),
  (1, .iload_n 0, 1, 0, (0, 0, 0, 0), 0, 0, []),
  (2, .iconst 1, 1, 0, (0, 0, 0, 0), 1, 0, []),
  (3, .iushr, 1, 0, (0, 0, 0, 0), 0, 0, []),
  (4, .ldc_w 265, 3, 0, (0, 1733, 0, 0), 1431655765, 0, []),
  (7, .iand, 1, 0, (0, 0, 0, 0), 0, 0, []),
  (8, .isub, 1, 0, (0, 0, 0, 0), 0, 0, []),
  (9, .istore_n 0, 1, 0, (0, 0, 0, 0), 0, 0, []),
  (10, .iload_n 0, 1, 0, (0, 0, 0, 0), 0, 0, []),
  (11, .ldc_w 266, 3, 0, (0, 1734, 0, 0), 858993459, 0, []),
  (14, .iand, 1, 0, (0, 0, 0, 0), 0, 0, []),
  (15, .iload_n 0, 1, 0, (0, 0, 0, 0), 0, 0, []),
  (16, .iconst 2, 1, 0, (0, 0, 0, 0), 2, 0, []),
  (17, .iushr, 1, 0, (0, 0, 0, 0), 0, 0, []),
  (18, .ldc_w 266, 3, 0, (0, 1734, 0, 0), 858993459, 0, []),
  (21, .iand, 1, 0, (0, 0, 0, 0), 0, 0, []),
  (22, .iadd, 1, 0, (0, 0, 0, 0), 0, 0, []),
  (23, .istore_n 0, 1, 0, (0, 0, 0, 0), 0, 0, []),
  (24, .iload_n 0, 1, 0, (0, 0, 0, 0), 0, 0, []),
  (25, .iload_n 0, 1, 0, (0, 0, 0, 0), 0, 0, []),
  (26, .iconst 4, 1, 0, (0, 0, 0, 0), 4, 0, []),
  (27, .iushr, 1, 0, (0, 0, 0, 0), 0, 0, []),
  (28, .iadd, 1, 0, (0, 0, 0, 0), 0, 0, []),
  (29, .ldc_w 267, 3, 0, (0, 1735, 0, 0), 252645135, 0, []),
  (32, .iand, 1, 0, (0, 0, 0, 0), 0, 0, []),
  (33, .istore_n 0, 1, 0, (0, 0, 0, 0), 0, 0, []),
  (34, .iload_n 0, 1, 0, (0, 0, 0, 0), 0, 0, []),
  (35, .iload_n 0, 1, 0, (0, 0, 0, 0), 0, 0, []),
  (36, .bipush 8, 2, 0, (0, 0, 0, 0), 8, 0, []),
  (38, .iushr, 1, 0, (0, 0, 0, 0), 0, 0, []),
  (39, .iadd, 1, 0, (0, 0, 0, 0), 0, 0, []),
  (40, .istore_n 0, 1, 0, (0, 0, 0, 0), 0, 0, []),
  (41, .iload_n 0, 1, 0, (0, 0, 0, 0), 0, 0, []),
  (42, .iload_n 0, 1, 0, (0, 0, 0, 0), 0, 0, []),
  (43, .bipush 16, 2, 0, (0, 0, 0, 0), 16, 0, []),
  (45, .iushr, 1, 0, (0, 0, 0, 0), 0, 0, []),
  (46, .iadd, 1, 0, (0, 0, 0, 0), 0, 0, []),
  (47, .istore_n 0, 1, 0, (0, 0, 0, 0), 0, 0, []),
  (48, .iload_n 0, 1, 0, (0, 0, 0, 0), 0, 0, []),
  (49, .bipush 63, 2, 0, (0, 0, 0, 0), 63, 0, []),
  (51, .iand, 1, 0, (0, 0, 0, 0), 0, 0, []),
  (52, .ireturn, 1, 0, (0, 0, 0, 0), 0, 0, [])]
def hk_m96 : hk_Q := (⟨"java/lang/Integer", "bitCount", "(I)I"⟩, prog_11_method_49_code, 1, (some .int), (1, 2, 0, 0, 0, 0), hk_c96)
def hk_c97 : List hk_E := [(0, .aload_n 0, 1, 0, (0, 0, 0, 0), 0, 0, []),
  (1, .iconst 0, 1, 0, (0, 0, 0, 0), 0, 0, []),
  (2, .putfield 45, 3, 0, (3, 727, 8, 0), 0, 0, []),
  (5, .aload_n 0, 1, 0, (0, 0, 0, 0), 0, 0, []),
  (6, .iconst 0, 1, 0, (0, 0, 0, 0), 0, 0, []),
  (7, .putfield 38, 3, 0, (3, 728, 9, 0), 0, 0, []),
  (10, .aload_n 0, 1, 0, (0, 0, 0, 0), 0, 0, []),
  (11, .iconst 0, 1, 0, (0, 0, 0, 0), 0, 0, []),
  (12, .putfield 42, 3, 0, (3, 729, 10, 0), 0, 0, []),
  (15, .aload_n 0, 1, 0, (0, 0, 0, 0), 0, 0, []),
  (16, .getfield 30, 3, 0, (3, 724, 5, 1), 0, 0, []),
  (19, .getfield 77, 3, 0, (1, 596, 5, 1), 0, 0, []),
  (22, .getfield 83, 3, 0, (6, 557, 3, 0), 0, 0, []),
  (25, .iconst 4, 1, 0, (0, 0, 0, 0), 4, 0, []),
  (26, .invokestatic 55, 3, 0, (4, 1686, 0, 0), 0, 0, []),
  (29, .istore_n 2, 1, 0, (2, 0, 0, 0), 0, 0, []),
  (30, .iconst 0, 1, 0, (0, 0, 0, 0), 0, 0, []),
  (31, .istore_n 3, 1, 0, (3, 0, 0, 0), 0, 0, []),
  (32, .iload_n 3, 1, 1, (3, 0, 0, 0), 0, 0, []),
  (33, .iload_n 2, 1, 0, (2, 0, 0, 0), 0, 0, []),
  (34, .if_icmp .ge 67, 3, 0, (101, 0, 0, 0), 0, 0, []),
  (37, .aload_n 0, 1, 0, (0, 0, 0, 0), 0, 0, []),
  (38, .dup, 1, 0, (0, 0, 0, 0), 0, 0, []),
  (39, .getfield 45, 3, 0, (3, 727, 8, 0), 0, 0, []),
  (42, .bipush 10, 2, 0, (0, 0, 0, 0), 10, 0, []),
  (44, .aload_n 0, 1, 0, (0, 0, 0, 0), 0, 0, []),
  (45, .iload_n 3, 1, 0, (3, 0, 0, 0), 0, 0, []),
  (46, .iload_n 1, 1, 0, (1, 0, 0, 0), 0, 0, []),
  (47, .invokevirtual 98, 3, 0, (97, 1706, 3, 4), 0, 0, []),
  (50, .invokestatic 55, 3, 0, (4, 1686, 0, 0), 0, 0, []),
  (53, .iadd, 1, 0, (0, 0, 0, 0), 0, 0, []),
  (54, .putfield 45, 3, 0, (3, 727, 8, 0), 0, 0, []),
  (57, .aload_n 0, 1, 0, (0, 0, 0, 0), 0, 0, []),
  (58, .dup, 1, 0, (0, 0, 0, 0), 0, 0, []),
  (59, .getfield 42, 3, 0, (3, 729, 10, 0), 0, 0, []),
  (62, .aload_n 0, 1, 0, (0, 0, 0, 0), 0, 0, []),
  (63, .iload_n 3, 1, 0, (3, 0, 0, 0), 0, 0, []),
  (64, .iload_n 1, 1, 0, (1, 0, 0, 0), 0, 0, []),
  (65, .invokevirtual 95, 3, 0, (98, 1710, 3, 4), 0, 0, []),
  (68, .iadd, 1, 0, (0, 0, 0, 0), 0, 0, []),
  (69, .putfield 42, 3, 0, (3, 729, 10, 0), 0, 0, []),
  (72, .aload_n 0, 1, 0, (0, 0, 0, 0), 0, 0, []),
  (73, .iload_n 3, 1, 0, (3, 0, 0, 0), 0, 0, []),
  (74, .iload_n 1, 1, 0, (1, 0, 0, 0), 0, 0, []),
  (75, .invokevirtual 98, 3, 0, (97, 1706, 3, 4), 0, 0, []),
  (78, .bipush 10, 2, 0, (0, 0, 0, 0), 10, 0, []),
  (80, .if_icmp .ge 15, 3, 0, (95, 0, 0, 0), 0, 0, []),
  (83, .aload_n 0, 1, 0, (0, 0, 0, 0), 0, 0, []),
  (84, .dup, 1, 0, (0, 0, 0, 0), 0, 0, []),
  (85, .getfield 38, 3, 0, (3, 728, 9, 0), 0, 0, []),
  (88, .iconst 1, 1, 0, (0, 0, 0, 0), 1, 0, []),
  (89, .iload_n 3, 1, 0, (3, 0, 0, 0), 0, 0, []),
  (90, .ishl, 1, 0, (0, 0, 0, 0), 0, 0, []),
  (91, .ior, 1, 0, (0, 0, 0, 0), 0, 0, []),
  (92, .putfield 38, 3, 0, (3, 728, 9, 0), 0, 0, []),
  (95, .iinc 3 1, 3, 0, (3, 0, 0, 0), 1, 0, []),
  (98, .goto (-66), 3, 0, (32, 0, 0, 0), 0, 0, []),
  (101, .return_, 1, 0, (0, 0, 0, 0), 0, 0, [])]
def hk_m97 : hk_Q := (⟨"HullKeepers$Planner", "sumUp", "(I)V"⟩, prog_5_method_16_code, 4, none, (2, 0, 0, 0, 0, 0), hk_c97)
def hk_c98 : List hk_E := [(0, .iload_n 1, 1, 0, (1, 0, 0, 0), 0, 0, []),
  (1, .bipush 10, 2, 0, (0, 0, 0, 0), 10, 0, []),
  (3, .if_icmp .ne 8, 3, 0, (11, 0, 0, 0), 0, 0, []),
  (6, .aload_n 0, 1, 0, (0, 0, 0, 0), 0, 0, []),
  (7, .getfield 38, 3, 0, (3, 728, 9, 0), 0, 0, []),
  (10, .ireturn, 1, 0, (0, 0, 0, 0), 0, 0, []),
  (11, .iload_n 1, 1, 0, (1, 0, 0, 0), 0, 0, []),
  (12, .bipush 11, 2, 0, (0, 0, 0, 0), 11, 0, []),
  (14, .if_icmp .ne 8, 3, 0, (22, 0, 0, 0), 0, 0, []),
  (17, .aload_n 0, 1, 0, (0, 0, 0, 0), 0, 0, []),
  (18, .getfield 42, 3, 0, (3, 729, 10, 0), 0, 0, []),
  (21, .ireturn, 1, 0, (0, 0, 0, 0), 0, 0, []),
  (22, .iload_n 1, 1, 0, (1, 0, 0, 0), 0, 0, []),
  (23, .ifCond .lt 18, 3, 0, (41, 0, 0, 0), 0, 0, []),
  (26, .iload_n 1, 1, 0, (1, 0, 0, 0), 0, 0, []),
  (27, .bipush 10, 2, 0, (0, 0, 0, 0), 10, 0, []),
  (29, .if_icmp .ge 12, 3, 0, (41, 0, 0, 0), 0, 0, []),
  (32, .aload_n 0, 1, 0, (0, 0, 0, 0), 0, 0, []),
  (33, .getfield 24, 3, 0, (3, 723, 4, 1), 0, 0, []),
  (36, .iload_n 1, 1, 0, (1, 0, 0, 0), 0, 0, []),
  (37, .iaload, 1, 0, (0, 0, 0, 0), 0, 0, []),
  (38, .goto 7, 3, 0, (45, 0, 0, 0), 0, 0, []),
  (41, .aload_n 0, 1, 0, (0, 0, 0, 0), 0, 0, []),
  (42, .getfield 45, 3, 0, (3, 727, 8, 0), 0, 0, []),
  (45, .ireturn, 1, 0, (0, 0, 0, 0), 0, 0, [])]
def hk_m98 : hk_Q := (⟨"HullKeepers$Planner", "at", "(I)I"⟩, prog_5_method_3_code, 2, (some .int), (2, 0, 0, 0, 0, 0), hk_c98)
def hk_c99 : List hk_E := [(0, .aload_n 0, 1, 0, (0, 0, 0, 0), 0, 0, []),
  (1, .getfield 39, 3, 0, (7, 1068, 4, 1), 0, 0, []),
  (4, .invokevirtual 178, 3, 0, (86, 1660, 1, 4), 0, 0, []),
  (7, .aload_n 0, 1, 0, (0, 0, 0, 0), 0, 0, []),
  (8, .getfield 10, 3, 0, (7, 1064, 0, 1), 0, 0, []),
  (11, .getfield 175, 3, 0, (1, 597, 5, 1), 0, 0, []),
  (14, .invokevirtual 193, 3, 0, (107, 1748, 1, 7), 0, 0, []),
  (17, .ireturn, 1, 0, (0, 0, 0, 0), 0, 0, [])]
def hk_m99 : hk_Q := (⟨"HullKeepers", "clear", "()I"⟩, prog_1_method_30_code, 1, (some .int), (1, 0, 0, 0, 0, 0), hk_c99)
def hk_c100 : List hk_E := [(0, .aload_n 0, 1, 0, (0, 0, 0, 0), 0, 0, []),
  (1, .getfield 28, 3, 0, (6, 552, 3, 0), 0, 0, []),
  (4, .istore_n 1, 1, 0, (1, 0, 0, 0), 0, 0, []),
  (5, .aload_n 0, 1, 0, (0, 0, 0, 0), 0, 0, []),
  (6, .iconst 0, 1, 0, (0, 0, 0, 0), 0, 0, []),
  (7, .putfield 28, 3, 0, (6, 552, 3, 0), 0, 0, []),
  (10, .iload_n 1, 1, 0, (1, 0, 0, 0), 0, 0, []),
  (11, .ireturn, 1, 0, (0, 0, 0, 0), 0, 0, [])]
def hk_m100 : hk_Q := (⟨"HullKeepers$Table", "empty", "()I"⟩, prog_8_method_8_code, 2, (some .int), (1, 0, 0, 0, 0, 0), hk_c100)
def hk_c101 : List hk_E := [(0, .iload_n 1, 1, 0, (1, 0, 0, 0), 0, 0, []),
  (1, .iconst 0, 1, 0, (0, 0, 0, 0), 0, 0, []),
  (2, .sipush 4095, 3, 0, (0, 0, 0, 0), 4095, 0, []),
  (5, .invokestatic 57, 3, 0, (19, 1090, 3, 0), 0, 0, []),
  (8, .ifCond .ne 6, 3, 0, (14, 0, 0, 0), 0, 0, []),
  (11, .bipush (-2), 2, 0, (0, 0, 0, 0), (-2), 0, []),
  (13, .ireturn, 1, 0, (0, 0, 0, 0), 0, 0, []),
  (14, .aload_n 0, 1, 0, (0, 0, 0, 0), 0, 0, []),
  (15, .getfield 10, 3, 0, (7, 1064, 0, 1), 0, 0, []),
  (18, .getfield 197, 3, 0, (1, 599, 6, 1), 0, 0, []),
  (21, .invokevirtual 66, 3, 0, (11, 1094, 1, 7), 0, 0, []),
  (24, .ifCond .eq 8, 3, 0, (32, 0, 0, 0), 0, 0, []),
  (27, .bipush (-4), 2, 0, (0, 0, 0, 0), (-4), 0, []),
  (29, .goto 26, 3, 0, (55, 0, 0, 0), 0, 0, []),
  (32, .aload_n 0, 1, 0, (0, 0, 0, 0), 0, 0, []),
  (33, .getfield 10, 3, 0, (7, 1064, 0, 1), 0, 0, []),
  (36, .getfield 197, 3, 0, (1, 599, 6, 1), 0, 0, []),
  (39, .iload_n 1, 1, 0, (1, 0, 0, 0), 0, 0, []),
  (40, .iload_n 2, 1, 0, (2, 0, 0, 0), 0, 0, []),
  (41, .ifCond .eq 7, 3, 0, (48, 0, 0, 0), 0, 0, []),
  (44, .iconst 1, 1, 0, (0, 0, 0, 0), 1, 0, []),
  (45, .goto 4, 3, 0, (49, 0, 0, 0), 0, 0, []),
  (48, .iconst 0, 1, 0, (0, 0, 0, 0), 0, 0, []),
  (49, .iconst 0, 1, 0, (0, 0, 0, 0), 0, 0, []),
  (50, .iconst 0, 1, 0, (0, 0, 0, 0), 0, 0, []),
  (51, .iconst 0, 1, 0, (0, 0, 0, 0), 0, 0, []),
  (52, .invokevirtual 72, 3, 0, (10, 1095, 6, 7), 0, 0, []),
  (55, .ireturn, 1, 0, (0, 0, 0, 0), 0, 0, [])]
def hk_m101 : hk_Q := (⟨"HullKeepers", "test", "(IZ)I"⟩, prog_1_method_31_code, 3, (some .int), (3, 0, 0, 0, 0, 0), hk_c101)
def hk_c102 : List hk_E := [(0, .aload_n 0, 1, 0, (0, 0, 0, 0), 0, 0, []),
  (1, .getfield 10, 3, 0, (7, 1064, 0, 1), 0, 0, []),
  (4, .getfield 197, 3, 0, (1, 599, 6, 1), 0, 0, []),
  (7, .invokevirtual 193, 3, 0, (107, 1748, 1, 7), 0, 0, []),
  (10, .ireturn, 1, 0, (0, 0, 0, 0), 0, 0, [])]
def hk_m102 : hk_Q := (⟨"HullKeepers", "drain", "()I"⟩, prog_1_method_32_code, 1, (some .int), (1, 0, 0, 0, 0, 0), hk_c102)
def hk_c103 : List hk_E := [(0, .iload_n 1, 1, 0, (1, 0, 0, 0), 0, 0, []),
  (1, .iconst 0, 1, 0, (0, 0, 0, 0), 0, 0, []),
  (2, .iconst 1, 1, 0, (0, 0, 0, 0), 1, 0, []),
  (3, .invokestatic 57, 3, 0, (19, 1090, 3, 0), 0, 0, []),
  (6, .ifCond .ne 6, 3, 0, (12, 0, 0, 0), 0, 0, []),
  (9, .bipush (-2), 2, 0, (0, 0, 0, 0), (-2), 0, []),
  (11, .ireturn, 1, 0, (0, 0, 0, 0), 0, 0, []),
  (12, .aload_n 0, 1, 0, (0, 0, 0, 0), 0, 0, []),
  (13, .getfield 46, 3, 0, (7, 1069, 5, 1), 0, 0, []),
  (16, .aload_n 0, 1, 0, (0, 0, 0, 0), 0, 0, []),
  (17, .getfield 10, 3, 0, (7, 1064, 0, 1), 0, 0, []),
  (20, .getfield 197, 3, 0, (1, 599, 6, 1), 0, 0, []),
  (23, .invokevirtual 200, 3, 0, (111, 1764, 2, 3), 0, 0, []),
  (26, .iload_n 1, 1, 0, (1, 0, 0, 0), 0, 0, []),
  (27, .ifCond .ne 13, 3, 0, (40, 0, 0, 0), 0, 0, []),
  (30, .aload_n 0, 1, 0, (0, 0, 0, 0), 0, 0, []),
  (31, .getfield 46, 3, 0, (7, 1069, 5, 1), 0, 0, []),
  (34, .getfield 204, 3, 0, (2, 1035, 0, 0), 0, 0, []),
  (37, .goto 10, 3, 0, (47, 0, 0, 0), 0, 0, []),
  (40, .aload_n 0, 1, 0, (0, 0, 0, 0), 0, 0, []),
  (41, .getfield 46, 3, 0, (7, 1069, 5, 1), 0, 0, []),
  (44, .getfield 207, 3, 0, (2, 1037, 1, 0), 0, 0, []),
  (47, .ireturn, 1, 0, (0, 0, 0, 0), 0, 0, [])]
def hk_m103 : hk_Q := (⟨"HullKeepers", "leaks", "(I)I"⟩, prog_1_method_33_code, 2, (some .int), (2, 0, 0, 0, 0, 0), hk_c103)
def hk_c104 : List hk_E := [(0, .aload_n 0, 1, 0, (0, 0, 0, 0), 0, 0, []),
  (1, .iconst (-1), 1, 0, (0, 0, 0, 0), (-1), 0, []),
  (2, .putfield 9, 3, 0, (2, 1034, 0, 0), 0, 0, []),
  (5, .aload_n 0, 1, 0, (0, 0, 0, 0), 0, 0, []),
  (6, .iconst (-1), 1, 0, (0, 0, 0, 0), (-1), 0, []),
  (7, .putfield 15, 3, 0, (2, 1036, 1, 0), 0, 0, []),
  (10, .aload_n 1, 1, 0, (1, 0, 0, 0), 0, 0, []),
  (11, .invokestatic 18, 3, 0, (112, 1768, 1, 0), 0, 0, []),
  (14, .istore_n 2, 1, 0, (2, 0, 0, 0), 0, 0, []),
  (15, .iconst 0, 1, 0, (0, 0, 0, 0), 0, 0, []),
  (16, .istore_n 3, 1, 0, (3, 0, 0, 0), 0, 0, []),
  (17, .iload_n 3, 1, 1, (3, 0, 0, 0), 0, 0, []),
  (18, .sipush 4095, 3, 0, (0, 0, 0, 0), 4095, 0, []),
  (21, .if_icmp .gt 78, 3, 0, (99, 0, 0, 0), 0, 0, []),
  (24, .iload_n 3, 1, 0, (3, 0, 0, 0), 0, 0, []),
  (25, .iload_n 2, 1, 0, (2, 0, 0, 0), 0, 0, []),
  (26, .iconst (-1), 1, 0, (0, 0, 0, 0), (-1), 0, []),
  (27, .ixor, 1, 0, (0, 0, 0, 0), 0, 0, []),
  (28, .iand, 1, 0, (0, 0, 0, 0), 0, 0, []),
  (29, .ifCond .ne 64, 3, 0, (93, 0, 0, 0), 0, 0, []),
  (32, .aload_n 0, 1, 0, (0, 0, 0, 0), 0, 0, []),
  (33, .iload_n 3, 1, 0, (3, 0, 0, 0), 0, 0, []),
  (34, .invokevirtual 22, 3, 0, (113, 1772, 2, 3), 0, 0, []),
  (37, .ifCond .eq 56, 3, 0, (93, 0, 0, 0), 0, 0, []),
  (40, .aload_n 1, 1, 0, (1, 0, 0, 0), 0, 0, []),
  (41, .iload_n 3, 1, 0, (3, 0, 0, 0), 0, 0, []),
  (42, .invokestatic 26, 3, 0, (114, 2049, 2, 0), 0, 0, []),
  (45, .ifCond .eq 48, 3, 0, (93, 0, 0, 0), 0, 0, []),
  (48, .aload_n 0, 1, 0, (0, 0, 0, 0), 0, 0, []),
  (49, .getfield 9, 3, 0, (2, 1034, 0, 0), 0, 0, []),
  (52, .iconst (-1), 1, 0, (0, 0, 0, 0), (-1), 0, []),
  (53, .if_icmp .eq 30, 3, 0, (83, 0, 0, 0), 0, 0, []),
  (56, .iload_n 3, 1, 0, (3, 0, 0, 0), 0, 0, []),
  (57, .invokestatic 30, 3, 0, (103, 2048, 1, 0), 0, 0, []),
  (60, .aload_n 0, 1, 0, (0, 0, 0, 0), 0, 0, []),
  (61, .getfield 9, 3, 0, (2, 1034, 0, 0), 0, 0, []),
  (64, .invokestatic 30, 3, 0, (103, 2048, 1, 0), 0, 0, []),
  (67, .if_icmp .ne 16, 3, 0, (83, 0, 0, 0), 0, 0, []),
  (70, .aload_n 0, 1, 0, (0, 0, 0, 0), 0, 0, []),
  (71, .dup, 1, 0, (0, 0, 0, 0), 0, 0, []),
  (72, .getfield 15, 3, 0, (2, 1036, 1, 0), 0, 0, []),
  (75, .iconst 1, 1, 0, (0, 0, 0, 0), 1, 0, []),
  (76, .iadd, 1, 0, (0, 0, 0, 0), 0, 0, []),
  (77, .putfield 15, 3, 0, (2, 1036, 1, 0), 0, 0, []),
  (80, .goto 13, 3, 0, (93, 0, 0, 0), 0, 0, []),
  (83, .aload_n 0, 1, 0, (0, 0, 0, 0), 0, 0, []),
  (84, .iload_n 3, 1, 0, (3, 0, 0, 0), 0, 0, []),
  (85, .putfield 9, 3, 0, (2, 1034, 0, 0), 0, 0, []),
  (88, .aload_n 0, 1, 0, (0, 0, 0, 0), 0, 0, []),
  (89, .iconst 0, 1, 0, (0, 0, 0, 0), 0, 0, []),
  (90, .putfield 15, 3, 0, (2, 1036, 1, 0), 0, 0, []),
  (93, .iinc 3 1, 3, 0, (3, 0, 0, 0), 1, 0, []),
  (96, .goto (-79), 3, 0, (17, 0, 0, 0), 0, 0, []),
  (99, .return_, 1, 0, (0, 0, 0, 0), 0, 0, [])]
def hk_m104 : hk_Q := (⟨"HullKeepers$LeakFinder", "find", "(LHullKeepers$Table;)V"⟩, prog_4_method_2_code, 4, none, (2, 0, 0, 0, 0, 0), hk_c104)
def hk_c105 : List hk_E := [(0, .iconst 0, 1, 0, (0, 0, 0, 0), 0, 0, []),
  (1, .istore_n 1, 1, 0, (1, 0, 0, 0), 0, 0, []),
  (2, .iconst 0, 1, 0, (0, 0, 0, 0), 0, 0, []),
  (3, .istore_n 2, 1, 0, (2, 0, 0, 0), 0, 0, []),
  (4, .iconst 0, 1, 0, (0, 0, 0, 0), 0, 0, []),
  (5, .istore_n 3, 1, 0, (3, 0, 0, 0), 0, 0, []),
  (6, .iload_n 3, 1, 1, (3, 0, 0, 0), 0, 0, []),
  (7, .aload_n 0, 1, 0, (0, 0, 0, 0), 0, 0, []),
  (8, .getfield 36, 3, 0, (6, 555, 3, 0), 0, 0, []),
  (11, .if_icmp .ge 40, 3, 0, (51, 0, 0, 0), 0, 0, []),
  (14, .aload_n 0, 1, 0, (0, 0, 0, 0), 0, 0, []),
  (15, .iload_n 3, 1, 0, (3, 0, 0, 0), 0, 0, []),
  (16, .iconst 1, 1, 0, (0, 0, 0, 0), 1, 0, []),
  (17, .invokevirtual 43, 3, 0, (23, 1771, 3, 7), 0, 0, []),
  (20, .iconst 1, 1, 0, (0, 0, 0, 0), 1, 0, []),
  (21, .if_icmp .ne 15, 3, 0, (36, 0, 0, 0), 0, 0, []),
  (24, .iload_n 1, 1, 0, (1, 0, 0, 0), 0, 0, []),
  (25, .aload_n 0, 1, 0, (0, 0, 0, 0), 0, 0, []),
  (26, .iload_n 3, 1, 0, (3, 0, 0, 0), 0, 0, []),
  (27, .iconst 0, 1, 0, (0, 0, 0, 0), 0, 0, []),
  (28, .invokevirtual 43, 3, 0, (23, 1771, 3, 7), 0, 0, []),
  (31, .ior, 1, 0, (0, 0, 0, 0), 0, 0, []),
  (32, .istore_n 1, 1, 0, (1, 0, 0, 0), 0, 0, []),
  (33, .goto 12, 3, 0, (45, 0, 0, 0), 0, 0, []),
  (36, .iload_n 2, 1, 0, (2, 0, 0, 0), 0, 0, []),
  (37, .aload_n 0, 1, 0, (0, 0, 0, 0), 0, 0, []),
  (38, .iload_n 3, 1, 0, (3, 0, 0, 0), 0, 0, []),
  (39, .iconst 0, 1, 0, (0, 0, 0, 0), 0, 0, []),
  (40, .invokevirtual 43, 3, 0, (23, 1771, 3, 7), 0, 0, []),
  (43, .ior, 1, 0, (0, 0, 0, 0), 0, 0, []),
  (44, .istore_n 2, 1, 0, (2, 0, 0, 0), 0, 0, []),
  (45, .iinc 3 1, 3, 0, (3, 0, 0, 0), 1, 0, []),
  (48, .goto (-42), 3, 0, (6, 0, 0, 0), 0, 0, []),
  (51, .iload_n 1, 1, 0, (1, 0, 0, 0), 0, 0, []),
  (52, .iload_n 2, 1, 0, (2, 0, 0, 0), 0, 0, []),
  (53, .iconst (-1), 1, 0, (0, 0, 0, 0), (-1), 0, []),
  (54, .ixor, 1, 0, (0, 0, 0, 0), 0, 0, []),
  (55, .iand, 1, 0, (0, 0, 0, 0), 0, 0, []),
  (56, .ireturn, 1, 0, (0, 0, 0, 0), 0, 0, [])]
def hk_m105 : hk_Q := (⟨"HullKeepers$LeakFinder", "likelyPlaces", "(LHullKeepers$Table;)I"⟩, prog_4_method_4_code, 4, (some .int), (1, 2, 0, 0, 0, 0), hk_c105)
def hk_c106 : List hk_E := [(0, .aload_n 0, 1, 0, (0, 0, 0, 0), 0, 0, []),
  (1, .getfield 9, 3, 0, (2, 1034, 0, 0), 0, 0, []),
  (4, .iconst (-1), 1, 0, (0, 0, 0, 0), (-1), 0, []),
  (5, .if_icmp .eq 17, 3, 0, (22, 0, 0, 0), 0, 0, []),
  (8, .iload_n 1, 1, 0, (1, 0, 0, 0), 0, 0, []),
  (9, .invokestatic 30, 3, 0, (103, 2048, 1, 0), 0, 0, []),
  (12, .aload_n 0, 1, 0, (0, 0, 0, 0), 0, 0, []),
  (13, .getfield 9, 3, 0, (2, 1034, 0, 0), 0, 0, []),
  (16, .invokestatic 30, 3, 0, (103, 2048, 1, 0), 0, 0, []),
  (19, .if_icmp .gt 7, 3, 0, (26, 0, 0, 0), 0, 0, []),
  (22, .iconst 1, 1, 0, (0, 0, 0, 0), 1, 0, []),
  (23, .goto 4, 3, 0, (27, 0, 0, 0), 0, 0, []),
  (26, .iconst 0, 1, 0, (0, 0, 0, 0), 0, 0, []),
  (27, .ireturn, 1, 0, (0, 0, 0, 1), 0, 0, [])]
def hk_m106 : hk_Q := (⟨"HullKeepers$LeakFinder", "isNoLarger", "(I)Z"⟩, prog_4_method_3_code, 2, (some .boolean), (2, 0, 0, 0, 0, 0), hk_c106)
def hk_c107 : List hk_E := [(0, .iconst 0, 1, 0, (0, 0, 0, 0), 0, 0, []),
  (1, .istore_n 2, 1, 0, (2, 0, 0, 0), 0, 0, []),
  (2, .iload_n 2, 1, 1, (2, 0, 0, 0), 0, 0, []),
  (3, .aload_n 0, 1, 0, (0, 0, 0, 0), 0, 0, []),
  (4, .getfield 36, 3, 0, (6, 555, 3, 0), 0, 0, []),
  (7, .if_icmp .ge 47, 3, 0, (54, 0, 0, 0), 0, 0, []),
  (10, .aload_n 0, 1, 0, (0, 0, 0, 0), 0, 0, []),
  (11, .iload_n 2, 1, 0, (2, 0, 0, 0), 0, 0, []),
  (12, .iconst 0, 1, 0, (0, 0, 0, 0), 0, 0, []),
  (13, .invokevirtual 43, 3, 0, (23, 1771, 3, 7), 0, 0, []),
  (16, .iload_n 1, 1, 0, (1, 0, 0, 0), 0, 0, []),
  (17, .iand, 1, 0, (0, 0, 0, 0), 0, 0, []),
  (18, .ifCond .eq 7, 3, 0, (25, 0, 0, 0), 0, 0, []),
  (21, .iconst 1, 1, 0, (0, 0, 0, 0), 1, 0, []),
  (22, .goto 4, 3, 0, (26, 0, 0, 0), 0, 0, []),
  (25, .iconst 0, 1, 0, (0, 0, 0, 0), 0, 0, []),
  (26, .istore_n 3, 1, 0, (3, 0, 0, 0), 0, 0, []),
  (27, .iload_n 3, 1, 0, (3, 0, 0, 0), 0, 0, []),
  (28, .aload_n 0, 1, 0, (0, 0, 0, 0), 0, 0, []),
  (29, .iload_n 2, 1, 0, (2, 0, 0, 0), 0, 0, []),
  (30, .iconst 1, 1, 0, (0, 0, 0, 0), 1, 0, []),
  (31, .invokevirtual 43, 3, 0, (23, 1771, 3, 7), 0, 0, []),
  (34, .iconst 1, 1, 0, (0, 0, 0, 0), 1, 0, []),
  (35, .if_icmp .ne 7, 3, 0, (42, 0, 0, 0), 0, 0, []),
  (38, .iconst 1, 1, 0, (0, 0, 0, 0), 1, 0, []),
  (39, .goto 4, 3, 0, (43, 0, 0, 0), 0, 0, []),
  (42, .iconst 0, 1, 0, (0, 0, 0, 0), 0, 0, []),
  (43, .if_icmp .eq 5, 3, 0, (48, 0, 0, 0), 0, 0, []),
  (46, .iconst 0, 1, 0, (0, 0, 0, 0), 0, 0, []),
  (47, .ireturn, 1, 0, (0, 0, 0, 1), 0, 0, []),
  (48, .iinc 2 1, 3, 0, (2, 0, 0, 0), 1, 0, []),
  (51, .goto (-49), 3, 0, (2, 0, 0, 0), 0, 0, []),
  (54, .iconst 1, 1, 0, (0, 0, 0, 0), 1, 0, []),
  (55, .ireturn, 1, 0, (0, 0, 0, 1), 0, 0, [])]
def hk_m107 : hk_Q := (⟨"HullKeepers$LeakFinder", "fits", "(LHullKeepers$Table;I)Z"⟩, prog_4_method_5_code, 4, (some .boolean), (2, 2, 0, 0, 0, 0), hk_c107)
def hk_c108 : List hk_E := [(0, .iload_n 1, 1, 0, (1, 0, 0, 0), 0, 0, []),
  (1, .iconst 0, 1, 0, (0, 0, 0, 0), 0, 0, []),
  (2, .bipush 89, 2, 0, (0, 0, 0, 0), 89, 0, []),
  (4, .invokestatic 57, 3, 0, (19, 1090, 3, 0), 0, 0, []),
  (7, .ifCond .eq 13, 3, 0, (20, 0, 0, 0), 0, 0, []),
  (10, .iload_n 2, 1, 0, (2, 0, 0, 0), 0, 0, []),
  (11, .iconst 0, 1, 0, (0, 0, 0, 0), 0, 0, []),
  (12, .bipush 100, 2, 0, (0, 0, 0, 0), 100, 0, []),
  (14, .invokestatic 57, 3, 0, (19, 1090, 3, 0), 0, 0, []),
  (17, .ifCond .ne 6, 3, 0, (23, 0, 0, 0), 0, 0, []),
  (20, .bipush (-2), 2, 0, (0, 0, 0, 0), (-2), 0, []),
  (22, .ireturn, 1, 0, (0, 0, 0, 0), 0, 0, []),
  (23, .aload_n 0, 1, 0, (0, 0, 0, 0), 0, 0, []),
  (24, .getfield 10, 3, 0, (7, 1064, 0, 1), 0, 0, []),
  (27, .getfield 210, 3, 0, (1, 612, 11, 1), 0, 0, []),
  (30, .iload_n 1, 1, 0, (1, 0, 0, 0), 0, 0, []),
  (31, .iaload, 1, 0, (0, 0, 0, 0), 0, 0, []),
  (32, .istore_n 3, 1, 0, (3, 0, 0, 0), 0, 0, []),
  (33, .aload_n 0, 1, 0, (0, 0, 0, 0), 0, 0, []),
  (34, .getfield 10, 3, 0, (7, 1064, 0, 1), 0, 0, []),
  (37, .getfield 210, 3, 0, (1, 612, 11, 1), 0, 0, []),
  (40, .iload_n 1, 1, 0, (1, 0, 0, 0), 0, 0, []),
  (41, .iload_n 2, 1, 0, (2, 0, 0, 0), 0, 0, []),
  (42, .iastore, 1, 0, (0, 0, 0, 0), 0, 0, []),
  (43, .iload_n 3, 1, 0, (3, 0, 0, 0), 0, 0, []),
  (44, .ireturn, 1, 0, (0, 0, 0, 0), 0, 0, [])]
def hk_m108 : hk_Q := (⟨"HullKeepers", "wave", "(II)I"⟩, prog_1_method_34_code, 4, (some .int), (3, 0, 0, 0, 0, 0), hk_c108)
def hk_c109 : List hk_E := [(0, .iload_n 1, 1, 0, (1, 0, 0, 0), 0, 0, []),
  (1, .iconst 1, 1, 0, (0, 0, 0, 0), 1, 0, []),
  (2, .bipush 30, 2, 0, (0, 0, 0, 0), 30, 0, []),
  (4, .invokestatic 57, 3, 0, (19, 1090, 3, 0), 0, 0, []),
  (7, .ifCond .eq 23, 3, 0, (30, 0, 0, 0), 0, 0, []),
  (10, .iload_n 2, 1, 0, (2, 0, 0, 0), 0, 0, []),
  (11, .iconst 0, 1, 0, (0, 0, 0, 0), 0, 0, []),
  (12, .bipush 100, 2, 0, (0, 0, 0, 0), 100, 0, []),
  (14, .invokestatic 57, 3, 0, (19, 1090, 3, 0), 0, 0, []),
  (17, .ifCond .eq 13, 3, 0, (30, 0, 0, 0), 0, 0, []),
  (20, .iload_n 3, 1, 0, (3, 0, 0, 0), 0, 0, []),
  (21, .iconst 0, 1, 0, (0, 0, 0, 0), 0, 0, []),
  (22, .bipush 89, 2, 0, (0, 0, 0, 0), 89, 0, []),
  (24, .invokestatic 57, 3, 0, (19, 1090, 3, 0), 0, 0, []),
  (27, .ifCond .ne 6, 3, 0, (33, 0, 0, 0), 0, 0, []),
  (30, .bipush (-2), 2, 0, (0, 0, 0, 0), (-2), 0, []),
  (32, .ireturn, 1, 0, (0, 0, 0, 0), 0, 0, []),
  (33, .iconst 0, 1, 0, (0, 0, 0, 0), 0, 0, []),
  (34, .istore 4, 2, 0, (4, 0, 0, 0), 0, 0, []),
  (36, .iload_n 3, 1, 0, (3, 0, 0, 0), 0, 0, []),
  (37, .istore 5, 2, 0, (5, 0, 0, 0), 0, 0, []),
  (39, .iload 5, 2, 1, (5, 0, 0, 0), 0, 0, []),
  (41, .bipush 90, 2, 0, (0, 0, 0, 0), 90, 0, []),
  (43, .if_icmp .ge 46, 3, 0, (89, 0, 0, 0), 0, 0, []),
  (46, .aload_n 0, 1, 0, (0, 0, 0, 0), 0, 0, []),
  (47, .getfield 10, 3, 0, (7, 1064, 0, 1), 0, 0, []),
  (50, .getfield 210, 3, 0, (1, 612, 11, 1), 0, 0, []),
  (53, .iload 5, 2, 0, (5, 0, 0, 0), 0, 0, []),
  (55, .iaload, 1, 0, (0, 0, 0, 0), 0, 0, []),
  (56, .iload_n 2, 1, 0, (2, 0, 0, 0), 0, 0, []),
  (57, .if_icmp .le 7, 3, 0, (64, 0, 0, 0), 0, 0, []),
  (60, .iconst 0, 1, 0, (0, 0, 0, 0), 0, 0, []),
  (61, .goto 7, 3, 0, (68, 0, 0, 0), 0, 0, []),
  (64, .iload 4, 2, 0, (4, 0, 0, 0), 0, 0, []),
  (66, .iconst 1, 1, 0, (0, 0, 0, 0), 1, 0, []),
  (67, .iadd, 1, 0, (0, 0, 0, 0), 0, 0, []),
  (68, .istore 4, 2, 0, (4, 0, 0, 0), 0, 0, []),
  (70, .iload 4, 2, 0, (4, 0, 0, 0), 0, 0, []),
  (72, .iload_n 1, 1, 0, (1, 0, 0, 0), 0, 0, []),
  (73, .if_icmp .ne 10, 3, 0, (83, 0, 0, 0), 0, 0, []),
  (76, .iload 5, 2, 0, (5, 0, 0, 0), 0, 0, []),
  (78, .iload_n 1, 1, 0, (1, 0, 0, 0), 0, 0, []),
  (79, .isub, 1, 0, (0, 0, 0, 0), 0, 0, []),
  (80, .iconst 1, 1, 0, (0, 0, 0, 0), 1, 0, []),
  (81, .iadd, 1, 0, (0, 0, 0, 0), 0, 0, []),
  (82, .ireturn, 1, 0, (0, 0, 0, 0), 0, 0, []),
  (83, .iinc 5 1, 3, 0, (5, 0, 0, 0), 1, 0, []),
  (86, .goto (-47), 3, 0, (39, 0, 0, 0), 0, 0, []),
  (89, .iconst (-1), 1, 0, (0, 0, 0, 0), (-1), 0, []),
  (90, .ireturn, 1, 0, (0, 0, 0, 0), 0, 0, [])]
def hk_m109 : hk_Q := (⟨"HullKeepers", "tow", "(III)I"⟩, prog_1_method_35_code, 6, (some .int), (4, 0, 0, 0, 0, 0), hk_c109)
def hk_c110 : List hk_E := [(0, .iload_n 1, 1, 0, (1, 0, 0, 0), 0, 0, []),
  (1, .iconst 0, 1, 0, (0, 0, 0, 0), 0, 0, []),
  (2, .bipush 31, 2, 0, (0, 0, 0, 0), 31, 0, []),
  (4, .invokestatic 57, 3, 0, (19, 1090, 3, 0), 0, 0, []),
  (7, .ifCond .eq 13, 3, 0, (20, 0, 0, 0), 0, 0, []),
  (10, .iload_n 2, 1, 0, (2, 0, 0, 0), 0, 0, []),
  (11, .iconst 1, 1, 0, (0, 0, 0, 0), 1, 0, []),
  (12, .bipush 60, 2, 0, (0, 0, 0, 0), 60, 0, []),
  (14, .invokestatic 57, 3, 0, (19, 1090, 3, 0), 0, 0, []),
  (17, .ifCond .ne 6, 3, 0, (23, 0, 0, 0), 0, 0, []),
  (20, .bipush (-2), 2, 0, (0, 0, 0, 0), (-2), 0, []),
  (22, .ireturn, 1, 0, (0, 0, 0, 0), 0, 0, []),
  (23, .aload_n 0, 1, 0, (0, 0, 0, 0), 0, 0, []),
  (24, .getfield 10, 3, 0, (7, 1064, 0, 1), 0, 0, []),
  (27, .getfield 213, 3, 0, (1, 602, 7, 1), 0, 0, []),
  (30, .invokevirtual 66, 3, 0, (11, 1094, 1, 7), 0, 0, []),
  (33, .ifCond .eq 8, 3, 0, (41, 0, 0, 0), 0, 0, []),
  (36, .bipush (-4), 2, 0, (0, 0, 0, 0), (-4), 0, []),
  (38, .goto 18, 3, 0, (56, 0, 0, 0), 0, 0, []),
  (41, .aload_n 0, 1, 0, (0, 0, 0, 0), 0, 0, []),
  (42, .getfield 10, 3, 0, (7, 1064, 0, 1), 0, 0, []),
  (45, .getfield 213, 3, 0, (1, 602, 7, 1), 0, 0, []),
  (48, .iload_n 1, 1, 0, (1, 0, 0, 0), 0, 0, []),
  (49, .iload_n 2, 1, 0, (2, 0, 0, 0), 0, 0, []),
  (50, .iconst 0, 1, 0, (0, 0, 0, 0), 0, 0, []),
  (51, .iconst 0, 1, 0, (0, 0, 0, 0), 0, 0, []),
  (52, .iconst 0, 1, 0, (0, 0, 0, 0), 0, 0, []),
  (53, .invokevirtual 72, 3, 0, (10, 1095, 6, 7), 0, 0, []),
  (56, .ireturn, 1, 0, (0, 0, 0, 0), 0, 0, [])]
def hk_m110 : hk_Q := (⟨"HullKeepers", "hand", "(II)I"⟩, prog_1_method_36_code, 3, (some .int), (3, 0, 0, 0, 0, 0), hk_c110)
def hk_c111 : List hk_E := [(0, .iload_n 1, 1, 0, (1, 0, 0, 0), 0, 0, []),
  (1, .iconst 0, 1, 0, (0, 0, 0, 0), 0, 0, []),
  (2, .iconst 4, 1, 0, (0, 0, 0, 0), 4, 0, []),
  (3, .invokestatic 57, 3, 0, (19, 1090, 3, 0), 0, 0, []),
  (6, .ifCond .eq 23, 3, 0, (29, 0, 0, 0), 0, 0, []),
  (9, .iload_n 2, 1, 0, (2, 0, 0, 0), 0, 0, []),
  (10, .iconst 1, 1, 0, (0, 0, 0, 0), 1, 0, []),
  (11, .bipush 100, 2, 0, (0, 0, 0, 0), 100, 0, []),
  (13, .invokestatic 57, 3, 0, (19, 1090, 3, 0), 0, 0, []),
  (16, .ifCond .eq 13, 3, 0, (29, 0, 0, 0), 0, 0, []),
  (19, .iload_n 3, 1, 0, (3, 0, 0, 0), 0, 0, []),
  (20, .iconst 1, 1, 0, (0, 0, 0, 0), 1, 0, []),
  (21, .bipush 100, 2, 0, (0, 0, 0, 0), 100, 0, []),
  (23, .invokestatic 57, 3, 0, (19, 1090, 3, 0), 0, 0, []),
  (26, .ifCond .ne 6, 3, 0, (32, 0, 0, 0), 0, 0, []),
  (29, .bipush (-2), 2, 0, (0, 0, 0, 0), (-2), 0, []),
  (31, .ireturn, 1, 0, (0, 0, 0, 0), 0, 0, []),
  (32, .aload_n 0, 1, 0, (0, 0, 0, 0), 0, 0, []),
  (33, .getfield 10, 3, 0, (7, 1064, 0, 1), 0, 0, []),
  (36, .getfield 216, 3, 0, (1, 605, 8, 1), 0, 0, []),
  (39, .invokevirtual 66, 3, 0, (11, 1094, 1, 7), 0, 0, []),
  (42, .ifCond .eq 8, 3, 0, (50, 0, 0, 0), 0, 0, []),
  (45, .bipush (-4), 2, 0, (0, 0, 0, 0), (-4), 0, []),
  (47, .goto 18, 3, 0, (65, 0, 0, 0), 0, 0, []),
  (50, .aload_n 0, 1, 0, (0, 0, 0, 0), 0, 0, []),
  (51, .getfield 10, 3, 0, (7, 1064, 0, 1), 0, 0, []),
  (54, .getfield 216, 3, 0, (1, 605, 8, 1), 0, 0, []),
  (57, .iload_n 1, 1, 0, (1, 0, 0, 0), 0, 0, []),
  (58, .iload_n 2, 1, 0, (2, 0, 0, 0), 0, 0, []),
  (59, .iload_n 3, 1, 0, (3, 0, 0, 0), 0, 0, []),
  (60, .iconst 0, 1, 0, (0, 0, 0, 0), 0, 0, []),
  (61, .iconst 0, 1, 0, (0, 0, 0, 0), 0, 0, []),
  (62, .invokevirtual 72, 3, 0, (10, 1095, 6, 7), 0, 0, []),
  (65, .ireturn, 1, 0, (0, 0, 0, 0), 0, 0, [])]
def hk_m111 : hk_Q := (⟨"HullKeepers", "work", "(III)I"⟩, prog_1_method_37_code, 4, (some .int), (4, 0, 0, 0, 0, 0), hk_c111)
def hk_c112 : List hk_E := [(0, .iload_n 1, 1, 0, (1, 0, 0, 0), 0, 0, []),
  (1, .iconst 0, 1, 0, (0, 0, 0, 0), 0, 0, []),
  (2, .iconst 1, 1, 0, (0, 0, 0, 0), 1, 0, []),
  (3, .invokestatic 57, 3, 0, (19, 1090, 3, 0), 0, 0, []),
  (6, .ifCond .ne 6, 3, 0, (12, 0, 0, 0), 0, 0, []),
  (9, .bipush (-2), 2, 0, (0, 0, 0, 0), (-2), 0, []),
  (11, .ireturn, 1, 0, (0, 0, 0, 0), 0, 0, []),
  (12, .aload_n 0, 1, 0, (0, 0, 0, 0), 0, 0, []),
  (13, .getfield 53, 3, 0, (7, 1070, 6, 1), 0, 0, []),
  (16, .aload_n 0, 1, 0, (0, 0, 0, 0), 0, 0, []),
  (17, .getfield 10, 3, 0, (7, 1064, 0, 1), 0, 0, []),
  (20, .invokevirtual 219, 3, 0, (120, 2072, 2, 1), 0, 0, []),
  (23, .iload_n 1, 1, 0, (1, 0, 0, 0), 0, 0, []),
  (24, .ifCond .ne 13, 3, 0, (37, 0, 0, 0), 0, 0, []),
  (27, .aload_n 0, 1, 0, (0, 0, 0, 0), 0, 0, []),
  (28, .getfield 53, 3, 0, (7, 1070, 6, 1), 0, 0, []),
  (31, .getfield 222, 3, 0, (0, 1052, 2, 0), 0, 0, []),
  (34, .goto 10, 3, 0, (44, 0, 0, 0), 0, 0, []),
  (37, .aload_n 0, 1, 0, (0, 0, 0, 0), 0, 0, []),
  (38, .getfield 53, 3, 0, (7, 1070, 6, 1), 0, 0, []),
  (41, .getfield 225, 3, 0, (0, 1054, 3, 0), 0, 0, []),
  (44, .ireturn, 1, 0, (0, 0, 0, 0), 0, 0, [])]
def hk_m112 : hk_Q := (⟨"HullKeepers", "done", "(I)I"⟩, prog_1_method_38_code, 2, (some .int), (2, 0, 0, 0, 0, 0), hk_c112)
def hk_c113 : List hk_E := [(0, .aload_n 0, 1, 0, (0, 0, 0, 0), 0, 0, []),
  (1, .aload_n 1, 1, 0, (1, 0, 0, 0), 0, 0, []),
  (2, .getfield 18, 3, 0, (1, 601, 7, 1), 0, 0, []),
  (5, .invokevirtual 24, 3, 0, (121, 2076, 2, 1), 0, 0, []),
  (8, .aload_n 0, 1, 0, (0, 0, 0, 0), 0, 0, []),
  (9, .iconst 0, 1, 0, (0, 0, 0, 0), 0, 0, []),
  (10, .putfield 28, 3, 0, (0, 1051, 2, 0), 0, 0, []),
  (13, .aload_n 0, 1, 0, (0, 0, 0, 0), 0, 0, []),
  (14, .iconst 0, 1, 0, (0, 0, 0, 0), 0, 0, []),
  (15, .putfield 32, 3, 0, (0, 1053, 3, 0), 0, 0, []),
  (18, .iconst 0, 1, 0, (0, 0, 0, 0), 0, 0, []),
  (19, .istore_n 2, 1, 0, (2, 0, 0, 0), 0, 0, []),
  (20, .iload_n 2, 1, 1, (2, 0, 0, 0), 0, 0, []),
  (21, .iconst 1, 1, 0, (0, 0, 0, 0), 1, 0, []),
  (22, .aload_n 1, 1, 0, (1, 0, 0, 0), 0, 0, []),
  (23, .getfield 35, 3, 0, (1, 604, 8, 1), 0, 0, []),
  (26, .getfield 38, 3, 0, (6, 554, 3, 0), 0, 0, []),
  (29, .ishl, 1, 0, (0, 0, 0, 0), 0, 0, []),
  (30, .if_icmp .ge 48, 3, 0, (78, 0, 0, 0), 0, 0, []),
  (33, .aload_n 1, 1, 0, (1, 0, 0, 0), 0, 0, []),
  (34, .getfield 35, 3, 0, (1, 604, 8, 1), 0, 0, []),
  (37, .iload_n 2, 1, 0, (2, 0, 0, 0), 0, 0, []),
  (38, .invokestatic 43, 3, 0, (122, 2081, 2, 0), 0, 0, []),
  (41, .istore_n 3, 1, 0, (3, 0, 0, 0), 0, 0, []),
  (42, .iload_n 3, 1, 0, (3, 0, 0, 0), 0, 0, []),
  (43, .aload_n 0, 1, 0, (0, 0, 0, 0), 0, 0, []),
  (44, .getfield 32, 3, 0, (0, 1053, 3, 0), 0, 0, []),
  (47, .if_icmp .le 25, 3, 0, (72, 0, 0, 0), 0, 0, []),
  (50, .aload_n 0, 1, 0, (0, 0, 0, 0), 0, 0, []),
  (51, .aload_n 1, 1, 0, (1, 0, 0, 0), 0, 0, []),
  (52, .getfield 35, 3, 0, (1, 604, 8, 1), 0, 0, []),
  (55, .iload_n 2, 1, 0, (2, 0, 0, 0), 0, 0, []),
  (56, .invokevirtual 47, 3, 0, (123, 2084, 3, 1), 0, 0, []),
  (59, .ifCond .eq 13, 3, 0, (72, 0, 0, 0), 0, 0, []),
  (62, .aload_n 0, 1, 0, (0, 0, 0, 0), 0, 0, []),
  (63, .iload_n 2, 1, 0, (2, 0, 0, 0), 0, 0, []),
  (64, .putfield 28, 3, 0, (0, 1051, 2, 0), 0, 0, []),
  (67, .aload_n 0, 1, 0, (0, 0, 0, 0), 0, 0, []),
  (68, .iload_n 3, 1, 0, (3, 0, 0, 0), 0, 0, []),
  (69, .putfield 32, 3, 0, (0, 1053, 3, 0), 0, 0, []),
  (72, .iinc 2 1, 3, 0, (2, 0, 0, 0), 1, 0, []),
  (75, .goto (-55), 3, 0, (20, 0, 0, 0), 0, 0, []),
  (78, .return_, 1, 0, (0, 0, 0, 0), 0, 0, [])]
def hk_m113 : hk_Q := (⟨"HullKeepers$Crew", "choose", "(LHullKeepers$House;)V"⟩, prog_2_method_2_code, 4, none, (2, 0, 0, 0, 0, 0), hk_c113)
def hk_c114 : List hk_E := [(0, .iconst 0, 1, 0, (0, 0, 0, 0), 0, 0, []),
  (1, .istore_n 2, 1, 0, (2, 0, 0, 0), 0, 0, []),
  (2, .iload_n 2, 1, 1, (2, 0, 0, 0), 0, 0, []),
  (3, .bipush 31, 2, 0, (0, 0, 0, 0), 31, 0, []),
  (5, .if_icmp .gt 58, 3, 0, (63, 0, 0, 0), 0, 0, []),
  (8, .aload_n 0, 1, 0, (0, 0, 0, 0), 0, 0, []),
  (9, .getfield 9, 3, 0, (0, 1049, 0, 1), 0, 0, []),
  (12, .iload_n 2, 1, 0, (2, 0, 0, 0), 0, 0, []),
  (13, .iconst 0, 1, 0, (0, 0, 0, 0), 0, 0, []),
  (14, .iastore, 1, 0, (0, 0, 0, 0), 0, 0, []),
  (15, .iconst 0, 1, 0, (0, 0, 0, 0), 0, 0, []),
  (16, .istore_n 3, 1, 0, (3, 0, 0, 0), 0, 0, []),
  (17, .iload_n 3, 1, 1, (3, 0, 0, 0), 0, 0, []),
  (18, .aload_n 1, 1, 0, (1, 0, 0, 0), 0, 0, []),
  (19, .getfield 38, 3, 0, (6, 554, 3, 0), 0, 0, []),
  (22, .if_icmp .ge 35, 3, 0, (57, 0, 0, 0), 0, 0, []),
  (25, .aload_n 1, 1, 0, (1, 0, 0, 0), 0, 0, []),
  (26, .iload_n 3, 1, 0, (3, 0, 0, 0), 0, 0, []),
  (27, .iconst 0, 1, 0, (0, 0, 0, 0), 0, 0, []),
  (28, .invokevirtual 51, 3, 0, (23, 2080, 3, 7), 0, 0, []),
  (31, .iload_n 2, 1, 0, (2, 0, 0, 0), 0, 0, []),
  (32, .iand, 1, 0, (0, 0, 0, 0), 0, 0, []),
  (33, .ifCond .eq 18, 3, 0, (51, 0, 0, 0), 0, 0, []),
  (36, .aload_n 0, 1, 0, (0, 0, 0, 0), 0, 0, []),
  (37, .getfield 9, 3, 0, (0, 1049, 0, 1), 0, 0, []),
  (40, .iload_n 2, 1, 0, (2, 0, 0, 0), 0, 0, []),
  (41, .dup2, 1, 0, (0, 0, 0, 0), 0, 0, []),
  (42, .iaload, 1, 0, (0, 0, 0, 0), 0, 0, []),
  (43, .aload_n 1, 1, 0, (1, 0, 0, 0), 0, 0, []),
  (44, .iload_n 3, 1, 0, (3, 0, 0, 0), 0, 0, []),
  (45, .iconst 1, 1, 0, (0, 0, 0, 0), 1, 0, []),
  (46, .invokevirtual 51, 3, 0, (23, 2080, 3, 7), 0, 0, []),
  (49, .iadd, 1, 0, (0, 0, 0, 0), 0, 0, []),
  (50, .iastore, 1, 0, (0, 0, 0, 0), 0, 0, []),
  (51, .iinc 3 1, 3, 0, (3, 0, 0, 0), 1, 0, []),
  (54, .goto (-37), 3, 0, (17, 0, 0, 0), 0, 0, []),
  (57, .iinc 2 1, 3, 0, (2, 0, 0, 0), 1, 0, []),
  (60, .goto (-58), 3, 0, (2, 0, 0, 0), 0, 0, []),
  (63, .return_, 1, 0, (0, 0, 0, 0), 0, 0, [])]
def hk_m114 : hk_Q := (⟨"HullKeepers$Crew", "supplyAll", "(LHullKeepers$Table;)V"⟩, prog_2_method_3_code, 4, none, (2, 0, 0, 0, 0, 0), hk_c114)
def hk_c115 : List hk_E := [(0, .iconst 0, 1, 0, (0, 0, 0, 0), 0, 0, []),
  (1, .istore_n 2, 1, 0, (2, 0, 0, 0), 0, 0, []),
  (2, .iconst 0, 1, 0, (0, 0, 0, 0), 0, 0, []),
  (3, .istore_n 3, 1, 0, (3, 0, 0, 0), 0, 0, []),
  (4, .iload_n 3, 1, 1, (3, 0, 0, 0), 0, 0, []),
  (5, .aload_n 0, 1, 0, (0, 0, 0, 0), 0, 0, []),
  (6, .getfield 38, 3, 0, (6, 554, 3, 0), 0, 0, []),
  (9, .if_icmp .ge 27, 3, 0, (36, 0, 0, 0), 0, 0, []),
  (12, .iload_n 1, 1, 0, (1, 0, 0, 0), 0, 0, []),
  (13, .iload_n 3, 1, 0, (3, 0, 0, 0), 0, 0, []),
  (14, .ishr, 1, 0, (0, 0, 0, 0), 0, 0, []),
  (15, .iconst 1, 1, 0, (0, 0, 0, 0), 1, 0, []),
  (16, .iand, 1, 0, (0, 0, 0, 0), 0, 0, []),
  (17, .iconst 1, 1, 0, (0, 0, 0, 0), 1, 0, []),
  (18, .if_icmp .ne 12, 3, 0, (30, 0, 0, 0), 0, 0, []),
  (21, .iload_n 2, 1, 0, (2, 0, 0, 0), 0, 0, []),
  (22, .aload_n 0, 1, 0, (0, 0, 0, 0), 0, 0, []),
  (23, .iload_n 3, 1, 0, (3, 0, 0, 0), 0, 0, []),
  (24, .iconst 2, 1, 0, (0, 0, 0, 0), 2, 0, []),
  (25, .invokevirtual 51, 3, 0, (23, 2080, 3, 7), 0, 0, []),
  (28, .iadd, 1, 0, (0, 0, 0, 0), 0, 0, []),
  (29, .istore_n 2, 1, 0, (2, 0, 0, 0), 0, 0, []),
  (30, .iinc 3 1, 3, 0, (3, 0, 0, 0), 1, 0, []),
  (33, .goto (-29), 3, 0, (4, 0, 0, 0), 0, 0, []),
  (36, .iload_n 2, 1, 0, (2, 0, 0, 0), 0, 0, []),
  (37, .ireturn, 1, 0, (0, 0, 0, 0), 0, 0, [])]
def hk_m115 : hk_Q := (⟨"HullKeepers$Crew", "worthOf", "(LHullKeepers$Table;I)I"⟩, prog_2_method_4_code, 4, (some .int), (2, 2, 0, 0, 0, 0), hk_c115)
def hk_c116 : List hk_E := [(0, .aload_n 0, 1, 0, (0, 0, 0, 0), 0, 0, []),
  (1, .aload_n 1, 1, 0, (1, 0, 0, 0), 0, 0, []),
  (2, .iload_n 2, 1, 0, (2, 0, 0, 0), 0, 0, []),
  (3, .invokevirtual 55, 3, 0, (124, 2088, 3, 1), 0, 0, []),
  (6, .iconst 0, 1, 0, (0, 0, 0, 0), 0, 0, []),
  (7, .istore_n 3, 1, 0, (3, 0, 0, 0), 0, 0, []),
  (8, .iload_n 3, 1, 1, (3, 0, 0, 0), 0, 0, []),
  (9, .bipush 31, 2, 0, (0, 0, 0, 0), 31, 0, []),
  (11, .if_icmp .gt 62, 3, 0, (73, 0, 0, 0), 0, 0, []),
  (14, .iconst 0, 1, 0, (0, 0, 0, 0), 0, 0, []),
  (15, .istore 4, 2, 0, (4, 0, 0, 0), 0, 0, []),
  (17, .iconst 0, 1, 0, (0, 0, 0, 0), 0, 0, []),
  (18, .istore 5, 2, 0, (5, 0, 0, 0), 0, 0, []),
  (20, .iload 5, 2, 1, (5, 0, 0, 0), 0, 0, []),
  (22, .iconst 5, 1, 0, (0, 0, 0, 0), 5, 0, []),
  (23, .if_icmp .ge 31, 3, 0, (54, 0, 0, 0), 0, 0, []),
  (26, .iload_n 3, 1, 0, (3, 0, 0, 0), 0, 0, []),
  (27, .iload 5, 2, 0, (5, 0, 0, 0), 0, 0, []),
  (29, .ishr, 1, 0, (0, 0, 0, 0), 0, 0, []),
  (30, .iconst 1, 1, 0, (0, 0, 0, 0), 1, 0, []),
  (31, .iand, 1, 0, (0, 0, 0, 0), 0, 0, []),
  (32, .iconst 1, 1, 0, (0, 0, 0, 0), 1, 0, []),
  (33, .if_icmp .ne 15, 3, 0, (48, 0, 0, 0), 0, 0, []),
  (36, .iload 4, 2, 0, (4, 0, 0, 0), 0, 0, []),
  (38, .aload_n 0, 1, 0, (0, 0, 0, 0), 0, 0, []),
  (39, .getfield 15, 3, 0, (0, 1050, 1, 1), 0, 0, []),
  (42, .iload 5, 2, 0, (5, 0, 0, 0), 0, 0, []),
  (44, .iaload, 1, 0, (0, 0, 0, 0), 0, 0, []),
  (45, .iadd, 1, 0, (0, 0, 0, 0), 0, 0, []),
  (46, .istore 4, 2, 0, (4, 0, 0, 0), 0, 0, []),
  (48, .iinc 5 1, 3, 0, (5, 0, 0, 0), 1, 0, []),
  (51, .goto (-31), 3, 0, (20, 0, 0, 0), 0, 0, []),
  (54, .iload 4, 2, 0, (4, 0, 0, 0), 0, 0, []),
  (56, .aload_n 0, 1, 0, (0, 0, 0, 0), 0, 0, []),
  (57, .getfield 9, 3, 0, (0, 1049, 0, 1), 0, 0, []),
  (60, .iload_n 3, 1, 0, (3, 0, 0, 0), 0, 0, []),
  (61, .iaload, 1, 0, (0, 0, 0, 0), 0, 0, []),
  (62, .if_icmp .le 5, 3, 0, (67, 0, 0, 0), 0, 0, []),
  (65, .iconst 0, 1, 0, (0, 0, 0, 0), 0, 0, []),
  (66, .ireturn, 1, 0, (0, 0, 0, 1), 0, 0, []),
  (67, .iinc 3 1, 3, 0, (3, 0, 0, 0), 1, 0, []),
  (70, .goto (-62), 3, 0, (8, 0, 0, 0), 0, 0, []),
  (73, .iconst 1, 1, 0, (0, 0, 0, 0), 1, 0, []),
  (74, .ireturn, 1, 0, (0, 0, 0, 1), 0, 0, [])]
def hk_m116 : hk_Q := (⟨"HullKeepers$Crew", "canDo", "(LHullKeepers$Table;I)Z"⟩, prog_2_method_5_code, 6, (some .boolean), (3, 0, 0, 0, 0, 0), hk_c116)
def hk_c117 : List hk_E := [(0, .aload_n 0, 1, 0, (0, 0, 0, 0), 0, 0, []),
  (1, .getfield 15, 3, 0, (0, 1050, 1, 1), 0, 0, []),
  (4, .iconst 0, 1, 0, (0, 0, 0, 0), 0, 0, []),
  (5, .invokestatic 59, 3, 0, (125, 2092, 2, 0), 0, 0, []),
  (8, .iconst 0, 1, 0, (0, 0, 0, 0), 0, 0, []),
  (9, .istore_n 3, 1, 0, (3, 0, 0, 0), 0, 0, []),
  (10, .iload_n 3, 1, 1, (3, 0, 0, 0), 0, 0, []),
  (11, .aload_n 1, 1, 0, (1, 0, 0, 0), 0, 0, []),
  (12, .getfield 38, 3, 0, (6, 554, 3, 0), 0, 0, []),
  (15, .if_icmp .ge 52, 3, 0, (67, 0, 0, 0), 0, 0, []),
  (18, .aload_n 1, 1, 0, (1, 0, 0, 0), 0, 0, []),
  (19, .iload_n 3, 1, 0, (3, 0, 0, 0), 0, 0, []),
  (20, .iconst 0, 1, 0, (0, 0, 0, 0), 0, 0, []),
  (21, .invokevirtual 51, 3, 0, (23, 2080, 3, 7), 0, 0, []),
  (24, .istore 4, 2, 0, (4, 0, 0, 0), 0, 0, []),
  (26, .iload_n 2, 1, 0, (2, 0, 0, 0), 0, 0, []),
  (27, .iload_n 3, 1, 0, (3, 0, 0, 0), 0, 0, []),
  (28, .ishr, 1, 0, (0, 0, 0, 0), 0, 0, []),
  (29, .iconst 1, 1, 0, (0, 0, 0, 0), 1, 0, []),
  (30, .iand, 1, 0, (0, 0, 0, 0), 0, 0, []),
  (31, .iconst 1, 1, 0, (0, 0, 0, 0), 1, 0, []),
  (32, .if_icmp .ne 29, 3, 0, (61, 0, 0, 0), 0, 0, []),
  (35, .iload 4, 2, 0, (4, 0, 0, 0), 0, 0, []),
  (37, .iconst 0, 1, 0, (0, 0, 0, 0), 0, 0, []),
  (38, .iconst 4, 1, 0, (0, 0, 0, 0), 4, 0, []),
  (39, .invokestatic 65, 3, 0, (19, 1, 3, 0), 0, 0, []),
  (42, .ifCond .eq 19, 3, 0, (61, 0, 0, 0), 0, 0, []),
  (45, .aload_n 0, 1, 0, (0, 0, 0, 0), 0, 0, []),
  (46, .getfield 15, 3, 0, (0, 1050, 1, 1), 0, 0, []),
  (49, .iload 4, 2, 0, (4, 0, 0, 0), 0, 0, []),
  (51, .dup2, 1, 0, (0, 0, 0, 0), 0, 0, []),
  (52, .iaload, 1, 0, (0, 0, 0, 0), 0, 0, []),
  (53, .aload_n 1, 1, 0, (1, 0, 0, 0), 0, 0, []),
  (54, .iload_n 3, 1, 0, (3, 0, 0, 0), 0, 0, []),
  (55, .iconst 1, 1, 0, (0, 0, 0, 0), 1, 0, []),
  (56, .invokevirtual 51, 3, 0, (23, 2080, 3, 7), 0, 0, []),
  (59, .iadd, 1, 0, (0, 0, 0, 0), 0, 0, []),
  (60, .iastore, 1, 0, (0, 0, 0, 0), 0, 0, []),
  (61, .iinc 3 1, 3, 0, (3, 0, 0, 0), 1, 0, []),
  (64, .goto (-54), 3, 0, (10, 0, 0, 0), 0, 0, []),
  (67, .return_, 1, 0, (0, 0, 0, 0), 0, 0, [])]
def hk_m117 : hk_Q := (⟨"HullKeepers$Crew", "needAll", "(LHullKeepers$Table;I)V"⟩, prog_2_method_6_code, 5, none, (3, 0, 0, 0, 0, 0), hk_c117)
def hk_c118 : List hk_E := [(0, .iconst 0, 1, 0, (0, 0, 0, 0), 0, 0, []),
  (1, .istore_n 2, 1, 0, (2, 0, 0, 0), 0, 0, []),
  (2, .aload_n 0, 1, 0, (0, 0, 0, 0), 0, 0, []),
  (3, .arraylength, 1, 0, (0, 0, 0, 0), 0, 0, []),
  (4, .istore_n 3, 1, 0, (3, 0, 0, 0), 0, 0, []),
  (5, .iload_n 2, 1, 1, (2, 0, 0, 0), 0, 0, []),
  (6, .iload_n 3, 1, 0, (3, 0, 0, 0), 0, 0, []),
  (7, .if_icmp .ge 13, 3, 0, (20, 0, 0, 0), 0, 0, []),
  (10, .aload_n 0, 1, 0, (0, 0, 0, 0), 0, 0, []),
  (11, .iload_n 2, 1, 0, (2, 0, 0, 0), 0, 0, []),
  (12, .iload_n 1, 1, 0, (1, 0, 0, 0), 0, 0, []),
  (13, .iastore, 1, 0, (0, 0, 0, 0), 0, 0, []),
  (14, .iinc 2 1, 3, 0, (2, 0, 0, 0), 1, 0, []),
  (17, .goto (-12), 3, 0, (5, 0, 0, 0), 0, 0, []),
  (20, .return_, 1, 0, (0, 0, 0, 0), 0, 0, [])]
def hk_m118 : hk_Q := (⟨"java/util/Arrays", "fill", "([II)V"⟩, prog_14_method_103_code, 4, none, (2, 2, 0, 0, 0, 0), hk_c118)
def hk_c119 : List hk_E := [(0, .iload_n 1, 1, 0, (1, 0, 0, 0), 0, 0, []),
  (1, .iconst 1, 1, 0, (0, 0, 0, 0), 1, 0, []),
  (2, .ldc 117, 2, 0, (0, 1152, 0, 0), 100000, 0, []),
  (4, .invokestatic 57, 3, 0, (19, 1090, 3, 0), 0, 0, []),
  (7, .ifCond .eq 20, 3, 0, (27, 0, 0, 0), 0, 0, []),
  (10, .aload_n 0, 1, 0, (0, 0, 0, 0), 0, 0, []),
  (11, .iload_n 2, 1, 0, (2, 0, 0, 0), 0, 0, []),
  (12, .invokevirtual 121, 3, 0, (34, 1157, 2, 8), 0, 0, []),
  (15, .ifCond .eq 12, 3, 0, (27, 0, 0, 0), 0, 0, []),
  (18, .iload_n 3, 1, 0, (3, 0, 0, 0), 0, 0, []),
  (19, .iconst 0, 1, 0, (0, 0, 0, 0), 0, 0, []),
  (20, .iconst 1, 1, 0, (0, 0, 0, 0), 1, 0, []),
  (21, .invokestatic 57, 3, 0, (19, 1090, 3, 0), 0, 0, []),
  (24, .ifCond .ne 6, 3, 0, (30, 0, 0, 0), 0, 0, []),
  (27, .bipush (-2), 2, 0, (0, 0, 0, 0), (-2), 0, []),
  (29, .ireturn, 1, 0, (0, 0, 0, 0), 0, 0, []),
  (30, .aload_n 0, 1, 0, (0, 0, 0, 0), 0, 0, []),
  (31, .getfield 32, 3, 0, (7, 1067, 3, 1), 0, 0, []),
  (34, .aload_n 0, 1, 0, (0, 0, 0, 0), 0, 0, []),
  (35, .getfield 10, 3, 0, (7, 1064, 0, 1), 0, 0, []),
  (38, .iload_n 1, 1, 0, (1, 0, 0, 0), 0, 0, []),
  (39, .iload_n 2, 1, 0, (2, 0, 0, 0), 0, 0, []),
  (40, .invokevirtual 228, 3, 0, (127, 2100, 4, 6), 0, 0, []),
  (43, .iload_n 3, 1, 0, (3, 0, 0, 0), 0, 0, []),
  (44, .ifCond .ne 13, 3, 0, (57, 0, 0, 0), 0, 0, []),
  (47, .aload_n 0, 1, 0, (0, 0, 0, 0), 0, 0, []),
  (48, .getfield 32, 3, 0, (7, 1067, 3, 1), 0, 0, []),
  (51, .getfield 232, 3, 0, (5, 699, 3, 0), 0, 0, []),
  (54, .goto 10, 3, 0, (64, 0, 0, 0), 0, 0, []),
  (57, .aload_n 0, 1, 0, (0, 0, 0, 0), 0, 0, []),
  (58, .getfield 32, 3, 0, (7, 1067, 3, 1), 0, 0, []),
  (61, .getfield 235, 3, 0, (5, 701, 4, 0), 0, 0, []),
  (64, .ireturn, 1, 0, (0, 0, 0, 0), 0, 0, [])]
def hk_m119 : hk_Q := (⟨"HullKeepers", "worst", "(III)I"⟩, prog_1_method_39_code, 4, (some .int), (4, 0, 0, 0, 0, 0), hk_c119)
def hk_c120 : List hk_E := [(0, .iload_n 3, 1, 0, (3, 0, 0, 0), 0, 0, []),
  (1, .bipush 60, 2, 0, (0, 0, 0, 0), 60, 0, []),
  (3, .invokestatic 21, 3, 0, (4, 2104, 0, 0), 0, 0, []),
  (6, .istore 4, 2, 0, (4, 0, 0, 0), 0, 0, []),
  (8, .aload_n 1, 1, 0, (1, 0, 0, 0), 0, 0, []),
  (9, .getfield 27, 3, 0, (1, 583, 0, 1), 0, 0, []),
  (12, .getfield 33, 3, 0, (6, 553, 3, 0), 0, 0, []),
  (15, .bipush 6, 2, 0, (0, 0, 0, 0), 6, 0, []),
  (17, .invokestatic 21, 3, 0, (4, 2104, 0, 0), 0, 0, []),
  (20, .istore 5, 2, 0, (5, 0, 0, 0), 0, 0, []),
  (22, .iconst 0, 1, 0, (0, 0, 0, 0), 0, 0, []),
  (23, .istore 6, 2, 0, (6, 0, 0, 0), 0, 0, []),
  (25, .iload 6, 2, 1, (6, 0, 0, 0), 0, 0, []),
  (27, .iload 4, 2, 0, (4, 0, 0, 0), 0, 0, []),
  (29, .if_icmp .ge 48, 3, 0, (77, 0, 0, 0), 0, 0, []),
  (32, .iconst 0, 1, 0, (0, 0, 0, 0), 0, 0, []),
  (33, .istore 7, 2, 0, (7, 0, 0, 0), 0, 0, []),
  (35, .iload 7, 2, 1, (7, 0, 0, 0), 0, 0, []),
  (37, .iload 5, 2, 0, (5, 0, 0, 0), 0, 0, []),
  (39, .if_icmp .ge 32, 3, 0, (71, 0, 0, 0), 0, 0, []),
  (42, .aload_n 0, 1, 0, (0, 0, 0, 0), 0, 0, []),
  (43, .getfield 9, 3, 0, (5, 695, 0, 1), 0, 0, []),
  (46, .iload 6, 2, 0, (6, 0, 0, 0), 0, 0, []),
  (48, .bipush 6, 2, 0, (0, 0, 0, 0), 6, 0, []),
  (50, .imul, 1, 0, (0, 0, 0, 0), 0, 0, []),
  (51, .iload 7, 2, 0, (7, 0, 0, 0), 0, 0, []),
  (53, .iadd, 1, 0, (0, 0, 0, 0), 0, 0, []),
  (54, .aload_n 1, 1, 0, (1, 0, 0, 0), 0, 0, []),
  (55, .iload 7, 2, 0, (7, 0, 0, 0), 0, 0, []),
  (57, .iload 6, 2, 0, (6, 0, 0, 0), 0, 0, []),
  (59, .iconst 1, 1, 0, (0, 0, 0, 0), 1, 0, []),
  (60, .iadd, 1, 0, (0, 0, 0, 0), 0, 0, []),
  (61, .invokevirtual 39, 3, 0, (38, 2105, 3, 2), 0, 0, []),
  (64, .iastore, 1, 0, (0, 0, 0, 0), 0, 0, []),
  (65, .iinc 7 1, 3, 0, (7, 0, 0, 0), 1, 0, []),
  (68, .goto (-33), 3, 0, (35, 0, 0, 0), 0, 0, []),
  (71, .iinc 6 1, 3, 0, (6, 0, 0, 0), 1, 0, []),
  (74, .goto (-49), 3, 0, (25, 0, 0, 0), 0, 0, []),
  (77, .aload_n 0, 1, 0, (0, 0, 0, 0), 0, 0, []),
  (78, .aload_n 1, 1, 0, (1, 0, 0, 0), 0, 0, []),
  (79, .getfield 42, 3, 0, (1, 613, 12, 0), 0, 0, []),
  (82, .putfield 45, 3, 0, (5, 698, 3, 0), 0, 0, []),
  (85, .aload_n 0, 1, 0, (0, 0, 0, 0), 0, 0, []),
  (86, .iconst 0, 1, 0, (0, 0, 0, 0), 0, 0, []),
  (87, .putfield 48, 3, 0, (5, 700, 4, 0), 0, 0, []),
  (90, .iconst 0, 1, 0, (0, 0, 0, 0), 0, 0, []),
  (91, .istore 6, 2, 0, (6, 0, 0, 0), 0, 0, []),
  (93, .iload 6, 2, 1, (6, 0, 0, 0), 0, 0, []),
  (95, .iload 4, 2, 0, (4, 0, 0, 0), 0, 0, []),
  (97, .if_icmp .ge 47, 3, 0, (144, 0, 0, 0), 0, 0, []),
  (100, .aload_n 0, 1, 0, (0, 0, 0, 0), 0, 0, []),
  (101, .aload_n 1, 1, 0, (1, 0, 0, 0), 0, 0, []),
  (102, .iload_n 2, 1, 0, (2, 0, 0, 0), 0, 0, []),
  (103, .iload 6, 2, 0, (6, 0, 0, 0), 0, 0, []),
  (105, .iload 4, 2, 0, (4, 0, 0, 0), 0, 0, []),
  (107, .invokevirtual 51, 3, 0, (128, 2106, 5, 6), 0, 0, []),
  (110, .istore 7, 2, 0, (7, 0, 0, 0), 0, 0, []),
  (112, .iload 7, 2, 0, (7, 0, 0, 0), 0, 0, []),
  (114, .aload_n 0, 1, 0, (0, 0, 0, 0), 0, 0, []),
  (115, .getfield 48, 3, 0, (5, 700, 4, 0), 0, 0, []),
  (118, .if_icmp .le 20, 3, 0, (138, 0, 0, 0), 0, 0, []),
  (121, .aload_n 0, 1, 0, (0, 0, 0, 0), 0, 0, []),
  (122, .iload 7, 2, 0, (7, 0, 0, 0), 0, 0, []),
  (124, .putfield 48, 3, 0, (5, 700, 4, 0), 0, 0, []),
  (127, .aload_n 0, 1, 0, (0, 0, 0, 0), 0, 0, []),
  (128, .aload_n 1, 1, 0, (1, 0, 0, 0), 0, 0, []),
  (129, .getfield 42, 3, 0, (1, 613, 12, 0), 0, 0, []),
  (132, .iload 6, 2, 0, (6, 0, 0, 0), 0, 0, []),
  (134, .iadd, 1, 0, (0, 0, 0, 0), 0, 0, []),
  (135, .putfield 45, 3, 0, (5, 698, 3, 0), 0, 0, []),
  (138, .iinc 6 1, 3, 0, (6, 0, 0, 0), 1, 0, []),
  (141, .goto (-48), 3, 0, (93, 0, 0, 0), 0, 0, []),
  (144, .return_, 1, 0, (0, 0, 0, 0), 0, 0, [])]
def hk_m120 : hk_Q := (⟨"HullKeepers$Storms", "seek", "(LHullKeepers$House;II)V"⟩, prog_7_method_2_code, 8, none, (4, 0, 0, 0, 0, 0), hk_c120)
def hk_c121 : List hk_E := [(0, .iconst 0, 1, 0, (0, 0, 0, 0), 0, 0, []),
  (1, .istore 5, 2, 0, (5, 0, 0, 0), 0, 0, []),
  (3, .iload 5, 2, 1, (5, 0, 0, 0), 0, 0, []),
  (5, .bipush 6, 2, 0, (0, 0, 0, 0), 6, 0, []),
  (7, .if_icmp .ge 44, 3, 0, (51, 0, 0, 0), 0, 0, []),
  (10, .aload_n 0, 1, 0, (0, 0, 0, 0), 0, 0, []),
  (11, .getfield 15, 3, 0, (5, 696, 1, 1), 0, 0, []),
  (14, .iload 5, 2, 0, (5, 0, 0, 0), 0, 0, []),
  (16, .aload_n 1, 1, 0, (1, 0, 0, 0), 0, 0, []),
  (17, .getfield 27, 3, 0, (1, 583, 0, 1), 0, 0, []),
  (20, .iload 5, 2, 0, (5, 0, 0, 0), 0, 0, []),
  (22, .iconst 5, 1, 0, (0, 0, 0, 0), 5, 0, []),
  (23, .invokevirtual 55, 3, 0, (23, 2110, 3, 7), 0, 0, []),
  (26, .iastore, 1, 0, (0, 0, 0, 0), 0, 0, []),
  (27, .aload_n 0, 1, 0, (0, 0, 0, 0), 0, 0, []),
  (28, .getfield 18, 3, 0, (5, 697, 2, 1), 0, 0, []),
  (31, .iload 5, 2, 0, (5, 0, 0, 0), 0, 0, []),
  (33, .aload_n 1, 1, 0, (1, 0, 0, 0), 0, 0, []),
  (34, .getfield 27, 3, 0, (1, 583, 0, 1), 0, 0, []),
  (37, .iload 5, 2, 0, (5, 0, 0, 0), 0, 0, []),
  (39, .bipush 6, 2, 0, (0, 0, 0, 0), 6, 0, []),
  (41, .invokevirtual 55, 3, 0, (23, 2110, 3, 7), 0, 0, []),
  (44, .iastore, 1, 0, (0, 0, 0, 0), 0, 0, []),
  (45, .iinc 5 1, 3, 0, (5, 0, 0, 0), 1, 0, []),
  (48, .goto (-45), 3, 0, (3, 0, 0, 0), 0, 0, []),
  (51, .iconst 0, 1, 0, (0, 0, 0, 0), 0, 0, []),
  (52, .istore 5, 2, 0, (5, 0, 0, 0), 0, 0, []),
  (54, .iconst 0, 1, 0, (0, 0, 0, 0), 0, 0, []),
  (55, .istore 6, 2, 0, (6, 0, 0, 0), 0, 0, []),
  (57, .iload 6, 2, 1, (6, 0, 0, 0), 0, 0, []),
  (59, .iload 4, 2, 0, (4, 0, 0, 0), 0, 0, []),
  (61, .if_icmp .ge 71, 3, 0, (132, 0, 0, 0), 0, 0, []),
  (64, .aload_n 1, 1, 0, (1, 0, 0, 0), 0, 0, []),
  (65, .getfield 42, 3, 0, (1, 613, 12, 0), 0, 0, []),
  (68, .iload 6, 2, 0, (6, 0, 0, 0), 0, 0, []),
  (70, .iadd, 1, 0, (0, 0, 0, 0), 0, 0, []),
  (71, .istore 7, 2, 0, (7, 0, 0, 0), 0, 0, []),
  (73, .iload 7, 2, 0, (7, 0, 0, 0), 0, 0, []),
  (75, .ifCond .lt 21, 3, 0, (96, 0, 0, 0), 0, 0, []),
  (78, .iload 7, 2, 0, (7, 0, 0, 0), 0, 0, []),
  (80, .sipush 600, 3, 0, (0, 0, 0, 0), 600, 0, []),
  (83, .if_icmp .ge 13, 3, 0, (96, 0, 0, 0), 0, 0, []),
  (86, .aload_n 1, 1, 0, (1, 0, 0, 0), 0, 0, []),
  (87, .getfield 58, 3, 0, (1, 609, 10, 1), 0, 0, []),
  (90, .iload 7, 2, 0, (7, 0, 0, 0), 0, 0, []),
  (92, .iaload, 1, 0, (0, 0, 0, 0), 0, 0, []),
  (93, .goto 4, 3, 0, (97, 0, 0, 0), 0, 0, []),
  (96, .iconst 0, 1, 0, (0, 0, 0, 0), 0, 0, []),
  (97, .istore 8, 2, 0, (8, 0, 0, 0), 0, 0, []),
  (99, .iload 5, 2, 0, (5, 0, 0, 0), 0, 0, []),
  (101, .aload_n 0, 1, 0, (0, 0, 0, 0), 0, 0, []),
  (102, .aload_n 1, 1, 0, (1, 0, 0, 0), 0, 0, []),
  (103, .iload 6, 2, 0, (6, 0, 0, 0), 0, 0, []),
  (105, .iload 6, 2, 0, (6, 0, 0, 0), 0, 0, []),
  (107, .iload_n 3, 1, 0, (3, 0, 0, 0), 0, 0, []),
  (108, .if_icmp .ne 10, 3, 0, (118, 0, 0, 0), 0, 0, []),
  (111, .iload 8, 2, 0, (8, 0, 0, 0), 0, 0, []),
  (113, .iload_n 2, 1, 0, (2, 0, 0, 0), 0, 0, []),
  (114, .iadd, 1, 0, (0, 0, 0, 0), 0, 0, []),
  (115, .goto 5, 3, 0, (120, 0, 0, 0), 0, 0, []),
  (118, .iload 8, 2, 0, (8, 0, 0, 0), 0, 0, []),
  (120, .invokevirtual 61, 3, 0, (129, 2111, 4, 6), 0, 0, []),
  (123, .iadd, 1, 0, (0, 0, 0, 0), 0, 0, []),
  (124, .istore 5, 2, 0, (5, 0, 0, 0), 0, 0, []),
  (126, .iinc 6 1, 3, 0, (6, 0, 0, 0), 1, 0, []),
  (129, .goto (-72), 3, 0, (57, 0, 0, 0), 0, 0, []),
  (132, .iload 5, 2, 0, (5, 0, 0, 0), 0, 0, []),
  (134, .ireturn, 1, 0, (0, 0, 0, 0), 0, 0, [])]
def hk_m121 : hk_Q := (⟨"HullKeepers$Storms", "sinkingWith", "(LHullKeepers$House;III)I"⟩, prog_7_method_3_code, 9, (some .int), (5, 0, 0, 0, 0, 0), hk_c121)
def hk_c122 : List hk_E := [(0, .aload_n 1, 1, 0, (1, 0, 0, 0), 0, 0, []),
  (1, .getfield 65, 3, 0, (1, 620, 14, 0), 0, 0, []),
  (4, .istore 4, 2, 0, (4, 0, 0, 0), 0, 0, []),
  (6, .iconst 0, 1, 0, (0, 0, 0, 0), 0, 0, []),
  (7, .istore 5, 2, 0, (5, 0, 0, 0), 0, 0, []),
  (9, .aload_n 1, 1, 0, (1, 0, 0, 0), 0, 0, []),
  (10, .getfield 27, 3, 0, (1, 583, 0, 1), 0, 0, []),
  (13, .getfield 33, 3, 0, (6, 553, 3, 0), 0, 0, []),
  (16, .bipush 6, 2, 0, (0, 0, 0, 0), 6, 0, []),
  (18, .invokestatic 21, 3, 0, (4, 2104, 0, 0), 0, 0, []),
  (21, .istore 6, 2, 0, (6, 0, 0, 0), 0, 0, []),
  (23, .iconst 0, 1, 0, (0, 0, 0, 0), 0, 0, []),
  (24, .istore 7, 2, 0, (7, 0, 0, 0), 0, 0, []),
  (26, .iload 7, 2, 1, (7, 0, 0, 0), 0, 0, []),
  (28, .iload 6, 2, 0, (6, 0, 0, 0), 0, 0, []),
  (30, .if_icmp .ge 101, 3, 0, (131, 0, 0, 0), 0, 0, []),
  (33, .aload_n 0, 1, 0, (0, 0, 0, 0), 0, 0, []),
  (34, .getfield 18, 3, 0, (5, 697, 2, 1), 0, 0, []),
  (37, .iload 7, 2, 0, (7, 0, 0, 0), 0, 0, []),
  (39, .iaload, 1, 0, (0, 0, 0, 0), 0, 0, []),
  (40, .ifCond .ne 85, 3, 0, (125, 0, 0, 0), 0, 0, []),
  (43, .aload_n 0, 1, 0, (0, 0, 0, 0), 0, 0, []),
  (44, .getfield 15, 3, 0, (5, 696, 1, 1), 0, 0, []),
  (47, .iload 7, 2, 0, (7, 0, 0, 0), 0, 0, []),
  (49, .iaload, 1, 0, (0, 0, 0, 0), 0, 0, []),
  (50, .aload_n 0, 1, 0, (0, 0, 0, 0), 0, 0, []),
  (51, .getfield 9, 3, 0, (5, 695, 0, 1), 0, 0, []),
  (54, .iload_n 2, 1, 0, (2, 0, 0, 0), 0, 0, []),
  (55, .bipush 6, 2, 0, (0, 0, 0, 0), 6, 0, []),
  (57, .imul, 1, 0, (0, 0, 0, 0), 0, 0, []),
  (58, .iload 7, 2, 0, (7, 0, 0, 0), 0, 0, []),
  (60, .iadd, 1, 0, (0, 0, 0, 0), 0, 0, []),
  (61, .iaload, 1, 0, (0, 0, 0, 0), 0, 0, []),
  (62, .iadd, 1, 0, (0, 0, 0, 0), 0, 0, []),
  (63, .iload_n 3, 1, 0, (3, 0, 0, 0), 0, 0, []),
  (64, .iadd, 1, 0, (0, 0, 0, 0), 0, 0, []),
  (65, .istore 8, 2, 0, (8, 0, 0, 0), 0, 0, []),
  (67, .aload_n 1, 1, 0, (1, 0, 0, 0), 0, 0, []),
  (68, .iload 7, 2, 0, (7, 0, 0, 0), 0, 0, []),
  (70, .iload 8, 2, 0, (8, 0, 0, 0), 0, 0, []),
  (72, .iload 4, 2, 0, (4, 0, 0, 0), 0, 0, []),
  (74, .invokevirtual 68, 3, 0, (41, 2115, 4, 2), 0, 0, []),
  (77, .istore 9, 2, 0, (9, 0, 0, 0), 0, 0, []),
  (79, .iload 4, 2, 0, (4, 0, 0, 0), 0, 0, []),
  (81, .iload 9, 2, 0, (9, 0, 0, 0), 0, 0, []),
  (83, .isub, 1, 0, (0, 0, 0, 0), 0, 0, []),
  (84, .istore 4, 2, 0, (4, 0, 0, 0), 0, 0, []),
  (86, .aload_n 0, 1, 0, (0, 0, 0, 0), 0, 0, []),
  (87, .getfield 15, 3, 0, (5, 696, 1, 1), 0, 0, []),
  (90, .iload 7, 2, 0, (7, 0, 0, 0), 0, 0, []),
  (92, .iload 8, 2, 0, (8, 0, 0, 0), 0, 0, []),
  (94, .iload 9, 2, 0, (9, 0, 0, 0), 0, 0, []),
  (96, .isub, 1, 0, (0, 0, 0, 0), 0, 0, []),
  (97, .iastore, 1, 0, (0, 0, 0, 0), 0, 0, []),
  (98, .aload_n 1, 1, 0, (1, 0, 0, 0), 0, 0, []),
  (99, .iload 7, 2, 0, (7, 0, 0, 0), 0, 0, []),
  (101, .aload_n 0, 1, 0, (0, 0, 0, 0), 0, 0, []),
  (102, .getfield 15, 3, 0, (5, 696, 1, 1), 0, 0, []),
  (105, .iload 7, 2, 0, (7, 0, 0, 0), 0, 0, []),
  (107, .iaload, 1, 0, (0, 0, 0, 0), 0, 0, []),
  (108, .invokevirtual 72, 3, 0, (43, 2116, 3, 2), 0, 0, []),
  (111, .ifCond .eq 14, 3, 0, (125, 0, 0, 0), 0, 0, []),
  (114, .aload_n 0, 1, 0, (0, 0, 0, 0), 0, 0, []),
  (115, .getfield 18, 3, 0, (5, 697, 2, 1), 0, 0, []),
  (118, .iload 7, 2, 0, (7, 0, 0, 0), 0, 0, []),
  (120, .iconst 1, 1, 0, (0, 0, 0, 0), 1, 0, []),
  (121, .iastore, 1, 0, (0, 0, 0, 0), 0, 0, []),
  (122, .iinc 5 1, 3, 0, (5, 0, 0, 0), 1, 0, []),
  (125, .iinc 7 1, 3, 0, (7, 0, 0, 0), 1, 0, []),
  (128, .goto (-102), 3, 0, (26, 0, 0, 0), 0, 0, []),
  (131, .iload 5, 2, 0, (5, 0, 0, 0), 0, 0, []),
  (133, .ireturn, 1, 0, (0, 0, 0, 0), 0, 0, [])]
def hk_m122 : hk_Q := (⟨"HullKeepers$Storms", "pass", "(LHullKeepers$House;II)I"⟩, prog_7_method_4_code, 10, (some .int), (4, 0, 0, 0, 0, 0), hk_c122)
def hk_c123 : List hk_E := [(0, .iload_n 1, 1, 0, (1, 0, 0, 0), 0, 0, []),
  (1, .iconst 0, 1, 0, (0, 0, 0, 0), 0, 0, []),
  (2, .iconst 1, 1, 0, (0, 0, 0, 0), 1, 0, []),
  (3, .invokestatic 57, 3, 0, (19, 1090, 3, 0), 0, 0, []),
  (6, .ifCond .ne 6, 3, 0, (12, 0, 0, 0), 0, 0, []),
  (9, .bipush (-2), 2, 0, (0, 0, 0, 0), (-2), 0, []),
  (11, .ireturn, 1, 0, (0, 0, 0, 0), 0, 0, []),
  (12, .aload_n 0, 1, 0, (0, 0, 0, 0), 0, 0, []),
  (13, .getfield 16, 3, 0, (7, 1065, 1, 1), 0, 0, []),
  (16, .iload_n 1, 1, 0, (1, 0, 0, 0), 0, 0, []),
  (17, .aaload, 1, 0, (0, 0, 0, 0), 0, 0, []),
  (18, .astore_n 2, 1, 0, (2, 0, 0, 0), 0, 0, []),
  (19, .aload_n 2, 1, 0, (2, 0, 0, 0), 0, 0, []),
  (20, .ifnonnull 18, 3, 0, (38, 0, 0, 0), 0, 0, []),
  (23, .new 7, 3, 0, (1, 534, 535, 514), 0, 0, []),
  (26, .dup, 1, 0, (0, 0, 0, 0), 0, 0, []),
  (27, .invokespecial 9, 3, 0, (8, 536, 1, 2), 0, 0, []),
  (30, .astore_n 2, 1, 0, (2, 0, 0, 0), 0, 0, []),
  (31, .aload_n 0, 1, 0, (0, 0, 0, 0), 0, 0, []),
  (32, .getfield 16, 3, 0, (7, 1065, 1, 1), 0, 0, []),
  (35, .iload_n 1, 1, 0, (1, 0, 0, 0), 0, 0, []),
  (36, .aload_n 2, 1, 0, (2, 0, 0, 0), 0, 0, []),
  (37, .aastore, 1, 0, (0, 0, 0, 0), 0, 0, []),
  (38, .aload_n 2, 1, 0, (2, 0, 0, 0), 0, 0, []),
  (39, .aload_n 0, 1, 0, (0, 0, 0, 0), 0, 0, []),
  (40, .getfield 10, 3, 0, (7, 1064, 0, 1), 0, 0, []),
  (43, .invokevirtual 238, 3, 0, (131, 2121, 2, 2), 0, 0, []),
  (46, .iconst 1, 1, 0, (0, 0, 0, 0), 1, 0, []),
  (47, .ireturn, 1, 0, (0, 0, 0, 0), 0, 0, [])]
def hk_m123 : hk_Q := (⟨"HullKeepers", "image", "(I)I"⟩, prog_1_method_40_code, 3, (some .int), (2, 0, 0, 0, 0, 0), hk_c123)
def hk_c124 : List hk_E := [(0, .aload_n 0, 1, 0, (0, 0, 0, 0), 0, 0, []),
  (1, .getfield 16, 3, 0, (1, 582, 0, 1), 0, 0, []),
  (4, .aload_n 1, 1, 0, (1, 0, 0, 0), 0, 0, []),
  (5, .getfield 16, 3, 0, (1, 582, 0, 1), 0, 0, []),
  (8, .invokevirtual 72, 3, 0, (132, 2125, 2, 7), 0, 0, []),
  (11, .aload_n 0, 1, 0, (0, 0, 0, 0), 0, 0, []),
  (12, .getfield 20, 3, 0, (1, 585, 1, 1), 0, 0, []),
  (15, .aload_n 1, 1, 0, (1, 0, 0, 0), 0, 0, []),
  (16, .getfield 20, 3, 0, (1, 585, 1, 1), 0, 0, []),
  (19, .invokevirtual 72, 3, 0, (132, 2125, 2, 7), 0, 0, []),
  (22, .aload_n 0, 1, 0, (0, 0, 0, 0), 0, 0, []),
  (23, .getfield 23, 3, 0, (1, 588, 2, 1), 0, 0, []),
  (26, .aload_n 1, 1, 0, (1, 0, 0, 0), 0, 0, []),
  (27, .getfield 23, 3, 0, (1, 588, 2, 1), 0, 0, []),
  (30, .invokevirtual 72, 3, 0, (132, 2125, 2, 7), 0, 0, []),
  (33, .aload_n 0, 1, 0, (0, 0, 0, 0), 0, 0, []),
  (34, .getfield 26, 3, 0, (1, 590, 3, 1), 0, 0, []),
  (37, .aload_n 1, 1, 0, (1, 0, 0, 0), 0, 0, []),
  (38, .getfield 26, 3, 0, (1, 590, 3, 1), 0, 0, []),
  (41, .invokevirtual 72, 3, 0, (132, 2125, 2, 7), 0, 0, []),
  (44, .aload_n 0, 1, 0, (0, 0, 0, 0), 0, 0, []),
  (45, .getfield 29, 3, 0, (1, 592, 4, 1), 0, 0, []),
  (48, .aload_n 1, 1, 0, (1, 0, 0, 0), 0, 0, []),
  (49, .getfield 29, 3, 0, (1, 592, 4, 1), 0, 0, []),
  (52, .invokevirtual 72, 3, 0, (132, 2125, 2, 7), 0, 0, []),
  (55, .aload_n 0, 1, 0, (0, 0, 0, 0), 0, 0, []),
  (56, .getfield 32, 3, 0, (1, 595, 5, 1), 0, 0, []),
  (59, .aload_n 1, 1, 0, (1, 0, 0, 0), 0, 0, []),
  (60, .getfield 32, 3, 0, (1, 595, 5, 1), 0, 0, []),
  (63, .invokevirtual 72, 3, 0, (132, 2125, 2, 7), 0, 0, []),
  (66, .aload_n 0, 1, 0, (0, 0, 0, 0), 0, 0, []),
  (67, .getfield 35, 3, 0, (1, 598, 6, 1), 0, 0, []),
  (70, .aload_n 1, 1, 0, (1, 0, 0, 0), 0, 0, []),
  (71, .getfield 35, 3, 0, (1, 598, 6, 1), 0, 0, []),
  (74, .invokevirtual 72, 3, 0, (132, 2125, 2, 7), 0, 0, []),
  (77, .aload_n 0, 1, 0, (0, 0, 0, 0), 0, 0, []),
  (78, .getfield 38, 3, 0, (1, 600, 7, 1), 0, 0, []),
  (81, .aload_n 1, 1, 0, (1, 0, 0, 0), 0, 0, []),
  (82, .getfield 38, 3, 0, (1, 600, 7, 1), 0, 0, []),
  (85, .invokevirtual 72, 3, 0, (132, 2125, 2, 7), 0, 0, []),
  (88, .aload_n 0, 1, 0, (0, 0, 0, 0), 0, 0, []),
  (89, .getfield 41, 3, 0, (1, 603, 8, 1), 0, 0, []),
  (92, .aload_n 1, 1, 0, (1, 0, 0, 0), 0, 0, []),
  (93, .getfield 41, 3, 0, (1, 603, 8, 1), 0, 0, []),
  (96, .invokevirtual 72, 3, 0, (132, 2125, 2, 7), 0, 0, []),
  (99, .aload_n 1, 1, 0, (1, 0, 0, 0), 0, 0, []),
  (100, .getfield 44, 3, 0, (1, 606, 9, 1), 0, 0, []),
  (103, .iconst 0, 1, 0, (0, 0, 0, 0), 0, 0, []),
  (104, .aload_n 0, 1, 0, (0, 0, 0, 0), 0, 0, []),
  (105, .getfield 44, 3, 0, (1, 606, 9, 1), 0, 0, []),
  (108, .iconst 0, 1, 0, (0, 0, 0, 0), 0, 0, []),
  (109, .iconst 3, 1, 0, (0, 0, 0, 0), 3, 0, []),
  (110, .invokestatic 76, 3, 0, (2, 2133, 0, 0), 0, 0, []),
  (113, .aload_n 1, 1, 0, (1, 0, 0, 0), 0, 0, []),
  (114, .getfield 48, 3, 0, (1, 608, 10, 1), 0, 0, []),
  (117, .iconst 0, 1, 0, (0, 0, 0, 0), 0, 0, []),
  (118, .aload_n 0, 1, 0, (0, 0, 0, 0), 0, 0, []),
  (119, .getfield 48, 3, 0, (1, 608, 10, 1), 0, 0, []),
  (122, .iconst 0, 1, 0, (0, 0, 0, 0), 0, 0, []),
  (123, .sipush 600, 3, 0, (0, 0, 0, 0), 600, 0, []),
  (126, .invokestatic 76, 3, 0, (2, 2133, 0, 0), 0, 0, []),
  (129, .aload_n 1, 1, 0, (1, 0, 0, 0), 0, 0, []),
  (130, .getfield 51, 3, 0, (1, 611, 11, 1), 0, 0, []),
  (133, .iconst 0, 1, 0, (0, 0, 0, 0), 0, 0, []),
  (134, .aload_n 0, 1, 0, (0, 0, 0, 0), 0, 0, []),
  (135, .getfield 51, 3, 0, (1, 611, 11, 1), 0, 0, []),
  (138, .iconst 0, 1, 0, (0, 0, 0, 0), 0, 0, []),
  (139, .bipush 90, 2, 0, (0, 0, 0, 0), 90, 0, []),
  (141, .invokestatic 76, 3, 0, (2, 2133, 0, 0), 0, 0, []),
  (144, .aload_n 0, 1, 0, (0, 0, 0, 0), 0, 0, []),
  (145, .aload_n 1, 1, 0, (1, 0, 0, 0), 0, 0, []),
  (146, .getfield 82, 3, 0, (1, 614, 12, 0), 0, 0, []),
  (149, .putfield 82, 3, 0, (1, 614, 12, 0), 0, 0, []),
  (152, .aload_n 0, 1, 0, (0, 0, 0, 0), 0, 0, []),
  (153, .aload_n 1, 1, 0, (1, 0, 0, 0), 0, 0, []),
  (154, .getfield 58, 3, 0, (1, 617, 13, 0), 0, 0, []),
  (157, .putfield 58, 3, 0, (1, 617, 13, 0), 0, 0, []),
  (160, .aload_n 0, 1, 0, (0, 0, 0, 0), 0, 0, []),
  (161, .aload_n 1, 1, 0, (1, 0, 0, 0), 0, 0, []),
  (162, .getfield 63, 3, 0, (1, 619, 14, 0), 0, 0, []),
  (165, .putfield 63, 3, 0, (1, 619, 14, 0), 0, 0, []),
  (168, .aload_n 0, 1, 0, (0, 0, 0, 0), 0, 0, []),
  (169, .aload_n 1, 1, 0, (1, 0, 0, 0), 0, 0, []),
  (170, .getfield 66, 3, 0, (1, 622, 15, 0), 0, 0, []),
  (173, .putfield 66, 3, 0, (1, 622, 15, 0), 0, 0, []),
  (176, .aload_n 0, 1, 0, (0, 0, 0, 0), 0, 0, []),
  (177, .aload_n 1, 1, 0, (1, 0, 0, 0), 0, 0, []),
  (178, .getfield 69, 3, 0, (1, 625, 16, 0), 0, 0, []),
  (181, .putfield 69, 3, 0, (1, 625, 16, 0), 0, 0, []),
  (184, .return_, 1, 0, (0, 0, 0, 0), 0, 0, [])]
def hk_m124 : hk_Q := (⟨"HullKeepers$House", "copyFrom", "(LHullKeepers$House;)V"⟩, prog_3_method_2_code, 2, none, (2, 0, 0, 0, 0, 0), hk_c124)
def hk_c125 : List hk_E := [(0, .aload_n 0, 1, 0, (0, 0, 0, 0), 0, 0, []),
  (1, .aload_n 1, 1, 0, (1, 0, 0, 0), 0, 0, []),
  (2, .getfield 28, 3, 0, (6, 552, 3, 0), 0, 0, []),
  (5, .aload_n 0, 1, 0, (0, 0, 0, 0), 0, 0, []),
  (6, .getfield 15, 3, 0, (6, 549, 0, 0), 0, 0, []),
  (9, .invokestatic 42, 3, 0, (4, 2129, 0, 0), 0, 0, []),
  (12, .putfield 28, 3, 0, (6, 552, 3, 0), 0, 0, []),
  (15, .aload_n 1, 1, 0, (1, 0, 0, 0), 0, 0, []),
  (16, .getfield 24, 3, 0, (6, 551, 2, 1), 0, 0, []),
  (19, .iconst 0, 1, 0, (0, 0, 0, 0), 0, 0, []),
  (20, .aload_n 0, 1, 0, (0, 0, 0, 0), 0, 0, []),
  (21, .getfield 24, 3, 0, (6, 551, 2, 1), 0, 0, []),
  (24, .iconst 0, 1, 0, (0, 0, 0, 0), 0, 0, []),
  (25, .aload_n 1, 1, 0, (1, 0, 0, 0), 0, 0, []),
  (26, .getfield 24, 3, 0, (6, 551, 2, 1), 0, 0, []),
  (29, .arraylength, 1, 0, (0, 0, 0, 0), 0, 0, []),
  (30, .aload_n 0, 1, 0, (0, 0, 0, 0), 0, 0, []),
  (31, .getfield 24, 3, 0, (6, 551, 2, 1), 0, 0, []),
  (34, .arraylength, 1, 0, (0, 0, 0, 0), 0, 0, []),
  (35, .invokestatic 42, 3, 0, (4, 2129, 0, 0), 0, 0, []),
  (38, .invokestatic 45, 3, 0, (2, 2130, 0, 0), 0, 0, []),
  (41, .return_, 1, 0, (0, 0, 0, 0), 0, 0, [])]
def hk_m125 : hk_Q := (⟨"HullKeepers$Table", "copyFrom", "(LHullKeepers$Table;)V"⟩, prog_8_method_9_code, 2, none, (2, 0, 0, 0, 0, 0), hk_c125)
def hk_c126 : List hk_E := [(0, .iload_n 1, 1, 0, (1, 0, 0, 0), 0, 0, []),
  (1, .iconst 0, 1, 0, (0, 0, 0, 0), 0, 0, []),
  (2, .iconst 1, 1, 0, (0, 0, 0, 0), 1, 0, []),
  (3, .invokestatic 57, 3, 0, (19, 1090, 3, 0), 0, 0, []),
  (6, .ifCond .ne 6, 3, 0, (12, 0, 0, 0), 0, 0, []),
  (9, .bipush (-2), 2, 0, (0, 0, 0, 0), (-2), 0, []),
  (11, .ireturn, 1, 0, (0, 0, 0, 0), 0, 0, []),
  (12, .aload_n 0, 1, 0, (0, 0, 0, 0), 0, 0, []),
  (13, .getfield 16, 3, 0, (7, 1065, 1, 1), 0, 0, []),
  (16, .iload_n 1, 1, 0, (1, 0, 0, 0), 0, 0, []),
  (17, .aaload, 1, 0, (0, 0, 0, 0), 0, 0, []),
  (18, .astore_n 2, 1, 0, (2, 0, 0, 0), 0, 0, []),
  (19, .aload_n 2, 1, 0, (2, 0, 0, 0), 0, 0, []),
  (20, .ifnonnull 6, 3, 0, (26, 0, 0, 0), 0, 0, []),
  (23, .bipush (-3), 2, 0, (0, 0, 0, 0), (-3), 0, []),
  (25, .ireturn, 1, 0, (0, 0, 0, 0), 0, 0, []),
  (26, .aload_n 0, 1, 0, (0, 0, 0, 0), 0, 0, []),
  (27, .getfield 10, 3, 0, (7, 1064, 0, 1), 0, 0, []),
  (30, .aload_n 2, 1, 0, (2, 0, 0, 0), 0, 0, []),
  (31, .invokevirtual 238, 3, 0, (131, 2121, 2, 2), 0, 0, []),
  (34, .aload_n 0, 1, 0, (0, 0, 0, 0), 0, 0, []),
  (35, .getfield 39, 3, 0, (7, 1068, 4, 1), 0, 0, []),
  (38, .invokevirtual 178, 3, 0, (86, 1660, 1, 4), 0, 0, []),
  (41, .iconst 1, 1, 0, (0, 0, 0, 0), 1, 0, []),
  (42, .ireturn, 1, 0, (0, 0, 0, 0), 0, 0, [])]
def hk_m126 : hk_Q := (⟨"HullKeepers", "from", "(I)I"⟩, prog_1_method_41_code, 3, (some .int), (2, 0, 0, 0, 0, 0), hk_c126)
def hk_c127 : List hk_E := [(0, .iload_n 1, 1, 0, (1, 0, 0, 0), 0, 0, []),
  (1, .iconst 0, 1, 0, (0, 0, 0, 0), 0, 0, []),
  (2, .bipush 8, 2, 0, (0, 0, 0, 0), 8, 0, []),
  (4, .invokestatic 57, 3, 0, (19, 1090, 3, 0), 0, 0, []),
  (7, .ifCond .eq 14, 3, 0, (21, 0, 0, 0), 0, 0, []),
  (10, .aload_n 0, 1, 0, (0, 0, 0, 0), 0, 0, []),
  (11, .getfield 10, 3, 0, (7, 1064, 0, 1), 0, 0, []),
  (14, .iload_n 1, 1, 0, (1, 0, 0, 0), 0, 0, []),
  (15, .invokevirtual 241, 3, 0, (135, 2142, 2, 2), 0, 0, []),
  (18, .goto 5, 3, 0, (23, 0, 0, 0), 0, 0, []),
  (21, .bipush (-2), 2, 0, (0, 0, 0, 0), (-2), 0, []),
  (23, .ireturn, 1, 0, (0, 0, 0, 0), 0, 0, [])]
def hk_m127 : hk_Q := (⟨"HullKeepers", "count", "(I)I"⟩, prog_1_method_42_code, 2, (some .int), (2, 0, 0, 0, 0, 0), hk_c127)
def hk_c128 : List hk_E := [(0, .iload_n 1, 1, 0, (1, 0, 0, 0), 0, 0, []),
  (1, .tableswitch 108 0 7 #[47, 55, 63, 71, 79, 87, 95, 103], 47, 0, (109, 0, 0, 0), 0, 0, [(0, 48), (1, 56), (2, 64), (3, 72), (4, 80), (5, 88), (6, 96), (7, 104)]),
  (48, .aload_n 0, 1, 0, (0, 0, 0, 0), 0, 0, []),
  (49, .getfield 16, 3, 0, (1, 582, 0, 1), 0, 0, []),
  (52, .getfield 89, 3, 0, (6, 556, 3, 0), 0, 0, []),
  (55, .ireturn, 1, 0, (0, 0, 0, 0), 0, 0, []),
  (56, .aload_n 0, 1, 0, (0, 0, 0, 0), 0, 0, []),
  (57, .getfield 20, 3, 0, (1, 585, 1, 1), 0, 0, []),
  (60, .getfield 89, 3, 0, (6, 556, 3, 0), 0, 0, []),
  (63, .ireturn, 1, 0, (0, 0, 0, 0), 0, 0, []),
  (64, .aload_n 0, 1, 0, (0, 0, 0, 0), 0, 0, []),
  (65, .getfield 23, 3, 0, (1, 588, 2, 1), 0, 0, []),
  (68, .getfield 89, 3, 0, (6, 556, 3, 0), 0, 0, []),
  (71, .ireturn, 1, 0, (0, 0, 0, 0), 0, 0, []),
  (72, .aload_n 0, 1, 0, (0, 0, 0, 0), 0, 0, []),
  (73, .getfield 32, 3, 0, (1, 595, 5, 1), 0, 0, []),
  (76, .getfield 89, 3, 0, (6, 556, 3, 0), 0, 0, []),
  (79, .ireturn, 1, 0, (0, 0, 0, 0), 0, 0, []),
  (80, .aload_n 0, 1, 0, (0, 0, 0, 0), 0, 0, []),
  (81, .getfield 35, 3, 0, (1, 598, 6, 1), 0, 0, []),
  (84, .getfield 89, 3, 0, (6, 556, 3, 0), 0, 0, []),
  (87, .ireturn, 1, 0, (0, 0, 0, 0), 0, 0, []),
  (88, .aload_n 0, 1, 0, (0, 0, 0, 0), 0, 0, []),
  (89, .getfield 38, 3, 0, (1, 600, 7, 1), 0, 0, []),
  (92, .getfield 89, 3, 0, (6, 556, 3, 0), 0, 0, []),
  (95, .ireturn, 1, 0, (0, 0, 0, 0), 0, 0, []),
  (96, .aload_n 0, 1, 0, (0, 0, 0, 0), 0, 0, []),
  (97, .getfield 41, 3, 0, (1, 603, 8, 1), 0, 0, []),
  (100, .getfield 89, 3, 0, (6, 556, 3, 0), 0, 0, []),
  (103, .ireturn, 1, 0, (0, 0, 0, 0), 0, 0, []),
  (104, .aload_n 0, 1, 0, (0, 0, 0, 0), 0, 0, []),
  (105, .getfield 82, 3, 0, (1, 614, 12, 0), 0, 0, []),
  (108, .ireturn, 1, 0, (0, 0, 0, 0), 0, 0, []),
  (109, .aload_n 0, 1, 0, (0, 0, 0, 0), 0, 0, []),
  (110, .invokevirtual 166, 3, 0, (136, 2146, 1, 2), 0, 0, []),
  (113, .ireturn, 1, 0, (0, 0, 0, 0), 0, 0, [])]
def hk_m128 : hk_Q := (⟨"HullKeepers$House", "countOf", "(I)I"⟩, prog_3_method_22_code, 2, (some .int), (2, 0, 0, 0, 0, 0), hk_c128)
def hk_c129 : List hk_E := [(0, .iconst 0, 1, 0, (0, 0, 0, 0), 0, 0, []),
  (1, .istore_n 1, 1, 0, (1, 0, 0, 0), 0, 0, []),
  (2, .iconst 0, 1, 0, (0, 0, 0, 0), 0, 0, []),
  (3, .istore_n 2, 1, 0, (2, 0, 0, 0), 0, 0, []),
  (4, .iload_n 2, 1, 1, (2, 0, 0, 0), 0, 0, []),
  (5, .aload_n 0, 1, 0, (0, 0, 0, 0), 0, 0, []),
  (6, .getfield 16, 3, 0, (1, 582, 0, 1), 0, 0, []),
  (9, .getfield 89, 3, 0, (6, 556, 3, 0), 0, 0, []),
  (12, .if_icmp .ge 22, 3, 0, (34, 0, 0, 0), 0, 0, []),
  (15, .iload_n 1, 1, 0, (1, 0, 0, 0), 0, 0, []),
  (16, .aload_n 0, 1, 0, (0, 0, 0, 0), 0, 0, []),
  (17, .getfield 16, 3, 0, (1, 582, 0, 1), 0, 0, []),
  (20, .iload_n 2, 1, 0, (2, 0, 0, 0), 0, 0, []),
  (21, .bipush 6, 2, 0, (0, 0, 0, 0), 6, 0, []),
  (23, .invokevirtual 85, 3, 0, (23, 1117, 3, 7), 0, 0, []),
  (26, .iadd, 1, 0, (0, 0, 0, 0), 0, 0, []),
  (27, .istore_n 1, 1, 0, (1, 0, 0, 0), 0, 0, []),
  (28, .iinc 2 1, 3, 0, (2, 0, 0, 0), 1, 0, []),
  (31, .goto (-27), 3, 0, (4, 0, 0, 0), 0, 0, []),
  (34, .iload_n 1, 1, 0, (1, 0, 0, 0), 0, 0, []),
  (35, .ireturn, 1, 0, (0, 0, 0, 0), 0, 0, [])]
def hk_m129 : hk_Q := (⟨"HullKeepers$House", "sunkShips", "()I"⟩, prog_3_method_23_code, 3, (some .int), (1, 0, 0, 0, 0, 0), hk_c129)
def hk_c130 : List hk_E := [(0, .ldc2_w 244, 3, 0, (0, 2154, 0, 0), 0, 307, []),
  (3, .lstore_n 1, 1, 0, (1, 0, 0, 0), 0, 0, []),
  (4, .iconst 0, 1, 0, (0, 0, 0, 0), 0, 0, []),
  (5, .istore_n 3, 1, 0, (3, 0, 0, 0), 0, 0, []),
  (6, .iload_n 3, 1, 1, (3, 0, 0, 0), 0, 0, []),
  (7, .bipush 9, 2, 0, (0, 0, 0, 0), 9, 0, []),
  (9, .if_icmp .ge 23, 3, 0, (32, 0, 0, 0), 0, 0, []),
  (12, .lload_n 1, 1, 0, (1, 0, 0, 0), 0, 0, []),
  (13, .aload_n 0, 1, 0, (0, 0, 0, 0), 0, 0, []),
  (14, .getfield 10, 3, 0, (7, 1064, 0, 1), 0, 0, []),
  (17, .iload_n 3, 1, 0, (3, 0, 0, 0), 0, 0, []),
  (18, .invokevirtual 241, 3, 0, (135, 2142, 2, 2), 0, 0, []),
  (21, .i2l, 1, 0, (0, 0, 0, 0), 0, 0, []),
  (22, .invokestatic 246, 3, 0, (138, 2155, 2, 0), 0, 0, []),
  (25, .lstore_n 1, 1, 0, (1, 0, 0, 0), 0, 0, []),
  (26, .iinc 3 1, 3, 0, (3, 0, 0, 0), 1, 0, []),
  (29, .goto (-23), 3, 0, (6, 0, 0, 0), 0, 0, []),
  (32, .iconst 0, 1, 0, (0, 0, 0, 0), 0, 0, []),
  (33, .istore_n 3, 1, 0, (3, 0, 0, 0), 0, 0, []),
  (34, .iload_n 3, 1, 1, (3, 0, 0, 0), 0, 0, []),
  (35, .aload_n 0, 1, 0, (0, 0, 0, 0), 0, 0, []),
  (36, .getfield 10, 3, 0, (7, 1064, 0, 1), 0, 0, []),
  (39, .getfield 62, 3, 0, (1, 584, 0, 1), 0, 0, []),
  (42, .getfield 172, 3, 0, (6, 558, 3, 0), 0, 0, []),
  (45, .if_icmp .ge 55, 3, 0, (100, 0, 0, 0), 0, 0, []),
  (48, .aload_n 0, 1, 0, (0, 0, 0, 0), 0, 0, []),
  (49, .getfield 10, 3, 0, (7, 1064, 0, 1), 0, 0, []),
  (52, .getfield 62, 3, 0, (1, 584, 0, 1), 0, 0, []),
  (55, .lload_n 1, 1, 0, (1, 0, 0, 0), 0, 0, []),
  (56, .iload_n 3, 1, 0, (3, 0, 0, 0), 0, 0, []),
  (57, .iconst 5, 1, 0, (0, 0, 0, 0), 5, 0, []),
  (58, .invokevirtual 250, 3, 0, (139, 2159, 4, 7), 0, 0, []),
  (61, .lstore_n 1, 1, 0, (1, 0, 0, 0), 0, 0, []),
  (62, .iconst 0, 1, 0, (0, 0, 0, 0), 0, 0, []),
  (63, .istore 4, 2, 0, (4, 0, 0, 0), 0, 0, []),
  (65, .iload 4, 2, 1, (4, 0, 0, 0), 0, 0, []),
  (67, .bipush 6, 2, 0, (0, 0, 0, 0), 6, 0, []),
  (69, .if_icmp .gt 25, 3, 0, (94, 0, 0, 0), 0, 0, []),
  (72, .lload_n 1, 1, 0, (1, 0, 0, 0), 0, 0, []),
  (73, .aload_n 0, 1, 0, (0, 0, 0, 0), 0, 0, []),
  (74, .getfield 10, 3, 0, (7, 1064, 0, 1), 0, 0, []),
  (77, .iload_n 3, 1, 0, (3, 0, 0, 0), 0, 0, []),
  (78, .iload 4, 2, 0, (4, 0, 0, 0), 0, 0, []),
  (80, .invokevirtual 127, 3, 0, (46, 1210, 3, 2), 0, 0, []),
  (83, .i2l, 1, 0, (0, 0, 0, 0), 0, 0, []),
  (84, .invokestatic 246, 3, 0, (138, 2155, 2, 0), 0, 0, []),
  (87, .lstore_n 1, 1, 0, (1, 0, 0, 0), 0, 0, []),
  (88, .iinc 4 1, 3, 0, (4, 0, 0, 0), 1, 0, []),
  (91, .goto (-26), 3, 0, (65, 0, 0, 0), 0, 0, []),
  (94, .iinc 3 1, 3, 0, (3, 0, 0, 0), 1, 0, []),
  (97, .goto (-63), 3, 0, (34, 0, 0, 0), 0, 0, []),
  (100, .aload_n 0, 1, 0, (0, 0, 0, 0), 0, 0, []),
  (101, .getfield 10, 3, 0, (7, 1064, 0, 1), 0, 0, []),
  (104, .getfield 84, 3, 0, (1, 586, 1, 1), 0, 0, []),
  (107, .lload_n 1, 1, 0, (1, 0, 0, 0), 0, 0, []),
  (108, .invokevirtual 254, 3, 0, (140, 2164, 2, 7), 0, 0, []),
  (111, .lstore_n 1, 1, 0, (1, 0, 0, 0), 0, 0, []),
  (112, .aload_n 0, 1, 0, (0, 0, 0, 0), 0, 0, []),
  (113, .getfield 10, 3, 0, (7, 1064, 0, 1), 0, 0, []),
  (116, .getfield 143, 3, 0, (1, 589, 2, 1), 0, 0, []),
  (119, .lload_n 1, 1, 0, (1, 0, 0, 0), 0, 0, []),
  (120, .invokevirtual 254, 3, 0, (140, 2164, 2, 7), 0, 0, []),
  (123, .lstore_n 1, 1, 0, (1, 0, 0, 0), 0, 0, []),
  (124, .aload_n 0, 1, 0, (0, 0, 0, 0), 0, 0, []),
  (125, .getfield 10, 3, 0, (7, 1064, 0, 1), 0, 0, []),
  (128, .getfield 140, 3, 0, (1, 591, 3, 1), 0, 0, []),
  (131, .lload_n 1, 1, 0, (1, 0, 0, 0), 0, 0, []),
  (132, .invokevirtual 254, 3, 0, (140, 2164, 2, 7), 0, 0, []),
  (135, .lstore_n 1, 1, 0, (1, 0, 0, 0), 0, 0, []),
  (136, .iconst 0, 1, 0, (0, 0, 0, 0), 0, 0, []),
  (137, .istore_n 3, 1, 0, (3, 0, 0, 0), 0, 0, []),
  (138, .iload_n 3, 1, 1, (3, 0, 0, 0), 0, 0, []),
  (139, .iconst 4, 1, 0, (0, 0, 0, 0), 4, 0, []),
  (140, .if_icmp .ge 36, 3, 0, (176, 0, 0, 0), 0, 0, []),
  (143, .aload_n 0, 1, 0, (0, 0, 0, 0), 0, 0, []),
  (144, .getfield 10, 3, 0, (7, 1064, 0, 1), 0, 0, []),
  (147, .getfield 155, 3, 0, (1, 594, 4, 1), 0, 0, []),
  (150, .lload_n 1, 1, 0, (1, 0, 0, 0), 0, 0, []),
  (151, .iload_n 3, 1, 0, (3, 0, 0, 0), 0, 0, []),
  (152, .iconst 1, 1, 0, (0, 0, 0, 0), 1, 0, []),
  (153, .aload_n 0, 1, 0, (0, 0, 0, 0), 0, 0, []),
  (154, .getfield 10, 3, 0, (7, 1064, 0, 1), 0, 0, []),
  (157, .getfield 155, 3, 0, (1, 594, 4, 1), 0, 0, []),
  (160, .iload_n 3, 1, 0, (3, 0, 0, 0), 0, 0, []),
  (161, .iconst 0, 1, 0, (0, 0, 0, 0), 0, 0, []),
  (162, .invokevirtual 87, 3, 0, (23, 1109, 3, 7), 0, 0, []),
  (165, .iadd, 1, 0, (0, 0, 0, 0), 0, 0, []),
  (166, .invokevirtual 250, 3, 0, (139, 2159, 4, 7), 0, 0, []),
  (169, .lstore_n 1, 1, 0, (1, 0, 0, 0), 0, 0, []),
  (170, .iinc 3 1, 3, 0, (3, 0, 0, 0), 1, 0, []),
  (173, .goto (-35), 3, 0, (138, 0, 0, 0), 0, 0, []),
  (176, .lload_n 1, 1, 0, (1, 0, 0, 0), 0, 0, []),
  (177, .lreturn, 1, 0, (0, 0, 0, 0), 0, 0, [])]
def hk_m130 : hk_Q := (⟨"HullKeepers", "digest", "()J"⟩, prog_1_method_43_code, 5, (some .long), (1, 0, 0, 0, 0, 0), hk_c130)
def hk_c131 : List hk_E := [(0, .ldc2_w 258, 3, 0, (0, 2158, 0, 0), 0, 31, []),
  (3, .lload_n 0, 1, 0, (0, 0, 0, 0), 0, 0, []),
  (4, .lmul, 1, 0, (0, 0, 0, 0), 0, 0, []),
  (5, .lload_n 2, 1, 0, (2, 0, 0, 0), 0, 0, []),
  (6, .ladd, 1, 0, (0, 0, 0, 0), 0, 0, []),
  (7, .lreturn, 1, 0, (0, 0, 0, 0), 0, 0, [])]
def hk_m131 : hk_Q := (⟨"HullKeepers", "mixed", "(JJ)J"⟩, prog_1_method_46_code, 4, (some .long), (2, 2, 0, 0, 0, 0), hk_c131)
def hk_c132 : List hk_E := [(0, .lload_n 1, 1, 0, (1, 0, 0, 0), 0, 0, []),
  (1, .lstore 5, 2, 0, (5, 0, 0, 0), 0, 0, []),
  (3, .iconst 0, 1, 0, (0, 0, 0, 0), 0, 0, []),
  (4, .istore 7, 2, 0, (7, 0, 0, 0), 0, 0, []),
  (6, .iload 7, 2, 1, (7, 0, 0, 0), 0, 0, []),
  (8, .iload 4, 2, 0, (4, 0, 0, 0), 0, 0, []),
  (10, .if_icmp .ge 24, 3, 0, (34, 0, 0, 0), 0, 0, []),
  (13, .lload 5, 2, 0, (5, 0, 0, 0), 0, 0, []),
  (15, .aload_n 0, 1, 0, (0, 0, 0, 0), 0, 0, []),
  (16, .iload_n 3, 1, 0, (3, 0, 0, 0), 0, 0, []),
  (17, .iload 7, 2, 0, (7, 0, 0, 0), 0, 0, []),
  (19, .invokevirtual 31, 3, 0, (23, 1144, 3, 7), 0, 0, []),
  (22, .i2l, 1, 0, (0, 0, 0, 0), 0, 0, []),
  (23, .invokestatic 51, 3, 0, (138, 2, 2, 0), 0, 0, []),
  (26, .lstore 5, 2, 0, (5, 0, 0, 0), 0, 0, []),
  (28, .iinc 7 1, 3, 0, (7, 0, 0, 0), 1, 0, []),
  (31, .goto (-25), 3, 0, (6, 0, 0, 0), 0, 0, []),
  (34, .lload 5, 2, 0, (5, 0, 0, 0), 0, 0, []),
  (36, .lreturn, 1, 0, (0, 0, 0, 0), 0, 0, [])]
def hk_m132 : hk_Q := (⟨"HullKeepers$Table", "mixedRow", "(JII)J"⟩, prog_8_method_10_code, 8, (some .long), (4, 0, 0, 0, 0, 0), hk_c132)
def hk_c133 : List hk_E := [(0, .lload_n 1, 1, 0, (1, 0, 0, 0), 0, 0, []),
  (1, .lstore_n 3, 1, 0, (3, 0, 0, 0), 0, 0, []),
  (2, .iconst 0, 1, 0, (0, 0, 0, 0), 0, 0, []),
  (3, .istore 5, 2, 0, (5, 0, 0, 0), 0, 0, []),
  (5, .iload 5, 2, 1, (5, 0, 0, 0), 0, 0, []),
  (7, .aload_n 0, 1, 0, (0, 0, 0, 0), 0, 0, []),
  (8, .getfield 28, 3, 0, (6, 552, 3, 0), 0, 0, []),
  (11, .if_icmp .ge 21, 3, 0, (32, 0, 0, 0), 0, 0, []),
  (14, .aload_n 0, 1, 0, (0, 0, 0, 0), 0, 0, []),
  (15, .lload_n 3, 1, 0, (3, 0, 0, 0), 0, 0, []),
  (16, .iload 5, 2, 0, (5, 0, 0, 0), 0, 0, []),
  (18, .aload_n 0, 1, 0, (0, 0, 0, 0), 0, 0, []),
  (19, .getfield 21, 3, 0, (6, 550, 1, 0), 0, 0, []),
  (22, .invokevirtual 55, 3, 0, (139, 2168, 4, 7), 0, 0, []),
  (25, .lstore_n 3, 1, 0, (3, 0, 0, 0), 0, 0, []),
  (26, .iinc 5 1, 3, 0, (5, 0, 0, 0), 1, 0, []),
  (29, .goto (-24), 3, 0, (5, 0, 0, 0), 0, 0, []),
  (32, .lload_n 3, 1, 0, (3, 0, 0, 0), 0, 0, []),
  (33, .lreturn, 1, 0, (0, 0, 0, 0), 0, 0, [])]
def hk_m133 : hk_Q := (⟨"HullKeepers$Table", "mixedRows", "(J)J"⟩, prog_8_method_11_code, 6, (some .long), (2, 0, 0, 0, 0, 0), hk_c133)
def hk_c134 : List hk_E := [(0, .aload_n 0, 1, 0, (0, 0, 0, 0), 0, 0, []),
  (1, .invokespecial 1, 3, 0, (1, 2174, 0, 0), 0, 0, []),
  (4, .aload_n 0, 1, 0, (0, 0, 0, 0), 0, 0, []),
  (5, .sipush 2448, 3, 0, (0, 0, 0, 0), 2448, 0, []),
  (8, .newarray .int, 2, 0, (0, 0, 0, 0), 0, 0, []),
  (10, .putfield 7, 3, 0, (8, 2177, 0, 1), 0, 0, []),
  (13, .aload_n 0, 1, 0, (0, 0, 0, 0), 0, 0, []),
  (14, .sipush 2448, 3, 0, (0, 0, 0, 0), 2448, 0, []),
  (17, .newarray .int, 2, 0, (0, 0, 0, 0), 0, 0, []),
  (19, .putfield 13, 3, 0, (8, 2178, 1, 1), 0, 0, []),
  (22, .aload_n 0, 1, 0, (0, 0, 0, 0), 0, 0, []),
  (23, .sipush 4896, 3, 0, (0, 0, 0, 0), 4896, 0, []),
  (26, .newarray .int, 2, 0, (0, 0, 0, 0), 0, 0, []),
  (28, .putfield 16, 3, 0, (8, 2179, 2, 1), 0, 0, []),
  (31, .aload_n 0, 1, 0, (0, 0, 0, 0), 0, 0, []),
  (32, .iconst 2, 1, 0, (0, 0, 0, 0), 2, 0, []),
  (33, .newarray .boolean, 2, 0, (0, 0, 0, 0), 0, 0, []),
  (35, .putfield 19, 3, 0, (8, 2180, 3, 1), 0, 0, []),
  (38, .aload_n 0, 1, 0, (0, 0, 0, 0), 0, 0, []),
  (39, .bipush 70, 2, 0, (0, 0, 0, 0), 70, 0, []),
  (41, .newarray .int, 2, 0, (0, 0, 0, 0), 0, 0, []),
  (43, .putfield 23, 3, 0, (8, 2182, 5, 1), 0, 0, []),
  (46, .aload_n 0, 1, 0, (0, 0, 0, 0), 0, 0, []),
  (47, .bipush 70, 2, 0, (0, 0, 0, 0), 70, 0, []),
  (49, .newarray .int, 2, 0, (0, 0, 0, 0), 0, 0, []),
  (51, .putfield 26, 3, 0, (8, 2183, 6, 1), 0, 0, []),
  (54, .aload_n 0, 1, 0, (0, 0, 0, 0), 0, 0, []),
  (55, .bipush 70, 2, 0, (0, 0, 0, 0), 70, 0, []),
  (57, .newarray .int, 2, 0, (0, 0, 0, 0), 0, 0, []),
  (59, .putfield 29, 3, 0, (8, 2185, 8, 1), 0, 0, []),
  (62, .aload_n 0, 1, 0, (0, 0, 0, 0), 0, 0, []),
  (63, .bipush 70, 2, 0, (0, 0, 0, 0), 70, 0, []),
  (65, .newarray .long, 2, 0, (0, 0, 0, 0), 0, 0, []),
  (67, .putfield 32, 3, 0, (8, 2186, 9, 1), 0, 0, []),
  (70, .aload_n 0, 1, 0, (0, 0, 0, 0), 0, 0, []),
  (71, .ldc 36, 2, 0, (0, 2175, 0, 0), 161051, 0, []),
  (73, .newarray .int, 2, 0, (0, 0, 0, 0), 0, 0, []),
  (75, .putfield 37, 3, 0, (8, 2187, 10, 1), 0, 0, []),
  (78, .aload_n 0, 1, 0, (0, 0, 0, 0), 0, 0, []),
  (79, .iconst 4, 1, 0, (0, 0, 0, 0), 4, 0, []),
  (80, .newarray .int, 2, 0, (0, 0, 0, 0), 0, 0, []),
  (82, .putfield 40, 3, 0, (8, 2188, 11, 1), 0, 0, []),
  (85, .aload_n 0, 1, 0, (0, 0, 0, 0), 0, 0, []),
  (86, .getfield 7, 3, 0, (8, 2177, 0, 1), 0, 0, []),
  (89, .bipush 8, 2, 0, (0, 0, 0, 0), 8, 0, []),
  (91, .sipush 300, 3, 0, (0, 0, 0, 0), 300, 0, []),
  (94, .iastore, 1, 0, (0, 0, 0, 0), 0, 0, []),
  (95, .aload_n 0, 1, 0, (0, 0, 0, 0), 0, 0, []),
  (96, .getfield 7, 3, 0, (8, 2177, 0, 1), 0, 0, []),
  (99, .bipush 9, 2, 0, (0, 0, 0, 0), 9, 0, []),
  (101, .ldc 43, 2, 0, (0, 2176, 0, 0), 60000, 0, []),
  (103, .iastore, 1, 0, (0, 0, 0, 0), 0, 0, []),
  (104, .aload_n 0, 1, 0, (0, 0, 0, 0), 0, 0, []),
  (105, .getfield 7, 3, 0, (8, 2177, 0, 1), 0, 0, []),
  (108, .bipush 10, 2, 0, (0, 0, 0, 0), 10, 0, []),
  (110, .iconst 1, 1, 0, (0, 0, 0, 0), 1, 0, []),
  (111, .iastore, 1, 0, (0, 0, 0, 0), 0, 0, []),
  (112, .aload_n 0, 1, 0, (0, 0, 0, 0), 0, 0, []),
  (113, .getfield 7, 3, 0, (8, 2177, 0, 1), 0, 0, []),
  (116, .bipush 11, 2, 0, (0, 0, 0, 0), 11, 0, []),
  (118, .bipush 100, 2, 0, (0, 0, 0, 0), 100, 0, []),
  (120, .iastore, 1, 0, (0, 0, 0, 0), 0, 0, []),
  (121, .aload_n 0, 1, 0, (0, 0, 0, 0), 0, 0, []),
  (122, .getfield 7, 3, 0, (8, 2177, 0, 1), 0, 0, []),
  (125, .bipush 12, 2, 0, (0, 0, 0, 0), 12, 0, []),
  (127, .iconst 1, 1, 0, (0, 0, 0, 0), 1, 0, []),
  (128, .iastore, 1, 0, (0, 0, 0, 0), 0, 0, []),
  (129, .aload_n 0, 1, 0, (0, 0, 0, 0), 0, 0, []),
  (130, .getfield 7, 3, 0, (8, 2177, 0, 1), 0, 0, []),
  (133, .bipush 13, 2, 0, (0, 0, 0, 0), 13, 0, []),
  (135, .iconst 4, 1, 0, (0, 0, 0, 0), 4, 0, []),
  (136, .iastore, 1, 0, (0, 0, 0, 0), 0, 0, []),
  (137, .aload_n 0, 1, 0, (0, 0, 0, 0), 0, 0, []),
  (138, .getfield 7, 3, 0, (8, 2177, 0, 1), 0, 0, []),
  (141, .bipush 14, 2, 0, (0, 0, 0, 0), 14, 0, []),
  (143, .iconst 2, 1, 0, (0, 0, 0, 0), 2, 0, []),
  (144, .iastore, 1, 0, (0, 0, 0, 0), 0, 0, []),
  (145, .iconst 0, 1, 0, (0, 0, 0, 0), 0, 0, []),
  (146, .istore_n 1, 1, 0, (1, 0, 0, 0), 0, 0, []),
  (147, .iload_n 1, 1, 1, (1, 0, 0, 0), 0, 0, []),
  (148, .iconst 4, 1, 0, (0, 0, 0, 0), 4, 0, []),
  (149, .if_icmp .ge 24, 3, 0, (173, 0, 0, 0), 0, 0, []),
  (152, .aload_n 0, 1, 0, (0, 0, 0, 0), 0, 0, []),
  (153, .getfield 7, 3, 0, (8, 2177, 0, 1), 0, 0, []),
  (156, .sipush 1410, 3, 0, (0, 0, 0, 0), 1410, 0, []),
  (159, .iconst 3, 1, 0, (0, 0, 0, 0), 3, 0, []),
  (160, .iload_n 1, 1, 0, (1, 0, 0, 0), 0, 0, []),
  (161, .imul, 1, 0, (0, 0, 0, 0), 0, 0, []),
  (162, .iadd, 1, 0, (0, 0, 0, 0), 0, 0, []),
  (163, .iconst 2, 1, 0, (0, 0, 0, 0), 2, 0, []),
  (164, .iadd, 1, 0, (0, 0, 0, 0), 0, 0, []),
  (165, .iconst (-1), 1, 0, (0, 0, 0, 0), (-1), 0, []),
  (166, .iastore, 1, 0, (0, 0, 0, 0), 0, 0, []),
  (167, .iinc 1 1, 3, 0, (1, 0, 0, 0), 1, 0, []),
  (170, .goto (-23), 3, 0, (147, 0, 0, 0), 0, 0, []),
  (173, .return_, 1, 0, (0, 0, 0, 0), 0, 0, [])]
def hk_m134 : hk_Q := (⟨"HullKeepersModel", "<init>", "()V"⟩, prog_10_method_3_code, 2, none, (1, 1, 0, 0, 0, 0), hk_c134)
def hk_c135 : List hk_E := [(0, .iload_n 1, 1, 0, (1, 0, 0, 0), 0, 0, []),
  (1, .bipush 10, 2, 0, (0, 0, 0, 0), 10, 0, []),
  (3, .sipush 1000, 3, 0, (0, 0, 0, 0), 1000, 0, []),
  (6, .invokestatic 44, 3, 0, (143, 2220, 3, 0), 0, 0, []),
  (9, .ifCond .eq 36, 3, 0, (45, 0, 0, 0), 0, 0, []),
  (12, .iload_n 2, 1, 0, (2, 0, 0, 0), 0, 0, []),
  (13, .iconst 1, 1, 0, (0, 0, 0, 0), 1, 0, []),
  (14, .sipush 500, 3, 0, (0, 0, 0, 0), 500, 0, []),
  (17, .invokestatic 44, 3, 0, (143, 2220, 3, 0), 0, 0, []),
  (20, .ifCond .eq 25, 3, 0, (45, 0, 0, 0), 0, 0, []),
  (23, .iload_n 3, 1, 0, (3, 0, 0, 0), 0, 0, []),
  (24, .iconst 1, 1, 0, (0, 0, 0, 0), 1, 0, []),
  (25, .ldc 48, 2, 0, (0, 2223, 0, 0), 200000, 0, []),
  (27, .invokestatic 44, 3, 0, (143, 2220, 3, 0), 0, 0, []),
  (30, .ifCond .eq 15, 3, 0, (45, 0, 0, 0), 0, 0, []),
  (33, .iload 4, 2, 0, (4, 0, 0, 0), 0, 0, []),
  (35, .iconst 0, 1, 0, (0, 0, 0, 0), 0, 0, []),
  (36, .sipush 10000, 3, 0, (0, 0, 0, 0), 10000, 0, []),
  (39, .invokestatic 44, 3, 0, (143, 2220, 3, 0), 0, 0, []),
  (42, .ifCond .ne 6, 3, 0, (48, 0, 0, 0), 0, 0, []),
  (45, .bipush (-2), 2, 0, (0, 0, 0, 0), (-2), 0, []),
  (47, .ireturn, 1, 0, (0, 0, 0, 0), 0, 0, []),
  (48, .aload_n 0, 1, 0, (0, 0, 0, 0), 0, 0, []),
  (49, .getfield 7, 3, 0, (8, 2177, 0, 1), 0, 0, []),
  (52, .iconst 0, 1, 0, (0, 0, 0, 0), 0, 0, []),
  (53, .iaload, 1, 0, (0, 0, 0, 0), 0, 0, []),
  (54, .bipush 6, 2, 0, (0, 0, 0, 0), 6, 0, []),
  (56, .if_icmp .ne 6, 3, 0, (62, 0, 0, 0), 0, 0, []),
  (59, .bipush (-4), 2, 0, (0, 0, 0, 0), (-4), 0, []),
  (61, .ireturn, 1, 0, (0, 0, 0, 0), 0, 0, []),
  (62, .bipush 20, 2, 0, (0, 0, 0, 0), 20, 0, []),
  (64, .bipush 10, 2, 0, (0, 0, 0, 0), 10, 0, []),
  (66, .aload_n 0, 1, 0, (0, 0, 0, 0), 0, 0, []),
  (67, .getfield 7, 3, 0, (8, 2177, 0, 1), 0, 0, []),
  (70, .iconst 0, 1, 0, (0, 0, 0, 0), 0, 0, []),
  (71, .iaload, 1, 0, (0, 0, 0, 0), 0, 0, []),
  (72, .imul, 1, 0, (0, 0, 0, 0), 0, 0, []),
  (73, .iadd, 1, 0, (0, 0, 0, 0), 0, 0, []),
  (74, .istore 5, 2, 0, (5, 0, 0, 0), 0, 0, []),
  (76, .aload_n 0, 1, 0, (0, 0, 0, 0), 0, 0, []),
  (77, .getfield 7, 3, 0, (8, 2177, 0, 1), 0, 0, []),
  (80, .iload 5, 2, 0, (5, 0, 0, 0), 0, 0, []),
  (82, .iload_n 1, 1, 0, (1, 0, 0, 0), 0, 0, []),
  (83, .iastore, 1, 0, (0, 0, 0, 0), 0, 0, []),
  (84, .aload_n 0, 1, 0, (0, 0, 0, 0), 0, 0, []),
  (85, .getfield 7, 3, 0, (8, 2177, 0, 1), 0, 0, []),
  (88, .iload 5, 2, 0, (5, 0, 0, 0), 0, 0, []),
  (90, .iconst 1, 1, 0, (0, 0, 0, 0), 1, 0, []),
  (91, .iadd, 1, 0, (0, 0, 0, 0), 0, 0, []),
  (92, .iload_n 2, 1, 0, (2, 0, 0, 0), 0, 0, []),
  (93, .iastore, 1, 0, (0, 0, 0, 0), 0, 0, []),
  (94, .aload_n 0, 1, 0, (0, 0, 0, 0), 0, 0, []),
  (95, .getfield 7, 3, 0, (8, 2177, 0, 1), 0, 0, []),
  (98, .iload 5, 2, 0, (5, 0, 0, 0), 0, 0, []),
  (100, .iconst 2, 1, 0, (0, 0, 0, 0), 2, 0, []),
  (101, .iadd, 1, 0, (0, 0, 0, 0), 0, 0, []),
  (102, .iload_n 3, 1, 0, (3, 0, 0, 0), 0, 0, []),
  (103, .iastore, 1, 0, (0, 0, 0, 0), 0, 0, []),
  (104, .aload_n 0, 1, 0, (0, 0, 0, 0), 0, 0, []),
  (105, .getfield 7, 3, 0, (8, 2177, 0, 1), 0, 0, []),
  (108, .iload 5, 2, 0, (5, 0, 0, 0), 0, 0, []),
  (110, .iconst 3, 1, 0, (0, 0, 0, 0), 3, 0, []),
  (111, .iadd, 1, 0, (0, 0, 0, 0), 0, 0, []),
  (112, .iload 4, 2, 0, (4, 0, 0, 0), 0, 0, []),
  (114, .iastore, 1, 0, (0, 0, 0, 0), 0, 0, []),
  (115, .iconst 4, 1, 0, (0, 0, 0, 0), 4, 0, []),
  (116, .istore 6, 2, 0, (6, 0, 0, 0), 0, 0, []),
  (118, .iload 6, 2, 1, (6, 0, 0, 0), 0, 0, []),
  (120, .bipush 8, 2, 0, (0, 0, 0, 0), 8, 0, []),
  (122, .if_icmp .ge 20, 3, 0, (142, 0, 0, 0), 0, 0, []),
  (125, .aload_n 0, 1, 0, (0, 0, 0, 0), 0, 0, []),
  (126, .getfield 7, 3, 0, (8, 2177, 0, 1), 0, 0, []),
  (129, .iload 5, 2, 0, (5, 0, 0, 0), 0, 0, []),
  (131, .iload 6, 2, 0, (6, 0, 0, 0), 0, 0, []),
  (133, .iadd, 1, 0, (0, 0, 0, 0), 0, 0, []),
  (134, .iconst 0, 1, 0, (0, 0, 0, 0), 0, 0, []),
  (135, .iastore, 1, 0, (0, 0, 0, 0), 0, 0, []),
  (136, .iinc 6 1, 3, 0, (6, 0, 0, 0), 1, 0, []),
  (139, .goto (-21), 3, 0, (118, 0, 0, 0), 0, 0, []),
  (142, .aload_n 0, 1, 0, (0, 0, 0, 0), 0, 0, []),
  (143, .getfield 7, 3, 0, (8, 2177, 0, 1), 0, 0, []),
  (146, .iload 5, 2, 0, (5, 0, 0, 0), 0, 0, []),
  (148, .bipush 8, 2, 0, (0, 0, 0, 0), 8, 0, []),
  (150, .iadd, 1, 0, (0, 0, 0, 0), 0, 0, []),
  (151, .iconst (-1), 1, 0, (0, 0, 0, 0), (-1), 0, []),
  (152, .iastore, 1, 0, (0, 0, 0, 0), 0, 0, []),
  (153, .aload_n 0, 1, 0, (0, 0, 0, 0), 0, 0, []),
  (154, .iconst 0, 1, 0, (0, 0, 0, 0), 0, 0, []),
  (155, .invokevirtual 49, 3, 0, (144, 2224, 2, 9), 0, 0, []),
  (158, .ireturn, 1, 0, (0, 0, 0, 0), 0, 0, [])]
def hk_m135 : hk_Q := (⟨"HullKeepersModel", "ship", "(IIII)I"⟩, prog_10_method_10_code, 7, (some .int), (5, 0, 0, 0, 0, 0), hk_c135)
def hk_c136 : List hk_E := [(0, .iload_n 0, 1, 0, (0, 0, 0, 0), 0, 0, []),
  (1, .iload_n 1, 1, 0, (1, 0, 0, 0), 0, 0, []),
  (2, .if_icmp .lt 12, 3, 0, (14, 0, 0, 0), 0, 0, []),
  (5, .iload_n 0, 1, 0, (0, 0, 0, 0), 0, 0, []),
  (6, .iload_n 2, 1, 0, (2, 0, 0, 0), 0, 0, []),
  (7, .if_icmp .gt 7, 3, 0, (14, 0, 0, 0), 0, 0, []),
  (10, .iconst 1, 1, 0, (0, 0, 0, 0), 1, 0, []),
  (11, .goto 4, 3, 0, (15, 0, 0, 0), 0, 0, []),
  (14, .iconst 0, 1, 0, (0, 0, 0, 0), 0, 0, []),
  (15, .ireturn, 1, 0, (0, 0, 0, 1), 0, 0, [])]
def hk_m136 : hk_Q := (⟨"HullKeepersModel", "in", "(III)Z"⟩, prog_10_method_2_code, 3, (some .boolean), (3, 2, 0, 0, 0, 0), hk_c136)
def hk_c137 : List hk_E := [(0, .aload_n 0, 1, 0, (0, 0, 0, 0), 0, 0, []),
  (1, .getfield 7, 3, 0, (8, 2177, 0, 1), 0, 0, []),
  (4, .iload_n 1, 1, 0, (1, 0, 0, 0), 0, 0, []),
  (5, .dup2, 1, 0, (0, 0, 0, 0), 0, 0, []),
  (6, .iaload, 1, 0, (0, 0, 0, 0), 0, 0, []),
  (7, .iconst 1, 1, 0, (0, 0, 0, 0), 1, 0, []),
  (8, .iadd, 1, 0, (0, 0, 0, 0), 0, 0, []),
  (9, .iastore, 1, 0, (0, 0, 0, 0), 0, 0, []),
  (10, .aload_n 0, 1, 0, (0, 0, 0, 0), 0, 0, []),
  (11, .getfield 7, 3, 0, (8, 2177, 0, 1), 0, 0, []),
  (14, .iload_n 1, 1, 0, (1, 0, 0, 0), 0, 0, []),
  (15, .iaload, 1, 0, (0, 0, 0, 0), 0, 0, []),
  (16, .iconst 1, 1, 0, (0, 0, 0, 0), 1, 0, []),
  (17, .isub, 1, 0, (0, 0, 0, 0), 0, 0, []),
  (18, .ireturn, 1, 0, (0, 0, 0, 0), 0, 0, [])]
def hk_m137 : hk_Q := (⟨"HullKeepersModel", "one", "(I)I"⟩, prog_10_method_5_code, 2, (some .int), (2, 0, 0, 0, 0, 0), hk_c137)
def hk_c138 : List hk_E := [(0, .aload_n 0, 1, 0, (0, 0, 0, 0), 0, 0, []),
  (1, .iconst 0, 1, 0, (0, 0, 0, 0), 0, 0, []),
  (2, .iload_n 1, 1, 0, (1, 0, 0, 0), 0, 0, []),
  (3, .invokevirtual 53, 3, 0, (146, 2232, 3, 9), 0, 0, []),
  (6, .ifCond .eq 47, 3, 0, (53, 0, 0, 0), 0, 0, []),
  (9, .iload_n 2, 1, 0, (2, 0, 0, 0), 0, 0, []),
  (10, .iconst 0, 1, 0, (0, 0, 0, 0), 0, 0, []),
  (11, .iconst 2, 1, 0, (0, 0, 0, 0), 2, 0, []),
  (12, .invokestatic 44, 3, 0, (143, 2220, 3, 0), 0, 0, []),
  (15, .ifCond .eq 38, 3, 0, (53, 0, 0, 0), 0, 0, []),
  (18, .iload_n 3, 1, 0, (3, 0, 0, 0), 0, 0, []),
  (19, .iconst 1, 1, 0, (0, 0, 0, 0), 1, 0, []),
  (20, .sipush 5000, 3, 0, (0, 0, 0, 0), 5000, 0, []),
  (23, .invokestatic 44, 3, 0, (143, 2220, 3, 0), 0, 0, []),
  (26, .ifCond .eq 27, 3, 0, (53, 0, 0, 0), 0, 0, []),
  (29, .iload 4, 2, 0, (4, 0, 0, 0), 0, 0, []),
  (31, .iconst 1, 1, 0, (0, 0, 0, 0), 1, 0, []),
  (32, .sipush 1000, 3, 0, (0, 0, 0, 0), 1000, 0, []),
  (35, .invokestatic 44, 3, 0, (143, 2220, 3, 0), 0, 0, []),
  (38, .ifCond .eq 15, 3, 0, (53, 0, 0, 0), 0, 0, []),
  (41, .iload 5, 2, 0, (5, 0, 0, 0), 0, 0, []),
  (43, .sipush (-6000), 3, 0, (0, 0, 0, 0), (-6000), 0, []),
  (46, .iconst 0, 1, 0, (0, 0, 0, 0), 0, 0, []),
  (47, .invokestatic 44, 3, 0, (143, 2220, 3, 0), 0, 0, []),
  (50, .ifCond .ne 6, 3, 0, (56, 0, 0, 0), 0, 0, []),
  (53, .bipush (-2), 2, 0, (0, 0, 0, 0), (-2), 0, []),
  (55, .ireturn, 1, 0, (0, 0, 0, 0), 0, 0, []),
  (56, .aload_n 0, 1, 0, (0, 0, 0, 0), 0, 0, []),
  (57, .getfield 7, 3, 0, (8, 2177, 0, 1), 0, 0, []),
  (60, .iconst 1, 1, 0, (0, 0, 0, 0), 1, 0, []),
  (61, .iaload, 1, 0, (0, 0, 0, 0), 0, 0, []),
  (62, .bipush 96, 2, 0, (0, 0, 0, 0), 96, 0, []),
  (64, .if_icmp .ne 6, 3, 0, (70, 0, 0, 0), 0, 0, []),
  (67, .bipush (-4), 2, 0, (0, 0, 0, 0), (-4), 0, []),
  (69, .ireturn, 1, 0, (0, 0, 0, 0), 0, 0, []),
  (70, .bipush 80, 2, 0, (0, 0, 0, 0), 80, 0, []),
  (72, .bipush 6, 2, 0, (0, 0, 0, 0), 6, 0, []),
  (74, .aload_n 0, 1, 0, (0, 0, 0, 0), 0, 0, []),
  (75, .getfield 7, 3, 0, (8, 2177, 0, 1), 0, 0, []),
  (78, .iconst 1, 1, 0, (0, 0, 0, 0), 1, 0, []),
  (79, .iaload, 1, 0, (0, 0, 0, 0), 0, 0, []),
  (80, .imul, 1, 0, (0, 0, 0, 0), 0, 0, []),
  (81, .iadd, 1, 0, (0, 0, 0, 0), 0, 0, []),
  (82, .istore 6, 2, 0, (6, 0, 0, 0), 0, 0, []),
  (84, .aload_n 0, 1, 0, (0, 0, 0, 0), 0, 0, []),
  (85, .getfield 7, 3, 0, (8, 2177, 0, 1), 0, 0, []),
  (88, .iload 6, 2, 0, (6, 0, 0, 0), 0, 0, []),
  (90, .iload_n 1, 1, 0, (1, 0, 0, 0), 0, 0, []),
  (91, .iastore, 1, 0, (0, 0, 0, 0), 0, 0, []),
  (92, .aload_n 0, 1, 0, (0, 0, 0, 0), 0, 0, []),
  (93, .getfield 7, 3, 0, (8, 2177, 0, 1), 0, 0, []),
  (96, .iload 6, 2, 0, (6, 0, 0, 0), 0, 0, []),
  (98, .iconst 1, 1, 0, (0, 0, 0, 0), 1, 0, []),
  (99, .iadd, 1, 0, (0, 0, 0, 0), 0, 0, []),
  (100, .iload_n 2, 1, 0, (2, 0, 0, 0), 0, 0, []),
  (101, .iastore, 1, 0, (0, 0, 0, 0), 0, 0, []),
  (102, .aload_n 0, 1, 0, (0, 0, 0, 0), 0, 0, []),
  (103, .getfield 7, 3, 0, (8, 2177, 0, 1), 0, 0, []),
  (106, .iload 6, 2, 0, (6, 0, 0, 0), 0, 0, []),
  (108, .iconst 2, 1, 0, (0, 0, 0, 0), 2, 0, []),
  (109, .iadd, 1, 0, (0, 0, 0, 0), 0, 0, []),
  (110, .iload_n 3, 1, 0, (3, 0, 0, 0), 0, 0, []),
  (111, .iastore, 1, 0, (0, 0, 0, 0), 0, 0, []),
  (112, .aload_n 0, 1, 0, (0, 0, 0, 0), 0, 0, []),
  (113, .getfield 7, 3, 0, (8, 2177, 0, 1), 0, 0, []),
  (116, .iload 6, 2, 0, (6, 0, 0, 0), 0, 0, []),
  (118, .iconst 3, 1, 0, (0, 0, 0, 0), 3, 0, []),
  (119, .iadd, 1, 0, (0, 0, 0, 0), 0, 0, []),
  (120, .iload 4, 2, 0, (4, 0, 0, 0), 0, 0, []),
  (122, .iastore, 1, 0, (0, 0, 0, 0), 0, 0, []),
  (123, .aload_n 0, 1, 0, (0, 0, 0, 0), 0, 0, []),
  (124, .getfield 7, 3, 0, (8, 2177, 0, 1), 0, 0, []),
  (127, .iload 6, 2, 0, (6, 0, 0, 0), 0, 0, []),
  (129, .iconst 4, 1, 0, (0, 0, 0, 0), 4, 0, []),
  (130, .iadd, 1, 0, (0, 0, 0, 0), 0, 0, []),
  (131, .iload 5, 2, 0, (5, 0, 0, 0), 0, 0, []),
  (133, .iastore, 1, 0, (0, 0, 0, 0), 0, 0, []),
  (134, .aload_n 0, 1, 0, (0, 0, 0, 0), 0, 0, []),
  (135, .getfield 7, 3, 0, (8, 2177, 0, 1), 0, 0, []),
  (138, .iload 6, 2, 0, (6, 0, 0, 0), 0, 0, []),
  (140, .iconst 5, 1, 0, (0, 0, 0, 0), 5, 0, []),
  (141, .iadd, 1, 0, (0, 0, 0, 0), 0, 0, []),
  (142, .iconst 0, 1, 0, (0, 0, 0, 0), 0, 0, []),
  (143, .iastore, 1, 0, (0, 0, 0, 0), 0, 0, []),
  (144, .aload_n 0, 1, 0, (0, 0, 0, 0), 0, 0, []),
  (145, .iconst 1, 1, 0, (0, 0, 0, 0), 1, 0, []),
  (146, .invokevirtual 49, 3, 0, (144, 2224, 2, 9), 0, 0, []),
  (149, .ireturn, 1, 0, (0, 0, 0, 0), 0, 0, [])]
def hk_m138 : hk_Q := (⟨"HullKeepersModel", "plate", "(IIIII)I"⟩, prog_10_method_11_code, 7, (some .int), (6, 0, 0, 0, 0, 0), hk_c138)
def hk_c139 : List hk_E := [(0, .iload_n 2, 1, 0, (2, 0, 0, 0), 0, 0, []),
  (1, .iconst 0, 1, 0, (0, 0, 0, 0), 0, 0, []),
  (2, .aload_n 0, 1, 0, (0, 0, 0, 0), 0, 0, []),
  (3, .getfield 7, 3, 0, (8, 2177, 0, 1), 0, 0, []),
  (6, .iload_n 1, 1, 0, (1, 0, 0, 0), 0, 0, []),
  (7, .iaload, 1, 0, (0, 0, 0, 0), 0, 0, []),
  (8, .iconst 1, 1, 0, (0, 0, 0, 0), 1, 0, []),
  (9, .isub, 1, 0, (0, 0, 0, 0), 0, 0, []),
  (10, .invokestatic 44, 3, 0, (143, 2220, 3, 0), 0, 0, []),
  (13, .ireturn, 1, 0, (0, 0, 0, 1), 0, 0, [])]
def hk_m139 : hk_Q := (⟨"HullKeepersModel", "is", "(II)Z"⟩, prog_10_method_4_code, 3, (some .boolean), (3, 0, 0, 0, 0, 0), hk_c139)
def hk_c140 : List hk_E := [(0, .aload_n 0, 1, 0, (0, 0, 0, 0), 0, 0, []),
  (1, .iconst 0, 1, 0, (0, 0, 0, 0), 0, 0, []),
  (2, .iload_n 1, 1, 0, (1, 0, 0, 0), 0, 0, []),
  (3, .invokevirtual 53, 3, 0, (146, 2232, 3, 9), 0, 0, []),
  (6, .ifCond .ne 6, 3, 0, (12, 0, 0, 0), 0, 0, []),
  (9, .bipush (-2), 2, 0, (0, 0, 0, 0), (-2), 0, []),
  (11, .ireturn, 1, 0, (0, 0, 0, 0), 0, 0, []),
  (12, .iconst 0, 1, 0, (0, 0, 0, 0), 0, 0, []),
  (13, .istore_n 2, 1, 0, (2, 0, 0, 0), 0, 0, []),
  (14, .iconst 0, 1, 0, (0, 0, 0, 0), 0, 0, []),
  (15, .istore_n 3, 1, 0, (3, 0, 0, 0), 0, 0, []),
  (16, .iconst 0, 1, 0, (0, 0, 0, 0), 0, 0, []),
  (17, .istore 4, 2, 0, (4, 0, 0, 0), 0, 0, []),
  (19, .iload 4, 2, 1, (4, 0, 0, 0), 0, 0, []),
  (21, .aload_n 0, 1, 0, (0, 0, 0, 0), 0, 0, []),
  (22, .getfield 7, 3, 0, (8, 2177, 0, 1), 0, 0, []),
  (25, .iconst 1, 1, 0, (0, 0, 0, 0), 1, 0, []),
  (26, .iaload, 1, 0, (0, 0, 0, 0), 0, 0, []),
  (27, .if_icmp .ge 33, 3, 0, (60, 0, 0, 0), 0, 0, []),
  (30, .aload_n 0, 1, 0, (0, 0, 0, 0), 0, 0, []),
  (31, .iload 4, 2, 0, (4, 0, 0, 0), 0, 0, []),
  (33, .iconst 0, 1, 0, (0, 0, 0, 0), 0, 0, []),
  (34, .invokevirtual 57, 3, 0, (148, 2240, 3, 9), 0, 0, []),
  (37, .iload_n 1, 1, 0, (1, 0, 0, 0), 0, 0, []),
  (38, .if_icmp .ne 16, 3, 0, (54, 0, 0, 0), 0, 0, []),
  (41, .iinc 2 1, 3, 0, (2, 0, 0, 0), 1, 0, []),
  (44, .iload_n 3, 1, 0, (3, 0, 0, 0), 0, 0, []),
  (45, .aload_n 0, 1, 0, (0, 0, 0, 0), 0, 0, []),
  (46, .iload 4, 2, 0, (4, 0, 0, 0), 0, 0, []),
  (48, .iconst 3, 1, 0, (0, 0, 0, 0), 3, 0, []),
  (49, .invokevirtual 57, 3, 0, (148, 2240, 3, 9), 0, 0, []),
  (52, .iadd, 1, 0, (0, 0, 0, 0), 0, 0, []),
  (53, .istore_n 3, 1, 0, (3, 0, 0, 0), 0, 0, []),
  (54, .iinc 4 1, 3, 0, (4, 0, 0, 0), 1, 0, []),
  (57, .goto (-38), 3, 0, (19, 0, 0, 0), 0, 0, []),
  (60, .aload_n 0, 1, 0, (0, 0, 0, 0), 0, 0, []),
  (61, .iload_n 1, 1, 0, (1, 0, 0, 0), 0, 0, []),
  (62, .bipush 7, 2, 0, (0, 0, 0, 0), 7, 0, []),
  (64, .invokevirtual 61, 3, 0, (149, 2244, 3, 9), 0, 0, []),
  (67, .ifCond .gt 7, 3, 0, (74, 0, 0, 0), 0, 0, []),
  (70, .iload_n 2, 1, 0, (2, 0, 0, 0), 0, 0, []),
  (71, .ifCond .ne 6, 3, 0, (77, 0, 0, 0), 0, 0, []),
  (74, .bipush (-3), 2, 0, (0, 0, 0, 0), (-3), 0, []),
  (76, .ireturn, 1, 0, (0, 0, 0, 0), 0, 0, []),
  (77, .aload_n 0, 1, 0, (0, 0, 0, 0), 0, 0, []),
  (78, .getfield 7, 3, 0, (8, 2177, 0, 1), 0, 0, []),
  (81, .bipush 20, 2, 0, (0, 0, 0, 0), 20, 0, []),
  (83, .bipush 10, 2, 0, (0, 0, 0, 0), 10, 0, []),
  (85, .iload_n 1, 1, 0, (1, 0, 0, 0), 0, 0, []),
  (86, .imul, 1, 0, (0, 0, 0, 0), 0, 0, []),
  (87, .iadd, 1, 0, (0, 0, 0, 0), 0, 0, []),
  (88, .bipush 7, 2, 0, (0, 0, 0, 0), 7, 0, []),
  (90, .iadd, 1, 0, (0, 0, 0, 0), 0, 0, []),
  (91, .iload_n 3, 1, 0, (3, 0, 0, 0), 0, 0, []),
  (92, .iastore, 1, 0, (0, 0, 0, 0), 0, 0, []),
  (93, .iconst 0, 1, 0, (0, 0, 0, 0), 0, 0, []),
  (94, .istore 4, 2, 0, (4, 0, 0, 0), 0, 0, []),
  (96, .iload 4, 2, 1, (4, 0, 0, 0), 0, 0, []),
  (98, .aload_n 0, 1, 0, (0, 0, 0, 0), 0, 0, []),
  (99, .getfield 7, 3, 0, (8, 2177, 0, 1), 0, 0, []),
  (102, .iconst 1, 1, 0, (0, 0, 0, 0), 1, 0, []),
  (103, .iaload, 1, 0, (0, 0, 0, 0), 0, 0, []),
  (104, .if_icmp .ge 46, 3, 0, (150, 0, 0, 0), 0, 0, []),
  (107, .aload_n 0, 1, 0, (0, 0, 0, 0), 0, 0, []),
  (108, .getfield 7, 3, 0, (8, 2177, 0, 1), 0, 0, []),
  (111, .bipush 80, 2, 0, (0, 0, 0, 0), 80, 0, []),
  (113, .bipush 6, 2, 0, (0, 0, 0, 0), 6, 0, []),
  (115, .iload 4, 2, 0, (4, 0, 0, 0), 0, 0, []),
  (117, .imul, 1, 0, (0, 0, 0, 0), 0, 0, []),
  (118, .iadd, 1, 0, (0, 0, 0, 0), 0, 0, []),
  (119, .iconst 5, 1, 0, (0, 0, 0, 0), 5, 0, []),
  (120, .iadd, 1, 0, (0, 0, 0, 0), 0, 0, []),
  (121, .aload_n 0, 1, 0, (0, 0, 0, 0), 0, 0, []),
  (122, .iload 4, 2, 0, (4, 0, 0, 0), 0, 0, []),
  (124, .iconst 0, 1, 0, (0, 0, 0, 0), 0, 0, []),
  (125, .invokevirtual 57, 3, 0, (148, 2240, 3, 9), 0, 0, []),
  (128, .iload_n 1, 1, 0, (1, 0, 0, 0), 0, 0, []),
  (129, .if_icmp .ne 7, 3, 0, (136, 0, 0, 0), 0, 0, []),
  (132, .iconst 1, 1, 0, (0, 0, 0, 0), 1, 0, []),
  (133, .goto 10, 3, 0, (143, 0, 0, 0), 0, 0, []),
  (136, .aload_n 0, 1, 0, (0, 0, 0, 0), 0, 0, []),
  (137, .iload 4, 2, 0, (4, 0, 0, 0), 0, 0, []),
  (139, .iconst 5, 1, 0, (0, 0, 0, 0), 5, 0, []),
  (140, .invokevirtual 57, 3, 0, (148, 2240, 3, 9), 0, 0, []),
  (143, .iastore, 1, 0, (0, 0, 0, 0), 0, 0, []),
  (144, .iinc 4 1, 3, 0, (4, 0, 0, 0), 1, 0, []),
  (147, .goto (-51), 3, 0, (96, 0, 0, 0), 0, 0, []),
  (150, .iload_n 2, 1, 0, (2, 0, 0, 0), 0, 0, []),
  (151, .ireturn, 1, 0, (0, 0, 0, 0), 0, 0, [])]
def hk_m140 : hk_Q := (⟨"HullKeepersModel", "lay", "(I)I"⟩, prog_10_method_12_code, 5, (some .int), (2, 0, 0, 0, 0, 0), hk_c140)
def hk_c141 : List hk_E := [(0, .aload_n 0, 1, 0, (0, 0, 0, 0), 0, 0, []),
  (1, .getfield 7, 3, 0, (8, 2177, 0, 1), 0, 0, []),
  (4, .bipush 80, 2, 0, (0, 0, 0, 0), 80, 0, []),
  (6, .bipush 6, 2, 0, (0, 0, 0, 0), 6, 0, []),
  (8, .iload_n 1, 1, 0, (1, 0, 0, 0), 0, 0, []),
  (9, .imul, 1, 0, (0, 0, 0, 0), 0, 0, []),
  (10, .iadd, 1, 0, (0, 0, 0, 0), 0, 0, []),
  (11, .iload_n 2, 1, 0, (2, 0, 0, 0), 0, 0, []),
  (12, .iadd, 1, 0, (0, 0, 0, 0), 0, 0, []),
  (13, .iaload, 1, 0, (0, 0, 0, 0), 0, 0, []),
  (14, .ireturn, 1, 0, (0, 0, 0, 0), 0, 0, [])]
def hk_m141 : hk_Q := (⟨"HullKeepersModel", "plateOf", "(II)I"⟩, prog_10_method_9_code, 3, (some .int), (3, 0, 0, 0, 0, 0), hk_c141)
def hk_c142 : List hk_E := [(0, .aload_n 0, 1, 0, (0, 0, 0, 0), 0, 0, []),
  (1, .getfield 7, 3, 0, (8, 2177, 0, 1), 0, 0, []),
  (4, .bipush 20, 2, 0, (0, 0, 0, 0), 20, 0, []),
  (6, .bipush 10, 2, 0, (0, 0, 0, 0), 10, 0, []),
  (8, .iload_n 1, 1, 0, (1, 0, 0, 0), 0, 0, []),
  (9, .imul, 1, 0, (0, 0, 0, 0), 0, 0, []),
  (10, .iadd, 1, 0, (0, 0, 0, 0), 0, 0, []),
  (11, .iload_n 2, 1, 0, (2, 0, 0, 0), 0, 0, []),
  (12, .iadd, 1, 0, (0, 0, 0, 0), 0, 0, []),
  (13, .iaload, 1, 0, (0, 0, 0, 0), 0, 0, []),
  (14, .ireturn, 1, 0, (0, 0, 0, 0), 0, 0, [])]
def hk_m142 : hk_Q := (⟨"HullKeepersModel", "shipOf", "(II)I"⟩, prog_10_method_8_code, 3, (some .int), (3, 0, 0, 0, 0, 0), hk_c142)
def hk_c143 : List hk_E := [(0, .iload_n 1, 1, 0, (1, 0, 0, 0), 0, 0, []),
  (1, .iconst 0, 1, 0, (0, 0, 0, 0), 0, 0, []),
  (2, .iconst 2, 1, 0, (0, 0, 0, 0), 2, 0, []),
  (3, .invokestatic 44, 3, 0, (143, 2220, 3, 0), 0, 0, []),
  (6, .ifCond .eq 25, 3, 0, (31, 0, 0, 0), 0, 0, []),
  (9, .iload_n 2, 1, 0, (2, 0, 0, 0), 0, 0, []),
  (10, .iconst 0, 1, 0, (0, 0, 0, 0), 0, 0, []),
  (11, .bipush 50, 2, 0, (0, 0, 0, 0), 50, 0, []),
  (13, .invokestatic 44, 3, 0, (143, 2220, 3, 0), 0, 0, []),
  (16, .ifCond .eq 15, 3, 0, (31, 0, 0, 0), 0, 0, []),
  (19, .aload_n 0, 1, 0, (0, 0, 0, 0), 0, 0, []),
  (20, .bipush 12, 2, 0, (0, 0, 0, 0), 12, 0, []),
  (22, .iload_n 1, 1, 0, (1, 0, 0, 0), 0, 0, []),
  (23, .iadd, 1, 0, (0, 0, 0, 0), 0, 0, []),
  (24, .iload_n 2, 1, 0, (2, 0, 0, 0), 0, 0, []),
  (25, .invokevirtual 64, 3, 0, (151, 2252, 3, 9), 0, 0, []),
  (28, .goto 5, 3, 0, (33, 0, 0, 0), 0, 0, []),
  (31, .bipush (-2), 2, 0, (0, 0, 0, 0), (-2), 0, []),
  (33, .ireturn, 1, 0, (0, 0, 0, 0), 0, 0, [])]
def hk_m143 : hk_Q := (⟨"HullKeepersModel", "wear", "(II)I"⟩, prog_10_method_13_code, 3, (some .int), (3, 0, 0, 0, 0, 0), hk_c143)
def hk_c144 : List hk_E := [(0, .aload_n 0, 1, 0, (0, 0, 0, 0), 0, 0, []),
  (1, .getfield 7, 3, 0, (8, 2177, 0, 1), 0, 0, []),
  (4, .iload_n 1, 1, 0, (1, 0, 0, 0), 0, 0, []),
  (5, .iaload, 1, 0, (0, 0, 0, 0), 0, 0, []),
  (6, .istore_n 3, 1, 0, (3, 0, 0, 0), 0, 0, []),
  (7, .aload_n 0, 1, 0, (0, 0, 0, 0), 0, 0, []),
  (8, .getfield 7, 3, 0, (8, 2177, 0, 1), 0, 0, []),
  (11, .iload_n 1, 1, 0, (1, 0, 0, 0), 0, 0, []),
  (12, .iload_n 2, 1, 0, (2, 0, 0, 0), 0, 0, []),
  (13, .iastore, 1, 0, (0, 0, 0, 0), 0, 0, []),
  (14, .iload_n 3, 1, 0, (3, 0, 0, 0), 0, 0, []),
  (15, .ireturn, 1, 0, (0, 0, 0, 0), 0, 0, [])]
def hk_m144 : hk_Q := (⟨"HullKeepersModel", "puts", "(II)I"⟩, prog_10_method_6_code, 4, (some .int), (3, 0, 0, 0, 0, 0), hk_c144)
def hk_c145 : List hk_E := [(0, .iload_n 1, 1, 0, (1, 0, 0, 0), 0, 0, []),
  (1, .iconst 0, 1, 0, (0, 0, 0, 0), 0, 0, []),
  (2, .sipush 1000, 3, 0, (0, 0, 0, 0), 1000, 0, []),
  (5, .invokestatic 44, 3, 0, (143, 2220, 3, 0), 0, 0, []),
  (8, .ifCond .eq 13, 3, 0, (21, 0, 0, 0), 0, 0, []),
  (11, .aload_n 0, 1, 0, (0, 0, 0, 0), 0, 0, []),
  (12, .bipush 8, 2, 0, (0, 0, 0, 0), 8, 0, []),
  (14, .iload_n 1, 1, 0, (1, 0, 0, 0), 0, 0, []),
  (15, .invokevirtual 64, 3, 0, (151, 2252, 3, 9), 0, 0, []),
  (18, .goto 5, 3, 0, (23, 0, 0, 0), 0, 0, []),
  (21, .bipush (-2), 2, 0, (0, 0, 0, 0), (-2), 0, []),
  (23, .ireturn, 1, 0, (0, 0, 0, 0), 0, 0, [])]
def hk_m145 : hk_Q := (⟨"HullKeepersModel", "bound", "(I)I"⟩, prog_10_method_14_code, 2, (some .int), (2, 0, 0, 0, 0, 0), hk_c145)
def hk_c146 : List hk_E := [(0, .iload_n 1, 1, 0, (1, 0, 0, 0), 0, 0, []),
  (1, .iconst 0, 1, 0, (0, 0, 0, 0), 0, 0, []),
  (2, .ldc 43, 2, 0, (0, 2176, 0, 0), 60000, 0, []),
  (4, .invokestatic 44, 3, 0, (143, 2220, 3, 0), 0, 0, []),
  (7, .ifCond .eq 13, 3, 0, (20, 0, 0, 0), 0, 0, []),
  (10, .aload_n 0, 1, 0, (0, 0, 0, 0), 0, 0, []),
  (11, .bipush 9, 2, 0, (0, 0, 0, 0), 9, 0, []),
  (13, .iload_n 1, 1, 0, (1, 0, 0, 0), 0, 0, []),
  (14, .invokevirtual 64, 3, 0, (151, 2252, 3, 9), 0, 0, []),
  (17, .goto 5, 3, 0, (22, 0, 0, 0), 0, 0, []),
  (20, .bipush (-2), 2, 0, (0, 0, 0, 0), (-2), 0, []),
  (22, .ireturn, 1, 0, (0, 0, 0, 0), 0, 0, [])]
def hk_m146 : hk_Q := (⟨"HullKeepersModel", "wire", "(I)I"⟩, prog_10_method_15_code, 2, (some .int), (2, 0, 0, 0, 0, 0), hk_c146)
def hk_c147 : List hk_E := [(0, .aload_n 0, 1, 0, (0, 0, 0, 0), 0, 0, []),
  (1, .iconst 0, 1, 0, (0, 0, 0, 0), 0, 0, []),
  (2, .iload_n 1, 1, 0, (1, 0, 0, 0), 0, 0, []),
  (3, .invokevirtual 53, 3, 0, (146, 2232, 3, 9), 0, 0, []),
  (6, .ifCond .eq 31, 3, 0, (37, 0, 0, 0), 0, 0, []),
  (9, .iload_n 2, 1, 0, (2, 0, 0, 0), 0, 0, []),
  (10, .iconst 0, 1, 0, (0, 0, 0, 0), 0, 0, []),
  (11, .sipush 20000, 3, 0, (0, 0, 0, 0), 20000, 0, []),
  (14, .invokestatic 44, 3, 0, (143, 2220, 3, 0), 0, 0, []),
  (17, .ifCond .eq 20, 3, 0, (37, 0, 0, 0), 0, 0, []),
  (20, .aload_n 0, 1, 0, (0, 0, 0, 0), 0, 0, []),
  (21, .bipush 20, 2, 0, (0, 0, 0, 0), 20, 0, []),
  (23, .bipush 10, 2, 0, (0, 0, 0, 0), 10, 0, []),
  (25, .iload_n 1, 1, 0, (1, 0, 0, 0), 0, 0, []),
  (26, .imul, 1, 0, (0, 0, 0, 0), 0, 0, []),
  (27, .iadd, 1, 0, (0, 0, 0, 0), 0, 0, []),
  (28, .iconst 4, 1, 0, (0, 0, 0, 0), 4, 0, []),
  (29, .iadd, 1, 0, (0, 0, 0, 0), 0, 0, []),
  (30, .iload_n 2, 1, 0, (2, 0, 0, 0), 0, 0, []),
  (31, .invokevirtual 64, 3, 0, (151, 2252, 3, 9), 0, 0, []),
  (34, .goto 5, 3, 0, (39, 0, 0, 0), 0, 0, []),
  (37, .bipush (-2), 2, 0, (0, 0, 0, 0), (-2), 0, []),
  (39, .ireturn, 1, 0, (0, 0, 0, 0), 0, 0, [])]
def hk_m147 : hk_Q := (⟨"HullKeepersModel", "crowd", "(II)I"⟩, prog_10_method_16_code, 3, (some .int), (3, 0, 0, 0, 0, 0), hk_c147)
def hk_c148 : List hk_E := [(0, .iload_n 1, 1, 0, (1, 0, 0, 0), 0, 0, []),
  (1, .iconst 0, 1, 0, (0, 0, 0, 0), 0, 0, []),
  (2, .sipush 599, 3, 0, (0, 0, 0, 0), 599, 0, []),
  (5, .invokestatic 44, 3, 0, (143, 2220, 3, 0), 0, 0, []),
  (8, .ifCond .eq 26, 3, 0, (34, 0, 0, 0), 0, 0, []),
  (11, .iload_n 2, 1, 0, (2, 0, 0, 0), 0, 0, []),
  (12, .iconst 0, 1, 0, (0, 0, 0, 0), 0, 0, []),
  (13, .ldc 67, 2, 0, (0, 2272, 0, 0), 100000, 0, []),
  (15, .invokestatic 44, 3, 0, (143, 2220, 3, 0), 0, 0, []),
  (18, .ifCond .eq 16, 3, 0, (34, 0, 0, 0), 0, 0, []),
  (21, .aload_n 0, 1, 0, (0, 0, 0, 0), 0, 0, []),
  (22, .sipush 1848, 3, 0, (0, 0, 0, 0), 1848, 0, []),
  (25, .iload_n 1, 1, 0, (1, 0, 0, 0), 0, 0, []),
  (26, .iadd, 1, 0, (0, 0, 0, 0), 0, 0, []),
  (27, .iload_n 2, 1, 0, (2, 0, 0, 0), 0, 0, []),
  (28, .invokevirtual 64, 3, 0, (151, 2252, 3, 9), 0, 0, []),
  (31, .goto 5, 3, 0, (36, 0, 0, 0), 0, 0, []),
  (34, .bipush (-2), 2, 0, (0, 0, 0, 0), (-2), 0, []),
  (36, .ireturn, 1, 0, (0, 0, 0, 0), 0, 0, [])]
def hk_m148 : hk_Q := (⟨"HullKeepersModel", "storm", "(II)I"⟩, prog_10_method_17_code, 3, (some .int), (3, 0, 0, 0, 0, 0), hk_c148)
def hk_c149 : List hk_E := [(0, .aload_n 0, 1, 0, (0, 0, 0, 0), 0, 0, []),
  (1, .iload_n 1, 1, 0, (1, 0, 0, 0), 0, 0, []),
  (2, .invokevirtual 77, 3, 0, (157, 2277, 2, 9), 0, 0, []),
  (5, .ifCond .ne 6, 3, 0, (11, 0, 0, 0), 0, 0, []),
  (8, .bipush (-2), 2, 0, (0, 0, 0, 0), (-2), 0, []),
  (10, .ireturn, 1, 0, (0, 0, 0, 0), 0, 0, []),
  (11, .iconst 0, 1, 0, (0, 0, 0, 0), 0, 0, []),
  (12, .istore_n 2, 1, 0, (2, 0, 0, 0), 0, 0, []),
  (13, .iconst 0, 1, 0, (0, 0, 0, 0), 0, 0, []),
  (14, .istore_n 3, 1, 0, (3, 0, 0, 0), 0, 0, []),
  (15, .iload_n 3, 1, 1, (3, 0, 0, 0), 0, 0, []),
  (16, .iload_n 1, 1, 0, (1, 0, 0, 0), 0, 0, []),
  (17, .if_icmp .ge 16, 3, 0, (33, 0, 0, 0), 0, 0, []),
  (20, .iload_n 2, 1, 0, (2, 0, 0, 0), 0, 0, []),
  (21, .aload_n 0, 1, 0, (0, 0, 0, 0), 0, 0, []),
  (22, .invokevirtual 81, 3, 0, (158, 2281, 1, 9), 0, 0, []),
  (25, .iadd, 1, 0, (0, 0, 0, 0), 0, 0, []),
  (26, .istore_n 2, 1, 0, (2, 0, 0, 0), 0, 0, []),
  (27, .iinc 3 1, 3, 0, (3, 0, 0, 0), 1, 0, []),
  (30, .goto (-15), 3, 0, (15, 0, 0, 0), 0, 0, []),
  (33, .iload_n 2, 1, 0, (2, 0, 0, 0), 0, 0, []),
  (34, .ireturn, 1, 0, (0, 0, 0, 0), 0, 0, [])]
def hk_m149 : hk_Q := (⟨"HullKeepersModel", "months", "(I)I"⟩, prog_10_method_23_code, 4, (some .int), (2, 0, 0, 0, 0, 0), hk_c149)
def hk_c150 : List hk_E := [(0, .iload_n 1, 1, 0, (1, 0, 0, 0), 0, 0, []),
  (1, .iconst 1, 1, 0, (0, 0, 0, 0), 1, 0, []),
  (2, .bipush 60, 2, 0, (0, 0, 0, 0), 60, 0, []),
  (4, .invokestatic 44, 3, 0, (143, 2220, 3, 0), 0, 0, []),
  (7, .ifCond .eq 22, 3, 0, (29, 0, 0, 0), 0, 0, []),
  (10, .aload_n 0, 1, 0, (0, 0, 0, 0), 0, 0, []),
  (11, .getfield 7, 3, 0, (8, 2177, 0, 1), 0, 0, []),
  (14, .bipush 7, 2, 0, (0, 0, 0, 0), 7, 0, []),
  (16, .iaload, 1, 0, (0, 0, 0, 0), 0, 0, []),
  (17, .iload_n 1, 1, 0, (1, 0, 0, 0), 0, 0, []),
  (18, .iadd, 1, 0, (0, 0, 0, 0), 0, 0, []),
  (19, .sipush 599, 3, 0, (0, 0, 0, 0), 599, 0, []),
  (22, .if_icmp .gt 7, 3, 0, (29, 0, 0, 0), 0, 0, []),
  (25, .iconst 1, 1, 0, (0, 0, 0, 0), 1, 0, []),
  (26, .goto 4, 3, 0, (30, 0, 0, 0), 0, 0, []),
  (29, .iconst 0, 1, 0, (0, 0, 0, 0), 0, 0, []),
  (30, .ireturn, 1, 0, (0, 0, 0, 1), 0, 0, [])]
def hk_m150 : hk_Q := (⟨"HullKeepersModel", "isAhead", "(I)Z"⟩, prog_10_method_22_code, 2, (some .boolean), (2, 0, 0, 0, 0, 0), hk_c150)
def hk_c151 : List hk_E := [(0, .iconst 0, 1, 0, (0, 0, 0, 0), 0, 0, []),
  (1, .istore_n 1, 1, 0, (1, 0, 0, 0), 0, 0, []),
  (2, .iload_n 1, 1, 1, (1, 0, 0, 0), 0, 0, []),
  (3, .aload_n 0, 1, 0, (0, 0, 0, 0), 0, 0, []),
  (4, .getfield 7, 3, 0, (8, 2177, 0, 1), 0, 0, []),
  (7, .iconst 1, 1, 0, (0, 0, 0, 0), 1, 0, []),
  (8, .iaload, 1, 0, (0, 0, 0, 0), 0, 0, []),
  (9, .if_icmp .ge 69, 3, 0, (78, 0, 0, 0), 0, 0, []),
  (12, .aload_n 0, 1, 0, (0, 0, 0, 0), 0, 0, []),
  (13, .aload_n 0, 1, 0, (0, 0, 0, 0), 0, 0, []),
  (14, .iload_n 1, 1, 0, (1, 0, 0, 0), 0, 0, []),
  (15, .iconst 0, 1, 0, (0, 0, 0, 0), 0, 0, []),
  (16, .invokevirtual 57, 3, 0, (148, 2240, 3, 9), 0, 0, []),
  (19, .bipush 6, 2, 0, (0, 0, 0, 0), 6, 0, []),
  (21, .invokevirtual 61, 3, 0, (149, 2244, 3, 9), 0, 0, []),
  (24, .ifCond .ne 48, 3, 0, (72, 0, 0, 0), 0, 0, []),
  (27, .aload_n 0, 1, 0, (0, 0, 0, 0), 0, 0, []),
  (28, .iload_n 1, 1, 0, (1, 0, 0, 0), 0, 0, []),
  (29, .iconst 2, 1, 0, (0, 0, 0, 0), 2, 0, []),
  (30, .invokevirtual 57, 3, 0, (148, 2240, 3, 9), 0, 0, []),
  (33, .aload_n 0, 1, 0, (0, 0, 0, 0), 0, 0, []),
  (34, .getfield 7, 3, 0, (8, 2177, 0, 1), 0, 0, []),
  (37, .bipush 12, 2, 0, (0, 0, 0, 0), 12, 0, []),
  (39, .aload_n 0, 1, 0, (0, 0, 0, 0), 0, 0, []),
  (40, .iload_n 1, 1, 0, (1, 0, 0, 0), 0, 0, []),
  (41, .iconst 1, 1, 0, (0, 0, 0, 0), 1, 0, []),
  (42, .invokevirtual 57, 3, 0, (148, 2240, 3, 9), 0, 0, []),
  (45, .iadd, 1, 0, (0, 0, 0, 0), 0, 0, []),
  (46, .iaload, 1, 0, (0, 0, 0, 0), 0, 0, []),
  (47, .isub, 1, 0, (0, 0, 0, 0), 0, 0, []),
  (48, .istore_n 2, 1, 0, (2, 0, 0, 0), 0, 0, []),
  (49, .aload_n 0, 1, 0, (0, 0, 0, 0), 0, 0, []),
  (50, .getfield 7, 3, 0, (8, 2177, 0, 1), 0, 0, []),
  (53, .bipush 80, 2, 0, (0, 0, 0, 0), 80, 0, []),
  (55, .bipush 6, 2, 0, (0, 0, 0, 0), 6, 0, []),
  (57, .iload_n 1, 1, 0, (1, 0, 0, 0), 0, 0, []),
  (58, .imul, 1, 0, (0, 0, 0, 0), 0, 0, []),
  (59, .iadd, 1, 0, (0, 0, 0, 0), 0, 0, []),
  (60, .iconst 2, 1, 0, (0, 0, 0, 0), 2, 0, []),
  (61, .iadd, 1, 0, (0, 0, 0, 0), 0, 0, []),
  (62, .iload_n 2, 1, 0, (2, 0, 0, 0), 0, 0, []),
  (63, .ifCond .ge 7, 3, 0, (70, 0, 0, 0), 0, 0, []),
  (66, .iconst 0, 1, 0, (0, 0, 0, 0), 0, 0, []),
  (67, .goto 4, 3, 0, (71, 0, 0, 0), 0, 0, []),
  (70, .iload_n 2, 1, 0, (2, 0, 0, 0), 0, 0, []),
  (71, .iastore, 1, 0, (0, 0, 0, 0), 0, 0, []),
  (72, .iinc 1 1, 3, 0, (1, 0, 0, 0), 1, 0, []),
  (75, .goto (-73), 3, 0, (2, 0, 0, 0), 0, 0, []),
  (78, .aload_n 0, 1, 0, (0, 0, 0, 0), 0, 0, []),
  (79, .getfield 7, 3, 0, (8, 2177, 0, 1), 0, 0, []),
  (82, .bipush 9, 2, 0, (0, 0, 0, 0), 9, 0, []),
  (84, .iaload, 1, 0, (0, 0, 0, 0), 0, 0, []),
  (85, .istore_n 1, 1, 0, (1, 0, 0, 0), 0, 0, []),
  (86, .iconst 0, 1, 0, (0, 0, 0, 0), 0, 0, []),
  (87, .istore_n 2, 1, 0, (2, 0, 0, 0), 0, 0, []),
  (88, .iconst 0, 1, 0, (0, 0, 0, 0), 0, 0, []),
  (89, .istore_n 3, 1, 0, (3, 0, 0, 0), 0, 0, []),
  (90, .iload_n 3, 1, 1, (3, 0, 0, 0), 0, 0, []),
  (91, .aload_n 0, 1, 0, (0, 0, 0, 0), 0, 0, []),
  (92, .getfield 7, 3, 0, (8, 2177, 0, 1), 0, 0, []),
  (95, .iconst 0, 1, 0, (0, 0, 0, 0), 0, 0, []),
  (96, .iaload, 1, 0, (0, 0, 0, 0), 0, 0, []),
  (97, .if_icmp .ge 145, 3, 0, (242, 0, 0, 0), 0, 0, []),
  (100, .aload_n 0, 1, 0, (0, 0, 0, 0), 0, 0, []),
  (101, .iload_n 3, 1, 0, (3, 0, 0, 0), 0, 0, []),
  (102, .bipush 6, 2, 0, (0, 0, 0, 0), 6, 0, []),
  (104, .invokevirtual 61, 3, 0, (149, 2244, 3, 9), 0, 0, []),
  (107, .ifCond .ne 129, 3, 0, (236, 0, 0, 0), 0, 0, []),
  (110, .aload_n 0, 1, 0, (0, 0, 0, 0), 0, 0, []),
  (111, .iload_n 3, 1, 0, (3, 0, 0, 0), 0, 0, []),
  (112, .iconst 5, 1, 0, (0, 0, 0, 0), 5, 0, []),
  (113, .invokevirtual 61, 3, 0, (149, 2244, 3, 9), 0, 0, []),
  (116, .aload_n 0, 1, 0, (0, 0, 0, 0), 0, 0, []),
  (117, .iload_n 3, 1, 0, (3, 0, 0, 0), 0, 0, []),
  (118, .invokevirtual 71, 3, 0, (159, 2285, 2, 9), 0, 0, []),
  (121, .iadd, 1, 0, (0, 0, 0, 0), 0, 0, []),
  (122, .aload_n 0, 1, 0, (0, 0, 0, 0), 0, 0, []),
  (123, .getfield 7, 3, 0, (8, 2177, 0, 1), 0, 0, []),
  (126, .sipush 1848, 3, 0, (0, 0, 0, 0), 1848, 0, []),
  (129, .aload_n 0, 1, 0, (0, 0, 0, 0), 0, 0, []),
  (130, .getfield 7, 3, 0, (8, 2177, 0, 1), 0, 0, []),
  (133, .bipush 7, 2, 0, (0, 0, 0, 0), 7, 0, []),
  (135, .iaload, 1, 0, (0, 0, 0, 0), 0, 0, []),
  (136, .iadd, 1, 0, (0, 0, 0, 0), 0, 0, []),
  (137, .iaload, 1, 0, (0, 0, 0, 0), 0, 0, []),
  (138, .iadd, 1, 0, (0, 0, 0, 0), 0, 0, []),
  (139, .istore 4, 2, 0, (4, 0, 0, 0), 0, 0, []),
  (141, .iload 4, 2, 0, (4, 0, 0, 0), 0, 0, []),
  (143, .aload_n 0, 1, 0, (0, 0, 0, 0), 0, 0, []),
  (144, .iload_n 3, 1, 0, (3, 0, 0, 0), 0, 0, []),
  (145, .iconst 3, 1, 0, (0, 0, 0, 0), 3, 0, []),
  (146, .invokevirtual 61, 3, 0, (149, 2244, 3, 9), 0, 0, []),
  (149, .if_icmp .ge 8, 3, 0, (157, 0, 0, 0), 0, 0, []),
  (152, .iload 4, 2, 0, (4, 0, 0, 0), 0, 0, []),
  (154, .goto 9, 3, 0, (163, 0, 0, 0), 0, 0, []),
  (157, .aload_n 0, 1, 0, (0, 0, 0, 0), 0, 0, []),
  (158, .iload_n 3, 1, 0, (3, 0, 0, 0), 0, 0, []),
  (159, .iconst 3, 1, 0, (0, 0, 0, 0), 3, 0, []),
  (160, .invokevirtual 61, 3, 0, (149, 2244, 3, 9), 0, 0, []),
  (163, .istore 5, 2, 0, (5, 0, 0, 0), 0, 0, []),
  (165, .iload 5, 2, 0, (5, 0, 0, 0), 0, 0, []),
  (167, .iload_n 1, 1, 0, (1, 0, 0, 0), 0, 0, []),
  (168, .if_icmp .ge 8, 3, 0, (176, 0, 0, 0), 0, 0, []),
  (171, .iload 5, 2, 0, (5, 0, 0, 0), 0, 0, []),
  (173, .goto 4, 3, 0, (177, 0, 0, 0), 0, 0, []),
  (176, .iload_n 1, 1, 0, (1, 0, 0, 0), 0, 0, []),
  (177, .istore 5, 2, 0, (5, 0, 0, 0), 0, 0, []),
  (179, .iload_n 1, 1, 0, (1, 0, 0, 0), 0, 0, []),
  (180, .iload 5, 2, 0, (5, 0, 0, 0), 0, 0, []),
  (182, .isub, 1, 0, (0, 0, 0, 0), 0, 0, []),
  (183, .istore_n 1, 1, 0, (1, 0, 0, 0), 0, 0, []),
  (184, .aload_n 0, 1, 0, (0, 0, 0, 0), 0, 0, []),
  (185, .getfield 7, 3, 0, (8, 2177, 0, 1), 0, 0, []),
  (188, .bipush 20, 2, 0, (0, 0, 0, 0), 20, 0, []),
  (190, .bipush 10, 2, 0, (0, 0, 0, 0), 10, 0, []),
  (192, .iload_n 3, 1, 0, (3, 0, 0, 0), 0, 0, []),
  (193, .imul, 1, 0, (0, 0, 0, 0), 0, 0, []),
  (194, .iadd, 1, 0, (0, 0, 0, 0), 0, 0, []),
  (195, .iconst 5, 1, 0, (0, 0, 0, 0), 5, 0, []),
  (196, .iadd, 1, 0, (0, 0, 0, 0), 0, 0, []),
  (197, .iload 4, 2, 0, (4, 0, 0, 0), 0, 0, []),
  (199, .iload 5, 2, 0, (5, 0, 0, 0), 0, 0, []),
  (201, .isub, 1, 0, (0, 0, 0, 0), 0, 0, []),
  (202, .iastore, 1, 0, (0, 0, 0, 0), 0, 0, []),
  (203, .aload_n 0, 1, 0, (0, 0, 0, 0), 0, 0, []),
  (204, .iload_n 3, 1, 0, (3, 0, 0, 0), 0, 0, []),
  (205, .invokevirtual 74, 3, 0, (161, 2565, 2, 9), 0, 0, []),
  (208, .aload_n 0, 1, 0, (0, 0, 0, 0), 0, 0, []),
  (209, .iload_n 3, 1, 0, (3, 0, 0, 0), 0, 0, []),
  (210, .iconst 1, 1, 0, (0, 0, 0, 0), 1, 0, []),
  (211, .invokevirtual 61, 3, 0, (149, 2244, 3, 9), 0, 0, []),
  (214, .if_icmp .le 22, 3, 0, (236, 0, 0, 0), 0, 0, []),
  (217, .aload_n 0, 1, 0, (0, 0, 0, 0), 0, 0, []),
  (218, .getfield 7, 3, 0, (8, 2177, 0, 1), 0, 0, []),
  (221, .bipush 20, 2, 0, (0, 0, 0, 0), 20, 0, []),
  (223, .bipush 10, 2, 0, (0, 0, 0, 0), 10, 0, []),
  (225, .iload_n 3, 1, 0, (3, 0, 0, 0), 0, 0, []),
  (226, .imul, 1, 0, (0, 0, 0, 0), 0, 0, []),
  (227, .iadd, 1, 0, (0, 0, 0, 0), 0, 0, []),
  (228, .bipush 6, 2, 0, (0, 0, 0, 0), 6, 0, []),
  (230, .iadd, 1, 0, (0, 0, 0, 0), 0, 0, []),
  (231, .iconst 1, 1, 0, (0, 0, 0, 0), 1, 0, []),
  (232, .iastore, 1, 0, (0, 0, 0, 0), 0, 0, []),
  (233, .iinc 2 1, 3, 0, (2, 0, 0, 0), 1, 0, []),
  (236, .iinc 3 1, 3, 0, (3, 0, 0, 0), 1, 0, []),
  (239, .goto (-149), 3, 0, (90, 0, 0, 0), 0, 0, []),
  (242, .aload_n 0, 1, 0, (0, 0, 0, 0), 0, 0, []),
  (243, .getfield 7, 3, 0, (8, 2177, 0, 1), 0, 0, []),
  (246, .bipush 7, 2, 0, (0, 0, 0, 0), 7, 0, []),
  (248, .dup2, 1, 0, (0, 0, 0, 0), 0, 0, []),
  (249, .iaload, 1, 0, (0, 0, 0, 0), 0, 0, []),
  (250, .iconst 1, 1, 0, (0, 0, 0, 0), 1, 0, []),
  (251, .iadd, 1, 0, (0, 0, 0, 0), 0, 0, []),
  (252, .iastore, 1, 0, (0, 0, 0, 0), 0, 0, []),
  (253, .iload_n 2, 1, 0, (2, 0, 0, 0), 0, 0, []),
  (254, .ireturn, 1, 0, (0, 0, 0, 0), 0, 0, [])]
def hk_m151 : hk_Q := (⟨"HullKeepersModel", "goes", "()I"⟩, prog_10_method_21_code, 6, (some .int), (1, 0, 0, 0, 0, 0), hk_c151)
def hk_c152 : List hk_E := [(0, .iconst 0, 1, 0, (0, 0, 0, 0), 0, 0, []),
  (1, .istore_n 2, 1, 0, (2, 0, 0, 0), 0, 0, []),
  (2, .iconst 0, 1, 0, (0, 0, 0, 0), 0, 0, []),
  (3, .istore_n 3, 1, 0, (3, 0, 0, 0), 0, 0, []),
  (4, .iload_n 3, 1, 1, (3, 0, 0, 0), 0, 0, []),
  (5, .aload_n 0, 1, 0, (0, 0, 0, 0), 0, 0, []),
  (6, .getfield 7, 3, 0, (8, 2177, 0, 1), 0, 0, []),
  (9, .iconst 1, 1, 0, (0, 0, 0, 0), 1, 0, []),
  (10, .iaload, 1, 0, (0, 0, 0, 0), 0, 0, []),
  (11, .if_icmp .ge 31, 3, 0, (42, 0, 0, 0), 0, 0, []),
  (14, .iload_n 2, 1, 0, (2, 0, 0, 0), 0, 0, []),
  (15, .aload_n 0, 1, 0, (0, 0, 0, 0), 0, 0, []),
  (16, .iload_n 3, 1, 0, (3, 0, 0, 0), 0, 0, []),
  (17, .iconst 0, 1, 0, (0, 0, 0, 0), 0, 0, []),
  (18, .invokevirtual 57, 3, 0, (148, 2240, 3, 9), 0, 0, []),
  (21, .iload_n 1, 1, 0, (1, 0, 0, 0), 0, 0, []),
  (22, .if_icmp .ne 11, 3, 0, (33, 0, 0, 0), 0, 0, []),
  (25, .aload_n 0, 1, 0, (0, 0, 0, 0), 0, 0, []),
  (26, .iload_n 3, 1, 0, (3, 0, 0, 0), 0, 0, []),
  (27, .invokevirtual 68, 3, 0, (160, 2561, 2, 9), 0, 0, []),
  (30, .goto 4, 3, 0, (34, 0, 0, 0), 0, 0, []),
  (33, .iconst 0, 1, 0, (0, 0, 0, 0), 0, 0, []),
  (34, .iadd, 1, 0, (0, 0, 0, 0), 0, 0, []),
  (35, .istore_n 2, 1, 0, (2, 0, 0, 0), 0, 0, []),
  (36, .iinc 3 1, 3, 0, (3, 0, 0, 0), 1, 0, []),
  (39, .goto (-35), 3, 0, (4, 0, 0, 0), 0, 0, []),
  (42, .iload_n 2, 1, 0, (2, 0, 0, 0), 0, 0, []),
  (43, .ireturn, 1, 0, (0, 0, 0, 0), 0, 0, [])]
def hk_m152 : hk_Q := (⟨"HullKeepersModel", "leaksOf", "(I)I"⟩, prog_10_method_19_code, 4, (some .int), (2, 0, 0, 0, 0, 0), hk_c152)
def hk_c153 : List hk_E := [(0, .aload_n 0, 1, 0, (0, 0, 0, 0), 0, 0, []),
  (1, .getfield 7, 3, 0, (8, 2177, 0, 1), 0, 0, []),
  (4, .bipush 8, 2, 0, (0, 0, 0, 0), 8, 0, []),
  (6, .iaload, 1, 0, (0, 0, 0, 0), 0, 0, []),
  (7, .aload_n 0, 1, 0, (0, 0, 0, 0), 0, 0, []),
  (8, .iload_n 1, 1, 0, (1, 0, 0, 0), 0, 0, []),
  (9, .iconst 2, 1, 0, (0, 0, 0, 0), 2, 0, []),
  (10, .invokevirtual 57, 3, 0, (148, 2240, 3, 9), 0, 0, []),
  (13, .isub, 1, 0, (0, 0, 0, 0), 0, 0, []),
  (14, .istore_n 2, 1, 0, (2, 0, 0, 0), 0, 0, []),
  (15, .iload_n 2, 1, 0, (2, 0, 0, 0), 0, 0, []),
  (16, .ifCond .le 12, 3, 0, (28, 0, 0, 0), 0, 0, []),
  (19, .aload_n 0, 1, 0, (0, 0, 0, 0), 0, 0, []),
  (20, .iload_n 1, 1, 0, (1, 0, 0, 0), 0, 0, []),
  (21, .iconst 1, 1, 0, (0, 0, 0, 0), 1, 0, []),
  (22, .invokevirtual 57, 3, 0, (148, 2240, 3, 9), 0, 0, []),
  (25, .ifCond .ne 7, 3, 0, (32, 0, 0, 0), 0, 0, []),
  (28, .iconst 0, 1, 0, (0, 0, 0, 0), 0, 0, []),
  (29, .goto 20, 3, 0, (49, 0, 0, 0), 0, 0, []),
  (32, .aload_n 0, 1, 0, (0, 0, 0, 0), 0, 0, []),
  (33, .iload_n 1, 1, 0, (1, 0, 0, 0), 0, 0, []),
  (34, .iconst 1, 1, 0, (0, 0, 0, 0), 1, 0, []),
  (35, .invokevirtual 57, 3, 0, (148, 2240, 3, 9), 0, 0, []),
  (38, .iconst 2, 1, 0, (0, 0, 0, 0), 2, 0, []),
  (39, .if_icmp .ne 9, 3, 0, (48, 0, 0, 0), 0, 0, []),
  (42, .iconst 3, 1, 0, (0, 0, 0, 0), 3, 0, []),
  (43, .iload_n 2, 1, 0, (2, 0, 0, 0), 0, 0, []),
  (44, .imul, 1, 0, (0, 0, 0, 0), 0, 0, []),
  (45, .goto 4, 3, 0, (49, 0, 0, 0), 0, 0, []),
  (48, .iload_n 2, 1, 0, (2, 0, 0, 0), 0, 0, []),
  (49, .ireturn, 1, 0, (0, 0, 0, 0), 0, 0, [])]
def hk_m153 : hk_Q := (⟨"HullKeepersModel", "leakOf", "(I)I"⟩, prog_10_method_18_code, 3, (some .int), (2, 0, 0, 0, 0, 0), hk_c153)
def hk_c154 : List hk_E := [(0, .aload_n 0, 1, 0, (0, 0, 0, 0), 0, 0, []),
  (1, .iload_n 1, 1, 0, (1, 0, 0, 0), 0, 0, []),
  (2, .iconst 2, 1, 0, (0, 0, 0, 0), 2, 0, []),
  (3, .invokevirtual 61, 3, 0, (149, 2244, 3, 9), 0, 0, []),
  (6, .aload_n 0, 1, 0, (0, 0, 0, 0), 0, 0, []),
  (7, .iload_n 1, 1, 0, (1, 0, 0, 0), 0, 0, []),
  (8, .iconst 5, 1, 0, (0, 0, 0, 0), 5, 0, []),
  (9, .invokevirtual 61, 3, 0, (149, 2244, 3, 9), 0, 0, []),
  (12, .iadd, 1, 0, (0, 0, 0, 0), 0, 0, []),
  (13, .aload_n 0, 1, 0, (0, 0, 0, 0), 0, 0, []),
  (14, .iload_n 1, 1, 0, (1, 0, 0, 0), 0, 0, []),
  (15, .iconst 4, 1, 0, (0, 0, 0, 0), 4, 0, []),
  (16, .invokevirtual 61, 3, 0, (149, 2244, 3, 9), 0, 0, []),
  (19, .iadd, 1, 0, (0, 0, 0, 0), 0, 0, []),
  (20, .aload_n 0, 1, 0, (0, 0, 0, 0), 0, 0, []),
  (21, .iload_n 1, 1, 0, (1, 0, 0, 0), 0, 0, []),
  (22, .iconst 0, 1, 0, (0, 0, 0, 0), 0, 0, []),
  (23, .invokevirtual 61, 3, 0, (149, 2244, 3, 9), 0, 0, []),
  (26, .idiv, 1, 0, (0, 0, 0, 0), 0, 0, []),
  (27, .ireturn, 1, 0, (0, 0, 0, 0), 0, 0, [])]
def hk_m154 : hk_Q := (⟨"HullKeepersModel", "lies", "(I)I"⟩, prog_10_method_20_code, 2, (some .int), (2, 0, 0, 0, 0, 0), hk_c154)
def hk_c155 : List hk_E := [(0, .aload_n 0, 1, 0, (0, 0, 0, 0), 0, 0, []),
  (1, .iconst 0, 1, 0, (0, 0, 0, 0), 0, 0, []),
  (2, .iload_n 1, 1, 0, (1, 0, 0, 0), 0, 0, []),
  (3, .invokevirtual 53, 3, 0, (146, 2232, 3, 9), 0, 0, []),
  (6, .ifCond .eq 22, 3, 0, (28, 0, 0, 0), 0, 0, []),
  (9, .iload_n 2, 1, 0, (2, 0, 0, 0), 0, 0, []),
  (10, .iconst 0, 1, 0, (0, 0, 0, 0), 0, 0, []),
  (11, .bipush 6, 2, 0, (0, 0, 0, 0), 6, 0, []),
  (13, .invokestatic 44, 3, 0, (143, 2220, 3, 0), 0, 0, []),
  (16, .ifCond .eq 12, 3, 0, (28, 0, 0, 0), 0, 0, []),
  (19, .aload_n 0, 1, 0, (0, 0, 0, 0), 0, 0, []),
  (20, .iload_n 1, 1, 0, (1, 0, 0, 0), 0, 0, []),
  (21, .iload_n 2, 1, 0, (2, 0, 0, 0), 0, 0, []),
  (22, .invokevirtual 91, 3, 0, (163, 2573, 3, 9), 0, 0, []),
  (25, .goto 5, 3, 0, (30, 0, 0, 0), 0, 0, []),
  (28, .bipush (-2), 2, 0, (0, 0, 0, 0), (-2), 0, []),
  (30, .ireturn, 1, 0, (0, 0, 0, 0), 0, 0, [])]
def hk_m155 : hk_Q := (⟨"HullKeepersModel", "about", "(II)I"⟩, prog_10_method_27_code, 3, (some .int), (3, 0, 0, 0, 0, 0), hk_c155)
def hk_c156 : List hk_E := [(0, .iload_n 2, 1, 0, (2, 0, 0, 0), 0, 0, []),
  (1, .tableswitch 78 0 5 #[39, 46, 52, 60, 66, 72], 39, 0, (79, 0, 0, 0), 0, 0, [(0, 40), (1, 47), (2, 53), (3, 61), (4, 67), (5, 73)]),
  (40, .aload_n 0, 1, 0, (0, 0, 0, 0), 0, 0, []),
  (41, .iload_n 1, 1, 0, (1, 0, 0, 0), 0, 0, []),
  (42, .iconst 5, 1, 0, (0, 0, 0, 0), 5, 0, []),
  (43, .invokevirtual 61, 3, 0, (149, 2244, 3, 9), 0, 0, []),
  (46, .ireturn, 1, 0, (0, 0, 0, 0), 0, 0, []),
  (47, .aload_n 0, 1, 0, (0, 0, 0, 0), 0, 0, []),
  (48, .iload_n 1, 1, 0, (1, 0, 0, 0), 0, 0, []),
  (49, .invokevirtual 74, 3, 0, (161, 2565, 2, 9), 0, 0, []),
  (52, .ireturn, 1, 0, (0, 0, 0, 0), 0, 0, []),
  (53, .aload_n 0, 1, 0, (0, 0, 0, 0), 0, 0, []),
  (54, .iload_n 1, 1, 0, (1, 0, 0, 0), 0, 0, []),
  (55, .bipush 6, 2, 0, (0, 0, 0, 0), 6, 0, []),
  (57, .invokevirtual 61, 3, 0, (149, 2244, 3, 9), 0, 0, []),
  (60, .ireturn, 1, 0, (0, 0, 0, 0), 0, 0, []),
  (61, .aload_n 0, 1, 0, (0, 0, 0, 0), 0, 0, []),
  (62, .iload_n 1, 1, 0, (1, 0, 0, 0), 0, 0, []),
  (63, .invokevirtual 85, 3, 0, (164, 2577, 2, 9), 0, 0, []),
  (66, .ireturn, 1, 0, (0, 0, 0, 0), 0, 0, []),
  (67, .aload_n 0, 1, 0, (0, 0, 0, 0), 0, 0, []),
  (68, .iload_n 1, 1, 0, (1, 0, 0, 0), 0, 0, []),
  (69, .invokevirtual 88, 3, 0, (165, 2581, 2, 9), 0, 0, []),
  (72, .ireturn, 1, 0, (0, 0, 0, 0), 0, 0, []),
  (73, .aload_n 0, 1, 0, (0, 0, 0, 0), 0, 0, []),
  (74, .iload_n 1, 1, 0, (1, 0, 0, 0), 0, 0, []),
  (75, .invokevirtual 71, 3, 0, (159, 2285, 2, 9), 0, 0, []),
  (78, .ireturn, 1, 0, (0, 0, 0, 0), 0, 0, []),
  (79, .aload_n 0, 1, 0, (0, 0, 0, 0), 0, 0, []),
  (80, .iload_n 1, 1, 0, (1, 0, 0, 0), 0, 0, []),
  (81, .bipush 8, 2, 0, (0, 0, 0, 0), 8, 0, []),
  (83, .invokevirtual 61, 3, 0, (149, 2244, 3, 9), 0, 0, []),
  (86, .ireturn, 1, 0, (0, 0, 0, 0), 0, 0, [])]
def hk_m156 : hk_Q := (⟨"HullKeepersModel", "shipTold", "(II)I"⟩, prog_10_method_26_code, 3, (some .int), (3, 0, 0, 0, 0, 0), hk_c156)
def hk_c157 : List hk_E := [(0, .iconst 0, 1, 0, (0, 0, 0, 0), 0, 0, []),
  (1, .istore_n 2, 1, 0, (2, 0, 0, 0), 0, 0, []),
  (2, .iconst 0, 1, 0, (0, 0, 0, 0), 0, 0, []),
  (3, .istore_n 3, 1, 0, (3, 0, 0, 0), 0, 0, []),
  (4, .iload_n 3, 1, 1, (3, 0, 0, 0), 0, 0, []),
  (5, .aload_n 0, 1, 0, (0, 0, 0, 0), 0, 0, []),
  (6, .getfield 7, 3, 0, (8, 2177, 0, 1), 0, 0, []),
  (9, .iconst 1, 1, 0, (0, 0, 0, 0), 1, 0, []),
  (10, .iaload, 1, 0, (0, 0, 0, 0), 0, 0, []),
  (11, .if_icmp .ge 27, 3, 0, (38, 0, 0, 0), 0, 0, []),
  (14, .iload_n 2, 1, 0, (2, 0, 0, 0), 0, 0, []),
  (15, .aload_n 0, 1, 0, (0, 0, 0, 0), 0, 0, []),
  (16, .iload_n 3, 1, 0, (3, 0, 0, 0), 0, 0, []),
  (17, .iconst 0, 1, 0, (0, 0, 0, 0), 0, 0, []),
  (18, .invokevirtual 57, 3, 0, (148, 2240, 3, 9), 0, 0, []),
  (21, .iload_n 1, 1, 0, (1, 0, 0, 0), 0, 0, []),
  (22, .if_icmp .ne 7, 3, 0, (29, 0, 0, 0), 0, 0, []),
  (25, .iconst 1, 1, 0, (0, 0, 0, 0), 1, 0, []),
  (26, .goto 4, 3, 0, (30, 0, 0, 0), 0, 0, []),
  (29, .iconst 0, 1, 0, (0, 0, 0, 0), 0, 0, []),
  (30, .iadd, 1, 0, (0, 0, 0, 0), 0, 0, []),
  (31, .istore_n 2, 1, 0, (2, 0, 0, 0), 0, 0, []),
  (32, .iinc 3 1, 3, 0, (3, 0, 0, 0), 1, 0, []),
  (35, .goto (-31), 3, 0, (4, 0, 0, 0), 0, 0, []),
  (38, .iload_n 2, 1, 0, (2, 0, 0, 0), 0, 0, []),
  (39, .ireturn, 1, 0, (0, 0, 0, 0), 0, 0, [])]
def hk_m157 : hk_Q := (⟨"HullKeepersModel", "platesOf", "(I)I"⟩, prog_10_method_24_code, 4, (some .int), (2, 0, 0, 0, 0, 0), hk_c157)
def hk_c158 : List hk_E := [(0, .aload_n 0, 1, 0, (0, 0, 0, 0), 0, 0, []),
  (1, .iload_n 1, 1, 0, (1, 0, 0, 0), 0, 0, []),
  (2, .bipush 7, 2, 0, (0, 0, 0, 0), 7, 0, []),
  (4, .invokevirtual 61, 3, 0, (149, 2244, 3, 9), 0, 0, []),
  (7, .ifCond .ne 5, 3, 0, (12, 0, 0, 0), 0, 0, []),
  (10, .iconst (-1), 1, 0, (0, 0, 0, 0), (-1), 0, []),
  (11, .ireturn, 1, 0, (0, 0, 0, 0), 0, 0, []),
  (12, .iconst 0, 1, 0, (0, 0, 0, 0), 0, 0, []),
  (13, .istore_n 2, 1, 0, (2, 0, 0, 0), 0, 0, []),
  (14, .iconst 0, 1, 0, (0, 0, 0, 0), 0, 0, []),
  (15, .istore_n 3, 1, 0, (3, 0, 0, 0), 0, 0, []),
  (16, .iload_n 3, 1, 1, (3, 0, 0, 0), 0, 0, []),
  (17, .aload_n 0, 1, 0, (0, 0, 0, 0), 0, 0, []),
  (18, .getfield 7, 3, 0, (8, 2177, 0, 1), 0, 0, []),
  (21, .iconst 1, 1, 0, (0, 0, 0, 0), 1, 0, []),
  (22, .iaload, 1, 0, (0, 0, 0, 0), 0, 0, []),
  (23, .if_icmp .ge 42, 3, 0, (65, 0, 0, 0), 0, 0, []),
  (26, .iload_n 2, 1, 0, (2, 0, 0, 0), 0, 0, []),
  (27, .aload_n 0, 1, 0, (0, 0, 0, 0), 0, 0, []),
  (28, .iload_n 3, 1, 0, (3, 0, 0, 0), 0, 0, []),
  (29, .iconst 0, 1, 0, (0, 0, 0, 0), 0, 0, []),
  (30, .invokevirtual 57, 3, 0, (148, 2240, 3, 9), 0, 0, []),
  (33, .iload_n 1, 1, 0, (1, 0, 0, 0), 0, 0, []),
  (34, .if_icmp .ne 22, 3, 0, (56, 0, 0, 0), 0, 0, []),
  (37, .aload_n 0, 1, 0, (0, 0, 0, 0), 0, 0, []),
  (38, .iload_n 3, 1, 0, (3, 0, 0, 0), 0, 0, []),
  (39, .iconst 5, 1, 0, (0, 0, 0, 0), 5, 0, []),
  (40, .invokevirtual 57, 3, 0, (148, 2240, 3, 9), 0, 0, []),
  (43, .iconst 1, 1, 0, (0, 0, 0, 0), 1, 0, []),
  (44, .if_icmp .ne 12, 3, 0, (56, 0, 0, 0), 0, 0, []),
  (47, .aload_n 0, 1, 0, (0, 0, 0, 0), 0, 0, []),
  (48, .iload_n 3, 1, 0, (3, 0, 0, 0), 0, 0, []),
  (49, .iconst 3, 1, 0, (0, 0, 0, 0), 3, 0, []),
  (50, .invokevirtual 57, 3, 0, (148, 2240, 3, 9), 0, 0, []),
  (53, .goto 4, 3, 0, (57, 0, 0, 0), 0, 0, []),
  (56, .iconst 0, 1, 0, (0, 0, 0, 0), 0, 0, []),
  (57, .iadd, 1, 0, (0, 0, 0, 0), 0, 0, []),
  (58, .istore_n 2, 1, 0, (2, 0, 0, 0), 0, 0, []),
  (59, .iinc 3 1, 3, 0, (3, 0, 0, 0), 1, 0, []),
  (62, .goto (-46), 3, 0, (16, 0, 0, 0), 0, 0, []),
  (65, .sipush 1000, 3, 0, (0, 0, 0, 0), 1000, 0, []),
  (68, .iload_n 2, 1, 0, (2, 0, 0, 0), 0, 0, []),
  (69, .imul, 1, 0, (0, 0, 0, 0), 0, 0, []),
  (70, .aload_n 0, 1, 0, (0, 0, 0, 0), 0, 0, []),
  (71, .iload_n 1, 1, 0, (1, 0, 0, 0), 0, 0, []),
  (72, .bipush 7, 2, 0, (0, 0, 0, 0), 7, 0, []),
  (74, .invokevirtual 61, 3, 0, (149, 2244, 3, 9), 0, 0, []),
  (77, .idiv, 1, 0, (0, 0, 0, 0), 0, 0, []),
  (78, .ireturn, 1, 0, (0, 0, 0, 0), 0, 0, [])]
def hk_m158 : hk_Q := (⟨"HullKeepersModel", "firstStuff", "(I)I"⟩, prog_10_method_25_code, 4, (some .int), (2, 0, 0, 0, 0, 0), hk_c158)
def hk_c159 : List hk_E := [(0, .aload_n 0, 1, 0, (0, 0, 0, 0), 0, 0, []),
  (1, .iconst 1, 1, 0, (0, 0, 0, 0), 1, 0, []),
  (2, .iload_n 1, 1, 0, (1, 0, 0, 0), 0, 0, []),
  (3, .invokevirtual 53, 3, 0, (146, 2232, 3, 9), 0, 0, []),
  (6, .ifCond .eq 21, 3, 0, (27, 0, 0, 0), 0, 0, []),
  (9, .iload_n 2, 1, 0, (2, 0, 0, 0), 0, 0, []),
  (10, .iconst 0, 1, 0, (0, 0, 0, 0), 0, 0, []),
  (11, .iconst 5, 1, 0, (0, 0, 0, 0), 5, 0, []),
  (12, .invokestatic 44, 3, 0, (143, 2220, 3, 0), 0, 0, []),
  (15, .ifCond .eq 12, 3, 0, (27, 0, 0, 0), 0, 0, []),
  (18, .aload_n 0, 1, 0, (0, 0, 0, 0), 0, 0, []),
  (19, .iload_n 1, 1, 0, (1, 0, 0, 0), 0, 0, []),
  (20, .iload_n 2, 1, 0, (2, 0, 0, 0), 0, 0, []),
  (21, .invokevirtual 57, 3, 0, (148, 2240, 3, 9), 0, 0, []),
  (24, .goto 6, 3, 0, (30, 0, 0, 0), 0, 0, []),
  (27, .sipush (-10000), 3, 0, (0, 0, 0, 0), (-10000), 0, []),
  (30, .ireturn, 1, 0, (0, 0, 0, 0), 0, 0, [])]
def hk_m159 : hk_Q := (⟨"HullKeepersModel", "plateAt", "(II)I"⟩, prog_10_method_28_code, 3, (some .int), (3, 0, 0, 0, 0, 0), hk_c159)
def hk_c160 : List hk_E := [(0, .aload_n 0, 1, 0, (0, 0, 0, 0), 0, 0, []),
  (1, .iconst 1, 1, 0, (0, 0, 0, 0), 1, 0, []),
  (2, .iload_n 1, 1, 0, (1, 0, 0, 0), 0, 0, []),
  (3, .invokevirtual 53, 3, 0, (146, 2232, 3, 9), 0, 0, []),
  (6, .ifCond .eq 14, 3, 0, (20, 0, 0, 0), 0, 0, []),
  (9, .iload_n 2, 1, 0, (2, 0, 0, 0), 0, 0, []),
  (10, .iconst 1, 1, 0, (0, 0, 0, 0), 1, 0, []),
  (11, .sipush 5000, 3, 0, (0, 0, 0, 0), 5000, 0, []),
  (14, .invokestatic 44, 3, 0, (143, 2220, 3, 0), 0, 0, []),
  (17, .ifCond .ne 6, 3, 0, (23, 0, 0, 0), 0, 0, []),
  (20, .bipush (-2), 2, 0, (0, 0, 0, 0), (-2), 0, []),
  (22, .ireturn, 1, 0, (0, 0, 0, 0), 0, 0, []),
  (23, .aload_n 0, 1, 0, (0, 0, 0, 0), 0, 0, []),
  (24, .iload_n 1, 1, 0, (1, 0, 0, 0), 0, 0, []),
  (25, .iconst 0, 1, 0, (0, 0, 0, 0), 0, 0, []),
  (26, .invokevirtual 57, 3, 0, (148, 2240, 3, 9), 0, 0, []),
  (29, .istore_n 3, 1, 0, (3, 0, 0, 0), 0, 0, []),
  (30, .aload_n 0, 1, 0, (0, 0, 0, 0), 0, 0, []),
  (31, .iload_n 3, 1, 0, (3, 0, 0, 0), 0, 0, []),
  (32, .bipush 6, 2, 0, (0, 0, 0, 0), 6, 0, []),
  (34, .invokevirtual 61, 3, 0, (149, 2244, 3, 9), 0, 0, []),
  (37, .iconst 1, 1, 0, (0, 0, 0, 0), 1, 0, []),
  (38, .if_icmp .eq 29, 3, 0, (67, 0, 0, 0), 0, 0, []),
  (41, .aload_n 0, 1, 0, (0, 0, 0, 0), 0, 0, []),
  (42, .iload_n 3, 1, 0, (3, 0, 0, 0), 0, 0, []),
  (43, .bipush 8, 2, 0, (0, 0, 0, 0), 8, 0, []),
  (45, .invokevirtual 61, 3, 0, (149, 2244, 3, 9), 0, 0, []),
  (48, .iconst (-1), 1, 0, (0, 0, 0, 0), (-1), 0, []),
  (49, .if_icmp .eq 21, 3, 0, (70, 0, 0, 0), 0, 0, []),
  (52, .aload_n 0, 1, 0, (0, 0, 0, 0), 0, 0, []),
  (53, .aload_n 0, 1, 0, (0, 0, 0, 0), 0, 0, []),
  (54, .iload_n 3, 1, 0, (3, 0, 0, 0), 0, 0, []),
  (55, .bipush 8, 2, 0, (0, 0, 0, 0), 8, 0, []),
  (57, .invokevirtual 61, 3, 0, (149, 2244, 3, 9), 0, 0, []),
  (60, .iload_n 1, 1, 0, (1, 0, 0, 0), 0, 0, []),
  (61, .invokevirtual 94, 3, 0, (168, 2593, 3, 9), 0, 0, []),
  (64, .ifCond .ne 6, 3, 0, (70, 0, 0, 0), 0, 0, []),
  (67, .bipush (-3), 2, 0, (0, 0, 0, 0), (-3), 0, []),
  (69, .ireturn, 1, 0, (0, 0, 0, 0), 0, 0, []),
  (70, .bipush 80, 2, 0, (0, 0, 0, 0), 80, 0, []),
  (72, .bipush 6, 2, 0, (0, 0, 0, 0), 6, 0, []),
  (74, .iload_n 1, 1, 0, (1, 0, 0, 0), 0, 0, []),
  (75, .imul, 1, 0, (0, 0, 0, 0), 0, 0, []),
  (76, .iadd, 1, 0, (0, 0, 0, 0), 0, 0, []),
  (77, .istore 4, 2, 0, (4, 0, 0, 0), 0, 0, []),
  (79, .aload_n 0, 1, 0, (0, 0, 0, 0), 0, 0, []),
  (80, .getfield 7, 3, 0, (8, 2177, 0, 1), 0, 0, []),
  (83, .iload 4, 2, 0, (4, 0, 0, 0), 0, 0, []),
  (85, .iconst 2, 1, 0, (0, 0, 0, 0), 2, 0, []),
  (86, .iadd, 1, 0, (0, 0, 0, 0), 0, 0, []),
  (87, .iload_n 2, 1, 0, (2, 0, 0, 0), 0, 0, []),
  (88, .iastore, 1, 0, (0, 0, 0, 0), 0, 0, []),
  (89, .aload_n 0, 1, 0, (0, 0, 0, 0), 0, 0, []),
  (90, .getfield 7, 3, 0, (8, 2177, 0, 1), 0, 0, []),
  (93, .iload 4, 2, 0, (4, 0, 0, 0), 0, 0, []),
  (95, .iconst 4, 1, 0, (0, 0, 0, 0), 4, 0, []),
  (96, .iadd, 1, 0, (0, 0, 0, 0), 0, 0, []),
  (97, .aload_n 0, 1, 0, (0, 0, 0, 0), 0, 0, []),
  (98, .getfield 7, 3, 0, (8, 2177, 0, 1), 0, 0, []),
  (101, .bipush 7, 2, 0, (0, 0, 0, 0), 7, 0, []),
  (103, .iaload, 1, 0, (0, 0, 0, 0), 0, 0, []),
  (104, .iastore, 1, 0, (0, 0, 0, 0), 0, 0, []),
  (105, .aload_n 0, 1, 0, (0, 0, 0, 0), 0, 0, []),
  (106, .getfield 7, 3, 0, (8, 2177, 0, 1), 0, 0, []),
  (109, .iload 4, 2, 0, (4, 0, 0, 0), 0, 0, []),
  (111, .iconst 5, 1, 0, (0, 0, 0, 0), 5, 0, []),
  (112, .iadd, 1, 0, (0, 0, 0, 0), 0, 0, []),
  (113, .iconst 0, 1, 0, (0, 0, 0, 0), 0, 0, []),
  (114, .iastore, 1, 0, (0, 0, 0, 0), 0, 0, []),
  (115, .iconst 1, 1, 0, (0, 0, 0, 0), 1, 0, []),
  (116, .ireturn, 1, 0, (0, 0, 0, 0), 0, 0, [])]
def hk_m160 : hk_Q := (⟨"HullKeepersModel", "replace", "(II)I"⟩, prog_10_method_29_code, 5, (some .int), (3, 0, 0, 0, 0, 0), hk_c160)
def hk_c161 : List hk_E := [(0, .aload_n 0, 1, 0, (0, 0, 0, 0), 0, 0, []),
  (1, .iload_n 1, 1, 0, (1, 0, 0, 0), 0, 0, []),
  (2, .invokevirtual 154, 3, 0, (169, 2597, 2, 9), 0, 0, []),
  (5, .iconst (-1), 1, 0, (0, 0, 0, 0), (-1), 0, []),
  (6, .if_icmp .ne 17, 3, 0, (23, 0, 0, 0), 0, 0, []),
  (9, .aload_n 0, 1, 0, (0, 0, 0, 0), 0, 0, []),
  (10, .iload_n 2, 1, 0, (2, 0, 0, 0), 0, 0, []),
  (11, .invokevirtual 157, 3, 0, (177, 2626, 2, 9), 0, 0, []),
  (14, .lconst 0, 1, 0, (0, 0, 0, 0), 0, 0, []),
  (15, .lcmp, 1, 0, (0, 0, 0, 0), 0, 0, []),
  (16, .ifCond .eq 7, 3, 0, (23, 0, 0, 0), 0, 0, []),
  (19, .iconst 1, 1, 0, (0, 0, 0, 0), 1, 0, []),
  (20, .goto 4, 3, 0, (24, 0, 0, 0), 0, 0, []),
  (23, .iconst 0, 1, 0, (0, 0, 0, 0), 0, 0, []),
  (24, .ireturn, 1, 0, (0, 0, 0, 1), 0, 0, [])]
def hk_m161 : hk_Q := (⟨"HullKeepersModel", "isTruth", "(II)Z"⟩, prog_10_method_54_code, 3, (some .boolean), (3, 0, 0, 0, 0, 0), hk_c161)
def hk_c162 : List hk_E := [(0, .sipush 1422, 3, 0, (0, 0, 0, 0), 1422, 0, []),
  (3, .bipush 61, 2, 0, (0, 0, 0, 0), 61, 0, []),
  (5, .iload_n 1, 1, 0, (1, 0, 0, 0), 0, 0, []),
  (6, .imul, 1, 0, (0, 0, 0, 0), 0, 0, []),
  (7, .iadd, 1, 0, (0, 0, 0, 0), 0, 0, []),
  (8, .istore_n 2, 1, 0, (2, 0, 0, 0), 0, 0, []),
  (9, .aload_n 0, 1, 0, (0, 0, 0, 0), 0, 0, []),
  (10, .getfield 7, 3, 0, (8, 2177, 0, 1), 0, 0, []),
  (13, .iload_n 2, 1, 0, (2, 0, 0, 0), 0, 0, []),
  (14, .iaload, 1, 0, (0, 0, 0, 0), 0, 0, []),
  (15, .istore_n 3, 1, 0, (3, 0, 0, 0), 0, 0, []),
  (16, .aload_n 0, 1, 0, (0, 0, 0, 0), 0, 0, []),
  (17, .iconst 0, 1, 0, (0, 0, 0, 0), 0, 0, []),
  (18, .putfield 116, 3, 0, (8, 2181, 4, 0), 0, 0, []),
  (21, .aload_n 0, 1, 0, (0, 0, 0, 0), 0, 0, []),
  (22, .iconst 0, 1, 0, (0, 0, 0, 0), 0, 0, []),
  (23, .putfield 120, 3, 0, (8, 2184, 7, 0), 0, 0, []),
  (26, .iconst 0, 1, 0, (0, 0, 0, 0), 0, 0, []),
  (27, .istore 4, 2, 0, (4, 0, 0, 0), 0, 0, []),
  (29, .iconst 0, 1, 0, (0, 0, 0, 0), 0, 0, []),
  (30, .istore 5, 2, 0, (5, 0, 0, 0), 0, 0, []),
  (32, .iconst 0, 1, 0, (0, 0, 0, 0), 0, 0, []),
  (33, .istore 6, 2, 0, (6, 0, 0, 0), 0, 0, []),
  (35, .iload 6, 2, 1, (6, 0, 0, 0), 0, 0, []),
  (37, .iload_n 3, 1, 0, (3, 0, 0, 0), 0, 0, []),
  (38, .if_icmp .ge 343, 3, 0, (381, 0, 0, 0), 0, 0, []),
  (41, .aload_n 0, 1, 0, (0, 0, 0, 0), 0, 0, []),
  (42, .getfield 7, 3, 0, (8, 2177, 0, 1), 0, 0, []),
  (45, .iload_n 2, 1, 0, (2, 0, 0, 0), 0, 0, []),
  (46, .iconst 1, 1, 0, (0, 0, 0, 0), 1, 0, []),
  (47, .iadd, 1, 0, (0, 0, 0, 0), 0, 0, []),
  (48, .iload 6, 2, 0, (6, 0, 0, 0), 0, 0, []),
  (50, .iadd, 1, 0, (0, 0, 0, 0), 0, 0, []),
  (51, .iaload, 1, 0, (0, 0, 0, 0), 0, 0, []),
  (52, .istore 7, 2, 0, (7, 0, 0, 0), 0, 0, []),
  (54, .iload 7, 2, 0, (7, 0, 0, 0), 0, 0, []),
  (56, .bipush 32, 2, 0, (0, 0, 0, 0), 32, 0, []),
  (58, .if_icmp .ne 9, 3, 0, (67, 0, 0, 0), 0, 0, []),
  (61, .iinc 6 1, 3, 0, (6, 0, 0, 0), 1, 0, []),
  (64, .goto 314, 3, 0, (378, 0, 0, 0), 0, 0, []),
  (67, .iload 5, 2, 0, (5, 0, 0, 0), 0, 0, []),
  (69, .ifCond .eq 83, 3, 0, (152, 0, 0, 0), 0, 0, []),
  (72, .iload 7, 2, 0, (7, 0, 0, 0), 0, 0, []),
  (74, .bipush 41, 2, 0, (0, 0, 0, 0), 41, 0, []),
  (76, .if_icmp .ne 35, 3, 0, (111, 0, 0, 0), 0, 0, []),
  (79, .iload 4, 2, 0, (4, 0, 0, 0), 0, 0, []),
  (81, .ifCond .le 30, 3, 0, (111, 0, 0, 0), 0, 0, []),
  (84, .aload_n 0, 1, 0, (0, 0, 0, 0), 0, 0, []),
  (85, .iconst 1, 1, 0, (0, 0, 0, 0), 1, 0, []),
  (86, .invokevirtual 130, 3, 0, (170, 2601, 2, 9), 0, 0, []),
  (89, .aload_n 0, 1, 0, (0, 0, 0, 0), 0, 0, []),
  (90, .dup, 1, 0, (0, 0, 0, 0), 0, 0, []),
  (91, .getfield 120, 3, 0, (8, 2184, 7, 0), 0, 0, []),
  (94, .iconst 1, 1, 0, (0, 0, 0, 0), 1, 0, []),
  (95, .isub, 1, 0, (0, 0, 0, 0), 0, 0, []),
  (96, .putfield 120, 3, 0, (8, 2184, 7, 0), 0, 0, []),
  (99, .iinc 4 (-1), 3, 0, (4, 0, 0, 0), (-1), 0, []),
  (102, .aload_n 0, 1, 0, (0, 0, 0, 0), 0, 0, []),
  (103, .bipush 6, 2, 0, (0, 0, 0, 0), 6, 0, []),
  (105, .invokevirtual 130, 3, 0, (170, 2601, 2, 9), 0, 0, []),
  (108, .goto 38, 3, 0, (146, 0, 0, 0), 0, 0, []),
  (111, .iload 7, 2, 0, (7, 0, 0, 0), 0, 0, []),
  (113, .invokestatic 137, 3, 0, (173, 2612, 1, 0), 0, 0, []),
  (116, .iconst (-1), 1, 0, (0, 0, 0, 0), (-1), 0, []),
  (117, .if_icmp .eq 21, 3, 0, (138, 0, 0, 0), 0, 0, []),
  (120, .aload_n 0, 1, 0, (0, 0, 0, 0), 0, 0, []),
  (121, .iload 7, 2, 0, (7, 0, 0, 0), 0, 0, []),
  (123, .invokestatic 137, 3, 0, (173, 2612, 1, 0), 0, 0, []),
  (126, .invokevirtual 140, 3, 0, (174, 2615, 2, 9), 0, 0, []),
  (129, .ifCond .eq 9, 3, 0, (138, 0, 0, 0), 0, 0, []),
  (132, .iconst 0, 1, 0, (0, 0, 0, 0), 0, 0, []),
  (133, .istore 5, 2, 0, (5, 0, 0, 0), 0, 0, []),
  (135, .goto 11, 3, 0, (146, 0, 0, 0), 0, 0, []),
  (138, .bipush 10, 2, 0, (0, 0, 0, 0), 10, 0, []),
  (140, .iload 6, 2, 0, (6, 0, 0, 0), 0, 0, []),
  (142, .imul, 1, 0, (0, 0, 0, 0), 0, 0, []),
  (143, .iconst 1, 1, 0, (0, 0, 0, 0), 1, 0, []),
  (144, .iadd, 1, 0, (0, 0, 0, 0), 0, 0, []),
  (145, .ireturn, 1, 0, (0, 0, 0, 0), 0, 0, []),
  (146, .iinc 6 1, 3, 0, (6, 0, 0, 0), 1, 0, []),
  (149, .goto 229, 3, 0, (378, 0, 0, 0), 0, 0, []),
  (152, .iload 7, 2, 0, (7, 0, 0, 0), 0, 0, []),
  (154, .bipush 48, 2, 0, (0, 0, 0, 0), 48, 0, []),
  (156, .bipush 57, 2, 0, (0, 0, 0, 0), 57, 0, []),
  (158, .invokestatic 44, 3, 0, (143, 2220, 3, 0), 0, 0, []),
  (161, .ifCond .eq 102, 3, 0, (263, 0, 0, 0), 0, 0, []),
  (164, .iload 6, 2, 0, (6, 0, 0, 0), 0, 0, []),
  (166, .istore 8, 2, 0, (8, 0, 0, 0), 0, 0, []),
  (168, .iconst 0, 1, 0, (0, 0, 0, 0), 0, 0, []),
  (169, .istore 9, 2, 0, (9, 0, 0, 0), 0, 0, []),
  (171, .iload 6, 2, 1, (6, 0, 0, 0), 0, 0, []),
  (173, .iload_n 3, 1, 0, (3, 0, 0, 0), 0, 0, []),
  (174, .if_icmp .ge 70, 3, 0, (244, 0, 0, 0), 0, 0, []),
  (177, .aload_n 0, 1, 0, (0, 0, 0, 0), 0, 0, []),
  (178, .getfield 7, 3, 0, (8, 2177, 0, 1), 0, 0, []),
  (181, .iload_n 2, 1, 0, (2, 0, 0, 0), 0, 0, []),
  (182, .iconst 1, 1, 0, (0, 0, 0, 0), 1, 0, []),
  (183, .iadd, 1, 0, (0, 0, 0, 0), 0, 0, []),
  (184, .iload 6, 2, 0, (6, 0, 0, 0), 0, 0, []),
  (186, .iadd, 1, 0, (0, 0, 0, 0), 0, 0, []),
  (187, .iaload, 1, 0, (0, 0, 0, 0), 0, 0, []),
  (188, .bipush 48, 2, 0, (0, 0, 0, 0), 48, 0, []),
  (190, .bipush 57, 2, 0, (0, 0, 0, 0), 57, 0, []),
  (192, .invokestatic 44, 3, 0, (143, 2220, 3, 0), 0, 0, []),
  (195, .ifCond .eq 49, 3, 0, (244, 0, 0, 0), 0, 0, []),
  (198, .iload 6, 2, 0, (6, 0, 0, 0), 0, 0, []),
  (200, .iload 8, 2, 0, (8, 0, 0, 0), 0, 0, []),
  (202, .isub, 1, 0, (0, 0, 0, 0), 0, 0, []),
  (203, .bipush 6, 2, 0, (0, 0, 0, 0), 6, 0, []),
  (205, .if_icmp .ne 11, 3, 0, (216, 0, 0, 0), 0, 0, []),
  (208, .bipush 10, 2, 0, (0, 0, 0, 0), 10, 0, []),
  (210, .iload 8, 2, 0, (8, 0, 0, 0), 0, 0, []),
  (212, .imul, 1, 0, (0, 0, 0, 0), 0, 0, []),
  (213, .iconst 2, 1, 0, (0, 0, 0, 0), 2, 0, []),
  (214, .iadd, 1, 0, (0, 0, 0, 0), 0, 0, []),
  (215, .ireturn, 1, 0, (0, 0, 0, 0), 0, 0, []),
  (216, .bipush 10, 2, 0, (0, 0, 0, 0), 10, 0, []),
  (218, .iload 9, 2, 0, (9, 0, 0, 0), 0, 0, []),
  (220, .imul, 1, 0, (0, 0, 0, 0), 0, 0, []),
  (221, .aload_n 0, 1, 0, (0, 0, 0, 0), 0, 0, []),
  (222, .getfield 7, 3, 0, (8, 2177, 0, 1), 0, 0, []),
  (225, .iload_n 2, 1, 0, (2, 0, 0, 0), 0, 0, []),
  (226, .iconst 1, 1, 0, (0, 0, 0, 0), 1, 0, []),
  (227, .iadd, 1, 0, (0, 0, 0, 0), 0, 0, []),
  (228, .iload 6, 2, 0, (6, 0, 0, 0), 0, 0, []),
  (230, .iadd, 1, 0, (0, 0, 0, 0), 0, 0, []),
  (231, .iaload, 1, 0, (0, 0, 0, 0), 0, 0, []),
  (232, .iadd, 1, 0, (0, 0, 0, 0), 0, 0, []),
  (233, .bipush 48, 2, 0, (0, 0, 0, 0), 48, 0, []),
  (235, .isub, 1, 0, (0, 0, 0, 0), 0, 0, []),
  (236, .istore 9, 2, 0, (9, 0, 0, 0), 0, 0, []),
  (238, .iinc 6 1, 3, 0, (6, 0, 0, 0), 1, 0, []),
  (241, .goto (-70), 3, 0, (171, 0, 0, 0), 0, 0, []),
  (244, .aload_n 0, 1, 0, (0, 0, 0, 0), 0, 0, []),
  (245, .iconst 0, 1, 0, (0, 0, 0, 0), 0, 0, []),
  (246, .iload 9, 2, 0, (9, 0, 0, 0), 0, 0, []),
  (248, .invokevirtual 126, 3, 0, (172, 2608, 3, 9), 0, 0, []),
  (251, .aload_n 0, 1, 0, (0, 0, 0, 0), 0, 0, []),
  (252, .bipush 6, 2, 0, (0, 0, 0, 0), 6, 0, []),
  (254, .invokevirtual 130, 3, 0, (170, 2601, 2, 9), 0, 0, []),
  (257, .iconst 1, 1, 0, (0, 0, 0, 0), 1, 0, []),
  (258, .istore 5, 2, 0, (5, 0, 0, 0), 0, 0, []),
  (260, .goto 118, 3, 0, (378, 0, 0, 0), 0, 0, []),
  (263, .iload 7, 2, 0, (7, 0, 0, 0), 0, 0, []),
  (265, .invokestatic 143, 3, 0, (176, 2623, 1, 0), 0, 0, []),
  (268, .iconst (-1), 1, 0, (0, 0, 0, 0), (-1), 0, []),
  (269, .if_icmp .eq 28, 3, 0, (297, 0, 0, 0), 0, 0, []),
  (272, .aload_n 0, 1, 0, (0, 0, 0, 0), 0, 0, []),
  (273, .iconst 1, 1, 0, (0, 0, 0, 0), 1, 0, []),
  (274, .iload 7, 2, 0, (7, 0, 0, 0), 0, 0, []),
  (276, .invokestatic 143, 3, 0, (176, 2623, 1, 0), 0, 0, []),
  (279, .invokevirtual 126, 3, 0, (172, 2608, 3, 9), 0, 0, []),
  (282, .aload_n 0, 1, 0, (0, 0, 0, 0), 0, 0, []),
  (283, .bipush 6, 2, 0, (0, 0, 0, 0), 6, 0, []),
  (285, .invokevirtual 130, 3, 0, (170, 2601, 2, 9), 0, 0, []),
  (288, .iconst 1, 1, 0, (0, 0, 0, 0), 1, 0, []),
  (289, .istore 5, 2, 0, (5, 0, 0, 0), 0, 0, []),
  (291, .iinc 6 1, 3, 0, (6, 0, 0, 0), 1, 0, []),
  (294, .goto 84, 3, 0, (378, 0, 0, 0), 0, 0, []),
  (297, .iload 7, 2, 0, (7, 0, 0, 0), 0, 0, []),
  (299, .bipush 40, 2, 0, (0, 0, 0, 0), 40, 0, []),
  (301, .if_icmp .ne 33, 3, 0, (334, 0, 0, 0), 0, 0, []),
  (304, .iload 4, 2, 0, (4, 0, 0, 0), 0, 0, []),
  (306, .bipush 8, 2, 0, (0, 0, 0, 0), 8, 0, []),
  (308, .if_icmp .ne 11, 3, 0, (319, 0, 0, 0), 0, 0, []),
  (311, .bipush 10, 2, 0, (0, 0, 0, 0), 10, 0, []),
  (313, .iload 6, 2, 0, (6, 0, 0, 0), 0, 0, []),
  (315, .imul, 1, 0, (0, 0, 0, 0), 0, 0, []),
  (316, .iconst 3, 1, 0, (0, 0, 0, 0), 3, 0, []),
  (317, .iadd, 1, 0, (0, 0, 0, 0), 0, 0, []),
  (318, .ireturn, 1, 0, (0, 0, 0, 0), 0, 0, []),
  (319, .iinc 4 1, 3, 0, (4, 0, 0, 0), 1, 0, []),
  (322, .aload_n 0, 1, 0, (0, 0, 0, 0), 0, 0, []),
  (323, .bipush 13, 2, 0, (0, 0, 0, 0), 13, 0, []),
  (325, .invokevirtual 134, 3, 0, (175, 2619, 2, 9), 0, 0, []),
  (328, .iinc 6 1, 3, 0, (6, 0, 0, 0), 1, 0, []),
  (331, .goto 47, 3, 0, (378, 0, 0, 0), 0, 0, []),
  (334, .iload 7, 2, 0, (7, 0, 0, 0), 0, 0, []),
  (336, .bipush 45, 2, 0, (0, 0, 0, 0), 45, 0, []),
  (338, .if_icmp .eq 10, 3, 0, (348, 0, 0, 0), 0, 0, []),
  (341, .iload 7, 2, 0, (7, 0, 0, 0), 0, 0, []),
  (343, .bipush 33, 2, 0, (0, 0, 0, 0), 33, 0, []),
  (345, .if_icmp .ne 25, 3, 0, (370, 0, 0, 0), 0, 0, []),
  (348, .aload_n 0, 1, 0, (0, 0, 0, 0), 0, 0, []),
  (349, .iload 7, 2, 0, (7, 0, 0, 0), 0, 0, []),
  (351, .bipush 45, 2, 0, (0, 0, 0, 0), 45, 0, []),
  (353, .if_icmp .ne 7, 3, 0, (360, 0, 0, 0), 0, 0, []),
  (356, .iconst 3, 1, 0, (0, 0, 0, 0), 3, 0, []),
  (357, .goto 4, 3, 0, (361, 0, 0, 0), 0, 0, []),
  (360, .iconst 2, 1, 0, (0, 0, 0, 0), 2, 0, []),
  (361, .invokevirtual 134, 3, 0, (175, 2619, 2, 9), 0, 0, []),
  (364, .iinc 6 1, 3, 0, (6, 0, 0, 0), 1, 0, []),
  (367, .goto 11, 3, 0, (378, 0, 0, 0), 0, 0, []),
  (370, .bipush 10, 2, 0, (0, 0, 0, 0), 10, 0, []),
  (372, .iload 6, 2, 0, (6, 0, 0, 0), 0, 0, []),
  (374, .imul, 1, 0, (0, 0, 0, 0), 0, 0, []),
  (375, .iconst 1, 1, 0, (0, 0, 0, 0), 1, 0, []),
  (376, .iadd, 1, 0, (0, 0, 0, 0), 0, 0, []),
  (377, .ireturn, 1, 0, (0, 0, 0, 0), 0, 0, []),
  (378, .goto (-343), 3, 0, (35, 0, 0, 0), 0, 0, []),
  (381, .aload_n 0, 1, 0, (0, 0, 0, 0), 0, 0, []),
  (382, .iconst 1, 1, 0, (0, 0, 0, 0), 1, 0, []),
  (383, .invokevirtual 130, 3, 0, (170, 2601, 2, 9), 0, 0, []),
  (386, .iload 5, 2, 0, (5, 0, 0, 0), 0, 0, []),
  (388, .ifCond .eq 12, 3, 0, (400, 0, 0, 0), 0, 0, []),
  (391, .iload 4, 2, 0, (4, 0, 0, 0), 0, 0, []),
  (393, .ifCond .ne 7, 3, 0, (400, 0, 0, 0), 0, 0, []),
  (396, .iconst (-1), 1, 0, (0, 0, 0, 0), (-1), 0, []),
  (397, .goto 9, 3, 0, (406, 0, 0, 0), 0, 0, []),
  (400, .bipush 10, 2, 0, (0, 0, 0, 0), 10, 0, []),
  (402, .iload_n 3, 1, 0, (3, 0, 0, 0), 0, 0, []),
  (403, .imul, 1, 0, (0, 0, 0, 0), 0, 0, []),
  (404, .iconst 1, 1, 0, (0, 0, 0, 0), 1, 0, []),
  (405, .iadd, 1, 0, (0, 0, 0, 0), 0, 0, []),
  (406, .ireturn, 1, 0, (0, 0, 0, 0), 0, 0, [])]
def hk_m162 : hk_Q := (⟨"HullKeepersModel", "reads", "(I)I"⟩, prog_10_method_50_code, 10, (some .int), (2, 0, 0, 0, 0, 0), hk_c162)
def hk_c163 : List hk_E := [(0, .aload_n 0, 1, 1, (0, 0, 0, 0), 0, 0, []),
  (1, .getfield 120, 3, 0, (8, 2184, 7, 0), 0, 0, []),
  (4, .ifCond .le 48, 3, 0, (52, 0, 0, 0), 0, 0, []),
  (7, .aload_n 0, 1, 0, (0, 0, 0, 0), 0, 0, []),
  (8, .getfield 29, 3, 0, (8, 2185, 8, 1), 0, 0, []),
  (11, .aload_n 0, 1, 0, (0, 0, 0, 0), 0, 0, []),
  (12, .getfield 120, 3, 0, (8, 2184, 7, 0), 0, 0, []),
  (15, .iconst 1, 1, 0, (0, 0, 0, 0), 1, 0, []),
  (16, .isub, 1, 0, (0, 0, 0, 0), 0, 0, []),
  (17, .iaload, 1, 0, (0, 0, 0, 0), 0, 0, []),
  (18, .invokestatic 123, 3, 0, (171, 2605, 1, 0), 0, 0, []),
  (21, .iload_n 1, 1, 0, (1, 0, 0, 0), 0, 0, []),
  (22, .if_icmp .lt 30, 3, 0, (52, 0, 0, 0), 0, 0, []),
  (25, .aload_n 0, 1, 0, (0, 0, 0, 0), 0, 0, []),
  (26, .dup, 1, 0, (0, 0, 0, 0), 0, 0, []),
  (27, .getfield 120, 3, 0, (8, 2184, 7, 0), 0, 0, []),
  (30, .iconst 1, 1, 0, (0, 0, 0, 0), 1, 0, []),
  (31, .isub, 1, 0, (0, 0, 0, 0), 0, 0, []),
  (32, .putfield 120, 3, 0, (8, 2184, 7, 0), 0, 0, []),
  (35, .aload_n 0, 1, 0, (0, 0, 0, 0), 0, 0, []),
  (36, .aload_n 0, 1, 0, (0, 0, 0, 0), 0, 0, []),
  (37, .getfield 29, 3, 0, (8, 2185, 8, 1), 0, 0, []),
  (40, .aload_n 0, 1, 0, (0, 0, 0, 0), 0, 0, []),
  (41, .getfield 120, 3, 0, (8, 2184, 7, 0), 0, 0, []),
  (44, .iaload, 1, 0, (0, 0, 0, 0), 0, 0, []),
  (45, .iconst 0, 1, 0, (0, 0, 0, 0), 0, 0, []),
  (46, .invokevirtual 126, 3, 0, (172, 2608, 3, 9), 0, 0, []),
  (49, .goto (-49), 3, 0, (0, 0, 0, 0), 0, 0, []),
  (52, .return_, 1, 0, (0, 0, 0, 0), 0, 0, [])]
def hk_m163 : hk_Q := (⟨"HullKeepersModel", "settles", "(I)V"⟩, prog_10_method_45_code, 2, none, (2, 0, 0, 0, 0, 0), hk_c163)
def hk_c164 : List hk_E := [(0, .iload_n 0, 1, 0, (0, 0, 0, 0), 0, 0, []),
  (1, .tableswitch 83 2 12 #[59, 62, 65, 67, 69, 71, 73, 75, 77, 79, 81], 59, 0, (84, 0, 0, 0), 0, 0, [(2, 60), (3, 63), (4, 66), (5, 68), (6, 70), (7, 72), (8, 74), (9, 76), (10, 78), (11, 80), (12, 82)]),
  (60, .bipush 6, 2, 0, (0, 0, 0, 0), 6, 0, []),
  (62, .ireturn, 1, 0, (0, 0, 0, 0), 0, 0, []),
  (63, .bipush 6, 2, 0, (0, 0, 0, 0), 6, 0, []),
  (65, .ireturn, 1, 0, (0, 0, 0, 0), 0, 0, []),
  (66, .iconst 5, 1, 0, (0, 0, 0, 0), 5, 0, []),
  (67, .ireturn, 1, 0, (0, 0, 0, 0), 0, 0, []),
  (68, .iconst 5, 1, 0, (0, 0, 0, 0), 5, 0, []),
  (69, .ireturn, 1, 0, (0, 0, 0, 0), 0, 0, []),
  (70, .iconst 4, 1, 0, (0, 0, 0, 0), 4, 0, []),
  (71, .ireturn, 1, 0, (0, 0, 0, 0), 0, 0, []),
  (72, .iconst 4, 1, 0, (0, 0, 0, 0), 4, 0, []),
  (73, .ireturn, 1, 0, (0, 0, 0, 0), 0, 0, []),
  (74, .iconst 3, 1, 0, (0, 0, 0, 0), 3, 0, []),
  (75, .ireturn, 1, 0, (0, 0, 0, 0), 0, 0, []),
  (76, .iconst 3, 1, 0, (0, 0, 0, 0), 3, 0, []),
  (77, .ireturn, 1, 0, (0, 0, 0, 0), 0, 0, []),
  (78, .iconst 3, 1, 0, (0, 0, 0, 0), 3, 0, []),
  (79, .ireturn, 1, 0, (0, 0, 0, 0), 0, 0, []),
  (80, .iconst 2, 1, 0, (0, 0, 0, 0), 2, 0, []),
  (81, .ireturn, 1, 0, (0, 0, 0, 0), 0, 0, []),
  (82, .iconst 1, 1, 0, (0, 0, 0, 0), 1, 0, []),
  (83, .ireturn, 1, 0, (0, 0, 0, 0), 0, 0, []),
  (84, .iconst 0, 1, 0, (0, 0, 0, 0), 0, 0, []),
  (85, .ireturn, 1, 0, (0, 0, 0, 0), 0, 0, [])]
def hk_m164 : hk_Q := (⟨"HullKeepersModel", "holds", "(I)I"⟩, prog_10_method_44_code, 1, (some .int), (1, 2, 0, 0, 0, 0), hk_c164)
def hk_c165 : List hk_E := [(0, .aload_n 0, 1, 0, (0, 0, 0, 0), 0, 0, []),
  (1, .getfield 23, 3, 0, (8, 2182, 5, 1), 0, 0, []),
  (4, .aload_n 0, 1, 0, (0, 0, 0, 0), 0, 0, []),
  (5, .getfield 116, 3, 0, (8, 2181, 4, 0), 0, 0, []),
  (8, .iload_n 1, 1, 0, (1, 0, 0, 0), 0, 0, []),
  (9, .iastore, 1, 0, (0, 0, 0, 0), 0, 0, []),
  (10, .aload_n 0, 1, 0, (0, 0, 0, 0), 0, 0, []),
  (11, .getfield 26, 3, 0, (8, 2183, 6, 1), 0, 0, []),
  (14, .aload_n 0, 1, 0, (0, 0, 0, 0), 0, 0, []),
  (15, .getfield 116, 3, 0, (8, 2181, 4, 0), 0, 0, []),
  (18, .iload_n 2, 1, 0, (2, 0, 0, 0), 0, 0, []),
  (19, .iastore, 1, 0, (0, 0, 0, 0), 0, 0, []),
  (20, .aload_n 0, 1, 0, (0, 0, 0, 0), 0, 0, []),
  (21, .dup, 1, 0, (0, 0, 0, 0), 0, 0, []),
  (22, .getfield 116, 3, 0, (8, 2181, 4, 0), 0, 0, []),
  (25, .iconst 1, 1, 0, (0, 0, 0, 0), 1, 0, []),
  (26, .iadd, 1, 0, (0, 0, 0, 0), 0, 0, []),
  (27, .putfield 116, 3, 0, (8, 2181, 4, 0), 0, 0, []),
  (30, .return_, 1, 0, (0, 0, 0, 0), 0, 0, [])]
def hk_m165 : hk_Q := (⟨"HullKeepersModel", "emits", "(II)V"⟩, prog_10_method_43_code, 3, none, (3, 0, 0, 0, 0, 0), hk_c165)
def hk_c166 : List hk_E := [(0, .iload_n 0, 1, 0, (0, 0, 0, 0), 0, 0, []),
  (1, .lookupswitch 108 #[(38, 102), (42, 83), (43, 87), (45, 90), (47, 85), (60, 93), (61, 99), (62, 96), (124, 105)], 83, 0, (109, 0, 0, 0), 0, 0, [(38, 103), (42, 84), (43, 88), (45, 91), (47, 86), (60, 94), (61, 100), (62, 97), (124, 106)]),
  (84, .iconst 4, 1, 0, (0, 0, 0, 0), 4, 0, []),
  (85, .ireturn, 1, 0, (0, 0, 0, 0), 0, 0, []),
  (86, .iconst 5, 1, 0, (0, 0, 0, 0), 5, 0, []),
  (87, .ireturn, 1, 0, (0, 0, 0, 0), 0, 0, []),
  (88, .bipush 6, 2, 0, (0, 0, 0, 0), 6, 0, []),
  (90, .ireturn, 1, 0, (0, 0, 0, 0), 0, 0, []),
  (91, .bipush 7, 2, 0, (0, 0, 0, 0), 7, 0, []),
  (93, .ireturn, 1, 0, (0, 0, 0, 0), 0, 0, []),
  (94, .bipush 8, 2, 0, (0, 0, 0, 0), 8, 0, []),
  (96, .ireturn, 1, 0, (0, 0, 0, 0), 0, 0, []),
  (97, .bipush 9, 2, 0, (0, 0, 0, 0), 9, 0, []),
  (99, .ireturn, 1, 0, (0, 0, 0, 0), 0, 0, []),
  (100, .bipush 10, 2, 0, (0, 0, 0, 0), 10, 0, []),
  (102, .ireturn, 1, 0, (0, 0, 0, 0), 0, 0, []),
  (103, .bipush 11, 2, 0, (0, 0, 0, 0), 11, 0, []),
  (105, .ireturn, 1, 0, (0, 0, 0, 0), 0, 0, []),
  (106, .bipush 12, 2, 0, (0, 0, 0, 0), 12, 0, []),
  (108, .ireturn, 1, 0, (0, 0, 0, 0), 0, 0, []),
  (109, .iconst (-1), 1, 0, (0, 0, 0, 0), (-1), 0, []),
  (110, .ireturn, 1, 0, (0, 0, 0, 0), 0, 0, [])]
def hk_m166 : hk_Q := (⟨"HullKeepersModel", "signOf", "(I)I"⟩, prog_10_method_48_code, 1, (some .int), (1, 2, 0, 0, 0, 0), hk_c166)
def hk_c167 : List hk_E := [(0, .iload_n 1, 1, 0, (1, 0, 0, 0), 0, 0, []),
  (1, .invokestatic 123, 3, 0, (171, 2605, 1, 0), 0, 0, []),
  (4, .istore_n 2, 1, 0, (2, 0, 0, 0), 0, 0, []),
  (5, .iload_n 2, 1, 0, (2, 0, 0, 0), 0, 0, []),
  (6, .iconst 3, 1, 0, (0, 0, 0, 0), 3, 0, []),
  (7, .if_icmp .ne 35, 3, 0, (42, 0, 0, 0), 0, 0, []),
  (10, .aload_n 0, 1, 0, (0, 0, 0, 0), 0, 0, []),
  (11, .iconst 4, 1, 0, (0, 0, 0, 0), 4, 0, []),
  (12, .invokevirtual 130, 3, 0, (170, 2601, 2, 9), 0, 0, []),
  (15, .aload_n 0, 1, 0, (0, 0, 0, 0), 0, 0, []),
  (16, .getfield 120, 3, 0, (8, 2184, 7, 0), 0, 0, []),
  (19, .ifCond .le 23, 3, 0, (42, 0, 0, 0), 0, 0, []),
  (22, .aload_n 0, 1, 0, (0, 0, 0, 0), 0, 0, []),
  (23, .getfield 29, 3, 0, (8, 2185, 8, 1), 0, 0, []),
  (26, .aload_n 0, 1, 0, (0, 0, 0, 0), 0, 0, []),
  (27, .getfield 120, 3, 0, (8, 2184, 7, 0), 0, 0, []),
  (30, .iconst 1, 1, 0, (0, 0, 0, 0), 1, 0, []),
  (31, .isub, 1, 0, (0, 0, 0, 0), 0, 0, []),
  (32, .iaload, 1, 0, (0, 0, 0, 0), 0, 0, []),
  (33, .invokestatic 123, 3, 0, (171, 2605, 1, 0), 0, 0, []),
  (36, .iconst 3, 1, 0, (0, 0, 0, 0), 3, 0, []),
  (37, .if_icmp .ne 5, 3, 0, (42, 0, 0, 0), 0, 0, []),
  (40, .iconst 0, 1, 0, (0, 0, 0, 0), 0, 0, []),
  (41, .ireturn, 1, 0, (0, 0, 0, 1), 0, 0, []),
  (42, .aload_n 0, 1, 0, (0, 0, 0, 0), 0, 0, []),
  (43, .iload_n 2, 1, 0, (2, 0, 0, 0), 0, 0, []),
  (44, .invokevirtual 130, 3, 0, (170, 2601, 2, 9), 0, 0, []),
  (47, .aload_n 0, 1, 0, (0, 0, 0, 0), 0, 0, []),
  (48, .iload_n 1, 1, 0, (1, 0, 0, 0), 0, 0, []),
  (49, .invokevirtual 134, 3, 0, (175, 2619, 2, 9), 0, 0, []),
  (52, .iconst 1, 1, 0, (0, 0, 0, 0), 1, 0, []),
  (53, .ireturn, 1, 0, (0, 0, 0, 1), 0, 0, [])]
def hk_m167 : hk_Q := (⟨"HullKeepersModel", "goesOn", "(I)Z"⟩, prog_10_method_49_code, 3, (some .boolean), (2, 0, 0, 0, 0, 0), hk_c167)
def hk_c168 : List hk_E := [(0, .aload_n 0, 1, 0, (0, 0, 0, 0), 0, 0, []),
  (1, .getfield 29, 3, 0, (8, 2185, 8, 1), 0, 0, []),
  (4, .aload_n 0, 1, 0, (0, 0, 0, 0), 0, 0, []),
  (5, .getfield 120, 3, 0, (8, 2184, 7, 0), 0, 0, []),
  (8, .iload_n 1, 1, 0, (1, 0, 0, 0), 0, 0, []),
  (9, .iastore, 1, 0, (0, 0, 0, 0), 0, 0, []),
  (10, .aload_n 0, 1, 0, (0, 0, 0, 0), 0, 0, []),
  (11, .dup, 1, 0, (0, 0, 0, 0), 0, 0, []),
  (12, .getfield 120, 3, 0, (8, 2184, 7, 0), 0, 0, []),
  (15, .iconst 1, 1, 0, (0, 0, 0, 0), 1, 0, []),
  (16, .iadd, 1, 0, (0, 0, 0, 0), 0, 0, []),
  (17, .putfield 120, 3, 0, (8, 2184, 7, 0), 0, 0, []),
  (20, .return_, 1, 0, (0, 0, 0, 0), 0, 0, [])]
def hk_m168 : hk_Q := (⟨"HullKeepersModel", "waitsWith", "(I)V"⟩, prog_10_method_46_code, 2, none, (2, 0, 0, 0, 0, 0), hk_c168)
def hk_c169 : List hk_E := [(0, .iload_n 0, 1, 0, (0, 0, 0, 0), 0, 0, []),
  (1, .lookupswitch 71 #[(102, 67), (109, 69), (115, 65), (116, 59), (121, 61), (122, 63)], 59, 0, (72, 0, 0, 0), 0, 0, [(102, 68), (109, 70), (115, 66), (116, 60), (121, 62), (122, 64)]),
  (60, .iconst 0, 1, 0, (0, 0, 0, 0), 0, 0, []),
  (61, .ireturn, 1, 0, (0, 0, 0, 0), 0, 0, []),
  (62, .iconst 1, 1, 0, (0, 0, 0, 0), 1, 0, []),
  (63, .ireturn, 1, 0, (0, 0, 0, 0), 0, 0, []),
  (64, .iconst 2, 1, 0, (0, 0, 0, 0), 2, 0, []),
  (65, .ireturn, 1, 0, (0, 0, 0, 0), 0, 0, []),
  (66, .iconst 3, 1, 0, (0, 0, 0, 0), 3, 0, []),
  (67, .ireturn, 1, 0, (0, 0, 0, 0), 0, 0, []),
  (68, .iconst 4, 1, 0, (0, 0, 0, 0), 4, 0, []),
  (69, .ireturn, 1, 0, (0, 0, 0, 0), 0, 0, []),
  (70, .iconst 5, 1, 0, (0, 0, 0, 0), 5, 0, []),
  (71, .ireturn, 1, 0, (0, 0, 0, 0), 0, 0, []),
  (72, .iconst (-1), 1, 0, (0, 0, 0, 0), (-1), 0, []),
  (73, .ireturn, 1, 0, (0, 0, 0, 0), 0, 0, [])]
def hk_m169 : hk_Q := (⟨"HullKeepersModel", "nameOf", "(I)I"⟩, prog_10_method_47_code, 1, (some .int), (1, 2, 0, 0, 0, 0), hk_c169)
def hk_c170 : List hk_E := [(0, .iconst 0, 1, 0, (0, 0, 0, 0), 0, 0, []),
  (1, .istore_n 2, 1, 0, (2, 0, 0, 0), 0, 0, []),
  (2, .iconst 0, 1, 0, (0, 0, 0, 0), 0, 0, []),
  (3, .istore_n 3, 1, 0, (3, 0, 0, 0), 0, 0, []),
  (4, .iload_n 3, 1, 1, (3, 0, 0, 0), 0, 0, []),
  (5, .aload_n 0, 1, 0, (0, 0, 0, 0), 0, 0, []),
  (6, .getfield 116, 3, 0, (8, 2181, 4, 0), 0, 0, []),
  (9, .if_icmp .ge 157, 3, 0, (166, 0, 0, 0), 0, 0, []),
  (12, .aload_n 0, 1, 0, (0, 0, 0, 0), 0, 0, []),
  (13, .getfield 23, 3, 0, (8, 2182, 5, 1), 0, 0, []),
  (16, .iload_n 3, 1, 0, (3, 0, 0, 0), 0, 0, []),
  (17, .iaload, 1, 0, (0, 0, 0, 0), 0, 0, []),
  (18, .istore 4, 2, 0, (4, 0, 0, 0), 0, 0, []),
  (20, .iload 4, 2, 0, (4, 0, 0, 0), 0, 0, []),
  (22, .ifCond .eq 9, 3, 0, (31, 0, 0, 0), 0, 0, []),
  (25, .iload 4, 2, 0, (4, 0, 0, 0), 0, 0, []),
  (27, .iconst 1, 1, 0, (0, 0, 0, 0), 1, 0, []),
  (28, .if_icmp .ne 41, 3, 0, (69, 0, 0, 0), 0, 0, []),
  (31, .aload_n 0, 1, 0, (0, 0, 0, 0), 0, 0, []),
  (32, .getfield 32, 3, 0, (8, 2186, 9, 1), 0, 0, []),
  (35, .iload_n 2, 1, 0, (2, 0, 0, 0), 0, 0, []),
  (36, .iload 4, 2, 0, (4, 0, 0, 0), 0, 0, []),
  (38, .ifCond .ne 13, 3, 0, (51, 0, 0, 0), 0, 0, []),
  (41, .aload_n 0, 1, 0, (0, 0, 0, 0), 0, 0, []),
  (42, .getfield 26, 3, 0, (8, 2183, 6, 1), 0, 0, []),
  (45, .iload_n 3, 1, 0, (3, 0, 0, 0), 0, 0, []),
  (46, .iaload, 1, 0, (0, 0, 0, 0), 0, 0, []),
  (47, .i2l, 1, 0, (0, 0, 0, 0), 0, 0, []),
  (48, .goto 14, 3, 0, (62, 0, 0, 0), 0, 0, []),
  (51, .aload_n 0, 1, 0, (0, 0, 0, 0), 0, 0, []),
  (52, .iload_n 1, 1, 0, (1, 0, 0, 0), 0, 0, []),
  (53, .aload_n 0, 1, 0, (0, 0, 0, 0), 0, 0, []),
  (54, .getfield 26, 3, 0, (8, 2183, 6, 1), 0, 0, []),
  (57, .iload_n 3, 1, 0, (3, 0, 0, 0), 0, 0, []),
  (58, .iaload, 1, 0, (0, 0, 0, 0), 0, 0, []),
  (59, .invokevirtual 146, 3, 0, (178, 2630, 3, 9), 0, 0, []),
  (62, .lastore, 1, 0, (0, 0, 0, 0), 0, 0, []),
  (63, .iinc 2 1, 3, 0, (2, 0, 0, 0), 1, 0, []),
  (66, .goto 94, 3, 0, (160, 0, 0, 0), 0, 0, []),
  (69, .iload 4, 2, 0, (4, 0, 0, 0), 0, 0, []),
  (71, .iconst 3, 1, 0, (0, 0, 0, 0), 3, 0, []),
  (72, .if_icmp .ne 23, 3, 0, (95, 0, 0, 0), 0, 0, []),
  (75, .aload_n 0, 1, 0, (0, 0, 0, 0), 0, 0, []),
  (76, .getfield 32, 3, 0, (8, 2186, 9, 1), 0, 0, []),
  (79, .iload_n 2, 1, 0, (2, 0, 0, 0), 0, 0, []),
  (80, .iconst 1, 1, 0, (0, 0, 0, 0), 1, 0, []),
  (81, .isub, 1, 0, (0, 0, 0, 0), 0, 0, []),
  (82, .aload_n 0, 1, 0, (0, 0, 0, 0), 0, 0, []),
  (83, .getfield 32, 3, 0, (8, 2186, 9, 1), 0, 0, []),
  (86, .iload_n 2, 1, 0, (2, 0, 0, 0), 0, 0, []),
  (87, .iconst 1, 1, 0, (0, 0, 0, 0), 1, 0, []),
  (88, .isub, 1, 0, (0, 0, 0, 0), 0, 0, []),
  (89, .laload, 1, 0, (0, 0, 0, 0), 0, 0, []),
  (90, .lneg, 1, 0, (0, 0, 0, 0), 0, 0, []),
  (91, .lastore, 1, 0, (0, 0, 0, 0), 0, 0, []),
  (92, .goto 68, 3, 0, (160, 0, 0, 0), 0, 0, []),
  (95, .iload 4, 2, 0, (4, 0, 0, 0), 0, 0, []),
  (97, .iconst 2, 1, 0, (0, 0, 0, 0), 2, 0, []),
  (98, .if_icmp .ne 32, 3, 0, (130, 0, 0, 0), 0, 0, []),
  (101, .aload_n 0, 1, 0, (0, 0, 0, 0), 0, 0, []),
  (102, .getfield 32, 3, 0, (8, 2186, 9, 1), 0, 0, []),
  (105, .iload_n 2, 1, 0, (2, 0, 0, 0), 0, 0, []),
  (106, .iconst 1, 1, 0, (0, 0, 0, 0), 1, 0, []),
  (107, .isub, 1, 0, (0, 0, 0, 0), 0, 0, []),
  (108, .aload_n 0, 1, 0, (0, 0, 0, 0), 0, 0, []),
  (109, .getfield 32, 3, 0, (8, 2186, 9, 1), 0, 0, []),
  (112, .iload_n 2, 1, 0, (2, 0, 0, 0), 0, 0, []),
  (113, .iconst 1, 1, 0, (0, 0, 0, 0), 1, 0, []),
  (114, .isub, 1, 0, (0, 0, 0, 0), 0, 0, []),
  (115, .laload, 1, 0, (0, 0, 0, 0), 0, 0, []),
  (116, .lconst 0, 1, 0, (0, 0, 0, 0), 0, 0, []),
  (117, .lcmp, 1, 0, (0, 0, 0, 0), 0, 0, []),
  (118, .ifCond .ne 7, 3, 0, (125, 0, 0, 0), 0, 0, []),
  (121, .lconst 1, 1, 0, (0, 0, 0, 0), 0, 1, []),
  (122, .goto 4, 3, 0, (126, 0, 0, 0), 0, 0, []),
  (125, .lconst 0, 1, 0, (0, 0, 0, 0), 0, 0, []),
  (126, .lastore, 1, 0, (0, 0, 0, 0), 0, 0, []),
  (127, .goto 33, 3, 0, (160, 0, 0, 0), 0, 0, []),
  (130, .iinc 2 (-1), 3, 0, (2, 0, 0, 0), (-1), 0, []),
  (133, .aload_n 0, 1, 0, (0, 0, 0, 0), 0, 0, []),
  (134, .getfield 32, 3, 0, (8, 2186, 9, 1), 0, 0, []),
  (137, .iload_n 2, 1, 0, (2, 0, 0, 0), 0, 0, []),
  (138, .iconst 1, 1, 0, (0, 0, 0, 0), 1, 0, []),
  (139, .isub, 1, 0, (0, 0, 0, 0), 0, 0, []),
  (140, .iload 4, 2, 0, (4, 0, 0, 0), 0, 0, []),
  (142, .aload_n 0, 1, 0, (0, 0, 0, 0), 0, 0, []),
  (143, .getfield 32, 3, 0, (8, 2186, 9, 1), 0, 0, []),
  (146, .iload_n 2, 1, 0, (2, 0, 0, 0), 0, 0, []),
  (147, .iconst 1, 1, 0, (0, 0, 0, 0), 1, 0, []),
  (148, .isub, 1, 0, (0, 0, 0, 0), 0, 0, []),
  (149, .laload, 1, 0, (0, 0, 0, 0), 0, 0, []),
  (150, .aload_n 0, 1, 0, (0, 0, 0, 0), 0, 0, []),
  (151, .getfield 32, 3, 0, (8, 2186, 9, 1), 0, 0, []),
  (154, .iload_n 2, 1, 0, (2, 0, 0, 0), 0, 0, []),
  (155, .laload, 1, 0, (0, 0, 0, 0), 0, 0, []),
  (156, .invokestatic 150, 3, 0, (179, 2634, 3, 0), 0, 0, []),
  (159, .lastore, 1, 0, (0, 0, 0, 0), 0, 0, []),
  (160, .iinc 3 1, 3, 0, (3, 0, 0, 0), 1, 0, []),
  (163, .goto (-159), 3, 0, (4, 0, 0, 0), 0, 0, []),
  (166, .aload_n 0, 1, 0, (0, 0, 0, 0), 0, 0, []),
  (167, .getfield 32, 3, 0, (8, 2186, 9, 1), 0, 0, []),
  (170, .iconst 0, 1, 0, (0, 0, 0, 0), 0, 0, []),
  (171, .laload, 1, 0, (0, 0, 0, 0), 0, 0, []),
  (172, .lreturn, 1, 0, (0, 0, 0, 0), 0, 0, [])]
def hk_m170 : hk_Q := (⟨"HullKeepersModel", "tellsOf", "(I)J"⟩, prog_10_method_53_code, 5, (some .long), (2, 0, 0, 0, 0, 0), hk_c170)
def hk_c171 : List hk_E := [(0, .iload_n 2, 1, 0, (2, 0, 0, 0), 0, 0, []),
  (1, .tableswitch 87 0 4 #[35, 43, 59, 67, 79], 35, 0, (88, 0, 0, 0), 0, 0, [(0, 36), (1, 44), (2, 60), (3, 68), (4, 80)]),
  (36, .aload_n 0, 1, 0, (0, 0, 0, 0), 0, 0, []),
  (37, .iload_n 1, 1, 0, (1, 0, 0, 0), 0, 0, []),
  (38, .iconst 2, 1, 0, (0, 0, 0, 0), 2, 0, []),
  (39, .invokevirtual 57, 3, 0, (148, 2240, 3, 9), 0, 0, []),
  (42, .i2l, 1, 0, (0, 0, 0, 0), 0, 0, []),
  (43, .lreturn, 1, 0, (0, 0, 0, 0), 0, 0, []),
  (44, .aload_n 0, 1, 0, (0, 0, 0, 0), 0, 0, []),
  (45, .getfield 7, 3, 0, (8, 2177, 0, 1), 0, 0, []),
  (48, .bipush 7, 2, 0, (0, 0, 0, 0), 7, 0, []),
  (50, .iaload, 1, 0, (0, 0, 0, 0), 0, 0, []),
  (51, .aload_n 0, 1, 0, (0, 0, 0, 0), 0, 0, []),
  (52, .iload_n 1, 1, 0, (1, 0, 0, 0), 0, 0, []),
  (53, .iconst 4, 1, 0, (0, 0, 0, 0), 4, 0, []),
  (54, .invokevirtual 57, 3, 0, (148, 2240, 3, 9), 0, 0, []),
  (57, .isub, 1, 0, (0, 0, 0, 0), 0, 0, []),
  (58, .i2l, 1, 0, (0, 0, 0, 0), 0, 0, []),
  (59, .lreturn, 1, 0, (0, 0, 0, 0), 0, 0, []),
  (60, .aload_n 0, 1, 0, (0, 0, 0, 0), 0, 0, []),
  (61, .iload_n 1, 1, 0, (1, 0, 0, 0), 0, 0, []),
  (62, .iconst 1, 1, 0, (0, 0, 0, 0), 1, 0, []),
  (63, .invokevirtual 57, 3, 0, (148, 2240, 3, 9), 0, 0, []),
  (66, .i2l, 1, 0, (0, 0, 0, 0), 0, 0, []),
  (67, .lreturn, 1, 0, (0, 0, 0, 0), 0, 0, []),
  (68, .aload_n 0, 1, 0, (0, 0, 0, 0), 0, 0, []),
  (69, .aload_n 0, 1, 0, (0, 0, 0, 0), 0, 0, []),
  (70, .iload_n 1, 1, 0, (1, 0, 0, 0), 0, 0, []),
  (71, .iconst 0, 1, 0, (0, 0, 0, 0), 0, 0, []),
  (72, .invokevirtual 57, 3, 0, (148, 2240, 3, 9), 0, 0, []),
  (75, .invokevirtual 88, 3, 0, (165, 2581, 2, 9), 0, 0, []),
  (78, .i2l, 1, 0, (0, 0, 0, 0), 0, 0, []),
  (79, .lreturn, 1, 0, (0, 0, 0, 0), 0, 0, []),
  (80, .aload_n 0, 1, 0, (0, 0, 0, 0), 0, 0, []),
  (81, .iload_n 1, 1, 0, (1, 0, 0, 0), 0, 0, []),
  (82, .iconst 5, 1, 0, (0, 0, 0, 0), 5, 0, []),
  (83, .invokevirtual 57, 3, 0, (148, 2240, 3, 9), 0, 0, []),
  (86, .i2l, 1, 0, (0, 0, 0, 0), 0, 0, []),
  (87, .lreturn, 1, 0, (0, 0, 0, 0), 0, 0, []),
  (88, .aload_n 0, 1, 0, (0, 0, 0, 0), 0, 0, []),
  (89, .iload_n 1, 1, 0, (1, 0, 0, 0), 0, 0, []),
  (90, .iconst 3, 1, 0, (0, 0, 0, 0), 3, 0, []),
  (91, .invokevirtual 57, 3, 0, (148, 2240, 3, 9), 0, 0, []),
  (94, .i2l, 1, 0, (0, 0, 0, 0), 0, 0, []),
  (95, .lreturn, 1, 0, (0, 0, 0, 0), 0, 0, [])]
def hk_m171 : hk_Q := (⟨"HullKeepersModel", "named", "(II)J"⟩, prog_10_method_51_code, 3, (some .long), (3, 0, 0, 0, 0, 0), hk_c171)
def hk_c172 : List hk_E := [(0, .iload_n 0, 1, 0, (0, 0, 0, 0), 0, 0, []),
  (1, .tableswitch 127 4 11 #[47, 51, 65, 69, 73, 85, 97, 109], 47, 0, (128, 0, 0, 0), 0, 0, [(4, 48), (5, 52), (6, 66), (7, 70), (8, 74), (9, 86), (10, 98), (11, 110)]),
  (48, .lload_n 1, 1, 0, (1, 0, 0, 0), 0, 0, []),
  (49, .lload_n 3, 1, 0, (3, 0, 0, 0), 0, 0, []),
  (50, .lmul, 1, 0, (0, 0, 0, 0), 0, 0, []),
  (51, .lreturn, 1, 0, (0, 0, 0, 0), 0, 0, []),
  (52, .lload_n 3, 1, 0, (3, 0, 0, 0), 0, 0, []),
  (53, .lconst 0, 1, 0, (0, 0, 0, 0), 0, 0, []),
  (54, .lcmp, 1, 0, (0, 0, 0, 0), 0, 0, []),
  (55, .ifCond .ne 7, 3, 0, (62, 0, 0, 0), 0, 0, []),
  (58, .lconst 0, 1, 0, (0, 0, 0, 0), 0, 0, []),
  (59, .goto 6, 3, 0, (65, 0, 0, 0), 0, 0, []),
  (62, .lload_n 1, 1, 0, (1, 0, 0, 0), 0, 0, []),
  (63, .lload_n 3, 1, 0, (3, 0, 0, 0), 0, 0, []),
  (64, .ldiv, 1, 0, (0, 0, 0, 0), 0, 0, []),
  (65, .lreturn, 1, 0, (0, 0, 0, 0), 0, 0, []),
  (66, .lload_n 1, 1, 0, (1, 0, 0, 0), 0, 0, []),
  (67, .lload_n 3, 1, 0, (3, 0, 0, 0), 0, 0, []),
  (68, .ladd, 1, 0, (0, 0, 0, 0), 0, 0, []),
  (69, .lreturn, 1, 0, (0, 0, 0, 0), 0, 0, []),
  (70, .lload_n 1, 1, 0, (1, 0, 0, 0), 0, 0, []),
  (71, .lload_n 3, 1, 0, (3, 0, 0, 0), 0, 0, []),
  (72, .lsub, 1, 0, (0, 0, 0, 0), 0, 0, []),
  (73, .lreturn, 1, 0, (0, 0, 0, 0), 0, 0, []),
  (74, .lload_n 1, 1, 0, (1, 0, 0, 0), 0, 0, []),
  (75, .lload_n 3, 1, 0, (3, 0, 0, 0), 0, 0, []),
  (76, .lcmp, 1, 0, (0, 0, 0, 0), 0, 0, []),
  (77, .ifCond .ge 7, 3, 0, (84, 0, 0, 0), 0, 0, []),
  (80, .lconst 1, 1, 0, (0, 0, 0, 0), 0, 1, []),
  (81, .goto 4, 3, 0, (85, 0, 0, 0), 0, 0, []),
  (84, .lconst 0, 1, 0, (0, 0, 0, 0), 0, 0, []),
  (85, .lreturn, 1, 0, (0, 0, 0, 0), 0, 0, []),
  (86, .lload_n 1, 1, 0, (1, 0, 0, 0), 0, 0, []),
  (87, .lload_n 3, 1, 0, (3, 0, 0, 0), 0, 0, []),
  (88, .lcmp, 1, 0, (0, 0, 0, 0), 0, 0, []),
  (89, .ifCond .le 7, 3, 0, (96, 0, 0, 0), 0, 0, []),
  (92, .lconst 1, 1, 0, (0, 0, 0, 0), 0, 1, []),
  (93, .goto 4, 3, 0, (97, 0, 0, 0), 0, 0, []),
  (96, .lconst 0, 1, 0, (0, 0, 0, 0), 0, 0, []),
  (97, .lreturn, 1, 0, (0, 0, 0, 0), 0, 0, []),
  (98, .lload_n 1, 1, 0, (1, 0, 0, 0), 0, 0, []),
  (99, .lload_n 3, 1, 0, (3, 0, 0, 0), 0, 0, []),
  (100, .lcmp, 1, 0, (0, 0, 0, 0), 0, 0, []),
  (101, .ifCond .ne 7, 3, 0, (108, 0, 0, 0), 0, 0, []),
  (104, .lconst 1, 1, 0, (0, 0, 0, 0), 0, 1, []),
  (105, .goto 4, 3, 0, (109, 0, 0, 0), 0, 0, []),
  (108, .lconst 0, 1, 0, (0, 0, 0, 0), 0, 0, []),
  (109, .lreturn, 1, 0, (0, 0, 0, 0), 0, 0, []),
  (110, .lload_n 1, 1, 0, (1, 0, 0, 0), 0, 0, []),
  (111, .lconst 0, 1, 0, (0, 0, 0, 0), 0, 0, []),
  (112, .lcmp, 1, 0, (0, 0, 0, 0), 0, 0, []),
  (113, .ifCond .eq 13, 3, 0, (126, 0, 0, 0), 0, 0, []),
  (116, .lload_n 3, 1, 0, (3, 0, 0, 0), 0, 0, []),
  (117, .lconst 0, 1, 0, (0, 0, 0, 0), 0, 0, []),
  (118, .lcmp, 1, 0, (0, 0, 0, 0), 0, 0, []),
  (119, .ifCond .eq 7, 3, 0, (126, 0, 0, 0), 0, 0, []),
  (122, .lconst 1, 1, 0, (0, 0, 0, 0), 0, 1, []),
  (123, .goto 4, 3, 0, (127, 0, 0, 0), 0, 0, []),
  (126, .lconst 0, 1, 0, (0, 0, 0, 0), 0, 0, []),
  (127, .lreturn, 1, 0, (0, 0, 0, 0), 0, 0, []),
  (128, .lload_n 1, 1, 0, (1, 0, 0, 0), 0, 0, []),
  (129, .lconst 0, 1, 0, (0, 0, 0, 0), 0, 0, []),
  (130, .lcmp, 1, 0, (0, 0, 0, 0), 0, 0, []),
  (131, .ifCond .ne 9, 3, 0, (140, 0, 0, 0), 0, 0, []),
  (134, .lload_n 3, 1, 0, (3, 0, 0, 0), 0, 0, []),
  (135, .lconst 0, 1, 0, (0, 0, 0, 0), 0, 0, []),
  (136, .lcmp, 1, 0, (0, 0, 0, 0), 0, 0, []),
  (137, .ifCond .eq 7, 3, 0, (144, 0, 0, 0), 0, 0, []),
  (140, .lconst 1, 1, 0, (0, 0, 0, 0), 0, 1, []),
  (141, .goto 4, 3, 0, (145, 0, 0, 0), 0, 0, []),
  (144, .lconst 0, 1, 0, (0, 0, 0, 0), 0, 0, []),
  (145, .lreturn, 1, 0, (0, 0, 0, 0), 0, 0, [])]
def hk_m172 : hk_Q := (⟨"HullKeepersModel", "twoOf", "(IJJ)J"⟩, prog_10_method_52_code, 5, (some .long), (3, 2, 0, 0, 0, 0), hk_c172)
def hk_c173 : List hk_E := [(0, .aload_n 0, 1, 0, (0, 0, 0, 0), 0, 0, []),
  (1, .iconst 1, 1, 0, (0, 0, 0, 0), 1, 0, []),
  (2, .iload_n 1, 1, 0, (1, 0, 0, 0), 0, 0, []),
  (3, .invokevirtual 53, 3, 0, (146, 2232, 3, 9), 0, 0, []),
  (6, .ifCond .eq 22, 3, 0, (28, 0, 0, 0), 0, 0, []),
  (9, .aload_n 0, 1, 0, (0, 0, 0, 0), 0, 0, []),
  (10, .iconst 0, 1, 0, (0, 0, 0, 0), 0, 0, []),
  (11, .iload_n 2, 1, 0, (2, 0, 0, 0), 0, 0, []),
  (12, .invokevirtual 53, 3, 0, (146, 2232, 3, 9), 0, 0, []),
  (15, .ifCond .eq 13, 3, 0, (28, 0, 0, 0), 0, 0, []),
  (18, .aload_n 0, 1, 0, (0, 0, 0, 0), 0, 0, []),
  (19, .iload_n 1, 1, 0, (1, 0, 0, 0), 0, 0, []),
  (20, .iconst 0, 1, 0, (0, 0, 0, 0), 0, 0, []),
  (21, .invokevirtual 57, 3, 0, (148, 2240, 3, 9), 0, 0, []),
  (24, .iload_n 2, 1, 0, (2, 0, 0, 0), 0, 0, []),
  (25, .if_icmp .ne 6, 3, 0, (31, 0, 0, 0), 0, 0, []),
  (28, .bipush (-2), 2, 0, (0, 0, 0, 0), (-2), 0, []),
  (30, .ireturn, 1, 0, (0, 0, 0, 0), 0, 0, []),
  (31, .aload_n 0, 1, 0, (0, 0, 0, 0), 0, 0, []),
  (32, .iload_n 2, 1, 0, (2, 0, 0, 0), 0, 0, []),
  (33, .bipush 6, 2, 0, (0, 0, 0, 0), 6, 0, []),
  (35, .invokevirtual 61, 3, 0, (149, 2244, 3, 9), 0, 0, []),
  (38, .iconst 1, 1, 0, (0, 0, 0, 0), 1, 0, []),
  (39, .if_icmp .eq 19, 3, 0, (58, 0, 0, 0), 0, 0, []),
  (42, .aload_n 0, 1, 0, (0, 0, 0, 0), 0, 0, []),
  (43, .aload_n 0, 1, 0, (0, 0, 0, 0), 0, 0, []),
  (44, .iload_n 1, 1, 0, (1, 0, 0, 0), 0, 0, []),
  (45, .iconst 0, 1, 0, (0, 0, 0, 0), 0, 0, []),
  (46, .invokevirtual 57, 3, 0, (148, 2240, 3, 9), 0, 0, []),
  (49, .bipush 6, 2, 0, (0, 0, 0, 0), 6, 0, []),
  (51, .invokevirtual 61, 3, 0, (149, 2244, 3, 9), 0, 0, []),
  (54, .iconst 1, 1, 0, (0, 0, 0, 0), 1, 0, []),
  (55, .if_icmp .ne 6, 3, 0, (61, 0, 0, 0), 0, 0, []),
  (58, .bipush (-3), 2, 0, (0, 0, 0, 0), (-3), 0, []),
  (60, .ireturn, 1, 0, (0, 0, 0, 0), 0, 0, []),
  (61, .aload_n 0, 1, 0, (0, 0, 0, 0), 0, 0, []),
  (62, .getfield 7, 3, 0, (8, 2177, 0, 1), 0, 0, []),
  (65, .bipush 80, 2, 0, (0, 0, 0, 0), 80, 0, []),
  (67, .bipush 6, 2, 0, (0, 0, 0, 0), 6, 0, []),
  (69, .iload_n 1, 1, 0, (1, 0, 0, 0), 0, 0, []),
  (70, .imul, 1, 0, (0, 0, 0, 0), 0, 0, []),
  (71, .iadd, 1, 0, (0, 0, 0, 0), 0, 0, []),
  (72, .iload_n 2, 1, 0, (2, 0, 0, 0), 0, 0, []),
  (73, .iastore, 1, 0, (0, 0, 0, 0), 0, 0, []),
  (74, .aload_n 0, 1, 0, (0, 0, 0, 0), 0, 0, []),
  (75, .getfield 7, 3, 0, (8, 2177, 0, 1), 0, 0, []),
  (78, .bipush 80, 2, 0, (0, 0, 0, 0), 80, 0, []),
  (80, .bipush 6, 2, 0, (0, 0, 0, 0), 6, 0, []),
  (82, .iload_n 1, 1, 0, (1, 0, 0, 0), 0, 0, []),
  (83, .imul, 1, 0, (0, 0, 0, 0), 0, 0, []),
  (84, .iadd, 1, 0, (0, 0, 0, 0), 0, 0, []),
  (85, .iconst 5, 1, 0, (0, 0, 0, 0), 5, 0, []),
  (86, .iadd, 1, 0, (0, 0, 0, 0), 0, 0, []),
  (87, .iconst 0, 1, 0, (0, 0, 0, 0), 0, 0, []),
  (88, .iastore, 1, 0, (0, 0, 0, 0), 0, 0, []),
  (89, .iconst 1, 1, 0, (0, 0, 0, 0), 1, 0, []),
  (90, .ireturn, 1, 0, (0, 0, 0, 0), 0, 0, [])]
def hk_m173 : hk_Q := (⟨"HullKeepersModel", "move", "(II)I"⟩, prog_10_method_30_code, 3, (some .int), (3, 0, 0, 0, 0, 0), hk_c173)
def hk_c174 : List hk_E := [(0, .aload_n 0, 1, 0, (0, 0, 0, 0), 0, 0, []),
  (1, .iconst 1, 1, 0, (0, 0, 0, 0), 1, 0, []),
  (2, .iload_n 1, 1, 0, (1, 0, 0, 0), 0, 0, []),
  (3, .invokevirtual 53, 3, 0, (146, 2232, 3, 9), 0, 0, []),
  (6, .ifCond .eq 51, 3, 0, (57, 0, 0, 0), 0, 0, []),
  (9, .iload_n 2, 1, 0, (2, 0, 0, 0), 0, 0, []),
  (10, .iconst 0, 1, 0, (0, 0, 0, 0), 0, 0, []),
  (11, .aload_n 0, 1, 0, (0, 0, 0, 0), 0, 0, []),
  (12, .getfield 7, 3, 0, (8, 2177, 0, 1), 0, 0, []),
  (15, .bipush 7, 2, 0, (0, 0, 0, 0), 7, 0, []),
  (17, .iaload, 1, 0, (0, 0, 0, 0), 0, 0, []),
  (18, .invokestatic 44, 3, 0, (143, 2220, 3, 0), 0, 0, []),
  (21, .ifCond .eq 36, 3, 0, (57, 0, 0, 0), 0, 0, []),
  (24, .iload_n 3, 1, 0, (3, 0, 0, 0), 0, 0, []),
  (25, .iconst 0, 1, 0, (0, 0, 0, 0), 0, 0, []),
  (26, .iconst 3, 1, 0, (0, 0, 0, 0), 3, 0, []),
  (27, .invokestatic 44, 3, 0, (143, 2220, 3, 0), 0, 0, []),
  (30, .ifCond .eq 27, 3, 0, (57, 0, 0, 0), 0, 0, []),
  (33, .iload 4, 2, 0, (4, 0, 0, 0), 0, 0, []),
  (35, .iconst 0, 1, 0, (0, 0, 0, 0), 0, 0, []),
  (36, .sipush 5000, 3, 0, (0, 0, 0, 0), 5000, 0, []),
  (39, .invokestatic 44, 3, 0, (143, 2220, 3, 0), 0, 0, []),
  (42, .ifCond .eq 15, 3, 0, (57, 0, 0, 0), 0, 0, []),
  (45, .iload 5, 2, 0, (5, 0, 0, 0), 0, 0, []),
  (47, .iload_n 2, 1, 0, (2, 0, 0, 0), 0, 0, []),
  (48, .sipush 599, 3, 0, (0, 0, 0, 0), 599, 0, []),
  (51, .invokestatic 44, 3, 0, (143, 2220, 3, 0), 0, 0, []),
  (54, .ifCond .ne 6, 3, 0, (60, 0, 0, 0), 0, 0, []),
  (57, .bipush (-2), 2, 0, (0, 0, 0, 0), (-2), 0, []),
  (59, .ireturn, 1, 0, (0, 0, 0, 0), 0, 0, []),
  (60, .aload_n 0, 1, 0, (0, 0, 0, 0), 0, 0, []),
  (61, .getfield 7, 3, 0, (8, 2177, 0, 1), 0, 0, []),
  (64, .iconst 2, 1, 0, (0, 0, 0, 0), 2, 0, []),
  (65, .iaload, 1, 0, (0, 0, 0, 0), 0, 0, []),
  (66, .sipush 150, 3, 0, (0, 0, 0, 0), 150, 0, []),
  (69, .if_icmp .ne 6, 3, 0, (75, 0, 0, 0), 0, 0, []),
  (72, .bipush (-4), 2, 0, (0, 0, 0, 0), (-4), 0, []),
  (74, .ireturn, 1, 0, (0, 0, 0, 0), 0, 0, []),
  (75, .sipush 660, 3, 0, (0, 0, 0, 0), 660, 0, []),
  (78, .iconst 5, 1, 0, (0, 0, 0, 0), 5, 0, []),
  (79, .aload_n 0, 1, 0, (0, 0, 0, 0), 0, 0, []),
  (80, .getfield 7, 3, 0, (8, 2177, 0, 1), 0, 0, []),
  (83, .iconst 2, 1, 0, (0, 0, 0, 0), 2, 0, []),
  (84, .iaload, 1, 0, (0, 0, 0, 0), 0, 0, []),
  (85, .imul, 1, 0, (0, 0, 0, 0), 0, 0, []),
  (86, .iadd, 1, 0, (0, 0, 0, 0), 0, 0, []),
  (87, .istore 6, 2, 0, (6, 0, 0, 0), 0, 0, []),
  (89, .aload_n 0, 1, 0, (0, 0, 0, 0), 0, 0, []),
  (90, .getfield 7, 3, 0, (8, 2177, 0, 1), 0, 0, []),
  (93, .iload 6, 2, 0, (6, 0, 0, 0), 0, 0, []),
  (95, .iload_n 1, 1, 0, (1, 0, 0, 0), 0, 0, []),
  (96, .iastore, 1, 0, (0, 0, 0, 0), 0, 0, []),
  (97, .aload_n 0, 1, 0, (0, 0, 0, 0), 0, 0, []),
  (98, .getfield 7, 3, 0, (8, 2177, 0, 1), 0, 0, []),
  (101, .iload 6, 2, 0, (6, 0, 0, 0), 0, 0, []),
  (103, .iconst 1, 1, 0, (0, 0, 0, 0), 1, 0, []),
  (104, .iadd, 1, 0, (0, 0, 0, 0), 0, 0, []),
  (105, .iload_n 2, 1, 0, (2, 0, 0, 0), 0, 0, []),
  (106, .iastore, 1, 0, (0, 0, 0, 0), 0, 0, []),
  (107, .aload_n 0, 1, 0, (0, 0, 0, 0), 0, 0, []),
  (108, .getfield 7, 3, 0, (8, 2177, 0, 1), 0, 0, []),
  (111, .iload 6, 2, 0, (6, 0, 0, 0), 0, 0, []),
  (113, .iconst 2, 1, 0, (0, 0, 0, 0), 2, 0, []),
  (114, .iadd, 1, 0, (0, 0, 0, 0), 0, 0, []),
  (115, .iload_n 3, 1, 0, (3, 0, 0, 0), 0, 0, []),
  (116, .iastore, 1, 0, (0, 0, 0, 0), 0, 0, []),
  (117, .aload_n 0, 1, 0, (0, 0, 0, 0), 0, 0, []),
  (118, .getfield 7, 3, 0, (8, 2177, 0, 1), 0, 0, []),
  (121, .iload 6, 2, 0, (6, 0, 0, 0), 0, 0, []),
  (123, .iconst 3, 1, 0, (0, 0, 0, 0), 3, 0, []),
  (124, .iadd, 1, 0, (0, 0, 0, 0), 0, 0, []),
  (125, .iload 4, 2, 0, (4, 0, 0, 0), 0, 0, []),
  (127, .iastore, 1, 0, (0, 0, 0, 0), 0, 0, []),
  (128, .aload_n 0, 1, 0, (0, 0, 0, 0), 0, 0, []),
  (129, .getfield 7, 3, 0, (8, 2177, 0, 1), 0, 0, []),
  (132, .iload 6, 2, 0, (6, 0, 0, 0), 0, 0, []),
  (134, .iconst 4, 1, 0, (0, 0, 0, 0), 4, 0, []),
  (135, .iadd, 1, 0, (0, 0, 0, 0), 0, 0, []),
  (136, .iload 5, 2, 0, (5, 0, 0, 0), 0, 0, []),
  (138, .iastore, 1, 0, (0, 0, 0, 0), 0, 0, []),
  (139, .aload_n 0, 1, 0, (0, 0, 0, 0), 0, 0, []),
  (140, .iconst 2, 1, 0, (0, 0, 0, 0), 2, 0, []),
  (141, .invokevirtual 49, 3, 0, (144, 2224, 2, 9), 0, 0, []),
  (144, .ireturn, 1, 0, (0, 0, 0, 0), 0, 0, [])]
def hk_m174 : hk_Q := (⟨"HullKeepersModel", "reading", "(IIIII)I"⟩, prog_10_method_31_code, 7, (some .int), (6, 0, 0, 0, 0, 0), hk_c174)
def hk_c175 : List hk_E := [(0, .iload_n 1, 1, 0, (1, 0, 0, 0), 0, 0, []),
  (1, .iload_n 2, 1, 0, (2, 0, 0, 0), 0, 0, []),
  (2, .invokestatic 97, 3, 0, (183, 2649, 2, 0), 0, 0, []),
  (5, .ifCond .ne 7, 3, 0, (12, 0, 0, 0), 0, 0, []),
  (8, .sipush (-1000), 3, 0, (0, 0, 0, 0), (-1000), 0, []),
  (11, .ireturn, 1, 0, (0, 0, 0, 0), 0, 0, []),
  (12, .aload_n 0, 1, 0, (0, 0, 0, 0), 0, 0, []),
  (13, .getfield 7, 3, 0, (8, 2177, 0, 1), 0, 0, []),
  (16, .sipush 1410, 3, 0, (0, 0, 0, 0), 1410, 0, []),
  (19, .iconst 3, 1, 0, (0, 0, 0, 0), 3, 0, []),
  (20, .iload_n 1, 1, 0, (1, 0, 0, 0), 0, 0, []),
  (21, .imul, 1, 0, (0, 0, 0, 0), 0, 0, []),
  (22, .iadd, 1, 0, (0, 0, 0, 0), 0, 0, []),
  (23, .iconst 2, 1, 0, (0, 0, 0, 0), 2, 0, []),
  (24, .iadd, 1, 0, (0, 0, 0, 0), 0, 0, []),
  (25, .iaload, 1, 0, (0, 0, 0, 0), 0, 0, []),
  (26, .iconst (-1), 1, 0, (0, 0, 0, 0), (-1), 0, []),
  (27, .if_icmp .eq 9, 3, 0, (36, 0, 0, 0), 0, 0, []),
  (30, .sipush (-2000), 3, 0, (0, 0, 0, 0), (-2000), 0, []),
  (33, .goto 15, 3, 0, (48, 0, 0, 0), 0, 0, []),
  (36, .aload_n 0, 1, 0, (0, 0, 0, 0), 0, 0, []),
  (37, .sipush 1410, 3, 0, (0, 0, 0, 0), 1410, 0, []),
  (40, .iconst 3, 1, 0, (0, 0, 0, 0), 3, 0, []),
  (41, .iload_n 1, 1, 0, (1, 0, 0, 0), 0, 0, []),
  (42, .imul, 1, 0, (0, 0, 0, 0), 0, 0, []),
  (43, .iadd, 1, 0, (0, 0, 0, 0), 0, 0, []),
  (44, .iload_n 2, 1, 0, (2, 0, 0, 0), 0, 0, []),
  (45, .invokevirtual 64, 3, 0, (151, 2252, 3, 9), 0, 0, []),
  (48, .ireturn, 1, 0, (0, 0, 0, 0), 0, 0, [])]
def hk_m175 : hk_Q := (⟨"HullKeepersModel", "bias", "(II)I"⟩, prog_10_method_33_code, 3, (some .int), (3, 0, 0, 0, 0, 0), hk_c175)
def hk_c176 : List hk_E := [(0, .iload_n 0, 1, 0, (0, 0, 0, 0), 0, 0, []),
  (1, .iconst 0, 1, 0, (0, 0, 0, 0), 0, 0, []),
  (2, .iconst 3, 1, 0, (0, 0, 0, 0), 3, 0, []),
  (3, .invokestatic 44, 3, 0, (143, 2220, 3, 0), 0, 0, []),
  (6, .ifCond .eq 18, 3, 0, (24, 0, 0, 0), 0, 0, []),
  (9, .iload_n 1, 1, 0, (1, 0, 0, 0), 0, 0, []),
  (10, .bipush (-100), 2, 0, (0, 0, 0, 0), (-100), 0, []),
  (12, .bipush 100, 2, 0, (0, 0, 0, 0), 100, 0, []),
  (14, .invokestatic 44, 3, 0, (143, 2220, 3, 0), 0, 0, []),
  (17, .ifCond .eq 7, 3, 0, (24, 0, 0, 0), 0, 0, []),
  (20, .iconst 1, 1, 0, (0, 0, 0, 0), 1, 0, []),
  (21, .goto 4, 3, 0, (25, 0, 0, 0), 0, 0, []),
  (24, .iconst 0, 1, 0, (0, 0, 0, 0), 0, 0, []),
  (25, .ireturn, 1, 0, (0, 0, 0, 1), 0, 0, [])]
def hk_m176 : hk_Q := (⟨"HullKeepersModel", "isBias", "(II)Z"⟩, prog_10_method_32_code, 2, (some .boolean), (2, 2, 0, 0, 0, 0), hk_c176)
def hk_c177 : List hk_E := [(0, .iload_n 1, 1, 0, (1, 0, 0, 0), 0, 0, []),
  (1, .iload_n 2, 1, 0, (2, 0, 0, 0), 0, 0, []),
  (2, .invokestatic 97, 3, 0, (183, 2649, 2, 0), 0, 0, []),
  (5, .ifCond .eq 14, 3, 0, (19, 0, 0, 0), 0, 0, []),
  (8, .iload_n 3, 1, 0, (3, 0, 0, 0), 0, 0, []),
  (9, .iconst 0, 1, 0, (0, 0, 0, 0), 0, 0, []),
  (10, .sipush 599, 3, 0, (0, 0, 0, 0), 599, 0, []),
  (13, .invokestatic 44, 3, 0, (143, 2220, 3, 0), 0, 0, []),
  (16, .ifCond .ne 6, 3, 0, (22, 0, 0, 0), 0, 0, []),
  (19, .bipush (-2), 2, 0, (0, 0, 0, 0), (-2), 0, []),
  (21, .ireturn, 1, 0, (0, 0, 0, 0), 0, 0, []),
  (22, .sipush 1410, 3, 0, (0, 0, 0, 0), 1410, 0, []),
  (25, .iconst 3, 1, 0, (0, 0, 0, 0), 3, 0, []),
  (26, .iload_n 1, 1, 0, (1, 0, 0, 0), 0, 0, []),
  (27, .imul, 1, 0, (0, 0, 0, 0), 0, 0, []),
  (28, .iadd, 1, 0, (0, 0, 0, 0), 0, 0, []),
  (29, .istore 4, 2, 0, (4, 0, 0, 0), 0, 0, []),
  (31, .aload_n 0, 1, 0, (0, 0, 0, 0), 0, 0, []),
  (32, .getfield 7, 3, 0, (8, 2177, 0, 1), 0, 0, []),
  (35, .iload 4, 2, 0, (4, 0, 0, 0), 0, 0, []),
  (37, .iconst 2, 1, 0, (0, 0, 0, 0), 2, 0, []),
  (38, .iadd, 1, 0, (0, 0, 0, 0), 0, 0, []),
  (39, .iaload, 1, 0, (0, 0, 0, 0), 0, 0, []),
  (40, .iconst (-1), 1, 0, (0, 0, 0, 0), (-1), 0, []),
  (41, .if_icmp .eq 6, 3, 0, (47, 0, 0, 0), 0, 0, []),
  (44, .bipush (-3), 2, 0, (0, 0, 0, 0), (-3), 0, []),
  (46, .ireturn, 1, 0, (0, 0, 0, 0), 0, 0, []),
  (47, .aload_n 0, 1, 0, (0, 0, 0, 0), 0, 0, []),
  (48, .getfield 7, 3, 0, (8, 2177, 0, 1), 0, 0, []),
  (51, .iload 4, 2, 0, (4, 0, 0, 0), 0, 0, []),
  (53, .iconst 1, 1, 0, (0, 0, 0, 0), 1, 0, []),
  (54, .iadd, 1, 0, (0, 0, 0, 0), 0, 0, []),
  (55, .iload_n 2, 1, 0, (2, 0, 0, 0), 0, 0, []),
  (56, .iastore, 1, 0, (0, 0, 0, 0), 0, 0, []),
  (57, .aload_n 0, 1, 0, (0, 0, 0, 0), 0, 0, []),
  (58, .getfield 7, 3, 0, (8, 2177, 0, 1), 0, 0, []),
  (61, .iload 4, 2, 0, (4, 0, 0, 0), 0, 0, []),
  (63, .iconst 2, 1, 0, (0, 0, 0, 0), 2, 0, []),
  (64, .iadd, 1, 0, (0, 0, 0, 0), 0, 0, []),
  (65, .iload_n 3, 1, 0, (3, 0, 0, 0), 0, 0, []),
  (66, .iastore, 1, 0, (0, 0, 0, 0), 0, 0, []),
  (67, .iconst 1, 1, 0, (0, 0, 0, 0), 1, 0, []),
  (68, .ireturn, 1, 0, (0, 0, 0, 0), 0, 0, [])]
def hk_m177 : hk_Q := (⟨"HullKeepersModel", "right", "(III)I"⟩, prog_10_method_34_code, 5, (some .int), (4, 0, 0, 0, 0, 0), hk_c177)
def hk_c178 : List hk_E := [(0, .aload_n 0, 1, 0, (0, 0, 0, 0), 0, 0, []),
  (1, .iconst 1, 1, 0, (0, 0, 0, 0), 1, 0, []),
  (2, .iload_n 1, 1, 0, (1, 0, 0, 0), 0, 0, []),
  (3, .invokevirtual 53, 3, 0, (146, 2232, 3, 9), 0, 0, []),
  (6, .ifCond .eq 17, 3, 0, (23, 0, 0, 0), 0, 0, []),
  (9, .iload_n 2, 1, 0, (2, 0, 0, 0), 0, 0, []),
  (10, .invokestatic 103, 3, 0, (186, 2660, 1, 0), 0, 0, []),
  (13, .ifCond .eq 10, 3, 0, (23, 0, 0, 0), 0, 0, []),
  (16, .iload_n 3, 1, 0, (3, 0, 0, 0), 0, 0, []),
  (17, .invokestatic 103, 3, 0, (186, 2660, 1, 0), 0, 0, []),
  (20, .ifCond .ne 6, 3, 0, (26, 0, 0, 0), 0, 0, []),
  (23, .bipush (-2), 2, 0, (0, 0, 0, 0), (-2), 0, []),
  (25, .ireturn, 1, 0, (0, 0, 0, 0), 0, 0, []),
  (26, .aload_n 0, 1, 0, (0, 0, 0, 0), 0, 0, []),
  (27, .iload_n 1, 1, 0, (1, 0, 0, 0), 0, 0, []),
  (28, .iload_n 2, 1, 0, (2, 0, 0, 0), 0, 0, []),
  (29, .iload_n 3, 1, 0, (3, 0, 0, 0), 0, 0, []),
  (30, .invokevirtual 106, 3, 0, (187, 2663, 4, 9), 0, 0, []),
  (33, .istore 4, 2, 0, (4, 0, 0, 0), 0, 0, []),
  (35, .iload 4, 2, 0, (4, 0, 0, 0), 0, 0, []),
  (37, .iconst (-1), 1, 0, (0, 0, 0, 0), (-1), 0, []),
  (38, .if_icmp .ne 7, 3, 0, (45, 0, 0, 0), 0, 0, []),
  (41, .iconst (-1), 1, 0, (0, 0, 0, 0), (-1), 0, []),
  (42, .goto 11, 3, 0, (53, 0, 0, 0), 0, 0, []),
  (45, .aload_n 0, 1, 0, (0, 0, 0, 0), 0, 0, []),
  (46, .iload 4, 2, 0, (4, 0, 0, 0), 0, 0, []),
  (48, .iload_n 2, 1, 0, (2, 0, 0, 0), 0, 0, []),
  (49, .iload_n 3, 1, 0, (3, 0, 0, 0), 0, 0, []),
  (50, .invokevirtual 110, 3, 0, (188, 2667, 4, 9), 0, 0, []),
  (53, .ireturn, 1, 0, (0, 0, 0, 0), 0, 0, [])]
def hk_m178 : hk_Q := (⟨"HullKeepersModel", "guess", "(III)I"⟩, prog_10_method_39_code, 5, (some .int), (4, 0, 0, 0, 0, 0), hk_c178)
def hk_c179 : List hk_E := [(0, .iload_n 0, 1, 0, (0, 0, 0, 0), 0, 0, []),
  (1, .iconst 0, 1, 0, (0, 0, 0, 0), 0, 0, []),
  (2, .sipush 599, 3, 0, (0, 0, 0, 0), 599, 0, []),
  (5, .invokestatic 44, 3, 0, (143, 2220, 3, 0), 0, 0, []),
  (8, .ireturn, 1, 0, (0, 0, 0, 1), 0, 0, [])]
def hk_m179 : hk_Q := (⟨"HullKeepersModel", "isMonth", "(I)Z"⟩, prog_10_method_38_code, 1, (some .boolean), (1, 2, 0, 0, 0, 0), hk_c179)
def hk_c180 : List hk_E := [(0, .iconst (-1), 1, 0, (0, 0, 0, 0), (-1), 0, []),
  (1, .istore 4, 2, 0, (4, 0, 0, 0), 0, 0, []),
  (3, .iconst 0, 1, 0, (0, 0, 0, 0), 0, 0, []),
  (4, .istore 5, 2, 0, (5, 0, 0, 0), 0, 0, []),
  (6, .iload 5, 2, 1, (5, 0, 0, 0), 0, 0, []),
  (8, .aload_n 0, 1, 0, (0, 0, 0, 0), 0, 0, []),
  (9, .getfield 7, 3, 0, (8, 2177, 0, 1), 0, 0, []),
  (12, .iconst 2, 1, 0, (0, 0, 0, 0), 2, 0, []),
  (13, .iaload, 1, 0, (0, 0, 0, 0), 0, 0, []),
  (14, .if_icmp .ge 110, 3, 0, (124, 0, 0, 0), 0, 0, []),
  (17, .sipush 660, 3, 0, (0, 0, 0, 0), 660, 0, []),
  (20, .iconst 5, 1, 0, (0, 0, 0, 0), 5, 0, []),
  (21, .iload 5, 2, 0, (5, 0, 0, 0), 0, 0, []),
  (23, .imul, 1, 0, (0, 0, 0, 0), 0, 0, []),
  (24, .iadd, 1, 0, (0, 0, 0, 0), 0, 0, []),
  (25, .istore 6, 2, 0, (6, 0, 0, 0), 0, 0, []),
  (27, .aload_n 0, 1, 0, (0, 0, 0, 0), 0, 0, []),
  (28, .getfield 7, 3, 0, (8, 2177, 0, 1), 0, 0, []),
  (31, .iload 6, 2, 0, (6, 0, 0, 0), 0, 0, []),
  (33, .iaload, 1, 0, (0, 0, 0, 0), 0, 0, []),
  (34, .iload_n 1, 1, 0, (1, 0, 0, 0), 0, 0, []),
  (35, .if_icmp .ne 33, 3, 0, (68, 0, 0, 0), 0, 0, []),
  (38, .aload_n 0, 1, 0, (0, 0, 0, 0), 0, 0, []),
  (39, .getfield 7, 3, 0, (8, 2177, 0, 1), 0, 0, []),
  (42, .iload 6, 2, 0, (6, 0, 0, 0), 0, 0, []),
  (44, .iconst 1, 1, 0, (0, 0, 0, 0), 1, 0, []),
  (45, .iadd, 1, 0, (0, 0, 0, 0), 0, 0, []),
  (46, .iaload, 1, 0, (0, 0, 0, 0), 0, 0, []),
  (47, .iload_n 2, 1, 0, (2, 0, 0, 0), 0, 0, []),
  (48, .if_icmp .gt 20, 3, 0, (68, 0, 0, 0), 0, 0, []),
  (51, .aload_n 0, 1, 0, (0, 0, 0, 0), 0, 0, []),
  (52, .getfield 7, 3, 0, (8, 2177, 0, 1), 0, 0, []),
  (55, .iload 6, 2, 0, (6, 0, 0, 0), 0, 0, []),
  (57, .iconst 4, 1, 0, (0, 0, 0, 0), 4, 0, []),
  (58, .iadd, 1, 0, (0, 0, 0, 0), 0, 0, []),
  (59, .iaload, 1, 0, (0, 0, 0, 0), 0, 0, []),
  (60, .iload_n 3, 1, 0, (3, 0, 0, 0), 0, 0, []),
  (61, .if_icmp .gt 7, 3, 0, (68, 0, 0, 0), 0, 0, []),
  (64, .iconst 1, 1, 0, (0, 0, 0, 0), 1, 0, []),
  (65, .goto 4, 3, 0, (69, 0, 0, 0), 0, 0, []),
  (68, .iconst 0, 1, 0, (0, 0, 0, 0), 0, 0, []),
  (69, .istore 7, 2, 0, (7, 0, 0, 0), 0, 0, []),
  (71, .iload 7, 2, 0, (7, 0, 0, 0), 0, 0, []),
  (73, .ifCond .eq 41, 3, 0, (114, 0, 0, 0), 0, 0, []),
  (76, .iload 4, 2, 0, (4, 0, 0, 0), 0, 0, []),
  (78, .iconst (-1), 1, 0, (0, 0, 0, 0), (-1), 0, []),
  (79, .if_icmp .eq 30, 3, 0, (109, 0, 0, 0), 0, 0, []),
  (82, .aload_n 0, 1, 0, (0, 0, 0, 0), 0, 0, []),
  (83, .getfield 7, 3, 0, (8, 2177, 0, 1), 0, 0, []),
  (86, .iload 6, 2, 0, (6, 0, 0, 0), 0, 0, []),
  (88, .iconst 1, 1, 0, (0, 0, 0, 0), 1, 0, []),
  (89, .iadd, 1, 0, (0, 0, 0, 0), 0, 0, []),
  (90, .iaload, 1, 0, (0, 0, 0, 0), 0, 0, []),
  (91, .aload_n 0, 1, 0, (0, 0, 0, 0), 0, 0, []),
  (92, .getfield 7, 3, 0, (8, 2177, 0, 1), 0, 0, []),
  (95, .sipush 660, 3, 0, (0, 0, 0, 0), 660, 0, []),
  (98, .iconst 5, 1, 0, (0, 0, 0, 0), 5, 0, []),
  (99, .iload 4, 2, 0, (4, 0, 0, 0), 0, 0, []),
  (101, .imul, 1, 0, (0, 0, 0, 0), 0, 0, []),
  (102, .iadd, 1, 0, (0, 0, 0, 0), 0, 0, []),
  (103, .iconst 1, 1, 0, (0, 0, 0, 0), 1, 0, []),
  (104, .iadd, 1, 0, (0, 0, 0, 0), 0, 0, []),
  (105, .iaload, 1, 0, (0, 0, 0, 0), 0, 0, []),
  (106, .if_icmp .lt 8, 3, 0, (114, 0, 0, 0), 0, 0, []),
  (109, .iload 5, 2, 0, (5, 0, 0, 0), 0, 0, []),
  (111, .goto 5, 3, 0, (116, 0, 0, 0), 0, 0, []),
  (114, .iload 4, 2, 0, (4, 0, 0, 0), 0, 0, []),
  (116, .istore 4, 2, 0, (4, 0, 0, 0), 0, 0, []),
  (118, .iinc 5 1, 3, 0, (5, 0, 0, 0), 1, 0, []),
  (121, .goto (-115), 3, 0, (6, 0, 0, 0), 0, 0, []),
  (124, .iload 4, 2, 0, (4, 0, 0, 0), 0, 0, []),
  (126, .ireturn, 1, 0, (0, 0, 0, 0), 0, 0, [])]
def hk_m180 : hk_Q := (⟨"HullKeepersModel", "latest", "(III)I"⟩, prog_10_method_35_code, 8, (some .int), (4, 0, 0, 0, 0, 0), hk_c180)
def hk_c181 : List hk_E := [(0, .sipush 660, 3, 0, (0, 0, 0, 0), 660, 0, []),
  (3, .iconst 5, 1, 0, (0, 0, 0, 0), 5, 0, []),
  (4, .iload_n 1, 1, 0, (1, 0, 0, 0), 0, 0, []),
  (5, .imul, 1, 0, (0, 0, 0, 0), 0, 0, []),
  (6, .iadd, 1, 0, (0, 0, 0, 0), 0, 0, []),
  (7, .istore 4, 2, 0, (4, 0, 0, 0), 0, 0, []),
  (9, .aload_n 0, 1, 0, (0, 0, 0, 0), 0, 0, []),
  (10, .iload_n 1, 1, 0, (1, 0, 0, 0), 0, 0, []),
  (11, .iload_n 3, 1, 0, (3, 0, 0, 0), 0, 0, []),
  (12, .invokevirtual 100, 3, 0, (189, 2671, 3, 9), 0, 0, []),
  (15, .aload_n 0, 1, 0, (0, 0, 0, 0), 0, 0, []),
  (16, .getfield 7, 3, 0, (8, 2177, 0, 1), 0, 0, []),
  (19, .bipush 12, 2, 0, (0, 0, 0, 0), 12, 0, []),
  (21, .aload_n 0, 1, 0, (0, 0, 0, 0), 0, 0, []),
  (22, .aload_n 0, 1, 0, (0, 0, 0, 0), 0, 0, []),
  (23, .getfield 7, 3, 0, (8, 2177, 0, 1), 0, 0, []),
  (26, .iload 4, 2, 0, (4, 0, 0, 0), 0, 0, []),
  (28, .iaload, 1, 0, (0, 0, 0, 0), 0, 0, []),
  (29, .iconst 1, 1, 0, (0, 0, 0, 0), 1, 0, []),
  (30, .invokevirtual 57, 3, 0, (148, 2240, 3, 9), 0, 0, []),
  (33, .iadd, 1, 0, (0, 0, 0, 0), 0, 0, []),
  (34, .iaload, 1, 0, (0, 0, 0, 0), 0, 0, []),
  (35, .iload_n 2, 1, 0, (2, 0, 0, 0), 0, 0, []),
  (36, .aload_n 0, 1, 0, (0, 0, 0, 0), 0, 0, []),
  (37, .getfield 7, 3, 0, (8, 2177, 0, 1), 0, 0, []),
  (40, .iload 4, 2, 0, (4, 0, 0, 0), 0, 0, []),
  (42, .iconst 1, 1, 0, (0, 0, 0, 0), 1, 0, []),
  (43, .iadd, 1, 0, (0, 0, 0, 0), 0, 0, []),
  (44, .iaload, 1, 0, (0, 0, 0, 0), 0, 0, []),
  (45, .isub, 1, 0, (0, 0, 0, 0), 0, 0, []),
  (46, .imul, 1, 0, (0, 0, 0, 0), 0, 0, []),
  (47, .isub, 1, 0, (0, 0, 0, 0), 0, 0, []),
  (48, .istore 5, 2, 0, (5, 0, 0, 0), 0, 0, []),
  (50, .iload 5, 2, 0, (5, 0, 0, 0), 0, 0, []),
  (52, .ifCond .ge 7, 3, 0, (59, 0, 0, 0), 0, 0, []),
  (55, .iconst 0, 1, 0, (0, 0, 0, 0), 0, 0, []),
  (56, .goto 5, 3, 0, (61, 0, 0, 0), 0, 0, []),
  (59, .iload 5, 2, 0, (5, 0, 0, 0), 0, 0, []),
  (61, .ireturn, 1, 0, (0, 0, 0, 0), 0, 0, [])]
def hk_m181 : hk_Q := (⟨"HullKeepersModel", "worn", "(III)I"⟩, prog_10_method_37_code, 6, (some .int), (4, 0, 0, 0, 0, 0), hk_c181)
def hk_c182 : List hk_E := [(0, .sipush 660, 3, 0, (0, 0, 0, 0), 660, 0, []),
  (3, .iconst 5, 1, 0, (0, 0, 0, 0), 5, 0, []),
  (4, .iload_n 1, 1, 0, (1, 0, 0, 0), 0, 0, []),
  (5, .imul, 1, 0, (0, 0, 0, 0), 0, 0, []),
  (6, .iadd, 1, 0, (0, 0, 0, 0), 0, 0, []),
  (7, .istore_n 3, 1, 0, (3, 0, 0, 0), 0, 0, []),
  (8, .sipush 1410, 3, 0, (0, 0, 0, 0), 1410, 0, []),
  (11, .iconst 3, 1, 0, (0, 0, 0, 0), 3, 0, []),
  (12, .aload_n 0, 1, 0, (0, 0, 0, 0), 0, 0, []),
  (13, .getfield 7, 3, 0, (8, 2177, 0, 1), 0, 0, []),
  (16, .iload_n 3, 1, 0, (3, 0, 0, 0), 0, 0, []),
  (17, .iconst 2, 1, 0, (0, 0, 0, 0), 2, 0, []),
  (18, .iadd, 1, 0, (0, 0, 0, 0), 0, 0, []),
  (19, .iaload, 1, 0, (0, 0, 0, 0), 0, 0, []),
  (20, .imul, 1, 0, (0, 0, 0, 0), 0, 0, []),
  (21, .iadd, 1, 0, (0, 0, 0, 0), 0, 0, []),
  (22, .istore 4, 2, 0, (4, 0, 0, 0), 0, 0, []),
  (24, .aload_n 0, 1, 0, (0, 0, 0, 0), 0, 0, []),
  (25, .getfield 7, 3, 0, (8, 2177, 0, 1), 0, 0, []),
  (28, .iload_n 3, 1, 0, (3, 0, 0, 0), 0, 0, []),
  (29, .iconst 3, 1, 0, (0, 0, 0, 0), 3, 0, []),
  (30, .iadd, 1, 0, (0, 0, 0, 0), 0, 0, []),
  (31, .iaload, 1, 0, (0, 0, 0, 0), 0, 0, []),
  (32, .aload_n 0, 1, 0, (0, 0, 0, 0), 0, 0, []),
  (33, .getfield 7, 3, 0, (8, 2177, 0, 1), 0, 0, []),
  (36, .iload 4, 2, 0, (4, 0, 0, 0), 0, 0, []),
  (38, .iconst 2, 1, 0, (0, 0, 0, 0), 2, 0, []),
  (39, .iadd, 1, 0, (0, 0, 0, 0), 0, 0, []),
  (40, .iaload, 1, 0, (0, 0, 0, 0), 0, 0, []),
  (41, .iconst (-1), 1, 0, (0, 0, 0, 0), (-1), 0, []),
  (42, .if_icmp .eq 28, 3, 0, (70, 0, 0, 0), 0, 0, []),
  (45, .aload_n 0, 1, 0, (0, 0, 0, 0), 0, 0, []),
  (46, .getfield 7, 3, 0, (8, 2177, 0, 1), 0, 0, []),
  (49, .iload 4, 2, 0, (4, 0, 0, 0), 0, 0, []),
  (51, .iconst 2, 1, 0, (0, 0, 0, 0), 2, 0, []),
  (52, .iadd, 1, 0, (0, 0, 0, 0), 0, 0, []),
  (53, .iaload, 1, 0, (0, 0, 0, 0), 0, 0, []),
  (54, .iload_n 2, 1, 0, (2, 0, 0, 0), 0, 0, []),
  (55, .if_icmp .gt 15, 3, 0, (70, 0, 0, 0), 0, 0, []),
  (58, .aload_n 0, 1, 0, (0, 0, 0, 0), 0, 0, []),
  (59, .getfield 7, 3, 0, (8, 2177, 0, 1), 0, 0, []),
  (62, .iload 4, 2, 0, (4, 0, 0, 0), 0, 0, []),
  (64, .iconst 1, 1, 0, (0, 0, 0, 0), 1, 0, []),
  (65, .iadd, 1, 0, (0, 0, 0, 0), 0, 0, []),
  (66, .iaload, 1, 0, (0, 0, 0, 0), 0, 0, []),
  (67, .goto 10, 3, 0, (77, 0, 0, 0), 0, 0, []),
  (70, .aload_n 0, 1, 0, (0, 0, 0, 0), 0, 0, []),
  (71, .getfield 7, 3, 0, (8, 2177, 0, 1), 0, 0, []),
  (74, .iload 4, 2, 0, (4, 0, 0, 0), 0, 0, []),
  (76, .iaload, 1, 0, (0, 0, 0, 0), 0, 0, []),
  (77, .isub, 1, 0, (0, 0, 0, 0), 0, 0, []),
  (78, .ireturn, 1, 0, (0, 0, 0, 0), 0, 0, [])]
def hk_m182 : hk_Q := (⟨"HullKeepersModel", "leant", "(II)I"⟩, prog_10_method_36_code, 5, (some .int), (3, 0, 0, 0, 0, 0), hk_c182)
def hk_c183 : List hk_E := [(0, .aload_n 0, 1, 0, (0, 0, 0, 0), 0, 0, []),
  (1, .iconst 1, 1, 0, (0, 0, 0, 0), 1, 0, []),
  (2, .iload_n 1, 1, 0, (1, 0, 0, 0), 0, 0, []),
  (3, .invokevirtual 53, 3, 0, (146, 2232, 3, 9), 0, 0, []),
  (6, .ifCond .eq 19, 3, 0, (25, 0, 0, 0), 0, 0, []),
  (9, .iload_n 2, 1, 0, (2, 0, 0, 0), 0, 0, []),
  (10, .invokestatic 103, 3, 0, (186, 2660, 1, 0), 0, 0, []),
  (13, .ifCond .eq 12, 3, 0, (25, 0, 0, 0), 0, 0, []),
  (16, .aload_n 0, 1, 0, (0, 0, 0, 0), 0, 0, []),
  (17, .iload_n 1, 1, 0, (1, 0, 0, 0), 0, 0, []),
  (18, .iload_n 2, 1, 0, (2, 0, 0, 0), 0, 0, []),
  (19, .invokevirtual 113, 3, 0, (191, 2679, 3, 9), 0, 0, []),
  (22, .goto 5, 3, 0, (27, 0, 0, 0), 0, 0, []),
  (25, .bipush (-2), 2, 0, (0, 0, 0, 0), (-2), 0, []),
  (27, .ireturn, 1, 0, (0, 0, 0, 0), 0, 0, [])]
def hk_m183 : hk_Q := (⟨"HullKeepersModel", "due", "(II)I"⟩, prog_10_method_41_code, 3, (some .int), (3, 0, 0, 0, 0, 0), hk_c183)
def hk_c184 : List hk_E := [(0, .aload_n 0, 1, 0, (0, 0, 0, 0), 0, 0, []),
  (1, .iload_n 1, 1, 0, (1, 0, 0, 0), 0, 0, []),
  (2, .sipush 599, 3, 0, (0, 0, 0, 0), 599, 0, []),
  (5, .iload_n 2, 1, 0, (2, 0, 0, 0), 0, 0, []),
  (6, .invokevirtual 106, 3, 0, (187, 2663, 4, 9), 0, 0, []),
  (9, .istore_n 3, 1, 0, (3, 0, 0, 0), 0, 0, []),
  (10, .iload_n 3, 1, 0, (3, 0, 0, 0), 0, 0, []),
  (11, .iconst (-1), 1, 0, (0, 0, 0, 0), (-1), 0, []),
  (12, .if_icmp .ne 5, 3, 0, (17, 0, 0, 0), 0, 0, []),
  (15, .iconst (-1), 1, 0, (0, 0, 0, 0), (-1), 0, []),
  (16, .ireturn, 1, 0, (0, 0, 0, 0), 0, 0, []),
  (17, .aload_n 0, 1, 0, (0, 0, 0, 0), 0, 0, []),
  (18, .getfield 7, 3, 0, (8, 2177, 0, 1), 0, 0, []),
  (21, .sipush 660, 3, 0, (0, 0, 0, 0), 660, 0, []),
  (24, .iconst 5, 1, 0, (0, 0, 0, 0), 5, 0, []),
  (25, .iload_n 3, 1, 0, (3, 0, 0, 0), 0, 0, []),
  (26, .imul, 1, 0, (0, 0, 0, 0), 0, 0, []),
  (27, .iadd, 1, 0, (0, 0, 0, 0), 0, 0, []),
  (28, .iconst 1, 1, 0, (0, 0, 0, 0), 1, 0, []),
  (29, .iadd, 1, 0, (0, 0, 0, 0), 0, 0, []),
  (30, .iaload, 1, 0, (0, 0, 0, 0), 0, 0, []),
  (31, .istore 4, 2, 0, (4, 0, 0, 0), 0, 0, []),
  (33, .iload 4, 2, 1, (4, 0, 0, 0), 0, 0, []),
  (35, .sipush 599, 3, 0, (0, 0, 0, 0), 599, 0, []),
  (38, .if_icmp .gt 30, 3, 0, (68, 0, 0, 0), 0, 0, []),
  (41, .aload_n 0, 1, 0, (0, 0, 0, 0), 0, 0, []),
  (42, .iload_n 3, 1, 0, (3, 0, 0, 0), 0, 0, []),
  (43, .iload 4, 2, 0, (4, 0, 0, 0), 0, 0, []),
  (45, .iload_n 2, 1, 0, (2, 0, 0, 0), 0, 0, []),
  (46, .invokevirtual 110, 3, 0, (188, 2667, 4, 9), 0, 0, []),
  (49, .aload_n 0, 1, 0, (0, 0, 0, 0), 0, 0, []),
  (50, .getfield 7, 3, 0, (8, 2177, 0, 1), 0, 0, []),
  (53, .bipush 8, 2, 0, (0, 0, 0, 0), 8, 0, []),
  (55, .iaload, 1, 0, (0, 0, 0, 0), 0, 0, []),
  (56, .if_icmp .ge 6, 3, 0, (62, 0, 0, 0), 0, 0, []),
  (59, .iload 4, 2, 0, (4, 0, 0, 0), 0, 0, []),
  (61, .ireturn, 1, 0, (0, 0, 0, 0), 0, 0, []),
  (62, .iinc 4 1, 3, 0, (4, 0, 0, 0), 1, 0, []),
  (65, .goto (-32), 3, 0, (33, 0, 0, 0), 0, 0, []),
  (68, .iconst (-1), 1, 0, (0, 0, 0, 0), (-1), 0, []),
  (69, .ireturn, 1, 0, (0, 0, 0, 0), 0, 0, [])]
def hk_m184 : hk_Q := (⟨"HullKeepersModel", "dueOf", "(II)I"⟩, prog_10_method_40_code, 5, (some .int), (3, 0, 0, 0, 0, 0), hk_c184)
def hk_c185 : List hk_E := [(0, .aload_n 0, 1, 0, (0, 0, 0, 0), 0, 0, []),
  (1, .iconst 0, 1, 0, (0, 0, 0, 0), 0, 0, []),
  (2, .iload_n 1, 1, 0, (1, 0, 0, 0), 0, 0, []),
  (3, .invokevirtual 53, 3, 0, (146, 2232, 3, 9), 0, 0, []),
  (6, .ifCond .eq 10, 3, 0, (16, 0, 0, 0), 0, 0, []),
  (9, .iload_n 2, 1, 0, (2, 0, 0, 0), 0, 0, []),
  (10, .invokestatic 103, 3, 0, (186, 2660, 1, 0), 0, 0, []),
  (13, .ifCond .ne 6, 3, 0, (19, 0, 0, 0), 0, 0, []),
  (16, .bipush (-2), 2, 0, (0, 0, 0, 0), (-2), 0, []),
  (18, .ireturn, 1, 0, (0, 0, 0, 0), 0, 0, []),
  (19, .iconst (-1), 1, 0, (0, 0, 0, 0), (-1), 0, []),
  (20, .istore_n 3, 1, 0, (3, 0, 0, 0), 0, 0, []),
  (21, .iconst 0, 1, 0, (0, 0, 0, 0), 0, 0, []),
  (22, .istore 4, 2, 0, (4, 0, 0, 0), 0, 0, []),
  (24, .iconst 0, 1, 0, (0, 0, 0, 0), 0, 0, []),
  (25, .istore 5, 2, 0, (5, 0, 0, 0), 0, 0, []),
  (27, .iload 5, 2, 1, (5, 0, 0, 0), 0, 0, []),
  (29, .aload_n 0, 1, 0, (0, 0, 0, 0), 0, 0, []),
  (30, .getfield 7, 3, 0, (8, 2177, 0, 1), 0, 0, []),
  (33, .iconst 1, 1, 0, (0, 0, 0, 0), 1, 0, []),
  (34, .iaload, 1, 0, (0, 0, 0, 0), 0, 0, []),
  (35, .if_icmp .ge 58, 3, 0, (93, 0, 0, 0), 0, 0, []),
  (38, .aload_n 0, 1, 0, (0, 0, 0, 0), 0, 0, []),
  (39, .iload 5, 2, 0, (5, 0, 0, 0), 0, 0, []),
  (41, .iconst 0, 1, 0, (0, 0, 0, 0), 0, 0, []),
  (42, .invokevirtual 57, 3, 0, (148, 2240, 3, 9), 0, 0, []),
  (45, .iload_n 1, 1, 0, (1, 0, 0, 0), 0, 0, []),
  (46, .if_icmp .ne 13, 3, 0, (59, 0, 0, 0), 0, 0, []),
  (49, .aload_n 0, 1, 0, (0, 0, 0, 0), 0, 0, []),
  (50, .iload 5, 2, 0, (5, 0, 0, 0), 0, 0, []),
  (52, .iload_n 2, 1, 0, (2, 0, 0, 0), 0, 0, []),
  (53, .invokevirtual 113, 3, 0, (191, 2679, 3, 9), 0, 0, []),
  (56, .goto 4, 3, 0, (60, 0, 0, 0), 0, 0, []),
  (59, .iconst (-1), 1, 0, (0, 0, 0, 0), (-1), 0, []),
  (60, .istore 6, 2, 0, (6, 0, 0, 0), 0, 0, []),
  (62, .iload 6, 2, 0, (6, 0, 0, 0), 0, 0, []),
  (64, .iconst (-1), 1, 0, (0, 0, 0, 0), (-1), 0, []),
  (65, .if_icmp .eq 22, 3, 0, (87, 0, 0, 0), 0, 0, []),
  (68, .iload_n 3, 1, 0, (3, 0, 0, 0), 0, 0, []),
  (69, .iconst (-1), 1, 0, (0, 0, 0, 0), (-1), 0, []),
  (70, .if_icmp .eq 10, 3, 0, (80, 0, 0, 0), 0, 0, []),
  (73, .iload 6, 2, 0, (6, 0, 0, 0), 0, 0, []),
  (75, .iload 4, 2, 0, (4, 0, 0, 0), 0, 0, []),
  (77, .if_icmp .ge 10, 3, 0, (87, 0, 0, 0), 0, 0, []),
  (80, .iload 5, 2, 0, (5, 0, 0, 0), 0, 0, []),
  (82, .istore_n 3, 1, 0, (3, 0, 0, 0), 0, 0, []),
  (83, .iload 6, 2, 0, (6, 0, 0, 0), 0, 0, []),
  (85, .istore 4, 2, 0, (4, 0, 0, 0), 0, 0, []),
  (87, .iinc 5 1, 3, 0, (5, 0, 0, 0), 1, 0, []),
  (90, .goto (-63), 3, 0, (27, 0, 0, 0), 0, 0, []),
  (93, .iload_n 3, 1, 0, (3, 0, 0, 0), 0, 0, []),
  (94, .ireturn, 1, 0, (0, 0, 0, 0), 0, 0, [])]
def hk_m185 : hk_Q := (⟨"HullKeepersModel", "first", "(II)I"⟩, prog_10_method_42_code, 7, (some .int), (3, 0, 0, 0, 0, 0), hk_c185)
def hk_c186 : List hk_E := [(0, .iload_n 1, 1, 0, (1, 0, 0, 0), 0, 0, []),
  (1, .invokestatic 161, 3, 0, (194, 2691, 1, 0), 0, 0, []),
  (4, .ifCond .eq 13, 3, 0, (17, 0, 0, 0), 0, 0, []),
  (7, .iload_n 2, 1, 0, (2, 0, 0, 0), 0, 0, []),
  (8, .iconst 0, 1, 0, (0, 0, 0, 0), 0, 0, []),
  (9, .bipush 127, 2, 0, (0, 0, 0, 0), 127, 0, []),
  (11, .invokestatic 44, 3, 0, (143, 2220, 3, 0), 0, 0, []),
  (14, .ifCond .ne 6, 3, 0, (20, 0, 0, 0), 0, 0, []),
  (17, .bipush (-2), 2, 0, (0, 0, 0, 0), (-2), 0, []),
  (19, .ireturn, 1, 0, (0, 0, 0, 0), 0, 0, []),
  (20, .sipush 1422, 3, 0, (0, 0, 0, 0), 1422, 0, []),
  (23, .bipush 61, 2, 0, (0, 0, 0, 0), 61, 0, []),
  (25, .iload_n 1, 1, 0, (1, 0, 0, 0), 0, 0, []),
  (26, .imul, 1, 0, (0, 0, 0, 0), 0, 0, []),
  (27, .iadd, 1, 0, (0, 0, 0, 0), 0, 0, []),
  (28, .istore_n 3, 1, 0, (3, 0, 0, 0), 0, 0, []),
  (29, .aload_n 0, 1, 0, (0, 0, 0, 0), 0, 0, []),
  (30, .getfield 7, 3, 0, (8, 2177, 0, 1), 0, 0, []),
  (33, .iload_n 3, 1, 0, (3, 0, 0, 0), 0, 0, []),
  (34, .iaload, 1, 0, (0, 0, 0, 0), 0, 0, []),
  (35, .bipush 60, 2, 0, (0, 0, 0, 0), 60, 0, []),
  (37, .if_icmp .ne 6, 3, 0, (43, 0, 0, 0), 0, 0, []),
  (40, .bipush (-4), 2, 0, (0, 0, 0, 0), (-4), 0, []),
  (42, .ireturn, 1, 0, (0, 0, 0, 0), 0, 0, []),
  (43, .aload_n 0, 1, 0, (0, 0, 0, 0), 0, 0, []),
  (44, .getfield 7, 3, 0, (8, 2177, 0, 1), 0, 0, []),
  (47, .iload_n 3, 1, 0, (3, 0, 0, 0), 0, 0, []),
  (48, .dup2, 1, 0, (0, 0, 0, 0), 0, 0, []),
  (49, .iaload, 1, 0, (0, 0, 0, 0), 0, 0, []),
  (50, .iconst 1, 1, 0, (0, 0, 0, 0), 1, 0, []),
  (51, .iadd, 1, 0, (0, 0, 0, 0), 0, 0, []),
  (52, .iastore, 1, 0, (0, 0, 0, 0), 0, 0, []),
  (53, .aload_n 0, 1, 0, (0, 0, 0, 0), 0, 0, []),
  (54, .getfield 7, 3, 0, (8, 2177, 0, 1), 0, 0, []),
  (57, .iload_n 3, 1, 0, (3, 0, 0, 0), 0, 0, []),
  (58, .aload_n 0, 1, 0, (0, 0, 0, 0), 0, 0, []),
  (59, .getfield 7, 3, 0, (8, 2177, 0, 1), 0, 0, []),
  (62, .iload_n 3, 1, 0, (3, 0, 0, 0), 0, 0, []),
  (63, .iaload, 1, 0, (0, 0, 0, 0), 0, 0, []),
  (64, .iadd, 1, 0, (0, 0, 0, 0), 0, 0, []),
  (65, .iload_n 2, 1, 0, (2, 0, 0, 0), 0, 0, []),
  (66, .iastore, 1, 0, (0, 0, 0, 0), 0, 0, []),
  (67, .aload_n 0, 1, 0, (0, 0, 0, 0), 0, 0, []),
  (68, .getfield 7, 3, 0, (8, 2177, 0, 1), 0, 0, []),
  (71, .iload_n 3, 1, 0, (3, 0, 0, 0), 0, 0, []),
  (72, .iaload, 1, 0, (0, 0, 0, 0), 0, 0, []),
  (73, .ireturn, 1, 0, (0, 0, 0, 0), 0, 0, [])]
def hk_m186 : hk_Q := (⟨"HullKeepersModel", "write", "(II)I"⟩, prog_10_method_56_code, 4, (some .int), (3, 0, 0, 0, 0, 0), hk_c186)
def hk_c187 : List hk_E := [(0, .iload_n 0, 1, 0, (0, 0, 0, 0), 0, 0, []),
  (1, .iconst 0, 1, 0, (0, 0, 0, 0), 0, 0, []),
  (2, .iconst 3, 1, 0, (0, 0, 0, 0), 3, 0, []),
  (3, .invokestatic 44, 3, 0, (143, 2220, 3, 0), 0, 0, []),
  (6, .ireturn, 1, 0, (0, 0, 0, 1), 0, 0, [])]
def hk_m187 : hk_Q := (⟨"HullKeepersModel", "isText", "(I)Z"⟩, prog_10_method_55_code, 1, (some .boolean), (1, 2, 0, 0, 0, 0), hk_c187)
def hk_c188 : List hk_E := [(0, .iload_n 1, 1, 0, (1, 0, 0, 0), 0, 0, []),
  (1, .invokestatic 161, 3, 0, (194, 2691, 1, 0), 0, 0, []),
  (4, .ifCond .eq 19, 3, 0, (23, 0, 0, 0), 0, 0, []),
  (7, .aload_n 0, 1, 0, (0, 0, 0, 0), 0, 0, []),
  (8, .sipush 1422, 3, 0, (0, 0, 0, 0), 1422, 0, []),
  (11, .bipush 61, 2, 0, (0, 0, 0, 0), 61, 0, []),
  (13, .iload_n 1, 1, 0, (1, 0, 0, 0), 0, 0, []),
  (14, .imul, 1, 0, (0, 0, 0, 0), 0, 0, []),
  (15, .iadd, 1, 0, (0, 0, 0, 0), 0, 0, []),
  (16, .iconst 0, 1, 0, (0, 0, 0, 0), 0, 0, []),
  (17, .invokevirtual 64, 3, 0, (151, 2252, 3, 9), 0, 0, []),
  (20, .goto 5, 3, 0, (25, 0, 0, 0), 0, 0, []),
  (23, .bipush (-2), 2, 0, (0, 0, 0, 0), (-2), 0, []),
  (25, .ireturn, 1, 0, (0, 0, 0, 0), 0, 0, [])]
def hk_m188 : hk_Q := (⟨"HullKeepersModel", "erase", "(I)I"⟩, prog_10_method_57_code, 2, (some .int), (2, 0, 0, 0, 0, 0), hk_c188)
def hk_c189 : List hk_E := [(0, .iload_n 1, 1, 0, (1, 0, 0, 0), 0, 0, []),
  (1, .invokestatic 161, 3, 0, (194, 2691, 1, 0), 0, 0, []),
  (4, .ifCond .eq 11, 3, 0, (15, 0, 0, 0), 0, 0, []),
  (7, .aload_n 0, 1, 0, (0, 0, 0, 0), 0, 0, []),
  (8, .iload_n 1, 1, 0, (1, 0, 0, 0), 0, 0, []),
  (9, .invokevirtual 154, 3, 0, (169, 2597, 2, 9), 0, 0, []),
  (12, .goto 5, 3, 0, (17, 0, 0, 0), 0, 0, []),
  (15, .bipush (-2), 2, 0, (0, 0, 0, 0), (-2), 0, []),
  (17, .ireturn, 1, 0, (0, 0, 0, 0), 0, 0, [])]
def hk_m189 : hk_Q := (⟨"HullKeepersModel", "fault", "(I)I"⟩, prog_10_method_58_code, 2, (some .int), (2, 0, 0, 0, 0, 0), hk_c189)
def hk_c190 : List hk_E := [(0, .iload_n 1, 1, 0, (1, 0, 0, 0), 0, 0, []),
  (1, .invokestatic 161, 3, 0, (194, 2691, 1, 0), 0, 0, []),
  (4, .ifCond .eq 12, 3, 0, (16, 0, 0, 0), 0, 0, []),
  (7, .aload_n 0, 1, 0, (0, 0, 0, 0), 0, 0, []),
  (8, .iconst 1, 1, 0, (0, 0, 0, 0), 1, 0, []),
  (9, .iload_n 2, 1, 0, (2, 0, 0, 0), 0, 0, []),
  (10, .invokevirtual 53, 3, 0, (146, 2232, 3, 9), 0, 0, []),
  (13, .ifCond .ne 7, 3, 0, (20, 0, 0, 0), 0, 0, []),
  (16, .ldc2_w 164, 3, 0, (0, 2706, 0, 0), 0, (-2000000000000000000), []),
  (19, .lreturn, 1, 0, (0, 0, 0, 0), 0, 0, []),
  (20, .aload_n 0, 1, 0, (0, 0, 0, 0), 0, 0, []),
  (21, .iload_n 1, 1, 0, (1, 0, 0, 0), 0, 0, []),
  (22, .invokevirtual 154, 3, 0, (169, 2597, 2, 9), 0, 0, []),
  (25, .iconst (-1), 1, 0, (0, 0, 0, 0), (-1), 0, []),
  (26, .if_icmp .eq 9, 3, 0, (35, 0, 0, 0), 0, 0, []),
  (29, .ldc2_w 166, 3, 0, (0, 2707, 0, 0), 0, (-3000000000000000000), []),
  (32, .goto 8, 3, 0, (40, 0, 0, 0), 0, 0, []),
  (35, .aload_n 0, 1, 0, (0, 0, 0, 0), 0, 0, []),
  (36, .iload_n 2, 1, 0, (2, 0, 0, 0), 0, 0, []),
  (37, .invokevirtual 157, 3, 0, (177, 2626, 2, 9), 0, 0, []),
  (40, .lreturn, 1, 0, (0, 0, 0, 0), 0, 0, [])]
def hk_m190 : hk_Q := (⟨"HullKeepersModel", "tells", "(II)J"⟩, prog_10_method_59_code, 3, (some .long), (3, 0, 0, 0, 0, 0), hk_c190)
def hk_c191 : List hk_E := [(0, .aload_n 0, 1, 0, (0, 0, 0, 0), 0, 0, []),
  (1, .iconst 0, 1, 0, (0, 0, 0, 0), 0, 0, []),
  (2, .iload_n 1, 1, 0, (1, 0, 0, 0), 0, 0, []),
  (3, .invokevirtual 53, 3, 0, (146, 2232, 3, 9), 0, 0, []),
  (6, .ifCond .eq 33, 3, 0, (39, 0, 0, 0), 0, 0, []),
  (9, .iload_n 2, 1, 0, (2, 0, 0, 0), 0, 0, []),
  (10, .iconst (-1), 1, 0, (0, 0, 0, 0), (-1), 0, []),
  (11, .if_icmp .eq 10, 3, 0, (21, 0, 0, 0), 0, 0, []),
  (14, .iload_n 2, 1, 0, (2, 0, 0, 0), 0, 0, []),
  (15, .invokestatic 161, 3, 0, (194, 2691, 1, 0), 0, 0, []),
  (18, .ifCond .eq 21, 3, 0, (39, 0, 0, 0), 0, 0, []),
  (21, .aload_n 0, 1, 0, (0, 0, 0, 0), 0, 0, []),
  (22, .bipush 20, 2, 0, (0, 0, 0, 0), 20, 0, []),
  (24, .bipush 10, 2, 0, (0, 0, 0, 0), 10, 0, []),
  (26, .iload_n 1, 1, 0, (1, 0, 0, 0), 0, 0, []),
  (27, .imul, 1, 0, (0, 0, 0, 0), 0, 0, []),
  (28, .iadd, 1, 0, (0, 0, 0, 0), 0, 0, []),
  (29, .bipush 8, 2, 0, (0, 0, 0, 0), 8, 0, []),
  (31, .iadd, 1, 0, (0, 0, 0, 0), 0, 0, []),
  (32, .iload_n 2, 1, 0, (2, 0, 0, 0), 0, 0, []),
  (33, .invokevirtual 64, 3, 0, (151, 2252, 3, 9), 0, 0, []),
  (36, .goto 5, 3, 0, (41, 0, 0, 0), 0, 0, []),
  (39, .bipush (-10), 2, 0, (0, 0, 0, 0), (-10), 0, []),
  (41, .ireturn, 1, 0, (0, 0, 0, 0), 0, 0, [])]
def hk_m191 : hk_Q := (⟨"HullKeepersModel", "charter", "(II)I"⟩, prog_10_method_60_code, 3, (some .int), (3, 0, 0, 0, 0, 0), hk_c191)
def hk_c192 : List hk_E := [(0, .aload_n 0, 1, 0, (0, 0, 0, 0), 0, 0, []),
  (1, .iconst 0, 1, 0, (0, 0, 0, 0), 0, 0, []),
  (2, .iload_n 1, 1, 0, (1, 0, 0, 0), 0, 0, []),
  (3, .invokevirtual 53, 3, 0, (146, 2232, 3, 9), 0, 0, []),
  (6, .ifCond .eq 23, 3, 0, (29, 0, 0, 0), 0, 0, []),
  (9, .iload_n 2, 1, 0, (2, 0, 0, 0), 0, 0, []),
  (10, .invokestatic 161, 3, 0, (194, 2691, 1, 0), 0, 0, []),
  (13, .ifCond .eq 16, 3, 0, (29, 0, 0, 0), 0, 0, []),
  (16, .iload_n 3, 1, 0, (3, 0, 0, 0), 0, 0, []),
  (17, .invokestatic 161, 3, 0, (194, 2691, 1, 0), 0, 0, []),
  (20, .ifCond .eq 9, 3, 0, (29, 0, 0, 0), 0, 0, []),
  (23, .iload 4, 2, 0, (4, 0, 0, 0), 0, 0, []),
  (25, .iconst (-1), 1, 0, (0, 0, 0, 0), (-1), 0, []),
  (26, .if_icmp .ge 6, 3, 0, (32, 0, 0, 0), 0, 0, []),
  (29, .bipush (-2), 2, 0, (0, 0, 0, 0), (-2), 0, []),
  (31, .ireturn, 1, 0, (0, 0, 0, 0), 0, 0, []),
  (32, .iconst 0, 1, 0, (0, 0, 0, 0), 0, 0, []),
  (33, .istore 5, 2, 0, (5, 0, 0, 0), 0, 0, []),
  (35, .iconst 0, 1, 0, (0, 0, 0, 0), 0, 0, []),
  (36, .istore 6, 2, 0, (6, 0, 0, 0), 0, 0, []),
  (38, .iload 6, 2, 1, (6, 0, 0, 0), 0, 0, []),
  (40, .aload_n 0, 1, 0, (0, 0, 0, 0), 0, 0, []),
  (41, .getfield 7, 3, 0, (8, 2177, 0, 1), 0, 0, []),
  (44, .iconst 1, 1, 0, (0, 0, 0, 0), 1, 0, []),
  (45, .iaload, 1, 0, (0, 0, 0, 0), 0, 0, []),
  (46, .if_icmp .ge 50, 3, 0, (96, 0, 0, 0), 0, 0, []),
  (49, .aload_n 0, 1, 0, (0, 0, 0, 0), 0, 0, []),
  (50, .iload 6, 2, 0, (6, 0, 0, 0), 0, 0, []),
  (52, .iconst 0, 1, 0, (0, 0, 0, 0), 0, 0, []),
  (53, .invokevirtual 57, 3, 0, (148, 2240, 3, 9), 0, 0, []),
  (56, .iload_n 1, 1, 0, (1, 0, 0, 0), 0, 0, []),
  (57, .if_icmp .ne 33, 3, 0, (90, 0, 0, 0), 0, 0, []),
  (60, .aload_n 0, 1, 0, (0, 0, 0, 0), 0, 0, []),
  (61, .iload_n 2, 1, 0, (2, 0, 0, 0), 0, 0, []),
  (62, .iload 6, 2, 0, (6, 0, 0, 0), 0, 0, []),
  (64, .invokevirtual 94, 3, 0, (168, 2593, 3, 9), 0, 0, []),
  (67, .aload_n 0, 1, 0, (0, 0, 0, 0), 0, 0, []),
  (68, .iload_n 3, 1, 0, (3, 0, 0, 0), 0, 0, []),
  (69, .iload 6, 2, 0, (6, 0, 0, 0), 0, 0, []),
  (71, .invokevirtual 94, 3, 0, (168, 2593, 3, 9), 0, 0, []),
  (74, .if_icmp .eq 16, 3, 0, (90, 0, 0, 0), 0, 0, []),
  (77, .iload 5, 2, 0, (5, 0, 0, 0), 0, 0, []),
  (79, .iload 4, 2, 0, (4, 0, 0, 0), 0, 0, []),
  (81, .if_icmp .ne 6, 3, 0, (87, 0, 0, 0), 0, 0, []),
  (84, .iload 6, 2, 0, (6, 0, 0, 0), 0, 0, []),
  (86, .ireturn, 1, 0, (0, 0, 0, 0), 0, 0, []),
  (87, .iinc 5 1, 3, 0, (5, 0, 0, 0), 1, 0, []),
  (90, .iinc 6 1, 3, 0, (6, 0, 0, 0), 1, 0, []),
  (93, .goto (-55), 3, 0, (38, 0, 0, 0), 0, 0, []),
  (96, .iload 4, 2, 0, (4, 0, 0, 0), 0, 0, []),
  (98, .iconst (-1), 1, 0, (0, 0, 0, 0), (-1), 0, []),
  (99, .if_icmp .ne 8, 3, 0, (107, 0, 0, 0), 0, 0, []),
  (102, .iload 5, 2, 0, (5, 0, 0, 0), 0, 0, []),
  (104, .goto 4, 3, 0, (108, 0, 0, 0), 0, 0, []),
  (107, .iconst (-1), 1, 0, (0, 0, 0, 0), (-1), 0, []),
  (108, .ireturn, 1, 0, (0, 0, 0, 0), 0, 0, [])]
def hk_m192 : hk_Q := (⟨"HullKeepersModel", "unlike", "(IIII)I"⟩, prog_10_method_61_code, 7, (some .int), (5, 0, 0, 0, 0, 0), hk_c192)
def hk_c193 : List hk_E := [(0, .iload_n 1, 1, 0, (1, 0, 0, 0), 0, 0, []),
  (1, .iconst 0, 1, 0, (0, 0, 0, 0), 0, 0, []),
  (2, .bipush 10, 2, 0, (0, 0, 0, 0), 10, 0, []),
  (4, .invokestatic 44, 3, 0, (143, 2220, 3, 0), 0, 0, []),
  (7, .ifCond .eq 24, 3, 0, (31, 0, 0, 0), 0, 0, []),
  (10, .iload_n 2, 1, 0, (2, 0, 0, 0), 0, 0, []),
  (11, .iconst 1, 1, 0, (0, 0, 0, 0), 1, 0, []),
  (12, .bipush 10, 2, 0, (0, 0, 0, 0), 10, 0, []),
  (14, .invokestatic 44, 3, 0, (143, 2220, 3, 0), 0, 0, []),
  (17, .ifCond .eq 14, 3, 0, (31, 0, 0, 0), 0, 0, []),
  (20, .iload_n 3, 1, 0, (3, 0, 0, 0), 0, 0, []),
  (21, .iconst 0, 1, 0, (0, 0, 0, 0), 0, 0, []),
  (22, .sipush 1000, 3, 0, (0, 0, 0, 0), 1000, 0, []),
  (25, .invokestatic 44, 3, 0, (143, 2220, 3, 0), 0, 0, []),
  (28, .ifCond .ne 6, 3, 0, (34, 0, 0, 0), 0, 0, []),
  (31, .bipush (-2), 2, 0, (0, 0, 0, 0), (-2), 0, []),
  (33, .ireturn, 1, 0, (0, 0, 0, 0), 0, 0, []),
  (34, .aload_n 0, 1, 0, (0, 0, 0, 0), 0, 0, []),
  (35, .getfield 7, 3, 0, (8, 2177, 0, 1), 0, 0, []),
  (38, .iconst 3, 1, 0, (0, 0, 0, 0), 3, 0, []),
  (39, .iaload, 1, 0, (0, 0, 0, 0), 0, 0, []),
  (40, .iconst 4, 1, 0, (0, 0, 0, 0), 4, 0, []),
  (41, .if_icmp .ne 6, 3, 0, (47, 0, 0, 0), 0, 0, []),
  (44, .bipush (-4), 2, 0, (0, 0, 0, 0), (-4), 0, []),
  (46, .ireturn, 1, 0, (0, 0, 0, 0), 0, 0, []),
  (47, .sipush 1666, 3, 0, (0, 0, 0, 0), 1666, 0, []),
  (50, .iconst 3, 1, 0, (0, 0, 0, 0), 3, 0, []),
  (51, .aload_n 0, 1, 0, (0, 0, 0, 0), 0, 0, []),
  (52, .getfield 7, 3, 0, (8, 2177, 0, 1), 0, 0, []),
  (55, .iconst 3, 1, 0, (0, 0, 0, 0), 3, 0, []),
  (56, .iaload, 1, 0, (0, 0, 0, 0), 0, 0, []),
  (57, .imul, 1, 0, (0, 0, 0, 0), 0, 0, []),
  (58, .iadd, 1, 0, (0, 0, 0, 0), 0, 0, []),
  (59, .istore 4, 2, 0, (4, 0, 0, 0), 0, 0, []),
  (61, .aload_n 0, 1, 0, (0, 0, 0, 0), 0, 0, []),
  (62, .getfield 7, 3, 0, (8, 2177, 0, 1), 0, 0, []),
  (65, .iload 4, 2, 0, (4, 0, 0, 0), 0, 0, []),
  (67, .iload_n 1, 1, 0, (1, 0, 0, 0), 0, 0, []),
  (68, .iastore, 1, 0, (0, 0, 0, 0), 0, 0, []),
  (69, .aload_n 0, 1, 0, (0, 0, 0, 0), 0, 0, []),
  (70, .getfield 7, 3, 0, (8, 2177, 0, 1), 0, 0, []),
  (73, .iload 4, 2, 0, (4, 0, 0, 0), 0, 0, []),
  (75, .iconst 1, 1, 0, (0, 0, 0, 0), 1, 0, []),
  (76, .iadd, 1, 0, (0, 0, 0, 0), 0, 0, []),
  (77, .iload_n 2, 1, 0, (2, 0, 0, 0), 0, 0, []),
  (78, .iastore, 1, 0, (0, 0, 0, 0), 0, 0, []),
  (79, .aload_n 0, 1, 0, (0, 0, 0, 0), 0, 0, []),
  (80, .getfield 7, 3, 0, (8, 2177, 0, 1), 0, 0, []),
  (83, .iload 4, 2, 0, (4, 0, 0, 0), 0, 0, []),
  (85, .iconst 2, 1, 0, (0, 0, 0, 0), 2, 0, []),
  (86, .iadd, 1, 0, (0, 0, 0, 0), 0, 0, []),
  (87, .iload_n 3, 1, 0, (3, 0, 0, 0), 0, 0, []),
  (88, .iastore, 1, 0, (0, 0, 0, 0), 0, 0, []),
  (89, .aload_n 0, 1, 0, (0, 0, 0, 0), 0, 0, []),
  (90, .iconst 3, 1, 0, (0, 0, 0, 0), 3, 0, []),
  (91, .invokevirtual 49, 3, 0, (144, 2224, 2, 9), 0, 0, []),
  (94, .ireturn, 1, 0, (0, 0, 0, 0), 0, 0, [])]
def hk_m193 : hk_Q := (⟨"HullKeepersModel", "hull", "(III)I"⟩, prog_10_method_70_code, 5, (some .int), (4, 0, 0, 0, 0, 0), hk_c193)
def hk_c194 : List hk_E := [(0, .iload_n 1, 1, 0, (1, 0, 0, 0), 0, 0, []),
  (1, .iconst 0, 1, 0, (0, 0, 0, 0), 0, 0, []),
  (2, .iconst 3, 1, 0, (0, 0, 0, 0), 3, 0, []),
  (3, .invokestatic 44, 3, 0, (143, 2220, 3, 0), 0, 0, []),
  (6, .ifCond .eq 14, 3, 0, (20, 0, 0, 0), 0, 0, []),
  (9, .iload_n 2, 1, 0, (2, 0, 0, 0), 0, 0, []),
  (10, .iconst 0, 1, 0, (0, 0, 0, 0), 0, 0, []),
  (11, .sipush 1000, 3, 0, (0, 0, 0, 0), 1000, 0, []),
  (14, .invokestatic 44, 3, 0, (143, 2220, 3, 0), 0, 0, []),
  (17, .ifCond .ne 6, 3, 0, (23, 0, 0, 0), 0, 0, []),
  (20, .bipush (-2), 2, 0, (0, 0, 0, 0), (-2), 0, []),
  (22, .ireturn, 1, 0, (0, 0, 0, 0), 0, 0, []),
  (23, .aload_n 0, 1, 0, (0, 0, 0, 0), 0, 0, []),
  (24, .getfield 7, 3, 0, (8, 2177, 0, 1), 0, 0, []),
  (27, .bipush 10, 2, 0, (0, 0, 0, 0), 10, 0, []),
  (29, .iload_n 1, 1, 0, (1, 0, 0, 0), 0, 0, []),
  (30, .iastore, 1, 0, (0, 0, 0, 0), 0, 0, []),
  (31, .aload_n 0, 1, 0, (0, 0, 0, 0), 0, 0, []),
  (32, .getfield 7, 3, 0, (8, 2177, 0, 1), 0, 0, []),
  (35, .bipush 11, 2, 0, (0, 0, 0, 0), 11, 0, []),
  (37, .iload_n 2, 1, 0, (2, 0, 0, 0), 0, 0, []),
  (38, .iastore, 1, 0, (0, 0, 0, 0), 0, 0, []),
  (39, .iconst 1, 1, 0, (0, 0, 0, 0), 1, 0, []),
  (40, .ireturn, 1, 0, (0, 0, 0, 0), 0, 0, [])]
def hk_m194 : hk_Q := (⟨"HullKeepersModel", "docks", "(II)I"⟩, prog_10_method_71_code, 3, (some .int), (3, 0, 0, 0, 0, 0), hk_c194)
def hk_c195 : List hk_E := [(0, .iload_n 1, 1, 0, (1, 0, 0, 0), 0, 0, []),
  (1, .iconst (-1), 1, 0, (0, 0, 0, 0), (-1), 0, []),
  (2, .bipush 11, 2, 0, (0, 0, 0, 0), 11, 0, []),
  (4, .invokestatic 44, 3, 0, (143, 2220, 3, 0), 0, 0, []),
  (7, .ifCond .ne 6, 3, 0, (13, 0, 0, 0), 0, 0, []),
  (10, .bipush (-2), 2, 0, (0, 0, 0, 0), (-2), 0, []),
  (12, .ireturn, 1, 0, (0, 0, 0, 0), 0, 0, []),
  (13, .aload_n 0, 1, 0, (0, 0, 0, 0), 0, 0, []),
  (14, .invokevirtual 191, 3, 0, (203, 2728, 1, 9), 0, 0, []),
  (17, .iload_n 1, 1, 0, (1, 0, 0, 0), 0, 0, []),
  (18, .iconst (-1), 1, 0, (0, 0, 0, 0), (-1), 0, []),
  (19, .if_icmp .ne 18, 3, 0, (37, 0, 0, 0), 0, 0, []),
  (22, .aload_n 0, 1, 0, (0, 0, 0, 0), 0, 0, []),
  (23, .getfield 37, 3, 0, (8, 2187, 10, 1), 0, 0, []),
  (26, .iconst 0, 1, 0, (0, 0, 0, 0), 0, 0, []),
  (27, .iaload, 1, 0, (0, 0, 0, 0), 0, 0, []),
  (28, .bipush 63, 2, 0, (0, 0, 0, 0), 63, 0, []),
  (30, .iadd, 1, 0, (0, 0, 0, 0), 0, 0, []),
  (31, .bipush 64, 2, 0, (0, 0, 0, 0), 64, 0, []),
  (33, .idiv, 1, 0, (0, 0, 0, 0), 0, 0, []),
  (34, .goto 8, 3, 0, (42, 0, 0, 0), 0, 0, []),
  (37, .aload_n 0, 1, 0, (0, 0, 0, 0), 0, 0, []),
  (38, .iload_n 1, 1, 0, (1, 0, 0, 0), 0, 0, []),
  (39, .invokevirtual 194, 3, 0, (210, 2757, 2, 9), 0, 0, []),
  (42, .ireturn, 1, 0, (0, 0, 0, 0), 0, 0, [])]
def hk_m195 : hk_Q := (⟨"HullKeepersModel", "plan", "(I)I"⟩, prog_10_method_72_code, 2, (some .int), (2, 0, 0, 0, 0, 0), hk_c195)
def hk_c196 : List hk_E := [(0, .iconst 1, 1, 0, (0, 0, 0, 0), 1, 0, []),
  (1, .aload_n 0, 1, 0, (0, 0, 0, 0), 0, 0, []),
  (2, .getfield 7, 3, 0, (8, 2177, 0, 1), 0, 0, []),
  (5, .iconst 3, 1, 0, (0, 0, 0, 0), 3, 0, []),
  (6, .iaload, 1, 0, (0, 0, 0, 0), 0, 0, []),
  (7, .ishl, 1, 0, (0, 0, 0, 0), 0, 0, []),
  (8, .istore_n 1, 1, 0, (1, 0, 0, 0), 0, 0, []),
  (9, .iconst 0, 1, 0, (0, 0, 0, 0), 0, 0, []),
  (10, .istore_n 2, 1, 0, (2, 0, 0, 0), 0, 0, []),
  (11, .iload_n 2, 1, 1, (2, 0, 0, 0), 0, 0, []),
  (12, .sipush 14641, 3, 0, (0, 0, 0, 0), 14641, 0, []),
  (15, .if_icmp .ge 19, 3, 0, (34, 0, 0, 0), 0, 0, []),
  (18, .aload_n 0, 1, 0, (0, 0, 0, 0), 0, 0, []),
  (19, .getfield 37, 3, 0, (8, 2187, 10, 1), 0, 0, []),
  (22, .ldc 180, 2, 0, (0, 2732, 0, 0), 146410, 0, []),
  (24, .iload_n 2, 1, 0, (2, 0, 0, 0), 0, 0, []),
  (25, .iadd, 1, 0, (0, 0, 0, 0), 0, 0, []),
  (26, .iconst 0, 1, 0, (0, 0, 0, 0), 0, 0, []),
  (27, .iastore, 1, 0, (0, 0, 0, 0), 0, 0, []),
  (28, .iinc 2 1, 3, 0, (2, 0, 0, 0), 1, 0, []),
  (31, .goto (-20), 3, 0, (11, 0, 0, 0), 0, 0, []),
  (34, .bipush 9, 2, 0, (0, 0, 0, 0), 9, 0, []),
  (36, .istore_n 2, 1, 0, (2, 0, 0, 0), 0, 0, []),
  (37, .iload_n 2, 1, 1, (2, 0, 0, 0), 0, 0, []),
  (38, .ifCond .lt 223, 3, 0, (261, 0, 0, 0), 0, 0, []),
  (41, .iconst 0, 1, 0, (0, 0, 0, 0), 0, 0, []),
  (42, .istore_n 3, 1, 0, (3, 0, 0, 0), 0, 0, []),
  (43, .iload_n 3, 1, 1, (3, 0, 0, 0), 0, 0, []),
  (44, .sipush 14641, 3, 0, (0, 0, 0, 0), 14641, 0, []),
  (47, .if_icmp .ge 208, 3, 0, (255, 0, 0, 0), 0, 0, []),
  (50, .aload_n 0, 1, 0, (0, 0, 0, 0), 0, 0, []),
  (51, .iload_n 3, 1, 0, (3, 0, 0, 0), 0, 0, []),
  (52, .invokevirtual 181, 3, 0, (204, 2733, 2, 9), 0, 0, []),
  (55, .iconst 1, 1, 0, (0, 0, 0, 0), 1, 0, []),
  (56, .istore 4, 2, 0, (4, 0, 0, 0), 0, 0, []),
  (58, .iconst 0, 1, 0, (0, 0, 0, 0), 0, 0, []),
  (59, .istore 5, 2, 0, (5, 0, 0, 0), 0, 0, []),
  (61, .iconst 0, 1, 0, (0, 0, 0, 0), 0, 0, []),
  (62, .istore 6, 2, 0, (6, 0, 0, 0), 0, 0, []),
  (64, .iload 6, 2, 1, (6, 0, 0, 0), 0, 0, []),
  (66, .iconst 4, 1, 0, (0, 0, 0, 0), 4, 0, []),
  (67, .if_icmp .ge 78, 3, 0, (145, 0, 0, 0), 0, 0, []),
  (70, .iload 4, 2, 0, (4, 0, 0, 0), 0, 0, []),
  (72, .ifCond .eq 33, 3, 0, (105, 0, 0, 0), 0, 0, []),
  (75, .aload_n 0, 1, 0, (0, 0, 0, 0), 0, 0, []),
  (76, .getfield 40, 3, 0, (8, 2188, 11, 1), 0, 0, []),
  (79, .iload 6, 2, 0, (6, 0, 0, 0), 0, 0, []),
  (81, .iaload, 1, 0, (0, 0, 0, 0), 0, 0, []),
  (82, .iload 6, 2, 0, (6, 0, 0, 0), 0, 0, []),
  (84, .aload_n 0, 1, 0, (0, 0, 0, 0), 0, 0, []),
  (85, .getfield 7, 3, 0, (8, 2177, 0, 1), 0, 0, []),
  (88, .iconst 3, 1, 0, (0, 0, 0, 0), 3, 0, []),
  (89, .iaload, 1, 0, (0, 0, 0, 0), 0, 0, []),
  (90, .if_icmp .ge 7, 3, 0, (97, 0, 0, 0), 0, 0, []),
  (93, .iload_n 2, 1, 0, (2, 0, 0, 0), 0, 0, []),
  (94, .goto 4, 3, 0, (98, 0, 0, 0), 0, 0, []),
  (97, .iconst 0, 1, 0, (0, 0, 0, 0), 0, 0, []),
  (98, .if_icmp .gt 7, 3, 0, (105, 0, 0, 0), 0, 0, []),
  (101, .iconst 1, 1, 0, (0, 0, 0, 0), 1, 0, []),
  (102, .goto 4, 3, 0, (106, 0, 0, 0), 0, 0, []),
  (105, .iconst 0, 1, 0, (0, 0, 0, 0), 0, 0, []),
  (106, .istore 4, 2, 0, (4, 0, 0, 0), 0, 0, []),
  (108, .iload 5, 2, 0, (5, 0, 0, 0), 0, 0, []),
  (110, .iload 6, 2, 0, (6, 0, 0, 0), 0, 0, []),
  (112, .aload_n 0, 1, 0, (0, 0, 0, 0), 0, 0, []),
  (113, .getfield 7, 3, 0, (8, 2177, 0, 1), 0, 0, []),
  (116, .iconst 3, 1, 0, (0, 0, 0, 0), 3, 0, []),
  (117, .iaload, 1, 0, (0, 0, 0, 0), 0, 0, []),
  (118, .if_icmp .ge 17, 3, 0, (135, 0, 0, 0), 0, 0, []),
  (121, .aload_n 0, 1, 0, (0, 0, 0, 0), 0, 0, []),
  (122, .iload 6, 2, 0, (6, 0, 0, 0), 0, 0, []),
  (124, .iload_n 2, 1, 0, (2, 0, 0, 0), 0, 0, []),
  (125, .invokevirtual 174, 3, 0, (205, 2737, 3, 9), 0, 0, []),
  (128, .ifCond .eq 7, 3, 0, (135, 0, 0, 0), 0, 0, []),
  (131, .iconst 1, 1, 0, (0, 0, 0, 0), 1, 0, []),
  (132, .goto 4, 3, 0, (136, 0, 0, 0), 0, 0, []),
  (135, .iconst 0, 1, 0, (0, 0, 0, 0), 0, 0, []),
  (136, .iadd, 1, 0, (0, 0, 0, 0), 0, 0, []),
  (137, .istore 5, 2, 0, (5, 0, 0, 0), 0, 0, []),
  (139, .iinc 6 1, 3, 0, (6, 0, 0, 0), 1, 0, []),
  (142, .goto (-78), 3, 0, (64, 0, 0, 0), 0, 0, []),
  (145, .ldc 184, 2, 0, (0, 2741, 0, 0), (-100000), 0, []),
  (147, .istore 6, 2, 0, (6, 0, 0, 0), 0, 0, []),
  (149, .iconst 0, 1, 0, (0, 0, 0, 0), 0, 0, []),
  (150, .istore 7, 2, 0, (7, 0, 0, 0), 0, 0, []),
  (152, .iload 7, 2, 1, (7, 0, 0, 0), 0, 0, []),
  (154, .iload_n 1, 1, 0, (1, 0, 0, 0), 0, 0, []),
  (155, .if_icmp .ge 74, 3, 0, (229, 0, 0, 0), 0, 0, []),
  (158, .iload 4, 2, 0, (4, 0, 0, 0), 0, 0, []),
  (160, .ifCond .eq 69, 3, 0, (229, 0, 0, 0), 0, 0, []),
  (163, .aload_n 0, 1, 0, (0, 0, 0, 0), 0, 0, []),
  (164, .iload_n 3, 1, 0, (3, 0, 0, 0), 0, 0, []),
  (165, .iload_n 2, 1, 0, (2, 0, 0, 0), 0, 0, []),
  (166, .iload 7, 2, 0, (7, 0, 0, 0), 0, 0, []),
  (168, .invokevirtual 185, 3, 0, (206, 2742, 4, 9), 0, 0, []),
  (171, .istore 8, 2, 0, (8, 0, 0, 0), 0, 0, []),
  (173, .iload 8, 2, 0, (8, 0, 0, 0), 0, 0, []),
  (175, .iconst (-1), 1, 0, (0, 0, 0, 0), (-1), 0, []),
  (176, .if_icmp .ne 8, 3, 0, (184, 0, 0, 0), 0, 0, []),
  (179, .ldc 184, 2, 0, (0, 2741, 0, 0), (-100000), 0, []),
  (181, .goto 24, 3, 0, (205, 0, 0, 0), 0, 0, []),
  (184, .aload_n 0, 1, 0, (0, 0, 0, 0), 0, 0, []),
  (185, .getfield 37, 3, 0, (8, 2187, 10, 1), 0, 0, []),
  (188, .iload_n 2, 1, 0, (2, 0, 0, 0), 0, 0, []),
  (189, .iconst 1, 1, 0, (0, 0, 0, 0), 1, 0, []),
  (190, .iadd, 1, 0, (0, 0, 0, 0), 0, 0, []),
  (191, .sipush 14641, 3, 0, (0, 0, 0, 0), 14641, 0, []),
  (194, .imul, 1, 0, (0, 0, 0, 0), 0, 0, []),
  (195, .iload 8, 2, 0, (8, 0, 0, 0), 0, 0, []),
  (197, .iadd, 1, 0, (0, 0, 0, 0), 0, 0, []),
  (198, .iaload, 1, 0, (0, 0, 0, 0), 0, 0, []),
  (199, .iload 7, 2, 0, (7, 0, 0, 0), 0, 0, []),
  (201, .invokestatic 168, 3, 0, (207, 2746, 1, 0), 0, 0, []),
  (204, .isub, 1, 0, (0, 0, 0, 0), 0, 0, []),
  (205, .istore 9, 2, 0, (9, 0, 0, 0), 0, 0, []),
  (207, .iload 9, 2, 0, (9, 0, 0, 0), 0, 0, []),
  (209, .iload 6, 2, 0, (6, 0, 0, 0), 0, 0, []),
  (211, .if_icmp .le 8, 3, 0, (219, 0, 0, 0), 0, 0, []),
  (214, .iload 9, 2, 0, (9, 0, 0, 0), 0, 0, []),
  (216, .goto 5, 3, 0, (221, 0, 0, 0), 0, 0, []),
  (219, .iload 6, 2, 0, (6, 0, 0, 0), 0, 0, []),
  (221, .istore 6, 2, 0, (6, 0, 0, 0), 0, 0, []),
  (223, .iinc 7 1, 3, 0, (7, 0, 0, 0), 1, 0, []),
  (226, .goto (-74), 3, 0, (152, 0, 0, 0), 0, 0, []),
  (229, .aload_n 0, 1, 0, (0, 0, 0, 0), 0, 0, []),
  (230, .getfield 37, 3, 0, (8, 2187, 10, 1), 0, 0, []),
  (233, .iload_n 2, 1, 0, (2, 0, 0, 0), 0, 0, []),
  (234, .sipush 14641, 3, 0, (0, 0, 0, 0), 14641, 0, []),
  (237, .imul, 1, 0, (0, 0, 0, 0), 0, 0, []),
  (238, .iload_n 3, 1, 0, (3, 0, 0, 0), 0, 0, []),
  (239, .iadd, 1, 0, (0, 0, 0, 0), 0, 0, []),
  (240, .iload 6, 2, 0, (6, 0, 0, 0), 0, 0, []),
  (242, .bipush 64, 2, 0, (0, 0, 0, 0), 64, 0, []),
  (244, .iload 5, 2, 0, (5, 0, 0, 0), 0, 0, []),
  (246, .imul, 1, 0, (0, 0, 0, 0), 0, 0, []),
  (247, .iadd, 1, 0, (0, 0, 0, 0), 0, 0, []),
  (248, .iastore, 1, 0, (0, 0, 0, 0), 0, 0, []),
  (249, .iinc 3 1, 3, 0, (3, 0, 0, 0), 1, 0, []),
  (252, .goto (-209), 3, 0, (43, 0, 0, 0), 0, 0, []),
  (255, .iinc 2 (-1), 3, 0, (2, 0, 0, 0), (-1), 0, []),
  (258, .goto (-221), 3, 0, (37, 0, 0, 0), 0, 0, []),
  (261, .return_, 1, 0, (0, 0, 0, 0), 0, 0, [])]
def hk_m196 : hk_Q := (⟨"HullKeepersModel", "findBest", "()V"⟩, prog_10_method_67_code, 10, none, (1, 0, 0, 0, 0, 0), hk_c196)
def hk_c197 : List hk_E := [(0, .iload_n 1, 1, 0, (1, 0, 0, 0), 0, 0, []),
  (1, .istore_n 2, 1, 0, (2, 0, 0, 0), 0, 0, []),
  (2, .iconst 0, 1, 0, (0, 0, 0, 0), 0, 0, []),
  (3, .istore_n 3, 1, 0, (3, 0, 0, 0), 0, 0, []),
  (4, .iload_n 3, 1, 1, (3, 0, 0, 0), 0, 0, []),
  (5, .iconst 4, 1, 0, (0, 0, 0, 0), 4, 0, []),
  (6, .if_icmp .ge 24, 3, 0, (30, 0, 0, 0), 0, 0, []),
  (9, .aload_n 0, 1, 0, (0, 0, 0, 0), 0, 0, []),
  (10, .getfield 40, 3, 0, (8, 2188, 11, 1), 0, 0, []),
  (13, .iload_n 3, 1, 0, (3, 0, 0, 0), 0, 0, []),
  (14, .iload_n 2, 1, 0, (2, 0, 0, 0), 0, 0, []),
  (15, .bipush 11, 2, 0, (0, 0, 0, 0), 11, 0, []),
  (17, .irem, 1, 0, (0, 0, 0, 0), 0, 0, []),
  (18, .iastore, 1, 0, (0, 0, 0, 0), 0, 0, []),
  (19, .iload_n 2, 1, 0, (2, 0, 0, 0), 0, 0, []),
  (20, .bipush 11, 2, 0, (0, 0, 0, 0), 11, 0, []),
  (22, .idiv, 1, 0, (0, 0, 0, 0), 0, 0, []),
  (23, .istore_n 2, 1, 0, (2, 0, 0, 0), 0, 0, []),
  (24, .iinc 3 1, 3, 0, (3, 0, 0, 0), 1, 0, []),
  (27, .goto (-23), 3, 0, (4, 0, 0, 0), 0, 0, []),
  (30, .return_, 1, 0, (0, 0, 0, 0), 0, 0, [])]
def hk_m197 : hk_Q := (⟨"HullKeepersModel", "findDocked", "(I)V"⟩, prog_10_method_62_code, 4, none, (2, 0, 0, 0, 0, 0), hk_c197)
def hk_c198 : List hk_E := [(0, .aload_n 0, 1, 0, (0, 0, 0, 0), 0, 0, []),
  (1, .getfield 7, 3, 0, (8, 2177, 0, 1), 0, 0, []),
  (4, .sipush 1666, 3, 0, (0, 0, 0, 0), 1666, 0, []),
  (7, .iconst 3, 1, 0, (0, 0, 0, 0), 3, 0, []),
  (8, .iload_n 1, 1, 0, (1, 0, 0, 0), 0, 0, []),
  (9, .imul, 1, 0, (0, 0, 0, 0), 0, 0, []),
  (10, .iadd, 1, 0, (0, 0, 0, 0), 0, 0, []),
  (11, .iaload, 1, 0, (0, 0, 0, 0), 0, 0, []),
  (12, .aload_n 0, 1, 0, (0, 0, 0, 0), 0, 0, []),
  (13, .getfield 7, 3, 0, (8, 2177, 0, 1), 0, 0, []),
  (16, .sipush 1666, 3, 0, (0, 0, 0, 0), 1666, 0, []),
  (19, .iconst 3, 1, 0, (0, 0, 0, 0), 3, 0, []),
  (20, .iload_n 1, 1, 0, (1, 0, 0, 0), 0, 0, []),
  (21, .imul, 1, 0, (0, 0, 0, 0), 0, 0, []),
  (22, .iadd, 1, 0, (0, 0, 0, 0), 0, 0, []),
  (23, .iconst 1, 1, 0, (0, 0, 0, 0), 1, 0, []),
  (24, .iadd, 1, 0, (0, 0, 0, 0), 0, 0, []),
  (25, .iaload, 1, 0, (0, 0, 0, 0), 0, 0, []),
  (26, .aload_n 0, 1, 0, (0, 0, 0, 0), 0, 0, []),
  (27, .getfield 40, 3, 0, (8, 2188, 11, 1), 0, 0, []),
  (30, .iload_n 1, 1, 0, (1, 0, 0, 0), 0, 0, []),
  (31, .iaload, 1, 0, (0, 0, 0, 0), 0, 0, []),
  (32, .imul, 1, 0, (0, 0, 0, 0), 0, 0, []),
  (33, .iadd, 1, 0, (0, 0, 0, 0), 0, 0, []),
  (34, .iload_n 2, 1, 0, (2, 0, 0, 0), 0, 0, []),
  (35, .if_icmp .le 7, 3, 0, (42, 0, 0, 0), 0, 0, []),
  (38, .iconst 1, 1, 0, (0, 0, 0, 0), 1, 0, []),
  (39, .goto 4, 3, 0, (43, 0, 0, 0), 0, 0, []),
  (42, .iconst 0, 1, 0, (0, 0, 0, 0), 0, 0, []),
  (43, .ireturn, 1, 0, (0, 0, 0, 1), 0, 0, [])]
def hk_m198 : hk_Q := (⟨"HullKeepersModel", "floats", "(II)Z"⟩, prog_10_method_64_code, 3, (some .boolean), (3, 0, 0, 0, 0, 0), hk_c198)
def hk_c199 : List hk_E := [(0, .iload_n 3, 1, 0, (3, 0, 0, 0), 0, 0, []),
  (1, .invokestatic 168, 3, 0, (207, 2746, 1, 0), 0, 0, []),
  (4, .aload_n 0, 1, 0, (0, 0, 0, 0), 0, 0, []),
  (5, .getfield 7, 3, 0, (8, 2177, 0, 1), 0, 0, []),
  (8, .bipush 10, 2, 0, (0, 0, 0, 0), 10, 0, []),
  (10, .iaload, 1, 0, (0, 0, 0, 0), 0, 0, []),
  (11, .if_icmp .le 5, 3, 0, (16, 0, 0, 0), 0, 0, []),
  (14, .iconst (-1), 1, 0, (0, 0, 0, 0), (-1), 0, []),
  (15, .ireturn, 1, 0, (0, 0, 0, 0), 0, 0, []),
  (16, .aload_n 0, 1, 0, (0, 0, 0, 0), 0, 0, []),
  (17, .getfield 7, 3, 0, (8, 2177, 0, 1), 0, 0, []),
  (20, .bipush 11, 2, 0, (0, 0, 0, 0), 11, 0, []),
  (22, .iaload, 1, 0, (0, 0, 0, 0), 0, 0, []),
  (23, .iload_n 2, 1, 0, (2, 0, 0, 0), 0, 0, []),
  (24, .iconst 1, 1, 0, (0, 0, 0, 0), 1, 0, []),
  (25, .iadd, 1, 0, (0, 0, 0, 0), 0, 0, []),
  (26, .imul, 1, 0, (0, 0, 0, 0), 0, 0, []),
  (27, .istore 4, 2, 0, (4, 0, 0, 0), 0, 0, []),
  (29, .iload_n 1, 1, 0, (1, 0, 0, 0), 0, 0, []),
  (30, .istore 5, 2, 0, (5, 0, 0, 0), 0, 0, []),
  (32, .iconst 0, 1, 0, (0, 0, 0, 0), 0, 0, []),
  (33, .istore 6, 2, 0, (6, 0, 0, 0), 0, 0, []),
  (35, .iload 6, 2, 1, (6, 0, 0, 0), 0, 0, []),
  (37, .aload_n 0, 1, 0, (0, 0, 0, 0), 0, 0, []),
  (38, .getfield 7, 3, 0, (8, 2177, 0, 1), 0, 0, []),
  (41, .iconst 3, 1, 0, (0, 0, 0, 0), 3, 0, []),
  (42, .iaload, 1, 0, (0, 0, 0, 0), 0, 0, []),
  (43, .if_icmp .ge 72, 3, 0, (115, 0, 0, 0), 0, 0, []),
  (46, .iload 4, 2, 0, (4, 0, 0, 0), 0, 0, []),
  (48, .aload_n 0, 1, 0, (0, 0, 0, 0), 0, 0, []),
  (49, .getfield 40, 3, 0, (8, 2188, 11, 1), 0, 0, []),
  (52, .iload 6, 2, 0, (6, 0, 0, 0), 0, 0, []),
  (54, .iaload, 1, 0, (0, 0, 0, 0), 0, 0, []),
  (55, .aload_n 0, 1, 0, (0, 0, 0, 0), 0, 0, []),
  (56, .iload 6, 2, 0, (6, 0, 0, 0), 0, 0, []),
  (58, .invokevirtual 171, 3, 0, (208, 2749, 2, 9), 0, 0, []),
  (61, .imul, 1, 0, (0, 0, 0, 0), 0, 0, []),
  (62, .isub, 1, 0, (0, 0, 0, 0), 0, 0, []),
  (63, .istore 4, 2, 0, (4, 0, 0, 0), 0, 0, []),
  (65, .iload_n 3, 1, 0, (3, 0, 0, 0), 0, 0, []),
  (66, .iload 6, 2, 0, (6, 0, 0, 0), 0, 0, []),
  (68, .ishr, 1, 0, (0, 0, 0, 0), 0, 0, []),
  (69, .iconst 1, 1, 0, (0, 0, 0, 0), 1, 0, []),
  (70, .iand, 1, 0, (0, 0, 0, 0), 0, 0, []),
  (71, .iconst 1, 1, 0, (0, 0, 0, 0), 1, 0, []),
  (72, .if_icmp .ne 37, 3, 0, (109, 0, 0, 0), 0, 0, []),
  (75, .aload_n 0, 1, 0, (0, 0, 0, 0), 0, 0, []),
  (76, .iload 6, 2, 0, (6, 0, 0, 0), 0, 0, []),
  (78, .iload_n 2, 1, 0, (2, 0, 0, 0), 0, 0, []),
  (79, .invokevirtual 174, 3, 0, (205, 2737, 3, 9), 0, 0, []),
  (82, .ifCond .ne 5, 3, 0, (87, 0, 0, 0), 0, 0, []),
  (85, .iconst (-1), 1, 0, (0, 0, 0, 0), (-1), 0, []),
  (86, .ireturn, 1, 0, (0, 0, 0, 0), 0, 0, []),
  (87, .iload 4, 2, 0, (4, 0, 0, 0), 0, 0, []),
  (89, .aload_n 0, 1, 0, (0, 0, 0, 0), 0, 0, []),
  (90, .iload 6, 2, 0, (6, 0, 0, 0), 0, 0, []),
  (92, .invokevirtual 171, 3, 0, (208, 2749, 2, 9), 0, 0, []),
  (95, .isub, 1, 0, (0, 0, 0, 0), 0, 0, []),
  (96, .istore 4, 2, 0, (4, 0, 0, 0), 0, 0, []),
  (98, .iload 5, 2, 0, (5, 0, 0, 0), 0, 0, []),
  (100, .aload_n 0, 1, 0, (0, 0, 0, 0), 0, 0, []),
  (101, .iload 6, 2, 0, (6, 0, 0, 0), 0, 0, []),
  (103, .invokevirtual 177, 3, 0, (209, 2753, 2, 9), 0, 0, []),
  (106, .iadd, 1, 0, (0, 0, 0, 0), 0, 0, []),
  (107, .istore 5, 2, 0, (5, 0, 0, 0), 0, 0, []),
  (109, .iinc 6 1, 3, 0, (6, 0, 0, 0), 1, 0, []),
  (112, .goto (-77), 3, 0, (35, 0, 0, 0), 0, 0, []),
  (115, .iload 4, 2, 0, (4, 0, 0, 0), 0, 0, []),
  (117, .ifCond .ge 7, 3, 0, (124, 0, 0, 0), 0, 0, []),
  (120, .iconst (-1), 1, 0, (0, 0, 0, 0), (-1), 0, []),
  (121, .goto 5, 3, 0, (126, 0, 0, 0), 0, 0, []),
  (124, .iload 5, 2, 0, (5, 0, 0, 0), 0, 0, []),
  (126, .ireturn, 1, 0, (0, 0, 0, 0), 0, 0, [])]
def hk_m199 : hk_Q := (⟨"HullKeepersModel", "docksThen", "(III)I"⟩, prog_10_method_66_code, 7, (some .int), (4, 0, 0, 0, 0, 0), hk_c199)
def hk_c200 : List hk_E := [(0, .iconst 0, 1, 0, (0, 0, 0, 0), 0, 0, []),
  (1, .istore_n 1, 1, 0, (1, 0, 0, 0), 0, 0, []),
  (2, .iload_n 0, 1, 0, (0, 0, 0, 0), 0, 0, []),
  (3, .istore_n 2, 1, 0, (2, 0, 0, 0), 0, 0, []),
  (4, .iload_n 2, 1, 1, (2, 0, 0, 0), 0, 0, []),
  (5, .ifCond .le 16, 3, 0, (21, 0, 0, 0), 0, 0, []),
  (8, .iload_n 1, 1, 0, (1, 0, 0, 0), 0, 0, []),
  (9, .iload_n 2, 1, 0, (2, 0, 0, 0), 0, 0, []),
  (10, .iconst 1, 1, 0, (0, 0, 0, 0), 1, 0, []),
  (11, .iand, 1, 0, (0, 0, 0, 0), 0, 0, []),
  (12, .iadd, 1, 0, (0, 0, 0, 0), 0, 0, []),
  (13, .istore_n 1, 1, 0, (1, 0, 0, 0), 0, 0, []),
  (14, .iload_n 2, 1, 0, (2, 0, 0, 0), 0, 0, []),
  (15, .iconst 1, 1, 0, (0, 0, 0, 0), 1, 0, []),
  (16, .ishr, 1, 0, (0, 0, 0, 0), 0, 0, []),
  (17, .istore_n 2, 1, 0, (2, 0, 0, 0), 0, 0, []),
  (18, .goto (-14), 3, 0, (4, 0, 0, 0), 0, 0, []),
  (21, .iload_n 1, 1, 0, (1, 0, 0, 0), 0, 0, []),
  (22, .ireturn, 1, 0, (0, 0, 0, 0), 0, 0, [])]
def hk_m200 : hk_Q := (⟨"HullKeepersModel", "sizeOf", "(I)I"⟩, prog_10_method_7_code, 3, (some .int), (1, 2, 0, 0, 0, 0), hk_c200)
def hk_c201 : List hk_E := [(0, .aload_n 0, 1, 0, (0, 0, 0, 0), 0, 0, []),
  (1, .getfield 7, 3, 0, (8, 2177, 0, 1), 0, 0, []),
  (4, .sipush 1666, 3, 0, (0, 0, 0, 0), 1666, 0, []),
  (7, .iconst 3, 1, 0, (0, 0, 0, 0), 3, 0, []),
  (8, .iload_n 1, 1, 0, (1, 0, 0, 0), 0, 0, []),
  (9, .imul, 1, 0, (0, 0, 0, 0), 0, 0, []),
  (10, .iadd, 1, 0, (0, 0, 0, 0), 0, 0, []),
  (11, .iconst 2, 1, 0, (0, 0, 0, 0), 2, 0, []),
  (12, .iadd, 1, 0, (0, 0, 0, 0), 0, 0, []),
  (13, .iaload, 1, 0, (0, 0, 0, 0), 0, 0, []),
  (14, .ireturn, 1, 0, (0, 0, 0, 0), 0, 0, [])]
def hk_m201 : hk_Q := (⟨"HullKeepersModel", "coin", "(I)I"⟩, prog_10_method_65_code, 2, (some .int), (2, 0, 0, 0, 0, 0), hk_c201)
def hk_c202 : List hk_E := [(0, .iload_n 1, 1, 0, (1, 0, 0, 0), 0, 0, []),
  (1, .ifCond .ne 7, 3, 0, (8, 0, 0, 0), 0, 0, []),
  (4, .iconst 1, 1, 0, (0, 0, 0, 0), 1, 0, []),
  (5, .goto 26, 3, 0, (31, 0, 0, 0), 0, 0, []),
  (8, .iload_n 1, 1, 0, (1, 0, 0, 0), 0, 0, []),
  (9, .iconst 1, 1, 0, (0, 0, 0, 0), 1, 0, []),
  (10, .if_icmp .ne 8, 3, 0, (18, 0, 0, 0), 0, 0, []),
  (13, .bipush 11, 2, 0, (0, 0, 0, 0), 11, 0, []),
  (15, .goto 16, 3, 0, (31, 0, 0, 0), 0, 0, []),
  (18, .iload_n 1, 1, 0, (1, 0, 0, 0), 0, 0, []),
  (19, .iconst 2, 1, 0, (0, 0, 0, 0), 2, 0, []),
  (20, .if_icmp .ne 8, 3, 0, (28, 0, 0, 0), 0, 0, []),
  (23, .bipush 121, 2, 0, (0, 0, 0, 0), 121, 0, []),
  (25, .goto 6, 3, 0, (31, 0, 0, 0), 0, 0, []),
  (28, .sipush 1331, 3, 0, (0, 0, 0, 0), 1331, 0, []),
  (31, .ireturn, 1, 0, (0, 0, 0, 0), 0, 0, [])]
def hk_m202 : hk_Q := (⟨"HullKeepersModel", "power", "(I)I"⟩, prog_10_method_63_code, 2, (some .int), (2, 0, 0, 0, 0, 0), hk_c202)
def hk_c203 : List hk_E := [(0, .iconst 0, 1, 0, (0, 0, 0, 0), 0, 0, []),
  (1, .istore_n 2, 1, 0, (2, 0, 0, 0), 0, 0, []),
  (2, .iconst 0, 1, 0, (0, 0, 0, 0), 0, 0, []),
  (3, .istore_n 3, 1, 0, (3, 0, 0, 0), 0, 0, []),
  (4, .iconst 0, 1, 0, (0, 0, 0, 0), 0, 0, []),
  (5, .istore 4, 2, 0, (4, 0, 0, 0), 0, 0, []),
  (7, .iload 4, 2, 1, (4, 0, 0, 0), 0, 0, []),
  (9, .bipush 10, 2, 0, (0, 0, 0, 0), 10, 0, []),
  (11, .if_icmp .ge 159, 3, 0, (170, 0, 0, 0), 0, 0, []),
  (14, .aload_n 0, 1, 0, (0, 0, 0, 0), 0, 0, []),
  (15, .iload_n 2, 1, 0, (2, 0, 0, 0), 0, 0, []),
  (16, .invokevirtual 181, 3, 0, (204, 2733, 2, 9), 0, 0, []),
  (19, .iconst 0, 1, 0, (0, 0, 0, 0), 0, 0, []),
  (20, .istore 5, 2, 0, (5, 0, 0, 0), 0, 0, []),
  (22, .iconst 0, 1, 0, (0, 0, 0, 0), 0, 0, []),
  (23, .istore 6, 2, 0, (6, 0, 0, 0), 0, 0, []),
  (25, .iload 6, 2, 1, (6, 0, 0, 0), 0, 0, []),
  (27, .aload_n 0, 1, 0, (0, 0, 0, 0), 0, 0, []),
  (28, .getfield 7, 3, 0, (8, 2177, 0, 1), 0, 0, []),
  (31, .iconst 3, 1, 0, (0, 0, 0, 0), 3, 0, []),
  (32, .iaload, 1, 0, (0, 0, 0, 0), 0, 0, []),
  (33, .if_icmp .ge 30, 3, 0, (63, 0, 0, 0), 0, 0, []),
  (36, .iload 5, 2, 0, (5, 0, 0, 0), 0, 0, []),
  (38, .aload_n 0, 1, 0, (0, 0, 0, 0), 0, 0, []),
  (39, .iload 6, 2, 0, (6, 0, 0, 0), 0, 0, []),
  (41, .iload 4, 2, 0, (4, 0, 0, 0), 0, 0, []),
  (43, .invokevirtual 174, 3, 0, (205, 2737, 3, 9), 0, 0, []),
  (46, .ifCond .eq 7, 3, 0, (53, 0, 0, 0), 0, 0, []),
  (49, .iconst 1, 1, 0, (0, 0, 0, 0), 1, 0, []),
  (50, .goto 4, 3, 0, (54, 0, 0, 0), 0, 0, []),
  (53, .iconst 0, 1, 0, (0, 0, 0, 0), 0, 0, []),
  (54, .iadd, 1, 0, (0, 0, 0, 0), 0, 0, []),
  (55, .istore 5, 2, 0, (5, 0, 0, 0), 0, 0, []),
  (57, .iinc 6 1, 3, 0, (6, 0, 0, 0), 1, 0, []),
  (60, .goto (-35), 3, 0, (25, 0, 0, 0), 0, 0, []),
  (63, .iconst 0, 1, 0, (0, 0, 0, 0), 0, 0, []),
  (64, .istore 6, 2, 0, (6, 0, 0, 0), 0, 0, []),
  (66, .aload_n 0, 1, 0, (0, 0, 0, 0), 0, 0, []),
  (67, .iload_n 2, 1, 0, (2, 0, 0, 0), 0, 0, []),
  (68, .iload 4, 2, 0, (4, 0, 0, 0), 0, 0, []),
  (70, .iload 6, 2, 0, (6, 0, 0, 0), 0, 0, []),
  (72, .invokevirtual 185, 3, 0, (206, 2742, 4, 9), 0, 0, []),
  (75, .istore 7, 2, 0, (7, 0, 0, 0), 0, 0, []),
  (77, .iload 7, 2, 1, (7, 0, 0, 0), 0, 0, []),
  (79, .iconst (-1), 1, 0, (0, 0, 0, 0), (-1), 0, []),
  (80, .if_icmp .eq 47, 3, 0, (127, 0, 0, 0), 0, 0, []),
  (83, .aload_n 0, 1, 0, (0, 0, 0, 0), 0, 0, []),
  (84, .getfield 37, 3, 0, (8, 2187, 10, 1), 0, 0, []),
  (87, .iload 4, 2, 0, (4, 0, 0, 0), 0, 0, []),
  (89, .iconst 1, 1, 0, (0, 0, 0, 0), 1, 0, []),
  (90, .iadd, 1, 0, (0, 0, 0, 0), 0, 0, []),
  (91, .sipush 14641, 3, 0, (0, 0, 0, 0), 14641, 0, []),
  (94, .imul, 1, 0, (0, 0, 0, 0), 0, 0, []),
  (95, .iload 7, 2, 0, (7, 0, 0, 0), 0, 0, []),
  (97, .iadd, 1, 0, (0, 0, 0, 0), 0, 0, []),
  (98, .iaload, 1, 0, (0, 0, 0, 0), 0, 0, []),
  (99, .iload 6, 2, 0, (6, 0, 0, 0), 0, 0, []),
  (101, .invokestatic 168, 3, 0, (207, 2746, 1, 0), 0, 0, []),
  (104, .isub, 1, 0, (0, 0, 0, 0), 0, 0, []),
  (105, .bipush 64, 2, 0, (0, 0, 0, 0), 64, 0, []),
  (107, .iload 5, 2, 0, (5, 0, 0, 0), 0, 0, []),
  (109, .imul, 1, 0, (0, 0, 0, 0), 0, 0, []),
  (110, .iadd, 1, 0, (0, 0, 0, 0), 0, 0, []),
  (111, .aload_n 0, 1, 0, (0, 0, 0, 0), 0, 0, []),
  (112, .getfield 37, 3, 0, (8, 2187, 10, 1), 0, 0, []),
  (115, .iload 4, 2, 0, (4, 0, 0, 0), 0, 0, []),
  (117, .sipush 14641, 3, 0, (0, 0, 0, 0), 14641, 0, []),
  (120, .imul, 1, 0, (0, 0, 0, 0), 0, 0, []),
  (121, .iload_n 2, 1, 0, (2, 0, 0, 0), 0, 0, []),
  (122, .iadd, 1, 0, (0, 0, 0, 0), 0, 0, []),
  (123, .iaload, 1, 0, (0, 0, 0, 0), 0, 0, []),
  (124, .if_icmp .eq 20, 3, 0, (144, 0, 0, 0), 0, 0, []),
  (127, .iinc 6 1, 3, 0, (6, 0, 0, 0), 1, 0, []),
  (130, .aload_n 0, 1, 0, (0, 0, 0, 0), 0, 0, []),
  (131, .iload_n 2, 1, 0, (2, 0, 0, 0), 0, 0, []),
  (132, .iload 4, 2, 0, (4, 0, 0, 0), 0, 0, []),
  (134, .iload 6, 2, 0, (6, 0, 0, 0), 0, 0, []),
  (136, .invokevirtual 185, 3, 0, (206, 2742, 4, 9), 0, 0, []),
  (139, .istore 7, 2, 0, (7, 0, 0, 0), 0, 0, []),
  (141, .goto (-64), 3, 0, (77, 0, 0, 0), 0, 0, []),
  (144, .iload 4, 2, 0, (4, 0, 0, 0), 0, 0, []),
  (146, .iload_n 1, 1, 0, (1, 0, 0, 0), 0, 0, []),
  (147, .if_icmp .ne 6, 3, 0, (153, 0, 0, 0), 0, 0, []),
  (150, .iload 6, 2, 0, (6, 0, 0, 0), 0, 0, []),
  (152, .ireturn, 1, 0, (0, 0, 0, 0), 0, 0, []),
  (153, .iload_n 3, 1, 0, (3, 0, 0, 0), 0, 0, []),
  (154, .iload 6, 2, 0, (6, 0, 0, 0), 0, 0, []),
  (156, .invokestatic 168, 3, 0, (207, 2746, 1, 0), 0, 0, []),
  (159, .iadd, 1, 0, (0, 0, 0, 0), 0, 0, []),
  (160, .istore_n 3, 1, 0, (3, 0, 0, 0), 0, 0, []),
  (161, .iload 7, 2, 0, (7, 0, 0, 0), 0, 0, []),
  (163, .istore_n 2, 1, 0, (2, 0, 0, 0), 0, 0, []),
  (164, .iinc 4 1, 3, 0, (4, 0, 0, 0), 1, 0, []),
  (167, .goto (-160), 3, 0, (7, 0, 0, 0), 0, 0, []),
  (170, .aload_n 0, 1, 0, (0, 0, 0, 0), 0, 0, []),
  (171, .iload_n 2, 1, 0, (2, 0, 0, 0), 0, 0, []),
  (172, .invokevirtual 181, 3, 0, (204, 2733, 2, 9), 0, 0, []),
  (175, .iload_n 1, 1, 0, (1, 0, 0, 0), 0, 0, []),
  (176, .bipush 10, 2, 0, (0, 0, 0, 0), 10, 0, []),
  (178, .if_icmp .ne 10, 3, 0, (188, 0, 0, 0), 0, 0, []),
  (181, .aload_n 0, 1, 0, (0, 0, 0, 0), 0, 0, []),
  (182, .invokevirtual 188, 3, 0, (211, 2761, 1, 9), 0, 0, []),
  (185, .goto 4, 3, 0, (189, 0, 0, 0), 0, 0, []),
  (188, .iload_n 3, 1, 0, (3, 0, 0, 0), 0, 0, []),
  (189, .ireturn, 1, 0, (0, 0, 0, 0), 0, 0, [])]
def hk_m203 : hk_Q := (⟨"HullKeepersModel", "goesBy", "(I)I"⟩, prog_10_method_69_code, 8, (some .int), (2, 0, 0, 0, 0, 0), hk_c203)
def hk_c204 : List hk_E := [(0, .iconst 0, 1, 0, (0, 0, 0, 0), 0, 0, []),
  (1, .istore_n 1, 1, 0, (1, 0, 0, 0), 0, 0, []),
  (2, .iconst 0, 1, 0, (0, 0, 0, 0), 0, 0, []),
  (3, .istore_n 2, 1, 0, (2, 0, 0, 0), 0, 0, []),
  (4, .iload_n 2, 1, 1, (2, 0, 0, 0), 0, 0, []),
  (5, .aload_n 0, 1, 0, (0, 0, 0, 0), 0, 0, []),
  (6, .getfield 7, 3, 0, (8, 2177, 0, 1), 0, 0, []),
  (9, .iconst 3, 1, 0, (0, 0, 0, 0), 3, 0, []),
  (10, .iaload, 1, 0, (0, 0, 0, 0), 0, 0, []),
  (11, .if_icmp .ge 29, 3, 0, (40, 0, 0, 0), 0, 0, []),
  (14, .iload_n 1, 1, 0, (1, 0, 0, 0), 0, 0, []),
  (15, .aload_n 0, 1, 0, (0, 0, 0, 0), 0, 0, []),
  (16, .iload_n 2, 1, 0, (2, 0, 0, 0), 0, 0, []),
  (17, .bipush 9, 2, 0, (0, 0, 0, 0), 9, 0, []),
  (19, .invokevirtual 174, 3, 0, (205, 2737, 3, 9), 0, 0, []),
  (22, .ifCond .eq 7, 3, 0, (29, 0, 0, 0), 0, 0, []),
  (25, .iconst 0, 1, 0, (0, 0, 0, 0), 0, 0, []),
  (26, .goto 6, 3, 0, (32, 0, 0, 0), 0, 0, []),
  (29, .iconst 1, 1, 0, (0, 0, 0, 0), 1, 0, []),
  (30, .iload_n 2, 1, 0, (2, 0, 0, 0), 0, 0, []),
  (31, .ishl, 1, 0, (0, 0, 0, 0), 0, 0, []),
  (32, .ior, 1, 0, (0, 0, 0, 0), 0, 0, []),
  (33, .istore_n 1, 1, 0, (1, 0, 0, 0), 0, 0, []),
  (34, .iinc 2 1, 3, 0, (2, 0, 0, 0), 1, 0, []),
  (37, .goto (-33), 3, 0, (4, 0, 0, 0), 0, 0, []),
  (40, .iload_n 1, 1, 0, (1, 0, 0, 0), 0, 0, []),
  (41, .ireturn, 1, 0, (0, 0, 0, 0), 0, 0, [])]
def hk_m204 : hk_Q := (⟨"HullKeepersModel", "letGo", "()I"⟩, prog_10_method_68_code, 3, (some .int), (1, 0, 0, 0, 0, 0), hk_c204)
def hk_c205 : List hk_E := [(0, .aload_n 0, 1, 0, (0, 0, 0, 0), 0, 0, []),
  (1, .iconst 3, 1, 0, (0, 0, 0, 0), 3, 0, []),
  (2, .iconst 0, 1, 0, (0, 0, 0, 0), 0, 0, []),
  (3, .invokevirtual 64, 3, 0, (151, 2252, 3, 9), 0, 0, []),
  (6, .ireturn, 1, 0, (0, 0, 0, 0), 0, 0, [])]
def hk_m205 : hk_Q := (⟨"HullKeepersModel", "clear", "()I"⟩, prog_10_method_73_code, 1, (some .int), (1, 0, 0, 0, 0, 0), hk_c205)
def hk_c206 : List hk_E := [(0, .iload_n 1, 1, 0, (1, 0, 0, 0), 0, 0, []),
  (1, .iconst 0, 1, 0, (0, 0, 0, 0), 0, 0, []),
  (2, .sipush 4095, 3, 0, (0, 0, 0, 0), 4095, 0, []),
  (5, .invokestatic 44, 3, 0, (143, 2220, 3, 0), 0, 0, []),
  (8, .ifCond .ne 6, 3, 0, (14, 0, 0, 0), 0, 0, []),
  (11, .bipush (-2), 2, 0, (0, 0, 0, 0), (-2), 0, []),
  (13, .ireturn, 1, 0, (0, 0, 0, 0), 0, 0, []),
  (14, .aload_n 0, 1, 0, (0, 0, 0, 0), 0, 0, []),
  (15, .getfield 7, 3, 0, (8, 2177, 0, 1), 0, 0, []),
  (18, .iconst 4, 1, 0, (0, 0, 0, 0), 4, 0, []),
  (19, .iaload, 1, 0, (0, 0, 0, 0), 0, 0, []),
  (20, .bipush 20, 2, 0, (0, 0, 0, 0), 20, 0, []),
  (22, .if_icmp .ne 6, 3, 0, (28, 0, 0, 0), 0, 0, []),
  (25, .bipush (-4), 2, 0, (0, 0, 0, 0), (-4), 0, []),
  (27, .ireturn, 1, 0, (0, 0, 0, 0), 0, 0, []),
  (28, .aload_n 0, 1, 0, (0, 0, 0, 0), 0, 0, []),
  (29, .getfield 7, 3, 0, (8, 2177, 0, 1), 0, 0, []),
  (32, .sipush 1678, 3, 0, (0, 0, 0, 0), 1678, 0, []),
  (35, .iconst 2, 1, 0, (0, 0, 0, 0), 2, 0, []),
  (36, .aload_n 0, 1, 0, (0, 0, 0, 0), 0, 0, []),
  (37, .getfield 7, 3, 0, (8, 2177, 0, 1), 0, 0, []),
  (40, .iconst 4, 1, 0, (0, 0, 0, 0), 4, 0, []),
  (41, .iaload, 1, 0, (0, 0, 0, 0), 0, 0, []),
  (42, .imul, 1, 0, (0, 0, 0, 0), 0, 0, []),
  (43, .iadd, 1, 0, (0, 0, 0, 0), 0, 0, []),
  (44, .iload_n 1, 1, 0, (1, 0, 0, 0), 0, 0, []),
  (45, .iastore, 1, 0, (0, 0, 0, 0), 0, 0, []),
  (46, .aload_n 0, 1, 0, (0, 0, 0, 0), 0, 0, []),
  (47, .getfield 7, 3, 0, (8, 2177, 0, 1), 0, 0, []),
  (50, .sipush 1678, 3, 0, (0, 0, 0, 0), 1678, 0, []),
  (53, .iconst 2, 1, 0, (0, 0, 0, 0), 2, 0, []),
  (54, .aload_n 0, 1, 0, (0, 0, 0, 0), 0, 0, []),
  (55, .getfield 7, 3, 0, (8, 2177, 0, 1), 0, 0, []),
  (58, .iconst 4, 1, 0, (0, 0, 0, 0), 4, 0, []),
  (59, .iaload, 1, 0, (0, 0, 0, 0), 0, 0, []),
  (60, .imul, 1, 0, (0, 0, 0, 0), 0, 0, []),
  (61, .iadd, 1, 0, (0, 0, 0, 0), 0, 0, []),
  (62, .iconst 1, 1, 0, (0, 0, 0, 0), 1, 0, []),
  (63, .iadd, 1, 0, (0, 0, 0, 0), 0, 0, []),
  (64, .iload_n 2, 1, 0, (2, 0, 0, 0), 0, 0, []),
  (65, .ifCond .eq 7, 3, 0, (72, 0, 0, 0), 0, 0, []),
  (68, .iconst 1, 1, 0, (0, 0, 0, 0), 1, 0, []),
  (69, .goto 4, 3, 0, (73, 0, 0, 0), 0, 0, []),
  (72, .iconst 0, 1, 0, (0, 0, 0, 0), 0, 0, []),
  (73, .iastore, 1, 0, (0, 0, 0, 0), 0, 0, []),
  (74, .aload_n 0, 1, 0, (0, 0, 0, 0), 0, 0, []),
  (75, .iconst 4, 1, 0, (0, 0, 0, 0), 4, 0, []),
  (76, .invokevirtual 49, 3, 0, (144, 2224, 2, 9), 0, 0, []),
  (79, .ireturn, 1, 0, (0, 0, 0, 0), 0, 0, [])]
def hk_m206 : hk_Q := (⟨"HullKeepersModel", "test", "(IZ)I"⟩, prog_10_method_74_code, 3, (some .int), (3, 0, 0, 0, 0, 0), hk_c206)
def hk_c207 : List hk_E := [(0, .aload_n 0, 1, 0, (0, 0, 0, 0), 0, 0, []),
  (1, .iconst 4, 1, 0, (0, 0, 0, 0), 4, 0, []),
  (2, .iconst 0, 1, 0, (0, 0, 0, 0), 0, 0, []),
  (3, .invokevirtual 64, 3, 0, (151, 2252, 3, 9), 0, 0, []),
  (6, .ireturn, 1, 0, (0, 0, 0, 0), 0, 0, [])]
def hk_m207 : hk_Q := (⟨"HullKeepersModel", "drain", "()I"⟩, prog_10_method_75_code, 1, (some .int), (1, 0, 0, 0, 0, 0), hk_c207)
def hk_c208 : List hk_E := [(0, .iload_n 1, 1, 0, (1, 0, 0, 0), 0, 0, []),
  (1, .iconst 0, 1, 0, (0, 0, 0, 0), 0, 0, []),
  (2, .iconst 1, 1, 0, (0, 0, 0, 0), 1, 0, []),
  (3, .invokestatic 44, 3, 0, (143, 2220, 3, 0), 0, 0, []),
  (6, .ifCond .ne 6, 3, 0, (12, 0, 0, 0), 0, 0, []),
  (9, .bipush (-2), 2, 0, (0, 0, 0, 0), (-2), 0, []),
  (11, .ireturn, 1, 0, (0, 0, 0, 0), 0, 0, []),
  (12, .iconst (-1), 1, 0, (0, 0, 0, 0), (-1), 0, []),
  (13, .istore_n 2, 1, 0, (2, 0, 0, 0), 0, 0, []),
  (14, .iconst 0, 1, 0, (0, 0, 0, 0), 0, 0, []),
  (15, .istore_n 3, 1, 0, (3, 0, 0, 0), 0, 0, []),
  (16, .iconst 0, 1, 0, (0, 0, 0, 0), 0, 0, []),
  (17, .istore 4, 2, 0, (4, 0, 0, 0), 0, 0, []),
  (19, .iload 4, 2, 1, (4, 0, 0, 0), 0, 0, []),
  (21, .sipush 4096, 3, 0, (0, 0, 0, 0), 4096, 0, []),
  (24, .if_icmp .ge 73, 3, 0, (97, 0, 0, 0), 0, 0, []),
  (27, .aload_n 0, 1, 0, (0, 0, 0, 0), 0, 0, []),
  (28, .iload 4, 2, 0, (4, 0, 0, 0), 0, 0, []),
  (30, .invokevirtual 197, 3, 0, (216, 2781, 2, 9), 0, 0, []),
  (33, .ifCond .eq 58, 3, 0, (91, 0, 0, 0), 0, 0, []),
  (36, .iload_n 2, 1, 0, (2, 0, 0, 0), 0, 0, []),
  (37, .iconst (-1), 1, 0, (0, 0, 0, 0), (-1), 0, []),
  (38, .if_icmp .ne 7, 3, 0, (45, 0, 0, 0), 0, 0, []),
  (41, .iconst (-1), 1, 0, (0, 0, 0, 0), (-1), 0, []),
  (42, .goto 13, 3, 0, (55, 0, 0, 0), 0, 0, []),
  (45, .iload 4, 2, 0, (4, 0, 0, 0), 0, 0, []),
  (47, .invokestatic 168, 3, 0, (207, 2746, 1, 0), 0, 0, []),
  (50, .iload_n 2, 1, 0, (2, 0, 0, 0), 0, 0, []),
  (51, .invokestatic 168, 3, 0, (207, 2746, 1, 0), 0, 0, []),
  (54, .isub, 1, 0, (0, 0, 0, 0), 0, 0, []),
  (55, .istore 5, 2, 0, (5, 0, 0, 0), 0, 0, []),
  (57, .iload 5, 2, 0, (5, 0, 0, 0), 0, 0, []),
  (59, .ifCond .ge 7, 3, 0, (66, 0, 0, 0), 0, 0, []),
  (62, .iconst 0, 1, 0, (0, 0, 0, 0), 0, 0, []),
  (63, .goto 15, 3, 0, (78, 0, 0, 0), 0, 0, []),
  (66, .iload 5, 2, 0, (5, 0, 0, 0), 0, 0, []),
  (68, .ifCond .ne 9, 3, 0, (77, 0, 0, 0), 0, 0, []),
  (71, .iload_n 3, 1, 0, (3, 0, 0, 0), 0, 0, []),
  (72, .iconst 1, 1, 0, (0, 0, 0, 0), 1, 0, []),
  (73, .iadd, 1, 0, (0, 0, 0, 0), 0, 0, []),
  (74, .goto 4, 3, 0, (78, 0, 0, 0), 0, 0, []),
  (77, .iload_n 3, 1, 0, (3, 0, 0, 0), 0, 0, []),
  (78, .istore_n 3, 1, 0, (3, 0, 0, 0), 0, 0, []),
  (79, .iload 5, 2, 0, (5, 0, 0, 0), 0, 0, []),
  (81, .ifCond .ge 8, 3, 0, (89, 0, 0, 0), 0, 0, []),
  (84, .iload 4, 2, 0, (4, 0, 0, 0), 0, 0, []),
  (86, .goto 4, 3, 0, (90, 0, 0, 0), 0, 0, []),
  (89, .iload_n 2, 1, 0, (2, 0, 0, 0), 0, 0, []),
  (90, .istore_n 2, 1, 0, (2, 0, 0, 0), 0, 0, []),
  (91, .iinc 4 1, 3, 0, (4, 0, 0, 0), 1, 0, []),
  (94, .goto (-75), 3, 0, (19, 0, 0, 0), 0, 0, []),
  (97, .iload_n 1, 1, 0, (1, 0, 0, 0), 0, 0, []),
  (98, .ifCond .eq 8, 3, 0, (106, 0, 0, 0), 0, 0, []),
  (101, .iload_n 2, 1, 0, (2, 0, 0, 0), 0, 0, []),
  (102, .iconst (-1), 1, 0, (0, 0, 0, 0), (-1), 0, []),
  (103, .if_icmp .ne 7, 3, 0, (110, 0, 0, 0), 0, 0, []),
  (106, .iload_n 2, 1, 0, (2, 0, 0, 0), 0, 0, []),
  (107, .goto 4, 3, 0, (111, 0, 0, 0), 0, 0, []),
  (110, .iload_n 3, 1, 0, (3, 0, 0, 0), 0, 0, []),
  (111, .ireturn, 1, 0, (0, 0, 0, 0), 0, 0, [])]
def hk_m208 : hk_Q := (⟨"HullKeepersModel", "leaks", "(I)I"⟩, prog_10_method_77_code, 6, (some .int), (2, 0, 0, 0, 0, 0), hk_c208)
def hk_c209 : List hk_E := [(0, .iconst 0, 1, 0, (0, 0, 0, 0), 0, 0, []),
  (1, .istore_n 2, 1, 0, (2, 0, 0, 0), 0, 0, []),
  (2, .iload_n 2, 1, 1, (2, 0, 0, 0), 0, 0, []),
  (3, .aload_n 0, 1, 0, (0, 0, 0, 0), 0, 0, []),
  (4, .getfield 7, 3, 0, (8, 2177, 0, 1), 0, 0, []),
  (7, .iconst 4, 1, 0, (0, 0, 0, 0), 4, 0, []),
  (8, .iaload, 1, 0, (0, 0, 0, 0), 0, 0, []),
  (9, .if_icmp .ge 59, 3, 0, (68, 0, 0, 0), 0, 0, []),
  (12, .iload_n 1, 1, 0, (1, 0, 0, 0), 0, 0, []),
  (13, .aload_n 0, 1, 0, (0, 0, 0, 0), 0, 0, []),
  (14, .getfield 7, 3, 0, (8, 2177, 0, 1), 0, 0, []),
  (17, .sipush 1678, 3, 0, (0, 0, 0, 0), 1678, 0, []),
  (20, .iconst 2, 1, 0, (0, 0, 0, 0), 2, 0, []),
  (21, .iload_n 2, 1, 0, (2, 0, 0, 0), 0, 0, []),
  (22, .imul, 1, 0, (0, 0, 0, 0), 0, 0, []),
  (23, .iadd, 1, 0, (0, 0, 0, 0), 0, 0, []),
  (24, .iaload, 1, 0, (0, 0, 0, 0), 0, 0, []),
  (25, .iand, 1, 0, (0, 0, 0, 0), 0, 0, []),
  (26, .ifCond .eq 7, 3, 0, (33, 0, 0, 0), 0, 0, []),
  (29, .iconst 1, 1, 0, (0, 0, 0, 0), 1, 0, []),
  (30, .goto 4, 3, 0, (34, 0, 0, 0), 0, 0, []),
  (33, .iconst 0, 1, 0, (0, 0, 0, 0), 0, 0, []),
  (34, .aload_n 0, 1, 0, (0, 0, 0, 0), 0, 0, []),
  (35, .getfield 7, 3, 0, (8, 2177, 0, 1), 0, 0, []),
  (38, .sipush 1678, 3, 0, (0, 0, 0, 0), 1678, 0, []),
  (41, .iconst 2, 1, 0, (0, 0, 0, 0), 2, 0, []),
  (42, .iload_n 2, 1, 0, (2, 0, 0, 0), 0, 0, []),
  (43, .imul, 1, 0, (0, 0, 0, 0), 0, 0, []),
  (44, .iadd, 1, 0, (0, 0, 0, 0), 0, 0, []),
  (45, .iconst 1, 1, 0, (0, 0, 0, 0), 1, 0, []),
  (46, .iadd, 1, 0, (0, 0, 0, 0), 0, 0, []),
  (47, .iaload, 1, 0, (0, 0, 0, 0), 0, 0, []),
  (48, .iconst 1, 1, 0, (0, 0, 0, 0), 1, 0, []),
  (49, .if_icmp .ne 7, 3, 0, (56, 0, 0, 0), 0, 0, []),
  (52, .iconst 1, 1, 0, (0, 0, 0, 0), 1, 0, []),
  (53, .goto 4, 3, 0, (57, 0, 0, 0), 0, 0, []),
  (56, .iconst 0, 1, 0, (0, 0, 0, 0), 0, 0, []),
  (57, .if_icmp .eq 5, 3, 0, (62, 0, 0, 0), 0, 0, []),
  (60, .iconst 0, 1, 0, (0, 0, 0, 0), 0, 0, []),
  (61, .ireturn, 1, 0, (0, 0, 0, 1), 0, 0, []),
  (62, .iinc 2 1, 3, 0, (2, 0, 0, 0), 1, 0, []),
  (65, .goto (-63), 3, 0, (2, 0, 0, 0), 0, 0, []),
  (68, .iconst 1, 1, 0, (0, 0, 0, 0), 1, 0, []),
  (69, .ireturn, 1, 0, (0, 0, 0, 1), 0, 0, [])]
def hk_m209 : hk_Q := (⟨"HullKeepersModel", "tellsTests", "(I)Z"⟩, prog_10_method_76_code, 3, (some .boolean), (2, 0, 0, 0, 0, 0), hk_c209)
def hk_c210 : List hk_E := [(0, .iload_n 1, 1, 0, (1, 0, 0, 0), 0, 0, []),
  (1, .iconst 0, 1, 0, (0, 0, 0, 0), 0, 0, []),
  (2, .bipush 89, 2, 0, (0, 0, 0, 0), 89, 0, []),
  (4, .invokestatic 44, 3, 0, (143, 2220, 3, 0), 0, 0, []),
  (7, .ifCond .eq 26, 3, 0, (33, 0, 0, 0), 0, 0, []),
  (10, .iload_n 2, 1, 0, (2, 0, 0, 0), 0, 0, []),
  (11, .iconst 0, 1, 0, (0, 0, 0, 0), 0, 0, []),
  (12, .bipush 100, 2, 0, (0, 0, 0, 0), 100, 0, []),
  (14, .invokestatic 44, 3, 0, (143, 2220, 3, 0), 0, 0, []),
  (17, .ifCond .eq 16, 3, 0, (33, 0, 0, 0), 0, 0, []),
  (20, .aload_n 0, 1, 0, (0, 0, 0, 0), 0, 0, []),
  (21, .sipush 1718, 3, 0, (0, 0, 0, 0), 1718, 0, []),
  (24, .iload_n 1, 1, 0, (1, 0, 0, 0), 0, 0, []),
  (25, .iadd, 1, 0, (0, 0, 0, 0), 0, 0, []),
  (26, .iload_n 2, 1, 0, (2, 0, 0, 0), 0, 0, []),
  (27, .invokevirtual 64, 3, 0, (151, 2252, 3, 9), 0, 0, []),
  (30, .goto 5, 3, 0, (35, 0, 0, 0), 0, 0, []),
  (33, .bipush (-2), 2, 0, (0, 0, 0, 0), (-2), 0, []),
  (35, .ireturn, 1, 0, (0, 0, 0, 0), 0, 0, [])]
def hk_m210 : hk_Q := (⟨"HullKeepersModel", "wave", "(II)I"⟩, prog_10_method_78_code, 3, (some .int), (3, 0, 0, 0, 0, 0), hk_c210)
def hk_c211 : List hk_E := [(0, .iload_n 1, 1, 0, (1, 0, 0, 0), 0, 0, []),
  (1, .iconst 1, 1, 0, (0, 0, 0, 0), 1, 0, []),
  (2, .bipush 30, 2, 0, (0, 0, 0, 0), 30, 0, []),
  (4, .invokestatic 44, 3, 0, (143, 2220, 3, 0), 0, 0, []),
  (7, .ifCond .eq 23, 3, 0, (30, 0, 0, 0), 0, 0, []),
  (10, .iload_n 2, 1, 0, (2, 0, 0, 0), 0, 0, []),
  (11, .iconst 0, 1, 0, (0, 0, 0, 0), 0, 0, []),
  (12, .bipush 100, 2, 0, (0, 0, 0, 0), 100, 0, []),
  (14, .invokestatic 44, 3, 0, (143, 2220, 3, 0), 0, 0, []),
  (17, .ifCond .eq 13, 3, 0, (30, 0, 0, 0), 0, 0, []),
  (20, .iload_n 3, 1, 0, (3, 0, 0, 0), 0, 0, []),
  (21, .iconst 0, 1, 0, (0, 0, 0, 0), 0, 0, []),
  (22, .bipush 89, 2, 0, (0, 0, 0, 0), 89, 0, []),
  (24, .invokestatic 44, 3, 0, (143, 2220, 3, 0), 0, 0, []),
  (27, .ifCond .ne 6, 3, 0, (33, 0, 0, 0), 0, 0, []),
  (30, .bipush (-2), 2, 0, (0, 0, 0, 0), (-2), 0, []),
  (32, .ireturn, 1, 0, (0, 0, 0, 0), 0, 0, []),
  (33, .iconst 0, 1, 0, (0, 0, 0, 0), 0, 0, []),
  (34, .istore 4, 2, 0, (4, 0, 0, 0), 0, 0, []),
  (36, .iload_n 3, 1, 0, (3, 0, 0, 0), 0, 0, []),
  (37, .istore 5, 2, 0, (5, 0, 0, 0), 0, 0, []),
  (39, .iload 5, 2, 1, (5, 0, 0, 0), 0, 0, []),
  (41, .bipush 90, 2, 0, (0, 0, 0, 0), 90, 0, []),
  (43, .if_icmp .ge 47, 3, 0, (90, 0, 0, 0), 0, 0, []),
  (46, .aload_n 0, 1, 0, (0, 0, 0, 0), 0, 0, []),
  (47, .getfield 7, 3, 0, (8, 2177, 0, 1), 0, 0, []),
  (50, .sipush 1718, 3, 0, (0, 0, 0, 0), 1718, 0, []),
  (53, .iload 5, 2, 0, (5, 0, 0, 0), 0, 0, []),
  (55, .iadd, 1, 0, (0, 0, 0, 0), 0, 0, []),
  (56, .iaload, 1, 0, (0, 0, 0, 0), 0, 0, []),
  (57, .iload_n 2, 1, 0, (2, 0, 0, 0), 0, 0, []),
  (58, .if_icmp .le 7, 3, 0, (65, 0, 0, 0), 0, 0, []),
  (61, .iconst 0, 1, 0, (0, 0, 0, 0), 0, 0, []),
  (62, .goto 7, 3, 0, (69, 0, 0, 0), 0, 0, []),
  (65, .iload 4, 2, 0, (4, 0, 0, 0), 0, 0, []),
  (67, .iconst 1, 1, 0, (0, 0, 0, 0), 1, 0, []),
  (68, .iadd, 1, 0, (0, 0, 0, 0), 0, 0, []),
  (69, .istore 4, 2, 0, (4, 0, 0, 0), 0, 0, []),
  (71, .iload 4, 2, 0, (4, 0, 0, 0), 0, 0, []),
  (73, .iload_n 1, 1, 0, (1, 0, 0, 0), 0, 0, []),
  (74, .if_icmp .ne 10, 3, 0, (84, 0, 0, 0), 0, 0, []),
  (77, .iload 5, 2, 0, (5, 0, 0, 0), 0, 0, []),
  (79, .iload_n 1, 1, 0, (1, 0, 0, 0), 0, 0, []),
  (80, .isub, 1, 0, (0, 0, 0, 0), 0, 0, []),
  (81, .iconst 1, 1, 0, (0, 0, 0, 0), 1, 0, []),
  (82, .iadd, 1, 0, (0, 0, 0, 0), 0, 0, []),
  (83, .ireturn, 1, 0, (0, 0, 0, 0), 0, 0, []),
  (84, .iinc 5 1, 3, 0, (5, 0, 0, 0), 1, 0, []),
  (87, .goto (-48), 3, 0, (39, 0, 0, 0), 0, 0, []),
  (90, .iconst (-1), 1, 0, (0, 0, 0, 0), (-1), 0, []),
  (91, .ireturn, 1, 0, (0, 0, 0, 0), 0, 0, [])]
def hk_m211 : hk_Q := (⟨"HullKeepersModel", "tow", "(III)I"⟩, prog_10_method_79_code, 6, (some .int), (4, 0, 0, 0, 0, 0), hk_c211)
def hk_c212 : List hk_E := [(0, .iload_n 1, 1, 0, (1, 0, 0, 0), 0, 0, []),
  (1, .iconst 0, 1, 0, (0, 0, 0, 0), 0, 0, []),
  (2, .bipush 31, 2, 0, (0, 0, 0, 0), 31, 0, []),
  (4, .invokestatic 44, 3, 0, (143, 2220, 3, 0), 0, 0, []),
  (7, .ifCond .eq 13, 3, 0, (20, 0, 0, 0), 0, 0, []),
  (10, .iload_n 2, 1, 0, (2, 0, 0, 0), 0, 0, []),
  (11, .iconst 1, 1, 0, (0, 0, 0, 0), 1, 0, []),
  (12, .bipush 60, 2, 0, (0, 0, 0, 0), 60, 0, []),
  (14, .invokestatic 44, 3, 0, (143, 2220, 3, 0), 0, 0, []),
  (17, .ifCond .ne 6, 3, 0, (23, 0, 0, 0), 0, 0, []),
  (20, .bipush (-2), 2, 0, (0, 0, 0, 0), (-2), 0, []),
  (22, .ireturn, 1, 0, (0, 0, 0, 0), 0, 0, []),
  (23, .aload_n 0, 1, 0, (0, 0, 0, 0), 0, 0, []),
  (24, .getfield 7, 3, 0, (8, 2177, 0, 1), 0, 0, []),
  (27, .iconst 5, 1, 0, (0, 0, 0, 0), 5, 0, []),
  (28, .iaload, 1, 0, (0, 0, 0, 0), 0, 0, []),
  (29, .bipush 8, 2, 0, (0, 0, 0, 0), 8, 0, []),
  (31, .if_icmp .ne 6, 3, 0, (37, 0, 0, 0), 0, 0, []),
  (34, .bipush (-4), 2, 0, (0, 0, 0, 0), (-4), 0, []),
  (36, .ireturn, 1, 0, (0, 0, 0, 0), 0, 0, []),
  (37, .aload_n 0, 1, 0, (0, 0, 0, 0), 0, 0, []),
  (38, .getfield 7, 3, 0, (8, 2177, 0, 1), 0, 0, []),
  (41, .sipush 1808, 3, 0, (0, 0, 0, 0), 1808, 0, []),
  (44, .iconst 2, 1, 0, (0, 0, 0, 0), 2, 0, []),
  (45, .aload_n 0, 1, 0, (0, 0, 0, 0), 0, 0, []),
  (46, .getfield 7, 3, 0, (8, 2177, 0, 1), 0, 0, []),
  (49, .iconst 5, 1, 0, (0, 0, 0, 0), 5, 0, []),
  (50, .iaload, 1, 0, (0, 0, 0, 0), 0, 0, []),
  (51, .imul, 1, 0, (0, 0, 0, 0), 0, 0, []),
  (52, .iadd, 1, 0, (0, 0, 0, 0), 0, 0, []),
  (53, .iload_n 1, 1, 0, (1, 0, 0, 0), 0, 0, []),
  (54, .iastore, 1, 0, (0, 0, 0, 0), 0, 0, []),
  (55, .aload_n 0, 1, 0, (0, 0, 0, 0), 0, 0, []),
  (56, .getfield 7, 3, 0, (8, 2177, 0, 1), 0, 0, []),
  (59, .sipush 1808, 3, 0, (0, 0, 0, 0), 1808, 0, []),
  (62, .iconst 2, 1, 0, (0, 0, 0, 0), 2, 0, []),
  (63, .aload_n 0, 1, 0, (0, 0, 0, 0), 0, 0, []),
  (64, .getfield 7, 3, 0, (8, 2177, 0, 1), 0, 0, []),
  (67, .iconst 5, 1, 0, (0, 0, 0, 0), 5, 0, []),
  (68, .iaload, 1, 0, (0, 0, 0, 0), 0, 0, []),
  (69, .imul, 1, 0, (0, 0, 0, 0), 0, 0, []),
  (70, .iadd, 1, 0, (0, 0, 0, 0), 0, 0, []),
  (71, .iconst 1, 1, 0, (0, 0, 0, 0), 1, 0, []),
  (72, .iadd, 1, 0, (0, 0, 0, 0), 0, 0, []),
  (73, .iload_n 2, 1, 0, (2, 0, 0, 0), 0, 0, []),
  (74, .iastore, 1, 0, (0, 0, 0, 0), 0, 0, []),
  (75, .aload_n 0, 1, 0, (0, 0, 0, 0), 0, 0, []),
  (76, .iconst 5, 1, 0, (0, 0, 0, 0), 5, 0, []),
  (77, .invokevirtual 49, 3, 0, (144, 2224, 2, 9), 0, 0, []),
  (80, .ireturn, 1, 0, (0, 0, 0, 0), 0, 0, [])]
def hk_m212 : hk_Q := (⟨"HullKeepersModel", "hand", "(II)I"⟩, prog_10_method_80_code, 3, (some .int), (3, 0, 0, 0, 0, 0), hk_c212)
def hk_c213 : List hk_E := [(0, .iload_n 1, 1, 0, (1, 0, 0, 0), 0, 0, []),
  (1, .iconst 0, 1, 0, (0, 0, 0, 0), 0, 0, []),
  (2, .iconst 4, 1, 0, (0, 0, 0, 0), 4, 0, []),
  (3, .invokestatic 44, 3, 0, (143, 2220, 3, 0), 0, 0, []),
  (6, .ifCond .eq 23, 3, 0, (29, 0, 0, 0), 0, 0, []),
  (9, .iload_n 2, 1, 0, (2, 0, 0, 0), 0, 0, []),
  (10, .iconst 1, 1, 0, (0, 0, 0, 0), 1, 0, []),
  (11, .bipush 100, 2, 0, (0, 0, 0, 0), 100, 0, []),
  (13, .invokestatic 44, 3, 0, (143, 2220, 3, 0), 0, 0, []),
  (16, .ifCond .eq 13, 3, 0, (29, 0, 0, 0), 0, 0, []),
  (19, .iload_n 3, 1, 0, (3, 0, 0, 0), 0, 0, []),
  (20, .iconst 1, 1, 0, (0, 0, 0, 0), 1, 0, []),
  (21, .bipush 100, 2, 0, (0, 0, 0, 0), 100, 0, []),
  (23, .invokestatic 44, 3, 0, (143, 2220, 3, 0), 0, 0, []),
  (26, .ifCond .ne 6, 3, 0, (32, 0, 0, 0), 0, 0, []),
  (29, .bipush (-2), 2, 0, (0, 0, 0, 0), (-2), 0, []),
  (31, .ireturn, 1, 0, (0, 0, 0, 0), 0, 0, []),
  (32, .aload_n 0, 1, 0, (0, 0, 0, 0), 0, 0, []),
  (33, .getfield 7, 3, 0, (8, 2177, 0, 1), 0, 0, []),
  (36, .bipush 6, 2, 0, (0, 0, 0, 0), 6, 0, []),
  (38, .iaload, 1, 0, (0, 0, 0, 0), 0, 0, []),
  (39, .bipush 8, 2, 0, (0, 0, 0, 0), 8, 0, []),
  (41, .if_icmp .ne 6, 3, 0, (47, 0, 0, 0), 0, 0, []),
  (44, .bipush (-4), 2, 0, (0, 0, 0, 0), (-4), 0, []),
  (46, .ireturn, 1, 0, (0, 0, 0, 0), 0, 0, []),
  (47, .sipush 1824, 3, 0, (0, 0, 0, 0), 1824, 0, []),
  (50, .iconst 3, 1, 0, (0, 0, 0, 0), 3, 0, []),
  (51, .aload_n 0, 1, 0, (0, 0, 0, 0), 0, 0, []),
  (52, .getfield 7, 3, 0, (8, 2177, 0, 1), 0, 0, []),
  (55, .bipush 6, 2, 0, (0, 0, 0, 0), 6, 0, []),
  (57, .iaload, 1, 0, (0, 0, 0, 0), 0, 0, []),
  (58, .imul, 1, 0, (0, 0, 0, 0), 0, 0, []),
  (59, .iadd, 1, 0, (0, 0, 0, 0), 0, 0, []),
  (60, .istore 4, 2, 0, (4, 0, 0, 0), 0, 0, []),
  (62, .aload_n 0, 1, 0, (0, 0, 0, 0), 0, 0, []),
  (63, .getfield 7, 3, 0, (8, 2177, 0, 1), 0, 0, []),
  (66, .iload 4, 2, 0, (4, 0, 0, 0), 0, 0, []),
  (68, .iload_n 1, 1, 0, (1, 0, 0, 0), 0, 0, []),
  (69, .iastore, 1, 0, (0, 0, 0, 0), 0, 0, []),
  (70, .aload_n 0, 1, 0, (0, 0, 0, 0), 0, 0, []),
  (71, .getfield 7, 3, 0, (8, 2177, 0, 1), 0, 0, []),
  (74, .iload 4, 2, 0, (4, 0, 0, 0), 0, 0, []),
  (76, .iconst 1, 1, 0, (0, 0, 0, 0), 1, 0, []),
  (77, .iadd, 1, 0, (0, 0, 0, 0), 0, 0, []),
  (78, .iload_n 2, 1, 0, (2, 0, 0, 0), 0, 0, []),
  (79, .iastore, 1, 0, (0, 0, 0, 0), 0, 0, []),
  (80, .aload_n 0, 1, 0, (0, 0, 0, 0), 0, 0, []),
  (81, .getfield 7, 3, 0, (8, 2177, 0, 1), 0, 0, []),
  (84, .iload 4, 2, 0, (4, 0, 0, 0), 0, 0, []),
  (86, .iconst 2, 1, 0, (0, 0, 0, 0), 2, 0, []),
  (87, .iadd, 1, 0, (0, 0, 0, 0), 0, 0, []),
  (88, .iload_n 3, 1, 0, (3, 0, 0, 0), 0, 0, []),
  (89, .iastore, 1, 0, (0, 0, 0, 0), 0, 0, []),
  (90, .aload_n 0, 1, 0, (0, 0, 0, 0), 0, 0, []),
  (91, .bipush 6, 2, 0, (0, 0, 0, 0), 6, 0, []),
  (93, .invokevirtual 49, 3, 0, (144, 2224, 2, 9), 0, 0, []),
  (96, .ireturn, 1, 0, (0, 0, 0, 0), 0, 0, [])]
def hk_m213 : hk_Q := (⟨"HullKeepersModel", "work", "(III)I"⟩, prog_10_method_81_code, 5, (some .int), (4, 0, 0, 0, 0, 0), hk_c213)
def hk_c214 : List hk_E := [(0, .iload_n 1, 1, 0, (1, 0, 0, 0), 0, 0, []),
  (1, .iconst 0, 1, 0, (0, 0, 0, 0), 0, 0, []),
  (2, .iconst 1, 1, 0, (0, 0, 0, 0), 1, 0, []),
  (3, .invokestatic 44, 3, 0, (143, 2220, 3, 0), 0, 0, []),
  (6, .ifCond .ne 6, 3, 0, (12, 0, 0, 0), 0, 0, []),
  (9, .bipush (-2), 2, 0, (0, 0, 0, 0), (-2), 0, []),
  (11, .ireturn, 1, 0, (0, 0, 0, 0), 0, 0, []),
  (12, .iconst 0, 1, 0, (0, 0, 0, 0), 0, 0, []),
  (13, .istore_n 2, 1, 0, (2, 0, 0, 0), 0, 0, []),
  (14, .iconst 0, 1, 0, (0, 0, 0, 0), 0, 0, []),
  (15, .istore_n 3, 1, 0, (3, 0, 0, 0), 0, 0, []),
  (16, .iconst 1, 1, 0, (0, 0, 0, 0), 1, 0, []),
  (17, .istore 4, 2, 0, (4, 0, 0, 0), 0, 0, []),
  (19, .iload 4, 2, 1, (4, 0, 0, 0), 0, 0, []),
  (21, .iconst 1, 1, 0, (0, 0, 0, 0), 1, 0, []),
  (22, .aload_n 0, 1, 0, (0, 0, 0, 0), 0, 0, []),
  (23, .getfield 7, 3, 0, (8, 2177, 0, 1), 0, 0, []),
  (26, .bipush 6, 2, 0, (0, 0, 0, 0), 6, 0, []),
  (28, .iaload, 1, 0, (0, 0, 0, 0), 0, 0, []),
  (29, .ishl, 1, 0, (0, 0, 0, 0), 0, 0, []),
  (30, .if_icmp .ge 89, 3, 0, (119, 0, 0, 0), 0, 0, []),
  (33, .iconst 0, 1, 0, (0, 0, 0, 0), 0, 0, []),
  (34, .istore 5, 2, 0, (5, 0, 0, 0), 0, 0, []),
  (36, .iconst 0, 1, 0, (0, 0, 0, 0), 0, 0, []),
  (37, .istore 6, 2, 0, (6, 0, 0, 0), 0, 0, []),
  (39, .iload 6, 2, 1, (6, 0, 0, 0), 0, 0, []),
  (41, .aload_n 0, 1, 0, (0, 0, 0, 0), 0, 0, []),
  (42, .getfield 7, 3, 0, (8, 2177, 0, 1), 0, 0, []),
  (45, .bipush 6, 2, 0, (0, 0, 0, 0), 6, 0, []),
  (47, .iaload, 1, 0, (0, 0, 0, 0), 0, 0, []),
  (48, .if_icmp .ge 44, 3, 0, (92, 0, 0, 0), 0, 0, []),
  (51, .iload 5, 2, 0, (5, 0, 0, 0), 0, 0, []),
  (53, .iload 4, 2, 0, (4, 0, 0, 0), 0, 0, []),
  (55, .iload 6, 2, 0, (6, 0, 0, 0), 0, 0, []),
  (57, .ishr, 1, 0, (0, 0, 0, 0), 0, 0, []),
  (58, .iconst 1, 1, 0, (0, 0, 0, 0), 1, 0, []),
  (59, .iand, 1, 0, (0, 0, 0, 0), 0, 0, []),
  (60, .iconst 1, 1, 0, (0, 0, 0, 0), 1, 0, []),
  (61, .if_icmp .ne 21, 3, 0, (82, 0, 0, 0), 0, 0, []),
  (64, .aload_n 0, 1, 0, (0, 0, 0, 0), 0, 0, []),
  (65, .getfield 7, 3, 0, (8, 2177, 0, 1), 0, 0, []),
  (68, .sipush 1824, 3, 0, (0, 0, 0, 0), 1824, 0, []),
  (71, .iconst 3, 1, 0, (0, 0, 0, 0), 3, 0, []),
  (72, .iload 6, 2, 0, (6, 0, 0, 0), 0, 0, []),
  (74, .imul, 1, 0, (0, 0, 0, 0), 0, 0, []),
  (75, .iadd, 1, 0, (0, 0, 0, 0), 0, 0, []),
  (76, .iconst 2, 1, 0, (0, 0, 0, 0), 2, 0, []),
  (77, .iadd, 1, 0, (0, 0, 0, 0), 0, 0, []),
  (78, .iaload, 1, 0, (0, 0, 0, 0), 0, 0, []),
  (79, .goto 4, 3, 0, (83, 0, 0, 0), 0, 0, []),
  (82, .iconst 0, 1, 0, (0, 0, 0, 0), 0, 0, []),
  (83, .iadd, 1, 0, (0, 0, 0, 0), 0, 0, []),
  (84, .istore 5, 2, 0, (5, 0, 0, 0), 0, 0, []),
  (86, .iinc 6 1, 3, 0, (6, 0, 0, 0), 1, 0, []),
  (89, .goto (-50), 3, 0, (39, 0, 0, 0), 0, 0, []),
  (92, .iload 5, 2, 0, (5, 0, 0, 0), 0, 0, []),
  (94, .iload_n 3, 1, 0, (3, 0, 0, 0), 0, 0, []),
  (95, .if_icmp .le 18, 3, 0, (113, 0, 0, 0), 0, 0, []),
  (98, .aload_n 0, 1, 0, (0, 0, 0, 0), 0, 0, []),
  (99, .iload 4, 2, 0, (4, 0, 0, 0), 0, 0, []),
  (101, .invokevirtual 200, 3, 0, (222, 3077, 2, 9), 0, 0, []),
  (104, .ifCond .eq 9, 3, 0, (113, 0, 0, 0), 0, 0, []),
  (107, .iload 4, 2, 0, (4, 0, 0, 0), 0, 0, []),
  (109, .istore_n 2, 1, 0, (2, 0, 0, 0), 0, 0, []),
  (110, .iload 5, 2, 0, (5, 0, 0, 0), 0, 0, []),
  (112, .istore_n 3, 1, 0, (3, 0, 0, 0), 0, 0, []),
  (113, .iinc 4 1, 3, 0, (4, 0, 0, 0), 1, 0, []),
  (116, .goto (-97), 3, 0, (19, 0, 0, 0), 0, 0, []),
  (119, .iload_n 1, 1, 0, (1, 0, 0, 0), 0, 0, []),
  (120, .ifCond .ne 7, 3, 0, (127, 0, 0, 0), 0, 0, []),
  (123, .iload_n 2, 1, 0, (2, 0, 0, 0), 0, 0, []),
  (124, .goto 4, 3, 0, (128, 0, 0, 0), 0, 0, []),
  (127, .iload_n 3, 1, 0, (3, 0, 0, 0), 0, 0, []),
  (128, .ireturn, 1, 0, (0, 0, 0, 0), 0, 0, [])]
def hk_m214 : hk_Q := (⟨"HullKeepersModel", "done", "(I)I"⟩, prog_10_method_83_code, 7, (some .int), (2, 0, 0, 0, 0, 0), hk_c214)
def hk_c215 : List hk_E := [(0, .iconst 1, 1, 0, (0, 0, 0, 0), 1, 0, []),
  (1, .istore_n 2, 1, 0, (2, 0, 0, 0), 0, 0, []),
  (2, .iload_n 2, 1, 1, (2, 0, 0, 0), 0, 0, []),
  (3, .bipush 32, 2, 0, (0, 0, 0, 0), 32, 0, []),
  (5, .if_icmp .ge 163, 3, 0, (168, 0, 0, 0), 0, 0, []),
  (8, .iconst 0, 1, 0, (0, 0, 0, 0), 0, 0, []),
  (9, .istore_n 3, 1, 0, (3, 0, 0, 0), 0, 0, []),
  (10, .iconst 0, 1, 0, (0, 0, 0, 0), 0, 0, []),
  (11, .istore 4, 2, 0, (4, 0, 0, 0), 0, 0, []),
  (13, .iload 4, 2, 1, (4, 0, 0, 0), 0, 0, []),
  (15, .aload_n 0, 1, 0, (0, 0, 0, 0), 0, 0, []),
  (16, .getfield 7, 3, 0, (8, 2177, 0, 1), 0, 0, []),
  (19, .iconst 5, 1, 0, (0, 0, 0, 0), 5, 0, []),
  (20, .iaload, 1, 0, (0, 0, 0, 0), 0, 0, []),
  (21, .if_icmp .ge 49, 3, 0, (70, 0, 0, 0), 0, 0, []),
  (24, .iload_n 3, 1, 0, (3, 0, 0, 0), 0, 0, []),
  (25, .aload_n 0, 1, 0, (0, 0, 0, 0), 0, 0, []),
  (26, .getfield 7, 3, 0, (8, 2177, 0, 1), 0, 0, []),
  (29, .sipush 1808, 3, 0, (0, 0, 0, 0), 1808, 0, []),
  (32, .iconst 2, 1, 0, (0, 0, 0, 0), 2, 0, []),
  (33, .iload 4, 2, 0, (4, 0, 0, 0), 0, 0, []),
  (35, .imul, 1, 0, (0, 0, 0, 0), 0, 0, []),
  (36, .iadd, 1, 0, (0, 0, 0, 0), 0, 0, []),
  (37, .iaload, 1, 0, (0, 0, 0, 0), 0, 0, []),
  (38, .iload_n 2, 1, 0, (2, 0, 0, 0), 0, 0, []),
  (39, .iand, 1, 0, (0, 0, 0, 0), 0, 0, []),
  (40, .ifCond .eq 21, 3, 0, (61, 0, 0, 0), 0, 0, []),
  (43, .aload_n 0, 1, 0, (0, 0, 0, 0), 0, 0, []),
  (44, .getfield 7, 3, 0, (8, 2177, 0, 1), 0, 0, []),
  (47, .sipush 1808, 3, 0, (0, 0, 0, 0), 1808, 0, []),
  (50, .iconst 2, 1, 0, (0, 0, 0, 0), 2, 0, []),
  (51, .iload 4, 2, 0, (4, 0, 0, 0), 0, 0, []),
  (53, .imul, 1, 0, (0, 0, 0, 0), 0, 0, []),
  (54, .iadd, 1, 0, (0, 0, 0, 0), 0, 0, []),
  (55, .iconst 1, 1, 0, (0, 0, 0, 0), 1, 0, []),
  (56, .iadd, 1, 0, (0, 0, 0, 0), 0, 0, []),
  (57, .iaload, 1, 0, (0, 0, 0, 0), 0, 0, []),
  (58, .goto 4, 3, 0, (62, 0, 0, 0), 0, 0, []),
  (61, .iconst 0, 1, 0, (0, 0, 0, 0), 0, 0, []),
  (62, .iadd, 1, 0, (0, 0, 0, 0), 0, 0, []),
  (63, .istore_n 3, 1, 0, (3, 0, 0, 0), 0, 0, []),
  (64, .iinc 4 1, 3, 0, (4, 0, 0, 0), 1, 0, []),
  (67, .goto (-54), 3, 0, (13, 0, 0, 0), 0, 0, []),
  (70, .iconst 0, 1, 0, (0, 0, 0, 0), 0, 0, []),
  (71, .istore 4, 2, 0, (4, 0, 0, 0), 0, 0, []),
  (73, .iload 4, 2, 1, (4, 0, 0, 0), 0, 0, []),
  (75, .aload_n 0, 1, 0, (0, 0, 0, 0), 0, 0, []),
  (76, .getfield 7, 3, 0, (8, 2177, 0, 1), 0, 0, []),
  (79, .bipush 6, 2, 0, (0, 0, 0, 0), 6, 0, []),
  (81, .iaload, 1, 0, (0, 0, 0, 0), 0, 0, []),
  (82, .if_icmp .ge 74, 3, 0, (156, 0, 0, 0), 0, 0, []),
  (85, .iload_n 1, 1, 0, (1, 0, 0, 0), 0, 0, []),
  (86, .iload 4, 2, 0, (4, 0, 0, 0), 0, 0, []),
  (88, .ishr, 1, 0, (0, 0, 0, 0), 0, 0, []),
  (89, .iconst 1, 1, 0, (0, 0, 0, 0), 1, 0, []),
  (90, .iand, 1, 0, (0, 0, 0, 0), 0, 0, []),
  (91, .iconst 1, 1, 0, (0, 0, 0, 0), 1, 0, []),
  (92, .if_icmp .ne 28, 3, 0, (120, 0, 0, 0), 0, 0, []),
  (95, .iload_n 2, 1, 0, (2, 0, 0, 0), 0, 0, []),
  (96, .aload_n 0, 1, 0, (0, 0, 0, 0), 0, 0, []),
  (97, .getfield 7, 3, 0, (8, 2177, 0, 1), 0, 0, []),
  (100, .sipush 1824, 3, 0, (0, 0, 0, 0), 1824, 0, []),
  (103, .iconst 3, 1, 0, (0, 0, 0, 0), 3, 0, []),
  (104, .iload 4, 2, 0, (4, 0, 0, 0), 0, 0, []),
  (106, .imul, 1, 0, (0, 0, 0, 0), 0, 0, []),
  (107, .iadd, 1, 0, (0, 0, 0, 0), 0, 0, []),
  (108, .iaload, 1, 0, (0, 0, 0, 0), 0, 0, []),
  (109, .ishr, 1, 0, (0, 0, 0, 0), 0, 0, []),
  (110, .iconst 1, 1, 0, (0, 0, 0, 0), 1, 0, []),
  (111, .iand, 1, 0, (0, 0, 0, 0), 0, 0, []),
  (112, .iconst 1, 1, 0, (0, 0, 0, 0), 1, 0, []),
  (113, .if_icmp .ne 7, 3, 0, (120, 0, 0, 0), 0, 0, []),
  (116, .iconst 1, 1, 0, (0, 0, 0, 0), 1, 0, []),
  (117, .goto 4, 3, 0, (121, 0, 0, 0), 0, 0, []),
  (120, .iconst 0, 1, 0, (0, 0, 0, 0), 0, 0, []),
  (121, .istore 5, 2, 0, (5, 0, 0, 0), 0, 0, []),
  (123, .iload_n 3, 1, 0, (3, 0, 0, 0), 0, 0, []),
  (124, .iload 5, 2, 0, (5, 0, 0, 0), 0, 0, []),
  (126, .ifCond .eq 21, 3, 0, (147, 0, 0, 0), 0, 0, []),
  (129, .aload_n 0, 1, 0, (0, 0, 0, 0), 0, 0, []),
  (130, .getfield 7, 3, 0, (8, 2177, 0, 1), 0, 0, []),
  (133, .sipush 1824, 3, 0, (0, 0, 0, 0), 1824, 0, []),
  (136, .iconst 3, 1, 0, (0, 0, 0, 0), 3, 0, []),
  (137, .iload 4, 2, 0, (4, 0, 0, 0), 0, 0, []),
  (139, .imul, 1, 0, (0, 0, 0, 0), 0, 0, []),
  (140, .iadd, 1, 0, (0, 0, 0, 0), 0, 0, []),
  (141, .iconst 1, 1, 0, (0, 0, 0, 0), 1, 0, []),
  (142, .iadd, 1, 0, (0, 0, 0, 0), 0, 0, []),
  (143, .iaload, 1, 0, (0, 0, 0, 0), 0, 0, []),
  (144, .goto 4, 3, 0, (148, 0, 0, 0), 0, 0, []),
  (147, .iconst 0, 1, 0, (0, 0, 0, 0), 0, 0, []),
  (148, .isub, 1, 0, (0, 0, 0, 0), 0, 0, []),
  (149, .istore_n 3, 1, 0, (3, 0, 0, 0), 0, 0, []),
  (150, .iinc 4 1, 3, 0, (4, 0, 0, 0), 1, 0, []),
  (153, .goto (-80), 3, 0, (73, 0, 0, 0), 0, 0, []),
  (156, .iload_n 3, 1, 0, (3, 0, 0, 0), 0, 0, []),
  (157, .ifCond .ge 5, 3, 0, (162, 0, 0, 0), 0, 0, []),
  (160, .iconst 0, 1, 0, (0, 0, 0, 0), 0, 0, []),
  (161, .ireturn, 1, 0, (0, 0, 0, 1), 0, 0, []),
  (162, .iinc 2 1, 3, 0, (2, 0, 0, 0), 1, 0, []),
  (165, .goto (-163), 3, 0, (2, 0, 0, 0), 0, 0, []),
  (168, .iconst 1, 1, 0, (0, 0, 0, 0), 1, 0, []),
  (169, .ireturn, 1, 0, (0, 0, 0, 1), 0, 0, [])]
def hk_m215 : hk_Q := (⟨"HullKeepersModel", "canDo", "(I)Z"⟩, prog_10_method_82_code, 6, (some .boolean), (2, 0, 0, 0, 0, 0), hk_c215)
def hk_c216 : List hk_E := [(0, .iload_n 1, 1, 0, (1, 0, 0, 0), 0, 0, []),
  (1, .iconst 1, 1, 0, (0, 0, 0, 0), 1, 0, []),
  (2, .ldc 67, 2, 0, (0, 2272, 0, 0), 100000, 0, []),
  (4, .invokestatic 44, 3, 0, (143, 2220, 3, 0), 0, 0, []),
  (7, .ifCond .eq 20, 3, 0, (27, 0, 0, 0), 0, 0, []),
  (10, .aload_n 0, 1, 0, (0, 0, 0, 0), 0, 0, []),
  (11, .iload_n 2, 1, 0, (2, 0, 0, 0), 0, 0, []),
  (12, .invokevirtual 77, 3, 0, (157, 2277, 2, 9), 0, 0, []),
  (15, .ifCond .eq 12, 3, 0, (27, 0, 0, 0), 0, 0, []),
  (18, .iload_n 3, 1, 0, (3, 0, 0, 0), 0, 0, []),
  (19, .iconst 0, 1, 0, (0, 0, 0, 0), 0, 0, []),
  (20, .iconst 1, 1, 0, (0, 0, 0, 0), 1, 0, []),
  (21, .invokestatic 44, 3, 0, (143, 2220, 3, 0), 0, 0, []),
  (24, .ifCond .ne 6, 3, 0, (30, 0, 0, 0), 0, 0, []),
  (27, .bipush (-2), 2, 0, (0, 0, 0, 0), (-2), 0, []),
  (29, .ireturn, 1, 0, (0, 0, 0, 0), 0, 0, []),
  (30, .iconst 0, 1, 0, (0, 0, 0, 0), 0, 0, []),
  (31, .istore 4, 2, 0, (4, 0, 0, 0), 0, 0, []),
  (33, .iload 4, 2, 1, (4, 0, 0, 0), 0, 0, []),
  (35, .sipush 2448, 3, 0, (0, 0, 0, 0), 2448, 0, []),
  (38, .if_icmp .ge 23, 3, 0, (61, 0, 0, 0), 0, 0, []),
  (41, .aload_n 0, 1, 0, (0, 0, 0, 0), 0, 0, []),
  (42, .getfield 13, 3, 0, (8, 2178, 1, 1), 0, 0, []),
  (45, .iload 4, 2, 0, (4, 0, 0, 0), 0, 0, []),
  (47, .aload_n 0, 1, 0, (0, 0, 0, 0), 0, 0, []),
  (48, .getfield 7, 3, 0, (8, 2177, 0, 1), 0, 0, []),
  (51, .iload 4, 2, 0, (4, 0, 0, 0), 0, 0, []),
  (53, .iaload, 1, 0, (0, 0, 0, 0), 0, 0, []),
  (54, .iastore, 1, 0, (0, 0, 0, 0), 0, 0, []),
  (55, .iinc 4 1, 3, 0, (4, 0, 0, 0), 1, 0, []),
  (58, .goto (-25), 3, 0, (33, 0, 0, 0), 0, 0, []),
  (61, .aload_n 0, 1, 0, (0, 0, 0, 0), 0, 0, []),
  (62, .getfield 7, 3, 0, (8, 2177, 0, 1), 0, 0, []),
  (65, .bipush 7, 2, 0, (0, 0, 0, 0), 7, 0, []),
  (67, .iaload, 1, 0, (0, 0, 0, 0), 0, 0, []),
  (68, .istore 4, 2, 0, (4, 0, 0, 0), 0, 0, []),
  (70, .iconst (-1), 1, 0, (0, 0, 0, 0), (-1), 0, []),
  (71, .istore 5, 2, 0, (5, 0, 0, 0), 0, 0, []),
  (73, .iconst 0, 1, 0, (0, 0, 0, 0), 0, 0, []),
  (74, .istore 6, 2, 0, (6, 0, 0, 0), 0, 0, []),
  (76, .iload 4, 2, 0, (4, 0, 0, 0), 0, 0, []),
  (78, .istore 7, 2, 0, (7, 0, 0, 0), 0, 0, []),
  (80, .iload 7, 2, 1, (7, 0, 0, 0), 0, 0, []),
  (82, .iload 4, 2, 0, (4, 0, 0, 0), 0, 0, []),
  (84, .iload_n 2, 1, 0, (2, 0, 0, 0), 0, 0, []),
  (85, .iadd, 1, 0, (0, 0, 0, 0), 0, 0, []),
  (86, .if_icmp .ge 103, 3, 0, (189, 0, 0, 0), 0, 0, []),
  (89, .aload_n 0, 1, 0, (0, 0, 0, 0), 0, 0, []),
  (90, .getfield 7, 3, 0, (8, 2177, 0, 1), 0, 0, []),
  (93, .sipush 1848, 3, 0, (0, 0, 0, 0), 1848, 0, []),
  (96, .iload 7, 2, 0, (7, 0, 0, 0), 0, 0, []),
  (98, .iadd, 1, 0, (0, 0, 0, 0), 0, 0, []),
  (99, .dup2, 1, 0, (0, 0, 0, 0), 0, 0, []),
  (100, .iaload, 1, 0, (0, 0, 0, 0), 0, 0, []),
  (101, .iload_n 1, 1, 0, (1, 0, 0, 0), 0, 0, []),
  (102, .iadd, 1, 0, (0, 0, 0, 0), 0, 0, []),
  (103, .iastore, 1, 0, (0, 0, 0, 0), 0, 0, []),
  (104, .iconst 0, 1, 0, (0, 0, 0, 0), 0, 0, []),
  (105, .istore 8, 2, 0, (8, 0, 0, 0), 0, 0, []),
  (107, .iconst 0, 1, 0, (0, 0, 0, 0), 0, 0, []),
  (108, .istore 9, 2, 0, (9, 0, 0, 0), 0, 0, []),
  (110, .iload 9, 2, 1, (9, 0, 0, 0), 0, 0, []),
  (112, .iload_n 2, 1, 0, (2, 0, 0, 0), 0, 0, []),
  (113, .if_icmp .ge 18, 3, 0, (131, 0, 0, 0), 0, 0, []),
  (116, .iload 8, 2, 0, (8, 0, 0, 0), 0, 0, []),
  (118, .aload_n 0, 1, 0, (0, 0, 0, 0), 0, 0, []),
  (119, .invokevirtual 81, 3, 0, (158, 2281, 1, 9), 0, 0, []),
  (122, .iadd, 1, 0, (0, 0, 0, 0), 0, 0, []),
  (123, .istore 8, 2, 0, (8, 0, 0, 0), 0, 0, []),
  (125, .iinc 9 1, 3, 0, (9, 0, 0, 0), 1, 0, []),
  (128, .goto (-18), 3, 0, (110, 0, 0, 0), 0, 0, []),
  (131, .iload 5, 2, 0, (5, 0, 0, 0), 0, 0, []),
  (133, .iconst (-1), 1, 0, (0, 0, 0, 0), (-1), 0, []),
  (134, .if_icmp .eq 10, 3, 0, (144, 0, 0, 0), 0, 0, []),
  (137, .iload 8, 2, 0, (8, 0, 0, 0), 0, 0, []),
  (139, .iload 6, 2, 0, (6, 0, 0, 0), 0, 0, []),
  (141, .if_icmp .le 11, 3, 0, (152, 0, 0, 0), 0, 0, []),
  (144, .iload 7, 2, 0, (7, 0, 0, 0), 0, 0, []),
  (146, .istore 5, 2, 0, (5, 0, 0, 0), 0, 0, []),
  (148, .iload 8, 2, 0, (8, 0, 0, 0), 0, 0, []),
  (150, .istore 6, 2, 0, (6, 0, 0, 0), 0, 0, []),
  (152, .iconst 0, 1, 0, (0, 0, 0, 0), 0, 0, []),
  (153, .istore 9, 2, 0, (9, 0, 0, 0), 0, 0, []),
  (155, .iload 9, 2, 1, (9, 0, 0, 0), 0, 0, []),
  (157, .sipush 2448, 3, 0, (0, 0, 0, 0), 2448, 0, []),
  (160, .if_icmp .ge 23, 3, 0, (183, 0, 0, 0), 0, 0, []),
  (163, .aload_n 0, 1, 0, (0, 0, 0, 0), 0, 0, []),
  (164, .getfield 7, 3, 0, (8, 2177, 0, 1), 0, 0, []),
  (167, .iload 9, 2, 0, (9, 0, 0, 0), 0, 0, []),
  (169, .aload_n 0, 1, 0, (0, 0, 0, 0), 0, 0, []),
  (170, .getfield 13, 3, 0, (8, 2178, 1, 1), 0, 0, []),
  (173, .iload 9, 2, 0, (9, 0, 0, 0), 0, 0, []),
  (175, .iaload, 1, 0, (0, 0, 0, 0), 0, 0, []),
  (176, .iastore, 1, 0, (0, 0, 0, 0), 0, 0, []),
  (177, .iinc 9 1, 3, 0, (9, 0, 0, 0), 1, 0, []),
  (180, .goto (-25), 3, 0, (155, 0, 0, 0), 0, 0, []),
  (183, .iinc 7 1, 3, 0, (7, 0, 0, 0), 1, 0, []),
  (186, .goto (-106), 3, 0, (80, 0, 0, 0), 0, 0, []),
  (189, .iload_n 3, 1, 0, (3, 0, 0, 0), 0, 0, []),
  (190, .ifCond .ne 8, 3, 0, (198, 0, 0, 0), 0, 0, []),
  (193, .iload 5, 2, 0, (5, 0, 0, 0), 0, 0, []),
  (195, .goto 5, 3, 0, (200, 0, 0, 0), 0, 0, []),
  (198, .iload 6, 2, 0, (6, 0, 0, 0), 0, 0, []),
  (200, .ireturn, 1, 0, (0, 0, 0, 0), 0, 0, [])]
def hk_m216 : hk_Q := (⟨"HullKeepersModel", "worst", "(III)I"⟩, prog_10_method_84_code, 10, (some .int), (4, 0, 0, 0, 0, 0), hk_c216)
def hk_c217 : List hk_E := [(0, .iload_n 1, 1, 0, (1, 0, 0, 0), 0, 0, []),
  (1, .iconst 0, 1, 0, (0, 0, 0, 0), 0, 0, []),
  (2, .iconst 1, 1, 0, (0, 0, 0, 0), 1, 0, []),
  (3, .invokestatic 44, 3, 0, (143, 2220, 3, 0), 0, 0, []),
  (6, .ifCond .ne 6, 3, 0, (12, 0, 0, 0), 0, 0, []),
  (9, .bipush (-2), 2, 0, (0, 0, 0, 0), (-2), 0, []),
  (11, .ireturn, 1, 0, (0, 0, 0, 0), 0, 0, []),
  (12, .aload_n 0, 1, 0, (0, 0, 0, 0), 0, 0, []),
  (13, .getfield 19, 3, 0, (8, 2180, 3, 1), 0, 0, []),
  (16, .iload_n 1, 1, 0, (1, 0, 0, 0), 0, 0, []),
  (17, .iconst 1, 1, 0, (0, 0, 0, 0), 1, 0, []),
  (18, .bastore, 1, 0, (0, 0, 0, 0), 0, 0, []),
  (19, .iconst 0, 1, 0, (0, 0, 0, 0), 0, 0, []),
  (20, .istore_n 2, 1, 0, (2, 0, 0, 0), 0, 0, []),
  (21, .iload_n 2, 1, 1, (2, 0, 0, 0), 0, 0, []),
  (22, .sipush 2448, 3, 0, (0, 0, 0, 0), 2448, 0, []),
  (25, .if_icmp .ge 27, 3, 0, (52, 0, 0, 0), 0, 0, []),
  (28, .aload_n 0, 1, 0, (0, 0, 0, 0), 0, 0, []),
  (29, .getfield 16, 3, 0, (8, 2179, 2, 1), 0, 0, []),
  (32, .sipush 2448, 3, 0, (0, 0, 0, 0), 2448, 0, []),
  (35, .iload_n 1, 1, 0, (1, 0, 0, 0), 0, 0, []),
  (36, .imul, 1, 0, (0, 0, 0, 0), 0, 0, []),
  (37, .iload_n 2, 1, 0, (2, 0, 0, 0), 0, 0, []),
  (38, .iadd, 1, 0, (0, 0, 0, 0), 0, 0, []),
  (39, .aload_n 0, 1, 0, (0, 0, 0, 0), 0, 0, []),
  (40, .getfield 7, 3, 0, (8, 2177, 0, 1), 0, 0, []),
  (43, .iload_n 2, 1, 0, (2, 0, 0, 0), 0, 0, []),
  (44, .iaload, 1, 0, (0, 0, 0, 0), 0, 0, []),
  (45, .iastore, 1, 0, (0, 0, 0, 0), 0, 0, []),
  (46, .iinc 2 1, 3, 0, (2, 0, 0, 0), 1, 0, []),
  (49, .goto (-28), 3, 0, (21, 0, 0, 0), 0, 0, []),
  (52, .iconst 1, 1, 0, (0, 0, 0, 0), 1, 0, []),
  (53, .ireturn, 1, 0, (0, 0, 0, 0), 0, 0, [])]
def hk_m217 : hk_Q := (⟨"HullKeepersModel", "image", "(I)I"⟩, prog_10_method_85_code, 3, (some .int), (2, 0, 0, 0, 0, 0), hk_c217)
def hk_c218 : List hk_E := [(0, .iload_n 1, 1, 0, (1, 0, 0, 0), 0, 0, []),
  (1, .iconst 0, 1, 0, (0, 0, 0, 0), 0, 0, []),
  (2, .iconst 1, 1, 0, (0, 0, 0, 0), 1, 0, []),
  (3, .invokestatic 44, 3, 0, (143, 2220, 3, 0), 0, 0, []),
  (6, .ifCond .ne 6, 3, 0, (12, 0, 0, 0), 0, 0, []),
  (9, .bipush (-2), 2, 0, (0, 0, 0, 0), (-2), 0, []),
  (11, .ireturn, 1, 0, (0, 0, 0, 0), 0, 0, []),
  (12, .aload_n 0, 1, 0, (0, 0, 0, 0), 0, 0, []),
  (13, .getfield 19, 3, 0, (8, 2180, 3, 1), 0, 0, []),
  (16, .iload_n 1, 1, 0, (1, 0, 0, 0), 0, 0, []),
  (17, .baload, 1, 0, (0, 0, 0, 0), 0, 0, []),
  (18, .ifCond .ne 6, 3, 0, (24, 0, 0, 0), 0, 0, []),
  (21, .bipush (-3), 2, 0, (0, 0, 0, 0), (-3), 0, []),
  (23, .ireturn, 1, 0, (0, 0, 0, 0), 0, 0, []),
  (24, .iconst 0, 1, 0, (0, 0, 0, 0), 0, 0, []),
  (25, .istore_n 2, 1, 0, (2, 0, 0, 0), 0, 0, []),
  (26, .iload_n 2, 1, 1, (2, 0, 0, 0), 0, 0, []),
  (27, .sipush 2448, 3, 0, (0, 0, 0, 0), 2448, 0, []),
  (30, .if_icmp .ge 27, 3, 0, (57, 0, 0, 0), 0, 0, []),
  (33, .aload_n 0, 1, 0, (0, 0, 0, 0), 0, 0, []),
  (34, .getfield 7, 3, 0, (8, 2177, 0, 1), 0, 0, []),
  (37, .iload_n 2, 1, 0, (2, 0, 0, 0), 0, 0, []),
  (38, .aload_n 0, 1, 0, (0, 0, 0, 0), 0, 0, []),
  (39, .getfield 16, 3, 0, (8, 2179, 2, 1), 0, 0, []),
  (42, .sipush 2448, 3, 0, (0, 0, 0, 0), 2448, 0, []),
  (45, .iload_n 1, 1, 0, (1, 0, 0, 0), 0, 0, []),
  (46, .imul, 1, 0, (0, 0, 0, 0), 0, 0, []),
  (47, .iload_n 2, 1, 0, (2, 0, 0, 0), 0, 0, []),
  (48, .iadd, 1, 0, (0, 0, 0, 0), 0, 0, []),
  (49, .iaload, 1, 0, (0, 0, 0, 0), 0, 0, []),
  (50, .iastore, 1, 0, (0, 0, 0, 0), 0, 0, []),
  (51, .iinc 2 1, 3, 0, (2, 0, 0, 0), 1, 0, []),
  (54, .goto (-28), 3, 0, (26, 0, 0, 0), 0, 0, []),
  (57, .iconst 1, 1, 0, (0, 0, 0, 0), 1, 0, []),
  (58, .ireturn, 1, 0, (0, 0, 0, 0), 0, 0, [])]
def hk_m218 : hk_Q := (⟨"HullKeepersModel", "from", "(I)I"⟩, prog_10_method_86_code, 3, (some .int), (2, 0, 0, 0, 0, 0), hk_c218)
def hk_c219 : List hk_E := [(0, .iload_n 1, 1, 0, (1, 0, 0, 0), 0, 0, []),
  (1, .iconst 0, 1, 0, (0, 0, 0, 0), 0, 0, []),
  (2, .bipush 8, 2, 0, (0, 0, 0, 0), 8, 0, []),
  (4, .invokestatic 44, 3, 0, (143, 2220, 3, 0), 0, 0, []),
  (7, .ifCond .eq 11, 3, 0, (18, 0, 0, 0), 0, 0, []),
  (10, .aload_n 0, 1, 0, (0, 0, 0, 0), 0, 0, []),
  (11, .iload_n 1, 1, 0, (1, 0, 0, 0), 0, 0, []),
  (12, .invokevirtual 203, 3, 0, (227, 3097, 2, 9), 0, 0, []),
  (15, .goto 5, 3, 0, (20, 0, 0, 0), 0, 0, []),
  (18, .bipush (-2), 2, 0, (0, 0, 0, 0), (-2), 0, []),
  (20, .ireturn, 1, 0, (0, 0, 0, 0), 0, 0, [])]
def hk_m219 : hk_Q := (⟨"HullKeepersModel", "count", "(I)I"⟩, prog_10_method_88_code, 2, (some .int), (2, 0, 0, 0, 0, 0), hk_c219)
def hk_c220 : List hk_E := [(0, .iconst 0, 1, 0, (0, 0, 0, 0), 0, 0, []),
  (1, .istore_n 2, 1, 0, (2, 0, 0, 0), 0, 0, []),
  (2, .iconst 0, 1, 0, (0, 0, 0, 0), 0, 0, []),
  (3, .istore_n 3, 1, 0, (3, 0, 0, 0), 0, 0, []),
  (4, .iload_n 3, 1, 1, (3, 0, 0, 0), 0, 0, []),
  (5, .aload_n 0, 1, 0, (0, 0, 0, 0), 0, 0, []),
  (6, .getfield 7, 3, 0, (8, 2177, 0, 1), 0, 0, []),
  (9, .iconst 0, 1, 0, (0, 0, 0, 0), 0, 0, []),
  (10, .iaload, 1, 0, (0, 0, 0, 0), 0, 0, []),
  (11, .if_icmp .ge 19, 3, 0, (30, 0, 0, 0), 0, 0, []),
  (14, .iload_n 2, 1, 0, (2, 0, 0, 0), 0, 0, []),
  (15, .aload_n 0, 1, 0, (0, 0, 0, 0), 0, 0, []),
  (16, .iload_n 3, 1, 0, (3, 0, 0, 0), 0, 0, []),
  (17, .bipush 6, 2, 0, (0, 0, 0, 0), 6, 0, []),
  (19, .invokevirtual 61, 3, 0, (149, 2244, 3, 9), 0, 0, []),
  (22, .iadd, 1, 0, (0, 0, 0, 0), 0, 0, []),
  (23, .istore_n 2, 1, 0, (2, 0, 0, 0), 0, 0, []),
  (24, .iinc 3 1, 3, 0, (3, 0, 0, 0), 1, 0, []),
  (27, .goto (-23), 3, 0, (4, 0, 0, 0), 0, 0, []),
  (30, .iload_n 1, 1, 0, (1, 0, 0, 0), 0, 0, []),
  (31, .bipush 8, 2, 0, (0, 0, 0, 0), 8, 0, []),
  (33, .if_icmp .ne 7, 3, 0, (40, 0, 0, 0), 0, 0, []),
  (36, .iload_n 2, 1, 0, (2, 0, 0, 0), 0, 0, []),
  (37, .goto 9, 3, 0, (46, 0, 0, 0), 0, 0, []),
  (40, .aload_n 0, 1, 0, (0, 0, 0, 0), 0, 0, []),
  (41, .getfield 7, 3, 0, (8, 2177, 0, 1), 0, 0, []),
  (44, .iload_n 1, 1, 0, (1, 0, 0, 0), 0, 0, []),
  (45, .iaload, 1, 0, (0, 0, 0, 0), 0, 0, []),
  (46, .ireturn, 1, 0, (0, 0, 0, 0), 0, 0, [])]
def hk_m220 : hk_Q := (⟨"HullKeepersModel", "countOf", "(I)I"⟩, prog_10_method_87_code, 4, (some .int), (2, 0, 0, 0, 0, 0), hk_c220)
def hk_c221 : List hk_E := [(0, .ldc2_w 208, 3, 0, (0, 3105, 0, 0), 0, 307, []),
  (3, .lstore_n 1, 1, 0, (1, 0, 0, 0), 0, 0, []),
  (4, .iconst 0, 1, 0, (0, 0, 0, 0), 0, 0, []),
  (5, .istore_n 3, 1, 0, (3, 0, 0, 0), 0, 0, []),
  (6, .iload_n 3, 1, 1, (3, 0, 0, 0), 0, 0, []),
  (7, .bipush 9, 2, 0, (0, 0, 0, 0), 9, 0, []),
  (9, .if_icmp .ge 22, 3, 0, (31, 0, 0, 0), 0, 0, []),
  (12, .ldc2_w 206, 3, 0, (0, 3106, 0, 0), 0, 31, []),
  (15, .lload_n 1, 1, 0, (1, 0, 0, 0), 0, 0, []),
  (16, .lmul, 1, 0, (0, 0, 0, 0), 0, 0, []),
  (17, .aload_n 0, 1, 0, (0, 0, 0, 0), 0, 0, []),
  (18, .iload_n 3, 1, 0, (3, 0, 0, 0), 0, 0, []),
  (19, .invokevirtual 203, 3, 0, (227, 3097, 2, 9), 0, 0, []),
  (22, .i2l, 1, 0, (0, 0, 0, 0), 0, 0, []),
  (23, .ladd, 1, 0, (0, 0, 0, 0), 0, 0, []),
  (24, .lstore_n 1, 1, 0, (1, 0, 0, 0), 0, 0, []),
  (25, .iinc 3 1, 3, 0, (3, 0, 0, 0), 1, 0, []),
  (28, .goto (-22), 3, 0, (6, 0, 0, 0), 0, 0, []),
  (31, .iconst 0, 1, 0, (0, 0, 0, 0), 0, 0, []),
  (32, .istore_n 3, 1, 0, (3, 0, 0, 0), 0, 0, []),
  (33, .iload_n 3, 1, 1, (3, 0, 0, 0), 0, 0, []),
  (34, .aload_n 0, 1, 0, (0, 0, 0, 0), 0, 0, []),
  (35, .getfield 7, 3, 0, (8, 2177, 0, 1), 0, 0, []),
  (38, .iconst 0, 1, 0, (0, 0, 0, 0), 0, 0, []),
  (39, .iaload, 1, 0, (0, 0, 0, 0), 0, 0, []),
  (40, .if_icmp .ge 54, 3, 0, (94, 0, 0, 0), 0, 0, []),
  (43, .aload_n 0, 1, 0, (0, 0, 0, 0), 0, 0, []),
  (44, .lload_n 1, 1, 0, (1, 0, 0, 0), 0, 0, []),
  (45, .bipush 20, 2, 0, (0, 0, 0, 0), 20, 0, []),
  (47, .bipush 10, 2, 0, (0, 0, 0, 0), 10, 0, []),
  (49, .iload_n 3, 1, 0, (3, 0, 0, 0), 0, 0, []),
  (50, .imul, 1, 0, (0, 0, 0, 0), 0, 0, []),
  (51, .iadd, 1, 0, (0, 0, 0, 0), 0, 0, []),
  (52, .iconst 5, 1, 0, (0, 0, 0, 0), 5, 0, []),
  (53, .invokevirtual 210, 3, 0, (229, 3107, 4, 9), 0, 0, []),
  (56, .lstore_n 1, 1, 0, (1, 0, 0, 0), 0, 0, []),
  (57, .iconst 0, 1, 0, (0, 0, 0, 0), 0, 0, []),
  (58, .istore 4, 2, 0, (4, 0, 0, 0), 0, 0, []),
  (60, .iload 4, 2, 1, (4, 0, 0, 0), 0, 0, []),
  (62, .bipush 7, 2, 0, (0, 0, 0, 0), 7, 0, []),
  (64, .if_icmp .ge 24, 3, 0, (88, 0, 0, 0), 0, 0, []),
  (67, .ldc2_w 206, 3, 0, (0, 3106, 0, 0), 0, 31, []),
  (70, .lload_n 1, 1, 0, (1, 0, 0, 0), 0, 0, []),
  (71, .lmul, 1, 0, (0, 0, 0, 0), 0, 0, []),
  (72, .aload_n 0, 1, 0, (0, 0, 0, 0), 0, 0, []),
  (73, .iload_n 3, 1, 0, (3, 0, 0, 0), 0, 0, []),
  (74, .iload 4, 2, 0, (4, 0, 0, 0), 0, 0, []),
  (76, .invokevirtual 91, 3, 0, (163, 2573, 3, 9), 0, 0, []),
  (79, .i2l, 1, 0, (0, 0, 0, 0), 0, 0, []),
  (80, .ladd, 1, 0, (0, 0, 0, 0), 0, 0, []),
  (81, .lstore_n 1, 1, 0, (1, 0, 0, 0), 0, 0, []),
  (82, .iinc 4 1, 3, 0, (4, 0, 0, 0), 1, 0, []),
  (85, .goto (-25), 3, 0, (60, 0, 0, 0), 0, 0, []),
  (88, .iinc 3 1, 3, 0, (3, 0, 0, 0), 1, 0, []),
  (91, .goto (-58), 3, 0, (33, 0, 0, 0), 0, 0, []),
  (94, .aload_n 0, 1, 0, (0, 0, 0, 0), 0, 0, []),
  (95, .lload_n 1, 1, 0, (1, 0, 0, 0), 0, 0, []),
  (96, .bipush 80, 2, 0, (0, 0, 0, 0), 80, 0, []),
  (98, .bipush 6, 2, 0, (0, 0, 0, 0), 6, 0, []),
  (100, .aload_n 0, 1, 0, (0, 0, 0, 0), 0, 0, []),
  (101, .getfield 7, 3, 0, (8, 2177, 0, 1), 0, 0, []),
  (104, .iconst 1, 1, 0, (0, 0, 0, 0), 1, 0, []),
  (105, .iaload, 1, 0, (0, 0, 0, 0), 0, 0, []),
  (106, .imul, 1, 0, (0, 0, 0, 0), 0, 0, []),
  (107, .invokevirtual 210, 3, 0, (229, 3107, 4, 9), 0, 0, []),
  (110, .lstore_n 1, 1, 0, (1, 0, 0, 0), 0, 0, []),
  (111, .aload_n 0, 1, 0, (0, 0, 0, 0), 0, 0, []),
  (112, .lload_n 1, 1, 0, (1, 0, 0, 0), 0, 0, []),
  (113, .sipush 660, 3, 0, (0, 0, 0, 0), 660, 0, []),
  (116, .iconst 5, 1, 0, (0, 0, 0, 0), 5, 0, []),
  (117, .aload_n 0, 1, 0, (0, 0, 0, 0), 0, 0, []),
  (118, .getfield 7, 3, 0, (8, 2177, 0, 1), 0, 0, []),
  (121, .iconst 2, 1, 0, (0, 0, 0, 0), 2, 0, []),
  (122, .iaload, 1, 0, (0, 0, 0, 0), 0, 0, []),
  (123, .imul, 1, 0, (0, 0, 0, 0), 0, 0, []),
  (124, .invokevirtual 210, 3, 0, (229, 3107, 4, 9), 0, 0, []),
  (127, .lstore_n 1, 1, 0, (1, 0, 0, 0), 0, 0, []),
  (128, .aload_n 0, 1, 0, (0, 0, 0, 0), 0, 0, []),
  (129, .lload_n 1, 1, 0, (1, 0, 0, 0), 0, 0, []),
  (130, .sipush 1410, 3, 0, (0, 0, 0, 0), 1410, 0, []),
  (133, .bipush 12, 2, 0, (0, 0, 0, 0), 12, 0, []),
  (135, .invokevirtual 210, 3, 0, (229, 3107, 4, 9), 0, 0, []),
  (138, .lstore_n 1, 1, 0, (1, 0, 0, 0), 0, 0, []),
  (139, .iconst 0, 1, 0, (0, 0, 0, 0), 0, 0, []),
  (140, .istore_n 3, 1, 0, (3, 0, 0, 0), 0, 0, []),
  (141, .iload_n 3, 1, 1, (3, 0, 0, 0), 0, 0, []),
  (142, .iconst 4, 1, 0, (0, 0, 0, 0), 4, 0, []),
  (143, .if_icmp .ge 38, 3, 0, (181, 0, 0, 0), 0, 0, []),
  (146, .aload_n 0, 1, 0, (0, 0, 0, 0), 0, 0, []),
  (147, .lload_n 1, 1, 0, (1, 0, 0, 0), 0, 0, []),
  (148, .sipush 1422, 3, 0, (0, 0, 0, 0), 1422, 0, []),
  (151, .bipush 61, 2, 0, (0, 0, 0, 0), 61, 0, []),
  (153, .iload_n 3, 1, 0, (3, 0, 0, 0), 0, 0, []),
  (154, .imul, 1, 0, (0, 0, 0, 0), 0, 0, []),
  (155, .iadd, 1, 0, (0, 0, 0, 0), 0, 0, []),
  (156, .iconst 1, 1, 0, (0, 0, 0, 0), 1, 0, []),
  (157, .aload_n 0, 1, 0, (0, 0, 0, 0), 0, 0, []),
  (158, .getfield 7, 3, 0, (8, 2177, 0, 1), 0, 0, []),
  (161, .sipush 1422, 3, 0, (0, 0, 0, 0), 1422, 0, []),
  (164, .bipush 61, 2, 0, (0, 0, 0, 0), 61, 0, []),
  (166, .iload_n 3, 1, 0, (3, 0, 0, 0), 0, 0, []),
  (167, .imul, 1, 0, (0, 0, 0, 0), 0, 0, []),
  (168, .iadd, 1, 0, (0, 0, 0, 0), 0, 0, []),
  (169, .iaload, 1, 0, (0, 0, 0, 0), 0, 0, []),
  (170, .iadd, 1, 0, (0, 0, 0, 0), 0, 0, []),
  (171, .invokevirtual 210, 3, 0, (229, 3107, 4, 9), 0, 0, []),
  (174, .lstore_n 1, 1, 0, (1, 0, 0, 0), 0, 0, []),
  (175, .iinc 3 1, 3, 0, (3, 0, 0, 0), 1, 0, []),
  (178, .goto (-37), 3, 0, (141, 0, 0, 0), 0, 0, []),
  (181, .lload_n 1, 1, 0, (1, 0, 0, 0), 0, 0, []),
  (182, .lreturn, 1, 0, (0, 0, 0, 0), 0, 0, [])]
def hk_m221 : hk_Q := (⟨"HullKeepersModel", "digest", "()J"⟩, prog_10_method_90_code, 5, (some .long), (1, 0, 0, 0, 0, 0), hk_c221)
def hk_c222 : List hk_E := [(0, .lload_n 1, 1, 0, (1, 0, 0, 0), 0, 0, []),
  (1, .lstore 5, 2, 0, (5, 0, 0, 0), 0, 0, []),
  (3, .iconst 0, 1, 0, (0, 0, 0, 0), 0, 0, []),
  (4, .istore 7, 2, 0, (7, 0, 0, 0), 0, 0, []),
  (6, .iload 7, 2, 1, (7, 0, 0, 0), 0, 0, []),
  (8, .iload 4, 2, 0, (4, 0, 0, 0), 0, 0, []),
  (10, .if_icmp .ge 28, 3, 0, (38, 0, 0, 0), 0, 0, []),
  (13, .ldc2_w 206, 3, 0, (0, 3106, 0, 0), 0, 31, []),
  (16, .lload 5, 2, 0, (5, 0, 0, 0), 0, 0, []),
  (18, .lmul, 1, 0, (0, 0, 0, 0), 0, 0, []),
  (19, .aload_n 0, 1, 0, (0, 0, 0, 0), 0, 0, []),
  (20, .getfield 7, 3, 0, (8, 2177, 0, 1), 0, 0, []),
  (23, .iload_n 3, 1, 0, (3, 0, 0, 0), 0, 0, []),
  (24, .iload 7, 2, 0, (7, 0, 0, 0), 0, 0, []),
  (26, .iadd, 1, 0, (0, 0, 0, 0), 0, 0, []),
  (27, .iaload, 1, 0, (0, 0, 0, 0), 0, 0, []),
  (28, .i2l, 1, 0, (0, 0, 0, 0), 0, 0, []),
  (29, .ladd, 1, 0, (0, 0, 0, 0), 0, 0, []),
  (30, .lstore 5, 2, 0, (5, 0, 0, 0), 0, 0, []),
  (32, .iinc 7 1, 3, 0, (7, 0, 0, 0), 1, 0, []),
  (35, .goto (-29), 3, 0, (6, 0, 0, 0), 0, 0, []),
  (38, .lload 5, 2, 0, (5, 0, 0, 0), 0, 0, []),
  (40, .lreturn, 1, 0, (0, 0, 0, 0), 0, 0, [])]
def hk_m222 : hk_Q := (⟨"HullKeepersModel", "mixed", "(JII)J"⟩, prog_10_method_89_code, 8, (some .long), (4, 0, 0, 0, 0, 0), hk_c222)
def hk_ml : List hk_Q := [hk_m0, hk_m1, hk_m2, hk_m3, hk_m4, hk_m5, hk_m6, hk_m7, hk_m8, hk_m9, hk_m10, hk_m11, hk_m12, hk_m13, hk_m14, hk_m15, hk_m16, hk_m17, hk_m18, hk_m19, hk_m20, hk_m21, hk_m22, hk_m23, hk_m24, hk_m25, hk_m26, hk_m27, hk_m28, hk_m29, hk_m30, hk_m31, hk_m32, hk_m33, hk_m34, hk_m35, hk_m36, hk_m37, hk_m38, hk_m39, hk_m40, hk_m41, hk_m42, hk_m43, hk_m44, hk_m45, hk_m46, hk_m47, hk_m48, hk_m49, hk_m50, hk_m51, hk_m52, hk_m53, hk_m54, hk_m55, hk_m56, hk_m57, hk_m58, hk_m59, hk_m60, hk_m61, hk_m62, hk_m63, hk_m64, hk_m65, hk_m66, hk_m67, hk_m68, hk_m69, hk_m70, hk_m71, hk_m72, hk_m73, hk_m74, hk_m75, hk_m76, hk_m77, hk_m78, hk_m79, hk_m80, hk_m81, hk_m82, hk_m83, hk_m84, hk_m85, hk_m86, hk_m87, hk_m88, hk_m89, hk_m90, hk_m91, hk_m92, hk_m93, hk_m94, hk_m95, hk_m96, hk_m97, hk_m98, hk_m99, hk_m100, hk_m101, hk_m102, hk_m103, hk_m104, hk_m105, hk_m106, hk_m107, hk_m108, hk_m109, hk_m110, hk_m111, hk_m112, hk_m113, hk_m114, hk_m115, hk_m116, hk_m117, hk_m118, hk_m119, hk_m120, hk_m121, hk_m122, hk_m123, hk_m124, hk_m125, hk_m126, hk_m127, hk_m128, hk_m129, hk_m130, hk_m131, hk_m132, hk_m133, hk_m134, hk_m135, hk_m136, hk_m137, hk_m138, hk_m139, hk_m140, hk_m141, hk_m142, hk_m143, hk_m144, hk_m145, hk_m146, hk_m147, hk_m148, hk_m149, hk_m150, hk_m151, hk_m152, hk_m153, hk_m154, hk_m155, hk_m156, hk_m157, hk_m158, hk_m159, hk_m160, hk_m161, hk_m162, hk_m163, hk_m164, hk_m165, hk_m166, hk_m167, hk_m168, hk_m169, hk_m170, hk_m171, hk_m172, hk_m173, hk_m174, hk_m175, hk_m176, hk_m177, hk_m178, hk_m179, hk_m180, hk_m181, hk_m182, hk_m183, hk_m184, hk_m185, hk_m186, hk_m187, hk_m188, hk_m189, hk_m190, hk_m191, hk_m192, hk_m193, hk_m194, hk_m195, hk_m196, hk_m197, hk_m198, hk_m199, hk_m200, hk_m201, hk_m202, hk_m203, hk_m204, hk_m205, hk_m206, hk_m207, hk_m208, hk_m209, hk_m210, hk_m211, hk_m212, hk_m213, hk_m214, hk_m215, hk_m216, hk_m217, hk_m218, hk_m219, hk_m220, hk_m221, hk_m222]
def hk_mt (y : Nat) : Option hk_Q := hk_ml[y]?
def hk_cL : List hk_E := [(0, .new 7, 3, 0, (7, 526, 527, 513), 0, 0, []),
  (3, .dup, 1, 0, (0, 0, 0, 0), 0, 0, []),
  (4, .invokespecial 9, 3, 0, (7, 528, 1, 8), 0, 0, []),
  (7, .astore_n 1, 1, 0, (1, 0, 0, 0), 0, 0, []),
  (8, .new 10, 3, 0, (8, 2169, 2170, 522), 0, 0, []),
  (11, .dup, 1, 0, (0, 0, 0, 0), 0, 0, []),
  (12, .invokespecial 12, 3, 0, (141, 2171, 1, 9), 0, 0, []),
  (15, .astore_n 2, 1, 0, (2, 0, 0, 0), 0, 0, []),
  (16, .iconst 0, 1, 0, (0, 0, 0, 0), 0, 0, []),
  (17, .istore_n 3, 1, 0, (3, 0, 0, 0), 0, 0, []),
  (18, .iload_n 3, 1, 1, (3, 0, 0, 0), 0, 0, []),
  (19, .aload_n 0, 1, 0, (0, 0, 0, 0), 0, 0, []),
  (20, .arraylength, 1, 0, (0, 0, 0, 0), 0, 0, []),
  (21, .bipush 6, 2, 0, (0, 0, 0, 0), 6, 0, []),
  (23, .isub, 1, 0, (0, 0, 0, 0), 0, 0, []),
  (24, .if_icmp .gt 1582, 3, 0, (1606, 0, 0, 0), 0, 0, []),
  (27, .aload_n 0, 1, 0, (0, 0, 0, 0), 0, 0, []),
  (28, .iload_n 3, 1, 0, (3, 0, 0, 0), 0, 0, []),
  (29, .iaload, 1, 0, (0, 0, 0, 0), 0, 0, []),
  (30, .bipush 63, 2, 0, (0, 0, 0, 0), 63, 0, []),
  (32, .iand, 1, 0, (0, 0, 0, 0), 0, 0, []),
  (33, .tableswitch 1567 0 41 #[183, 236, 299, 322, 355, 378, 401, 434, 467, 490, 523, 556, 589, 622, 685, 718, 761, 804, 837, 870, 903, 926, 949, 983, 1016, 1069, 1112, 1145, 1168, 1181, 1230, 1243, 1266, 1299, 1342, 1375, 1418, 1441, 1484, 1507, 1530, 1553], 183, 0, (1600, 0, 0, 0), 0, 0, [(0, 216), (1, 269), (2, 332), (3, 355), (4, 388), (5, 411), (6, 434), (7, 467), (8, 500), (9, 523), (10, 556), (11, 589), (12, 622), (13, 655), (14, 718), (15, 751), (16, 794), (17, 837), (18, 870), (19, 903), (20, 936), (21, 959), (22, 982), (23, 1016), (24, 1049), (25, 1102), (26, 1145), (27, 1178), (28, 1201), (29, 1214), (30, 1263), (31, 1276), (32, 1299), (33, 1332), (34, 1375), (35, 1408), (36, 1451), (37, 1474), (38, 1517), (39, 1540), (40, 1563), (41, 1586)]),
  (216, .aload_n 1, 1, 0, (1, 0, 0, 0), 0, 0, []),
  (217, .aload_n 0, 1, 0, (0, 0, 0, 0), 0, 0, []),
  (218, .iload_n 3, 1, 0, (3, 0, 0, 0), 0, 0, []),
  (219, .iconst 1, 1, 0, (0, 0, 0, 0), 1, 0, []),
  (220, .iadd, 1, 0, (0, 0, 0, 0), 0, 0, []),
  (221, .iaload, 1, 0, (0, 0, 0, 0), 0, 0, []),
  (222, .aload_n 0, 1, 0, (0, 0, 0, 0), 0, 0, []),
  (223, .iload_n 3, 1, 0, (3, 0, 0, 0), 0, 0, []),
  (224, .iconst 2, 1, 0, (0, 0, 0, 0), 2, 0, []),
  (225, .iadd, 1, 0, (0, 0, 0, 0), 0, 0, []),
  (226, .iaload, 1, 0, (0, 0, 0, 0), 0, 0, []),
  (227, .aload_n 0, 1, 0, (0, 0, 0, 0), 0, 0, []),
  (228, .iload_n 3, 1, 0, (3, 0, 0, 0), 0, 0, []),
  (229, .iconst 3, 1, 0, (0, 0, 0, 0), 3, 0, []),
  (230, .iadd, 1, 0, (0, 0, 0, 0), 0, 0, []),
  (231, .iaload, 1, 0, (0, 0, 0, 0), 0, 0, []),
  (232, .aload_n 0, 1, 0, (0, 0, 0, 0), 0, 0, []),
  (233, .iload_n 3, 1, 0, (3, 0, 0, 0), 0, 0, []),
  (234, .iconst 4, 1, 0, (0, 0, 0, 0), 4, 0, []),
  (235, .iadd, 1, 0, (0, 0, 0, 0), 0, 0, []),
  (236, .iaload, 1, 0, (0, 0, 0, 0), 0, 0, []),
  (237, .invokevirtual 13, 3, 0, (18, 1086, 5, 8), 0, 0, []),
  (240, .aload_n 2, 1, 0, (2, 0, 0, 0), 0, 0, []),
  (241, .aload_n 0, 1, 0, (0, 0, 0, 0), 0, 0, []),
  (242, .iload_n 3, 1, 0, (3, 0, 0, 0), 0, 0, []),
  (243, .iconst 1, 1, 0, (0, 0, 0, 0), 1, 0, []),
  (244, .iadd, 1, 0, (0, 0, 0, 0), 0, 0, []),
  (245, .iaload, 1, 0, (0, 0, 0, 0), 0, 0, []),
  (246, .aload_n 0, 1, 0, (0, 0, 0, 0), 0, 0, []),
  (247, .iload_n 3, 1, 0, (3, 0, 0, 0), 0, 0, []),
  (248, .iconst 2, 1, 0, (0, 0, 0, 0), 2, 0, []),
  (249, .iadd, 1, 0, (0, 0, 0, 0), 0, 0, []),
  (250, .iaload, 1, 0, (0, 0, 0, 0), 0, 0, []),
  (251, .aload_n 0, 1, 0, (0, 0, 0, 0), 0, 0, []),
  (252, .iload_n 3, 1, 0, (3, 0, 0, 0), 0, 0, []),
  (253, .iconst 3, 1, 0, (0, 0, 0, 0), 3, 0, []),
  (254, .iadd, 1, 0, (0, 0, 0, 0), 0, 0, []),
  (255, .iaload, 1, 0, (0, 0, 0, 0), 0, 0, []),
  (256, .aload_n 0, 1, 0, (0, 0, 0, 0), 0, 0, []),
  (257, .iload_n 3, 1, 0, (3, 0, 0, 0), 0, 0, []),
  (258, .iconst 4, 1, 0, (0, 0, 0, 0), 4, 0, []),
  (259, .iadd, 1, 0, (0, 0, 0, 0), 0, 0, []),
  (260, .iaload, 1, 0, (0, 0, 0, 0), 0, 0, []),
  (261, .invokevirtual 17, 3, 0, (142, 2216, 5, 9), 0, 0, []),
  (264, .if_icmp .eq 1336, 3, 0, (1600, 0, 0, 0), 0, 0, []),
  (267, .iconst 0, 1, 0, (0, 0, 0, 0), 0, 0, []),
  (268, .ireturn, 1, 0, (0, 0, 0, 1), 0, 0, []),
  (269, .aload_n 1, 1, 0, (1, 0, 0, 0), 0, 0, []),
  (270, .aload_n 0, 1, 0, (0, 0, 0, 0), 0, 0, []),
  (271, .iload_n 3, 1, 0, (3, 0, 0, 0), 0, 0, []),
  (272, .iconst 1, 1, 0, (0, 0, 0, 0), 1, 0, []),
  (273, .iadd, 1, 0, (0, 0, 0, 0), 0, 0, []),
  (274, .iaload, 1, 0, (0, 0, 0, 0), 0, 0, []),
  (275, .aload_n 0, 1, 0, (0, 0, 0, 0), 0, 0, []),
  (276, .iload_n 3, 1, 0, (3, 0, 0, 0), 0, 0, []),
  (277, .iconst 2, 1, 0, (0, 0, 0, 0), 2, 0, []),
  (278, .iadd, 1, 0, (0, 0, 0, 0), 0, 0, []),
  (279, .iaload, 1, 0, (0, 0, 0, 0), 0, 0, []),
  (280, .aload_n 0, 1, 0, (0, 0, 0, 0), 0, 0, []),
  (281, .iload_n 3, 1, 0, (3, 0, 0, 0), 0, 0, []),
  (282, .iconst 3, 1, 0, (0, 0, 0, 0), 3, 0, []),
  (283, .iadd, 1, 0, (0, 0, 0, 0), 0, 0, []),
  (284, .iaload, 1, 0, (0, 0, 0, 0), 0, 0, []),
  (285, .aload_n 0, 1, 0, (0, 0, 0, 0), 0, 0, []),
  (286, .iload_n 3, 1, 0, (3, 0, 0, 0), 0, 0, []),
  (287, .iconst 4, 1, 0, (0, 0, 0, 0), 4, 0, []),
  (288, .iadd, 1, 0, (0, 0, 0, 0), 0, 0, []),
  (289, .iaload, 1, 0, (0, 0, 0, 0), 0, 0, []),
  (290, .aload_n 0, 1, 0, (0, 0, 0, 0), 0, 0, []),
  (291, .iload_n 3, 1, 0, (3, 0, 0, 0), 0, 0, []),
  (292, .iconst 5, 1, 0, (0, 0, 0, 0), 5, 0, []),
  (293, .iadd, 1, 0, (0, 0, 0, 0), 0, 0, []),
  (294, .iaload, 1, 0, (0, 0, 0, 0), 0, 0, []),
  (295, .invokevirtual 18, 3, 0, (20, 1097, 6, 8), 0, 0, []),
  (298, .aload_n 2, 1, 0, (2, 0, 0, 0), 0, 0, []),
  (299, .aload_n 0, 1, 0, (0, 0, 0, 0), 0, 0, []),
  (300, .iload_n 3, 1, 0, (3, 0, 0, 0), 0, 0, []),
  (301, .iconst 1, 1, 0, (0, 0, 0, 0), 1, 0, []),
  (302, .iadd, 1, 0, (0, 0, 0, 0), 0, 0, []),
  (303, .iaload, 1, 0, (0, 0, 0, 0), 0, 0, []),
  (304, .aload_n 0, 1, 0, (0, 0, 0, 0), 0, 0, []),
  (305, .iload_n 3, 1, 0, (3, 0, 0, 0), 0, 0, []),
  (306, .iconst 2, 1, 0, (0, 0, 0, 0), 2, 0, []),
  (307, .iadd, 1, 0, (0, 0, 0, 0), 0, 0, []),
  (308, .iaload, 1, 0, (0, 0, 0, 0), 0, 0, []),
  (309, .aload_n 0, 1, 0, (0, 0, 0, 0), 0, 0, []),
  (310, .iload_n 3, 1, 0, (3, 0, 0, 0), 0, 0, []),
  (311, .iconst 3, 1, 0, (0, 0, 0, 0), 3, 0, []),
  (312, .iadd, 1, 0, (0, 0, 0, 0), 0, 0, []),
  (313, .iaload, 1, 0, (0, 0, 0, 0), 0, 0, []),
  (314, .aload_n 0, 1, 0, (0, 0, 0, 0), 0, 0, []),
  (315, .iload_n 3, 1, 0, (3, 0, 0, 0), 0, 0, []),
  (316, .iconst 4, 1, 0, (0, 0, 0, 0), 4, 0, []),
  (317, .iadd, 1, 0, (0, 0, 0, 0), 0, 0, []),
  (318, .iaload, 1, 0, (0, 0, 0, 0), 0, 0, []),
  (319, .aload_n 0, 1, 0, (0, 0, 0, 0), 0, 0, []),
  (320, .iload_n 3, 1, 0, (3, 0, 0, 0), 0, 0, []),
  (321, .iconst 5, 1, 0, (0, 0, 0, 0), 5, 0, []),
  (322, .iadd, 1, 0, (0, 0, 0, 0), 0, 0, []),
  (323, .iaload, 1, 0, (0, 0, 0, 0), 0, 0, []),
  (324, .invokevirtual 22, 3, 0, (145, 2228, 6, 9), 0, 0, []),
  (327, .if_icmp .eq 1273, 3, 0, (1600, 0, 0, 0), 0, 0, []),
  (330, .iconst 0, 1, 0, (0, 0, 0, 0), 0, 0, []),
  (331, .ireturn, 1, 0, (0, 0, 0, 1), 0, 0, []),
  (332, .aload_n 1, 1, 0, (1, 0, 0, 0), 0, 0, []),
  (333, .aload_n 0, 1, 0, (0, 0, 0, 0), 0, 0, []),
  (334, .iload_n 3, 1, 0, (3, 0, 0, 0), 0, 0, []),
  (335, .iconst 1, 1, 0, (0, 0, 0, 0), 1, 0, []),
  (336, .iadd, 1, 0, (0, 0, 0, 0), 0, 0, []),
  (337, .iaload, 1, 0, (0, 0, 0, 0), 0, 0, []),
  (338, .invokevirtual 23, 3, 0, (22, 1105, 2, 8), 0, 0, []),
  (341, .aload_n 2, 1, 0, (2, 0, 0, 0), 0, 0, []),
  (342, .aload_n 0, 1, 0, (0, 0, 0, 0), 0, 0, []),
  (343, .iload_n 3, 1, 0, (3, 0, 0, 0), 0, 0, []),
  (344, .iconst 1, 1, 0, (0, 0, 0, 0), 1, 0, []),
  (345, .iadd, 1, 0, (0, 0, 0, 0), 0, 0, []),
  (346, .iaload, 1, 0, (0, 0, 0, 0), 0, 0, []),
  (347, .invokevirtual 27, 3, 0, (147, 2236, 2, 9), 0, 0, []),
  (350, .if_icmp .eq 1250, 3, 0, (1600, 0, 0, 0), 0, 0, []),
  (353, .iconst 0, 1, 0, (0, 0, 0, 0), 0, 0, []),
  (354, .ireturn, 1, 0, (0, 0, 0, 1), 0, 0, []),
  (355, .aload_n 1, 1, 0, (1, 0, 0, 0), 0, 0, []),
  (356, .aload_n 0, 1, 0, (0, 0, 0, 0), 0, 0, []),
  (357, .iload_n 3, 1, 0, (3, 0, 0, 0), 0, 0, []),
  (358, .iconst 1, 1, 0, (0, 0, 0, 0), 1, 0, []),
  (359, .iadd, 1, 0, (0, 0, 0, 0), 0, 0, []),
  (360, .iaload, 1, 0, (0, 0, 0, 0), 0, 0, []),
  (361, .aload_n 0, 1, 0, (0, 0, 0, 0), 0, 0, []),
  (362, .iload_n 3, 1, 0, (3, 0, 0, 0), 0, 0, []),
  (363, .iconst 2, 1, 0, (0, 0, 0, 0), 2, 0, []),
  (364, .iadd, 1, 0, (0, 0, 0, 0), 0, 0, []),
  (365, .iaload, 1, 0, (0, 0, 0, 0), 0, 0, []),
  (366, .invokevirtual 28, 3, 0, (26, 1123, 3, 8), 0, 0, []),
  (369, .aload_n 2, 1, 0, (2, 0, 0, 0), 0, 0, []),
  (370, .aload_n 0, 1, 0, (0, 0, 0, 0), 0, 0, []),
  (371, .iload_n 3, 1, 0, (3, 0, 0, 0), 0, 0, []),
  (372, .iconst 1, 1, 0, (0, 0, 0, 0), 1, 0, []),
  (373, .iadd, 1, 0, (0, 0, 0, 0), 0, 0, []),
  (374, .iaload, 1, 0, (0, 0, 0, 0), 0, 0, []),
  (375, .aload_n 0, 1, 0, (0, 0, 0, 0), 0, 0, []),
  (376, .iload_n 3, 1, 0, (3, 0, 0, 0), 0, 0, []),
  (377, .iconst 2, 1, 0, (0, 0, 0, 0), 2, 0, []),
  (378, .iadd, 1, 0, (0, 0, 0, 0), 0, 0, []),
  (379, .iaload, 1, 0, (0, 0, 0, 0), 0, 0, []),
  (380, .invokevirtual 32, 3, 0, (150, 2248, 3, 9), 0, 0, []),
  (383, .if_icmp .eq 1217, 3, 0, (1600, 0, 0, 0), 0, 0, []),
  (386, .iconst 0, 1, 0, (0, 0, 0, 0), 0, 0, []),
  (387, .ireturn, 1, 0, (0, 0, 0, 1), 0, 0, []),
  (388, .aload_n 1, 1, 0, (1, 0, 0, 0), 0, 0, []),
  (389, .aload_n 0, 1, 0, (0, 0, 0, 0), 0, 0, []),
  (390, .iload_n 3, 1, 0, (3, 0, 0, 0), 0, 0, []),
  (391, .iconst 1, 1, 0, (0, 0, 0, 0), 1, 0, []),
  (392, .iadd, 1, 0, (0, 0, 0, 0), 0, 0, []),
  (393, .iaload, 1, 0, (0, 0, 0, 0), 0, 0, []),
  (394, .invokevirtual 33, 3, 0, (27, 1127, 2, 8), 0, 0, []),
  (397, .aload_n 2, 1, 0, (2, 0, 0, 0), 0, 0, []),
  (398, .aload_n 0, 1, 0, (0, 0, 0, 0), 0, 0, []),
  (399, .iload_n 3, 1, 0, (3, 0, 0, 0), 0, 0, []),
  (400, .iconst 1, 1, 0, (0, 0, 0, 0), 1, 0, []),
  (401, .iadd, 1, 0, (0, 0, 0, 0), 0, 0, []),
  (402, .iaload, 1, 0, (0, 0, 0, 0), 0, 0, []),
  (403, .invokevirtual 36, 3, 0, (152, 2256, 2, 9), 0, 0, []),
  (406, .if_icmp .eq 1194, 3, 0, (1600, 0, 0, 0), 0, 0, []),
  (409, .iconst 0, 1, 0, (0, 0, 0, 0), 0, 0, []),
  (410, .ireturn, 1, 0, (0, 0, 0, 1), 0, 0, []),
  (411, .aload_n 1, 1, 0, (1, 0, 0, 0), 0, 0, []),
  (412, .aload_n 0, 1, 0, (0, 0, 0, 0), 0, 0, []),
  (413, .iload_n 3, 1, 0, (3, 0, 0, 0), 0, 0, []),
  (414, .iconst 1, 1, 0, (0, 0, 0, 0), 1, 0, []),
  (415, .iadd, 1, 0, (0, 0, 0, 0), 0, 0, []),
  (416, .iaload, 1, 0, (0, 0, 0, 0), 0, 0, []),
  (417, .invokevirtual 37, 3, 0, (28, 1131, 2, 8), 0, 0, []),
  (420, .aload_n 2, 1, 0, (2, 0, 0, 0), 0, 0, []),
  (421, .aload_n 0, 1, 0, (0, 0, 0, 0), 0, 0, []),
  (422, .iload_n 3, 1, 0, (3, 0, 0, 0), 0, 0, []),
  (423, .iconst 1, 1, 0, (0, 0, 0, 0), 1, 0, []),
  (424, .iadd, 1, 0, (0, 0, 0, 0), 0, 0, []),
  (425, .iaload, 1, 0, (0, 0, 0, 0), 0, 0, []),
  (426, .invokevirtual 40, 3, 0, (153, 2260, 2, 9), 0, 0, []),
  (429, .if_icmp .eq 1171, 3, 0, (1600, 0, 0, 0), 0, 0, []),
  (432, .iconst 0, 1, 0, (0, 0, 0, 0), 0, 0, []),
  (433, .ireturn, 1, 0, (0, 0, 0, 1), 0, 0, []),
  (434, .aload_n 1, 1, 0, (1, 0, 0, 0), 0, 0, []),
  (435, .aload_n 0, 1, 0, (0, 0, 0, 0), 0, 0, []),
  (436, .iload_n 3, 1, 0, (3, 0, 0, 0), 0, 0, []),
  (437, .iconst 1, 1, 0, (0, 0, 0, 0), 1, 0, []),
  (438, .iadd, 1, 0, (0, 0, 0, 0), 0, 0, []),
  (439, .iaload, 1, 0, (0, 0, 0, 0), 0, 0, []),
  (440, .aload_n 0, 1, 0, (0, 0, 0, 0), 0, 0, []),
  (441, .iload_n 3, 1, 0, (3, 0, 0, 0), 0, 0, []),
  (442, .iconst 2, 1, 0, (0, 0, 0, 0), 2, 0, []),
  (443, .iadd, 1, 0, (0, 0, 0, 0), 0, 0, []),
  (444, .iaload, 1, 0, (0, 0, 0, 0), 0, 0, []),
  (445, .invokevirtual 41, 3, 0, (29, 1136, 3, 8), 0, 0, []),
  (448, .aload_n 2, 1, 0, (2, 0, 0, 0), 0, 0, []),
  (449, .aload_n 0, 1, 0, (0, 0, 0, 0), 0, 0, []),
  (450, .iload_n 3, 1, 0, (3, 0, 0, 0), 0, 0, []),
  (451, .iconst 1, 1, 0, (0, 0, 0, 0), 1, 0, []),
  (452, .iadd, 1, 0, (0, 0, 0, 0), 0, 0, []),
  (453, .iaload, 1, 0, (0, 0, 0, 0), 0, 0, []),
  (454, .aload_n 0, 1, 0, (0, 0, 0, 0), 0, 0, []),
  (455, .iload_n 3, 1, 0, (3, 0, 0, 0), 0, 0, []),
  (456, .iconst 2, 1, 0, (0, 0, 0, 0), 2, 0, []),
  (457, .iadd, 1, 0, (0, 0, 0, 0), 0, 0, []),
  (458, .iaload, 1, 0, (0, 0, 0, 0), 0, 0, []),
  (459, .invokevirtual 44, 3, 0, (154, 2264, 3, 9), 0, 0, []),
  (462, .if_icmp .eq 1138, 3, 0, (1600, 0, 0, 0), 0, 0, []),
  (465, .iconst 0, 1, 0, (0, 0, 0, 0), 0, 0, []),
  (466, .ireturn, 1, 0, (0, 0, 0, 1), 0, 0, []),
  (467, .aload_n 1, 1, 0, (1, 0, 0, 0), 0, 0, []),
  (468, .aload_n 0, 1, 0, (0, 0, 0, 0), 0, 0, []),
  (469, .iload_n 3, 1, 0, (3, 0, 0, 0), 0, 0, []),
  (470, .iconst 1, 1, 0, (0, 0, 0, 0), 1, 0, []),
  (471, .iadd, 1, 0, (0, 0, 0, 0), 0, 0, []),
  (472, .iaload, 1, 0, (0, 0, 0, 0), 0, 0, []),
  (473, .aload_n 0, 1, 0, (0, 0, 0, 0), 0, 0, []),
  (474, .iload_n 3, 1, 0, (3, 0, 0, 0), 0, 0, []),
  (475, .iconst 2, 1, 0, (0, 0, 0, 0), 2, 0, []),
  (476, .iadd, 1, 0, (0, 0, 0, 0), 0, 0, []),
  (477, .iaload, 1, 0, (0, 0, 0, 0), 0, 0, []),
  (478, .invokevirtual 45, 3, 0, (31, 1145, 3, 8), 0, 0, []),
  (481, .aload_n 2, 1, 0, (2, 0, 0, 0), 0, 0, []),
  (482, .aload_n 0, 1, 0, (0, 0, 0, 0), 0, 0, []),
  (483, .iload_n 3, 1, 0, (3, 0, 0, 0), 0, 0, []),
  (484, .iconst 1, 1, 0, (0, 0, 0, 0), 1, 0, []),
  (485, .iadd, 1, 0, (0, 0, 0, 0), 0, 0, []),
  (486, .iaload, 1, 0, (0, 0, 0, 0), 0, 0, []),
  (487, .aload_n 0, 1, 0, (0, 0, 0, 0), 0, 0, []),
  (488, .iload_n 3, 1, 0, (3, 0, 0, 0), 0, 0, []),
  (489, .iconst 2, 1, 0, (0, 0, 0, 0), 2, 0, []),
  (490, .iadd, 1, 0, (0, 0, 0, 0), 0, 0, []),
  (491, .iaload, 1, 0, (0, 0, 0, 0), 0, 0, []),
  (492, .invokevirtual 48, 3, 0, (155, 2268, 3, 9), 0, 0, []),
  (495, .if_icmp .eq 1105, 3, 0, (1600, 0, 0, 0), 0, 0, []),
  (498, .iconst 0, 1, 0, (0, 0, 0, 0), 0, 0, []),
  (499, .ireturn, 1, 0, (0, 0, 0, 1), 0, 0, []),
  (500, .aload_n 1, 1, 0, (1, 0, 0, 0), 0, 0, []),
  (501, .aload_n 0, 1, 0, (0, 0, 0, 0), 0, 0, []),
  (502, .iload_n 3, 1, 0, (3, 0, 0, 0), 0, 0, []),
  (503, .iconst 1, 1, 0, (0, 0, 0, 0), 1, 0, []),
  (504, .iadd, 1, 0, (0, 0, 0, 0), 0, 0, []),
  (505, .iaload, 1, 0, (0, 0, 0, 0), 0, 0, []),
  (506, .invokevirtual 49, 3, 0, (33, 1153, 2, 8), 0, 0, []),
  (509, .aload_n 2, 1, 0, (2, 0, 0, 0), 0, 0, []),
  (510, .aload_n 0, 1, 0, (0, 0, 0, 0), 0, 0, []),
  (511, .iload_n 3, 1, 0, (3, 0, 0, 0), 0, 0, []),
  (512, .iconst 1, 1, 0, (0, 0, 0, 0), 1, 0, []),
  (513, .iadd, 1, 0, (0, 0, 0, 0), 0, 0, []),
  (514, .iaload, 1, 0, (0, 0, 0, 0), 0, 0, []),
  (515, .invokevirtual 52, 3, 0, (156, 2273, 2, 9), 0, 0, []),
  (518, .if_icmp .eq 1082, 3, 0, (1600, 0, 0, 0), 0, 0, []),
  (521, .iconst 0, 1, 0, (0, 0, 0, 0), 0, 0, []),
  (522, .ireturn, 1, 0, (0, 0, 0, 1), 0, 0, []),
  (523, .aload_n 1, 1, 0, (1, 0, 0, 0), 0, 0, []),
  (524, .aload_n 0, 1, 0, (0, 0, 0, 0), 0, 0, []),
  (525, .iload_n 3, 1, 0, (3, 0, 0, 0), 0, 0, []),
  (526, .iconst 1, 1, 0, (0, 0, 0, 0), 1, 0, []),
  (527, .iadd, 1, 0, (0, 0, 0, 0), 0, 0, []),
  (528, .iaload, 1, 0, (0, 0, 0, 0), 0, 0, []),
  (529, .aload_n 0, 1, 0, (0, 0, 0, 0), 0, 0, []),
  (530, .iload_n 3, 1, 0, (3, 0, 0, 0), 0, 0, []),
  (531, .iconst 2, 1, 0, (0, 0, 0, 0), 2, 0, []),
  (532, .iadd, 1, 0, (0, 0, 0, 0), 0, 0, []),
  (533, .iaload, 1, 0, (0, 0, 0, 0), 0, 0, []),
  (534, .invokevirtual 53, 3, 0, (45, 1206, 3, 8), 0, 0, []),
  (537, .aload_n 2, 1, 0, (2, 0, 0, 0), 0, 0, []),
  (538, .aload_n 0, 1, 0, (0, 0, 0, 0), 0, 0, []),
  (539, .iload_n 3, 1, 0, (3, 0, 0, 0), 0, 0, []),
  (540, .iconst 1, 1, 0, (0, 0, 0, 0), 1, 0, []),
  (541, .iadd, 1, 0, (0, 0, 0, 0), 0, 0, []),
  (542, .iaload, 1, 0, (0, 0, 0, 0), 0, 0, []),
  (543, .aload_n 0, 1, 0, (0, 0, 0, 0), 0, 0, []),
  (544, .iload_n 3, 1, 0, (3, 0, 0, 0), 0, 0, []),
  (545, .iconst 2, 1, 0, (0, 0, 0, 0), 2, 0, []),
  (546, .iadd, 1, 0, (0, 0, 0, 0), 0, 0, []),
  (547, .iaload, 1, 0, (0, 0, 0, 0), 0, 0, []),
  (548, .invokevirtual 56, 3, 0, (162, 2569, 3, 9), 0, 0, []),
  (551, .if_icmp .eq 1049, 3, 0, (1600, 0, 0, 0), 0, 0, []),
  (554, .iconst 0, 1, 0, (0, 0, 0, 0), 0, 0, []),
  (555, .ireturn, 1, 0, (0, 0, 0, 1), 0, 0, []),
  (556, .aload_n 1, 1, 0, (1, 0, 0, 0), 0, 0, []),
  (557, .aload_n 0, 1, 0, (0, 0, 0, 0), 0, 0, []),
  (558, .iload_n 3, 1, 0, (3, 0, 0, 0), 0, 0, []),
  (559, .iconst 1, 1, 0, (0, 0, 0, 0), 1, 0, []),
  (560, .iadd, 1, 0, (0, 0, 0, 0), 0, 0, []),
  (561, .iaload, 1, 0, (0, 0, 0, 0), 0, 0, []),
  (562, .aload_n 0, 1, 0, (0, 0, 0, 0), 0, 0, []),
  (563, .iload_n 3, 1, 0, (3, 0, 0, 0), 0, 0, []),
  (564, .iconst 2, 1, 0, (0, 0, 0, 0), 2, 0, []),
  (565, .iadd, 1, 0, (0, 0, 0, 0), 0, 0, []),
  (566, .iaload, 1, 0, (0, 0, 0, 0), 0, 0, []),
  (567, .invokevirtual 57, 3, 0, (48, 1219, 3, 8), 0, 0, []),
  (570, .aload_n 2, 1, 0, (2, 0, 0, 0), 0, 0, []),
  (571, .aload_n 0, 1, 0, (0, 0, 0, 0), 0, 0, []),
  (572, .iload_n 3, 1, 0, (3, 0, 0, 0), 0, 0, []),
  (573, .iconst 1, 1, 0, (0, 0, 0, 0), 1, 0, []),
  (574, .iadd, 1, 0, (0, 0, 0, 0), 0, 0, []),
  (575, .iaload, 1, 0, (0, 0, 0, 0), 0, 0, []),
  (576, .aload_n 0, 1, 0, (0, 0, 0, 0), 0, 0, []),
  (577, .iload_n 3, 1, 0, (3, 0, 0, 0), 0, 0, []),
  (578, .iconst 2, 1, 0, (0, 0, 0, 0), 2, 0, []),
  (579, .iadd, 1, 0, (0, 0, 0, 0), 0, 0, []),
  (580, .iaload, 1, 0, (0, 0, 0, 0), 0, 0, []),
  (581, .invokevirtual 60, 3, 0, (166, 2585, 3, 9), 0, 0, []),
  (584, .if_icmp .eq 1016, 3, 0, (1600, 0, 0, 0), 0, 0, []),
  (587, .iconst 0, 1, 0, (0, 0, 0, 0), 0, 0, []),
  (588, .ireturn, 1, 0, (0, 0, 0, 1), 0, 0, []),
  (589, .aload_n 1, 1, 0, (1, 0, 0, 0), 0, 0, []),
  (590, .aload_n 0, 1, 0, (0, 0, 0, 0), 0, 0, []),
  (591, .iload_n 3, 1, 0, (3, 0, 0, 0), 0, 0, []),
  (592, .iconst 1, 1, 0, (0, 0, 0, 0), 1, 0, []),
  (593, .iadd, 1, 0, (0, 0, 0, 0), 0, 0, []),
  (594, .iaload, 1, 0, (0, 0, 0, 0), 0, 0, []),
  (595, .aload_n 0, 1, 0, (0, 0, 0, 0), 0, 0, []),
  (596, .iload_n 3, 1, 0, (3, 0, 0, 0), 0, 0, []),
  (597, .iconst 2, 1, 0, (0, 0, 0, 0), 2, 0, []),
  (598, .iadd, 1, 0, (0, 0, 0, 0), 0, 0, []),
  (599, .iaload, 1, 0, (0, 0, 0, 0), 0, 0, []),
  (600, .invokevirtual 61, 3, 0, (49, 1223, 3, 8), 0, 0, []),
  (603, .aload_n 2, 1, 0, (2, 0, 0, 0), 0, 0, []),
  (604, .aload_n 0, 1, 0, (0, 0, 0, 0), 0, 0, []),
  (605, .iload_n 3, 1, 0, (3, 0, 0, 0), 0, 0, []),
  (606, .iconst 1, 1, 0, (0, 0, 0, 0), 1, 0, []),
  (607, .iadd, 1, 0, (0, 0, 0, 0), 0, 0, []),
  (608, .iaload, 1, 0, (0, 0, 0, 0), 0, 0, []),
  (609, .aload_n 0, 1, 0, (0, 0, 0, 0), 0, 0, []),
  (610, .iload_n 3, 1, 0, (3, 0, 0, 0), 0, 0, []),
  (611, .iconst 2, 1, 0, (0, 0, 0, 0), 2, 0, []),
  (612, .iadd, 1, 0, (0, 0, 0, 0), 0, 0, []),
  (613, .iaload, 1, 0, (0, 0, 0, 0), 0, 0, []),
  (614, .invokevirtual 64, 3, 0, (167, 2589, 3, 9), 0, 0, []),
  (617, .if_icmp .eq 983, 3, 0, (1600, 0, 0, 0), 0, 0, []),
  (620, .iconst 0, 1, 0, (0, 0, 0, 0), 0, 0, []),
  (621, .ireturn, 1, 0, (0, 0, 0, 1), 0, 0, []),
  (622, .aload_n 1, 1, 0, (1, 0, 0, 0), 0, 0, []),
  (623, .aload_n 0, 1, 0, (0, 0, 0, 0), 0, 0, []),
  (624, .iload_n 3, 1, 0, (3, 0, 0, 0), 0, 0, []),
  (625, .iconst 1, 1, 0, (0, 0, 0, 0), 1, 0, []),
  (626, .iadd, 1, 0, (0, 0, 0, 0), 0, 0, []),
  (627, .iaload, 1, 0, (0, 0, 0, 0), 0, 0, []),
  (628, .aload_n 0, 1, 0, (0, 0, 0, 0), 0, 0, []),
  (629, .iload_n 3, 1, 0, (3, 0, 0, 0), 0, 0, []),
  (630, .iconst 2, 1, 0, (0, 0, 0, 0), 2, 0, []),
  (631, .iadd, 1, 0, (0, 0, 0, 0), 0, 0, []),
  (632, .iaload, 1, 0, (0, 0, 0, 0), 0, 0, []),
  (633, .invokevirtual 65, 3, 0, (66, 1567, 3, 8), 0, 0, []),
  (636, .aload_n 2, 1, 0, (2, 0, 0, 0), 0, 0, []),
  (637, .aload_n 0, 1, 0, (0, 0, 0, 0), 0, 0, []),
  (638, .iload_n 3, 1, 0, (3, 0, 0, 0), 0, 0, []),
  (639, .iconst 1, 1, 0, (0, 0, 0, 0), 1, 0, []),
  (640, .iadd, 1, 0, (0, 0, 0, 0), 0, 0, []),
  (641, .iaload, 1, 0, (0, 0, 0, 0), 0, 0, []),
  (642, .aload_n 0, 1, 0, (0, 0, 0, 0), 0, 0, []),
  (643, .iload_n 3, 1, 0, (3, 0, 0, 0), 0, 0, []),
  (644, .iconst 2, 1, 0, (0, 0, 0, 0), 2, 0, []),
  (645, .iadd, 1, 0, (0, 0, 0, 0), 0, 0, []),
  (646, .iaload, 1, 0, (0, 0, 0, 0), 0, 0, []),
  (647, .invokevirtual 68, 3, 0, (180, 2637, 3, 9), 0, 0, []),
  (650, .if_icmp .eq 950, 3, 0, (1600, 0, 0, 0), 0, 0, []),
  (653, .iconst 0, 1, 0, (0, 0, 0, 0), 0, 0, []),
  (654, .ireturn, 1, 0, (0, 0, 0, 1), 0, 0, []),
  (655, .aload_n 1, 1, 0, (1, 0, 0, 0), 0, 0, []),
  (656, .aload_n 0, 1, 0, (0, 0, 0, 0), 0, 0, []),
  (657, .iload_n 3, 1, 0, (3, 0, 0, 0), 0, 0, []),
  (658, .iconst 1, 1, 0, (0, 0, 0, 0), 1, 0, []),
  (659, .iadd, 1, 0, (0, 0, 0, 0), 0, 0, []),
  (660, .iaload, 1, 0, (0, 0, 0, 0), 0, 0, []),
  (661, .aload_n 0, 1, 0, (0, 0, 0, 0), 0, 0, []),
  (662, .iload_n 3, 1, 0, (3, 0, 0, 0), 0, 0, []),
  (663, .iconst 2, 1, 0, (0, 0, 0, 0), 2, 0, []),
  (664, .iadd, 1, 0, (0, 0, 0, 0), 0, 0, []),
  (665, .iaload, 1, 0, (0, 0, 0, 0), 0, 0, []),
  (666, .aload_n 0, 1, 0, (0, 0, 0, 0), 0, 0, []),
  (667, .iload_n 3, 1, 0, (3, 0, 0, 0), 0, 0, []),
  (668, .iconst 3, 1, 0, (0, 0, 0, 0), 3, 0, []),
  (669, .iadd, 1, 0, (0, 0, 0, 0), 0, 0, []),
  (670, .iaload, 1, 0, (0, 0, 0, 0), 0, 0, []),
  (671, .aload_n 0, 1, 0, (0, 0, 0, 0), 0, 0, []),
  (672, .iload_n 3, 1, 0, (3, 0, 0, 0), 0, 0, []),
  (673, .iconst 4, 1, 0, (0, 0, 0, 0), 4, 0, []),
  (674, .iadd, 1, 0, (0, 0, 0, 0), 0, 0, []),
  (675, .iaload, 1, 0, (0, 0, 0, 0), 0, 0, []),
  (676, .aload_n 0, 1, 0, (0, 0, 0, 0), 0, 0, []),
  (677, .iload_n 3, 1, 0, (3, 0, 0, 0), 0, 0, []),
  (678, .iconst 5, 1, 0, (0, 0, 0, 0), 5, 0, []),
  (679, .iadd, 1, 0, (0, 0, 0, 0), 0, 0, []),
  (680, .iaload, 1, 0, (0, 0, 0, 0), 0, 0, []),
  (681, .invokevirtual 69, 3, 0, (67, 1571, 6, 8), 0, 0, []),
  (684, .aload_n 2, 1, 0, (2, 0, 0, 0), 0, 0, []),
  (685, .aload_n 0, 1, 0, (0, 0, 0, 0), 0, 0, []),
  (686, .iload_n 3, 1, 0, (3, 0, 0, 0), 0, 0, []),
  (687, .iconst 1, 1, 0, (0, 0, 0, 0), 1, 0, []),
  (688, .iadd, 1, 0, (0, 0, 0, 0), 0, 0, []),
  (689, .iaload, 1, 0, (0, 0, 0, 0), 0, 0, []),
  (690, .aload_n 0, 1, 0, (0, 0, 0, 0), 0, 0, []),
  (691, .iload_n 3, 1, 0, (3, 0, 0, 0), 0, 0, []),
  (692, .iconst 2, 1, 0, (0, 0, 0, 0), 2, 0, []),
  (693, .iadd, 1, 0, (0, 0, 0, 0), 0, 0, []),
  (694, .iaload, 1, 0, (0, 0, 0, 0), 0, 0, []),
  (695, .aload_n 0, 1, 0, (0, 0, 0, 0), 0, 0, []),
  (696, .iload_n 3, 1, 0, (3, 0, 0, 0), 0, 0, []),
  (697, .iconst 3, 1, 0, (0, 0, 0, 0), 3, 0, []),
  (698, .iadd, 1, 0, (0, 0, 0, 0), 0, 0, []),
  (699, .iaload, 1, 0, (0, 0, 0, 0), 0, 0, []),
  (700, .aload_n 0, 1, 0, (0, 0, 0, 0), 0, 0, []),
  (701, .iload_n 3, 1, 0, (3, 0, 0, 0), 0, 0, []),
  (702, .iconst 4, 1, 0, (0, 0, 0, 0), 4, 0, []),
  (703, .iadd, 1, 0, (0, 0, 0, 0), 0, 0, []),
  (704, .iaload, 1, 0, (0, 0, 0, 0), 0, 0, []),
  (705, .aload_n 0, 1, 0, (0, 0, 0, 0), 0, 0, []),
  (706, .iload_n 3, 1, 0, (3, 0, 0, 0), 0, 0, []),
  (707, .iconst 5, 1, 0, (0, 0, 0, 0), 5, 0, []),
  (708, .iadd, 1, 0, (0, 0, 0, 0), 0, 0, []),
  (709, .iaload, 1, 0, (0, 0, 0, 0), 0, 0, []),
  (710, .invokevirtual 72, 3, 0, (181, 2641, 6, 9), 0, 0, []),
  (713, .if_icmp .eq 887, 3, 0, (1600, 0, 0, 0), 0, 0, []),
  (716, .iconst 0, 1, 0, (0, 0, 0, 0), 0, 0, []),
  (717, .ireturn, 1, 0, (0, 0, 0, 1), 0, 0, []),
  (718, .aload_n 1, 1, 0, (1, 0, 0, 0), 0, 0, []),
  (719, .aload_n 0, 1, 0, (0, 0, 0, 0), 0, 0, []),
  (720, .iload_n 3, 1, 0, (3, 0, 0, 0), 0, 0, []),
  (721, .iconst 1, 1, 0, (0, 0, 0, 0), 1, 0, []),
  (722, .iadd, 1, 0, (0, 0, 0, 0), 0, 0, []),
  (723, .iaload, 1, 0, (0, 0, 0, 0), 0, 0, []),
  (724, .aload_n 0, 1, 0, (0, 0, 0, 0), 0, 0, []),
  (725, .iload_n 3, 1, 0, (3, 0, 0, 0), 0, 0, []),
  (726, .iconst 2, 1, 0, (0, 0, 0, 0), 2, 0, []),
  (727, .iadd, 1, 0, (0, 0, 0, 0), 0, 0, []),
  (728, .iaload, 1, 0, (0, 0, 0, 0), 0, 0, []),
  (729, .invokevirtual 73, 3, 0, (68, 1575, 3, 8), 0, 0, []),
  (732, .aload_n 2, 1, 0, (2, 0, 0, 0), 0, 0, []),
  (733, .aload_n 0, 1, 0, (0, 0, 0, 0), 0, 0, []),
  (734, .iload_n 3, 1, 0, (3, 0, 0, 0), 0, 0, []),
  (735, .iconst 1, 1, 0, (0, 0, 0, 0), 1, 0, []),
  (736, .iadd, 1, 0, (0, 0, 0, 0), 0, 0, []),
  (737, .iaload, 1, 0, (0, 0, 0, 0), 0, 0, []),
  (738, .aload_n 0, 1, 0, (0, 0, 0, 0), 0, 0, []),
  (739, .iload_n 3, 1, 0, (3, 0, 0, 0), 0, 0, []),
  (740, .iconst 2, 1, 0, (0, 0, 0, 0), 2, 0, []),
  (741, .iadd, 1, 0, (0, 0, 0, 0), 0, 0, []),
  (742, .iaload, 1, 0, (0, 0, 0, 0), 0, 0, []),
  (743, .invokevirtual 76, 3, 0, (182, 2645, 3, 9), 0, 0, []),
  (746, .if_icmp .eq 854, 3, 0, (1600, 0, 0, 0), 0, 0, []),
  (749, .iconst 0, 1, 0, (0, 0, 0, 0), 0, 0, []),
  (750, .ireturn, 1, 0, (0, 0, 0, 1), 0, 0, []),
  (751, .aload_n 1, 1, 0, (1, 0, 0, 0), 0, 0, []),
  (752, .aload_n 0, 1, 0, (0, 0, 0, 0), 0, 0, []),
  (753, .iload_n 3, 1, 0, (3, 0, 0, 0), 0, 0, []),
  (754, .iconst 1, 1, 0, (0, 0, 0, 0), 1, 0, []),
  (755, .iadd, 1, 0, (0, 0, 0, 0), 0, 0, []),
  (756, .iaload, 1, 0, (0, 0, 0, 0), 0, 0, []),
  (757, .aload_n 0, 1, 0, (0, 0, 0, 0), 0, 0, []),
  (758, .iload_n 3, 1, 0, (3, 0, 0, 0), 0, 0, []),
  (759, .iconst 2, 1, 0, (0, 0, 0, 0), 2, 0, []),
  (760, .iadd, 1, 0, (0, 0, 0, 0), 0, 0, []),
  (761, .iaload, 1, 0, (0, 0, 0, 0), 0, 0, []),
  (762, .aload_n 0, 1, 0, (0, 0, 0, 0), 0, 0, []),
  (763, .iload_n 3, 1, 0, (3, 0, 0, 0), 0, 0, []),
  (764, .iconst 3, 1, 0, (0, 0, 0, 0), 3, 0, []),
  (765, .iadd, 1, 0, (0, 0, 0, 0), 0, 0, []),
  (766, .iaload, 1, 0, (0, 0, 0, 0), 0, 0, []),
  (767, .invokevirtual 77, 3, 0, (69, 1579, 4, 8), 0, 0, []),
  (770, .aload_n 2, 1, 0, (2, 0, 0, 0), 0, 0, []),
  (771, .aload_n 0, 1, 0, (0, 0, 0, 0), 0, 0, []),
  (772, .iload_n 3, 1, 0, (3, 0, 0, 0), 0, 0, []),
  (773, .iconst 1, 1, 0, (0, 0, 0, 0), 1, 0, []),
  (774, .iadd, 1, 0, (0, 0, 0, 0), 0, 0, []),
  (775, .iaload, 1, 0, (0, 0, 0, 0), 0, 0, []),
  (776, .aload_n 0, 1, 0, (0, 0, 0, 0), 0, 0, []),
  (777, .iload_n 3, 1, 0, (3, 0, 0, 0), 0, 0, []),
  (778, .iconst 2, 1, 0, (0, 0, 0, 0), 2, 0, []),
  (779, .iadd, 1, 0, (0, 0, 0, 0), 0, 0, []),
  (780, .iaload, 1, 0, (0, 0, 0, 0), 0, 0, []),
  (781, .aload_n 0, 1, 0, (0, 0, 0, 0), 0, 0, []),
  (782, .iload_n 3, 1, 0, (3, 0, 0, 0), 0, 0, []),
  (783, .iconst 3, 1, 0, (0, 0, 0, 0), 3, 0, []),
  (784, .iadd, 1, 0, (0, 0, 0, 0), 0, 0, []),
  (785, .iaload, 1, 0, (0, 0, 0, 0), 0, 0, []),
  (786, .invokevirtual 81, 3, 0, (184, 2652, 4, 9), 0, 0, []),
  (789, .if_icmp .eq 811, 3, 0, (1600, 0, 0, 0), 0, 0, []),
  (792, .iconst 0, 1, 0, (0, 0, 0, 0), 0, 0, []),
  (793, .ireturn, 1, 0, (0, 0, 0, 1), 0, 0, []),
  (794, .aload_n 1, 1, 0, (1, 0, 0, 0), 0, 0, []),
  (795, .aload_n 0, 1, 0, (0, 0, 0, 0), 0, 0, []),
  (796, .iload_n 3, 1, 0, (3, 0, 0, 0), 0, 0, []),
  (797, .iconst 1, 1, 0, (0, 0, 0, 0), 1, 0, []),
  (798, .iadd, 1, 0, (0, 0, 0, 0), 0, 0, []),
  (799, .iaload, 1, 0, (0, 0, 0, 0), 0, 0, []),
  (800, .aload_n 0, 1, 0, (0, 0, 0, 0), 0, 0, []),
  (801, .iload_n 3, 1, 0, (3, 0, 0, 0), 0, 0, []),
  (802, .iconst 2, 1, 0, (0, 0, 0, 0), 2, 0, []),
  (803, .iadd, 1, 0, (0, 0, 0, 0), 0, 0, []),
  (804, .iaload, 1, 0, (0, 0, 0, 0), 0, 0, []),
  (805, .aload_n 0, 1, 0, (0, 0, 0, 0), 0, 0, []),
  (806, .iload_n 3, 1, 0, (3, 0, 0, 0), 0, 0, []),
  (807, .iconst 3, 1, 0, (0, 0, 0, 0), 3, 0, []),
  (808, .iadd, 1, 0, (0, 0, 0, 0), 0, 0, []),
  (809, .iaload, 1, 0, (0, 0, 0, 0), 0, 0, []),
  (810, .invokevirtual 82, 3, 0, (70, 1583, 4, 8), 0, 0, []),
  (813, .aload_n 2, 1, 0, (2, 0, 0, 0), 0, 0, []),
  (814, .aload_n 0, 1, 0, (0, 0, 0, 0), 0, 0, []),
  (815, .iload_n 3, 1, 0, (3, 0, 0, 0), 0, 0, []),
  (816, .iconst 1, 1, 0, (0, 0, 0, 0), 1, 0, []),
  (817, .iadd, 1, 0, (0, 0, 0, 0), 0, 0, []),
  (818, .iaload, 1, 0, (0, 0, 0, 0), 0, 0, []),
  (819, .aload_n 0, 1, 0, (0, 0, 0, 0), 0, 0, []),
  (820, .iload_n 3, 1, 0, (3, 0, 0, 0), 0, 0, []),
  (821, .iconst 2, 1, 0, (0, 0, 0, 0), 2, 0, []),
  (822, .iadd, 1, 0, (0, 0, 0, 0), 0, 0, []),
  (823, .iaload, 1, 0, (0, 0, 0, 0), 0, 0, []),
  (824, .aload_n 0, 1, 0, (0, 0, 0, 0), 0, 0, []),
  (825, .iload_n 3, 1, 0, (3, 0, 0, 0), 0, 0, []),
  (826, .iconst 3, 1, 0, (0, 0, 0, 0), 3, 0, []),
  (827, .iadd, 1, 0, (0, 0, 0, 0), 0, 0, []),
  (828, .iaload, 1, 0, (0, 0, 0, 0), 0, 0, []),
  (829, .invokevirtual 85, 3, 0, (185, 2656, 4, 9), 0, 0, []),
  (832, .if_icmp .eq 768, 3, 0, (1600, 0, 0, 0), 0, 0, []),
  (835, .iconst 0, 1, 0, (0, 0, 0, 0), 0, 0, []),
  (836, .ireturn, 1, 0, (0, 0, 0, 1), 0, 0, []),
  (837, .aload_n 1, 1, 0, (1, 0, 0, 0), 0, 0, []),
  (838, .aload_n 0, 1, 0, (0, 0, 0, 0), 0, 0, []),
  (839, .iload_n 3, 1, 0, (3, 0, 0, 0), 0, 0, []),
  (840, .iconst 1, 1, 0, (0, 0, 0, 0), 1, 0, []),
  (841, .iadd, 1, 0, (0, 0, 0, 0), 0, 0, []),
  (842, .iaload, 1, 0, (0, 0, 0, 0), 0, 0, []),
  (843, .aload_n 0, 1, 0, (0, 0, 0, 0), 0, 0, []),
  (844, .iload_n 3, 1, 0, (3, 0, 0, 0), 0, 0, []),
  (845, .iconst 2, 1, 0, (0, 0, 0, 0), 2, 0, []),
  (846, .iadd, 1, 0, (0, 0, 0, 0), 0, 0, []),
  (847, .iaload, 1, 0, (0, 0, 0, 0), 0, 0, []),
  (848, .invokevirtual 86, 3, 0, (74, 1606, 3, 8), 0, 0, []),
  (851, .aload_n 2, 1, 0, (2, 0, 0, 0), 0, 0, []),
  (852, .aload_n 0, 1, 0, (0, 0, 0, 0), 0, 0, []),
  (853, .iload_n 3, 1, 0, (3, 0, 0, 0), 0, 0, []),
  (854, .iconst 1, 1, 0, (0, 0, 0, 0), 1, 0, []),
  (855, .iadd, 1, 0, (0, 0, 0, 0), 0, 0, []),
  (856, .iaload, 1, 0, (0, 0, 0, 0), 0, 0, []),
  (857, .aload_n 0, 1, 0, (0, 0, 0, 0), 0, 0, []),
  (858, .iload_n 3, 1, 0, (3, 0, 0, 0), 0, 0, []),
  (859, .iconst 2, 1, 0, (0, 0, 0, 0), 2, 0, []),
  (860, .iadd, 1, 0, (0, 0, 0, 0), 0, 0, []),
  (861, .iaload, 1, 0, (0, 0, 0, 0), 0, 0, []),
  (862, .invokevirtual 89, 3, 0, (190, 2675, 3, 9), 0, 0, []),
  (865, .if_icmp .eq 735, 3, 0, (1600, 0, 0, 0), 0, 0, []),
  (868, .iconst 0, 1, 0, (0, 0, 0, 0), 0, 0, []),
  (869, .ireturn, 1, 0, (0, 0, 0, 1), 0, 0, []),
  (870, .aload_n 1, 1, 0, (1, 0, 0, 0), 0, 0, []),
  (871, .aload_n 0, 1, 0, (0, 0, 0, 0), 0, 0, []),
  (872, .iload_n 3, 1, 0, (3, 0, 0, 0), 0, 0, []),
  (873, .iconst 1, 1, 0, (0, 0, 0, 0), 1, 0, []),
  (874, .iadd, 1, 0, (0, 0, 0, 0), 0, 0, []),
  (875, .iaload, 1, 0, (0, 0, 0, 0), 0, 0, []),
  (876, .aload_n 0, 1, 0, (0, 0, 0, 0), 0, 0, []),
  (877, .iload_n 3, 1, 0, (3, 0, 0, 0), 0, 0, []),
  (878, .iconst 2, 1, 0, (0, 0, 0, 0), 2, 0, []),
  (879, .iadd, 1, 0, (0, 0, 0, 0), 0, 0, []),
  (880, .iaload, 1, 0, (0, 0, 0, 0), 0, 0, []),
  (881, .invokevirtual 90, 3, 0, (76, 1615, 3, 8), 0, 0, []),
  (884, .aload_n 2, 1, 0, (2, 0, 0, 0), 0, 0, []),
  (885, .aload_n 0, 1, 0, (0, 0, 0, 0), 0, 0, []),
  (886, .iload_n 3, 1, 0, (3, 0, 0, 0), 0, 0, []),
  (887, .iconst 1, 1, 0, (0, 0, 0, 0), 1, 0, []),
  (888, .iadd, 1, 0, (0, 0, 0, 0), 0, 0, []),
  (889, .iaload, 1, 0, (0, 0, 0, 0), 0, 0, []),
  (890, .aload_n 0, 1, 0, (0, 0, 0, 0), 0, 0, []),
  (891, .iload_n 3, 1, 0, (3, 0, 0, 0), 0, 0, []),
  (892, .iconst 2, 1, 0, (0, 0, 0, 0), 2, 0, []),
  (893, .iadd, 1, 0, (0, 0, 0, 0), 0, 0, []),
  (894, .iaload, 1, 0, (0, 0, 0, 0), 0, 0, []),
  (895, .invokevirtual 93, 3, 0, (192, 2683, 3, 9), 0, 0, []),
  (898, .if_icmp .eq 702, 3, 0, (1600, 0, 0, 0), 0, 0, []),
  (901, .iconst 0, 1, 0, (0, 0, 0, 0), 0, 0, []),
  (902, .ireturn, 1, 0, (0, 0, 0, 1), 0, 0, []),
  (903, .aload_n 1, 1, 0, (1, 0, 0, 0), 0, 0, []),
  (904, .aload_n 0, 1, 0, (0, 0, 0, 0), 0, 0, []),
  (905, .iload_n 3, 1, 0, (3, 0, 0, 0), 0, 0, []),
  (906, .iconst 1, 1, 0, (0, 0, 0, 0), 1, 0, []),
  (907, .iadd, 1, 0, (0, 0, 0, 0), 0, 0, []),
  (908, .iaload, 1, 0, (0, 0, 0, 0), 0, 0, []),
  (909, .aload_n 0, 1, 0, (0, 0, 0, 0), 0, 0, []),
  (910, .iload_n 3, 1, 0, (3, 0, 0, 0), 0, 0, []),
  (911, .iconst 2, 1, 0, (0, 0, 0, 0), 2, 0, []),
  (912, .iadd, 1, 0, (0, 0, 0, 0), 0, 0, []),
  (913, .iaload, 1, 0, (0, 0, 0, 0), 0, 0, []),
  (914, .invokevirtual 94, 3, 0, (78, 1624, 3, 8), 0, 0, []),
  (917, .aload_n 2, 1, 0, (2, 0, 0, 0), 0, 0, []),
  (918, .aload_n 0, 1, 0, (0, 0, 0, 0), 0, 0, []),
  (919, .iload_n 3, 1, 0, (3, 0, 0, 0), 0, 0, []),
  (920, .iconst 1, 1, 0, (0, 0, 0, 0), 1, 0, []),
  (921, .iadd, 1, 0, (0, 0, 0, 0), 0, 0, []),
  (922, .iaload, 1, 0, (0, 0, 0, 0), 0, 0, []),
  (923, .aload_n 0, 1, 0, (0, 0, 0, 0), 0, 0, []),
  (924, .iload_n 3, 1, 0, (3, 0, 0, 0), 0, 0, []),
  (925, .iconst 2, 1, 0, (0, 0, 0, 0), 2, 0, []),
  (926, .iadd, 1, 0, (0, 0, 0, 0), 0, 0, []),
  (927, .iaload, 1, 0, (0, 0, 0, 0), 0, 0, []),
  (928, .invokevirtual 97, 3, 0, (193, 2687, 3, 9), 0, 0, []),
  (931, .if_icmp .eq 669, 3, 0, (1600, 0, 0, 0), 0, 0, []),
  (934, .iconst 0, 1, 0, (0, 0, 0, 0), 0, 0, []),
  (935, .ireturn, 1, 0, (0, 0, 0, 1), 0, 0, []),
  (936, .aload_n 1, 1, 0, (1, 0, 0, 0), 0, 0, []),
  (937, .aload_n 0, 1, 0, (0, 0, 0, 0), 0, 0, []),
  (938, .iload_n 3, 1, 0, (3, 0, 0, 0), 0, 0, []),
  (939, .iconst 1, 1, 0, (0, 0, 0, 0), 1, 0, []),
  (940, .iadd, 1, 0, (0, 0, 0, 0), 0, 0, []),
  (941, .iaload, 1, 0, (0, 0, 0, 0), 0, 0, []),
  (942, .invokevirtual 98, 3, 0, (79, 1628, 2, 8), 0, 0, []),
  (945, .aload_n 2, 1, 0, (2, 0, 0, 0), 0, 0, []),
  (946, .aload_n 0, 1, 0, (0, 0, 0, 0), 0, 0, []),
  (947, .iload_n 3, 1, 0, (3, 0, 0, 0), 0, 0, []),
  (948, .iconst 1, 1, 0, (0, 0, 0, 0), 1, 0, []),
  (949, .iadd, 1, 0, (0, 0, 0, 0), 0, 0, []),
  (950, .iaload, 1, 0, (0, 0, 0, 0), 0, 0, []),
  (951, .invokevirtual 101, 3, 0, (195, 2694, 2, 9), 0, 0, []),
  (954, .if_icmp .eq 646, 3, 0, (1600, 0, 0, 0), 0, 0, []),
  (957, .iconst 0, 1, 0, (0, 0, 0, 0), 0, 0, []),
  (958, .ireturn, 1, 0, (0, 0, 0, 1), 0, 0, []),
  (959, .aload_n 1, 1, 0, (1, 0, 0, 0), 0, 0, []),
  (960, .aload_n 0, 1, 0, (0, 0, 0, 0), 0, 0, []),
  (961, .iload_n 3, 1, 0, (3, 0, 0, 0), 0, 0, []),
  (962, .iconst 1, 1, 0, (0, 0, 0, 0), 1, 0, []),
  (963, .iadd, 1, 0, (0, 0, 0, 0), 0, 0, []),
  (964, .iaload, 1, 0, (0, 0, 0, 0), 0, 0, []),
  (965, .invokevirtual 102, 3, 0, (80, 1632, 2, 8), 0, 0, []),
  (968, .aload_n 2, 1, 0, (2, 0, 0, 0), 0, 0, []),
  (969, .aload_n 0, 1, 0, (0, 0, 0, 0), 0, 0, []),
  (970, .iload_n 3, 1, 0, (3, 0, 0, 0), 0, 0, []),
  (971, .iconst 1, 1, 0, (0, 0, 0, 0), 1, 0, []),
  (972, .iadd, 1, 0, (0, 0, 0, 0), 0, 0, []),
  (973, .iaload, 1, 0, (0, 0, 0, 0), 0, 0, []),
  (974, .invokevirtual 105, 3, 0, (196, 2698, 2, 9), 0, 0, []),
  (977, .if_icmp .eq 623, 3, 0, (1600, 0, 0, 0), 0, 0, []),
  (980, .iconst 0, 1, 0, (0, 0, 0, 0), 0, 0, []),
  (981, .ireturn, 1, 0, (0, 0, 0, 1), 0, 0, []),
  (982, .aload_n 1, 1, 0, (1, 0, 0, 0), 0, 0, []),
  (983, .aload_n 0, 1, 0, (0, 0, 0, 0), 0, 0, []),
  (984, .iload_n 3, 1, 0, (3, 0, 0, 0), 0, 0, []),
  (985, .iconst 1, 1, 0, (0, 0, 0, 0), 1, 0, []),
  (986, .iadd, 1, 0, (0, 0, 0, 0), 0, 0, []),
  (987, .iaload, 1, 0, (0, 0, 0, 0), 0, 0, []),
  (988, .aload_n 0, 1, 0, (0, 0, 0, 0), 0, 0, []),
  (989, .iload_n 3, 1, 0, (3, 0, 0, 0), 0, 0, []),
  (990, .iconst 2, 1, 0, (0, 0, 0, 0), 2, 0, []),
  (991, .iadd, 1, 0, (0, 0, 0, 0), 0, 0, []),
  (992, .iaload, 1, 0, (0, 0, 0, 0), 0, 0, []),
  (993, .invokevirtual 106, 3, 0, (82, 1640, 3, 8), 0, 0, []),
  (996, .aload_n 2, 1, 0, (2, 0, 0, 0), 0, 0, []),
  (997, .aload_n 0, 1, 0, (0, 0, 0, 0), 0, 0, []),
  (998, .iload_n 3, 1, 0, (3, 0, 0, 0), 0, 0, []),
  (999, .iconst 1, 1, 0, (0, 0, 0, 0), 1, 0, []),
  (1000, .iadd, 1, 0, (0, 0, 0, 0), 0, 0, []),
  (1001, .iaload, 1, 0, (0, 0, 0, 0), 0, 0, []),
  (1002, .aload_n 0, 1, 0, (0, 0, 0, 0), 0, 0, []),
  (1003, .iload_n 3, 1, 0, (3, 0, 0, 0), 0, 0, []),
  (1004, .iconst 2, 1, 0, (0, 0, 0, 0), 2, 0, []),
  (1005, .iadd, 1, 0, (0, 0, 0, 0), 0, 0, []),
  (1006, .iaload, 1, 0, (0, 0, 0, 0), 0, 0, []),
  (1007, .invokevirtual 110, 3, 0, (197, 2702, 3, 9), 0, 0, []),
  (1010, .lcmp, 1, 0, (0, 0, 0, 0), 0, 0, []),
  (1011, .ifCond .eq 589, 3, 0, (1600, 0, 0, 0), 0, 0, []),
  (1014, .iconst 0, 1, 0, (0, 0, 0, 0), 0, 0, []),
  (1015, .ireturn, 1, 0, (0, 0, 0, 1), 0, 0, []),
  (1016, .aload_n 1, 1, 0, (1, 0, 0, 0), 0, 0, []),
  (1017, .aload_n 0, 1, 0, (0, 0, 0, 0), 0, 0, []),
  (1018, .iload_n 3, 1, 0, (3, 0, 0, 0), 0, 0, []),
  (1019, .iconst 1, 1, 0, (0, 0, 0, 0), 1, 0, []),
  (1020, .iadd, 1, 0, (0, 0, 0, 0), 0, 0, []),
  (1021, .iaload, 1, 0, (0, 0, 0, 0), 0, 0, []),
  (1022, .aload_n 0, 1, 0, (0, 0, 0, 0), 0, 0, []),
  (1023, .iload_n 3, 1, 0, (3, 0, 0, 0), 0, 0, []),
  (1024, .iconst 2, 1, 0, (0, 0, 0, 0), 2, 0, []),
  (1025, .iadd, 1, 0, (0, 0, 0, 0), 0, 0, []),
  (1026, .iaload, 1, 0, (0, 0, 0, 0), 0, 0, []),
  (1027, .invokevirtual 111, 3, 0, (83, 1648, 3, 8), 0, 0, []),
  (1030, .aload_n 2, 1, 0, (2, 0, 0, 0), 0, 0, []),
  (1031, .aload_n 0, 1, 0, (0, 0, 0, 0), 0, 0, []),
  (1032, .iload_n 3, 1, 0, (3, 0, 0, 0), 0, 0, []),
  (1033, .iconst 1, 1, 0, (0, 0, 0, 0), 1, 0, []),
  (1034, .iadd, 1, 0, (0, 0, 0, 0), 0, 0, []),
  (1035, .iaload, 1, 0, (0, 0, 0, 0), 0, 0, []),
  (1036, .aload_n 0, 1, 0, (0, 0, 0, 0), 0, 0, []),
  (1037, .iload_n 3, 1, 0, (3, 0, 0, 0), 0, 0, []),
  (1038, .iconst 2, 1, 0, (0, 0, 0, 0), 2, 0, []),
  (1039, .iadd, 1, 0, (0, 0, 0, 0), 0, 0, []),
  (1040, .iaload, 1, 0, (0, 0, 0, 0), 0, 0, []),
  (1041, .invokevirtual 114, 3, 0, (198, 2708, 3, 9), 0, 0, []),
  (1044, .if_icmp .eq 556, 3, 0, (1600, 0, 0, 0), 0, 0, []),
  (1047, .iconst 0, 1, 0, (0, 0, 0, 0), 0, 0, []),
  (1048, .ireturn, 1, 0, (0, 0, 0, 1), 0, 0, []),
  (1049, .aload_n 1, 1, 0, (1, 0, 0, 0), 0, 0, []),
  (1050, .aload_n 0, 1, 0, (0, 0, 0, 0), 0, 0, []),
  (1051, .iload_n 3, 1, 0, (3, 0, 0, 0), 0, 0, []),
  (1052, .iconst 1, 1, 0, (0, 0, 0, 0), 1, 0, []),
  (1053, .iadd, 1, 0, (0, 0, 0, 0), 0, 0, []),
  (1054, .iaload, 1, 0, (0, 0, 0, 0), 0, 0, []),
  (1055, .aload_n 0, 1, 0, (0, 0, 0, 0), 0, 0, []),
  (1056, .iload_n 3, 1, 0, (3, 0, 0, 0), 0, 0, []),
  (1057, .iconst 2, 1, 0, (0, 0, 0, 0), 2, 0, []),
  (1058, .iadd, 1, 0, (0, 0, 0, 0), 0, 0, []),
  (1059, .iaload, 1, 0, (0, 0, 0, 0), 0, 0, []),
  (1060, .aload_n 0, 1, 0, (0, 0, 0, 0), 0, 0, []),
  (1061, .iload_n 3, 1, 0, (3, 0, 0, 0), 0, 0, []),
  (1062, .iconst 3, 1, 0, (0, 0, 0, 0), 3, 0, []),
  (1063, .iadd, 1, 0, (0, 0, 0, 0), 0, 0, []),
  (1064, .iaload, 1, 0, (0, 0, 0, 0), 0, 0, []),
  (1065, .aload_n 0, 1, 0, (0, 0, 0, 0), 0, 0, []),
  (1066, .iload_n 3, 1, 0, (3, 0, 0, 0), 0, 0, []),
  (1067, .iconst 4, 1, 0, (0, 0, 0, 0), 4, 0, []),
  (1068, .iadd, 1, 0, (0, 0, 0, 0), 0, 0, []),
  (1069, .iaload, 1, 0, (0, 0, 0, 0), 0, 0, []),
  (1070, .invokevirtual 115, 3, 0, (84, 1652, 5, 8), 0, 0, []),
  (1073, .aload_n 2, 1, 0, (2, 0, 0, 0), 0, 0, []),
  (1074, .aload_n 0, 1, 0, (0, 0, 0, 0), 0, 0, []),
  (1075, .iload_n 3, 1, 0, (3, 0, 0, 0), 0, 0, []),
  (1076, .iconst 1, 1, 0, (0, 0, 0, 0), 1, 0, []),
  (1077, .iadd, 1, 0, (0, 0, 0, 0), 0, 0, []),
  (1078, .iaload, 1, 0, (0, 0, 0, 0), 0, 0, []),
  (1079, .aload_n 0, 1, 0, (0, 0, 0, 0), 0, 0, []),
  (1080, .iload_n 3, 1, 0, (3, 0, 0, 0), 0, 0, []),
  (1081, .iconst 2, 1, 0, (0, 0, 0, 0), 2, 0, []),
  (1082, .iadd, 1, 0, (0, 0, 0, 0), 0, 0, []),
  (1083, .iaload, 1, 0, (0, 0, 0, 0), 0, 0, []),
  (1084, .aload_n 0, 1, 0, (0, 0, 0, 0), 0, 0, []),
  (1085, .iload_n 3, 1, 0, (3, 0, 0, 0), 0, 0, []),
  (1086, .iconst 3, 1, 0, (0, 0, 0, 0), 3, 0, []),
  (1087, .iadd, 1, 0, (0, 0, 0, 0), 0, 0, []),
  (1088, .iaload, 1, 0, (0, 0, 0, 0), 0, 0, []),
  (1089, .aload_n 0, 1, 0, (0, 0, 0, 0), 0, 0, []),
  (1090, .iload_n 3, 1, 0, (3, 0, 0, 0), 0, 0, []),
  (1091, .iconst 4, 1, 0, (0, 0, 0, 0), 4, 0, []),
  (1092, .iadd, 1, 0, (0, 0, 0, 0), 0, 0, []),
  (1093, .iaload, 1, 0, (0, 0, 0, 0), 0, 0, []),
  (1094, .invokevirtual 118, 3, 0, (199, 2712, 5, 9), 0, 0, []),
  (1097, .if_icmp .eq 503, 3, 0, (1600, 0, 0, 0), 0, 0, []),
  (1100, .iconst 0, 1, 0, (0, 0, 0, 0), 0, 0, []),
  (1101, .ireturn, 1, 0, (0, 0, 0, 1), 0, 0, []),
  (1102, .aload_n 1, 1, 0, (1, 0, 0, 0), 0, 0, []),
  (1103, .aload_n 0, 1, 0, (0, 0, 0, 0), 0, 0, []),
  (1104, .iload_n 3, 1, 0, (3, 0, 0, 0), 0, 0, []),
  (1105, .iconst 1, 1, 0, (0, 0, 0, 0), 1, 0, []),
  (1106, .iadd, 1, 0, (0, 0, 0, 0), 0, 0, []),
  (1107, .iaload, 1, 0, (0, 0, 0, 0), 0, 0, []),
  (1108, .aload_n 0, 1, 0, (0, 0, 0, 0), 0, 0, []),
  (1109, .iload_n 3, 1, 0, (3, 0, 0, 0), 0, 0, []),
  (1110, .iconst 2, 1, 0, (0, 0, 0, 0), 2, 0, []),
  (1111, .iadd, 1, 0, (0, 0, 0, 0), 0, 0, []),
  (1112, .iaload, 1, 0, (0, 0, 0, 0), 0, 0, []),
  (1113, .aload_n 0, 1, 0, (0, 0, 0, 0), 0, 0, []),
  (1114, .iload_n 3, 1, 0, (3, 0, 0, 0), 0, 0, []),
  (1115, .iconst 3, 1, 0, (0, 0, 0, 0), 3, 0, []),
  (1116, .iadd, 1, 0, (0, 0, 0, 0), 0, 0, []),
  (1117, .iaload, 1, 0, (0, 0, 0, 0), 0, 0, []),
  (1118, .invokevirtual 119, 3, 0, (85, 1656, 4, 8), 0, 0, []),
  (1121, .aload_n 2, 1, 0, (2, 0, 0, 0), 0, 0, []),
  (1122, .aload_n 0, 1, 0, (0, 0, 0, 0), 0, 0, []),
  (1123, .iload_n 3, 1, 0, (3, 0, 0, 0), 0, 0, []),
  (1124, .iconst 1, 1, 0, (0, 0, 0, 0), 1, 0, []),
  (1125, .iadd, 1, 0, (0, 0, 0, 0), 0, 0, []),
  (1126, .iaload, 1, 0, (0, 0, 0, 0), 0, 0, []),
  (1127, .aload_n 0, 1, 0, (0, 0, 0, 0), 0, 0, []),
  (1128, .iload_n 3, 1, 0, (3, 0, 0, 0), 0, 0, []),
  (1129, .iconst 2, 1, 0, (0, 0, 0, 0), 2, 0, []),
  (1130, .iadd, 1, 0, (0, 0, 0, 0), 0, 0, []),
  (1131, .iaload, 1, 0, (0, 0, 0, 0), 0, 0, []),
  (1132, .aload_n 0, 1, 0, (0, 0, 0, 0), 0, 0, []),
  (1133, .iload_n 3, 1, 0, (3, 0, 0, 0), 0, 0, []),
  (1134, .iconst 3, 1, 0, (0, 0, 0, 0), 3, 0, []),
  (1135, .iadd, 1, 0, (0, 0, 0, 0), 0, 0, []),
  (1136, .iaload, 1, 0, (0, 0, 0, 0), 0, 0, []),
  (1137, .invokevirtual 122, 3, 0, (200, 2716, 4, 9), 0, 0, []),
  (1140, .if_icmp .eq 460, 3, 0, (1600, 0, 0, 0), 0, 0, []),
  (1143, .iconst 0, 1, 0, (0, 0, 0, 0), 0, 0, []),
  (1144, .ireturn, 1, 0, (0, 0, 0, 1), 0, 0, []),
  (1145, .aload_n 1, 1, 0, (1, 0, 0, 0), 0, 0, []),
  (1146, .aload_n 0, 1, 0, (0, 0, 0, 0), 0, 0, []),
  (1147, .iload_n 3, 1, 0, (3, 0, 0, 0), 0, 0, []),
  (1148, .iconst 1, 1, 0, (0, 0, 0, 0), 1, 0, []),
  (1149, .iadd, 1, 0, (0, 0, 0, 0), 0, 0, []),
  (1150, .iaload, 1, 0, (0, 0, 0, 0), 0, 0, []),
  (1151, .aload_n 0, 1, 0, (0, 0, 0, 0), 0, 0, []),
  (1152, .iload_n 3, 1, 0, (3, 0, 0, 0), 0, 0, []),
  (1153, .iconst 2, 1, 0, (0, 0, 0, 0), 2, 0, []),
  (1154, .iadd, 1, 0, (0, 0, 0, 0), 0, 0, []),
  (1155, .iaload, 1, 0, (0, 0, 0, 0), 0, 0, []),
  (1156, .invokevirtual 123, 3, 0, (87, 1664, 3, 8), 0, 0, []),
  (1159, .aload_n 2, 1, 0, (2, 0, 0, 0), 0, 0, []),
  (1160, .aload_n 0, 1, 0, (0, 0, 0, 0), 0, 0, []),
  (1161, .iload_n 3, 1, 0, (3, 0, 0, 0), 0, 0, []),
  (1162, .iconst 1, 1, 0, (0, 0, 0, 0), 1, 0, []),
  (1163, .iadd, 1, 0, (0, 0, 0, 0), 0, 0, []),
  (1164, .iaload, 1, 0, (0, 0, 0, 0), 0, 0, []),
  (1165, .aload_n 0, 1, 0, (0, 0, 0, 0), 0, 0, []),
  (1166, .iload_n 3, 1, 0, (3, 0, 0, 0), 0, 0, []),
  (1167, .iconst 2, 1, 0, (0, 0, 0, 0), 2, 0, []),
  (1168, .iadd, 1, 0, (0, 0, 0, 0), 0, 0, []),
  (1169, .iaload, 1, 0, (0, 0, 0, 0), 0, 0, []),
  (1170, .invokevirtual 126, 3, 0, (201, 2720, 3, 9), 0, 0, []),
  (1173, .if_icmp .eq 427, 3, 0, (1600, 0, 0, 0), 0, 0, []),
  (1176, .iconst 0, 1, 0, (0, 0, 0, 0), 0, 0, []),
  (1177, .ireturn, 1, 0, (0, 0, 0, 1), 0, 0, []),
  (1178, .aload_n 1, 1, 0, (1, 0, 0, 0), 0, 0, []),
  (1179, .aload_n 0, 1, 0, (0, 0, 0, 0), 0, 0, []),
  (1180, .iload_n 3, 1, 0, (3, 0, 0, 0), 0, 0, []),
  (1181, .iconst 1, 1, 0, (0, 0, 0, 0), 1, 0, []),
  (1182, .iadd, 1, 0, (0, 0, 0, 0), 0, 0, []),
  (1183, .iaload, 1, 0, (0, 0, 0, 0), 0, 0, []),
  (1184, .invokevirtual 127, 3, 0, (88, 1668, 2, 8), 0, 0, []),
  (1187, .aload_n 2, 1, 0, (2, 0, 0, 0), 0, 0, []),
  (1188, .aload_n 0, 1, 0, (0, 0, 0, 0), 0, 0, []),
  (1189, .iload_n 3, 1, 0, (3, 0, 0, 0), 0, 0, []),
  (1190, .iconst 1, 1, 0, (0, 0, 0, 0), 1, 0, []),
  (1191, .iadd, 1, 0, (0, 0, 0, 0), 0, 0, []),
  (1192, .iaload, 1, 0, (0, 0, 0, 0), 0, 0, []),
  (1193, .invokevirtual 130, 3, 0, (202, 2724, 2, 9), 0, 0, []),
  (1196, .if_icmp .eq 404, 3, 0, (1600, 0, 0, 0), 0, 0, []),
  (1199, .iconst 0, 1, 0, (0, 0, 0, 0), 0, 0, []),
  (1200, .ireturn, 1, 0, (0, 0, 0, 1), 0, 0, []),
  (1201, .aload_n 1, 1, 0, (1, 0, 0, 0), 0, 0, []),
  (1202, .invokevirtual 131, 3, 0, (106, 1744, 1, 8), 0, 0, []),
  (1205, .aload_n 2, 1, 0, (2, 0, 0, 0), 0, 0, []),
  (1206, .invokevirtual 135, 3, 0, (212, 2765, 1, 9), 0, 0, []),
  (1209, .if_icmp .eq 391, 3, 0, (1600, 0, 0, 0), 0, 0, []),
  (1212, .iconst 0, 1, 0, (0, 0, 0, 0), 0, 0, []),
  (1213, .ireturn, 1, 0, (0, 0, 0, 1), 0, 0, []),
  (1214, .aload_n 1, 1, 0, (1, 0, 0, 0), 0, 0, []),
  (1215, .aload_n 0, 1, 0, (0, 0, 0, 0), 0, 0, []),
  (1216, .iload_n 3, 1, 0, (3, 0, 0, 0), 0, 0, []),
  (1217, .iconst 1, 1, 0, (0, 0, 0, 0), 1, 0, []),
  (1218, .iadd, 1, 0, (0, 0, 0, 0), 0, 0, []),
  (1219, .iaload, 1, 0, (0, 0, 0, 0), 0, 0, []),
  (1220, .aload_n 0, 1, 0, (0, 0, 0, 0), 0, 0, []),
  (1221, .iload_n 3, 1, 0, (3, 0, 0, 0), 0, 0, []),
  (1222, .iconst 2, 1, 0, (0, 0, 0, 0), 2, 0, []),
  (1223, .iadd, 1, 0, (0, 0, 0, 0), 0, 0, []),
  (1224, .iaload, 1, 0, (0, 0, 0, 0), 0, 0, []),
  (1225, .ifCond .eq 7, 3, 0, (1232, 0, 0, 0), 0, 0, []),
  (1228, .iconst 1, 1, 0, (0, 0, 0, 0), 1, 0, []),
  (1229, .goto 4, 3, 0, (1233, 0, 0, 0), 0, 0, []),
  (1232, .iconst 0, 1, 0, (0, 0, 0, 0), 0, 0, []),
  (1233, .invokevirtual 136, 3, 0, (108, 1752, 3, 8), 0, 0, []),
  (1236, .aload_n 2, 1, 0, (2, 0, 0, 0), 0, 0, []),
  (1237, .aload_n 0, 1, 0, (0, 0, 0, 0), 0, 0, []),
  (1238, .iload_n 3, 1, 0, (3, 0, 0, 0), 0, 0, []),
  (1239, .iconst 1, 1, 0, (0, 0, 0, 0), 1, 0, []),
  (1240, .iadd, 1, 0, (0, 0, 0, 0), 0, 0, []),
  (1241, .iaload, 1, 0, (0, 0, 0, 0), 0, 0, []),
  (1242, .aload_n 0, 1, 0, (0, 0, 0, 0), 0, 0, []),
  (1243, .iload_n 3, 1, 0, (3, 0, 0, 0), 0, 0, []),
  (1244, .iconst 2, 1, 0, (0, 0, 0, 0), 2, 0, []),
  (1245, .iadd, 1, 0, (0, 0, 0, 0), 0, 0, []),
  (1246, .iaload, 1, 0, (0, 0, 0, 0), 0, 0, []),
  (1247, .ifCond .eq 7, 3, 0, (1254, 0, 0, 0), 0, 0, []),
  (1250, .iconst 1, 1, 0, (0, 0, 0, 0), 1, 0, []),
  (1251, .goto 4, 3, 0, (1255, 0, 0, 0), 0, 0, []),
  (1254, .iconst 0, 1, 0, (0, 0, 0, 0), 0, 0, []),
  (1255, .invokevirtual 140, 3, 0, (213, 2769, 3, 9), 0, 0, []),
  (1258, .if_icmp .eq 342, 3, 0, (1600, 0, 0, 0), 0, 0, []),
  (1261, .iconst 0, 1, 0, (0, 0, 0, 0), 0, 0, []),
  (1262, .ireturn, 1, 0, (0, 0, 0, 1), 0, 0, []),
  (1263, .aload_n 1, 1, 0, (1, 0, 0, 0), 0, 0, []),
  (1264, .invokevirtual 141, 3, 0, (109, 1756, 1, 8), 0, 0, []),
  (1267, .aload_n 2, 1, 0, (2, 0, 0, 0), 0, 0, []),
  (1268, .invokevirtual 144, 3, 0, (214, 2773, 1, 9), 0, 0, []),
  (1271, .if_icmp .eq 329, 3, 0, (1600, 0, 0, 0), 0, 0, []),
  (1274, .iconst 0, 1, 0, (0, 0, 0, 0), 0, 0, []),
  (1275, .ireturn, 1, 0, (0, 0, 0, 1), 0, 0, []),
  (1276, .aload_n 1, 1, 0, (1, 0, 0, 0), 0, 0, []),
  (1277, .aload_n 0, 1, 0, (0, 0, 0, 0), 0, 0, []),
  (1278, .iload_n 3, 1, 0, (3, 0, 0, 0), 0, 0, []),
  (1279, .iconst 1, 1, 0, (0, 0, 0, 0), 1, 0, []),
  (1280, .iadd, 1, 0, (0, 0, 0, 0), 0, 0, []),
  (1281, .iaload, 1, 0, (0, 0, 0, 0), 0, 0, []),
  (1282, .invokevirtual 145, 3, 0, (110, 1760, 2, 8), 0, 0, []),
  (1285, .aload_n 2, 1, 0, (2, 0, 0, 0), 0, 0, []),
  (1286, .aload_n 0, 1, 0, (0, 0, 0, 0), 0, 0, []),
  (1287, .iload_n 3, 1, 0, (3, 0, 0, 0), 0, 0, []),
  (1288, .iconst 1, 1, 0, (0, 0, 0, 0), 1, 0, []),
  (1289, .iadd, 1, 0, (0, 0, 0, 0), 0, 0, []),
  (1290, .iaload, 1, 0, (0, 0, 0, 0), 0, 0, []),
  (1291, .invokevirtual 148, 3, 0, (215, 2777, 2, 9), 0, 0, []),
  (1294, .if_icmp .eq 306, 3, 0, (1600, 0, 0, 0), 0, 0, []),
  (1297, .iconst 0, 1, 0, (0, 0, 0, 0), 0, 0, []),
  (1298, .ireturn, 1, 0, (0, 0, 0, 1), 0, 0, []),
  (1299, .aload_n 1, 1, 0, (1, 0, 0, 0), 0, 0, []),
  (1300, .aload_n 0, 1, 0, (0, 0, 0, 0), 0, 0, []),
  (1301, .iload_n 3, 1, 0, (3, 0, 0, 0), 0, 0, []),
  (1302, .iconst 1, 1, 0, (0, 0, 0, 0), 1, 0, []),
  (1303, .iadd, 1, 0, (0, 0, 0, 0), 0, 0, []),
  (1304, .iaload, 1, 0, (0, 0, 0, 0), 0, 0, []),
  (1305, .aload_n 0, 1, 0, (0, 0, 0, 0), 0, 0, []),
  (1306, .iload_n 3, 1, 0, (3, 0, 0, 0), 0, 0, []),
  (1307, .iconst 2, 1, 0, (0, 0, 0, 0), 2, 0, []),
  (1308, .iadd, 1, 0, (0, 0, 0, 0), 0, 0, []),
  (1309, .iaload, 1, 0, (0, 0, 0, 0), 0, 0, []),
  (1310, .invokevirtual 149, 3, 0, (115, 2052, 3, 8), 0, 0, []),
  (1313, .aload_n 2, 1, 0, (2, 0, 0, 0), 0, 0, []),
  (1314, .aload_n 0, 1, 0, (0, 0, 0, 0), 0, 0, []),
  (1315, .iload_n 3, 1, 0, (3, 0, 0, 0), 0, 0, []),
  (1316, .iconst 1, 1, 0, (0, 0, 0, 0), 1, 0, []),
  (1317, .iadd, 1, 0, (0, 0, 0, 0), 0, 0, []),
  (1318, .iaload, 1, 0, (0, 0, 0, 0), 0, 0, []),
  (1319, .aload_n 0, 1, 0, (0, 0, 0, 0), 0, 0, []),
  (1320, .iload_n 3, 1, 0, (3, 0, 0, 0), 0, 0, []),
  (1321, .iconst 2, 1, 0, (0, 0, 0, 0), 2, 0, []),
  (1322, .iadd, 1, 0, (0, 0, 0, 0), 0, 0, []),
  (1323, .iaload, 1, 0, (0, 0, 0, 0), 0, 0, []),
  (1324, .invokevirtual 152, 3, 0, (217, 2785, 3, 9), 0, 0, []),
  (1327, .if_icmp .eq 273, 3, 0, (1600, 0, 0, 0), 0, 0, []),
  (1330, .iconst 0, 1, 0, (0, 0, 0, 0), 0, 0, []),
  (1331, .ireturn, 1, 0, (0, 0, 0, 1), 0, 0, []),
  (1332, .aload_n 1, 1, 0, (1, 0, 0, 0), 0, 0, []),
  (1333, .aload_n 0, 1, 0, (0, 0, 0, 0), 0, 0, []),
  (1334, .iload_n 3, 1, 0, (3, 0, 0, 0), 0, 0, []),
  (1335, .iconst 1, 1, 0, (0, 0, 0, 0), 1, 0, []),
  (1336, .iadd, 1, 0, (0, 0, 0, 0), 0, 0, []),
  (1337, .iaload, 1, 0, (0, 0, 0, 0), 0, 0, []),
  (1338, .aload_n 0, 1, 0, (0, 0, 0, 0), 0, 0, []),
  (1339, .iload_n 3, 1, 0, (3, 0, 0, 0), 0, 0, []),
  (1340, .iconst 2, 1, 0, (0, 0, 0, 0), 2, 0, []),
  (1341, .iadd, 1, 0, (0, 0, 0, 0), 0, 0, []),
  (1342, .iaload, 1, 0, (0, 0, 0, 0), 0, 0, []),
  (1343, .aload_n 0, 1, 0, (0, 0, 0, 0), 0, 0, []),
  (1344, .iload_n 3, 1, 0, (3, 0, 0, 0), 0, 0, []),
  (1345, .iconst 3, 1, 0, (0, 0, 0, 0), 3, 0, []),
  (1346, .iadd, 1, 0, (0, 0, 0, 0), 0, 0, []),
  (1347, .iaload, 1, 0, (0, 0, 0, 0), 0, 0, []),
  (1348, .invokevirtual 153, 3, 0, (116, 2056, 4, 8), 0, 0, []),
  (1351, .aload_n 2, 1, 0, (2, 0, 0, 0), 0, 0, []),
  (1352, .aload_n 0, 1, 0, (0, 0, 0, 0), 0, 0, []),
  (1353, .iload_n 3, 1, 0, (3, 0, 0, 0), 0, 0, []),
  (1354, .iconst 1, 1, 0, (0, 0, 0, 0), 1, 0, []),
  (1355, .iadd, 1, 0, (0, 0, 0, 0), 0, 0, []),
  (1356, .iaload, 1, 0, (0, 0, 0, 0), 0, 0, []),
  (1357, .aload_n 0, 1, 0, (0, 0, 0, 0), 0, 0, []),
  (1358, .iload_n 3, 1, 0, (3, 0, 0, 0), 0, 0, []),
  (1359, .iconst 2, 1, 0, (0, 0, 0, 0), 2, 0, []),
  (1360, .iadd, 1, 0, (0, 0, 0, 0), 0, 0, []),
  (1361, .iaload, 1, 0, (0, 0, 0, 0), 0, 0, []),
  (1362, .aload_n 0, 1, 0, (0, 0, 0, 0), 0, 0, []),
  (1363, .iload_n 3, 1, 0, (3, 0, 0, 0), 0, 0, []),
  (1364, .iconst 3, 1, 0, (0, 0, 0, 0), 3, 0, []),
  (1365, .iadd, 1, 0, (0, 0, 0, 0), 0, 0, []),
  (1366, .iaload, 1, 0, (0, 0, 0, 0), 0, 0, []),
  (1367, .invokevirtual 156, 3, 0, (218, 2789, 4, 9), 0, 0, []),
  (1370, .if_icmp .eq 230, 3, 0, (1600, 0, 0, 0), 0, 0, []),
  (1373, .iconst 0, 1, 0, (0, 0, 0, 0), 0, 0, []),
  (1374, .ireturn, 1, 0, (0, 0, 0, 1), 0, 0, []),
  (1375, .aload_n 1, 1, 0, (1, 0, 0, 0), 0, 0, []),
  (1376, .aload_n 0, 1, 0, (0, 0, 0, 0), 0, 0, []),
  (1377, .iload_n 3, 1, 0, (3, 0, 0, 0), 0, 0, []),
  (1378, .iconst 1, 1, 0, (0, 0, 0, 0), 1, 0, []),
  (1379, .iadd, 1, 0, (0, 0, 0, 0), 0, 0, []),
  (1380, .iaload, 1, 0, (0, 0, 0, 0), 0, 0, []),
  (1381, .aload_n 0, 1, 0, (0, 0, 0, 0), 0, 0, []),
  (1382, .iload_n 3, 1, 0, (3, 0, 0, 0), 0, 0, []),
  (1383, .iconst 2, 1, 0, (0, 0, 0, 0), 2, 0, []),
  (1384, .iadd, 1, 0, (0, 0, 0, 0), 0, 0, []),
  (1385, .iaload, 1, 0, (0, 0, 0, 0), 0, 0, []),
  (1386, .invokevirtual 157, 3, 0, (117, 2060, 3, 8), 0, 0, []),
  (1389, .aload_n 2, 1, 0, (2, 0, 0, 0), 0, 0, []),
  (1390, .aload_n 0, 1, 0, (0, 0, 0, 0), 0, 0, []),
  (1391, .iload_n 3, 1, 0, (3, 0, 0, 0), 0, 0, []),
  (1392, .iconst 1, 1, 0, (0, 0, 0, 0), 1, 0, []),
  (1393, .iadd, 1, 0, (0, 0, 0, 0), 0, 0, []),
  (1394, .iaload, 1, 0, (0, 0, 0, 0), 0, 0, []),
  (1395, .aload_n 0, 1, 0, (0, 0, 0, 0), 0, 0, []),
  (1396, .iload_n 3, 1, 0, (3, 0, 0, 0), 0, 0, []),
  (1397, .iconst 2, 1, 0, (0, 0, 0, 0), 2, 0, []),
  (1398, .iadd, 1, 0, (0, 0, 0, 0), 0, 0, []),
  (1399, .iaload, 1, 0, (0, 0, 0, 0), 0, 0, []),
  (1400, .invokevirtual 160, 3, 0, (219, 2793, 3, 9), 0, 0, []),
  (1403, .if_icmp .eq 197, 3, 0, (1600, 0, 0, 0), 0, 0, []),
  (1406, .iconst 0, 1, 0, (0, 0, 0, 0), 0, 0, []),
  (1407, .ireturn, 1, 0, (0, 0, 0, 1), 0, 0, []),
  (1408, .aload_n 1, 1, 0, (1, 0, 0, 0), 0, 0, []),
  (1409, .aload_n 0, 1, 0, (0, 0, 0, 0), 0, 0, []),
  (1410, .iload_n 3, 1, 0, (3, 0, 0, 0), 0, 0, []),
  (1411, .iconst 1, 1, 0, (0, 0, 0, 0), 1, 0, []),
  (1412, .iadd, 1, 0, (0, 0, 0, 0), 0, 0, []),
  (1413, .iaload, 1, 0, (0, 0, 0, 0), 0, 0, []),
  (1414, .aload_n 0, 1, 0, (0, 0, 0, 0), 0, 0, []),
  (1415, .iload_n 3, 1, 0, (3, 0, 0, 0), 0, 0, []),
  (1416, .iconst 2, 1, 0, (0, 0, 0, 0), 2, 0, []),
  (1417, .iadd, 1, 0, (0, 0, 0, 0), 0, 0, []),
  (1418, .iaload, 1, 0, (0, 0, 0, 0), 0, 0, []),
  (1419, .aload_n 0, 1, 0, (0, 0, 0, 0), 0, 0, []),
  (1420, .iload_n 3, 1, 0, (3, 0, 0, 0), 0, 0, []),
  (1421, .iconst 3, 1, 0, (0, 0, 0, 0), 3, 0, []),
  (1422, .iadd, 1, 0, (0, 0, 0, 0), 0, 0, []),
  (1423, .iaload, 1, 0, (0, 0, 0, 0), 0, 0, []),
  (1424, .invokevirtual 161, 3, 0, (118, 2064, 4, 8), 0, 0, []),
  (1427, .aload_n 2, 1, 0, (2, 0, 0, 0), 0, 0, []),
  (1428, .aload_n 0, 1, 0, (0, 0, 0, 0), 0, 0, []),
  (1429, .iload_n 3, 1, 0, (3, 0, 0, 0), 0, 0, []),
  (1430, .iconst 1, 1, 0, (0, 0, 0, 0), 1, 0, []),
  (1431, .iadd, 1, 0, (0, 0, 0, 0), 0, 0, []),
  (1432, .iaload, 1, 0, (0, 0, 0, 0), 0, 0, []),
  (1433, .aload_n 0, 1, 0, (0, 0, 0, 0), 0, 0, []),
  (1434, .iload_n 3, 1, 0, (3, 0, 0, 0), 0, 0, []),
  (1435, .iconst 2, 1, 0, (0, 0, 0, 0), 2, 0, []),
  (1436, .iadd, 1, 0, (0, 0, 0, 0), 0, 0, []),
  (1437, .iaload, 1, 0, (0, 0, 0, 0), 0, 0, []),
  (1438, .aload_n 0, 1, 0, (0, 0, 0, 0), 0, 0, []),
  (1439, .iload_n 3, 1, 0, (3, 0, 0, 0), 0, 0, []),
  (1440, .iconst 3, 1, 0, (0, 0, 0, 0), 3, 0, []),
  (1441, .iadd, 1, 0, (0, 0, 0, 0), 0, 0, []),
  (1442, .iaload, 1, 0, (0, 0, 0, 0), 0, 0, []),
  (1443, .invokevirtual 164, 3, 0, (220, 2797, 4, 9), 0, 0, []),
  (1446, .if_icmp .eq 154, 3, 0, (1600, 0, 0, 0), 0, 0, []),
  (1449, .iconst 0, 1, 0, (0, 0, 0, 0), 0, 0, []),
  (1450, .ireturn, 1, 0, (0, 0, 0, 1), 0, 0, []),
  (1451, .aload_n 1, 1, 0, (1, 0, 0, 0), 0, 0, []),
  (1452, .aload_n 0, 1, 0, (0, 0, 0, 0), 0, 0, []),
  (1453, .iload_n 3, 1, 0, (3, 0, 0, 0), 0, 0, []),
  (1454, .iconst 1, 1, 0, (0, 0, 0, 0), 1, 0, []),
  (1455, .iadd, 1, 0, (0, 0, 0, 0), 0, 0, []),
  (1456, .iaload, 1, 0, (0, 0, 0, 0), 0, 0, []),
  (1457, .invokevirtual 165, 3, 0, (119, 2068, 2, 8), 0, 0, []),
  (1460, .aload_n 2, 1, 0, (2, 0, 0, 0), 0, 0, []),
  (1461, .aload_n 0, 1, 0, (0, 0, 0, 0), 0, 0, []),
  (1462, .iload_n 3, 1, 0, (3, 0, 0, 0), 0, 0, []),
  (1463, .iconst 1, 1, 0, (0, 0, 0, 0), 1, 0, []),
  (1464, .iadd, 1, 0, (0, 0, 0, 0), 0, 0, []),
  (1465, .iaload, 1, 0, (0, 0, 0, 0), 0, 0, []),
  (1466, .invokevirtual 168, 3, 0, (221, 3073, 2, 9), 0, 0, []),
  (1469, .if_icmp .eq 131, 3, 0, (1600, 0, 0, 0), 0, 0, []),
  (1472, .iconst 0, 1, 0, (0, 0, 0, 0), 0, 0, []),
  (1473, .ireturn, 1, 0, (0, 0, 0, 1), 0, 0, []),
  (1474, .aload_n 1, 1, 0, (1, 0, 0, 0), 0, 0, []),
  (1475, .aload_n 0, 1, 0, (0, 0, 0, 0), 0, 0, []),
  (1476, .iload_n 3, 1, 0, (3, 0, 0, 0), 0, 0, []),
  (1477, .iconst 1, 1, 0, (0, 0, 0, 0), 1, 0, []),
  (1478, .iadd, 1, 0, (0, 0, 0, 0), 0, 0, []),
  (1479, .iaload, 1, 0, (0, 0, 0, 0), 0, 0, []),
  (1480, .aload_n 0, 1, 0, (0, 0, 0, 0), 0, 0, []),
  (1481, .iload_n 3, 1, 0, (3, 0, 0, 0), 0, 0, []),
  (1482, .iconst 2, 1, 0, (0, 0, 0, 0), 2, 0, []),
  (1483, .iadd, 1, 0, (0, 0, 0, 0), 0, 0, []),
  (1484, .iaload, 1, 0, (0, 0, 0, 0), 0, 0, []),
  (1485, .aload_n 0, 1, 0, (0, 0, 0, 0), 0, 0, []),
  (1486, .iload_n 3, 1, 0, (3, 0, 0, 0), 0, 0, []),
  (1487, .iconst 3, 1, 0, (0, 0, 0, 0), 3, 0, []),
  (1488, .iadd, 1, 0, (0, 0, 0, 0), 0, 0, []),
  (1489, .iaload, 1, 0, (0, 0, 0, 0), 0, 0, []),
  (1490, .invokevirtual 169, 3, 0, (126, 2096, 4, 8), 0, 0, []),
  (1493, .aload_n 2, 1, 0, (2, 0, 0, 0), 0, 0, []),
  (1494, .aload_n 0, 1, 0, (0, 0, 0, 0), 0, 0, []),
  (1495, .iload_n 3, 1, 0, (3, 0, 0, 0), 0, 0, []),
  (1496, .iconst 1, 1, 0, (0, 0, 0, 0), 1, 0, []),
  (1497, .iadd, 1, 0, (0, 0, 0, 0), 0, 0, []),
  (1498, .iaload, 1, 0, (0, 0, 0, 0), 0, 0, []),
  (1499, .aload_n 0, 1, 0, (0, 0, 0, 0), 0, 0, []),
  (1500, .iload_n 3, 1, 0, (3, 0, 0, 0), 0, 0, []),
  (1501, .iconst 2, 1, 0, (0, 0, 0, 0), 2, 0, []),
  (1502, .iadd, 1, 0, (0, 0, 0, 0), 0, 0, []),
  (1503, .iaload, 1, 0, (0, 0, 0, 0), 0, 0, []),
  (1504, .aload_n 0, 1, 0, (0, 0, 0, 0), 0, 0, []),
  (1505, .iload_n 3, 1, 0, (3, 0, 0, 0), 0, 0, []),
  (1506, .iconst 3, 1, 0, (0, 0, 0, 0), 3, 0, []),
  (1507, .iadd, 1, 0, (0, 0, 0, 0), 0, 0, []),
  (1508, .iaload, 1, 0, (0, 0, 0, 0), 0, 0, []),
  (1509, .invokevirtual 172, 3, 0, (223, 3081, 4, 9), 0, 0, []),
  (1512, .if_icmp .eq 88, 3, 0, (1600, 0, 0, 0), 0, 0, []),
  (1515, .iconst 0, 1, 0, (0, 0, 0, 0), 0, 0, []),
  (1516, .ireturn, 1, 0, (0, 0, 0, 1), 0, 0, []),
  (1517, .aload_n 1, 1, 0, (1, 0, 0, 0), 0, 0, []),
  (1518, .aload_n 0, 1, 0, (0, 0, 0, 0), 0, 0, []),
  (1519, .iload_n 3, 1, 0, (3, 0, 0, 0), 0, 0, []),
  (1520, .iconst 1, 1, 0, (0, 0, 0, 0), 1, 0, []),
  (1521, .iadd, 1, 0, (0, 0, 0, 0), 0, 0, []),
  (1522, .iaload, 1, 0, (0, 0, 0, 0), 0, 0, []),
  (1523, .invokevirtual 173, 3, 0, (130, 2117, 2, 8), 0, 0, []),
  (1526, .aload_n 2, 1, 0, (2, 0, 0, 0), 0, 0, []),
  (1527, .aload_n 0, 1, 0, (0, 0, 0, 0), 0, 0, []),
  (1528, .iload_n 3, 1, 0, (3, 0, 0, 0), 0, 0, []),
  (1529, .iconst 1, 1, 0, (0, 0, 0, 0), 1, 0, []),
  (1530, .iadd, 1, 0, (0, 0, 0, 0), 0, 0, []),
  (1531, .iaload, 1, 0, (0, 0, 0, 0), 0, 0, []),
  (1532, .invokevirtual 176, 3, 0, (224, 3085, 2, 9), 0, 0, []),
  (1535, .if_icmp .eq 65, 3, 0, (1600, 0, 0, 0), 0, 0, []),
  (1538, .iconst 0, 1, 0, (0, 0, 0, 0), 0, 0, []),
  (1539, .ireturn, 1, 0, (0, 0, 0, 1), 0, 0, []),
  (1540, .aload_n 1, 1, 0, (1, 0, 0, 0), 0, 0, []),
  (1541, .aload_n 0, 1, 0, (0, 0, 0, 0), 0, 0, []),
  (1542, .iload_n 3, 1, 0, (3, 0, 0, 0), 0, 0, []),
  (1543, .iconst 1, 1, 0, (0, 0, 0, 0), 1, 0, []),
  (1544, .iadd, 1, 0, (0, 0, 0, 0), 0, 0, []),
  (1545, .iaload, 1, 0, (0, 0, 0, 0), 0, 0, []),
  (1546, .invokevirtual 177, 3, 0, (133, 2134, 2, 8), 0, 0, []),
  (1549, .aload_n 2, 1, 0, (2, 0, 0, 0), 0, 0, []),
  (1550, .aload_n 0, 1, 0, (0, 0, 0, 0), 0, 0, []),
  (1551, .iload_n 3, 1, 0, (3, 0, 0, 0), 0, 0, []),
  (1552, .iconst 1, 1, 0, (0, 0, 0, 0), 1, 0, []),
  (1553, .iadd, 1, 0, (0, 0, 0, 0), 0, 0, []),
  (1554, .iaload, 1, 0, (0, 0, 0, 0), 0, 0, []),
  (1555, .invokevirtual 180, 3, 0, (225, 3089, 2, 9), 0, 0, []),
  (1558, .if_icmp .eq 42, 3, 0, (1600, 0, 0, 0), 0, 0, []),
  (1561, .iconst 0, 1, 0, (0, 0, 0, 0), 0, 0, []),
  (1562, .ireturn, 1, 0, (0, 0, 0, 1), 0, 0, []),
  (1563, .aload_n 1, 1, 0, (1, 0, 0, 0), 0, 0, []),
  (1564, .aload_n 0, 1, 0, (0, 0, 0, 0), 0, 0, []),
  (1565, .iload_n 3, 1, 0, (3, 0, 0, 0), 0, 0, []),
  (1566, .iconst 1, 1, 0, (0, 0, 0, 0), 1, 0, []),
  (1567, .iadd, 1, 0, (0, 0, 0, 0), 0, 0, []),
  (1568, .iaload, 1, 0, (0, 0, 0, 0), 0, 0, []),
  (1569, .invokevirtual 181, 3, 0, (134, 2138, 2, 8), 0, 0, []),
  (1572, .aload_n 2, 1, 0, (2, 0, 0, 0), 0, 0, []),
  (1573, .aload_n 0, 1, 0, (0, 0, 0, 0), 0, 0, []),
  (1574, .iload_n 3, 1, 0, (3, 0, 0, 0), 0, 0, []),
  (1575, .iconst 1, 1, 0, (0, 0, 0, 0), 1, 0, []),
  (1576, .iadd, 1, 0, (0, 0, 0, 0), 0, 0, []),
  (1577, .iaload, 1, 0, (0, 0, 0, 0), 0, 0, []),
  (1578, .invokevirtual 184, 3, 0, (226, 3093, 2, 9), 0, 0, []),
  (1581, .if_icmp .eq 19, 3, 0, (1600, 0, 0, 0), 0, 0, []),
  (1584, .iconst 0, 1, 0, (0, 0, 0, 0), 0, 0, []),
  (1585, .ireturn, 1, 0, (0, 0, 0, 1), 0, 0, []),
  (1586, .aload_n 1, 1, 0, (1, 0, 0, 0), 0, 0, []),
  (1587, .invokevirtual 185, 3, 0, (137, 2150, 1, 8), 0, 0, []),
  (1590, .aload_n 2, 1, 0, (2, 0, 0, 0), 0, 0, []),
  (1591, .invokevirtual 189, 3, 0, (228, 3101, 1, 9), 0, 0, []),
  (1594, .lcmp, 1, 0, (0, 0, 0, 0), 0, 0, []),
  (1595, .ifCond .eq 5, 3, 0, (1600, 0, 0, 0), 0, 0, []),
  (1598, .iconst 0, 1, 0, (0, 0, 0, 0), 0, 0, []),
  (1599, .ireturn, 1, 0, (0, 0, 0, 1), 0, 0, []),
  (1600, .iinc 3 6, 3, 0, (3, 0, 0, 0), 6, 0, []),
  (1603, .goto (-1585), 3, 0, (18, 0, 0, 0), 0, 0, []),
  (1606, .iconst 1, 1, 0, (0, 0, 0, 0), 1, 0, []),
  (1607, .ireturn, 1, 0, (0, 0, 0, 1), 0, 0, [])]
end
section
/-! the checks of the tables, decided -/
def hk_eb (e : hk_E) (own : String) (ini : Bool) (rk mx : Nat) : Bool := hk_iok hk_cls hk_kd hk_mt "HullKeepers$House" own ini rk mx e.1 e.2.1 e.2.2.1 e.2.2.2.2.1.1 e.2.2.2.2.1.2.1 e.2.2.2.2.1.2.2.1 e.2.2.2.2.1.2.2.2 e.2.2.2.2.2.1 e.2.2.2.2.2.2.1 e.2.2.2.2.2.2.2
theorem hk_eb_ok {cd : List hk_E} {own : String} {ini : Bool} {rk mx : Nat} {cc : ByteArray} (h0 : hk_wlk cc cc.data.toList 0 cd = true) (h : cd.all (fun e => hk_eb e own ini rk mx) = true) : ∀ e ∈ cd, decode cc e.1 = .ok (e.2.1, e.2.2.1) ∧ hk_iok hk_cls hk_kd hk_mt "HullKeepers$House" own ini rk mx e.1 e.2.1 e.2.2.1 e.2.2.2.2.1.1 e.2.2.2.2.1.2.1 e.2.2.2.2.1.2.2.1 e.2.2.2.2.1.2.2.2 e.2.2.2.2.2.1 e.2.2.2.2.2.2.1 e.2.2.2.2.2.2.2 = true := by
  intro e he
  exact ⟨hk_wlk_ok (pc := 0) h0 e he, List.all_eq_true.mp h e he⟩
def hk_Mb (q : hk_Q) (wc wi w1 w2 : Nat) : Bool :=
  plainName q.1.cls && decide (q.1.cls ≠ "java/lang/invoke/MethodHandle") && decide (q.1.cls ≠ "java/lang/invoke/VarHandle") && decide (hk_lk wi = some (.initialized q.1.cls)) &&
  (match q.2.2.2.2.1.2.1 with
    | 0 => decide (hk_lk w1 = some (.instanceMethod q.1)) && decide (hk_lk w2 = some (.selects q.1.cls q.1 q.1)) && decide (1 ≤ q.2.2.2.2.1.1)
    | 1 => decide (q.1.name = "<init>") && decide (hk_lk w1 = some (.instanceMethod q.1)) && decide (q.2.2.2.1 = none) && decide (1 ≤ q.2.2.2.2.1.1)
    | 2 => decide (hk_lk w1 = some (.static q.1))
    | _ => false) && decide (q.2.2.1 ≤ 40) && decide ((parseMethodDescriptor q.1.desc).map (fun d => d.parameters.length) = some (match q.2.2.2.2.1.2.1 with
    | 2 => q.2.2.2.2.1.1
    | _ => q.2.2.2.2.1.1 - 1)) && decide (q.2.2.2.1 = none ∨ q.2.2.2.1 = some .int ∨ q.2.2.2.1 = some .boolean ∨ q.2.2.2.1 = some .long) &&
  (hk_wlk q.2.1 q.2.1.data.toList 0 q.2.2.2.2.2 && q.2.2.2.2.2.all (fun e => hk_eb e q.1.cls (decide (q.1.name = "<init>")) (hk_rk q.2.2.2.1) q.2.2.1)) && hk_seq q.2.2.2.2.2 && (match q.2.2.2.2.2 with | [] => true | e :: _ => decide (e.1 = 0))
theorem hk_Mb_ok {q : hk_Q} (wc wi w1 w2 : Nat) (a4 : hk_lk wc = some (.code q.1 q.2.1 q.2.2.1 q.2.2.2.1)) (h : hk_Mb q wc wi w1 w2 = true) : hk_Mok hk_cls hk_kd hk_wl hk_mt "HullKeepers$House" q := by
  unfold hk_Mb at h
  simp only [Bool.and_eq_true, decide_eq_true_eq] at h
  obtain ⟨⟨⟨⟨⟨⟨⟨⟨⟨⟨a1, a2⟩, a3⟩, a5⟩, a6⟩, a7⟩, a8⟩, a9⟩, ⟨a10, a10b⟩⟩, a11⟩, a12⟩ := h
  refine ⟨a1, ⟨a2, a3⟩, hk_lk_in a4, hk_lk_in a5, ?_, ?_, ?_, a7, a8, a9, hk_eb_ok a10 a10b, a11, a12⟩
  · intro hk
    rw [hk] at a6
    simp only [Bool.and_eq_true, decide_eq_true_eq] at a6
    exact ⟨hk_lk_in a6.1.1, hk_lk_in a6.1.2, a6.2⟩
  · intro hk
    rw [hk] at a6
    simp only [Bool.and_eq_true, decide_eq_true_eq] at a6
    exact ⟨a6.1.1.1, hk_lk_in a6.1.1.2, a6.1.2, a6.2⟩
  · intro hk
    rw [hk] at a6
    exact hk_lk_in (of_decide_eq_true a6)
set_option maxRecDepth 100000 in
theorem hk_o0 : hk_Mok hk_cls hk_kd hk_wl hk_mt "HullKeepers$House" hk_m0 := hk_Mb_ok 530 513 529 0 rfl (by decide +kernel)
set_option maxRecDepth 100000 in
theorem hk_o1 : hk_Mok hk_cls hk_kd hk_wl hk_mt "HullKeepers$House" hk_m1 := hk_Mb_ok 538 514 537 0 rfl (by decide +kernel)
set_option maxRecDepth 100000 in
theorem hk_o2 : hk_Mok hk_cls hk_kd hk_wl hk_mt "HullKeepers$House" hk_m2 := hk_Mb_ok 544 515 543 0 rfl (by decide +kernel)
set_option maxRecDepth 100000 in
theorem hk_o3 : hk_Mok hk_cls hk_kd hk_wl hk_mt "HullKeepers$House" hk_m3 := hk_Mb_ok 572 515 570 571 rfl (by decide +kernel)
set_option maxRecDepth 100000 in
theorem hk_o4 : hk_Mok hk_cls hk_kd hk_wl hk_mt "HullKeepers$House" hk_m4 := hk_Mb_ok 576 515 574 575 rfl (by decide +kernel)
set_option maxRecDepth 100000 in
theorem hk_o5 : hk_Mok hk_cls hk_kd hk_wl hk_mt "HullKeepers$House" hk_m5 := hk_Mb_ok 580 515 578 579 rfl (by decide +kernel)
set_option maxRecDepth 100000 in
theorem hk_o6 : hk_Mok hk_cls hk_kd hk_wl hk_mt "HullKeepers$House" hk_m6 := hk_Mb_ok 668 517 667 0 rfl (by decide +kernel)
set_option maxRecDepth 100000 in
theorem hk_o7 : hk_Mok hk_cls hk_kd hk_wl hk_mt "HullKeepers$House" hk_m7 := hk_Mb_ok 693 518 692 0 rfl (by decide +kernel)
set_option maxRecDepth 100000 in
theorem hk_o8 : hk_Mok hk_cls hk_kd hk_wl hk_mt "HullKeepers$House" hk_m8 := hk_Mb_ok 717 519 716 0 rfl (by decide +kernel)
set_option maxRecDepth 100000 in
theorem hk_o9 : hk_Mok hk_cls hk_kd hk_wl hk_mt "HullKeepers$House" hk_m9 := hk_Mb_ok 1032 520 1031 0 rfl (by decide +kernel)
set_option maxRecDepth 100000 in
theorem hk_o10 : hk_Mok hk_cls hk_kd hk_wl hk_mt "HullKeepers$House" hk_m10 := hk_Mb_ok 1047 521 1046 0 rfl (by decide +kernel)
set_option maxRecDepth 100000 in
theorem hk_o11 : hk_Mok hk_cls hk_kd hk_wl hk_mt "HullKeepers$House" hk_m11 := hk_Mb_ok 1089 513 1087 1088 rfl (by decide +kernel)
set_option maxRecDepth 100000 in
theorem hk_o12 : hk_Mok hk_cls hk_kd hk_wl hk_mt "HullKeepers$House" hk_m12 := hk_Mb_ok 1092 513 1091 0 rfl (by decide +kernel)
set_option maxRecDepth 100000 in
theorem hk_o13 : hk_Mok hk_cls hk_kd hk_wl hk_mt "HullKeepers$House" hk_m13 := hk_Mb_ok 1100 513 1098 1099 rfl (by decide +kernel)
set_option maxRecDepth 100000 in
theorem hk_o14 : hk_Mok hk_cls hk_kd hk_wl hk_mt "HullKeepers$House" hk_m14 := hk_Mb_ok 1104 515 1102 1103 rfl (by decide +kernel)
set_option maxRecDepth 100000 in
theorem hk_o15 : hk_Mok hk_cls hk_kd hk_wl hk_mt "HullKeepers$House" hk_m15 := hk_Mb_ok 1108 513 1106 1107 rfl (by decide +kernel)
set_option maxRecDepth 100000 in
theorem hk_o16 : hk_Mok hk_cls hk_kd hk_wl hk_mt "HullKeepers$House" hk_m16 := hk_Mb_ok 1112 515 1110 1111 rfl (by decide +kernel)
set_option maxRecDepth 100000 in
theorem hk_o17 : hk_Mok hk_cls hk_kd hk_wl hk_mt "HullKeepers$House" hk_m17 := hk_Mb_ok 1116 514 1114 1115 rfl (by decide +kernel)
set_option maxRecDepth 100000 in
theorem hk_o18 : hk_Mok hk_cls hk_kd hk_wl hk_mt "HullKeepers$House" hk_m18 := hk_Mb_ok 1121 514 1119 1120 rfl (by decide +kernel)
set_option maxRecDepth 100000 in
theorem hk_o19 : hk_Mok hk_cls hk_kd hk_wl hk_mt "HullKeepers$House" hk_m19 := hk_Mb_ok 1126 513 1124 1125 rfl (by decide +kernel)
set_option maxRecDepth 100000 in
theorem hk_o20 : hk_Mok hk_cls hk_kd hk_wl hk_mt "HullKeepers$House" hk_m20 := hk_Mb_ok 1130 513 1128 1129 rfl (by decide +kernel)
set_option maxRecDepth 100000 in
theorem hk_o21 : hk_Mok hk_cls hk_kd hk_wl hk_mt "HullKeepers$House" hk_m21 := hk_Mb_ok 1134 513 1132 1133 rfl (by decide +kernel)
set_option maxRecDepth 100000 in
theorem hk_o22 : hk_Mok hk_cls hk_kd hk_wl hk_mt "HullKeepers$House" hk_m22 := hk_Mb_ok 1139 513 1137 1138 rfl (by decide +kernel)
set_option maxRecDepth 100000 in
theorem hk_o23 : hk_Mok hk_cls hk_kd hk_wl hk_mt "HullKeepers$House" hk_m23 := hk_Mb_ok 1143 515 1141 1142 rfl (by decide +kernel)
set_option maxRecDepth 100000 in
theorem hk_o24 : hk_Mok hk_cls hk_kd hk_wl hk_mt "HullKeepers$House" hk_m24 := hk_Mb_ok 1148 513 1146 1147 rfl (by decide +kernel)
set_option maxRecDepth 100000 in
theorem hk_o25 : hk_Mok hk_cls hk_kd hk_wl hk_mt "HullKeepers$House" hk_m25 := hk_Mb_ok 1151 513 1150 0 rfl (by decide +kernel)
set_option maxRecDepth 100000 in
theorem hk_o26 : hk_Mok hk_cls hk_kd hk_wl hk_mt "HullKeepers$House" hk_m26 := hk_Mb_ok 1156 513 1154 1155 rfl (by decide +kernel)
set_option maxRecDepth 100000 in
theorem hk_o27 : hk_Mok hk_cls hk_kd hk_wl hk_mt "HullKeepers$House" hk_m27 := hk_Mb_ok 1160 513 1159 0 rfl (by decide +kernel)
set_option maxRecDepth 100000 in
theorem hk_o28 : hk_Mok hk_cls hk_kd hk_wl hk_mt "HullKeepers$House" hk_m28 := hk_Mb_ok 1164 514 1162 1163 rfl (by decide +kernel)
set_option maxRecDepth 100000 in
theorem hk_o29 : hk_Mok hk_cls hk_kd hk_wl hk_mt "HullKeepers$House" hk_m29 := hk_Mb_ok 1168 514 1167 1 rfl (by decide +kernel)
set_option maxRecDepth 100000 in
theorem hk_o30 : hk_Mok hk_cls hk_kd hk_wl hk_mt "HullKeepers$House" hk_m30 := hk_Mb_ok 1172 514 1170 1171 rfl (by decide +kernel)
set_option maxRecDepth 100000 in
theorem hk_o31 : hk_Mok hk_cls hk_kd hk_wl hk_mt "HullKeepers$House" hk_m31 := hk_Mb_ok 1176 514 1174 1175 rfl (by decide +kernel)
set_option maxRecDepth 100000 in
theorem hk_o32 : hk_Mok hk_cls hk_kd hk_wl hk_mt "HullKeepers$House" hk_m32 := hk_Mb_ok 1180 514 1178 1179 rfl (by decide +kernel)
set_option maxRecDepth 100000 in
theorem hk_o33 : hk_Mok hk_cls hk_kd hk_wl hk_mt "HullKeepers$House" hk_m33 := hk_Mb_ok 1184 514 1182 1183 rfl (by decide +kernel)
set_option maxRecDepth 100000 in
theorem hk_o34 : hk_Mok hk_cls hk_kd hk_wl hk_mt "HullKeepers$House" hk_m34 := hk_Mb_ok 1190 514 1188 1189 rfl (by decide +kernel)
set_option maxRecDepth 100000 in
theorem hk_o35 : hk_Mok hk_cls hk_kd hk_wl hk_mt "HullKeepers$House" hk_m35 := hk_Mb_ok 1197 514 1196 2 rfl (by decide +kernel)
set_option maxRecDepth 100000 in
theorem hk_o36 : hk_Mok hk_cls hk_kd hk_wl hk_mt "HullKeepers$House" hk_m36 := hk_Mb_ok 1201 514 1199 1200 rfl (by decide +kernel)
set_option maxRecDepth 100000 in
theorem hk_o37 : hk_Mok hk_cls hk_kd hk_wl hk_mt "HullKeepers$House" hk_m37 := hk_Mb_ok 1205 514 1203 1204 rfl (by decide +kernel)
set_option maxRecDepth 100000 in
theorem hk_o38 : hk_Mok hk_cls hk_kd hk_wl hk_mt "HullKeepers$House" hk_m38 := hk_Mb_ok 1209 513 1207 1208 rfl (by decide +kernel)
set_option maxRecDepth 100000 in
theorem hk_o39 : hk_Mok hk_cls hk_kd hk_wl hk_mt "HullKeepers$House" hk_m39 := hk_Mb_ok 1213 514 1211 1212 rfl (by decide +kernel)
set_option maxRecDepth 100000 in
theorem hk_o40 : hk_Mok hk_cls hk_kd hk_wl hk_mt "HullKeepers$House" hk_m40 := hk_Mb_ok 1218 514 1216 1217 rfl (by decide +kernel)
set_option maxRecDepth 100000 in
theorem hk_o41 : hk_Mok hk_cls hk_kd hk_wl hk_mt "HullKeepers$House" hk_m41 := hk_Mb_ok 1222 513 1220 1221 rfl (by decide +kernel)
set_option maxRecDepth 100000 in
theorem hk_o42 : hk_Mok hk_cls hk_kd hk_wl hk_mt "HullKeepers$House" hk_m42 := hk_Mb_ok 1226 513 1224 1225 rfl (by decide +kernel)
set_option maxRecDepth 100000 in
theorem hk_o43 : hk_Mok hk_cls hk_kd hk_wl hk_mt "HullKeepers$House" hk_m43 := hk_Mb_ok 1231 517 1229 1230 rfl (by decide +kernel)
set_option maxRecDepth 100000 in
theorem hk_o44 : hk_Mok hk_cls hk_kd hk_wl hk_mt "HullKeepers$House" hk_m44 := hk_Mb_ok 1235 517 1233 1234 rfl (by decide +kernel)
set_option maxRecDepth 100000 in
theorem hk_o45 : hk_Mok hk_cls hk_kd hk_wl hk_mt "HullKeepers$House" hk_m45 := hk_Mb_ok 1240 517 1239 3 rfl (by decide +kernel)
set_option maxRecDepth 100000 in
theorem hk_o46 : hk_Mok hk_cls hk_kd hk_wl hk_mt "HullKeepers$House" hk_m46 := hk_Mb_ok 1244 517 1243 4 rfl (by decide +kernel)
set_option maxRecDepth 100000 in
theorem hk_o47 : hk_Mok hk_cls hk_kd hk_wl hk_mt "HullKeepers$House" hk_m47 := hk_Mb_ok 1248 517 1247 5 rfl (by decide +kernel)
set_option maxRecDepth 100000 in
theorem hk_o48 : hk_Mok hk_cls hk_kd hk_wl hk_mt "HullKeepers$House" hk_m48 := hk_Mb_ok 1252 517 1251 6 rfl (by decide +kernel)
set_option maxRecDepth 100000 in
theorem hk_o49 : hk_Mok hk_cls hk_kd hk_wl hk_mt "HullKeepers$House" hk_m49 := hk_Mb_ok 1256 517 1255 7 rfl (by decide +kernel)
set_option maxRecDepth 100000 in
theorem hk_o50 : hk_Mok hk_cls hk_kd hk_wl hk_mt "HullKeepers$House" hk_m50 := hk_Mb_ok 1260 517 1259 8 rfl (by decide +kernel)
set_option maxRecDepth 100000 in
theorem hk_o51 : hk_Mok hk_cls hk_kd hk_wl hk_mt "HullKeepers$House" hk_m51 := hk_Mb_ok 1536 517 1263 9 rfl (by decide +kernel)
set_option maxRecDepth 100000 in
theorem hk_o52 : hk_Mok hk_cls hk_kd hk_wl hk_mt "HullKeepers$House" hk_m52 := hk_Mb_ok 1540 517 1538 1539 rfl (by decide +kernel)
set_option maxRecDepth 100000 in
theorem hk_o53 : hk_Mok hk_cls hk_kd hk_wl hk_mt "HullKeepers$House" hk_m53 := hk_Mb_ok 1544 517 1543 10 rfl (by decide +kernel)
set_option maxRecDepth 100000 in
theorem hk_o54 : hk_Mok hk_cls hk_kd hk_wl hk_mt "HullKeepers$House" hk_m54 := hk_Mb_ok 1548 517 1547 11 rfl (by decide +kernel)
set_option maxRecDepth 100000 in
theorem hk_o55 : hk_Mok hk_cls hk_kd hk_wl hk_mt "HullKeepers$House" hk_m55 := hk_Mb_ok 1552 517 1551 12 rfl (by decide +kernel)
set_option maxRecDepth 100000 in
theorem hk_o56 : hk_Mok hk_cls hk_kd hk_wl hk_mt "HullKeepers$House" hk_m56 := hk_Mb_ok 1557 517 1556 13 rfl (by decide +kernel)
set_option maxRecDepth 100000 in
theorem hk_o57 : hk_Mok hk_cls hk_kd hk_wl hk_mt "HullKeepers$House" hk_m57 := hk_Mb_ok 1561 517 1560 14 rfl (by decide +kernel)
set_option maxRecDepth 100000 in
theorem hk_o58 : hk_Mok hk_cls hk_kd hk_wl hk_mt "HullKeepers$House" hk_m58 := hk_Mb_ok 1565 517 1564 15 rfl (by decide +kernel)
set_option maxRecDepth 100000 in
theorem hk_o59 : hk_Mok hk_cls hk_kd hk_wl hk_mt "HullKeepers$House" hk_m59 := hk_Mb_ok 1570 513 1568 1569 rfl (by decide +kernel)
set_option maxRecDepth 100000 in
theorem hk_o60 : hk_Mok hk_cls hk_kd hk_wl hk_mt "HullKeepers$House" hk_m60 := hk_Mb_ok 1574 513 1572 1573 rfl (by decide +kernel)
set_option maxRecDepth 100000 in
theorem hk_o61 : hk_Mok hk_cls hk_kd hk_wl hk_mt "HullKeepers$House" hk_m61 := hk_Mb_ok 1578 513 1576 1577 rfl (by decide +kernel)
set_option maxRecDepth 100000 in
theorem hk_o62 : hk_Mok hk_cls hk_kd hk_wl hk_mt "HullKeepers$House" hk_m62 := hk_Mb_ok 1582 513 1580 1581 rfl (by decide +kernel)
set_option maxRecDepth 100000 in
theorem hk_o63 : hk_Mok hk_cls hk_kd hk_wl hk_mt "HullKeepers$House" hk_m63 := hk_Mb_ok 1586 513 1584 1585 rfl (by decide +kernel)
set_option maxRecDepth 100000 in
theorem hk_o64 : hk_Mok hk_cls hk_kd hk_wl hk_mt "HullKeepers$House" hk_m64 := hk_Mb_ok 1590 514 1588 1589 rfl (by decide +kernel)
set_option maxRecDepth 100000 in
theorem hk_o65 : hk_Mok hk_cls hk_kd hk_wl hk_mt "HullKeepers$House" hk_m65 := hk_Mb_ok 1594 514 1593 16 rfl (by decide +kernel)
set_option maxRecDepth 100000 in
theorem hk_o66 : hk_Mok hk_cls hk_kd hk_wl hk_mt "HullKeepers$House" hk_m66 := hk_Mb_ok 1599 514 1598 17 rfl (by decide +kernel)
set_option maxRecDepth 100000 in
theorem hk_o67 : hk_Mok hk_cls hk_kd hk_wl hk_mt "HullKeepers$House" hk_m67 := hk_Mb_ok 1609 513 1607 1608 rfl (by decide +kernel)
set_option maxRecDepth 100000 in
theorem hk_o68 : hk_Mok hk_cls hk_kd hk_wl hk_mt "HullKeepers$House" hk_m68 := hk_Mb_ok 1613 514 1611 1612 rfl (by decide +kernel)
set_option maxRecDepth 100000 in
theorem hk_o69 : hk_Mok hk_cls hk_kd hk_wl hk_mt "HullKeepers$House" hk_m69 := hk_Mb_ok 1618 513 1616 1617 rfl (by decide +kernel)
set_option maxRecDepth 100000 in
theorem hk_o70 : hk_Mok hk_cls hk_kd hk_wl hk_mt "HullKeepers$House" hk_m70 := hk_Mb_ok 1622 514 1620 1621 rfl (by decide +kernel)
set_option maxRecDepth 100000 in
theorem hk_o71 : hk_Mok hk_cls hk_kd hk_wl hk_mt "HullKeepers$House" hk_m71 := hk_Mb_ok 1627 513 1625 1626 rfl (by decide +kernel)
set_option maxRecDepth 100000 in
theorem hk_o72 : hk_Mok hk_cls hk_kd hk_wl hk_mt "HullKeepers$House" hk_m72 := hk_Mb_ok 1631 513 1629 1630 rfl (by decide +kernel)
set_option maxRecDepth 100000 in
theorem hk_o73 : hk_Mok hk_cls hk_kd hk_wl hk_mt "HullKeepers$House" hk_m73 := hk_Mb_ok 1635 513 1633 1634 rfl (by decide +kernel)
set_option maxRecDepth 100000 in
theorem hk_o74 : hk_Mok hk_cls hk_kd hk_wl hk_mt "HullKeepers$House" hk_m74 := hk_Mb_ok 1639 517 1637 1638 rfl (by decide +kernel)
set_option maxRecDepth 100000 in
theorem hk_o75 : hk_Mok hk_cls hk_kd hk_wl hk_mt "HullKeepers$House" hk_m75 := hk_Mb_ok 1643 513 1641 1642 rfl (by decide +kernel)
set_option maxRecDepth 100000 in
theorem hk_o76 : hk_Mok hk_cls hk_kd hk_wl hk_mt "HullKeepers$House" hk_m76 := hk_Mb_ok 1651 513 1649 1650 rfl (by decide +kernel)
set_option maxRecDepth 100000 in
theorem hk_o77 : hk_Mok hk_cls hk_kd hk_wl hk_mt "HullKeepers$House" hk_m77 := hk_Mb_ok 1655 513 1653 1654 rfl (by decide +kernel)
set_option maxRecDepth 100000 in
theorem hk_o78 : hk_Mok hk_cls hk_kd hk_wl hk_mt "HullKeepers$House" hk_m78 := hk_Mb_ok 1659 513 1657 1658 rfl (by decide +kernel)
set_option maxRecDepth 100000 in
theorem hk_o79 : hk_Mok hk_cls hk_kd hk_wl hk_mt "HullKeepers$House" hk_m79 := hk_Mb_ok 1663 519 1661 1662 rfl (by decide +kernel)
set_option maxRecDepth 100000 in
theorem hk_o80 : hk_Mok hk_cls hk_kd hk_wl hk_mt "HullKeepers$House" hk_m80 := hk_Mb_ok 1667 513 1665 1666 rfl (by decide +kernel)
set_option maxRecDepth 100000 in
theorem hk_o81 : hk_Mok hk_cls hk_kd hk_wl hk_mt "HullKeepers$House" hk_m81 := hk_Mb_ok 1671 513 1669 1670 rfl (by decide +kernel)
set_option maxRecDepth 100000 in
theorem hk_o82 : hk_Mok hk_cls hk_kd hk_wl hk_mt "HullKeepers$House" hk_m82 := hk_Mb_ok 1675 519 1673 1674 rfl (by decide +kernel)
set_option maxRecDepth 100000 in
theorem hk_o83 : hk_Mok hk_cls hk_kd hk_wl hk_mt "HullKeepers$House" hk_m83 := hk_Mb_ok 1679 519 1678 18 rfl (by decide +kernel)
set_option maxRecDepth 100000 in
theorem hk_o84 : hk_Mok hk_cls hk_kd hk_wl hk_mt "HullKeepers$House" hk_m84 := hk_Mb_ok 1683 519 1682 19 rfl (by decide +kernel)
set_option maxRecDepth 100000 in
theorem hk_o85 : hk_Mok hk_cls hk_kd hk_wl hk_mt "HullKeepers$House" hk_m85 := hk_Mb_ok 1690 523 1689 0 rfl (by decide +kernel)
set_option maxRecDepth 100000 in
theorem hk_o86 : hk_Mok hk_cls hk_kd hk_wl hk_mt "HullKeepers$House" hk_m86 := hk_Mb_ok 1693 523 1692 0 rfl (by decide +kernel)
set_option maxRecDepth 100000 in
theorem hk_o87 : hk_Mok hk_cls hk_kd hk_wl hk_mt "HullKeepers$House" hk_m87 := hk_Mb_ok 1697 519 1696 20 rfl (by decide +kernel)
set_option maxRecDepth 100000 in
theorem hk_o88 : hk_Mok hk_cls hk_kd hk_wl hk_mt "HullKeepers$House" hk_m88 := hk_Mb_ok 1701 519 1700 21 rfl (by decide +kernel)
set_option maxRecDepth 100000 in
theorem hk_o89 : hk_Mok hk_cls hk_kd hk_wl hk_mt "HullKeepers$House" hk_m89 := hk_Mb_ok 1705 519 1704 22 rfl (by decide +kernel)
set_option maxRecDepth 100000 in
theorem hk_o90 : hk_Mok hk_cls hk_kd hk_wl hk_mt "HullKeepers$House" hk_m90 := hk_Mb_ok 1709 519 1708 23 rfl (by decide +kernel)
set_option maxRecDepth 100000 in
theorem hk_o91 : hk_Mok hk_cls hk_kd hk_wl hk_mt "HullKeepers$House" hk_m91 := hk_Mb_ok 1713 519 1712 24 rfl (by decide +kernel)
set_option maxRecDepth 100000 in
theorem hk_o92 : hk_Mok hk_cls hk_kd hk_wl hk_mt "HullKeepers$House" hk_m92 := hk_Mb_ok 1717 519 1716 25 rfl (by decide +kernel)
set_option maxRecDepth 100000 in
theorem hk_o93 : hk_Mok hk_cls hk_kd hk_wl hk_mt "HullKeepers$House" hk_m93 := hk_Mb_ok 1721 519 1720 26 rfl (by decide +kernel)
set_option maxRecDepth 100000 in
theorem hk_o94 : hk_Mok hk_cls hk_kd hk_wl hk_mt "HullKeepers$House" hk_m94 := hk_Mb_ok 1725 519 1724 27 rfl (by decide +kernel)
set_option maxRecDepth 100000 in
theorem hk_o95 : hk_Mok hk_cls hk_kd hk_wl hk_mt "HullKeepers$House" hk_m95 := hk_Mb_ok 1729 519 1728 28 rfl (by decide +kernel)
set_option maxRecDepth 100000 in
theorem hk_o96 : hk_Mok hk_cls hk_kd hk_wl hk_mt "HullKeepers$House" hk_m96 := hk_Mb_ok 1732 524 1731 0 rfl (by decide +kernel)
set_option maxRecDepth 100000 in
theorem hk_o97 : hk_Mok hk_cls hk_kd hk_wl hk_mt "HullKeepers$House" hk_m97 := hk_Mb_ok 1739 519 1738 29 rfl (by decide +kernel)
set_option maxRecDepth 100000 in
theorem hk_o98 : hk_Mok hk_cls hk_kd hk_wl hk_mt "HullKeepers$House" hk_m98 := hk_Mb_ok 1743 519 1741 1742 rfl (by decide +kernel)
set_option maxRecDepth 100000 in
theorem hk_o99 : hk_Mok hk_cls hk_kd hk_wl hk_mt "HullKeepers$House" hk_m99 := hk_Mb_ok 1747 513 1745 1746 rfl (by decide +kernel)
set_option maxRecDepth 100000 in
theorem hk_o100 : hk_Mok hk_cls hk_kd hk_wl hk_mt "HullKeepers$House" hk_m100 := hk_Mb_ok 1751 515 1749 1750 rfl (by decide +kernel)
set_option maxRecDepth 100000 in
theorem hk_o101 : hk_Mok hk_cls hk_kd hk_wl hk_mt "HullKeepers$House" hk_m101 := hk_Mb_ok 1755 513 1753 1754 rfl (by decide +kernel)
set_option maxRecDepth 100000 in
theorem hk_o102 : hk_Mok hk_cls hk_kd hk_wl hk_mt "HullKeepers$House" hk_m102 := hk_Mb_ok 1759 513 1757 1758 rfl (by decide +kernel)
set_option maxRecDepth 100000 in
theorem hk_o103 : hk_Mok hk_cls hk_kd hk_wl hk_mt "HullKeepers$House" hk_m103 := hk_Mb_ok 1763 513 1761 1762 rfl (by decide +kernel)
set_option maxRecDepth 100000 in
theorem hk_o104 : hk_Mok hk_cls hk_kd hk_wl hk_mt "HullKeepers$House" hk_m104 := hk_Mb_ok 1767 520 1765 1766 rfl (by decide +kernel)
set_option maxRecDepth 100000 in
theorem hk_o105 : hk_Mok hk_cls hk_kd hk_wl hk_mt "HullKeepers$House" hk_m105 := hk_Mb_ok 1770 520 1769 0 rfl (by decide +kernel)
set_option maxRecDepth 100000 in
theorem hk_o106 : hk_Mok hk_cls hk_kd hk_wl hk_mt "HullKeepers$House" hk_m106 := hk_Mb_ok 1775 520 1774 30 rfl (by decide +kernel)
set_option maxRecDepth 100000 in
theorem hk_o107 : hk_Mok hk_cls hk_kd hk_wl hk_mt "HullKeepers$House" hk_m107 := hk_Mb_ok 2051 520 2050 0 rfl (by decide +kernel)
set_option maxRecDepth 100000 in
theorem hk_o108 : hk_Mok hk_cls hk_kd hk_wl hk_mt "HullKeepers$House" hk_m108 := hk_Mb_ok 2055 513 2053 2054 rfl (by decide +kernel)
set_option maxRecDepth 100000 in
theorem hk_o109 : hk_Mok hk_cls hk_kd hk_wl hk_mt "HullKeepers$House" hk_m109 := hk_Mb_ok 2059 513 2057 2058 rfl (by decide +kernel)
set_option maxRecDepth 100000 in
theorem hk_o110 : hk_Mok hk_cls hk_kd hk_wl hk_mt "HullKeepers$House" hk_m110 := hk_Mb_ok 2063 513 2061 2062 rfl (by decide +kernel)
set_option maxRecDepth 100000 in
theorem hk_o111 : hk_Mok hk_cls hk_kd hk_wl hk_mt "HullKeepers$House" hk_m111 := hk_Mb_ok 2067 513 2065 2066 rfl (by decide +kernel)
set_option maxRecDepth 100000 in
theorem hk_o112 : hk_Mok hk_cls hk_kd hk_wl hk_mt "HullKeepers$House" hk_m112 := hk_Mb_ok 2071 513 2069 2070 rfl (by decide +kernel)
set_option maxRecDepth 100000 in
theorem hk_o113 : hk_Mok hk_cls hk_kd hk_wl hk_mt "HullKeepers$House" hk_m113 := hk_Mb_ok 2075 521 2073 2074 rfl (by decide +kernel)
set_option maxRecDepth 100000 in
theorem hk_o114 : hk_Mok hk_cls hk_kd hk_wl hk_mt "HullKeepers$House" hk_m114 := hk_Mb_ok 2079 521 2078 31 rfl (by decide +kernel)
set_option maxRecDepth 100000 in
theorem hk_o115 : hk_Mok hk_cls hk_kd hk_wl hk_mt "HullKeepers$House" hk_m115 := hk_Mb_ok 2083 521 2082 0 rfl (by decide +kernel)
set_option maxRecDepth 100000 in
theorem hk_o116 : hk_Mok hk_cls hk_kd hk_wl hk_mt "HullKeepers$House" hk_m116 := hk_Mb_ok 2087 521 2086 32 rfl (by decide +kernel)
set_option maxRecDepth 100000 in
theorem hk_o117 : hk_Mok hk_cls hk_kd hk_wl hk_mt "HullKeepers$House" hk_m117 := hk_Mb_ok 2091 521 2090 33 rfl (by decide +kernel)
set_option maxRecDepth 100000 in
theorem hk_o118 : hk_Mok hk_cls hk_kd hk_wl hk_mt "HullKeepers$House" hk_m118 := hk_Mb_ok 2094 523 2093 0 rfl (by decide +kernel)
set_option maxRecDepth 100000 in
theorem hk_o119 : hk_Mok hk_cls hk_kd hk_wl hk_mt "HullKeepers$House" hk_m119 := hk_Mb_ok 2099 513 2097 2098 rfl (by decide +kernel)
set_option maxRecDepth 100000 in
theorem hk_o120 : hk_Mok hk_cls hk_kd hk_wl hk_mt "HullKeepers$House" hk_m120 := hk_Mb_ok 2103 518 2101 2102 rfl (by decide +kernel)
set_option maxRecDepth 100000 in
theorem hk_o121 : hk_Mok hk_cls hk_kd hk_wl hk_mt "HullKeepers$House" hk_m121 := hk_Mb_ok 2109 518 2108 34 rfl (by decide +kernel)
set_option maxRecDepth 100000 in
theorem hk_o122 : hk_Mok hk_cls hk_kd hk_wl hk_mt "HullKeepers$House" hk_m122 := hk_Mb_ok 2114 518 2113 35 rfl (by decide +kernel)
set_option maxRecDepth 100000 in
theorem hk_o123 : hk_Mok hk_cls hk_kd hk_wl hk_mt "HullKeepers$House" hk_m123 := hk_Mb_ok 2120 513 2118 2119 rfl (by decide +kernel)
set_option maxRecDepth 100000 in
theorem hk_o124 : hk_Mok hk_cls hk_kd hk_wl hk_mt "HullKeepers$House" hk_m124 := hk_Mb_ok 2124 514 2122 2123 rfl (by decide +kernel)
set_option maxRecDepth 100000 in
theorem hk_o125 : hk_Mok hk_cls hk_kd hk_wl hk_mt "HullKeepers$House" hk_m125 := hk_Mb_ok 2128 515 2126 2127 rfl (by decide +kernel)
set_option maxRecDepth 100000 in
theorem hk_o126 : hk_Mok hk_cls hk_kd hk_wl hk_mt "HullKeepers$House" hk_m126 := hk_Mb_ok 2137 513 2135 2136 rfl (by decide +kernel)
set_option maxRecDepth 100000 in
theorem hk_o127 : hk_Mok hk_cls hk_kd hk_wl hk_mt "HullKeepers$House" hk_m127 := hk_Mb_ok 2141 513 2139 2140 rfl (by decide +kernel)
set_option maxRecDepth 100000 in
theorem hk_o128 : hk_Mok hk_cls hk_kd hk_wl hk_mt "HullKeepers$House" hk_m128 := hk_Mb_ok 2145 514 2143 2144 rfl (by decide +kernel)
set_option maxRecDepth 100000 in
theorem hk_o129 : hk_Mok hk_cls hk_kd hk_wl hk_mt "HullKeepers$House" hk_m129 := hk_Mb_ok 2149 514 2148 36 rfl (by decide +kernel)
set_option maxRecDepth 100000 in
theorem hk_o130 : hk_Mok hk_cls hk_kd hk_wl hk_mt "HullKeepers$House" hk_m130 := hk_Mb_ok 2153 513 2151 2152 rfl (by decide +kernel)
set_option maxRecDepth 100000 in
theorem hk_o131 : hk_Mok hk_cls hk_kd hk_wl hk_mt "HullKeepers$House" hk_m131 := hk_Mb_ok 2157 513 2156 0 rfl (by decide +kernel)
set_option maxRecDepth 100000 in
theorem hk_o132 : hk_Mok hk_cls hk_kd hk_wl hk_mt "HullKeepers$House" hk_m132 := hk_Mb_ok 2162 515 2160 2161 rfl (by decide +kernel)
set_option maxRecDepth 100000 in
theorem hk_o133 : hk_Mok hk_cls hk_kd hk_wl hk_mt "HullKeepers$House" hk_m133 := hk_Mb_ok 2167 515 2165 2166 rfl (by decide +kernel)
set_option maxRecDepth 100000 in
theorem hk_o134 : hk_Mok hk_cls hk_kd hk_wl hk_mt "HullKeepers$House" hk_m134 := hk_Mb_ok 2173 522 2172 0 rfl (by decide +kernel)
set_option maxRecDepth 100000 in
theorem hk_o135 : hk_Mok hk_cls hk_kd hk_wl hk_mt "HullKeepers$House" hk_m135 := hk_Mb_ok 2219 522 2217 2218 rfl (by decide +kernel)
set_option maxRecDepth 100000 in
theorem hk_o136 : hk_Mok hk_cls hk_kd hk_wl hk_mt "HullKeepers$House" hk_m136 := hk_Mb_ok 2222 522 2221 0 rfl (by decide +kernel)
set_option maxRecDepth 100000 in
theorem hk_o137 : hk_Mok hk_cls hk_kd hk_wl hk_mt "HullKeepers$House" hk_m137 := hk_Mb_ok 2227 522 2226 37 rfl (by decide +kernel)
set_option maxRecDepth 100000 in
theorem hk_o138 : hk_Mok hk_cls hk_kd hk_wl hk_mt "HullKeepers$House" hk_m138 := hk_Mb_ok 2231 522 2229 2230 rfl (by decide +kernel)
set_option maxRecDepth 100000 in
theorem hk_o139 : hk_Mok hk_cls hk_kd hk_wl hk_mt "HullKeepers$House" hk_m139 := hk_Mb_ok 2235 522 2234 38 rfl (by decide +kernel)
set_option maxRecDepth 100000 in
theorem hk_o140 : hk_Mok hk_cls hk_kd hk_wl hk_mt "HullKeepers$House" hk_m140 := hk_Mb_ok 2239 522 2237 2238 rfl (by decide +kernel)
set_option maxRecDepth 100000 in
theorem hk_o141 : hk_Mok hk_cls hk_kd hk_wl hk_mt "HullKeepers$House" hk_m141 := hk_Mb_ok 2243 522 2242 39 rfl (by decide +kernel)
set_option maxRecDepth 100000 in
theorem hk_o142 : hk_Mok hk_cls hk_kd hk_wl hk_mt "HullKeepers$House" hk_m142 := hk_Mb_ok 2247 522 2246 40 rfl (by decide +kernel)
set_option maxRecDepth 100000 in
theorem hk_o143 : hk_Mok hk_cls hk_kd hk_wl hk_mt "HullKeepers$House" hk_m143 := hk_Mb_ok 2251 522 2249 2250 rfl (by decide +kernel)
set_option maxRecDepth 100000 in
theorem hk_o144 : hk_Mok hk_cls hk_kd hk_wl hk_mt "HullKeepers$House" hk_m144 := hk_Mb_ok 2255 522 2254 41 rfl (by decide +kernel)
set_option maxRecDepth 100000 in
theorem hk_o145 : hk_Mok hk_cls hk_kd hk_wl hk_mt "HullKeepers$House" hk_m145 := hk_Mb_ok 2259 522 2257 2258 rfl (by decide +kernel)
set_option maxRecDepth 100000 in
theorem hk_o146 : hk_Mok hk_cls hk_kd hk_wl hk_mt "HullKeepers$House" hk_m146 := hk_Mb_ok 2263 522 2261 2262 rfl (by decide +kernel)
set_option maxRecDepth 100000 in
theorem hk_o147 : hk_Mok hk_cls hk_kd hk_wl hk_mt "HullKeepers$House" hk_m147 := hk_Mb_ok 2267 522 2265 2266 rfl (by decide +kernel)
set_option maxRecDepth 100000 in
theorem hk_o148 : hk_Mok hk_cls hk_kd hk_wl hk_mt "HullKeepers$House" hk_m148 := hk_Mb_ok 2271 522 2269 2270 rfl (by decide +kernel)
set_option maxRecDepth 100000 in
theorem hk_o149 : hk_Mok hk_cls hk_kd hk_wl hk_mt "HullKeepers$House" hk_m149 := hk_Mb_ok 2276 522 2274 2275 rfl (by decide +kernel)
set_option maxRecDepth 100000 in
theorem hk_o150 : hk_Mok hk_cls hk_kd hk_wl hk_mt "HullKeepers$House" hk_m150 := hk_Mb_ok 2280 522 2279 42 rfl (by decide +kernel)
set_option maxRecDepth 100000 in
theorem hk_o151 : hk_Mok hk_cls hk_kd hk_wl hk_mt "HullKeepers$House" hk_m151 := hk_Mb_ok 2284 522 2283 43 rfl (by decide +kernel)
set_option maxRecDepth 100000 in
theorem hk_o152 : hk_Mok hk_cls hk_kd hk_wl hk_mt "HullKeepers$House" hk_m152 := hk_Mb_ok 2560 522 2287 44 rfl (by decide +kernel)
set_option maxRecDepth 100000 in
theorem hk_o153 : hk_Mok hk_cls hk_kd hk_wl hk_mt "HullKeepers$House" hk_m153 := hk_Mb_ok 2564 522 2563 45 rfl (by decide +kernel)
set_option maxRecDepth 100000 in
theorem hk_o154 : hk_Mok hk_cls hk_kd hk_wl hk_mt "HullKeepers$House" hk_m154 := hk_Mb_ok 2568 522 2567 46 rfl (by decide +kernel)
set_option maxRecDepth 100000 in
theorem hk_o155 : hk_Mok hk_cls hk_kd hk_wl hk_mt "HullKeepers$House" hk_m155 := hk_Mb_ok 2572 522 2570 2571 rfl (by decide +kernel)
set_option maxRecDepth 100000 in
theorem hk_o156 : hk_Mok hk_cls hk_kd hk_wl hk_mt "HullKeepers$House" hk_m156 := hk_Mb_ok 2576 522 2575 47 rfl (by decide +kernel)
set_option maxRecDepth 100000 in
theorem hk_o157 : hk_Mok hk_cls hk_kd hk_wl hk_mt "HullKeepers$House" hk_m157 := hk_Mb_ok 2580 522 2579 48 rfl (by decide +kernel)
set_option maxRecDepth 100000 in
theorem hk_o158 : hk_Mok hk_cls hk_kd hk_wl hk_mt "HullKeepers$House" hk_m158 := hk_Mb_ok 2584 522 2583 49 rfl (by decide +kernel)
set_option maxRecDepth 100000 in
theorem hk_o159 : hk_Mok hk_cls hk_kd hk_wl hk_mt "HullKeepers$House" hk_m159 := hk_Mb_ok 2588 522 2586 2587 rfl (by decide +kernel)
set_option maxRecDepth 100000 in
theorem hk_o160 : hk_Mok hk_cls hk_kd hk_wl hk_mt "HullKeepers$House" hk_m160 := hk_Mb_ok 2592 522 2590 2591 rfl (by decide +kernel)
set_option maxRecDepth 100000 in
theorem hk_o161 : hk_Mok hk_cls hk_kd hk_wl hk_mt "HullKeepers$House" hk_m161 := hk_Mb_ok 2596 522 2595 50 rfl (by decide +kernel)
set_option maxRecDepth 100000 in
theorem hk_o162 : hk_Mok hk_cls hk_kd hk_wl hk_mt "HullKeepers$House" hk_m162 := hk_Mb_ok 2600 522 2599 51 rfl (by decide +kernel)
set_option maxRecDepth 100000 in
theorem hk_o163 : hk_Mok hk_cls hk_kd hk_wl hk_mt "HullKeepers$House" hk_m163 := hk_Mb_ok 2604 522 2603 52 rfl (by decide +kernel)
set_option maxRecDepth 100000 in
theorem hk_o164 : hk_Mok hk_cls hk_kd hk_wl hk_mt "HullKeepers$House" hk_m164 := hk_Mb_ok 2607 522 2606 0 rfl (by decide +kernel)
set_option maxRecDepth 100000 in
theorem hk_o165 : hk_Mok hk_cls hk_kd hk_wl hk_mt "HullKeepers$House" hk_m165 := hk_Mb_ok 2611 522 2610 53 rfl (by decide +kernel)
set_option maxRecDepth 100000 in
theorem hk_o166 : hk_Mok hk_cls hk_kd hk_wl hk_mt "HullKeepers$House" hk_m166 := hk_Mb_ok 2614 522 2613 0 rfl (by decide +kernel)
set_option maxRecDepth 100000 in
theorem hk_o167 : hk_Mok hk_cls hk_kd hk_wl hk_mt "HullKeepers$House" hk_m167 := hk_Mb_ok 2618 522 2617 54 rfl (by decide +kernel)
set_option maxRecDepth 100000 in
theorem hk_o168 : hk_Mok hk_cls hk_kd hk_wl hk_mt "HullKeepers$House" hk_m168 := hk_Mb_ok 2622 522 2621 55 rfl (by decide +kernel)
set_option maxRecDepth 100000 in
theorem hk_o169 : hk_Mok hk_cls hk_kd hk_wl hk_mt "HullKeepers$House" hk_m169 := hk_Mb_ok 2625 522 2624 0 rfl (by decide +kernel)
set_option maxRecDepth 100000 in
theorem hk_o170 : hk_Mok hk_cls hk_kd hk_wl hk_mt "HullKeepers$House" hk_m170 := hk_Mb_ok 2629 522 2628 56 rfl (by decide +kernel)
set_option maxRecDepth 100000 in
theorem hk_o171 : hk_Mok hk_cls hk_kd hk_wl hk_mt "HullKeepers$House" hk_m171 := hk_Mb_ok 2633 522 2632 57 rfl (by decide +kernel)
set_option maxRecDepth 100000 in
theorem hk_o172 : hk_Mok hk_cls hk_kd hk_wl hk_mt "HullKeepers$House" hk_m172 := hk_Mb_ok 2636 522 2635 0 rfl (by decide +kernel)
set_option maxRecDepth 100000 in
theorem hk_o173 : hk_Mok hk_cls hk_kd hk_wl hk_mt "HullKeepers$House" hk_m173 := hk_Mb_ok 2640 522 2638 2639 rfl (by decide +kernel)
set_option maxRecDepth 100000 in
theorem hk_o174 : hk_Mok hk_cls hk_kd hk_wl hk_mt "HullKeepers$House" hk_m174 := hk_Mb_ok 2644 522 2642 2643 rfl (by decide +kernel)
set_option maxRecDepth 100000 in
theorem hk_o175 : hk_Mok hk_cls hk_kd hk_wl hk_mt "HullKeepers$House" hk_m175 := hk_Mb_ok 2648 522 2646 2647 rfl (by decide +kernel)
set_option maxRecDepth 100000 in
theorem hk_o176 : hk_Mok hk_cls hk_kd hk_wl hk_mt "HullKeepers$House" hk_m176 := hk_Mb_ok 2651 522 2650 0 rfl (by decide +kernel)
set_option maxRecDepth 100000 in
theorem hk_o177 : hk_Mok hk_cls hk_kd hk_wl hk_mt "HullKeepers$House" hk_m177 := hk_Mb_ok 2655 522 2653 2654 rfl (by decide +kernel)
set_option maxRecDepth 100000 in
theorem hk_o178 : hk_Mok hk_cls hk_kd hk_wl hk_mt "HullKeepers$House" hk_m178 := hk_Mb_ok 2659 522 2657 2658 rfl (by decide +kernel)
set_option maxRecDepth 100000 in
theorem hk_o179 : hk_Mok hk_cls hk_kd hk_wl hk_mt "HullKeepers$House" hk_m179 := hk_Mb_ok 2662 522 2661 0 rfl (by decide +kernel)
set_option maxRecDepth 100000 in
theorem hk_o180 : hk_Mok hk_cls hk_kd hk_wl hk_mt "HullKeepers$House" hk_m180 := hk_Mb_ok 2666 522 2665 58 rfl (by decide +kernel)
set_option maxRecDepth 100000 in
theorem hk_o181 : hk_Mok hk_cls hk_kd hk_wl hk_mt "HullKeepers$House" hk_m181 := hk_Mb_ok 2670 522 2669 59 rfl (by decide +kernel)
set_option maxRecDepth 100000 in
theorem hk_o182 : hk_Mok hk_cls hk_kd hk_wl hk_mt "HullKeepers$House" hk_m182 := hk_Mb_ok 2674 522 2673 60 rfl (by decide +kernel)
set_option maxRecDepth 100000 in
theorem hk_o183 : hk_Mok hk_cls hk_kd hk_wl hk_mt "HullKeepers$House" hk_m183 := hk_Mb_ok 2678 522 2676 2677 rfl (by decide +kernel)
set_option maxRecDepth 100000 in
theorem hk_o184 : hk_Mok hk_cls hk_kd hk_wl hk_mt "HullKeepers$House" hk_m184 := hk_Mb_ok 2682 522 2681 61 rfl (by decide +kernel)
set_option maxRecDepth 100000 in
theorem hk_o185 : hk_Mok hk_cls hk_kd hk_wl hk_mt "HullKeepers$House" hk_m185 := hk_Mb_ok 2686 522 2684 2685 rfl (by decide +kernel)
set_option maxRecDepth 100000 in
theorem hk_o186 : hk_Mok hk_cls hk_kd hk_wl hk_mt "HullKeepers$House" hk_m186 := hk_Mb_ok 2690 522 2688 2689 rfl (by decide +kernel)
set_option maxRecDepth 100000 in
theorem hk_o187 : hk_Mok hk_cls hk_kd hk_wl hk_mt "HullKeepers$House" hk_m187 := hk_Mb_ok 2693 522 2692 0 rfl (by decide +kernel)
set_option maxRecDepth 100000 in
theorem hk_o188 : hk_Mok hk_cls hk_kd hk_wl hk_mt "HullKeepers$House" hk_m188 := hk_Mb_ok 2697 522 2695 2696 rfl (by decide +kernel)
set_option maxRecDepth 100000 in
theorem hk_o189 : hk_Mok hk_cls hk_kd hk_wl hk_mt "HullKeepers$House" hk_m189 := hk_Mb_ok 2701 522 2699 2700 rfl (by decide +kernel)
set_option maxRecDepth 100000 in
theorem hk_o190 : hk_Mok hk_cls hk_kd hk_wl hk_mt "HullKeepers$House" hk_m190 := hk_Mb_ok 2705 522 2703 2704 rfl (by decide +kernel)
set_option maxRecDepth 100000 in
theorem hk_o191 : hk_Mok hk_cls hk_kd hk_wl hk_mt "HullKeepers$House" hk_m191 := hk_Mb_ok 2711 522 2709 2710 rfl (by decide +kernel)
set_option maxRecDepth 100000 in
theorem hk_o192 : hk_Mok hk_cls hk_kd hk_wl hk_mt "HullKeepers$House" hk_m192 := hk_Mb_ok 2715 522 2713 2714 rfl (by decide +kernel)
set_option maxRecDepth 100000 in
theorem hk_o193 : hk_Mok hk_cls hk_kd hk_wl hk_mt "HullKeepers$House" hk_m193 := hk_Mb_ok 2719 522 2717 2718 rfl (by decide +kernel)
set_option maxRecDepth 100000 in
theorem hk_o194 : hk_Mok hk_cls hk_kd hk_wl hk_mt "HullKeepers$House" hk_m194 := hk_Mb_ok 2723 522 2721 2722 rfl (by decide +kernel)
set_option maxRecDepth 100000 in
theorem hk_o195 : hk_Mok hk_cls hk_kd hk_wl hk_mt "HullKeepers$House" hk_m195 := hk_Mb_ok 2727 522 2725 2726 rfl (by decide +kernel)
set_option maxRecDepth 100000 in
theorem hk_o196 : hk_Mok hk_cls hk_kd hk_wl hk_mt "HullKeepers$House" hk_m196 := hk_Mb_ok 2731 522 2730 62 rfl (by decide +kernel)
set_option maxRecDepth 100000 in
theorem hk_o197 : hk_Mok hk_cls hk_kd hk_wl hk_mt "HullKeepers$House" hk_m197 := hk_Mb_ok 2736 522 2735 63 rfl (by decide +kernel)
set_option maxRecDepth 100000 in
theorem hk_o198 : hk_Mok hk_cls hk_kd hk_wl hk_mt "HullKeepers$House" hk_m198 := hk_Mb_ok 2740 522 2739 64 rfl (by decide +kernel)
set_option maxRecDepth 100000 in
theorem hk_o199 : hk_Mok hk_cls hk_kd hk_wl hk_mt "HullKeepers$House" hk_m199 := hk_Mb_ok 2745 522 2744 65 rfl (by decide +kernel)
set_option maxRecDepth 100000 in
theorem hk_o200 : hk_Mok hk_cls hk_kd hk_wl hk_mt "HullKeepers$House" hk_m200 := hk_Mb_ok 2748 522 2747 0 rfl (by decide +kernel)
set_option maxRecDepth 100000 in
theorem hk_o201 : hk_Mok hk_cls hk_kd hk_wl hk_mt "HullKeepers$House" hk_m201 := hk_Mb_ok 2752 522 2751 66 rfl (by decide +kernel)
set_option maxRecDepth 100000 in
theorem hk_o202 : hk_Mok hk_cls hk_kd hk_wl hk_mt "HullKeepers$House" hk_m202 := hk_Mb_ok 2756 522 2755 67 rfl (by decide +kernel)
set_option maxRecDepth 100000 in
theorem hk_o203 : hk_Mok hk_cls hk_kd hk_wl hk_mt "HullKeepers$House" hk_m203 := hk_Mb_ok 2760 522 2759 68 rfl (by decide +kernel)
set_option maxRecDepth 100000 in
theorem hk_o204 : hk_Mok hk_cls hk_kd hk_wl hk_mt "HullKeepers$House" hk_m204 := hk_Mb_ok 2764 522 2763 69 rfl (by decide +kernel)
set_option maxRecDepth 100000 in
theorem hk_o205 : hk_Mok hk_cls hk_kd hk_wl hk_mt "HullKeepers$House" hk_m205 := hk_Mb_ok 2768 522 2766 2767 rfl (by decide +kernel)
set_option maxRecDepth 100000 in
theorem hk_o206 : hk_Mok hk_cls hk_kd hk_wl hk_mt "HullKeepers$House" hk_m206 := hk_Mb_ok 2772 522 2770 2771 rfl (by decide +kernel)
set_option maxRecDepth 100000 in
theorem hk_o207 : hk_Mok hk_cls hk_kd hk_wl hk_mt "HullKeepers$House" hk_m207 := hk_Mb_ok 2776 522 2774 2775 rfl (by decide +kernel)
set_option maxRecDepth 100000 in
theorem hk_o208 : hk_Mok hk_cls hk_kd hk_wl hk_mt "HullKeepers$House" hk_m208 := hk_Mb_ok 2780 522 2778 2779 rfl (by decide +kernel)
set_option maxRecDepth 100000 in
theorem hk_o209 : hk_Mok hk_cls hk_kd hk_wl hk_mt "HullKeepers$House" hk_m209 := hk_Mb_ok 2784 522 2783 70 rfl (by decide +kernel)
set_option maxRecDepth 100000 in
theorem hk_o210 : hk_Mok hk_cls hk_kd hk_wl hk_mt "HullKeepers$House" hk_m210 := hk_Mb_ok 2788 522 2786 2787 rfl (by decide +kernel)
set_option maxRecDepth 100000 in
theorem hk_o211 : hk_Mok hk_cls hk_kd hk_wl hk_mt "HullKeepers$House" hk_m211 := hk_Mb_ok 2792 522 2790 2791 rfl (by decide +kernel)
set_option maxRecDepth 100000 in
theorem hk_o212 : hk_Mok hk_cls hk_kd hk_wl hk_mt "HullKeepers$House" hk_m212 := hk_Mb_ok 2796 522 2794 2795 rfl (by decide +kernel)
set_option maxRecDepth 100000 in
theorem hk_o213 : hk_Mok hk_cls hk_kd hk_wl hk_mt "HullKeepers$House" hk_m213 := hk_Mb_ok 3072 522 2798 2799 rfl (by decide +kernel)
set_option maxRecDepth 100000 in
theorem hk_o214 : hk_Mok hk_cls hk_kd hk_wl hk_mt "HullKeepers$House" hk_m214 := hk_Mb_ok 3076 522 3074 3075 rfl (by decide +kernel)
set_option maxRecDepth 100000 in
theorem hk_o215 : hk_Mok hk_cls hk_kd hk_wl hk_mt "HullKeepers$House" hk_m215 := hk_Mb_ok 3080 522 3079 71 rfl (by decide +kernel)
set_option maxRecDepth 100000 in
theorem hk_o216 : hk_Mok hk_cls hk_kd hk_wl hk_mt "HullKeepers$House" hk_m216 := hk_Mb_ok 3084 522 3082 3083 rfl (by decide +kernel)
set_option maxRecDepth 100000 in
theorem hk_o217 : hk_Mok hk_cls hk_kd hk_wl hk_mt "HullKeepers$House" hk_m217 := hk_Mb_ok 3088 522 3086 3087 rfl (by decide +kernel)
set_option maxRecDepth 100000 in
theorem hk_o218 : hk_Mok hk_cls hk_kd hk_wl hk_mt "HullKeepers$House" hk_m218 := hk_Mb_ok 3092 522 3090 3091 rfl (by decide +kernel)
set_option maxRecDepth 100000 in
theorem hk_o219 : hk_Mok hk_cls hk_kd hk_wl hk_mt "HullKeepers$House" hk_m219 := hk_Mb_ok 3096 522 3094 3095 rfl (by decide +kernel)
set_option maxRecDepth 100000 in
theorem hk_o220 : hk_Mok hk_cls hk_kd hk_wl hk_mt "HullKeepers$House" hk_m220 := hk_Mb_ok 3100 522 3099 72 rfl (by decide +kernel)
set_option maxRecDepth 100000 in
theorem hk_o221 : hk_Mok hk_cls hk_kd hk_wl hk_mt "HullKeepers$House" hk_m221 := hk_Mb_ok 3104 522 3102 3103 rfl (by decide +kernel)
set_option maxRecDepth 100000 in
theorem hk_o222 : hk_Mok hk_cls hk_kd hk_wl hk_mt "HullKeepers$House" hk_m222 := hk_Mb_ok 3110 522 3109 73 rfl (by decide +kernel)
set_option maxRecDepth 100000 in
theorem hk_all : ∀ q ∈ hk_ml, hk_Mok hk_cls hk_kd hk_wl hk_mt "HullKeepers$House" q := List.forall_mem_cons.mpr ⟨hk_o0, List.forall_mem_cons.mpr ⟨hk_o1, List.forall_mem_cons.mpr ⟨hk_o2, List.forall_mem_cons.mpr ⟨hk_o3, List.forall_mem_cons.mpr ⟨hk_o4, List.forall_mem_cons.mpr ⟨hk_o5, List.forall_mem_cons.mpr ⟨hk_o6, List.forall_mem_cons.mpr ⟨hk_o7, List.forall_mem_cons.mpr ⟨hk_o8, List.forall_mem_cons.mpr ⟨hk_o9, List.forall_mem_cons.mpr ⟨hk_o10, List.forall_mem_cons.mpr ⟨hk_o11, List.forall_mem_cons.mpr ⟨hk_o12, List.forall_mem_cons.mpr ⟨hk_o13, List.forall_mem_cons.mpr ⟨hk_o14, List.forall_mem_cons.mpr ⟨hk_o15, List.forall_mem_cons.mpr ⟨hk_o16, List.forall_mem_cons.mpr ⟨hk_o17, List.forall_mem_cons.mpr ⟨hk_o18, List.forall_mem_cons.mpr ⟨hk_o19, List.forall_mem_cons.mpr ⟨hk_o20, List.forall_mem_cons.mpr ⟨hk_o21, List.forall_mem_cons.mpr ⟨hk_o22, List.forall_mem_cons.mpr ⟨hk_o23, List.forall_mem_cons.mpr ⟨hk_o24, List.forall_mem_cons.mpr ⟨hk_o25, List.forall_mem_cons.mpr ⟨hk_o26, List.forall_mem_cons.mpr ⟨hk_o27, List.forall_mem_cons.mpr ⟨hk_o28, List.forall_mem_cons.mpr ⟨hk_o29, List.forall_mem_cons.mpr ⟨hk_o30, List.forall_mem_cons.mpr ⟨hk_o31, List.forall_mem_cons.mpr ⟨hk_o32, List.forall_mem_cons.mpr ⟨hk_o33, List.forall_mem_cons.mpr ⟨hk_o34, List.forall_mem_cons.mpr ⟨hk_o35, List.forall_mem_cons.mpr ⟨hk_o36, List.forall_mem_cons.mpr ⟨hk_o37, List.forall_mem_cons.mpr ⟨hk_o38, List.forall_mem_cons.mpr ⟨hk_o39, List.forall_mem_cons.mpr ⟨hk_o40, List.forall_mem_cons.mpr ⟨hk_o41, List.forall_mem_cons.mpr ⟨hk_o42, List.forall_mem_cons.mpr ⟨hk_o43, List.forall_mem_cons.mpr ⟨hk_o44, List.forall_mem_cons.mpr ⟨hk_o45, List.forall_mem_cons.mpr ⟨hk_o46, List.forall_mem_cons.mpr ⟨hk_o47, List.forall_mem_cons.mpr ⟨hk_o48, List.forall_mem_cons.mpr ⟨hk_o49, List.forall_mem_cons.mpr ⟨hk_o50, List.forall_mem_cons.mpr ⟨hk_o51, List.forall_mem_cons.mpr ⟨hk_o52, List.forall_mem_cons.mpr ⟨hk_o53, List.forall_mem_cons.mpr ⟨hk_o54, List.forall_mem_cons.mpr ⟨hk_o55, List.forall_mem_cons.mpr ⟨hk_o56, List.forall_mem_cons.mpr ⟨hk_o57, List.forall_mem_cons.mpr ⟨hk_o58, List.forall_mem_cons.mpr ⟨hk_o59, List.forall_mem_cons.mpr ⟨hk_o60, List.forall_mem_cons.mpr ⟨hk_o61, List.forall_mem_cons.mpr ⟨hk_o62, List.forall_mem_cons.mpr ⟨hk_o63, List.forall_mem_cons.mpr ⟨hk_o64, List.forall_mem_cons.mpr ⟨hk_o65, List.forall_mem_cons.mpr ⟨hk_o66, List.forall_mem_cons.mpr ⟨hk_o67, List.forall_mem_cons.mpr ⟨hk_o68, List.forall_mem_cons.mpr ⟨hk_o69, List.forall_mem_cons.mpr ⟨hk_o70, List.forall_mem_cons.mpr ⟨hk_o71, List.forall_mem_cons.mpr ⟨hk_o72, List.forall_mem_cons.mpr ⟨hk_o73, List.forall_mem_cons.mpr ⟨hk_o74, List.forall_mem_cons.mpr ⟨hk_o75, List.forall_mem_cons.mpr ⟨hk_o76, List.forall_mem_cons.mpr ⟨hk_o77, List.forall_mem_cons.mpr ⟨hk_o78, List.forall_mem_cons.mpr ⟨hk_o79, List.forall_mem_cons.mpr ⟨hk_o80, List.forall_mem_cons.mpr ⟨hk_o81, List.forall_mem_cons.mpr ⟨hk_o82, List.forall_mem_cons.mpr ⟨hk_o83, List.forall_mem_cons.mpr ⟨hk_o84, List.forall_mem_cons.mpr ⟨hk_o85, List.forall_mem_cons.mpr ⟨hk_o86, List.forall_mem_cons.mpr ⟨hk_o87, List.forall_mem_cons.mpr ⟨hk_o88, List.forall_mem_cons.mpr ⟨hk_o89, List.forall_mem_cons.mpr ⟨hk_o90, List.forall_mem_cons.mpr ⟨hk_o91, List.forall_mem_cons.mpr ⟨hk_o92, List.forall_mem_cons.mpr ⟨hk_o93, List.forall_mem_cons.mpr ⟨hk_o94, List.forall_mem_cons.mpr ⟨hk_o95, List.forall_mem_cons.mpr ⟨hk_o96, List.forall_mem_cons.mpr ⟨hk_o97, List.forall_mem_cons.mpr ⟨hk_o98, List.forall_mem_cons.mpr ⟨hk_o99, List.forall_mem_cons.mpr ⟨hk_o100, List.forall_mem_cons.mpr ⟨hk_o101, List.forall_mem_cons.mpr ⟨hk_o102, List.forall_mem_cons.mpr ⟨hk_o103, List.forall_mem_cons.mpr ⟨hk_o104, List.forall_mem_cons.mpr ⟨hk_o105, List.forall_mem_cons.mpr ⟨hk_o106, List.forall_mem_cons.mpr ⟨hk_o107, List.forall_mem_cons.mpr ⟨hk_o108, List.forall_mem_cons.mpr ⟨hk_o109, List.forall_mem_cons.mpr ⟨hk_o110, List.forall_mem_cons.mpr ⟨hk_o111, List.forall_mem_cons.mpr ⟨hk_o112, List.forall_mem_cons.mpr ⟨hk_o113, List.forall_mem_cons.mpr ⟨hk_o114, List.forall_mem_cons.mpr ⟨hk_o115, List.forall_mem_cons.mpr ⟨hk_o116, List.forall_mem_cons.mpr ⟨hk_o117, List.forall_mem_cons.mpr ⟨hk_o118, List.forall_mem_cons.mpr ⟨hk_o119, List.forall_mem_cons.mpr ⟨hk_o120, List.forall_mem_cons.mpr ⟨hk_o121, List.forall_mem_cons.mpr ⟨hk_o122, List.forall_mem_cons.mpr ⟨hk_o123, List.forall_mem_cons.mpr ⟨hk_o124, List.forall_mem_cons.mpr ⟨hk_o125, List.forall_mem_cons.mpr ⟨hk_o126, List.forall_mem_cons.mpr ⟨hk_o127, List.forall_mem_cons.mpr ⟨hk_o128, List.forall_mem_cons.mpr ⟨hk_o129, List.forall_mem_cons.mpr ⟨hk_o130, List.forall_mem_cons.mpr ⟨hk_o131, List.forall_mem_cons.mpr ⟨hk_o132, List.forall_mem_cons.mpr ⟨hk_o133, List.forall_mem_cons.mpr ⟨hk_o134, List.forall_mem_cons.mpr ⟨hk_o135, List.forall_mem_cons.mpr ⟨hk_o136, List.forall_mem_cons.mpr ⟨hk_o137, List.forall_mem_cons.mpr ⟨hk_o138, List.forall_mem_cons.mpr ⟨hk_o139, List.forall_mem_cons.mpr ⟨hk_o140, List.forall_mem_cons.mpr ⟨hk_o141, List.forall_mem_cons.mpr ⟨hk_o142, List.forall_mem_cons.mpr ⟨hk_o143, List.forall_mem_cons.mpr ⟨hk_o144, List.forall_mem_cons.mpr ⟨hk_o145, List.forall_mem_cons.mpr ⟨hk_o146, List.forall_mem_cons.mpr ⟨hk_o147, List.forall_mem_cons.mpr ⟨hk_o148, List.forall_mem_cons.mpr ⟨hk_o149, List.forall_mem_cons.mpr ⟨hk_o150, List.forall_mem_cons.mpr ⟨hk_o151, List.forall_mem_cons.mpr ⟨hk_o152, List.forall_mem_cons.mpr ⟨hk_o153, List.forall_mem_cons.mpr ⟨hk_o154, List.forall_mem_cons.mpr ⟨hk_o155, List.forall_mem_cons.mpr ⟨hk_o156, List.forall_mem_cons.mpr ⟨hk_o157, List.forall_mem_cons.mpr ⟨hk_o158, List.forall_mem_cons.mpr ⟨hk_o159, List.forall_mem_cons.mpr ⟨hk_o160, List.forall_mem_cons.mpr ⟨hk_o161, List.forall_mem_cons.mpr ⟨hk_o162, List.forall_mem_cons.mpr ⟨hk_o163, List.forall_mem_cons.mpr ⟨hk_o164, List.forall_mem_cons.mpr ⟨hk_o165, List.forall_mem_cons.mpr ⟨hk_o166, List.forall_mem_cons.mpr ⟨hk_o167, List.forall_mem_cons.mpr ⟨hk_o168, List.forall_mem_cons.mpr ⟨hk_o169, List.forall_mem_cons.mpr ⟨hk_o170, List.forall_mem_cons.mpr ⟨hk_o171, List.forall_mem_cons.mpr ⟨hk_o172, List.forall_mem_cons.mpr ⟨hk_o173, List.forall_mem_cons.mpr ⟨hk_o174, List.forall_mem_cons.mpr ⟨hk_o175, List.forall_mem_cons.mpr ⟨hk_o176, List.forall_mem_cons.mpr ⟨hk_o177, List.forall_mem_cons.mpr ⟨hk_o178, List.forall_mem_cons.mpr ⟨hk_o179, List.forall_mem_cons.mpr ⟨hk_o180, List.forall_mem_cons.mpr ⟨hk_o181, List.forall_mem_cons.mpr ⟨hk_o182, List.forall_mem_cons.mpr ⟨hk_o183, List.forall_mem_cons.mpr ⟨hk_o184, List.forall_mem_cons.mpr ⟨hk_o185, List.forall_mem_cons.mpr ⟨hk_o186, List.forall_mem_cons.mpr ⟨hk_o187, List.forall_mem_cons.mpr ⟨hk_o188, List.forall_mem_cons.mpr ⟨hk_o189, List.forall_mem_cons.mpr ⟨hk_o190, List.forall_mem_cons.mpr ⟨hk_o191, List.forall_mem_cons.mpr ⟨hk_o192, List.forall_mem_cons.mpr ⟨hk_o193, List.forall_mem_cons.mpr ⟨hk_o194, List.forall_mem_cons.mpr ⟨hk_o195, List.forall_mem_cons.mpr ⟨hk_o196, List.forall_mem_cons.mpr ⟨hk_o197, List.forall_mem_cons.mpr ⟨hk_o198, List.forall_mem_cons.mpr ⟨hk_o199, List.forall_mem_cons.mpr ⟨hk_o200, List.forall_mem_cons.mpr ⟨hk_o201, List.forall_mem_cons.mpr ⟨hk_o202, List.forall_mem_cons.mpr ⟨hk_o203, List.forall_mem_cons.mpr ⟨hk_o204, List.forall_mem_cons.mpr ⟨hk_o205, List.forall_mem_cons.mpr ⟨hk_o206, List.forall_mem_cons.mpr ⟨hk_o207, List.forall_mem_cons.mpr ⟨hk_o208, List.forall_mem_cons.mpr ⟨hk_o209, List.forall_mem_cons.mpr ⟨hk_o210, List.forall_mem_cons.mpr ⟨hk_o211, List.forall_mem_cons.mpr ⟨hk_o212, List.forall_mem_cons.mpr ⟨hk_o213, List.forall_mem_cons.mpr ⟨hk_o214, List.forall_mem_cons.mpr ⟨hk_o215, List.forall_mem_cons.mpr ⟨hk_o216, List.forall_mem_cons.mpr ⟨hk_o217, List.forall_mem_cons.mpr ⟨hk_o218, List.forall_mem_cons.mpr ⟨hk_o219, List.forall_mem_cons.mpr ⟨hk_o220, List.forall_mem_cons.mpr ⟨hk_o221, List.forall_mem_cons.mpr ⟨hk_o222, fun _ h => absurd h List.not_mem_nil⟩⟩⟩⟩⟩⟩⟩⟩⟩⟩⟩⟩⟩⟩⟩⟩⟩⟩⟩⟩⟩⟩⟩⟩⟩⟩⟩⟩⟩⟩⟩⟩⟩⟩⟩⟩⟩⟩⟩⟩⟩⟩⟩⟩⟩⟩⟩⟩⟩⟩⟩⟩⟩⟩⟩⟩⟩⟩⟩⟩⟩⟩⟩⟩⟩⟩⟩⟩⟩⟩⟩⟩⟩⟩⟩⟩⟩⟩⟩⟩⟩⟩⟩⟩⟩⟩⟩⟩⟩⟩⟩⟩⟩⟩⟩⟩⟩⟩⟩⟩⟩⟩⟩⟩⟩⟩⟩⟩⟩⟩⟩⟩⟩⟩⟩⟩⟩⟩⟩⟩⟩⟩⟩⟩⟩⟩⟩⟩⟩⟩⟩⟩⟩⟩⟩⟩⟩⟩⟩⟩⟩⟩⟩⟩⟩⟩⟩⟩⟩⟩⟩⟩⟩⟩⟩⟩⟩⟩⟩⟩⟩⟩⟩⟩⟩⟩⟩⟩⟩⟩⟩⟩⟩⟩⟩⟩⟩⟩⟩⟩⟩⟩⟩⟩⟩⟩⟩⟩⟩⟩⟩⟩⟩⟩⟩⟩⟩⟩⟩⟩⟩⟩⟩⟩⟩⟩⟩⟩⟩⟩⟩⟩⟩⟩⟩⟩⟩⟩⟩⟩⟩⟩⟩
theorem hk_inst : ∀ q ∈ hk_cls, Jvm.Cond.instantiable q.1 q.2.2 ∈ hk_wl := List.forall_mem_cons.mpr ⟨hk_lk_in (b := 1044) (by decide +kernel), List.forall_mem_cons.mpr ⟨hk_lk_in (b := 535) (by decide +kernel), List.forall_mem_cons.mpr ⟨hk_lk_in (b := 1029) (by decide +kernel), List.forall_mem_cons.mpr ⟨hk_lk_in (b := 714) (by decide +kernel), List.forall_mem_cons.mpr ⟨hk_lk_in (b := 665) (by decide +kernel), List.forall_mem_cons.mpr ⟨hk_lk_in (b := 690) (by decide +kernel), List.forall_mem_cons.mpr ⟨hk_lk_in (b := 541) (by decide +kernel), List.forall_mem_cons.mpr ⟨hk_lk_in (b := 527) (by decide +kernel), List.forall_mem_cons.mpr ⟨hk_lk_in (b := 2170) (by decide +kernel), fun _ h => absurd h List.not_mem_nil⟩⟩⟩⟩⟩⟩⟩⟩⟩
theorem hk_shf {q k n : Nat} (h : hk_SH q = (k, n)) (hk : k ≠ 0) : q < 97 ∧ hk_shl[q]? = some (k, n) := by
  unfold hk_SH at h
  cases hq : hk_shl[q]? with
  | none => rw [hq] at h; cases h; exact absurd rfl hk
  | some x =>
    rw [hq] at h
    refine ⟨(List.getElem?_eq_some_iff.mp hq).1, ?_⟩
    rw [← h]
    rfl
set_option maxRecDepth 100000 in
theorem hk_TT : hk_T hk_SH 1 hk_cls hk_kd hk_wl hk_mt "HullKeepers$House" 96 := by
  refine ⟨hk_clsok, fun q n h => ?_, fun q n h => ?_, ⟨0, rfl⟩, ⟨_, rfl, rfl⟩, fun w hw => List.all_eq_true.mp hk_wl_good w hw, ⟨hk_lk_in (b := 568) (by decide +kernel), hk_lk_in (b := 2214) (by decide +kernel), hk_lk_in (b := 2215) (by decide +kernel), fun b w h => hk_lk_in h⟩, ⟨hk_lk_in (b := 532) (by decide +kernel), hk_lk_in (b := 533) (by decide +kernel), ⟨hk_lk_in (b := 516) (by decide +kernel), ⟨hk_lk_in (b := 547) (by decide +kernel), hk_lk_in (b := 548) (by decide +kernel)⟩, ⟨hk_lk_in (b := 1192) (by decide +kernel), hk_lk_in (b := 1193) (by decide +kernel)⟩, ⟨hk_lk_in (b := 1601) (by decide +kernel), hk_lk_in (b := 1602) (by decide +kernel)⟩, ⟨hk_lk_in (b := 1604) (by decide +kernel), hk_lk_in (b := 1605) (by decide +kernel)⟩⟩⟩, ⟨hk_lk_in (b := 2132) (by decide +kernel), hk_lk_in (b := 2131) (by decide +kernel), hk_lk_in (b := 525) (by decide +kernel)⟩, fun y q hq => hk_all q (List.mem_of_getElem? hq)⟩
  · have h2 := (hk_shf h (by decide)).2
    have h3 : hk_shl.all (fun s => !decide (s.1 = 1) || (hk_cls[s.2]?).isSome) = true := by decide +kernel
    have h4 := List.all_eq_true.mp h3 _ (List.mem_of_getElem? h2)
    simp only [decide_true, Bool.not_true, Bool.false_or] at h4
    exact Option.isSome_iff_exists.mp h4
  · have h2 := hk_shf h (by decide)
    have h3 : (List.range 97).all (fun i => !decide ((hk_SH i).1 = 6) || decide (i = 96)) = true := by decide +kernel
    have h4 := List.all_eq_true.mp h3 q (List.mem_range.mpr h2.1)
    rw [h] at h4
    simpa using h4
set_option maxRecDepth 100000 in
theorem hk_lw0 : ((hk_cL.drop 0).take 600).all (fun e => hk_eb e "HullKeepersLaw" false 2 4) = true := by decide +kernel
set_option maxRecDepth 100000 in
theorem hk_lw600 : ((hk_cL.drop 600).take 600).all (fun e => hk_eb e "HullKeepersLaw" false 2 4) = true := by decide +kernel
set_option maxRecDepth 100000 in
theorem hk_lwwlk : hk_wlk code code.data.toList 0 hk_cL = true := by decide +kernel
set_option maxRecDepth 100000 in
theorem hk_lwseq : hk_seq hk_cL = true := by decide +kernel
theorem hk_all_cut {cd : List hk_E} {f : hk_E → Bool} (k : Nat) (h1 : (cd.take k).all f = true) (h2 : (cd.drop k).all f = true) : cd.all f = true := by
  rw [← List.take_append_drop k cd, List.all_append, h1, h2]
  rfl
theorem hk_lwd600 : (hk_cL.drop 600).all (fun e => hk_eb e "HullKeepersLaw" false 2 4) = true := hk_all_cut 600 hk_lw600 (by rw [List.drop_drop]; exact (List.all_eq_true.mpr (fun e he => absurd he (by rw [List.drop_eq_nil_of_le (show hk_cL.length ≤ 1200 by decide +kernel)]; exact List.not_mem_nil))))
theorem hk_lwall : hk_cL.all (fun e => hk_eb e "HullKeepersLaw" false 2 4) = true := (hk_all_cut 600 hk_lw0 hk_lwd600)
end
section
/-! THE CLAIM OUT OF ONE WALK OF THE LAW'S BODY. Your part is whole_start (and what it stands on); all else here is the same for every law, but numbers. -/
def R_law : String := "HullKeepersLaw"
def lw_P (b : Addr) (xs : List Int32) (args : Array Value) (s : State) : Prop := args = #[.ref b] ∧ s.IntsAt b xs ∧ xs.length ≤ 6 ∧ (Jvm.Cond.and given_1 narrow_1).before args s = true
def lw_Q (_ : Array Value) (s : State) (o : Outcome) (t : State) : Prop := o = .returned (some (.int 1)) ∧ Framed s o t [] 600000 7302250
def lw_Z (below : List Frame) (a : Array Value) (s : State) : State → Prop := fun t => ∃ o, t.status = .running ∧ Ended t below o ∧ lw_Q a s o t
/-- the law's own end, with 1 on the stack, nothing written that was there before, its room as the claim has it -/
theorem lw_ret {p : Program} {l : Launch} {e : Env} {s : State} {m : MethodId} {below : List Frame} {meth : Method} {c : Code} {b : Nat} (hx : p.tables.exec = Jvm.exec) (hb : c.code = code) (hr : meth.sig.returnType = ret) (hlocks : meth.locks = false) {pc : Nat} {H : Heap} {ls : Array Slot} (hdg : decode code pc = .ok (.ireturn, 1)) : W p l e room_1 s m #[Value.ref b] below meth c H [] 600000 7302250 (lw_Z below #[Value.ref b] s) (F0 m pc ls [.int 1]) := by
  intro T hT X
  obtain ⟨fs, hret, hrun, hended, hW, hframe⟩ := X.leave (v := some (.int 1)) (hlocks := hlocks) (fun h => by rw [hr] at h; cases h)
  have hmeth' : T.vm.method? m = some meth := X.method'
  refine ⟨T.setFrames fs, ?_, .returned (some (.int 1)), hrun, hended, rfl, ⟨_, rfl⟩, hW, hframe⟩
  jvm_step X.here [X.here.top, hx, hb, hdg, hmeth', hr, ret, narrow_b1]
  (try refine ⟨rfl, ?_⟩); (try refine ⟨rfl, ?_⟩)
  first | (intro acts; rw [hret _ acts rfl rfl rfl]) | rw [hret _ _ rfl rfl rfl]
  exact Steps.refl _
/-- what holds at the law's entry: the machine, the code, the tables' words (any of lw_tbl by 'hts w (by decide +kernel)'), the script of L ints xs at the cell b, what the Statement gives of the start (any of its parts by flat_of_before) -/
def lw_At (p : Program) (s : State) (m : MethodId) (meth : Method) (c : Code) (b L : Nat) (xs : Nat → Int32) : Prop :=
  p.tables.exec = Jvm.exec ∧ c.code = code ∧ meth.sig.returnType = ret ∧ c.maxLocals = 4 ∧ s.vm.findClass R_law = some m.cls ∧ (∀ w ∈ lw_tbl, w.before #[Value.ref b] s = true) ∧ va_X b L xs s s.heap ∧ b < s.heap.size ∧ meth.locks = false ∧ (Jvm.Cond.and given_1 narrow_1).before #[Value.ref b] s = true
theorem hk_room_ok : room_1.frames = 2048 ∧ room_1.cells = 600000 ∧ room_1.slots = 7302250 ∧ room_1.locals = 84000 := ⟨rfl, rfl, rfl, rfl⟩
/-- the heap at the start: nothing -/
def hk_h0 : hk_H := (fun _ _ => 0, fun _ _ => 0, fun _ _ => 0, [])
/-- the law out of a run of the abstract machine -/
def hk_Law (L : Nat) (xs : Nat → Int32) : Prop := ∃ (d F n : Nat) (h' : hk_H), d ≤ 1000 ∧ hk_run hk_SH 95 100000 1 (hk_call hk_SH 95 100000 1 hk_mt F d) (some (L, xs)) hk_cL n hk_cL (hk_loc 4 [.ref 96]) [] hk_h0 = some (some (.int 1), h') ∧ h'.2.2.2.length ≤ 600000 ∧ hk_sl hk_SH hk_cls h'.2.2.2 ≤ 7302250
set_option maxRecDepth 100000 in
theorem hk_rooms {d : Nat} (hd : d ≤ 1000) : d + 1 ≤ room_1.frames ∧ 64 * d + 1064 ≤ room_1.locals := by
  rw [hk_room_ok.1, hk_room_ok.2.2.2]
  omega
set_option maxHeartbeats 2000000 in
theorem hk_whole {p : Program} {e : Env} {s : State} {m : MethodId} {below : List Frame} {meth : Method} {c : Code} (l : Launch) {b L : Nat} {xs : Nat → Int32} (C0 : lw_At p s m meth c b L xs) (hLaw : hk_Law L xs) : W p l e room_1 s m #[Value.ref b] below meth c s.heap [] 0 0 (lw_Z below #[Value.ref b] s) (entryFrame m ([Value.ref b] : List Value).toArray 4) := by
  obtain ⟨hx, hb, hr, hml, hown, hts, hX, hbl, hlocks, hgv⟩ := id C0
  obtain ⟨d, F, n, h', hd, hrun, hc1, hc2⟩ := hLaw
  have hTT := hk_TT
  have hts2 : ∀ w ∈ hk_wl, w.before #[Value.ref b] s = true := fun w hw => hts w (hk_wl_in w hw)
  have hkn : ∀ ci : Nat, ∃ z : ClassId × (Nat → Nat), ∀ q : vw_C, hk_cls[ci]? = some q → u_Kn s q.1 q.2.1 q.2.2 z.1 z.2 := by
    intro ci
    cases hq : hk_cls[ci]? with
    | none => exact ⟨(0, fun _ => 0), fun q h => by cases h⟩
    | some q =>
      obtain ⟨cC, iS, hk⟩ := u_known (C := q.1) (T := q.2.1) (N := q.2.2) (n := q.2.2) hts2 (hk_clsok ci q hq).1 (hts2 _ (hk_inst q (List.mem_of_getElem? hq)))
      exact ⟨(cC, iS), fun q' h => by cases h; exact hk⟩
  obtain ⟨zf, hzf⟩ := Classical.axiomOfChoice hkn
  have harr : ∀ ty : FieldType, Cond.arrayClass ty ∈ hk_wl → (match ty with | .object _ => False | _ => True) → ∃ cA : ClassId, ArrOfT s cA ty ∧ va_RA s cA ty := by
    intro ty hty hno
    obtain ⟨cA, kA, comp, h1, h2, h3⟩ := Cond.arrayClass_spec (hts2 _ hty)
    refine ⟨cA, fun n z => ⟨fun k h => (by cases h), kA, h2, comp, h3⟩, ?_⟩
    cases ty <;> first | exact h1 | exact absurd hno (by simp)
  obtain ⟨cI, aI⟩ := harr .int hTT.2.2.2.2.2.2.1.1 trivial
  obtain ⟨cZ, aZ⟩ := harr .boolean hTT.2.2.2.2.2.2.1.2.1 trivial
  obtain ⟨cJ, aJ⟩ := harr .long hTT.2.2.2.2.2.2.1.2.2.1 trivial
  obtain ⟨cR, aR⟩ : ∃ cR : ClassId, ArrOfT s cR (.object "HullKeepers$House") ∧ va_RA s cR (.object "HullKeepers$House") := by
    obtain ⟨comp, cA, kA, h1, h2, h3, h4, h5⟩ := Cond.arrayOver_spec (hts _ hk_ao_in)
    exact ⟨cA, fun n z => ⟨fun k h => (by cases h), kA, h3, comp, h4⟩, kA, comp, h3, h4, h1, h5⟩
  have hK : va_K (fun ci => (zf ci).1, fun ci => (zf ci).2) hk_cls (hk_tys cI cZ cR cJ "HullKeepers$House") s := by
    refine ⟨fun ci q hq => hzf ci q hq, fun k q hq => ?_⟩
    match k, hq with
    | 0, hq => cases hq; exact aI
    | 1, hq => cases hq; exact aZ
    | 2, hq => cases hq; exact aR
    | 3, hq => cases hq; exact aJ
    | k + 4, hq => simp [hk_tys] at hq
  have hA : ∀ q : Nat, s.heap.size ≤ q → (fun q : Nat => s.heap.size ≤ q) q := fun _ h => h
  have hS : va_S (fun q : Nat => s.heap.size ≤ q) s.heap s.heap [] := va_S.rf
  have hEx : hk_Ex "HullKeepers$House" s := ⟨va_AO.of (hts _ hk_ao_in), fun q hq => va_Nw.of rfl (hts _ (hk_nl_in q hq))⟩
  have hrm := hk_rooms hd
  have FX : hk_Fx hk_SH 1 hk_cls hk_kd hk_wl hk_mt "HullKeepers$House" 96 p l room_1 s m #[Value.ref b] meth c (fun ci => (zf ci).1, fun ci => (zf ci).2) cI cZ cR cJ (fun q : Nat => s.heap.size ≤ q) s.heap b 4 d "HullKeepersLaw" code (some (L, xs)) (hk_call hk_SH 95 100000 1 hk_mt F d) false :=
    ⟨hTT, hx, hb, hml, hown, hts2, hK, hA, fun h => (by cases h), fun q h => (by cases h; exact ⟨hX, hbl, Nat.not_le.mpr hbl⟩), fun y a h r h' hr2 => hk_call_snd l hTT F d y a h r h' hr2, fun y a h q hr2 => hk_call_ge F d y a h q hr2, hrm.1, hrm.2, hEx⟩
  have hl := lv_entry ([Value.ref 96].map (hk_tv (fun _ => b))) (n := 4) (Nat.le_of_ble_eq_true rfl)
  rw [lg_entry_eq]
  show W p l e room_1 s m #[Value.ref b] below meth c s.heap [] 0 0 (lw_Z below #[Value.ref b] s) (F0 m 0 ((lg_sl ([Value.ref 96].map (hk_tv (fun _ => b))) ++ List.replicate (4 - (lg_sl ([Value.ref 96].map (hk_tv (fun _ => b)))).length) Slot.unset).toArray) [])
  generalize (lg_sl ([Value.ref 96].map (hk_tv (fun _ => b))) ++ List.replicate (4 - (lg_sl ([Value.ref 96].map (hk_tv (fun _ => b)))).length) Slot.unset).toArray = ls at hl ⊢
  have hRR : hk_R hk_SH hk_cls hk_kd 96 (fun ci => (zf ci).1, fun ci => (zf ci).2) cI cZ cR cJ (fun q : Nat => s.heap.size ≤ q) s.heap b (fun _ => b) [] 4 0 0 (fun _ => b) hk_h0 s.heap [] ls (hk_loc 4 [.ref 96]) [] := by
    refine ⟨fun k q h => by simp [hk_ws, hk_h0] at h, ⟨fun i j p q h => by simp [hk_ws, hk_h0] at h, fun k q h => by simp [hk_ws, hk_h0] at h⟩, hS, fun p hp => absurd hp List.not_mem_nil, hk_has_sub hl fun z hz => ?_, rfl, fun v hv => absurd hv List.not_mem_nil, fun v hv => ?_, ⟨rfl, fun z _ => rfl, fun z hz => hz⟩, Nat.zero_le _, Nat.zero_le _⟩
    · obtain ⟨v, h1, h2⟩ := hk_pl_mem.mp hz
      have := hk_as_args (fun _ => b) [.ref 96] 0 z.1 v (hk_loc_at h1)
      rw [Nat.zero_add, ← h2] at this
      exact this
    · obtain ⟨k, hk⟩ := List.getElem?_of_mem hv
      have := hk_as_mem [.ref 96] v (List.mem_of_getElem? (hk_loc_at hk))
      rw [List.mem_singleton] at this
      rw [this]
      exact Or.inr rfl
  have key := hk_run_snd (rk := 2) (n0 := 0) (s0 := 0) (ad0 := fun _ => b) (al0 := []) (e := e) (below := below) (Q := lw_Z below #[Value.ref b] s) FX (hk_eb_ok hk_lwwlk hk_lwall) hk_lwseq (qf := (some (.int 1), h')) ⟨Nat.le_trans (Nat.sub_le _ _) hc1, Nat.le_trans (Nat.sub_le _ _) hc2⟩ ?_ n hk_cL [] 0 rfl (fun e r he => by cases he; rfl) (hk_loc 4 [.ref 96]) [] hk_h0 hrun (fun _ => b) s.heap [] ls hRR
  · unfold hk_G at key
    exact W.cs rfl rfl key
  · intro pc L st h1 rr hqf hE ad1 H1 locs1 ls1 r1
    cases hqf
    obtain ⟨b1, b2, b3, b4, b5, b6, b7, b8, b9, b10, b11⟩ := r1
    unfold hk_G
    rcases hE with ⟨x, hx1, rfl, hdg, hrk⟩ | ⟨x, hx1, rfl, hdg, hrk⟩ | ⟨hx1, rfl, hdg, hrk⟩
    · cases hx1
      refine va_forget (fun q hq => b3.2.2 q hq) ?_
      refine W.widen (k := 600000) (n := 7302250) (Nat.le_trans (Nat.sub_le _ _) hc1) (Nat.le_trans (Nat.sub_le _ _) hc2) ?_
      exact lw_ret hx hb hr hlocks hdg
    · cases hx1
    · cases hx1
end
section
/-! ===== what a run comes to, as a statement computed along the code ===== -/
/-- a call, so deep, comes to an end with k -/
def hk_Cl (d y : Nat) (a : List Value) (h : hk_H) (k : Option Value → hk_H → Prop) : Prop := ∃ (F : Nat) (r : Option Value) (h' : hk_H), hk_call hk_SH 95 100000 1 hk_mt F d y a h = some (r, h') ∧ k r h'
/-- a body, from a row of its code on, comes to its end with k -/
def hk_Rn (d : Nat) (scr : Option (Nat × (Nat → Int32))) (cd cs : List hk_E) (L : hk_L) (st : List Value) (h : hk_H) (k : Option Value → hk_H → Prop) : Prop := ∃ (F n : Nat) (r : Option Value) (h' : hk_H), hk_run hk_SH 95 100000 1 (hk_call hk_SH 95 100000 1 hk_mt F d) scr cd n cs L st h = some (r, h') ∧ k r h'
def hk_wp (d : Nat) (scr : Option (Nat × (Nat → Int32))) (cd : List hk_E) (k : Option Value → hk_H → Prop) : Nat → List hk_E → hk_L → List Value → hk_H → Prop
  | 0, _, _, _, _ => False
  | _ + 1, [], _, _, _ => False
  | n + 1, e :: cs, L, st, h => match e.2.2.2.1 with
    | 0 => hk_stp hk_SH 95 100000 (R := Prop) False (fun L st h => hk_wp d scr cd k n cs L st h) (fun t L st h => hk_wp d scr cd k n (hk_sfx t cd) L st h) (fun P _ q => P ∧ q) (fun P _ q1 q2 => (P → q1) ∧ (¬ P → q2)) (fun y a h q => hk_Cl d y a h q) (fun r h => k r h) scr 1 e.2.1 e.2.2.2.2.1.1 e.2.2.2.2.1.2.2.1 e.2.2.2.2.1.2.2.2 e.2.2.2.2.2.1 e.2.2.2.2.2.2.1 e.2.2.2.2.2.2.2 L st h
    | _ => hk_Rn d scr cd (e :: cs) L st h k
/-- the same, its first row done whatever it is -/
def hk_w1 (d : Nat) (scr : Option (Nat × (Nat → Int32))) (cd : List hk_E) (k : Option Value → hk_H → Prop) (n : Nat) : List hk_E → hk_L → List Value → hk_H → Prop
  | [], _, _, _ => False
  | e :: cs, L, st, h => hk_stp hk_SH 95 100000 (R := Prop) False (fun L st h => hk_wp d scr cd k n cs L st h) (fun t L st h => hk_wp d scr cd k n (hk_sfx t cd) L st h) (fun P _ q => P ∧ q) (fun P _ q1 q2 => (P → q1) ∧ (¬ P → q2)) (fun y a h q => hk_Cl d y a h q) (fun r h => k r h) scr 1 e.2.1 e.2.2.2.2.1.1 e.2.2.2.2.1.2.2.1 e.2.2.2.2.1.2.2.2 e.2.2.2.2.2.1 e.2.2.2.2.2.2.1 e.2.2.2.2.2.2.2 L st h
theorem hk_Cl_mono {d y : Nat} {a : List Value} {h : hk_H} {k k' : Option Value → hk_H → Prop} (hk : ∀ r h', k r h' → k' r h') (c : hk_Cl d y a h k) : hk_Cl d y a h k' := by
  obtain ⟨F, r, h', e, q⟩ := c
  exact ⟨F, r, h', e, hk _ _ q⟩
theorem hk_Cl_deep {d d' y : Nat} (hd : d ≤ d') {a : List Value} {h : hk_H} {k : Option Value → hk_H → Prop} (c : hk_Cl d y a h k) : hk_Cl d' y a h k := by
  obtain ⟨F, r, h', e, q⟩ := c
  exact ⟨F, r, h', hk_call_deep d d' hd _ _ _ _ e, q⟩
theorem hk_Rn_mono {d : Nat} {scr : Option (Nat × (Nat → Int32))} {cd cs : List hk_E} {L : hk_L} {st : List Value} {h : hk_H} {k k' : Option Value → hk_H → Prop} (hk : ∀ r h', k r h' → k' r h') (c : hk_Rn d scr cd cs L st h k) : hk_Rn d scr cd cs L st h k' := by
  obtain ⟨F, n, r, h', e, q⟩ := c
  exact ⟨F, n, r, h', e, hk _ _ q⟩
/-- runs at large bounds -/
def hk_G2 (d : Nat) (k : Option Value → hk_H → Prop) (P : Prop) (g : Nat → Nat → hk_O) : Prop := P → ∃ (N : Nat) (r : Option Value) (h' : hk_H), (∀ F n, N ≤ F → N ≤ n → g F n = some (r, h')) ∧ k r h'
theorem hk_stp_run {d : Nat} {scr : Option (Nat × (Nat → Int32))} {cd cs : List hk_E} {k : Option Value → hk_H → Prop} {nxP : hk_L → List Value → hk_H → Prop} {jmP : Nat → hk_L → List Value → hk_H → Prop} (hnx : ∀ L st h, nxP L st h → hk_Rn d scr cd cs L st h k) (hjm : ∀ t L st h, jmP t L st h → hk_Rn d scr cd (hk_sfx t cd) L st h k) (e : hk_E) (L : hk_L) (st : List Value) (h : hk_H)
    (hw : hk_stp hk_SH 95 100000 (R := Prop) False nxP jmP (fun P _ q => P ∧ q) (fun P _ q1 q2 => (P → q1) ∧ (¬ P → q2)) (fun y a h q => hk_Cl d y a h q) (fun r h => k r h) scr 1 e.2.1 e.2.2.2.2.1.1 e.2.2.2.2.1.2.2.1 e.2.2.2.2.1.2.2.2 e.2.2.2.2.2.1 e.2.2.2.2.2.2.1 e.2.2.2.2.2.2.2 L st h) : hk_Rn d scr cd (e :: cs) L st h k := by
  have hR : ∀ (cs' : List hk_E) (L : hk_L) (st : List Value) (h : hk_H) (P : Prop), (P → hk_Rn d scr cd cs' L st h k) → hk_G2 d k P (fun F n => hk_run hk_SH 95 100000 1 (hk_call hk_SH 95 100000 1 hk_mt F d) scr cd n cs' L st h) := by
    intro cs' L st h P hP p
    obtain ⟨F, n, r, h', e, q⟩ := hP p
    refine ⟨max F n, r, h', fun F' n' h1 h2 => ?_, q⟩
    exact hk_run_mono (hk_call_ge F d) (fun y a h q e => hk_call_mono (by omega) d y a h q e) n n' (by omega) _ _ _ _ _ e
  have h0 := hk_stp_rel (SH := hk_SH) (pb := 95) (big := 100000) (scr := scr) (R1 := Prop) (R2 := Nat → Nat → hk_O) (T := hk_G2 d k) (sk1 := False) (sk2 := fun _ _ => none) (nx1 := nxP) (nx2 := fun L st h F n => hk_run hk_SH 95 100000 1 (hk_call hk_SH 95 100000 1 hk_mt F d) scr cd n cs L st h) (jm1 := jmP) (jm2 := fun t L st h F n => hk_run hk_SH 95 100000 1 (hk_call hk_SH 95 100000 1 hk_mt F d) scr cd n (hk_sfx t cd) L st h) (as1 := fun P _ q => P ∧ q) (as2 := fun P dP g F n => @ite _ P dP (g F n) none) (br1 := fun P _ q1 q2 => (P → q1) ∧ (¬ P → q2)) (br2 := fun P dP g1 g2 F n => @ite _ P dP (g1 F n) (g2 F n)) (cl1 := fun y a h q => hk_Cl d y a h q) (cl2 := fun y a h g F n => (hk_call hk_SH 95 100000 1 hk_mt F d y a h).bind (fun q => g q.1 q.2 F n)) (rt1 := fun r h => k r h) (rt2 := fun r h _ _ => some (r, h)) (h := h) (fun p => p.elim) (fun L st h' _ => hR cs L st h' _ (hnx L st h')) (fun t L st => hR _ L st h _ (hjm t L st h)) (fun P dP k1 k2 hk p => ?_) (fun P dP a1 a2 b1 b2 ha hb p => ?_) (fun y a k1 k2 hk p => ?_) (fun r p => ⟨0, r, h, fun _ _ _ _ => rfl, p⟩) 1 e.2.1 e.2.2.2.2.1.1 e.2.2.2.2.1.2.2.1 e.2.2.2.2.1.2.2.2 e.2.2.2.2.2.1 e.2.2.2.2.2.2.1 e.2.2.2.2.2.2.2 L st
  · obtain ⟨N, r, h', e1, q⟩ := h0 hw
    refine ⟨N, N + 1, r, h', ?_, q⟩
    rw [hk_run, ← e1 N N (Nat.le_refl _) (Nat.le_refl _)]
    refine hk_stp_rel (SH := hk_SH) (pb := 95) (big := 100000) (scr := scr) (R1 := hk_O) (R2 := Nat → Nat → hk_O) (T := fun x (g : Nat → Nat → hk_O) => x = g N N) (sk1 := none) (sk2 := fun _ _ => none) (nx1 := fun L st h => hk_run hk_SH 95 100000 1 (hk_call hk_SH 95 100000 1 hk_mt N d) scr cd N cs L st h) (nx2 := fun L st h F n => hk_run hk_SH 95 100000 1 (hk_call hk_SH 95 100000 1 hk_mt F d) scr cd n cs L st h) (jm1 := fun t L st h => hk_run hk_SH 95 100000 1 (hk_call hk_SH 95 100000 1 hk_mt N d) scr cd N (hk_sfx t cd) L st h) (jm2 := fun t L st h F n => hk_run hk_SH 95 100000 1 (hk_call hk_SH 95 100000 1 hk_mt F d) scr cd n (hk_sfx t cd) L st h) (as1 := fun P dP k => @ite _ P dP k none) (as2 := fun P dP g F n => @ite _ P dP (g F n) none) (br1 := fun P dP k0 k1 => @ite _ P dP k0 k1) (br2 := fun P dP g1 g2 F n => @ite _ P dP (g1 F n) (g2 F n)) (cl1 := fun y a h k => (hk_call hk_SH 95 100000 1 hk_mt N d y a h).bind (fun q => k q.1 q.2)) (cl2 := fun y a h g F n => (hk_call hk_SH 95 100000 1 hk_mt F d y a h).bind (fun q => g q.1 q.2 F n)) (rt1 := fun r h => some (r, h)) (rt2 := fun r h _ _ => some (r, h)) (h := h) rfl (fun L st h' _ => rfl) (fun t L st => rfl) (fun P dP k1 k2 hk => by rw [hk]) (fun P dP a1 a2 b1 b2 ha hb => by rw [ha, hb]) (fun y a k1 k2 hk => ?_) (fun r => rfl) _ _ _ _ _ _ _ _ _ _
    cases hq : hk_call hk_SH 95 100000 1 hk_mt N d y a h with
    | none => rfl
    | some q2 => exact hk _ _ (hk_call_ge N d y a h q2 hq)
  · obtain ⟨N, r, h', e1, q⟩ := hk p.2
    exact ⟨N, r, h', fun F n h1 h2 => by dsimp only; rw [if_pos p.1]; exact e1 F n h1 h2, q⟩
  · by_cases hP : P
    · obtain ⟨N, r, h', e1, q⟩ := ha (p.1 hP)
      exact ⟨N, r, h', fun F n h1 h2 => by dsimp only; rw [if_pos hP]; exact e1 F n h1 h2, q⟩
    · obtain ⟨N, r, h', e1, q⟩ := hb (p.2 hP)
      exact ⟨N, r, h', fun F n h1 h2 => by dsimp only; rw [if_neg hP]; exact e1 F n h1 h2, q⟩
  · obtain ⟨F0, r0, h0', e0, q0⟩ := p
    obtain ⟨N, r, h', e1, q⟩ := hk r0 h0' (hk_call_ge F0 d y a h _ e0) q0
    refine ⟨max F0 N, r, h', fun F n h1 h2 => ?_, q⟩
    dsimp only
    rw [hk_call_mono (F := F0) (F' := F) (by omega) d y a h _ e0]
    exact e1 F n (by omega) (by omega)
theorem hk_wp_run {d : Nat} {scr : Option (Nat × (Nat → Int32))} {cd : List hk_E} {k : Option Value → hk_H → Prop} : ∀ (n : Nat) (cs : List hk_E) (L : hk_L) (st : List Value) (h : hk_H), hk_wp d scr cd k n cs L st h → hk_Rn d scr cd cs L st h k := by
  intro n
  induction n with
  | zero => intro cs L st h hw; exact hw.elim
  | succ n ih =>
    intro cs L st h hw
    cases cs with
    | nil => exact hw.elim
    | cons e cs =>
      rw [hk_wp] at hw
      split at hw
      · exact hk_stp_run (fun L st h p => ih cs L st h p) (fun t L st h p => ih _ L st h p) e L st h hw
      · exact hw
theorem hk_w1_run {d n : Nat} {scr : Option (Nat × (Nat → Int32))} {cd : List hk_E} {k : Option Value → hk_H → Prop} : ∀ (cs : List hk_E) (L : hk_L) (st : List Value) (h : hk_H), hk_w1 d scr cd k n cs L st h → hk_Rn d scr cd cs L st h k
  | [], _, _, _, hw => hw.elim
  | e :: cs, L, st, h, hw => hk_stp_run (fun L st h p => hk_wp_run n cs L st h p) (fun t L st h p => hk_wp_run n _ L st h p) e L st h hw
/-- a method's contract, from its code -/
theorem hk_mth {d y n : Nat} {a : List Value} {h : hk_H} {k : Option Value → hk_H → Prop} (q : hk_Q) (hq : hk_mt y = some q) (hc : (Nat.ble (hk_as a).length q.2.2.1 && Nat.beq a.length q.2.2.2.2.1.1) = true) (hw : hk_w1 d none q.2.2.2.2.2 k n q.2.2.2.2.2 (hk_loc q.2.2.1 a) [] h) : hk_Cl (d + 1) y a h k := by
  obtain ⟨F, n, r, h', e, p⟩ := hk_w1_run _ _ _ _ hw
  refine ⟨max F n, r, h', ?_, p⟩
  rw [hk_call, hq]
  simp only
  rw [hc]
  exact hk_run_mono (hk_call_ge F d) (fun y a h q e => hk_call_mono (by omega) d y a h q e) n _ (by omega) _ _ _ _ _ e
/-- a loop's head -/
theorem hk_hd {d t n : Nat} {scr : Option (Nat × (Nat → Int32))} {cd cs : List hk_E} {L : hk_L} {st : List Value} {h : hk_H} {k : Option Value → hk_H → Prop} (hcs : cs = hk_sfx t cd) (hw : hk_w1 d scr cd k n (hk_sfx t cd) L st h) : hk_Rn d scr cd cs L st h k := hcs ▸ hk_w1_run _ _ _ _ hw
end
section
/-! ===== where the references point; plain facts ===== -/
def hk_rl (i0 i1 b : Nat) : List (List Nat) := [[1, 23, 24, 25, 29, 36, 37], [2, 4, 6, 8, 10, 12, 14, 16, 18, 20, 21, 22], [0, 0, 3], [], [0, 0, 5], [], [0, 0, 7], [], [0, 0, 9], [], [0, 0, 11], [], [0, 0, 13], [], [0, 0, 15], [], [0, 0, 17], [], [0, 0, 19], [], [], [], [], [i0, i1], [1], [26, 27, 28], [], [], [], [30, 31, 32, 33, 34, 1, b], [], [], [], [], [], [], [], [38, 39], [], [], [41, 42, 43, 44, 0, 45, 46, 0, 47, 48, 49, 50]]
def hk_RH (i0 i1 b : Nat) (p k : Nat) : Nat := (((hk_rl i0 i1 b)[p]?).getD [])[k]?.getD 0
/-- the tables of the house: their rows' and columns' numbers -/
def hk_mo (t : Nat) : Nat := match t with
  | 2 => 6 | 4 => 96 | 6 => 150 | 8 => 4 | 10 => 4 | 12 => 4 | 14 => 20 | 16 => 8 | 18 => 8 | _ => 0
def hk_co (t : Nat) : Nat := match t with
  | 2 => 9 | 4 => 6 | 6 => 5 | 8 => 3 | 10 => 61 | 12 => 3 | 14 => 2 | 16 => 2 | 18 => 3 | _ => 0
def hk_tb (t : Nat) : Prop := t = 2 ∨ t = 4 ∨ t = 6 ∨ t = 8 ∨ t = 10 ∨ t = 12 ∨ t = 14 ∨ t = 16 ∨ t = 18
/-- a table with n rows -/
def hk_tw (s : Nat → Nat → Int32) (t n : Nat) : Prop := s t 0 = nI (hk_mo t) ∧ s t 1 = nI (hk_co t) ∧ s t 3 = nI n ∧ n ≤ hk_mo t
theorem hk_ixin {i n m : Nat} {q c : Nat} (hi : i < n) (hn : n ≤ q) (hc : c < m) (hq : q * m < 2 ^ 30) : nI i * nI m + nI c = nI (i * m + c) ∧ i * m + c < q * m ∧ vp_in (nI i * nI m + nI c) (q * m) ∧ (nI i * nI m + nI c).toNatClampNeg = i * m + c := by
  have h1 : (i + 1) * m ≤ q * m := Nat.mul_le_mul_right m (by omega)
  rw [Nat.add_mul] at h1
  have h2 : i * m + c < q * m := by omega
  rw [pk_mul, nI_add]
  exact ⟨rfl, h2, vp_in_nI h2 (by omega), nI_clamp (by omega)⟩
theorem hk_nlt {i n : Nat} (h : i < n) (hn : n < 2 ^ 31) : ¬ nI n ≤ nI i := fun q => by
  rw [nI_leI (by omega) (by omega)] at q
  omega
theorem hk_pos {i : Nat} (h : i < 2 ^ 31) : ¬ nI i < 0 := nI_pos h
theorem hk_zI : (0 : Int32) = nI 0 := rfl
theorem hk_Rn_cast {d : Nat} {scr : Option (Nat × (Nat → Int32))} {cd cs : List hk_E} {L L2 : hk_L} {st : List Value} {h : hk_H} {k : Option Value → hk_H → Prop} (e : L = L2) (r : hk_Rn d scr cd cs L2 st h k) : hk_Rn d scr cd cs L st h k := e ▸ r
theorem hk_lit (n : Nat) : (OfNat.ofNat n : Int32) = nI n := rfl
section HKX
variable {d n : Nat} {scr : Option (Nat × (Nat → Int32))} {cd cs : List hk_E} {L : hk_L} {st : List Value} {k : Option Value → hk_H → Prop} {s : Nat → Nat → Int32} {h2 : (Nat → Nat → Int64) × (Nat → Nat → Nat) × List Nat}
/-- a store, a load at a place that is known -/
theorem hk_sti {i x : Int32} {j N p : Nat} (e : i = nI j) (hj : j < N) (hN : N < 2 ^ 31) (h : hk_wp d scr cd k n cs L st (hk_u2 s p j x, h2)) : vp_in i N ∧ hk_wp d scr cd k n cs L st (hk_u2 s p i.toNatClampNeg x, h2) := by
  subst e
  rw [nI_clamp (by omega)]
  exact ⟨vp_in_nI hj hN, h⟩
theorem hk_ldi {i v : Int32} {j N p : Nat} (e : i = nI j) (hj : j < N) (hN : N < 2 ^ 31) (hv : s p j = v) (h : hk_wp d scr cd k n cs L (.int v :: st) (s, h2)) : vp_in i N ∧ hk_wp d scr cd k n cs L (.int (s p i.toNatClampNeg) :: st) (s, h2) := by
  subst e hv
  rw [nI_clamp (by omega)]
  exact ⟨vp_in_nI hj hN, h⟩
theorem hk_sti2 {i x x2 : Int32} {j N p : Nat} (e : i = nI j) (hj : j < N) (hN : N < 2 ^ 31) (ev : x = x2) (h : hk_wp d scr cd k n cs L st (hk_u2 s p j x2, h2)) : vp_in i N ∧ hk_wp d scr cd k n cs L st (hk_u2 s p i.toNatClampNeg x, h2) := by
  subst ev
  exact hk_sti e hj hN h
theorem hk_tp {v v2 : Int32} {h : hk_H} (e : v = v2) (w : hk_wp d scr cd k n cs L (.int v2 :: st) h) : hk_wp d scr cd k n cs L (.int v :: st) h := e ▸ w
end HKX
theorem hk_rng {v : Int32} {n : Nat} (hn : n < 2 ^ 31) (h1 : ¬ v < 0) (h2 : ¬ nI n < v) : ∃ j, j ≤ n ∧ v = nI j := by
  obtain ⟨j, h3, rfl⟩ := nI_of h1
  exact ⟨j, by rw [nI_ltI (by omega) h3] at h2; omega, rfl⟩
theorem hk_u2s {s : Nat → Nat → Int32} {p j : Nat} {x : Int32} : hk_u2 s p j x p j = x := by simp [hk_u2, upd]
theorem hk_u2o {s : Nat → Nat → Int32} {p j q i : Nat} {x : Int32} (h : ¬ (q = p ∧ i = j)) : hk_u2 s p j x q i = s q i := by
  unfold hk_u2
  by_cases h1 : q = p
  · subst h1
    rw [if_pos rfl, pk_un (fun e => h ⟨rfl, e⟩)]
  · rw [if_neg h1]
theorem hk_Cl_arg {d y : Nat} {a a2 : List Value} {h : hk_H} {k : Option Value → hk_H → Prop} (e : a = a2) (c : hk_Cl d y a2 h k) : hk_Cl d y a h k := e ▸ c
theorem hk_v3 {r : Value} {x x2 v : Int32} (e : x = x2) : [r, .int x, .int v] = [r, .int x2, .int v] := by rw [e]
end
section
/-! ===== Table ===== -/
section HKT
variable {d t n : Nat} {r c v : Int32} {s : Nat → Nat → Int32} {lm : Nat → Nat → Int64} {i0 i1 b : Nat} {al : List Nat} {k : Option Value → hk_H → Prop}
/-- a row that is there; one that isn't -/
theorem c_has (ht : hk_tb t) (h1 : ¬ r < 0 → ¬ s t 3 ≤ r → k (some (.int 1)) (s, lm, hk_RH i0 i1 b, al)) (h0 : r < 0 ∨ s t 3 ≤ r → k (some (.int 0)) (s, lm, hk_RH i0 i1 b, al)) : hk_Cl (d + 1) 14 [.ref t, .int r] (s, lm, hk_RH i0 i1 b, al) k := by
  rcases ht with rfl | rfl | rfl | rfl | rfl | rfl | rfl | rfl | rfl
  all_goals
    refine hk_mth hk_m14 rfl rfl (n := 1000) ?_
    refine And.intro (fun c1 => ?_) (fun c1 => ?_)
    · exact And.intro (Or.inl rfl) (h0 (Or.inl c1))
    refine And.intro (fun c2 => ?_) (fun c2 => ?_)
    · exact And.intro (Or.inl rfl) (h0 (Or.inr c2))
    exact And.intro (Or.inr rfl) (h1 c1 c2)
theorem c_full (ht : hk_tb t) (h1 : s t 0 ≤ s t 3 → k (some (.int 1)) (s, lm, hk_RH i0 i1 b, al)) (h0 : s t 3 < s t 0 → k (some (.int 0)) (s, lm, hk_RH i0 i1 b, al)) : hk_Cl (d + 1) 4 [.ref t] (s, lm, hk_RH i0 i1 b, al) k := by
  rcases ht with rfl | rfl | rfl | rfl | rfl | rfl | rfl | rfl | rfl
  all_goals
    refine hk_mth hk_m4 rfl rfl (n := 1000) ?_
    refine And.intro (fun c1 => ?_) (fun c1 => ?_)
    · exact And.intro (Or.inl rfl) (h0 c1)
    · exact And.intro (Or.inr rfl) (h1 (Int32.not_lt.mp c1))
/-- a cell's place -/
theorem hk_cell (ht : hk_tb t) (hw : hk_tw s t n) {i j m : Nat} (hi : i < m) (hm : m ≤ hk_mo t) (hj : j < hk_co t) : vp_in (nI i * s t 1 + nI j) (hk_mo t * hk_co t) ∧ (nI i * s t 1 + nI j).toNatClampNeg = i * hk_co t + j := by
  rw [hw.2.1]
  have h1 : hk_mo t * hk_co t < 2 ^ 30 := by rcases ht with rfl | rfl | rfl | rfl | rfl | rfl | rfl | rfl | rfl <;> decide
  obtain ⟨h2, h3, h4, h5⟩ := hk_ixin hi hm hj h1
  exact ⟨h4, h5⟩
theorem hk_mo31 (ht : hk_tb t) : hk_mo t < 2 ^ 30 ∧ hk_co t < 2 ^ 30 := by
  rcases ht with rfl | rfl | rfl | rfl | rfl | rfl | rfl | rfl | rfl <;> decide
theorem c_get_in (ht : hk_tb t) (hw : hk_tw s t n) {i j : Nat} (hi : i < n) (hj : j < hk_co t) (h1 : k (some (.int (s (t + 1) (i * hk_co t + j)))) (s, lm, hk_RH i0 i1 b, al)) : hk_Cl (d + 1) 16 [.ref t, .int (nI i), .int (nI j)] (s, lm, hk_RH i0 i1 b, al) k := by
  obtain ⟨g1, g2⟩ := hk_cell ht hw hi hw.2.2.2 hj
  obtain ⟨g3, g4⟩ := hk_mo31 ht
  have a1 : ¬ nI i < 0 := nI_pos (by have := hw.2.2.2; omega)
  have a2 : ¬ s t 3 ≤ nI i := by rw [hw.2.2.1]; exact hk_nlt hi (by have := hw.2.2.2; omega)
  have a3 : ¬ nI j < 0 := nI_pos (by omega)
  have a4 : nI j < s t 1 := by rw [hw.2.1]; exact nI_lt hj (by omega)
  rw [← g2] at h1
  rcases ht with rfl | rfl | rfl | rfl | rfl | rfl | rfl | rfl | rfl
  all_goals
    refine hk_mth hk_m16 rfl rfl (n := 1000) ?_
    refine And.intro (fun hc => absurd hc a1) (fun _ => ?_)
    refine And.intro (fun hc => absurd hc a2) (fun _ => ?_)
    refine And.intro (fun hc => absurd hc a3) (fun _ => ?_)
    refine And.intro (fun _ => ?_) (fun hc => absurd a4 hc)
    exact And.intro g1 h1
theorem c_get_out (ht : hk_tb t) (hr : r < 0 ∨ s t 3 ≤ r) (h1 : k (some (.int 0)) (s, lm, hk_RH i0 i1 b, al)) : hk_Cl (d + 1) 16 [.ref t, .int r, .int c] (s, lm, hk_RH i0 i1 b, al) k := by
  rcases ht with rfl | rfl | rfl | rfl | rfl | rfl | rfl | rfl | rfl
  all_goals
    refine hk_mth hk_m16 rfl rfl (n := 1000) ?_
    refine And.intro (fun c1 => ?_) (fun c1 => ?_)
    · exact h1
    refine And.intro (fun c2 => ?_) (fun c2 => ?_)
    · exact h1
    exact absurd hr (fun q => q.elim c1 c2)
theorem c_put_in (ht : hk_tb t) (hw : hk_tw s t n) {i j : Nat} (hi : i < hk_mo t) (hj : j < hk_co t) (h1 : k none (hk_u2 s (t + 1) (i * hk_co t + j) v, lm, hk_RH i0 i1 b, al)) : hk_Cl (d + 1) 5 [.ref t, .int (nI i), .int (nI j), .int v] (s, lm, hk_RH i0 i1 b, al) k := by
  obtain ⟨g1, g2⟩ := hk_cell ht hw hi (Nat.le_refl _) hj
  obtain ⟨g3, g4⟩ := hk_mo31 ht
  have a1 : ¬ nI i < 0 := nI_pos (by omega)
  have a2 : ¬ s t 0 ≤ nI i := by rw [hw.1]; exact hk_nlt hi (by omega)
  have a3 : ¬ nI j < 0 := nI_pos (by omega)
  have a4 : ¬ s t 1 ≤ nI j := by rw [hw.2.1]; exact hk_nlt hj (by omega)
  rw [← g2] at h1
  rcases ht with rfl | rfl | rfl | rfl | rfl | rfl | rfl | rfl | rfl
  all_goals
    refine hk_mth hk_m5 rfl rfl (n := 1000) ?_
    refine And.intro (fun hc => absurd hc a1) (fun _ => ?_)
    refine And.intro (fun hc => absurd hc a2) (fun _ => ?_)
    refine And.intro (fun hc => absurd hc a3) (fun _ => ?_)
    refine And.intro (fun hc => absurd hc a4) (fun _ => ?_)
    exact And.intro g1 h1
theorem c_put_out (ht : hk_tb t) (hw : hk_tw s t n) {i j : Nat} (hi : i < hk_mo t) (hj : ¬ j < hk_co t) (hj2 : j < 2 ^ 30) (h1 : k none (s, lm, hk_RH i0 i1 b, al)) : hk_Cl (d + 1) 5 [.ref t, .int (nI i), .int (nI j), .int v] (s, lm, hk_RH i0 i1 b, al) k := by
  obtain ⟨g3, g4⟩ := hk_mo31 ht
  have a1 : ¬ nI i < 0 := nI_pos (by omega)
  have a2 : ¬ s t 0 ≤ nI i := by rw [hw.1]; exact hk_nlt hi (by omega)
  have a3 : ¬ nI j < 0 := nI_pos (by omega)
  have a4 : s t 1 ≤ nI j := by rw [hw.2.1]; exact nI_le (by omega) (by omega)
  rcases ht with rfl | rfl | rfl | rfl | rfl | rfl | rfl | rfl | rfl
  all_goals
    refine hk_mth hk_m5 rfl rfl (n := 1000) ?_
    refine And.intro (fun hc => absurd hc a1) (fun _ => ?_)
    refine And.intro (fun hc => absurd hc a2) (fun _ => ?_)
    refine And.intro (fun hc => absurd hc a3) (fun _ => ?_)
    refine And.intro (fun _ => ?_) (fun hc => absurd a4 hc)
    exact h1
theorem c_swap_in (ht : hk_tb t) (hw : hk_tw s t n) {i j : Nat} (hi : i < n) (hj : j < hk_co t) (h1 : k (some (.int (s (t + 1) (i * hk_co t + j)))) (hk_u2 s (t + 1) (i * hk_co t + j) v, lm, hk_RH i0 i1 b, al)) : hk_Cl (d + 2) 23 [.ref t, .int (nI i), .int (nI j), .int v] (s, lm, hk_RH i0 i1 b, al) k := by
  have hi2 := Nat.lt_of_lt_of_le hi hw.2.2.2
  rcases ht with rfl | rfl | rfl | rfl | rfl | rfl | rfl | rfl | rfl
  all_goals
    refine hk_mth hk_m23 rfl rfl (n := 1000) ?_
    refine c_get_in (by simp [hk_tb]) hw hi hj ?_
    refine c_put_in (by simp [hk_tb]) hw hi2 hj ?_
    exact h1
theorem c_empty (ht : hk_tb t) (h1 : k (some (.int (s t 3))) (hk_u2 s t 3 0, lm, hk_RH i0 i1 b, al)) : hk_Cl (d + 1) 100 [.ref t] (s, lm, hk_RH i0 i1 b, al) k := by
  rcases ht with rfl | rfl | rfl | rfl | rfl | rfl | rfl | rfl | rfl
  all_goals
    refine hk_mth hk_m100 rfl rfl (n := 1000) ?_
    exact h1
/-- a row more: what changes -/
def hk_add (s s2 : Nat → Nat → Int32) (t n : Nat) (L : List Int32) : Prop := (∀ p q, ¬ (p = t + 1 ∧ n * hk_co t ≤ q ∧ q < n * hk_co t + hk_co t) → ¬ (p = t ∧ q = 3) → s2 p q = s p q) ∧ s2 t 3 = nI (n + 1) ∧ ∀ j, j < hk_co t → s2 (t + 1) (n * hk_co t + j) = L.getD j 0
/-- the cells of the row so far -/
def hk_adc (s s2 : Nat → Nat → Int32) (t n m : Nat) (f : Nat → Int32) : Prop := (∀ p q, ¬ (p = t + 1 ∧ n * hk_co t ≤ q ∧ q < n * hk_co t + hk_co t) → s2 p q = s p q) ∧ ∀ j, j < m → s2 (t + 1) (n * hk_co t + j) = f j
theorem hk_adc_put {s2 : Nat → Nat → Int32} {n m j : Nat} {f : Nat → Int32} {v : Int32} (h : hk_adc s s2 t n m f) (hj : j < hk_co t) (hm : j ≤ m) : hk_adc s (hk_u2 s2 (t + 1) (n * hk_co t + j) v) t n (if j = m then m + 1 else m) (fun z => if z = j then v else f z) := by
  refine ⟨fun p q hp => ?_, fun z hz => ?_⟩
  · unfold hk_u2
    by_cases h1 : p = t + 1
    · rw [if_pos h1]
      subst h1
      have hq : q ≠ n * hk_co t + j := fun e => hp ⟨rfl, by omega, by omega⟩
      rw [pk_un hq]
      exact h.1 _ _ hp
    · rw [if_neg h1]
      exact h.1 _ _ hp
  · unfold hk_u2
    rw [if_pos rfl]
    by_cases h1 : z = j
    · subst h1
      dsimp only
      rw [pk_us, if_pos rfl]
    · dsimp only
      rw [pk_un (by omega), if_neg h1]
      refine h.2 z ?_
      by_cases h2 : j = m
      · rw [if_pos h2] at hz; omega
      · rw [if_neg h2] at hz; exact hz
theorem hk_adc_tw {s2 : Nat → Nat → Int32} {m : Nat} {f : Nat → Int32} (h : hk_adc s s2 t n m f) (hw : hk_tw s t n) : hk_tw s2 t n := by
  refine ⟨?_, ?_, ?_, hw.2.2.2⟩
  · rw [h.1 _ _ (fun q => by omega)]; exact hw.1
  · rw [h.1 _ _ (fun q => by omega)]; exact hw.2.1
  · rw [h.1 _ _ (fun q => by omega)]; exact hw.2.2.1
theorem hk_adc_end {s2 : Nat → Nat → Int32} {f : Nat → Int32} {L : List Int32} (h : hk_adc s s2 t n (hk_co t) f) (hf : ∀ j, j < hk_co t → f j = L.getD j 0) : hk_add s (hk_u2 s2 t 3 (nI (n + 1))) t n L := by
  refine ⟨fun p q h1 h2 => ?_, ?_, fun j hj => ?_⟩
  · unfold hk_u2
    by_cases h3 : p = t
    · rw [if_pos h3]
      subst h3
      rw [pk_un (fun e => h2 ⟨rfl, e⟩)]
      exact h.1 _ _ h1
    · rw [if_neg h3]
      exact h.1 _ _ h1
  · simp [hk_u2, upd]
  · unfold hk_u2
    rw [if_neg (by omega), h.2 j hj]
    exact hf j hj
theorem hk_co2 (ht : hk_tb t) : 2 ≤ hk_co t ∧ hk_co t < 100 := by
  rcases ht with rfl | rfl | rfl | rfl | rfl | rfl | rfl | rfl | rfl <;> decide
/-- one cell of the row, if there is such a column -/
theorem c_put_row {s2 : Nat → Nat → Int32} {f : Nat → Int32} {j : Nat} (ht : hk_tb t) (hw : hk_tw s t n) (hn : n < hk_mo t) (h : hk_adc s s2 t n (hk_co t) f) (hj : j < 5) (h1 : ∀ s3, hk_adc s s3 t n (hk_co t) (fun z => if z = j then v else f z) → k none (s3, lm, hk_RH i0 i1 b, al)) : hk_Cl (d + 1) 5 [.ref t, .int (nI n), .int (nI j), .int v] (s2, lm, hk_RH i0 i1 b, al) k := by
  by_cases hc : j < hk_co t
  · refine c_put_in ht (hk_adc_tw h hw) hn hc (h1 _ ?_)
    have := hk_adc_put (v := v) h hc (by omega)
    rwa [if_neg (by omega)] at this
  · refine c_put_out ht (hk_adc_tw h hw) hn hc (by omega) (h1 _ ⟨h.1, fun z hz => ?_⟩)
    dsimp only
    rw [if_neg (by omega)]
    exact h.2 z hz
theorem hk_add_end {a1 a2 a3 a4 a5 : Int32} (hw : hk_tw s t n) (h1 : ∀ s2, hk_add s s2 t n [a1, a2, a3, a4, a5] → k (some (.int (nI n))) (s2, lm, hk_RH i0 i1 b, al)) (s2 : Nat → Nat → Int32) (h2 : hk_adc s s2 t n (hk_co t) (fun z => if z = 4 then a5 else if z = 3 then a4 else if z = 2 then a3 else if z = 1 then a2 else if z = 0 then a1 else 0)) : k (some (.int (nI n))) (hk_u2 s2 t 3 (s2 t 3 + 1), lm, hk_RH i0 i1 b, al) := by
  have e : s2 t 3 + 1 = nI (n + 1) := by rw [(hk_adc_tw h2 hw).2.2.1, nI_1]
  rw [e]
  refine h1 _ (hk_adc_end h2 fun j hj => ?_)
  match j with
  | 0 => rfl
  | 1 => rfl
  | 2 => rfl
  | 3 => rfl
  | 4 => rfl
  | j + 5 => simp
theorem c_add_2 {a1 a2 a3 a4 a5 : Int32} (ht : hk_tb 2) (hw : hk_tw s 2 n) (hn : n < hk_mo 2) (h1 : ∀ s2, hk_add s s2 2 n [a1, a2, a3, a4, a5] → k (some (.int (nI n))) (s2, lm, hk_RH i0 i1 b, al)) : hk_Cl (d + 2) 3 [.ref 2, .int a1, .int a2, .int a3, .int a4, .int a5] (s, lm, hk_RH i0 i1 b, al) k := by
  have hco := hk_co2 ht
  have hmo := hk_mo31 ht
  have fin := hk_add_end hw h1
  refine hk_mth hk_m3 rfl rfl (n := 1000) ?_
  refine c_full ht (fun hc => absurd hc (by rw [hw.1, hw.2.2.1]; exact hk_nlt hn (by omega))) (fun _ => ?_)
  refine And.intro (fun _ => ?_) (fun hc => absurd (by decide) hc)
  have loop : ∀ (q m : Nat), m + q = hk_co 2 → ∀ s2, hk_adc s s2 2 n m (fun _ => 0) → hk_Rn (d + 1) none hk_c3 (hk_sfx 19 hk_c3) [some (.ref 2), some (.int a1), some (.int a2), some (.int a3), some (.int a4), some (.int a5), some (.int (nI n)), some (.int (nI m))] [] (s2, lm, hk_RH i0 i1 b, al) k := by
    intro q
    induction q with
    | zero =>
      intro m hm s2 h2
      have hc1 : s2 2 1 ≤ nI m := by rw [(hk_adc_tw h2 hw).2.1]; exact nI_le (by omega) (by omega)
      refine hk_hd (n := 1000) (t := 19) rfl ?_
      refine And.intro (fun _ => ?_) (fun hc => absurd hc1 hc)
      rw [show m = hk_co 2 by omega] at h2
      refine c_put_row (j := 0) ht hw hn h2 (by omega) fun s3 h3 => ?_
      refine c_put_row (j := 1) ht hw hn h3 (by omega) fun s4 h4 => ?_
      refine c_put_row (j := 2) ht hw hn h4 (by omega) fun s5 h5 => ?_
      refine c_put_row (j := 3) ht hw hn h5 (by omega) fun s6 h6 => ?_
      refine c_put_row (j := 4) ht hw hn h6 (by omega) fun s7 h7 => ?_
      exact fin s7 h7
    | succ q ih =>
      intro m hm s2 h2
      have hc1 : ¬ s2 2 1 ≤ nI m := by rw [(hk_adc_tw h2 hw).2.1]; exact hk_nlt (by omega) (by omega)
      refine hk_hd (n := 1000) (t := 19) rfl ?_
      refine And.intro (fun hc => absurd hc hc1) (fun _ => ?_)
      refine c_put_in ht (hk_adc_tw h2 hw) hn (j := m) (by omega) ?_
      have h3 := hk_adc_put (v := 0) h2 (j := m) (by omega) (Nat.le_refl m)
      rw [if_pos rfl] at h3
      refine hk_Rn_cast (by rw [← nI_1]; rfl) (ih (m + 1) (by omega) _ ⟨h3.1, fun z hz => ?_⟩)
      rw [h3.2 z hz]
      dsimp only
      split <;> rfl
  have h0 : hk_adc s s 2 n 0 (fun _ => 0) := ⟨fun _ _ _ => rfl, fun j hj => absurd hj (Nat.not_lt_zero j)⟩
  exact hk_Rn_cast (by rw [← hw.2.2.1]; rfl) (loop _ 0 (Nat.zero_add _) s h0)
theorem c_add_4 {a1 a2 a3 a4 a5 : Int32} (ht : hk_tb 4) (hw : hk_tw s 4 n) (hn : n < hk_mo 4) (h1 : ∀ s2, hk_add s s2 4 n [a1, a2, a3, a4, a5] → k (some (.int (nI n))) (s2, lm, hk_RH i0 i1 b, al)) : hk_Cl (d + 2) 3 [.ref 4, .int a1, .int a2, .int a3, .int a4, .int a5] (s, lm, hk_RH i0 i1 b, al) k := by
  have hco := hk_co2 ht
  have hmo := hk_mo31 ht
  have fin := hk_add_end hw h1
  refine hk_mth hk_m3 rfl rfl (n := 1000) ?_
  refine c_full ht (fun hc => absurd hc (by rw [hw.1, hw.2.2.1]; exact hk_nlt hn (by omega))) (fun _ => ?_)
  refine And.intro (fun _ => ?_) (fun hc => absurd (by decide) hc)
  have loop : ∀ (q m : Nat), m + q = hk_co 4 → ∀ s2, hk_adc s s2 4 n m (fun _ => 0) → hk_Rn (d + 1) none hk_c3 (hk_sfx 19 hk_c3) [some (.ref 4), some (.int a1), some (.int a2), some (.int a3), some (.int a4), some (.int a5), some (.int (nI n)), some (.int (nI m))] [] (s2, lm, hk_RH i0 i1 b, al) k := by
    intro q
    induction q with
    | zero =>
      intro m hm s2 h2
      have hc1 : s2 4 1 ≤ nI m := by rw [(hk_adc_tw h2 hw).2.1]; exact nI_le (by omega) (by omega)
      refine hk_hd (n := 1000) (t := 19) rfl ?_
      refine And.intro (fun _ => ?_) (fun hc => absurd hc1 hc)
      rw [show m = hk_co 4 by omega] at h2
      refine c_put_row (j := 0) ht hw hn h2 (by omega) fun s3 h3 => ?_
      refine c_put_row (j := 1) ht hw hn h3 (by omega) fun s4 h4 => ?_
      refine c_put_row (j := 2) ht hw hn h4 (by omega) fun s5 h5 => ?_
      refine c_put_row (j := 3) ht hw hn h5 (by omega) fun s6 h6 => ?_
      refine c_put_row (j := 4) ht hw hn h6 (by omega) fun s7 h7 => ?_
      exact fin s7 h7
    | succ q ih =>
      intro m hm s2 h2
      have hc1 : ¬ s2 4 1 ≤ nI m := by rw [(hk_adc_tw h2 hw).2.1]; exact hk_nlt (by omega) (by omega)
      refine hk_hd (n := 1000) (t := 19) rfl ?_
      refine And.intro (fun hc => absurd hc hc1) (fun _ => ?_)
      refine c_put_in ht (hk_adc_tw h2 hw) hn (j := m) (by omega) ?_
      have h3 := hk_adc_put (v := 0) h2 (j := m) (by omega) (Nat.le_refl m)
      rw [if_pos rfl] at h3
      refine hk_Rn_cast (by rw [← nI_1]; rfl) (ih (m + 1) (by omega) _ ⟨h3.1, fun z hz => ?_⟩)
      rw [h3.2 z hz]
      dsimp only
      split <;> rfl
  have h0 : hk_adc s s 4 n 0 (fun _ => 0) := ⟨fun _ _ _ => rfl, fun j hj => absurd hj (Nat.not_lt_zero j)⟩
  exact hk_Rn_cast (by rw [← hw.2.2.1]; rfl) (loop _ 0 (Nat.zero_add _) s h0)
theorem c_add_6 {a1 a2 a3 a4 a5 : Int32} (ht : hk_tb 6) (hw : hk_tw s 6 n) (hn : n < hk_mo 6) (h1 : ∀ s2, hk_add s s2 6 n [a1, a2, a3, a4, a5] → k (some (.int (nI n))) (s2, lm, hk_RH i0 i1 b, al)) : hk_Cl (d + 2) 3 [.ref 6, .int a1, .int a2, .int a3, .int a4, .int a5] (s, lm, hk_RH i0 i1 b, al) k := by
  have hco := hk_co2 ht
  have hmo := hk_mo31 ht
  have fin := hk_add_end hw h1
  refine hk_mth hk_m3 rfl rfl (n := 1000) ?_
  refine c_full ht (fun hc => absurd hc (by rw [hw.1, hw.2.2.1]; exact hk_nlt hn (by omega))) (fun _ => ?_)
  refine And.intro (fun _ => ?_) (fun hc => absurd (by decide) hc)
  have loop : ∀ (q m : Nat), m + q = hk_co 6 → ∀ s2, hk_adc s s2 6 n m (fun _ => 0) → hk_Rn (d + 1) none hk_c3 (hk_sfx 19 hk_c3) [some (.ref 6), some (.int a1), some (.int a2), some (.int a3), some (.int a4), some (.int a5), some (.int (nI n)), some (.int (nI m))] [] (s2, lm, hk_RH i0 i1 b, al) k := by
    intro q
    induction q with
    | zero =>
      intro m hm s2 h2
      have hc1 : s2 6 1 ≤ nI m := by rw [(hk_adc_tw h2 hw).2.1]; exact nI_le (by omega) (by omega)
      refine hk_hd (n := 1000) (t := 19) rfl ?_
      refine And.intro (fun _ => ?_) (fun hc => absurd hc1 hc)
      rw [show m = hk_co 6 by omega] at h2
      refine c_put_row (j := 0) ht hw hn h2 (by omega) fun s3 h3 => ?_
      refine c_put_row (j := 1) ht hw hn h3 (by omega) fun s4 h4 => ?_
      refine c_put_row (j := 2) ht hw hn h4 (by omega) fun s5 h5 => ?_
      refine c_put_row (j := 3) ht hw hn h5 (by omega) fun s6 h6 => ?_
      refine c_put_row (j := 4) ht hw hn h6 (by omega) fun s7 h7 => ?_
      exact fin s7 h7
    | succ q ih =>
      intro m hm s2 h2
      have hc1 : ¬ s2 6 1 ≤ nI m := by rw [(hk_adc_tw h2 hw).2.1]; exact hk_nlt (by omega) (by omega)
      refine hk_hd (n := 1000) (t := 19) rfl ?_
      refine And.intro (fun hc => absurd hc hc1) (fun _ => ?_)
      refine c_put_in ht (hk_adc_tw h2 hw) hn (j := m) (by omega) ?_
      have h3 := hk_adc_put (v := 0) h2 (j := m) (by omega) (Nat.le_refl m)
      rw [if_pos rfl] at h3
      refine hk_Rn_cast (by rw [← nI_1]; rfl) (ih (m + 1) (by omega) _ ⟨h3.1, fun z hz => ?_⟩)
      rw [h3.2 z hz]
      dsimp only
      split <;> rfl
  have h0 : hk_adc s s 6 n 0 (fun _ => 0) := ⟨fun _ _ _ => rfl, fun j hj => absurd hj (Nat.not_lt_zero j)⟩
  exact hk_Rn_cast (by rw [← hw.2.2.1]; rfl) (loop _ 0 (Nat.zero_add _) s h0)
theorem c_add_8 {a1 a2 a3 a4 a5 : Int32} (ht : hk_tb 8) (hw : hk_tw s 8 n) (hn : n < hk_mo 8) (h1 : ∀ s2, hk_add s s2 8 n [a1, a2, a3, a4, a5] → k (some (.int (nI n))) (s2, lm, hk_RH i0 i1 b, al)) : hk_Cl (d + 2) 3 [.ref 8, .int a1, .int a2, .int a3, .int a4, .int a5] (s, lm, hk_RH i0 i1 b, al) k := by
  have hco := hk_co2 ht
  have hmo := hk_mo31 ht
  have fin := hk_add_end hw h1
  refine hk_mth hk_m3 rfl rfl (n := 1000) ?_
  refine c_full ht (fun hc => absurd hc (by rw [hw.1, hw.2.2.1]; exact hk_nlt hn (by omega))) (fun _ => ?_)
  refine And.intro (fun _ => ?_) (fun hc => absurd (by decide) hc)
  have loop : ∀ (q m : Nat), m + q = hk_co 8 → ∀ s2, hk_adc s s2 8 n m (fun _ => 0) → hk_Rn (d + 1) none hk_c3 (hk_sfx 19 hk_c3) [some (.ref 8), some (.int a1), some (.int a2), some (.int a3), some (.int a4), some (.int a5), some (.int (nI n)), some (.int (nI m))] [] (s2, lm, hk_RH i0 i1 b, al) k := by
    intro q
    induction q with
    | zero =>
      intro m hm s2 h2
      have hc1 : s2 8 1 ≤ nI m := by rw [(hk_adc_tw h2 hw).2.1]; exact nI_le (by omega) (by omega)
      refine hk_hd (n := 1000) (t := 19) rfl ?_
      refine And.intro (fun _ => ?_) (fun hc => absurd hc1 hc)
      rw [show m = hk_co 8 by omega] at h2
      refine c_put_row (j := 0) ht hw hn h2 (by omega) fun s3 h3 => ?_
      refine c_put_row (j := 1) ht hw hn h3 (by omega) fun s4 h4 => ?_
      refine c_put_row (j := 2) ht hw hn h4 (by omega) fun s5 h5 => ?_
      refine c_put_row (j := 3) ht hw hn h5 (by omega) fun s6 h6 => ?_
      refine c_put_row (j := 4) ht hw hn h6 (by omega) fun s7 h7 => ?_
      exact fin s7 h7
    | succ q ih =>
      intro m hm s2 h2
      have hc1 : ¬ s2 8 1 ≤ nI m := by rw [(hk_adc_tw h2 hw).2.1]; exact hk_nlt (by omega) (by omega)
      refine hk_hd (n := 1000) (t := 19) rfl ?_
      refine And.intro (fun hc => absurd hc hc1) (fun _ => ?_)
      refine c_put_in ht (hk_adc_tw h2 hw) hn (j := m) (by omega) ?_
      have h3 := hk_adc_put (v := 0) h2 (j := m) (by omega) (Nat.le_refl m)
      rw [if_pos rfl] at h3
      refine hk_Rn_cast (by rw [← nI_1]; rfl) (ih (m + 1) (by omega) _ ⟨h3.1, fun z hz => ?_⟩)
      rw [h3.2 z hz]
      dsimp only
      split <;> rfl
  have h0 : hk_adc s s 8 n 0 (fun _ => 0) := ⟨fun _ _ _ => rfl, fun j hj => absurd hj (Nat.not_lt_zero j)⟩
  exact hk_Rn_cast (by rw [← hw.2.2.1]; rfl) (loop _ 0 (Nat.zero_add _) s h0)
theorem c_add_10 {a1 a2 a3 a4 a5 : Int32} (ht : hk_tb 10) (hw : hk_tw s 10 n) (hn : n < hk_mo 10) (h1 : ∀ s2, hk_add s s2 10 n [a1, a2, a3, a4, a5] → k (some (.int (nI n))) (s2, lm, hk_RH i0 i1 b, al)) : hk_Cl (d + 2) 3 [.ref 10, .int a1, .int a2, .int a3, .int a4, .int a5] (s, lm, hk_RH i0 i1 b, al) k := by
  have hco := hk_co2 ht
  have hmo := hk_mo31 ht
  have fin := hk_add_end hw h1
  refine hk_mth hk_m3 rfl rfl (n := 1000) ?_
  refine c_full ht (fun hc => absurd hc (by rw [hw.1, hw.2.2.1]; exact hk_nlt hn (by omega))) (fun _ => ?_)
  refine And.intro (fun _ => ?_) (fun hc => absurd (by decide) hc)
  have loop : ∀ (q m : Nat), m + q = hk_co 10 → ∀ s2, hk_adc s s2 10 n m (fun _ => 0) → hk_Rn (d + 1) none hk_c3 (hk_sfx 19 hk_c3) [some (.ref 10), some (.int a1), some (.int a2), some (.int a3), some (.int a4), some (.int a5), some (.int (nI n)), some (.int (nI m))] [] (s2, lm, hk_RH i0 i1 b, al) k := by
    intro q
    induction q with
    | zero =>
      intro m hm s2 h2
      have hc1 : s2 10 1 ≤ nI m := by rw [(hk_adc_tw h2 hw).2.1]; exact nI_le (by omega) (by omega)
      refine hk_hd (n := 1000) (t := 19) rfl ?_
      refine And.intro (fun _ => ?_) (fun hc => absurd hc1 hc)
      rw [show m = hk_co 10 by omega] at h2
      refine c_put_row (j := 0) ht hw hn h2 (by omega) fun s3 h3 => ?_
      refine c_put_row (j := 1) ht hw hn h3 (by omega) fun s4 h4 => ?_
      refine c_put_row (j := 2) ht hw hn h4 (by omega) fun s5 h5 => ?_
      refine c_put_row (j := 3) ht hw hn h5 (by omega) fun s6 h6 => ?_
      refine c_put_row (j := 4) ht hw hn h6 (by omega) fun s7 h7 => ?_
      exact fin s7 h7
    | succ q ih =>
      intro m hm s2 h2
      have hc1 : ¬ s2 10 1 ≤ nI m := by rw [(hk_adc_tw h2 hw).2.1]; exact hk_nlt (by omega) (by omega)
      refine hk_hd (n := 1000) (t := 19) rfl ?_
      refine And.intro (fun hc => absurd hc hc1) (fun _ => ?_)
      refine c_put_in ht (hk_adc_tw h2 hw) hn (j := m) (by omega) ?_
      have h3 := hk_adc_put (v := 0) h2 (j := m) (by omega) (Nat.le_refl m)
      rw [if_pos rfl] at h3
      refine hk_Rn_cast (by rw [← nI_1]; rfl) (ih (m + 1) (by omega) _ ⟨h3.1, fun z hz => ?_⟩)
      rw [h3.2 z hz]
      dsimp only
      split <;> rfl
  have h0 : hk_adc s s 10 n 0 (fun _ => 0) := ⟨fun _ _ _ => rfl, fun j hj => absurd hj (Nat.not_lt_zero j)⟩
  exact hk_Rn_cast (by rw [← hw.2.2.1]; rfl) (loop _ 0 (Nat.zero_add _) s h0)
theorem c_add_12 {a1 a2 a3 a4 a5 : Int32} (ht : hk_tb 12) (hw : hk_tw s 12 n) (hn : n < hk_mo 12) (h1 : ∀ s2, hk_add s s2 12 n [a1, a2, a3, a4, a5] → k (some (.int (nI n))) (s2, lm, hk_RH i0 i1 b, al)) : hk_Cl (d + 2) 3 [.ref 12, .int a1, .int a2, .int a3, .int a4, .int a5] (s, lm, hk_RH i0 i1 b, al) k := by
  have hco := hk_co2 ht
  have hmo := hk_mo31 ht
  have fin := hk_add_end hw h1
  refine hk_mth hk_m3 rfl rfl (n := 1000) ?_
  refine c_full ht (fun hc => absurd hc (by rw [hw.1, hw.2.2.1]; exact hk_nlt hn (by omega))) (fun _ => ?_)
  refine And.intro (fun _ => ?_) (fun hc => absurd (by decide) hc)
  have loop : ∀ (q m : Nat), m + q = hk_co 12 → ∀ s2, hk_adc s s2 12 n m (fun _ => 0) → hk_Rn (d + 1) none hk_c3 (hk_sfx 19 hk_c3) [some (.ref 12), some (.int a1), some (.int a2), some (.int a3), some (.int a4), some (.int a5), some (.int (nI n)), some (.int (nI m))] [] (s2, lm, hk_RH i0 i1 b, al) k := by
    intro q
    induction q with
    | zero =>
      intro m hm s2 h2
      have hc1 : s2 12 1 ≤ nI m := by rw [(hk_adc_tw h2 hw).2.1]; exact nI_le (by omega) (by omega)
      refine hk_hd (n := 1000) (t := 19) rfl ?_
      refine And.intro (fun _ => ?_) (fun hc => absurd hc1 hc)
      rw [show m = hk_co 12 by omega] at h2
      refine c_put_row (j := 0) ht hw hn h2 (by omega) fun s3 h3 => ?_
      refine c_put_row (j := 1) ht hw hn h3 (by omega) fun s4 h4 => ?_
      refine c_put_row (j := 2) ht hw hn h4 (by omega) fun s5 h5 => ?_
      refine c_put_row (j := 3) ht hw hn h5 (by omega) fun s6 h6 => ?_
      refine c_put_row (j := 4) ht hw hn h6 (by omega) fun s7 h7 => ?_
      exact fin s7 h7
    | succ q ih =>
      intro m hm s2 h2
      have hc1 : ¬ s2 12 1 ≤ nI m := by rw [(hk_adc_tw h2 hw).2.1]; exact hk_nlt (by omega) (by omega)
      refine hk_hd (n := 1000) (t := 19) rfl ?_
      refine And.intro (fun hc => absurd hc hc1) (fun _ => ?_)
      refine c_put_in ht (hk_adc_tw h2 hw) hn (j := m) (by omega) ?_
      have h3 := hk_adc_put (v := 0) h2 (j := m) (by omega) (Nat.le_refl m)
      rw [if_pos rfl] at h3
      refine hk_Rn_cast (by rw [← nI_1]; rfl) (ih (m + 1) (by omega) _ ⟨h3.1, fun z hz => ?_⟩)
      rw [h3.2 z hz]
      dsimp only
      split <;> rfl
  have h0 : hk_adc s s 12 n 0 (fun _ => 0) := ⟨fun _ _ _ => rfl, fun j hj => absurd hj (Nat.not_lt_zero j)⟩
  exact hk_Rn_cast (by rw [← hw.2.2.1]; rfl) (loop _ 0 (Nat.zero_add _) s h0)
theorem c_add_14 {a1 a2 a3 a4 a5 : Int32} (ht : hk_tb 14) (hw : hk_tw s 14 n) (hn : n < hk_mo 14) (h1 : ∀ s2, hk_add s s2 14 n [a1, a2, a3, a4, a5] → k (some (.int (nI n))) (s2, lm, hk_RH i0 i1 b, al)) : hk_Cl (d + 2) 3 [.ref 14, .int a1, .int a2, .int a3, .int a4, .int a5] (s, lm, hk_RH i0 i1 b, al) k := by
  have hco := hk_co2 ht
  have hmo := hk_mo31 ht
  have fin := hk_add_end hw h1
  refine hk_mth hk_m3 rfl rfl (n := 1000) ?_
  refine c_full ht (fun hc => absurd hc (by rw [hw.1, hw.2.2.1]; exact hk_nlt hn (by omega))) (fun _ => ?_)
  refine And.intro (fun _ => ?_) (fun hc => absurd (by decide) hc)
  have loop : ∀ (q m : Nat), m + q = hk_co 14 → ∀ s2, hk_adc s s2 14 n m (fun _ => 0) → hk_Rn (d + 1) none hk_c3 (hk_sfx 19 hk_c3) [some (.ref 14), some (.int a1), some (.int a2), some (.int a3), some (.int a4), some (.int a5), some (.int (nI n)), some (.int (nI m))] [] (s2, lm, hk_RH i0 i1 b, al) k := by
    intro q
    induction q with
    | zero =>
      intro m hm s2 h2
      have hc1 : s2 14 1 ≤ nI m := by rw [(hk_adc_tw h2 hw).2.1]; exact nI_le (by omega) (by omega)
      refine hk_hd (n := 1000) (t := 19) rfl ?_
      refine And.intro (fun _ => ?_) (fun hc => absurd hc1 hc)
      rw [show m = hk_co 14 by omega] at h2
      refine c_put_row (j := 0) ht hw hn h2 (by omega) fun s3 h3 => ?_
      refine c_put_row (j := 1) ht hw hn h3 (by omega) fun s4 h4 => ?_
      refine c_put_row (j := 2) ht hw hn h4 (by omega) fun s5 h5 => ?_
      refine c_put_row (j := 3) ht hw hn h5 (by omega) fun s6 h6 => ?_
      refine c_put_row (j := 4) ht hw hn h6 (by omega) fun s7 h7 => ?_
      exact fin s7 h7
    | succ q ih =>
      intro m hm s2 h2
      have hc1 : ¬ s2 14 1 ≤ nI m := by rw [(hk_adc_tw h2 hw).2.1]; exact hk_nlt (by omega) (by omega)
      refine hk_hd (n := 1000) (t := 19) rfl ?_
      refine And.intro (fun hc => absurd hc hc1) (fun _ => ?_)
      refine c_put_in ht (hk_adc_tw h2 hw) hn (j := m) (by omega) ?_
      have h3 := hk_adc_put (v := 0) h2 (j := m) (by omega) (Nat.le_refl m)
      rw [if_pos rfl] at h3
      refine hk_Rn_cast (by rw [← nI_1]; rfl) (ih (m + 1) (by omega) _ ⟨h3.1, fun z hz => ?_⟩)
      rw [h3.2 z hz]
      dsimp only
      split <;> rfl
  have h0 : hk_adc s s 14 n 0 (fun _ => 0) := ⟨fun _ _ _ => rfl, fun j hj => absurd hj (Nat.not_lt_zero j)⟩
  exact hk_Rn_cast (by rw [← hw.2.2.1]; rfl) (loop _ 0 (Nat.zero_add _) s h0)
theorem c_add_16 {a1 a2 a3 a4 a5 : Int32} (ht : hk_tb 16) (hw : hk_tw s 16 n) (hn : n < hk_mo 16) (h1 : ∀ s2, hk_add s s2 16 n [a1, a2, a3, a4, a5] → k (some (.int (nI n))) (s2, lm, hk_RH i0 i1 b, al)) : hk_Cl (d + 2) 3 [.ref 16, .int a1, .int a2, .int a3, .int a4, .int a5] (s, lm, hk_RH i0 i1 b, al) k := by
  have hco := hk_co2 ht
  have hmo := hk_mo31 ht
  have fin := hk_add_end hw h1
  refine hk_mth hk_m3 rfl rfl (n := 1000) ?_
  refine c_full ht (fun hc => absurd hc (by rw [hw.1, hw.2.2.1]; exact hk_nlt hn (by omega))) (fun _ => ?_)
  refine And.intro (fun _ => ?_) (fun hc => absurd (by decide) hc)
  have loop : ∀ (q m : Nat), m + q = hk_co 16 → ∀ s2, hk_adc s s2 16 n m (fun _ => 0) → hk_Rn (d + 1) none hk_c3 (hk_sfx 19 hk_c3) [some (.ref 16), some (.int a1), some (.int a2), some (.int a3), some (.int a4), some (.int a5), some (.int (nI n)), some (.int (nI m))] [] (s2, lm, hk_RH i0 i1 b, al) k := by
    intro q
    induction q with
    | zero =>
      intro m hm s2 h2
      have hc1 : s2 16 1 ≤ nI m := by rw [(hk_adc_tw h2 hw).2.1]; exact nI_le (by omega) (by omega)
      refine hk_hd (n := 1000) (t := 19) rfl ?_
      refine And.intro (fun _ => ?_) (fun hc => absurd hc1 hc)
      rw [show m = hk_co 16 by omega] at h2
      refine c_put_row (j := 0) ht hw hn h2 (by omega) fun s3 h3 => ?_
      refine c_put_row (j := 1) ht hw hn h3 (by omega) fun s4 h4 => ?_
      refine c_put_row (j := 2) ht hw hn h4 (by omega) fun s5 h5 => ?_
      refine c_put_row (j := 3) ht hw hn h5 (by omega) fun s6 h6 => ?_
      refine c_put_row (j := 4) ht hw hn h6 (by omega) fun s7 h7 => ?_
      exact fin s7 h7
    | succ q ih =>
      intro m hm s2 h2
      have hc1 : ¬ s2 16 1 ≤ nI m := by rw [(hk_adc_tw h2 hw).2.1]; exact hk_nlt (by omega) (by omega)
      refine hk_hd (n := 1000) (t := 19) rfl ?_
      refine And.intro (fun hc => absurd hc hc1) (fun _ => ?_)
      refine c_put_in ht (hk_adc_tw h2 hw) hn (j := m) (by omega) ?_
      have h3 := hk_adc_put (v := 0) h2 (j := m) (by omega) (Nat.le_refl m)
      rw [if_pos rfl] at h3
      refine hk_Rn_cast (by rw [← nI_1]; rfl) (ih (m + 1) (by omega) _ ⟨h3.1, fun z hz => ?_⟩)
      rw [h3.2 z hz]
      dsimp only
      split <;> rfl
  have h0 : hk_adc s s 16 n 0 (fun _ => 0) := ⟨fun _ _ _ => rfl, fun j hj => absurd hj (Nat.not_lt_zero j)⟩
  exact hk_Rn_cast (by rw [← hw.2.2.1]; rfl) (loop _ 0 (Nat.zero_add _) s h0)
theorem c_add_18 {a1 a2 a3 a4 a5 : Int32} (ht : hk_tb 18) (hw : hk_tw s 18 n) (hn : n < hk_mo 18) (h1 : ∀ s2, hk_add s s2 18 n [a1, a2, a3, a4, a5] → k (some (.int (nI n))) (s2, lm, hk_RH i0 i1 b, al)) : hk_Cl (d + 2) 3 [.ref 18, .int a1, .int a2, .int a3, .int a4, .int a5] (s, lm, hk_RH i0 i1 b, al) k := by
  have hco := hk_co2 ht
  have hmo := hk_mo31 ht
  have fin := hk_add_end hw h1
  refine hk_mth hk_m3 rfl rfl (n := 1000) ?_
  refine c_full ht (fun hc => absurd hc (by rw [hw.1, hw.2.2.1]; exact hk_nlt hn (by omega))) (fun _ => ?_)
  refine And.intro (fun _ => ?_) (fun hc => absurd (by decide) hc)
  have loop : ∀ (q m : Nat), m + q = hk_co 18 → ∀ s2, hk_adc s s2 18 n m (fun _ => 0) → hk_Rn (d + 1) none hk_c3 (hk_sfx 19 hk_c3) [some (.ref 18), some (.int a1), some (.int a2), some (.int a3), some (.int a4), some (.int a5), some (.int (nI n)), some (.int (nI m))] [] (s2, lm, hk_RH i0 i1 b, al) k := by
    intro q
    induction q with
    | zero =>
      intro m hm s2 h2
      have hc1 : s2 18 1 ≤ nI m := by rw [(hk_adc_tw h2 hw).2.1]; exact nI_le (by omega) (by omega)
      refine hk_hd (n := 1000) (t := 19) rfl ?_
      refine And.intro (fun _ => ?_) (fun hc => absurd hc1 hc)
      rw [show m = hk_co 18 by omega] at h2
      refine c_put_row (j := 0) ht hw hn h2 (by omega) fun s3 h3 => ?_
      refine c_put_row (j := 1) ht hw hn h3 (by omega) fun s4 h4 => ?_
      refine c_put_row (j := 2) ht hw hn h4 (by omega) fun s5 h5 => ?_
      refine c_put_row (j := 3) ht hw hn h5 (by omega) fun s6 h6 => ?_
      refine c_put_row (j := 4) ht hw hn h6 (by omega) fun s7 h7 => ?_
      exact fin s7 h7
    | succ q ih =>
      intro m hm s2 h2
      have hc1 : ¬ s2 18 1 ≤ nI m := by rw [(hk_adc_tw h2 hw).2.1]; exact hk_nlt (by omega) (by omega)
      refine hk_hd (n := 1000) (t := 19) rfl ?_
      refine And.intro (fun hc => absurd hc hc1) (fun _ => ?_)
      refine c_put_in ht (hk_adc_tw h2 hw) hn (j := m) (by omega) ?_
      have h3 := hk_adc_put (v := 0) h2 (j := m) (by omega) (Nat.le_refl m)
      rw [if_pos rfl] at h3
      refine hk_Rn_cast (by rw [← nI_1]; rfl) (ih (m + 1) (by omega) _ ⟨h3.1, fun z hz => ?_⟩)
      rw [h3.2 z hz]
      dsimp only
      split <;> rfl
  have h0 : hk_adc s s 18 n 0 (fun _ => 0) := ⟨fun _ _ _ => rfl, fun j hj => absurd hj (Nat.not_lt_zero j)⟩
  exact hk_Rn_cast (by rw [← hw.2.2.1]; rfl) (loop _ 0 (Nat.zero_add _) s h0)
theorem c_add {a1 a2 a3 a4 a5 : Int32} (ht : hk_tb t) (hw : hk_tw s t n) (hn : n < hk_mo t) (h1 : ∀ s2, hk_add s s2 t n [a1, a2, a3, a4, a5] → k (some (.int (nI n))) (s2, lm, hk_RH i0 i1 b, al)) : hk_Cl (d + 2) 3 [.ref t, .int a1, .int a2, .int a3, .int a4, .int a5] (s, lm, hk_RH i0 i1 b, al) k := by
  have ht2 := ht
  rcases ht with rfl | rfl | rfl | rfl | rfl | rfl | rfl | rfl | rfl
  · exact c_add_2 ht2 hw hn h1
  · exact c_add_4 ht2 hw hn h1
  · exact c_add_6 ht2 hw hn h1
  · exact c_add_8 ht2 hw hn h1
  · exact c_add_10 ht2 hw hn h1
  · exact c_add_12 ht2 hw hn h1
  · exact c_add_14 ht2 hw hn h1
  · exact c_add_16 ht2 hw hn h1
  · exact c_add_18 ht2 hw hn h1
end HKT
end
section
/-! ===== the small methods of both ===== -/
section HKS
variable {d : Nat} {v lo hi : Int32} {s : Nat → Nat → Int32} {lm : Nat → Nat → Int64} {i0 i1 b : Nat} {al : List Nat} {k : Option Value → hk_H → Prop} {h : hk_H}
theorem c_within (h1 : ¬ v < lo → ¬ hi < v → k (some (.int 1)) h) (h0 : v < lo ∨ hi < v → k (some (.int 0)) h) : hk_Cl (d + 1) 12 [.int v, .int lo, .int hi] h k := by
  refine hk_mth hk_m12 rfl rfl (n := 1000) ?_
  refine And.intro (fun c1 => ?_) (fun c1 => ?_)
  · exact And.intro (Or.inl rfl) (h0 (Or.inl c1))
  refine And.intro (fun c2 => ?_) (fun c2 => ?_)
  · exact And.intro (Or.inl rfl) (h0 (Or.inr c2))
  exact And.intro (Or.inr rfl) (h1 c1 c2)
theorem m_in (h1 : ¬ v < lo → ¬ hi < v → k (some (.int 1)) h) (h0 : v < lo ∨ hi < v → k (some (.int 0)) h) : hk_Cl (d + 1) 136 [.int v, .int lo, .int hi] h k := by
  refine hk_mth hk_m136 rfl rfl (n := 1000) ?_
  refine And.intro (fun c1 => ?_) (fun c1 => ?_)
  · exact And.intro (Or.inl rfl) (h0 (Or.inl c1))
  refine And.intro (fun c2 => ?_) (fun c2 => ?_)
  · exact And.intro (Or.inl rfl) (h0 (Or.inr c2))
  exact And.intro (Or.inr rfl) (h1 c1 c2)
theorem c_isMonth (h1 : ¬ v < 0 → ¬ 599 < v → k (some (.int 1)) h) (h0 : v < 0 ∨ 599 < v → k (some (.int 0)) h) : hk_Cl (d + 2) 25 [.int v] h k := by
  refine hk_mth hk_m25 rfl rfl (n := 1000) ?_
  refine c_within (fun a1 a2 => ?_) (fun a => ?_)
  · exact And.intro (Or.inr rfl) (h1 a1 a2)
  · exact And.intro (Or.inl rfl) (h0 a)
/-- the reference: row i of a kind is there -/
theorem m_is {c n : Nat} (hc : c < 7) (hs : s 41 c = nI n) (hn : n < 2 ^ 30) (h1 : ∀ j, v = nI j → j < n → k (some (.int 1)) (s, lm, hk_RH i0 i1 b, al)) (h0 : v < 0 ∨ nI n ≤ v → k (some (.int 0)) (s, lm, hk_RH i0 i1 b, al)) : hk_Cl (d + 2) 139 [.ref 40, .int (nI c), .int v] (s, lm, hk_RH i0 i1 b, al) k := by
  refine hk_mth hk_m139 rfl rfl (n := 1000) ?_
  refine hk_ldi (i := nI c) (j := c) (by simp only [hk_lit, pk_mul, nI_add]) (by omega) (by decide) hs ?_
  refine m_in (fun (a1 : ¬ v < 0) (a2 : ¬ nI n - 1 < v) => ?_) (fun (a : v < 0 ∨ nI n - 1 < v) => ?_)
  · obtain ⟨j, hj, rfl⟩ := nI_of a1
    refine And.intro (Or.inr rfl) (h1 j rfl ?_)
    by_cases hjn : j < n
    · exact hjn
    · exfalso
      refine a2 ?_
      cases n with
      | zero =>
        show nI 0 - 1 < nI j
        refine Int32.lt_iff_toInt_lt.mpr ?_
        rw [nI_toInt hj]
        show (-1 : Int) < _
        omega
      | succ n =>
        rw [nI_pred]
        exact nI_lt (by omega) hj
  · refine And.intro (Or.inl rfl) (h0 ?_)
    rcases a with a | a
    · exact Or.inl a
    · cases n with
      | zero =>
        by_cases hv : v < 0
        · exact Or.inl hv
        · exact Or.inr (Int32.not_lt.mp hv)
      | succ n =>
        rw [nI_pred] at a
        by_cases hv : v < 0
        · exact Or.inl hv
        · obtain ⟨j, hj, rfl⟩ := nI_of hv
          rw [nI_ltI (by omega) hj] at a
          exact Or.inr (nI_le (by omega) hj)
theorem m_one {c n : Nat} (hc : c < 7) (hs : s 41 c = nI n) (h1 : k (some (.int (nI n))) (hk_u2 s 41 c (nI (n + 1)), lm, hk_RH i0 i1 b, al)) : hk_Cl (d + 1) 137 [.ref 40, .int (nI c)] (s, lm, hk_RH i0 i1 b, al) k := by
  refine hk_mth hk_m137 rfl rfl (n := 1000) ?_
  refine hk_ldi (i := nI c) (j := c) (by simp only [hk_lit, pk_mul, nI_add]) (by omega) (by decide) hs ?_
  refine hk_sti2 (i := nI c) (j := c) (by simp only [hk_lit, pk_mul, nI_add]) (by omega) (by decide) (nI_1 n) ?_
  refine hk_ldi (i := nI c) (j := c) (by simp only [hk_lit, pk_mul, nI_add]) (by omega) (by decide) (hk_u2s : hk_u2 s 41 c (nI (n + 1)) 41 c = _) ?_
  have h1 : k (some (.int (nI (n + 1) - 1))) (hk_u2 s 41 c (nI (n + 1)), lm, hk_RH i0 i1 b, al) := by rw [nI_pred]; exact h1
  exact h1
theorem m_puts {j : Nat} (hj : j < 2448) (h1 : k (some (.int (s 41 j))) (hk_u2 s 41 j v, lm, hk_RH i0 i1 b, al)) : hk_Cl (d + 1) 144 [.ref 40, .int (nI j), .int v] (s, lm, hk_RH i0 i1 b, al) k := by
  refine hk_mth hk_m144 rfl rfl (n := 1000) ?_
  refine hk_ldi (i := nI j) (j := j) (by simp only [hk_lit, pk_mul, nI_add]) (by omega) (by decide) rfl ?_
  refine hk_sti (i := nI j) (j := j) (by simp only [hk_lit, pk_mul, nI_add]) (by omega) (by decide) ?_
  exact h1
end HKS
end
section
/-! ===== calls of single numbers, both sides ===== -/
section HKA
variable {d : Nat} {v z : Int32} {s : Nat → Nat → Int32} {lm : Nat → Nat → Int64} {i0 i1 b : Nat} {al : List Nat} {k : Option Value → hk_H → Prop}
theorem c_wear (hb : z < 0 ∨ 2 < z ∨ v < 0 ∨ 50 < v → k (some (.int (-2))) (s, lm, hk_RH i0 i1 b, al)) (hg : ∀ j, z = nI j → j < 3 → ¬ v < 0 → ¬ 50 < v → k (some (.int (s 20 j))) (hk_u2 s 20 j v, lm, hk_RH i0 i1 b, al)) : hk_Cl (d + 2) 19 [.ref 0, .int z, .int v] (s, lm, hk_RH i0 i1 b, al) k := by
  refine hk_mth hk_m19 rfl rfl (n := 1000) ?_
  refine c_within (fun (a1 : ¬ z < 0) (a2 : ¬ 2 < z) => ?_) (fun (a : z < 0 ∨ 2 < z) => ?_)
  · refine And.intro (fun hc => absurd hc (by decide)) (fun _ => ?_)
    refine c_within (fun (a3 : ¬ v < 0) (a4 : ¬ 50 < v) => ?_) (fun (a : v < 0 ∨ 50 < v) => ?_)
    · refine And.intro (fun _ => ?_) (fun hc => absurd (by decide) hc)
      obtain ⟨j, hj, rfl⟩ := hk_rng (n := 2) (by decide) a1 a2
      refine hk_ldi (i := nI j) (j := j) (by simp only [hk_lit, pk_mul, nI_add]) (by omega) (by decide) rfl ?_
      refine hk_sti (i := nI j) (j := j) (by simp only [hk_lit, pk_mul, nI_add]) (by omega) (by decide) ?_
      exact hg j rfl (by omega) a3 a4
    · refine And.intro (fun hc => absurd hc (by decide)) (fun _ => ?_)
      exact hb (Or.inr (Or.inr a))
  · refine And.intro (fun _ => ?_) (fun hc => absurd (by decide) hc)
    exact hb (a.elim Or.inl (fun q => Or.inr (Or.inl q)))
theorem m_wear (hb : z < 0 ∨ 2 < z ∨ v < 0 ∨ 50 < v → k (some (.int (-2))) (s, lm, hk_RH i0 i1 b, al)) (hg : ∀ j, z = nI j → j < 3 → ¬ v < 0 → ¬ 50 < v → k (some (.int (s 41 (12 + j)))) (hk_u2 s 41 (12 + j) v, lm, hk_RH i0 i1 b, al)) : hk_Cl (d + 2) 143 [.ref 40, .int z, .int v] (s, lm, hk_RH i0 i1 b, al) k := by
  refine hk_mth hk_m143 rfl rfl (n := 1000) ?_
  refine m_in (fun (a1 : ¬ z < 0) (a2 : ¬ 2 < z) => ?_) (fun (a : z < 0 ∨ 2 < z) => ?_)
  · refine And.intro (fun hc => absurd hc (by decide)) (fun _ => ?_)
    refine m_in (fun (a3 : ¬ v < 0) (a4 : ¬ 50 < v) => ?_) (fun (a : v < 0 ∨ 50 < v) => ?_)
    · refine And.intro (fun hc => absurd hc (by decide)) (fun _ => ?_)
      obtain ⟨j, hj, rfl⟩ := hk_rng (n := 2) (by decide) a1 a2
      refine hk_Cl_arg (hk_v3 (show (12 : Int32) + nI j = nI (12 + j) from nI_add 12 j)) ?_
      exact m_puts (by omega) (hg j rfl (by omega) a3 a4)
    · refine And.intro (fun _ => ?_) (fun hc => absurd (by decide) hc)
      exact hb (Or.inr (Or.inr a))
  · refine And.intro (fun _ => ?_) (fun hc => absurd (by decide) hc)
    exact hb (a.elim Or.inl (fun q => Or.inr (Or.inl q)))
end HKA
end
section
theorem i_vc : Claimed_1_1 ∧ Claimed_1_2 := sorry
end
